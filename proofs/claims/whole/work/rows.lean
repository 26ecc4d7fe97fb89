section
-- ===== PART A: goes FIRST, ahead of the names: the tables' words, and 'selects' of the private methods out of them =====
/-- a private method of a class that the tables say can be made, by its rows of tables_1 -/
def lw_okq (q : MethodName × Nat) : Prop := (q.1.cls ≠ "java/lang/invoke/MethodHandle" ∧ q.1.cls ≠ "java/lang/invoke/VarHandle") ∧ Cond.instantiable q.1.cls q.2 ∈ tables_1 ∧ Cond.privateMethod q.1 ∈ tables_1 ∧ Cond.instanceMethod q.1 ∈ tables_1
theorem lw_p0 : lw_okq (⟨"RelayHouse$Pen", "open", "(II)V"⟩, 2) := ⟨⟨by decide +kernel, by decide +kernel⟩, List.mem_of_getElem? (i := 79) (by decide +kernel), List.mem_of_getElem? (i := 421) (by decide +kernel), List.mem_of_getElem? (i := 422) (by decide +kernel)⟩
theorem lw_p1 : lw_okq (⟨"RelayHouse$Pen", "close", "(I)V"⟩, 2) := ⟨⟨by decide +kernel, by decide +kernel⟩, List.mem_of_getElem? (i := 79) (by decide +kernel), List.mem_of_getElem? (i := 429) (by decide +kernel), List.mem_of_getElem? (i := 430) (by decide +kernel)⟩
theorem lw_p2 : lw_okq (⟨"RelayHouse$Sha", "spread", "()V"⟩, 2) := ⟨⟨by decide +kernel, by decide +kernel⟩, List.mem_of_getElem? (i := 50) (by decide +kernel), List.mem_of_getElem? (i := 511) (by decide +kernel), List.mem_of_getElem? (i := 512) (by decide +kernel)⟩
theorem lw_p3 : lw_okq (⟨"RelayHouse$Sha", "stir", "()V"⟩, 2) := ⟨⟨by decide +kernel, by decide +kernel⟩, List.mem_of_getElem? (i := 50) (by decide +kernel), List.mem_of_getElem? (i := 515) (by decide +kernel), List.mem_of_getElem? (i := 516) (by decide +kernel)⟩
theorem lw_p4 : lw_okq (⟨"RelayHouse$Seal", "startWithKey", "(I)V"⟩, 4) := ⟨⟨by decide +kernel, by decide +kernel⟩, List.mem_of_getElem? (i := 44) (by decide +kernel), List.mem_of_getElem? (i := 530) (by decide +kernel), List.mem_of_getElem? (i := 531) (by decide +kernel)⟩
theorem lw_p5 : lw_okq (⟨"RelayHouse$Server", "isChannelData", "()Z"⟩, 15) := ⟨⟨by decide +kernel, by decide +kernel⟩, List.mem_of_getElem? (i := 283) (by decide +kernel), List.mem_of_getElem? (i := 662) (by decide +kernel), List.mem_of_getElem? (i := 663) (by decide +kernel)⟩
theorem lw_p6 : lw_okq (⟨"RelayHouse$Server", "relayChannelData", "()V"⟩, 15) := ⟨⟨by decide +kernel, by decide +kernel⟩, List.mem_of_getElem? (i := 283) (by decide +kernel), List.mem_of_getElem? (i := 674) (by decide +kernel), List.mem_of_getElem? (i := 675) (by decide +kernel)⟩
theorem lw_p7 : lw_okq (⟨"RelayHouse$Server", "relay", "(LRelayHouse$Allocation;IIII)V"⟩, 15) := ⟨⟨by decide +kernel, by decide +kernel⟩, List.mem_of_getElem? (i := 283) (by decide +kernel), List.mem_of_getElem? (i := 690) (by decide +kernel), List.mem_of_getElem? (i := 691) (by decide +kernel)⟩
theorem lw_p8 : lw_okq (⟨"RelayHouse$Allocation", "permissionOf", "(I)I"⟩, 16) := ⟨⟨by decide +kernel, by decide +kernel⟩, List.mem_of_getElem? (i := 142) (by decide +kernel), List.mem_of_getElem? (i := 698) (by decide +kernel), List.mem_of_getElem? (i := 699) (by decide +kernel)⟩
theorem lw_p9 : lw_okq (⟨"RelayHouse$Letter", "readAttributes", "()Z"⟩, 10) := ⟨⟨by decide +kernel, by decide +kernel⟩, List.mem_of_getElem? (i := 223) (by decide +kernel), List.mem_of_getElem? (i := 720) (by decide +kernel), List.mem_of_getElem? (i := 721) (by decide +kernel)⟩
theorem lw_p10 : lw_okq (⟨"RelayHouse$Server", "answer", "(I)V"⟩, 15) := ⟨⟨by decide +kernel, by decide +kernel⟩, List.mem_of_getElem? (i := 283) (by decide +kernel), List.mem_of_getElem? (i := 757) (by decide +kernel), List.mem_of_getElem? (i := 758) (by decide +kernel)⟩
theorem lw_p11 : lw_okq (⟨"RelayHouse$Server", "accessError", "(I)I"⟩, 15) := ⟨⟨by decide +kernel, by decide +kernel⟩, List.mem_of_getElem? (i := 283) (by decide +kernel), List.mem_of_getElem? (i := 772) (by decide +kernel), List.mem_of_getElem? (i := 773) (by decide +kernel)⟩
theorem lw_p12 : lw_okq (⟨"RelayHouse$Server", "isWordAt", "(IJ)Z"⟩, 15) := ⟨⟨by decide +kernel, by decide +kernel⟩, List.mem_of_getElem? (i := 283) (by decide +kernel), List.mem_of_getElem? (i := 793) (by decide +kernel), List.mem_of_getElem? (i := 794) (by decide +kernel)⟩
theorem lw_p13 : lw_okq (⟨"RelayHouse$Server", "perform", "(I)I"⟩, 15) := ⟨⟨by decide +kernel, by decide +kernel⟩, List.mem_of_getElem? (i := 283) (by decide +kernel), List.mem_of_getElem? (i := 811) (by decide +kernel), List.mem_of_getElem? (i := 812) (by decide +kernel)⟩
theorem lw_p14 : lw_okq (⟨"RelayHouse$Server", "allocate", "()I"⟩, 15) := ⟨⟨by decide +kernel, by decide +kernel⟩, List.mem_of_getElem? (i := 283) (by decide +kernel), List.mem_of_getElem? (i := 815) (by decide +kernel), List.mem_of_getElem? (i := 816) (by decide +kernel)⟩
theorem lw_p15 : lw_okq (⟨"RelayHouse$Server", "lifetime", "()J"⟩, 15) := ⟨⟨by decide +kernel, by decide +kernel⟩, List.mem_of_getElem? (i := 283) (by decide +kernel), List.mem_of_getElem? (i := 854) (by decide +kernel), List.mem_of_getElem? (i := 855) (by decide +kernel)⟩
def lw_privs_1 : List (MethodName × Nat) := [(⟨"RelayHouse$Pen", "open", "(II)V"⟩, 2), (⟨"RelayHouse$Pen", "close", "(I)V"⟩, 2), (⟨"RelayHouse$Sha", "spread", "()V"⟩, 2), (⟨"RelayHouse$Sha", "stir", "()V"⟩, 2), (⟨"RelayHouse$Seal", "startWithKey", "(I)V"⟩, 4), (⟨"RelayHouse$Server", "isChannelData", "()Z"⟩, 15), (⟨"RelayHouse$Server", "relayChannelData", "()V"⟩, 15), (⟨"RelayHouse$Server", "relay", "(LRelayHouse$Allocation;IIII)V"⟩, 15), (⟨"RelayHouse$Allocation", "permissionOf", "(I)I"⟩, 16), (⟨"RelayHouse$Letter", "readAttributes", "()Z"⟩, 10), (⟨"RelayHouse$Server", "answer", "(I)V"⟩, 15), (⟨"RelayHouse$Server", "accessError", "(I)I"⟩, 15), (⟨"RelayHouse$Server", "isWordAt", "(IJ)Z"⟩, 15), (⟨"RelayHouse$Server", "perform", "(I)I"⟩, 15), (⟨"RelayHouse$Server", "allocate", "()I"⟩, 15), (⟨"RelayHouse$Server", "lifetime", "()J"⟩, 15)]
theorem lw_r1 : ∀ q ∈ lw_privs_1, lw_okq q := List.forall_mem_cons.mpr ⟨lw_p0, List.forall_mem_cons.mpr ⟨lw_p1, List.forall_mem_cons.mpr ⟨lw_p2, List.forall_mem_cons.mpr ⟨lw_p3, List.forall_mem_cons.mpr ⟨lw_p4, List.forall_mem_cons.mpr ⟨lw_p5, List.forall_mem_cons.mpr ⟨lw_p6, List.forall_mem_cons.mpr ⟨lw_p7, List.forall_mem_cons.mpr ⟨lw_p8, List.forall_mem_cons.mpr ⟨lw_p9, List.forall_mem_cons.mpr ⟨lw_p10, List.forall_mem_cons.mpr ⟨lw_p11, List.forall_mem_cons.mpr ⟨lw_p12, List.forall_mem_cons.mpr ⟨lw_p13, List.forall_mem_cons.mpr ⟨lw_p14, List.forall_mem_cons.mpr ⟨lw_p15, fun _ h => absurd h List.not_mem_nil⟩⟩⟩⟩⟩⟩⟩⟩⟩⟩⟩⟩⟩⟩⟩⟩
theorem lw_p16 : lw_okq (⟨"RelayHouse$Server", "refresh", "(LRelayHouse$Allocation;)I"⟩, 15) := ⟨⟨by decide +kernel, by decide +kernel⟩, List.mem_of_getElem? (i := 283) (by decide +kernel), List.mem_of_getElem? (i := 866) (by decide +kernel), List.mem_of_getElem? (i := 867) (by decide +kernel)⟩
theorem lw_p17 : lw_okq (⟨"RelayHouse$Server", "permitPeers", "(LRelayHouse$Allocation;)I"⟩, 15) := ⟨⟨by decide +kernel, by decide +kernel⟩, List.mem_of_getElem? (i := 283) (by decide +kernel), List.mem_of_getElem? (i := 870) (by decide +kernel), List.mem_of_getElem? (i := 871) (by decide +kernel)⟩
theorem lw_p18 : lw_okq (⟨"RelayHouse$Server", "bindChannel", "(LRelayHouse$Allocation;)I"⟩, 15) := ⟨⟨by decide +kernel, by decide +kernel⟩, List.mem_of_getElem? (i := 283) (by decide +kernel), List.mem_of_getElem? (i := 892) (by decide +kernel), List.mem_of_getElem? (i := 893) (by decide +kernel)⟩
theorem lw_p19 : lw_okq (⟨"RelayHouse$Server", "writeTold", "(I)V"⟩, 15) := ⟨⟨by decide +kernel, by decide +kernel⟩, List.mem_of_getElem? (i := 283) (by decide +kernel), List.mem_of_getElem? (i := 921) (by decide +kernel), List.mem_of_getElem? (i := 922) (by decide +kernel)⟩
theorem lw_p20 : lw_okq (⟨"RelayHouse$Server", "writeError", "(I)V"⟩, 15) := ⟨⟨by decide +kernel, by decide +kernel⟩, List.mem_of_getElem? (i := 283) (by decide +kernel), List.mem_of_getElem? (i := 932) (by decide +kernel), List.mem_of_getElem? (i := 933) (by decide +kernel)⟩
theorem lw_p21 : lw_okq (⟨"RelayHouse$Server", "relaySend", "()V"⟩, 15) := ⟨⟨by decide +kernel, by decide +kernel⟩, List.mem_of_getElem? (i := 283) (by decide +kernel), List.mem_of_getElem? (i := 946) (by decide +kernel), List.mem_of_getElem? (i := 947) (by decide +kernel)⟩
theorem lw_p22 : lw_okq (⟨"RelayHouse$Server", "writeChannelData", "(I)V"⟩, 15) := ⟨⟨by decide +kernel, by decide +kernel⟩, List.mem_of_getElem? (i := 283) (by decide +kernel), List.mem_of_getElem? (i := 969) (by decide +kernel), List.mem_of_getElem? (i := 970) (by decide +kernel)⟩
theorem lw_p23 : lw_okq (⟨"RelayHouse$Server", "writeIndication", "(II)V"⟩, 15) := ⟨⟨by decide +kernel, by decide +kernel⟩, List.mem_of_getElem? (i := 283) (by decide +kernel), List.mem_of_getElem? (i := 974) (by decide +kernel), List.mem_of_getElem? (i := 975) (by decide +kernel)⟩
theorem lw_p24 : lw_okq (⟨"RelayHouse$Letter", "isAddress", "(I)Z"⟩, 10) := ⟨⟨by decide +kernel, by decide +kernel⟩, List.mem_of_getElem? (i := 223) (by decide +kernel), List.mem_of_getElem? (i := 1023) (by decide +kernel), List.mem_of_getElem? (i := 1024) (by decide +kernel)⟩
theorem lw_p25 : lw_okq (⟨"RelayHouse$Letter", "errorOf", "(I)I"⟩, 10) := ⟨⟨by decide +kernel, by decide +kernel⟩, List.mem_of_getElem? (i := 223) (by decide +kernel), List.mem_of_getElem? (i := 1029) (by decide +kernel), List.mem_of_getElem? (i := 1030) (by decide +kernel)⟩
theorem lw_p26 : lw_okq (⟨"RelayHouseModel", "fraction", "(II)I"⟩, 68) := ⟨⟨by decide +kernel, by decide +kernel⟩, List.mem_of_getElem? (i := 1070) (by decide +kernel), List.mem_of_getElem? (i := 1076) (by decide +kernel), List.mem_of_getElem? (i := 1077) (by decide +kernel)⟩
theorem lw_p27 : lw_okq (⟨"RelayHouseModel", "times", "(J)V"⟩, 68) := ⟨⟨by decide +kernel, by decide +kernel⟩, List.mem_of_getElem? (i := 1070) (by decide +kernel), List.mem_of_getElem? (i := 1082) (by decide +kernel), List.mem_of_getElem? (i := 1083) (by decide +kernel)⟩
theorem lw_p28 : lw_okq (⟨"RelayHouseModel", "isAbove", "(II)Z"⟩, 68) := ⟨⟨by decide +kernel, by decide +kernel⟩, List.mem_of_getElem? (i := 1070) (by decide +kernel), List.mem_of_getElem? (i := 1087) (by decide +kernel), List.mem_of_getElem? (i := 1088) (by decide +kernel)⟩
theorem lw_p29 : lw_okq (⟨"RelayHouseModel", "begins", "(II)Z"⟩, 68) := ⟨⟨by decide +kernel, by decide +kernel⟩, List.mem_of_getElem? (i := 1070) (by decide +kernel), List.mem_of_getElem? (i := 1324) (by decide +kernel), List.mem_of_getElem? (i := 1325) (by decide +kernel)⟩
theorem lw_p30 : lw_okq (⟨"RelayHouseModel", "addLetters", "(J)V"⟩, 68) := ⟨⟨by decide +kernel, by decide +kernel⟩, List.mem_of_getElem? (i := 1070) (by decide +kernel), List.mem_of_getElem? (i := 1332) (by decide +kernel), List.mem_of_getElem? (i := 1333) (by decide +kernel)⟩
theorem lw_p31 : lw_okq (⟨"RelayHouseModel", "isName", "(J)Z"⟩, 68) := ⟨⟨by decide +kernel, by decide +kernel⟩, List.mem_of_getElem? (i := 1070) (by decide +kernel), List.mem_of_getElem? (i := 1351) (by decide +kernel), List.mem_of_getElem? (i := 1352) (by decide +kernel)⟩
def lw_privs_2 : List (MethodName × Nat) := [(⟨"RelayHouse$Server", "refresh", "(LRelayHouse$Allocation;)I"⟩, 15), (⟨"RelayHouse$Server", "permitPeers", "(LRelayHouse$Allocation;)I"⟩, 15), (⟨"RelayHouse$Server", "bindChannel", "(LRelayHouse$Allocation;)I"⟩, 15), (⟨"RelayHouse$Server", "writeTold", "(I)V"⟩, 15), (⟨"RelayHouse$Server", "writeError", "(I)V"⟩, 15), (⟨"RelayHouse$Server", "relaySend", "()V"⟩, 15), (⟨"RelayHouse$Server", "writeChannelData", "(I)V"⟩, 15), (⟨"RelayHouse$Server", "writeIndication", "(II)V"⟩, 15), (⟨"RelayHouse$Letter", "isAddress", "(I)Z"⟩, 10), (⟨"RelayHouse$Letter", "errorOf", "(I)I"⟩, 10), (⟨"RelayHouseModel", "fraction", "(II)I"⟩, 68), (⟨"RelayHouseModel", "times", "(J)V"⟩, 68), (⟨"RelayHouseModel", "isAbove", "(II)Z"⟩, 68), (⟨"RelayHouseModel", "begins", "(II)Z"⟩, 68), (⟨"RelayHouseModel", "addLetters", "(J)V"⟩, 68), (⟨"RelayHouseModel", "isName", "(J)Z"⟩, 68)]
theorem lw_r2 : ∀ q ∈ lw_privs_2, lw_okq q := List.forall_mem_cons.mpr ⟨lw_p16, List.forall_mem_cons.mpr ⟨lw_p17, List.forall_mem_cons.mpr ⟨lw_p18, List.forall_mem_cons.mpr ⟨lw_p19, List.forall_mem_cons.mpr ⟨lw_p20, List.forall_mem_cons.mpr ⟨lw_p21, List.forall_mem_cons.mpr ⟨lw_p22, List.forall_mem_cons.mpr ⟨lw_p23, List.forall_mem_cons.mpr ⟨lw_p24, List.forall_mem_cons.mpr ⟨lw_p25, List.forall_mem_cons.mpr ⟨lw_p26, List.forall_mem_cons.mpr ⟨lw_p27, List.forall_mem_cons.mpr ⟨lw_p28, List.forall_mem_cons.mpr ⟨lw_p29, List.forall_mem_cons.mpr ⟨lw_p30, List.forall_mem_cons.mpr ⟨lw_p31, fun _ h => absurd h List.not_mem_nil⟩⟩⟩⟩⟩⟩⟩⟩⟩⟩⟩⟩⟩⟩⟩⟩
theorem lw_p32 : lw_okq (⟨"RelayHouseModel", "makeKey", "(JJ)V"⟩, 68) := ⟨⟨by decide +kernel, by decide +kernel⟩, List.mem_of_getElem? (i := 1070) (by decide +kernel), List.mem_of_getElem? (i := 1357) (by decide +kernel), List.mem_of_getElem? (i := 1358) (by decide +kernel)⟩
theorem lw_p33 : lw_okq (⟨"RelayHouseModel", "hashBegin", "()V"⟩, 68) := ⟨⟨by decide +kernel, by decide +kernel⟩, List.mem_of_getElem? (i := 1070) (by decide +kernel), List.mem_of_getElem? (i := 1361) (by decide +kernel), List.mem_of_getElem? (i := 1362) (by decide +kernel)⟩
theorem lw_p34 : lw_okq (⟨"RelayHouseModel", "hashLong", "(J)V"⟩, 68) := ⟨⟨by decide +kernel, by decide +kernel⟩, List.mem_of_getElem? (i := 1070) (by decide +kernel), List.mem_of_getElem? (i := 1365) (by decide +kernel), List.mem_of_getElem? (i := 1366) (by decide +kernel)⟩
theorem lw_p35 : lw_okq (⟨"RelayHouseModel", "hash", "(I)V"⟩, 68) := ⟨⟨by decide +kernel, by decide +kernel⟩, List.mem_of_getElem? (i := 1070) (by decide +kernel), List.mem_of_getElem? (i := 1369) (by decide +kernel), List.mem_of_getElem? (i := 1370) (by decide +kernel)⟩
theorem lw_p36 : lw_okq (⟨"RelayHouseModel", "rounds", "()V"⟩, 68) := ⟨⟨by decide +kernel, by decide +kernel⟩, List.mem_of_getElem? (i := 1070) (by decide +kernel), List.mem_of_getElem? (i := 1376) (by decide +kernel), List.mem_of_getElem? (i := 1377) (by decide +kernel)⟩
theorem lw_p37 : lw_okq (⟨"RelayHouseModel", "hashEnd", "()V"⟩, 68) := ⟨⟨by decide +kernel, by decide +kernel⟩, List.mem_of_getElem? (i := 1070) (by decide +kernel), List.mem_of_getElem? (i := 1380) (by decide +kernel), List.mem_of_getElem? (i := 1381) (by decide +kernel)⟩
theorem lw_p38 : lw_okq (⟨"RelayHouseModel", "authenticate", "([II)V"⟩, 68) := ⟨⟨by decide +kernel, by decide +kernel⟩, List.mem_of_getElem? (i := 1070) (by decide +kernel), List.mem_of_getElem? (i := 1385) (by decide +kernel), List.mem_of_getElem? (i := 1386) (by decide +kernel)⟩
theorem lw_p39 : lw_okq (⟨"RelayHouseModel", "userOf", "(J)I"⟩, 68) := ⟨⟨by decide +kernel, by decide +kernel⟩, List.mem_of_getElem? (i := 1070) (by decide +kernel), List.mem_of_getElem? (i := 1415) (by decide +kernel), List.mem_of_getElem? (i := 1416) (by decide +kernel)⟩
theorem lw_p40 : lw_okq (⟨"RelayHouseModel", "sweep", "()I"⟩, 68) := ⟨⟨by decide +kernel, by decide +kernel⟩, List.mem_of_getElem? (i := 1070) (by decide +kernel), List.mem_of_getElem? (i := 1441) (by decide +kernel), List.mem_of_getElem? (i := 1442) (by decide +kernel)⟩
theorem lw_p41 : lw_okq (⟨"RelayHouseModel", "sweepChannels", "(I)V"⟩, 68) := ⟨⟨by decide +kernel, by decide +kernel⟩, List.mem_of_getElem? (i := 1070) (by decide +kernel), List.mem_of_getElem? (i := 1445) (by decide +kernel), List.mem_of_getElem? (i := 1446) (by decide +kernel)⟩
theorem lw_p42 : lw_okq (⟨"RelayHouseModel", "none", "()V"⟩, 68) := ⟨⟨by decide +kernel, by decide +kernel⟩, List.mem_of_getElem? (i := 1070) (by decide +kernel), List.mem_of_getElem? (i := 1453) (by decide +kernel), List.mem_of_getElem? (i := 1454) (by decide +kernel)⟩
theorem lw_p43 : lw_okq (⟨"RelayHouseModel", "isChannelData", "()Z"⟩, 68) := ⟨⟨by decide +kernel, by decide +kernel⟩, List.mem_of_getElem? (i := 1070) (by decide +kernel), List.mem_of_getElem? (i := 1457) (by decide +kernel), List.mem_of_getElem? (i := 1458) (by decide +kernel)⟩
theorem lw_p44 : lw_okq (⟨"RelayHouseModel", "allocationOf", "(II)I"⟩, 68) := ⟨⟨by decide +kernel, by decide +kernel⟩, List.mem_of_getElem? (i := 1070) (by decide +kernel), List.mem_of_getElem? (i := 1467) (by decide +kernel), List.mem_of_getElem? (i := 1468) (by decide +kernel)⟩
theorem lw_p45 : lw_okq (⟨"RelayHouseModel", "relay", "(I)V"⟩, 68) := ⟨⟨by decide +kernel, by decide +kernel⟩, List.mem_of_getElem? (i := 1070) (by decide +kernel), List.mem_of_getElem? (i := 1471) (by decide +kernel), List.mem_of_getElem? (i := 1472) (by decide +kernel)⟩
theorem lw_p46 : lw_okq (⟨"RelayHouseModel", "channelOf", "(II)I"⟩, 68) := ⟨⟨by decide +kernel, by decide +kernel⟩, List.mem_of_getElem? (i := 1070) (by decide +kernel), List.mem_of_getElem? (i := 1475) (by decide +kernel), List.mem_of_getElem? (i := 1476) (by decide +kernel)⟩
theorem lw_p47 : lw_okq (⟨"RelayHouseModel", "permissionOf", "(II)I"⟩, 68) := ⟨⟨by decide +kernel, by decide +kernel⟩, List.mem_of_getElem? (i := 1070) (by decide +kernel), List.mem_of_getElem? (i := 1479) (by decide +kernel), List.mem_of_getElem? (i := 1480) (by decide +kernel)⟩
def lw_privs_3 : List (MethodName × Nat) := [(⟨"RelayHouseModel", "makeKey", "(JJ)V"⟩, 68), (⟨"RelayHouseModel", "hashBegin", "()V"⟩, 68), (⟨"RelayHouseModel", "hashLong", "(J)V"⟩, 68), (⟨"RelayHouseModel", "hash", "(I)V"⟩, 68), (⟨"RelayHouseModel", "rounds", "()V"⟩, 68), (⟨"RelayHouseModel", "hashEnd", "()V"⟩, 68), (⟨"RelayHouseModel", "authenticate", "([II)V"⟩, 68), (⟨"RelayHouseModel", "userOf", "(J)I"⟩, 68), (⟨"RelayHouseModel", "sweep", "()I"⟩, 68), (⟨"RelayHouseModel", "sweepChannels", "(I)V"⟩, 68), (⟨"RelayHouseModel", "none", "()V"⟩, 68), (⟨"RelayHouseModel", "isChannelData", "()Z"⟩, 68), (⟨"RelayHouseModel", "allocationOf", "(II)I"⟩, 68), (⟨"RelayHouseModel", "relay", "(I)V"⟩, 68), (⟨"RelayHouseModel", "channelOf", "(II)I"⟩, 68), (⟨"RelayHouseModel", "permissionOf", "(II)I"⟩, 68)]
theorem lw_r3 : ∀ q ∈ lw_privs_3, lw_okq q := List.forall_mem_cons.mpr ⟨lw_p32, List.forall_mem_cons.mpr ⟨lw_p33, List.forall_mem_cons.mpr ⟨lw_p34, List.forall_mem_cons.mpr ⟨lw_p35, List.forall_mem_cons.mpr ⟨lw_p36, List.forall_mem_cons.mpr ⟨lw_p37, List.forall_mem_cons.mpr ⟨lw_p38, List.forall_mem_cons.mpr ⟨lw_p39, List.forall_mem_cons.mpr ⟨lw_p40, List.forall_mem_cons.mpr ⟨lw_p41, List.forall_mem_cons.mpr ⟨lw_p42, List.forall_mem_cons.mpr ⟨lw_p43, List.forall_mem_cons.mpr ⟨lw_p44, List.forall_mem_cons.mpr ⟨lw_p45, List.forall_mem_cons.mpr ⟨lw_p46, List.forall_mem_cons.mpr ⟨lw_p47, fun _ h => absurd h List.not_mem_nil⟩⟩⟩⟩⟩⟩⟩⟩⟩⟩⟩⟩⟩⟩⟩⟩
theorem lw_p48 : lw_okq (⟨"RelayHouseModel", "sendsOn", "(IIIII)V"⟩, 68) := ⟨⟨by decide +kernel, by decide +kernel⟩, List.mem_of_getElem? (i := 1070) (by decide +kernel), List.mem_of_getElem? (i := 1483) (by decide +kernel), List.mem_of_getElem? (i := 1484) (by decide +kernel)⟩
theorem lw_p49 : lw_okq (⟨"RelayHouseModel", "goes", "(III)V"⟩, 68) := ⟨⟨by decide +kernel, by decide +kernel⟩, List.mem_of_getElem? (i := 1070) (by decide +kernel), List.mem_of_getElem? (i := 1487) (by decide +kernel), List.mem_of_getElem? (i := 1488) (by decide +kernel)⟩
theorem lw_p50 : lw_okq (⟨"RelayHouseModel", "isMessage", "([II)Z"⟩, 68) := ⟨⟨by decide +kernel, by decide +kernel⟩, List.mem_of_getElem? (i := 1070) (by decide +kernel), List.mem_of_getElem? (i := 1491) (by decide +kernel), List.mem_of_getElem? (i := 1492) (by decide +kernel)⟩
theorem lw_p51 : lw_okq (⟨"RelayHouseModel", "take", "(III)V"⟩, 68) := ⟨⟨by decide +kernel, by decide +kernel⟩, List.mem_of_getElem? (i := 1070) (by decide +kernel), List.mem_of_getElem? (i := 1498) (by decide +kernel), List.mem_of_getElem? (i := 1499) (by decide +kernel)⟩
theorem lw_p52 : lw_okq (⟨"RelayHouseModel", "comes", "()V"⟩, 68) := ⟨⟨by decide +kernel, by decide +kernel⟩, List.mem_of_getElem? (i := 1070) (by decide +kernel), List.mem_of_getElem? (i := 1502) (by decide +kernel), List.mem_of_getElem? (i := 1503) (by decide +kernel)⟩
theorem lw_p53 : lw_okq (⟨"RelayHouseModel", "findStrange", "()V"⟩, 68) := ⟨⟨by decide +kernel, by decide +kernel⟩, List.mem_of_getElem? (i := 1070) (by decide +kernel), List.mem_of_getElem? (i := 1509) (by decide +kernel), List.mem_of_getElem? (i := 1510) (by decide +kernel)⟩
theorem lw_p54 : lw_okq (⟨"RelayHouseModel", "sends", "()V"⟩, 68) := ⟨⟨by decide +kernel, by decide +kernel⟩, List.mem_of_getElem? (i := 1070) (by decide +kernel), List.mem_of_getElem? (i := 1520) (by decide +kernel), List.mem_of_getElem? (i := 1521) (by decide +kernel)⟩
theorem lw_p55 : lw_okq (⟨"RelayHouseModel", "first", "(I)I"⟩, 68) := ⟨⟨by decide +kernel, by decide +kernel⟩, List.mem_of_getElem? (i := 1070) (by decide +kernel), List.mem_of_getElem? (i := 1524) (by decide +kernel), List.mem_of_getElem? (i := 1525) (by decide +kernel)⟩
theorem lw_p56 : lw_okq (⟨"RelayHouseModel", "counts", "(I)Z"⟩, 68) := ⟨⟨by decide +kernel, by decide +kernel⟩, List.mem_of_getElem? (i := 1070) (by decide +kernel), List.mem_of_getElem? (i := 1528) (by decide +kernel), List.mem_of_getElem? (i := 1529) (by decide +kernel)⟩
theorem lw_p57 : lw_okq (⟨"RelayHouseModel", "isAddress", "(I)Z"⟩, 68) := ⟨⟨by decide +kernel, by decide +kernel⟩, List.mem_of_getElem? (i := 1070) (by decide +kernel), List.mem_of_getElem? (i := 1532) (by decide +kernel), List.mem_of_getElem? (i := 1533) (by decide +kernel)⟩
theorem lw_p58 : lw_okq (⟨"RelayHouseModel", "ipOf", "(I)I"⟩, 68) := ⟨⟨by decide +kernel, by decide +kernel⟩, List.mem_of_getElem? (i := 1070) (by decide +kernel), List.mem_of_getElem? (i := 1536) (by decide +kernel), List.mem_of_getElem? (i := 1537) (by decide +kernel)⟩
theorem lw_p59 : lw_okq (⟨"RelayHouseModel", "portOf", "(I)I"⟩, 68) := ⟨⟨by decide +kernel, by decide +kernel⟩, List.mem_of_getElem? (i := 1070) (by decide +kernel), List.mem_of_getElem? (i := 1540) (by decide +kernel), List.mem_of_getElem? (i := 1541) (by decide +kernel)⟩
theorem lw_p60 : lw_okq (⟨"RelayHouseModel", "binds", "()V"⟩, 68) := ⟨⟨by decide +kernel, by decide +kernel⟩, List.mem_of_getElem? (i := 1070) (by decide +kernel), List.mem_of_getElem? (i := 1544) (by decide +kernel), List.mem_of_getElem? (i := 1545) (by decide +kernel)⟩
theorem lw_p61 : lw_okq (⟨"RelayHouseModel", "error", "(I)V"⟩, 68) := ⟨⟨by decide +kernel, by decide +kernel⟩, List.mem_of_getElem? (i := 1070) (by decide +kernel), List.mem_of_getElem? (i := 1548) (by decide +kernel), List.mem_of_getElem? (i := 1549) (by decide +kernel)⟩
theorem lw_p62 : lw_okq (⟨"RelayHouseModel", "answers", "(II)V"⟩, 68) := ⟨⟨by decide +kernel, by decide +kernel⟩, List.mem_of_getElem? (i := 1070) (by decide +kernel), List.mem_of_getElem? (i := 1552) (by decide +kernel), List.mem_of_getElem? (i := 1553) (by decide +kernel)⟩
theorem lw_p63 : lw_okq (⟨"RelayHouseModel", "addFour", "(II)V"⟩, 68) := ⟨⟨by decide +kernel, by decide +kernel⟩, List.mem_of_getElem? (i := 1070) (by decide +kernel), List.mem_of_getElem? (i := 1559) (by decide +kernel), List.mem_of_getElem? (i := 1560) (by decide +kernel)⟩
def lw_privs_4 : List (MethodName × Nat) := [(⟨"RelayHouseModel", "sendsOn", "(IIIII)V"⟩, 68), (⟨"RelayHouseModel", "goes", "(III)V"⟩, 68), (⟨"RelayHouseModel", "isMessage", "([II)Z"⟩, 68), (⟨"RelayHouseModel", "take", "(III)V"⟩, 68), (⟨"RelayHouseModel", "comes", "()V"⟩, 68), (⟨"RelayHouseModel", "findStrange", "()V"⟩, 68), (⟨"RelayHouseModel", "sends", "()V"⟩, 68), (⟨"RelayHouseModel", "first", "(I)I"⟩, 68), (⟨"RelayHouseModel", "counts", "(I)Z"⟩, 68), (⟨"RelayHouseModel", "isAddress", "(I)Z"⟩, 68), (⟨"RelayHouseModel", "ipOf", "(I)I"⟩, 68), (⟨"RelayHouseModel", "portOf", "(I)I"⟩, 68), (⟨"RelayHouseModel", "binds", "()V"⟩, 68), (⟨"RelayHouseModel", "error", "(I)V"⟩, 68), (⟨"RelayHouseModel", "answers", "(II)V"⟩, 68), (⟨"RelayHouseModel", "addFour", "(II)V"⟩, 68)]
theorem lw_r4 : ∀ q ∈ lw_privs_4, lw_okq q := List.forall_mem_cons.mpr ⟨lw_p48, List.forall_mem_cons.mpr ⟨lw_p49, List.forall_mem_cons.mpr ⟨lw_p50, List.forall_mem_cons.mpr ⟨lw_p51, List.forall_mem_cons.mpr ⟨lw_p52, List.forall_mem_cons.mpr ⟨lw_p53, List.forall_mem_cons.mpr ⟨lw_p54, List.forall_mem_cons.mpr ⟨lw_p55, List.forall_mem_cons.mpr ⟨lw_p56, List.forall_mem_cons.mpr ⟨lw_p57, List.forall_mem_cons.mpr ⟨lw_p58, List.forall_mem_cons.mpr ⟨lw_p59, List.forall_mem_cons.mpr ⟨lw_p60, List.forall_mem_cons.mpr ⟨lw_p61, List.forall_mem_cons.mpr ⟨lw_p62, List.forall_mem_cons.mpr ⟨lw_p63, fun _ h => absurd h List.not_mem_nil⟩⟩⟩⟩⟩⟩⟩⟩⟩⟩⟩⟩⟩⟩⟩⟩
theorem lw_p64 : lw_okq (⟨"RelayHouseModel", "adds", "(II)I"⟩, 68) := ⟨⟨by decide +kernel, by decide +kernel⟩, List.mem_of_getElem? (i := 1070) (by decide +kernel), List.mem_of_getElem? (i := 1563) (by decide +kernel), List.mem_of_getElem? (i := 1564) (by decide +kernel)⟩
theorem lw_p65 : lw_okq (⟨"RelayHouseModel", "answered", "()V"⟩, 68) := ⟨⟨by decide +kernel, by decide +kernel⟩, List.mem_of_getElem? (i := 1070) (by decide +kernel), List.mem_of_getElem? (i := 1567) (by decide +kernel), List.mem_of_getElem? (i := 1568) (by decide +kernel)⟩
theorem lw_p66 : lw_okq (⟨"RelayHouseModel", "addAddress", "(III)V"⟩, 68) := ⟨⟨by decide +kernel, by decide +kernel⟩, List.mem_of_getElem? (i := 1070) (by decide +kernel), List.mem_of_getElem? (i := 1571) (by decide +kernel), List.mem_of_getElem? (i := 1572) (by decide +kernel)⟩
theorem lw_p67 : lw_okq (⟨"RelayHouseModel", "asked", "(I)V"⟩, 68) := ⟨⟨by decide +kernel, by decide +kernel⟩, List.mem_of_getElem? (i := 1070) (by decide +kernel), List.mem_of_getElem? (i := 1575) (by decide +kernel), List.mem_of_getElem? (i := 1576) (by decide +kernel)⟩
theorem lw_p68 : lw_okq (⟨"RelayHouseModel", "userAt", "(I)I"⟩, 68) := ⟨⟨by decide +kernel, by decide +kernel⟩, List.mem_of_getElem? (i := 1070) (by decide +kernel), List.mem_of_getElem? (i := 1579) (by decide +kernel), List.mem_of_getElem? (i := 1580) (by decide +kernel)⟩
theorem lw_p69 : lw_okq (⟨"RelayHouseModel", "isRealm", "(I)Z"⟩, 68) := ⟨⟨by decide +kernel, by decide +kernel⟩, List.mem_of_getElem? (i := 1070) (by decide +kernel), List.mem_of_getElem? (i := 1583) (by decide +kernel), List.mem_of_getElem? (i := 1584) (by decide +kernel)⟩
theorem lw_p70 : lw_okq (⟨"RelayHouseModel", "isSigned", "(I)Z"⟩, 68) := ⟨⟨by decide +kernel, by decide +kernel⟩, List.mem_of_getElem? (i := 1070) (by decide +kernel), List.mem_of_getElem? (i := 1587) (by decide +kernel), List.mem_of_getElem? (i := 1588) (by decide +kernel)⟩
theorem lw_p71 : lw_okq (⟨"RelayHouseModel", "allocate", "(I)V"⟩, 68) := ⟨⟨by decide +kernel, by decide +kernel⟩, List.mem_of_getElem? (i := 1070) (by decide +kernel), List.mem_of_getElem? (i := 1591) (by decide +kernel), List.mem_of_getElem? (i := 1592) (by decide +kernel)⟩
theorem lw_p72 : lw_okq (⟨"RelayHouseModel", "granted", "(I)V"⟩, 68) := ⟨⟨by decide +kernel, by decide +kernel⟩, List.mem_of_getElem? (i := 1070) (by decide +kernel), List.mem_of_getElem? (i := 1595) (by decide +kernel), List.mem_of_getElem? (i := 1596) (by decide +kernel)⟩
theorem lw_p73 : lw_okq (⟨"RelayHouseModel", "make", "(I)V"⟩, 68) := ⟨⟨by decide +kernel, by decide +kernel⟩, List.mem_of_getElem? (i := 1070) (by decide +kernel), List.mem_of_getElem? (i := 1600) (by decide +kernel), List.mem_of_getElem? (i := 1601) (by decide +kernel)⟩
theorem lw_p74 : lw_okq (⟨"RelayHouseModel", "lifetime", "()J"⟩, 68) := ⟨⟨by decide +kernel, by decide +kernel⟩, List.mem_of_getElem? (i := 1070) (by decide +kernel), List.mem_of_getElem? (i := 1605) (by decide +kernel), List.mem_of_getElem? (i := 1606) (by decide +kernel)⟩
theorem lw_p75 : lw_okq (⟨"RelayHouseModel", "refresh", "(I)V"⟩, 68) := ⟨⟨by decide +kernel, by decide +kernel⟩, List.mem_of_getElem? (i := 1070) (by decide +kernel), List.mem_of_getElem? (i := 1612) (by decide +kernel), List.mem_of_getElem? (i := 1613) (by decide +kernel)⟩
theorem lw_p76 : lw_okq (⟨"RelayHouseModel", "permits", "(I)V"⟩, 68) := ⟨⟨by decide +kernel, by decide +kernel⟩, List.mem_of_getElem? (i := 1070) (by decide +kernel), List.mem_of_getElem? (i := 1616) (by decide +kernel), List.mem_of_getElem? (i := 1617) (by decide +kernel)⟩
theorem lw_p77 : lw_okq (⟨"RelayHouseModel", "isForbidden", "(I)Z"⟩, 68) := ⟨⟨by decide +kernel, by decide +kernel⟩, List.mem_of_getElem? (i := 1070) (by decide +kernel), List.mem_of_getElem? (i := 1620) (by decide +kernel), List.mem_of_getElem? (i := 1621) (by decide +kernel)⟩
theorem lw_p78 : lw_okq (⟨"RelayHouseModel", "permit", "(II)V"⟩, 68) := ⟨⟨by decide +kernel, by decide +kernel⟩, List.mem_of_getElem? (i := 1070) (by decide +kernel), List.mem_of_getElem? (i := 1624) (by decide +kernel), List.mem_of_getElem? (i := 1625) (by decide +kernel)⟩
theorem lw_p79 : lw_okq (⟨"RelayHouseModel", "bindsChannel", "(I)V"⟩, 68) := ⟨⟨by decide +kernel, by decide +kernel⟩, List.mem_of_getElem? (i := 1070) (by decide +kernel), List.mem_of_getElem? (i := 1629) (by decide +kernel), List.mem_of_getElem? (i := 1630) (by decide +kernel)⟩
def lw_privs_5 : List (MethodName × Nat) := [(⟨"RelayHouseModel", "adds", "(II)I"⟩, 68), (⟨"RelayHouseModel", "answered", "()V"⟩, 68), (⟨"RelayHouseModel", "addAddress", "(III)V"⟩, 68), (⟨"RelayHouseModel", "asked", "(I)V"⟩, 68), (⟨"RelayHouseModel", "userAt", "(I)I"⟩, 68), (⟨"RelayHouseModel", "isRealm", "(I)Z"⟩, 68), (⟨"RelayHouseModel", "isSigned", "(I)Z"⟩, 68), (⟨"RelayHouseModel", "allocate", "(I)V"⟩, 68), (⟨"RelayHouseModel", "granted", "(I)V"⟩, 68), (⟨"RelayHouseModel", "make", "(I)V"⟩, 68), (⟨"RelayHouseModel", "lifetime", "()J"⟩, 68), (⟨"RelayHouseModel", "refresh", "(I)V"⟩, 68), (⟨"RelayHouseModel", "permits", "(I)V"⟩, 68), (⟨"RelayHouseModel", "isForbidden", "(I)Z"⟩, 68), (⟨"RelayHouseModel", "permit", "(II)V"⟩, 68), (⟨"RelayHouseModel", "bindsChannel", "(I)V"⟩, 68)]
theorem lw_r5 : ∀ q ∈ lw_privs_5, lw_okq q := List.forall_mem_cons.mpr ⟨lw_p64, List.forall_mem_cons.mpr ⟨lw_p65, List.forall_mem_cons.mpr ⟨lw_p66, List.forall_mem_cons.mpr ⟨lw_p67, List.forall_mem_cons.mpr ⟨lw_p68, List.forall_mem_cons.mpr ⟨lw_p69, List.forall_mem_cons.mpr ⟨lw_p70, List.forall_mem_cons.mpr ⟨lw_p71, List.forall_mem_cons.mpr ⟨lw_p72, List.forall_mem_cons.mpr ⟨lw_p73, List.forall_mem_cons.mpr ⟨lw_p74, List.forall_mem_cons.mpr ⟨lw_p75, List.forall_mem_cons.mpr ⟨lw_p76, List.forall_mem_cons.mpr ⟨lw_p77, List.forall_mem_cons.mpr ⟨lw_p78, List.forall_mem_cons.mpr ⟨lw_p79, fun _ h => absurd h List.not_mem_nil⟩⟩⟩⟩⟩⟩⟩⟩⟩⟩⟩⟩⟩⟩⟩⟩
theorem lw_p80 : lw_okq (⟨"RelayHouseModel", "channelTo", "(III)I"⟩, 68) := ⟨⟨by decide +kernel, by decide +kernel⟩, List.mem_of_getElem? (i := 1070) (by decide +kernel), List.mem_of_getElem? (i := 1633) (by decide +kernel), List.mem_of_getElem? (i := 1634) (by decide +kernel)⟩
theorem lw_p81 : lw_okq (⟨"RelayHouseModel", "over", "()I"⟩, 68) := ⟨⟨by decide +kernel, by decide +kernel⟩, List.mem_of_getElem? (i := 1070) (by decide +kernel), List.mem_of_getElem? (i := 1637) (by decide +kernel), List.mem_of_getElem? (i := 1638) (by decide +kernel)⟩
theorem lw_p82 : lw_okq (⟨"RelayHouseModel", "brings", "(III)V"⟩, 68) := ⟨⟨by decide +kernel, by decide +kernel⟩, List.mem_of_getElem? (i := 1070) (by decide +kernel), List.mem_of_getElem? (i := 1645) (by decide +kernel), List.mem_of_getElem? (i := 1646) (by decide +kernel)⟩
theorem lw_p83 : lw_okq (⟨"RelayHouseModel", "isSentMessage", "()Z"⟩, 68) := ⟨⟨by decide +kernel, by decide +kernel⟩, List.mem_of_getElem? (i := 1070) (by decide +kernel), List.mem_of_getElem? (i := 1654) (by decide +kernel), List.mem_of_getElem? (i := 1655) (by decide +kernel)⟩
theorem lw_p84 : lw_okq (⟨"RelayHouseModel", "sentAttributes", "()I"⟩, 68) := ⟨⟨by decide +kernel, by decide +kernel⟩, List.mem_of_getElem? (i := 1070) (by decide +kernel), List.mem_of_getElem? (i := 1658) (by decide +kernel), List.mem_of_getElem? (i := 1659) (by decide +kernel)⟩
theorem lw_p85 : lw_okq (⟨"RelayHouseModel", "isAllocation", "(I)Z"⟩, 68) := ⟨⟨by decide +kernel, by decide +kernel⟩, List.mem_of_getElem? (i := 1070) (by decide +kernel), List.mem_of_getElem? (i := 1674) (by decide +kernel), List.mem_of_getElem? (i := 1675) (by decide +kernel)⟩
def lw_privs_6 : List (MethodName × Nat) := [(⟨"RelayHouseModel", "channelTo", "(III)I"⟩, 68), (⟨"RelayHouseModel", "over", "()I"⟩, 68), (⟨"RelayHouseModel", "brings", "(III)V"⟩, 68), (⟨"RelayHouseModel", "isSentMessage", "()Z"⟩, 68), (⟨"RelayHouseModel", "sentAttributes", "()I"⟩, 68), (⟨"RelayHouseModel", "isAllocation", "(I)Z"⟩, 68)]
theorem lw_r6 : ∀ q ∈ lw_privs_6, lw_okq q := List.forall_mem_cons.mpr ⟨lw_p80, List.forall_mem_cons.mpr ⟨lw_p81, List.forall_mem_cons.mpr ⟨lw_p82, List.forall_mem_cons.mpr ⟨lw_p83, List.forall_mem_cons.mpr ⟨lw_p84, List.forall_mem_cons.mpr ⟨lw_p85, fun _ h => absurd h List.not_mem_nil⟩⟩⟩⟩⟩⟩
def lw_privs : List (MethodName × Nat) := lw_privs_1 ++ (lw_privs_2 ++ (lw_privs_3 ++ (lw_privs_4 ++ (lw_privs_5 ++ (lw_privs_6)))))
def lw_tbl : List Cond := k2_sels lw_privs ++ tables_1
theorem lw_privs_ok : ∀ q ∈ lw_privs, lw_okq q := by
  show ∀ q ∈ lw_privs_1 ++ (lw_privs_2 ++ (lw_privs_3 ++ (lw_privs_4 ++ (lw_privs_5 ++ (lw_privs_6))))), lw_okq q
  exact List.forall_mem_append.mpr ⟨lw_r1, List.forall_mem_append.mpr ⟨lw_r2, List.forall_mem_append.mpr ⟨lw_r3, List.forall_mem_append.mpr ⟨lw_r4, List.forall_mem_append.mpr ⟨lw_r5, lw_r6⟩⟩⟩⟩⟩
end
section
def RX0 : String := "RelayHouse$Allocation"
def TX0 : u_T := fun k => match k with
  | 0 => ("RelayHouse$Allocation", "there", "Z", false)
  | 1 => ("RelayHouse$Allocation", "clientIp", "I", false)
  | 2 => ("RelayHouse$Allocation", "clientPort", "I", false)
  | 3 => ("RelayHouse$Allocation", "user", "I", false)
  | 4 => ("RelayHouse$Allocation", "relayed", "I", false)
  | 5 => ("RelayHouse$Allocation", "till", "J", false)
  | 6 => ("RelayHouse$Allocation", "idTop", "J", false)
  | 7 => ("RelayHouse$Allocation", "idRest", "I", false)
  | 8 => ("RelayHouse$Allocation", "permittedIps", "[I", true)
  | 9 => ("RelayHouse$Allocation", "permittedTill", "[J", true)
  | 10 => ("RelayHouse$Allocation", "permissions", "I", false)
  | 11 => ("RelayHouse$Allocation", "numbers", "[I", true)
  | 12 => ("RelayHouse$Allocation", "boundIps", "[I", true)
  | 13 => ("RelayHouse$Allocation", "boundPorts", "[I", true)
  | 14 => ("RelayHouse$Allocation", "boundTill", "[J", true)
  | _ => ("RelayHouse$Allocation", "channels", "I", false)
def tyX0 : Nat → FieldType := fun k => match k with
  | 0 => .boolean
  | 1 => .int
  | 2 => .int
  | 3 => .int
  | 4 => .int
  | 5 => .long
  | 6 => .long
  | 7 => .int
  | 8 => .array .int
  | 9 => .array .long
  | 10 => .int
  | 11 => .array .int
  | 12 => .array .int
  | 13 => .array .int
  | 14 => .array .long
  | _ => .int
abbrev wsX00 : List Cond := u_ws RX0 TX0 16
theorem nmX0 : ∀ a, a < 16 → ∀ b, b < 16 → a ≠ b → (TX0 a).2.1 ≠ (TX0 b).2.1 := by decide +kernel
theorem tyX0_ok : ∀ k, k < 16 → parseFieldDescriptor (TX0 k).2.2.1 = some (tyX0 k) := by decide +kernel
abbrev cX0_init : ByteArray := prog_2_method_1_code
def yX0_init : MethodName := ⟨RX0, "<init>", "()V"⟩
abbrev cX0_begin : ByteArray := prog_2_method_2_code
def yX0_begin : MethodName := ⟨RX0, "begin", "(IIII)V"⟩
abbrev cX0_setId : ByteArray := prog_2_method_3_code
def yX0_setId : MethodName := ⟨RX0, "setId", "(JI)V"⟩
abbrev cX0_isMadeBy : ByteArray := prog_2_method_4_code
def yX0_isMadeBy : MethodName := ⟨RX0, "isMadeBy", "(JI)Z"⟩
abbrev cX0_left : ByteArray := prog_2_method_5_code
def yX0_left : MethodName := ⟨RX0, "left", "(J)I"⟩
abbrev cX0_dropPast : ByteArray := prog_2_method_6_code
def yX0_dropPast : MethodName := ⟨RX0, "dropPast", "(J)V"⟩
abbrev cX0_permissionOf : ByteArray := prog_2_method_7_code
def yX0_permissionOf : MethodName := ⟨RX0, "permissionOf", "(I)I"⟩
abbrev cX0_permits : ByteArray := prog_2_method_8_code
def yX0_permits : MethodName := ⟨RX0, "permits", "(I)Z"⟩
abbrev cX0_hasRoomToPermit : ByteArray := prog_2_method_9_code
def yX0_hasRoomToPermit : MethodName := ⟨RX0, "hasRoomToPermit", "([II)Z"⟩
abbrev cX0_permit : ByteArray := prog_2_method_10_code
def yX0_permit : MethodName := ⟨RX0, "permit", "(IJ)V"⟩
abbrev cX0_permissionLeft : ByteArray := prog_2_method_11_code
def yX0_permissionLeft : MethodName := ⟨RX0, "permissionLeft", "(IJ)I"⟩
abbrev cX0_channelOf : ByteArray := prog_2_method_12_code
def yX0_channelOf : MethodName := ⟨RX0, "channelOf", "(I)I"⟩
abbrev cX0_channelTo : ByteArray := prog_2_method_13_code
def yX0_channelTo : MethodName := ⟨RX0, "channelTo", "(II)I"⟩
abbrev cX0_hasRoomToBind : ByteArray := prog_2_method_14_code
def yX0_hasRoomToBind : MethodName := ⟨RX0, "hasRoomToBind", "(II)Z"⟩
abbrev cX0_bind : ByteArray := prog_2_method_15_code
def yX0_bind : MethodName := ⟨RX0, "bind", "(IIIJ)V"⟩
abbrev cX0_channelLeft : ByteArray := prog_2_method_16_code
def yX0_channelLeft : MethodName := ⟨RX0, "channelLeft", "(IJ)I"⟩
abbrev cX0_numberOf : ByteArray := prog_2_method_17_code
def yX0_numberOf : MethodName := ⟨RX0, "numberOf", "(I)I"⟩
abbrev cX0_boundIp : ByteArray := prog_2_method_18_code
def yX0_boundIp : MethodName := ⟨RX0, "boundIp", "(I)I"⟩
abbrev cX0_boundPort : ByteArray := prog_2_method_19_code
def yX0_boundPort : MethodName := ⟨RX0, "boundPort", "(I)I"⟩
abbrev cX0_tell : ByteArray := prog_2_method_20_code
def yX0_tell : MethodName := ⟨RX0, "tell", "(IJ)I"⟩
def RX1 : String := "RelayHouse$Book"
def TX1 : u_T := fun k => match k with
  | 0 => ("RelayHouse$Book", "allocations", "[LRelayHouse$Allocation;", true)
  | _ => ("RelayHouse$Book", "now", "J", false)
def tyX1 : Nat → FieldType := fun k => match k with
  | 0 => .array (.object "RelayHouse$Allocation")
  | _ => .long
abbrev wsX10 : List Cond := u_ws RX1 TX1 2
theorem nmX1 : ∀ a, a < 2 → ∀ b, b < 2 → a ≠ b → (TX1 a).2.1 ≠ (TX1 b).2.1 := by decide +kernel
theorem tyX1_ok : ∀ k, k < 2 → parseFieldDescriptor (TX1 k).2.2.1 = some (tyX1 k) := by decide +kernel
abbrev cX1_init : ByteArray := prog_3_method_1_code
def yX1_init : MethodName := ⟨RX1, "<init>", "()V"⟩
abbrev cX1_now : ByteArray := prog_3_method_2_code
def yX1_now : MethodName := ⟨RX1, "now", "()J"⟩
abbrev cX1_pass : ByteArray := prog_3_method_3_code
def yX1_pass : MethodName := ⟨RX1, "pass", "(I)I"⟩
abbrev cX1_size : ByteArray := prog_3_method_4_code
def yX1_size : MethodName := ⟨RX1, "size", "()I"⟩
abbrev cX1_sizeOf : ByteArray := prog_3_method_5_code
def yX1_sizeOf : MethodName := ⟨RX1, "sizeOf", "(I)I"⟩
abbrev cX1_at : ByteArray := prog_3_method_6_code
def yX1_at : MethodName := ⟨RX1, "at", "(I)LRelayHouse$Allocation;"⟩
abbrev cX1_ofClient : ByteArray := prog_3_method_7_code
def yX1_ofClient : MethodName := ⟨RX1, "ofClient", "(II)LRelayHouse$Allocation;"⟩
abbrev cX1_ofPort : ByteArray := prog_3_method_8_code
def yX1_ofPort : MethodName := ⟨RX1, "ofPort", "(I)LRelayHouse$Allocation;"⟩
abbrev cX1_firstFree : ByteArray := prog_3_method_9_code
def yX1_firstFree : MethodName := ⟨RX1, "firstFree", "()LRelayHouse$Allocation;"⟩
abbrev cX1_firstFreePort : ByteArray := prog_3_method_10_code
def yX1_firstFreePort : MethodName := ⟨RX1, "firstFreePort", "()I"⟩
def RX2 : String := "RelayHouse$Fence"
def TX2 : u_T := fun k => match k with
  | 0 => ("RelayHouse$Fence", "ips", "[I", true)
  | 1 => ("RelayHouse$Fence", "masks", "[I", true)
  | _ => ("RelayHouse$Fence", "size", "I", false)
def tyX2 : Nat → FieldType := fun k => match k with
  | 0 => .array .int
  | 1 => .array .int
  | _ => .int
abbrev wsX20 : List Cond := u_ws RX2 TX2 3
theorem nmX2 : ∀ a, a < 3 → ∀ b, b < 3 → a ≠ b → (TX2 a).2.1 ≠ (TX2 b).2.1 := by decide +kernel
theorem tyX2_ok : ∀ k, k < 3 → parseFieldDescriptor (TX2 k).2.2.1 = some (tyX2 k) := by decide +kernel
abbrev cX2_init : ByteArray := prog_4_method_1_code
def yX2_init : MethodName := ⟨RX2, "<init>", "()V"⟩
abbrev cX2_raise : ByteArray := prog_4_method_2_code
def yX2_raise : MethodName := ⟨RX2, "raise", "(II)I"⟩
abbrev cX2_bars : ByteArray := prog_4_method_3_code
def yX2_bars : MethodName := ⟨RX2, "bars", "(I)Z"⟩
def RX3 : String := "RelayHouse$Letter"
def TX3 : u_T := fun k => match k with
  | 0 => ("RelayHouse$Letter", "row", "LRelayHouse$Row;", true)
  | 1 => ("RelayHouse$Letter", "kinds", "[I", true)
  | 2 => ("RelayHouse$Letter", "sizes", "[I", true)
  | 3 => ("RelayHouse$Letter", "starts", "[I", true)
  | 4 => ("RelayHouse$Letter", "sound", "[Z", true)
  | 5 => ("RelayHouse$Letter", "whole", "Z", false)
  | 6 => ("RelayHouse$Letter", "size", "I", false)
  | 7 => ("RelayHouse$Letter", "integrity", "I", false)
  | 8 => ("RelayHouse$Letter", "finger", "I", false)
  | _ => ("RelayHouse$Letter", "counting", "I", false)
def tyX3 : Nat → FieldType := fun k => match k with
  | 0 => .object "RelayHouse$Row"
  | 1 => .array .int
  | 2 => .array .int
  | 3 => .array .int
  | 4 => .array .boolean
  | 5 => .boolean
  | 6 => .int
  | 7 => .int
  | 8 => .int
  | _ => .int
abbrev wsX30 : List Cond := u_ws RX3 TX3 10
theorem nmX3 : ∀ a, a < 10 → ∀ b, b < 10 → a ≠ b → (TX3 a).2.1 ≠ (TX3 b).2.1 := by decide +kernel
theorem tyX3_ok : ∀ k, k < 10 → parseFieldDescriptor (TX3 k).2.2.1 = some (tyX3 k) := by decide +kernel
abbrev cX3_init : ByteArray := prog_5_method_1_code
def yX3_init : MethodName := ⟨RX3, "<init>", "(LRelayHouse$Row;)V"⟩
abbrev cX3_read : ByteArray := prog_5_method_2_code
def yX3_read : MethodName := ⟨RX3, "read", "()Z"⟩
abbrev cX3_readAttributes : ByteArray := prog_5_method_3_code
def yX3_readAttributes : MethodName := ⟨RX3, "readAttributes", "()Z"⟩
abbrev cX3_isSound : ByteArray := prog_5_method_4_code
def yX3_isSound : MethodName := ⟨RX3, "isSound", "(III)Z"⟩
abbrev cX3_find : ByteArray := prog_5_method_5_code
def yX3_find : MethodName := ⟨RX3, "find", "(I)I"⟩
abbrev cX3_isWhole : ByteArray := prog_5_method_6_code
def yX3_isWhole : MethodName := ⟨RX3, "isWhole", "()Z"⟩
abbrev cX3_size : ByteArray := prog_5_method_7_code
def yX3_size : MethodName := ⟨RX3, "size", "()I"⟩
abbrev cX3_method : ByteArray := prog_5_method_8_code
def yX3_method : MethodName := ⟨RX3, "method", "()I"⟩
abbrev cX3_rank : ByteArray := prog_5_method_9_code
def yX3_rank : MethodName := ⟨RX3, "rank", "()I"⟩
abbrev cX3_sizeOf : ByteArray := prog_5_method_10_code
def yX3_sizeOf : MethodName := ⟨RX3, "sizeOf", "(I)I"⟩
abbrev cX3_startOf : ByteArray := prog_5_method_11_code
def yX3_startOf : MethodName := ⟨RX3, "startOf", "(I)I"⟩
abbrev cX3_valueOf : ByteArray := prog_5_method_12_code
def yX3_valueOf : MethodName := ⟨RX3, "valueOf", "(I)J"⟩
abbrev cX3_ipOf : ByteArray := prog_5_method_13_code
def yX3_ipOf : MethodName := ⟨RX3, "ipOf", "(I)I"⟩
abbrev cX3_portOf : ByteArray := prog_5_method_14_code
def yX3_portOf : MethodName := ⟨RX3, "portOf", "(I)I"⟩
abbrev cX3_hasFingerprint : ByteArray := prog_5_method_15_code
def yX3_hasFingerprint : MethodName := ⟨RX3, "hasFingerprint", "()Z"⟩
abbrev cX3_isFingerprintWrong : ByteArray := prog_5_method_16_code
def yX3_isFingerprintWrong : MethodName := ⟨RX3, "isFingerprintWrong", "()Z"⟩
abbrev cX3_strangeKinds : ByteArray := prog_5_method_17_code
def yX3_strangeKinds : MethodName := ⟨RX3, "strangeKinds", "([I)I"⟩
abbrev cX3_peerIps : ByteArray := prog_5_method_18_code
def yX3_peerIps : MethodName := ⟨RX3, "peerIps", "([I)I"⟩
abbrev cX3_isAmong : ByteArray := prog_5_method_19_code
def yX3_isAmong : MethodName := ⟨RX3, "isAmong", "([III)Z"⟩
abbrev cX3_isStrange : ByteArray := prog_5_method_20_code
def yX3_isStrange : MethodName := ⟨RX3, "isStrange", "(I)Z"⟩
abbrev cX3_tell : ByteArray := prog_5_method_21_code
def yX3_tell : MethodName := ⟨RX3, "tell", "(II)I"⟩
abbrev cX3_isAddress : ByteArray := prog_5_method_22_code
def yX3_isAddress : MethodName := ⟨RX3, "isAddress", "(I)Z"⟩
abbrev cX3_errorOf : ByteArray := prog_5_method_23_code
def yX3_errorOf : MethodName := ⟨RX3, "errorOf", "(I)I"⟩
def RX4 : String := "RelayHouse$Pen"
def TX4 : u_T := fun k => match k with
  | 0 => ("RelayHouse$Pen", "row", "LRelayHouse$Row;", true)
  | _ => ("RelayHouse$Pen", "seal", "LRelayHouse$Seal;", true)
def tyX4 : Nat → FieldType := fun k => match k with
  | 0 => .object "RelayHouse$Row"
  | _ => .object "RelayHouse$Seal"
abbrev wsX40 : List Cond := u_ws RX4 TX4 2
theorem nmX4 : ∀ a, a < 2 → ∀ b, b < 2 → a ≠ b → (TX4 a).2.1 ≠ (TX4 b).2.1 := by decide +kernel
theorem tyX4_ok : ∀ k, k < 2 → parseFieldDescriptor (TX4 k).2.2.1 = some (tyX4 k) := by decide +kernel
abbrev cX4_init : ByteArray := prog_6_method_1_code
def yX4_init : MethodName := ⟨RX4, "<init>", "(LRelayHouse$Row;LRelayHouse$Seal;)V"⟩
abbrev cX4_padded : ByteArray := prog_6_method_2_code
def yX4_padded : MethodName := ⟨RX4, "padded", "(I)I"⟩
abbrev cX4_fingerprint : ByteArray := prog_6_method_3_code
def yX4_fingerprint : MethodName := ⟨RX4, "fingerprint", "(LRelayHouse$Row;I)I"⟩
abbrev cX4_typeOf : ByteArray := prog_6_method_4_code
def yX4_typeOf : MethodName := ⟨RX4, "typeOf", "(II)I"⟩
abbrev cX4_takes : ByteArray := prog_6_method_5_code
def yX4_takes : MethodName := ⟨RX4, "takes", "(II)Z"⟩
abbrev cX4_openLetter : ByteArray := prog_6_method_6_code
def yX4_openLetter : MethodName := ⟨RX4, "openLetter", "(IIII)V"⟩
abbrev cX4_open : ByteArray := prog_6_method_7_code
def yX4_open : MethodName := ⟨RX4, "open", "(II)V"⟩
abbrev cX4_close : ByteArray := prog_6_method_8_code
def yX4_close : MethodName := ⟨RX4, "close", "(I)V"⟩
abbrev cX4_addValue : ByteArray := prog_6_method_9_code
def yX4_addValue : MethodName := ⟨RX4, "addValue", "(IJI)V"⟩
abbrev cX4_addWords : ByteArray := prog_6_method_10_code
def yX4_addWords : MethodName := ⟨RX4, "addWords", "(IJJ)V"⟩
abbrev cX4_addAddress : ByteArray := prog_6_method_11_code
def yX4_addAddress : MethodName := ⟨RX4, "addAddress", "(III)V"⟩
abbrev cX4_addKinds : ByteArray := prog_6_method_12_code
def yX4_addKinds : MethodName := ⟨RX4, "addKinds", "([II)V"⟩
abbrev cX4_addData : ByteArray := prog_6_method_13_code
def yX4_addData : MethodName := ⟨RX4, "addData", "(LRelayHouse$Row;)V"⟩
abbrev cX4_addIntegrity : ByteArray := prog_6_method_14_code
def yX4_addIntegrity : MethodName := ⟨RX4, "addIntegrity", "()V"⟩
abbrev cX4_addFingerprint : ByteArray := prog_6_method_15_code
def yX4_addFingerprint : MethodName := ⟨RX4, "addFingerprint", "()V"⟩
def RX5 : String := "RelayHouse$Post"
def TX5 : u_T := fun k => match k with
  | 0 => ("RelayHouse$Post", "row", "LRelayHouse$Row;", true)
  | 1 => ("RelayHouse$Post", "letter", "LRelayHouse$Letter;", true)
  | 2 => ("RelayHouse$Post", "tallies", "[I", true)
  | 3 => ("RelayHouse$Post", "there", "Z", false)
  | 4 => ("RelayHouse$Post", "ip", "I", false)
  | 5 => ("RelayHouse$Post", "port", "I", false)
  | _ => ("RelayHouse$Post", "from", "I", false)
def tyX5 : Nat → FieldType := fun k => match k with
  | 0 => .object "RelayHouse$Row"
  | 1 => .object "RelayHouse$Letter"
  | 2 => .array .int
  | 3 => .boolean
  | 4 => .int
  | 5 => .int
  | _ => .int
abbrev wsX50 : List Cond := u_ws RX5 TX5 7
theorem nmX5 : ∀ a, a < 7 → ∀ b, b < 7 → a ≠ b → (TX5 a).2.1 ≠ (TX5 b).2.1 := by decide +kernel
theorem tyX5_ok : ∀ k, k < 7 → parseFieldDescriptor (TX5 k).2.2.1 = some (tyX5 k) := by decide +kernel
abbrev cX5_init : ByteArray := prog_7_method_1_code
def yX5_init : MethodName := ⟨RX5, "<init>", "()V"⟩
abbrev cX5_row : ByteArray := prog_7_method_2_code
def yX5_row : MethodName := ⟨RX5, "row", "()LRelayHouse$Row;"⟩
abbrev cX5_letter : ByteArray := prog_7_method_3_code
def yX5_letter : MethodName := ⟨RX5, "letter", "()LRelayHouse$Letter;"⟩
abbrev cX5_clear : ByteArray := prog_7_method_4_code
def yX5_clear : MethodName := ⟨RX5, "clear", "()V"⟩
abbrev cX5_open : ByteArray := prog_7_method_5_code
def yX5_open : MethodName := ⟨RX5, "open", "(III)V"⟩
abbrev cX5_close : ByteArray := prog_7_method_6_code
def yX5_close : MethodName := ⟨RX5, "close", "()I"⟩
abbrev cX5_note : ByteArray := prog_7_method_7_code
def yX5_note : MethodName := ⟨RX5, "note", "(I)V"⟩
abbrev cX5_tally : ByteArray := prog_7_method_8_code
def yX5_tally : MethodName := ⟨RX5, "tally", "(I)I"⟩
abbrev cX5_tell : ByteArray := prog_7_method_9_code
def yX5_tell : MethodName := ⟨RX5, "tell", "(I)I"⟩
def RX6 : String := "RelayHouse$Row"
def TX6 : u_T := fun k => match k with
  | 0 => ("RelayHouse$Row", "bytes", "[B", true)
  | _ => ("RelayHouse$Row", "size", "I", false)
def tyX6 : Nat → FieldType := fun k => match k with
  | 0 => .array .byte
  | _ => .int
abbrev wsX60 : List Cond := u_ws RX6 TX6 2
theorem nmX6 : ∀ a, a < 2 → ∀ b, b < 2 → a ≠ b → (TX6 a).2.1 ≠ (TX6 b).2.1 := by decide +kernel
theorem tyX6_ok : ∀ k, k < 2 → parseFieldDescriptor (TX6 k).2.2.1 = some (tyX6 k) := by decide +kernel
abbrev cX6_init : ByteArray := prog_8_method_1_code
def yX6_init : MethodName := ⟨RX6, "<init>", "(I)V"⟩
abbrev cX6_size : ByteArray := prog_8_method_2_code
def yX6_size : MethodName := ⟨RX6, "size", "()I"⟩
abbrev cX6_most : ByteArray := prog_8_method_3_code
def yX6_most : MethodName := ⟨RX6, "most", "()I"⟩
abbrev cX6_at : ByteArray := prog_8_method_4_code
def yX6_at : MethodName := ⟨RX6, "at", "(I)I"⟩
abbrev cX6_set : ByteArray := prog_8_method_5_code
def yX6_set : MethodName := ⟨RX6, "set", "(II)V"⟩
abbrev cX6_cut : ByteArray := prog_8_method_6_code
def yX6_cut : MethodName := ⟨RX6, "cut", "(I)V"⟩
abbrev cX6_addNumber : ByteArray := prog_8_method_7_code
def yX6_addNumber : MethodName := ⟨RX6, "addNumber", "(JI)V"⟩
abbrev cX6_addZeros : ByteArray := prog_8_method_8_code
def yX6_addZeros : MethodName := ⟨RX6, "addZeros", "(I)V"⟩
abbrev cX6_addFrom : ByteArray := prog_8_method_9_code
def yX6_addFrom : MethodName := ⟨RX6, "addFrom", "(LRelayHouse$Row;II)V"⟩
abbrev cX6_numberAt : ByteArray := prog_8_method_10_code
def yX6_numberAt : MethodName := ⟨RX6, "numberAt", "(II)J"⟩
def RX7 : String := "RelayHouse$Seal"
def TX7 : u_T := fun k => match k with
  | 0 => ("RelayHouse$Seal", "sha", "LRelayHouse$Sha;", true)
  | 1 => ("RelayHouse$Seal", "text", "LRelayHouse$Row;", true)
  | 2 => ("RelayHouse$Seal", "key", "LRelayHouse$Row;", true)
  | _ => ("RelayHouse$Seal", "mac", "LRelayHouse$Row;", true)
def tyX7 : Nat → FieldType := fun k => match k with
  | 0 => .object "RelayHouse$Sha"
  | 1 => .object "RelayHouse$Row"
  | 2 => .object "RelayHouse$Row"
  | _ => .object "RelayHouse$Row"
abbrev wsX70 : List Cond := u_ws RX7 TX7 4
theorem nmX7 : ∀ a, a < 4 → ∀ b, b < 4 → a ≠ b → (TX7 a).2.1 ≠ (TX7 b).2.1 := by decide +kernel
theorem tyX7_ok : ∀ k, k < 4 → parseFieldDescriptor (TX7 k).2.2.1 = some (tyX7 k) := by decide +kernel
abbrev cX7_init : ByteArray := prog_9_method_1_code
def yX7_init : MethodName := ⟨RX7, "<init>", "()V"⟩
abbrev cX7_setKey : ByteArray := prog_9_method_2_code
def yX7_setKey : MethodName := ⟨RX7, "setKey", "(JJJ)V"⟩
abbrev cX7_make : ByteArray := prog_9_method_3_code
def yX7_make : MethodName := ⟨RX7, "make", "(LRelayHouse$Row;I)V"⟩
abbrev cX7_startWithKey : ByteArray := prog_9_method_4_code
def yX7_startWithKey : MethodName := ⟨RX7, "startWithKey", "(I)V"⟩
abbrev cX7_standsAt : ByteArray := prog_9_method_5_code
def yX7_standsAt : MethodName := ⟨RX7, "standsAt", "(LRelayHouse$Row;I)Z"⟩
abbrev cX7_write : ByteArray := prog_9_method_6_code
def yX7_write : MethodName := ⟨RX7, "write", "(LRelayHouse$Row;)V"⟩
def RX8 : String := "RelayHouse$Server"
def TX8 : u_T := fun k => match k with
  | 0 => ("RelayHouse$Server", "tape", "LRelayHouse$Row;", true)
  | 1 => ("RelayHouse$Server", "users", "LRelayHouse$Users;", true)
  | 2 => ("RelayHouse$Server", "fence", "LRelayHouse$Fence;", true)
  | 3 => ("RelayHouse$Server", "book", "LRelayHouse$Book;", true)
  | 4 => ("RelayHouse$Server", "post", "LRelayHouse$Post;", true)
  | 5 => ("RelayHouse$Server", "seal", "LRelayHouse$Seal;", true)
  | 6 => ("RelayHouse$Server", "letter", "LRelayHouse$Letter;", true)
  | 7 => ("RelayHouse$Server", "pen", "LRelayHouse$Pen;", true)
  | 8 => ("RelayHouse$Server", "strange", "[I", true)
  | 9 => ("RelayHouse$Server", "told", "[I", true)
  | 10 => ("RelayHouse$Server", "strangeOnes", "I", false)
  | 11 => ("RelayHouse$Server", "clientIp", "I", false)
  | 12 => ("RelayHouse$Server", "clientPort", "I", false)
  | 13 => ("RelayHouse$Server", "own", "LRelayHouse$Allocation;", false)
  | _ => ("RelayHouse$Server", "signer", "I", false)
def tyX8 : Nat → FieldType := fun k => match k with
  | 0 => .object "RelayHouse$Row"
  | 1 => .object "RelayHouse$Users"
  | 2 => .object "RelayHouse$Fence"
  | 3 => .object "RelayHouse$Book"
  | 4 => .object "RelayHouse$Post"
  | 5 => .object "RelayHouse$Seal"
  | 6 => .object "RelayHouse$Letter"
  | 7 => .object "RelayHouse$Pen"
  | 8 => .array .int
  | 9 => .array .int
  | 10 => .int
  | 11 => .int
  | 12 => .int
  | 13 => .object "RelayHouse$Allocation"
  | _ => .int
abbrev wsX80 : List Cond := u_ws RX8 TX8 15
theorem nmX8 : ∀ a, a < 15 → ∀ b, b < 15 → a ≠ b → (TX8 a).2.1 ≠ (TX8 b).2.1 := by decide +kernel
theorem tyX8_ok : ∀ k, k < 15 → parseFieldDescriptor (TX8 k).2.2.1 = some (tyX8 k) := by decide +kernel
abbrev cX8_init : ByteArray := prog_10_method_1_code
def yX8_init : MethodName := ⟨RX8, "<init>", "(LRelayHouse$Row;LRelayHouse$Users;LRelayHouse$Fence;LRelayHouse$Book;LRelayHouse$Post;LRelayHouse$Seal;)V"⟩
abbrev cX8_fromClient : ByteArray := prog_10_method_2_code
def yX8_fromClient : MethodName := ⟨RX8, "fromClient", "(II)I"⟩
abbrev cX8_fromPeer : ByteArray := prog_10_method_3_code
def yX8_fromPeer : MethodName := ⟨RX8, "fromPeer", "(III)I"⟩
abbrev cX8_writeChannelData : ByteArray := prog_10_method_4_code
def yX8_writeChannelData : MethodName := ⟨RX8, "writeChannelData", "(I)V"⟩
abbrev cX8_writeIndication : ByteArray := prog_10_method_5_code
def yX8_writeIndication : MethodName := ⟨RX8, "writeIndication", "(II)V"⟩
abbrev cX8_isChannelNumber : ByteArray := prog_10_method_6_code
def yX8_isChannelNumber : MethodName := ⟨RX8, "isChannelNumber", "(J)Z"⟩
abbrev cX8_isChannelData : ByteArray := prog_10_method_7_code
def yX8_isChannelData : MethodName := ⟨RX8, "isChannelData", "()Z"⟩
abbrev cX8_relayChannelData : ByteArray := prog_10_method_8_code
def yX8_relayChannelData : MethodName := ⟨RX8, "relayChannelData", "()V"⟩
abbrev cX8_relaySend : ByteArray := prog_10_method_9_code
def yX8_relaySend : MethodName := ⟨RX8, "relaySend", "()V"⟩
abbrev cX8_relay : ByteArray := prog_10_method_10_code
def yX8_relay : MethodName := ⟨RX8, "relay", "(LRelayHouse$Allocation;IIII)V"⟩
abbrev cX8_answer : ByteArray := prog_10_method_11_code
def yX8_answer : MethodName := ⟨RX8, "answer", "(I)V"⟩
abbrev cX8_needsUser : ByteArray := prog_10_method_12_code
def yX8_needsUser : MethodName := ⟨RX8, "needsUser", "(I)Z"⟩
abbrev cX8_accessError : ByteArray := prog_10_method_13_code
def yX8_accessError : MethodName := ⟨RX8, "accessError", "(I)I"⟩
abbrev cX8_isWordAt : ByteArray := prog_10_method_14_code
def yX8_isWordAt : MethodName := ⟨RX8, "isWordAt", "(IJ)Z"⟩
abbrev cX8_perform : ByteArray := prog_10_method_15_code
def yX8_perform : MethodName := ⟨RX8, "perform", "(I)I"⟩
abbrev cX8_allocate : ByteArray := prog_10_method_16_code
def yX8_allocate : MethodName := ⟨RX8, "allocate", "()I"⟩
abbrev cX8_lifetime : ByteArray := prog_10_method_17_code
def yX8_lifetime : MethodName := ⟨RX8, "lifetime", "()J"⟩
abbrev cX8_refresh : ByteArray := prog_10_method_18_code
def yX8_refresh : MethodName := ⟨RX8, "refresh", "(LRelayHouse$Allocation;)I"⟩
abbrev cX8_permitPeers : ByteArray := prog_10_method_19_code
def yX8_permitPeers : MethodName := ⟨RX8, "permitPeers", "(LRelayHouse$Allocation;)I"⟩
abbrev cX8_bindChannel : ByteArray := prog_10_method_20_code
def yX8_bindChannel : MethodName := ⟨RX8, "bindChannel", "(LRelayHouse$Allocation;)I"⟩
abbrev cX8_writeTold : ByteArray := prog_10_method_21_code
def yX8_writeTold : MethodName := ⟨RX8, "writeTold", "(I)V"⟩
abbrev cX8_writeError : ByteArray := prog_10_method_22_code
def yX8_writeError : MethodName := ⟨RX8, "writeError", "(I)V"⟩
def RX9 : String := "RelayHouse$Sha"
def TX9 : u_T := fun k => match k with
  | 0 => ("RelayHouse$Sha", "state", "[I", true)
  | _ => ("RelayHouse$Sha", "words", "[I", true)
def tyX9 : Nat → FieldType := fun k => match k with
  | 0 => .array .int
  | _ => .array .int
abbrev wsX90 : List Cond := u_ws RX9 TX9 2
theorem nmX9 : ∀ a, a < 2 → ∀ b, b < 2 → a ≠ b → (TX9 a).2.1 ≠ (TX9 b).2.1 := by decide +kernel
theorem tyX9_ok : ∀ k, k < 2 → parseFieldDescriptor (TX9 k).2.2.1 = some (tyX9 k) := by decide +kernel
abbrev cX9_init : ByteArray := prog_11_method_1_code
def yX9_init : MethodName := ⟨RX9, "<init>", "()V"⟩
abbrev cX9_digest : ByteArray := prog_11_method_2_code
def yX9_digest : MethodName := ⟨RX9, "digest", "(LRelayHouse$Row;LRelayHouse$Row;)V"⟩
abbrev cX9_spread : ByteArray := prog_11_method_3_code
def yX9_spread : MethodName := ⟨RX9, "spread", "()V"⟩
abbrev cX9_stir : ByteArray := prog_11_method_4_code
def yX9_stir : MethodName := ⟨RX9, "stir", "()V"⟩
def RX10 : String := "RelayHouse$Users"
def TX10 : u_T := fun k => match k with
  | 0 => ("RelayHouse$Users", "names", "[J", true)
  | 1 => ("RelayHouse$Users", "passwords", "[J", true)
  | 2 => ("RelayHouse$Users", "size", "I", false)
  | 3 => ("RelayHouse$Users", "realm", "J", false)
  | 4 => ("RelayHouse$Users", "nonce", "J", false)
  | _ => ("RelayHouse$Users", "share", "I", false)
def tyX10 : Nat → FieldType := fun k => match k with
  | 0 => .array .long
  | 1 => .array .long
  | 2 => .int
  | 3 => .long
  | 4 => .long
  | _ => .int
abbrev wsX100 : List Cond := u_ws RX10 TX10 6
theorem nmX10 : ∀ a, a < 6 → ∀ b, b < 6 → a ≠ b → (TX10 a).2.1 ≠ (TX10 b).2.1 := by decide +kernel
theorem tyX10_ok : ∀ k, k < 6 → parseFieldDescriptor (TX10 k).2.2.1 = some (tyX10 k) := by decide +kernel
abbrev cX10_init : ByteArray := prog_12_method_1_code
def yX10_init : MethodName := ⟨RX10, "<init>", "()V"⟩
abbrev cX10_packed : ByteArray := prog_12_method_2_code
def yX10_packed : MethodName := ⟨RX10, "packed", "(J)J"⟩
abbrev cX10_sizeOf : ByteArray := prog_12_method_3_code
def yX10_sizeOf : MethodName := ⟨RX10, "sizeOf", "(J)I"⟩
abbrev cX10_isWord : ByteArray := prog_12_method_4_code
def yX10_isWord : MethodName := ⟨RX10, "isWord", "(J)Z"⟩
abbrev cX10_size : ByteArray := prog_12_method_5_code
def yX10_size : MethodName := ⟨RX10, "size", "()I"⟩
abbrev cX10_enter : ByteArray := prog_12_method_6_code
def yX10_enter : MethodName := ⟨RX10, "enter", "(JJ)I"⟩
abbrev cX10_find : ByteArray := prog_12_method_7_code
def yX10_find : MethodName := ⟨RX10, "find", "(J)I"⟩
abbrev cX10_nameOf : ByteArray := prog_12_method_8_code
def yX10_nameOf : MethodName := ⟨RX10, "nameOf", "(I)J"⟩
abbrev cX10_passwordOf : ByteArray := prog_12_method_9_code
def yX10_passwordOf : MethodName := ⟨RX10, "passwordOf", "(I)J"⟩
abbrev cX10_realmWord : ByteArray := prog_12_method_10_code
def yX10_realmWord : MethodName := ⟨RX10, "realmWord", "()J"⟩
abbrev cX10_setRealm : ByteArray := prog_12_method_11_code
def yX10_setRealm : MethodName := ⟨RX10, "setRealm", "(J)V"⟩
abbrev cX10_nonceNow : ByteArray := prog_12_method_12_code
def yX10_nonceNow : MethodName := ⟨RX10, "nonceNow", "()J"⟩
abbrev cX10_setNonce : ByteArray := prog_12_method_13_code
def yX10_setNonce : MethodName := ⟨RX10, "setNonce", "(J)V"⟩
abbrev cX10_share : ByteArray := prog_12_method_14_code
def yX10_share : MethodName := ⟨RX10, "share", "()I"⟩
abbrev cX10_setShare : ByteArray := prog_12_method_15_code
def yX10_setShare : MethodName := ⟨RX10, "setShare", "(I)V"⟩
def RX11 : String := "RelayHouse"
def TX11 : u_T := fun k => match k with
  | 0 => ("RelayHouse", "tape", "LRelayHouse$Row;", true)
  | 1 => ("RelayHouse", "seal", "LRelayHouse$Seal;", true)
  | 2 => ("RelayHouse", "desk", "LRelayHouse$Pen;", true)
  | 3 => ("RelayHouse", "users", "LRelayHouse$Users;", true)
  | 4 => ("RelayHouse", "fence", "LRelayHouse$Fence;", true)
  | 5 => ("RelayHouse", "book", "LRelayHouse$Book;", true)
  | 6 => ("RelayHouse", "post", "LRelayHouse$Post;", true)
  | _ => ("RelayHouse", "server", "LRelayHouse$Server;", true)
def tyX11 : Nat → FieldType := fun k => match k with
  | 0 => .object "RelayHouse$Row"
  | 1 => .object "RelayHouse$Seal"
  | 2 => .object "RelayHouse$Pen"
  | 3 => .object "RelayHouse$Users"
  | 4 => .object "RelayHouse$Fence"
  | 5 => .object "RelayHouse$Book"
  | 6 => .object "RelayHouse$Post"
  | _ => .object "RelayHouse$Server"
abbrev wsX110 : List Cond := u_ws RX11 TX11 8
theorem nmX11 : ∀ a, a < 8 → ∀ b, b < 8 → a ≠ b → (TX11 a).2.1 ≠ (TX11 b).2.1 := by decide +kernel
theorem tyX11_ok : ∀ k, k < 8 → parseFieldDescriptor (TX11 k).2.2.1 = some (tyX11 k) := by decide +kernel
abbrev cX11_init : ByteArray := prog_1_method_1_code
def yX11_init : MethodName := ⟨RX11, "<init>", "()V"⟩
abbrev cX11_feed : ByteArray := prog_1_method_2_code
def yX11_feed : MethodName := ⟨RX11, "feed", "(IIIII)I"⟩
abbrev cX11_end : ByteArray := prog_1_method_3_code
def yX11_end : MethodName := ⟨RX11, "end", "(I)I"⟩
abbrev cX11_message : ByteArray := prog_1_method_4_code
def yX11_message : MethodName := ⟨RX11, "message", "(IIII)I"⟩
abbrev cX11_number : ByteArray := prog_1_method_5_code
def yX11_number : MethodName := ⟨RX11, "number", "(III)I"⟩
abbrev cX11_text : ByteArray := prog_1_method_6_code
def yX11_text : MethodName := ⟨RX11, "text", "(IJJ)I"⟩
abbrev cX11_nonce : ByteArray := prog_1_method_7_code
def yX11_nonce : MethodName := ⟨RX11, "nonce", "(IJ)I"⟩
abbrev cX11_address : ByteArray := prog_1_method_8_code
def yX11_address : MethodName := ⟨RX11, "address", "(III)I"⟩
abbrev cX11_sign : ByteArray := prog_1_method_9_code
def yX11_sign : MethodName := ⟨RX11, "sign", "(JJ)I"⟩
abbrev cX11_finger : ByteArray := prog_1_method_10_code
def yX11_finger : MethodName := ⟨RX11, "finger", "()I"⟩
abbrev cX11_tape : ByteArray := prog_1_method_11_code
def yX11_tape : MethodName := ⟨RX11, "tape", "(I)I"⟩
abbrev cX11_alter : ByteArray := prog_1_method_12_code
def yX11_alter : MethodName := ⟨RX11, "alter", "(II)I"⟩
abbrev cX11_user : ByteArray := prog_1_method_13_code
def yX11_user : MethodName := ⟨RX11, "user", "(JJ)I"⟩
abbrev cX11_realm : ByteArray := prog_1_method_14_code
def yX11_realm : MethodName := ⟨RX11, "realm", "(J)I"⟩
abbrev cX11_fresh : ByteArray := prog_1_method_15_code
def yX11_fresh : MethodName := ⟨RX11, "fresh", "(J)I"⟩
abbrev cX11_part : ByteArray := prog_1_method_16_code
def yX11_part : MethodName := ⟨RX11, "part", "(I)I"⟩
abbrev cX11_forbid : ByteArray := prog_1_method_17_code
def yX11_forbid : MethodName := ⟨RX11, "forbid", "(II)I"⟩
abbrev cX11_tick : ByteArray := prog_1_method_18_code
def yX11_tick : MethodName := ⟨RX11, "tick", "(I)I"⟩
abbrev cX11_datagram : ByteArray := prog_1_method_19_code
def yX11_datagram : MethodName := ⟨RX11, "datagram", "(II)I"⟩
abbrev cX11_peer : ByteArray := prog_1_method_20_code
def yX11_peer : MethodName := ⟨RX11, "peer", "(III)I"⟩
abbrev cX11_sent : ByteArray := prog_1_method_21_code
def yX11_sent : MethodName := ⟨RX11, "sent", "(I)I"⟩
abbrev cX11_octet : ByteArray := prog_1_method_22_code
def yX11_octet : MethodName := ⟨RX11, "octet", "(I)I"⟩
abbrev cX11_attribute : ByteArray := prog_1_method_23_code
def yX11_attribute : MethodName := ⟨RX11, "attribute", "(II)I"⟩
abbrev cX11_allocation : ByteArray := prog_1_method_24_code
def yX11_allocation : MethodName := ⟨RX11, "allocation", "(II)I"⟩
abbrev cX11_permission : ByteArray := prog_1_method_25_code
def yX11_permission : MethodName := ⟨RX11, "permission", "(II)I"⟩
abbrev cX11_channel : ByteArray := prog_1_method_26_code
def yX11_channel : MethodName := ⟨RX11, "channel", "(II)I"⟩
abbrev cX11_count : ByteArray := prog_1_method_27_code
def yX11_count : MethodName := ⟨RX11, "count", "(I)I"⟩
def RX12 : String := "RelayHouseModel"
def TX12 : u_T := fun k => match k with
  | 0 => ("RelayHouseModel", "thrown", "I", false)
  | 1 => ("RelayHouseModel", "constants", "[I", true)
  | 2 => ("RelayHouseModel", "beginning", "[I", true)
  | 3 => ("RelayHouseModel", "state", "[I", true)
  | 4 => ("RelayHouseModel", "words", "[I", true)
  | 5 => ("RelayHouseModel", "block", "[I", true)
  | 6 => ("RelayHouseModel", "filled", "I", false)
  | 7 => ("RelayHouseModel", "hashed", "J", false)
  | 8 => ("RelayHouseModel", "places", "[J", true)
  | 9 => ("RelayHouseModel", "spare", "[J", true)
  | 10 => ("RelayHouseModel", "row", "[I", true)
  | 11 => ("RelayHouseModel", "digest", "[I", true)
  | 12 => ("RelayHouseModel", "key", "[I", true)
  | 13 => ("RelayHouseModel", "inner", "[I", true)
  | 14 => ("RelayHouseModel", "tape", "[I", true)
  | 15 => ("RelayHouseModel", "taped", "I", false)
  | 16 => ("RelayHouseModel", "sent", "[I", true)
  | 17 => ("RelayHouseModel", "sentSize", "I", false)
  | 18 => ("RelayHouseModel", "hasSent", "Z", false)
  | 19 => ("RelayHouseModel", "sentIp", "I", false)
  | 20 => ("RelayHouseModel", "sentTo", "I", false)
  | 21 => ("RelayHouseModel", "sentFrom", "I", false)
  | 22 => ("RelayHouseModel", "letters", "[I", true)
  | 23 => ("RelayHouseModel", "letterMany", "I", false)
  | 24 => ("RelayHouseModel", "names", "[J", true)
  | 25 => ("RelayHouseModel", "passwords", "[J", true)
  | 26 => ("RelayHouseModel", "users", "I", false)
  | 27 => ("RelayHouseModel", "realm", "[I", true)
  | 28 => ("RelayHouseModel", "realmSize", "I", false)
  | 29 => ("RelayHouseModel", "fresh", "J", false)
  | 30 => ("RelayHouseModel", "part", "I", false)
  | 31 => ("RelayHouseModel", "forbidden", "[I", true)
  | 32 => ("RelayHouseModel", "forbiddenBits", "[I", true)
  | 33 => ("RelayHouseModel", "forbids", "I", false)
  | 34 => ("RelayHouseModel", "time", "J", false)
  | 35 => ("RelayHouseModel", "aIs", "[Z", true)
  | 36 => ("RelayHouseModel", "aIp", "[I", true)
  | 37 => ("RelayHouseModel", "aClient", "[I", true)
  | 38 => ("RelayHouseModel", "aUser", "[I", true)
  | 39 => ("RelayHouseModel", "aPort", "[I", true)
  | 40 => ("RelayHouseModel", "aTill", "[J", true)
  | 41 => ("RelayHouseModel", "aId", "[I", true)
  | 42 => ("RelayHouseModel", "pMany", "[I", true)
  | 43 => ("RelayHouseModel", "pIp", "[I", true)
  | 44 => ("RelayHouseModel", "pTill", "[J", true)
  | 45 => ("RelayHouseModel", "cMany", "[I", true)
  | 46 => ("RelayHouseModel", "cNumber", "[I", true)
  | 47 => ("RelayHouseModel", "cIp", "[I", true)
  | 48 => ("RelayHouseModel", "cPort", "[I", true)
  | 49 => ("RelayHouseModel", "cTill", "[J", true)
  | 50 => ("RelayHouseModel", "tKind", "[I", true)
  | 51 => ("RelayHouseModel", "tSize", "[I", true)
  | 52 => ("RelayHouseModel", "tAt", "[I", true)
  | 53 => ("RelayHouseModel", "attributes", "I", false)
  | 54 => ("RelayHouseModel", "integrity", "I", false)
  | 55 => ("RelayHouseModel", "fingerprint", "I", false)
  | 56 => ("RelayHouseModel", "lastStart", "I", false)
  | 57 => ("RelayHouseModel", "strange", "[I", true)
  | 58 => ("RelayHouseModel", "stranges", "I", false)
  | 59 => ("RelayHouseModel", "datagrams", "I", false)
  | 60 => ("RelayHouseModel", "indications", "I", false)
  | 61 => ("RelayHouseModel", "toPeers", "I", false)
  | 62 => ("RelayHouseModel", "toClients", "I", false)
  | 63 => ("RelayHouseModel", "errors", "I", false)
  | 64 => ("RelayHouseModel", "idle", "I", false)
  | 65 => ("RelayHouseModel", "fromIp", "I", false)
  | 66 => ("RelayHouseModel", "fromPort", "I", false)
  | _ => ("RelayHouseModel", "signer", "I", false)
def tyX12 : Nat → FieldType := fun k => match k with
  | 0 => .int
  | 1 => .array .int
  | 2 => .array .int
  | 3 => .array .int
  | 4 => .array .int
  | 5 => .array .int
  | 6 => .int
  | 7 => .long
  | 8 => .array .long
  | 9 => .array .long
  | 10 => .array .int
  | 11 => .array .int
  | 12 => .array .int
  | 13 => .array .int
  | 14 => .array .int
  | 15 => .int
  | 16 => .array .int
  | 17 => .int
  | 18 => .boolean
  | 19 => .int
  | 20 => .int
  | 21 => .int
  | 22 => .array .int
  | 23 => .int
  | 24 => .array .long
  | 25 => .array .long
  | 26 => .int
  | 27 => .array .int
  | 28 => .int
  | 29 => .long
  | 30 => .int
  | 31 => .array .int
  | 32 => .array .int
  | 33 => .int
  | 34 => .long
  | 35 => .array .boolean
  | 36 => .array .int
  | 37 => .array .int
  | 38 => .array .int
  | 39 => .array .int
  | 40 => .array .long
  | 41 => .array .int
  | 42 => .array .int
  | 43 => .array .int
  | 44 => .array .long
  | 45 => .array .int
  | 46 => .array .int
  | 47 => .array .int
  | 48 => .array .int
  | 49 => .array .long
  | 50 => .array .int
  | 51 => .array .int
  | 52 => .array .int
  | 53 => .int
  | 54 => .int
  | 55 => .int
  | 56 => .int
  | 57 => .array .int
  | 58 => .int
  | 59 => .int
  | 60 => .int
  | 61 => .int
  | 62 => .int
  | 63 => .int
  | 64 => .int
  | 65 => .int
  | 66 => .int
  | _ => .int
abbrev wsX120 : List Cond := u_ws RX12 TX12 68
theorem nmX12 : ∀ a, a < 68 → ∀ b, b < 68 → a ≠ b → (TX12 a).2.1 ≠ (TX12 b).2.1 := by decide +kernel
theorem tyX12_ok : ∀ k, k < 68 → parseFieldDescriptor (TX12 k).2.2.1 = some (tyX12 k) := by decide +kernel
abbrev cX12_init : ByteArray := prog_14_method_1_code
def yX12_init : MethodName := ⟨RX12, "<init>", "()V"⟩
abbrev cX12_in : ByteArray := prog_14_method_3_code
def yX12_in : MethodName := ⟨RX12, "in", "(JJJ)Z"⟩
abbrev cX12_fraction : ByteArray := prog_14_method_4_code
def yX12_fraction : MethodName := ⟨RX12, "fraction", "(II)I"⟩
abbrev cX12_times : ByteArray := prog_14_method_5_code
def yX12_times : MethodName := ⟨RX12, "times", "(J)V"⟩
abbrev cX12_isAbove : ByteArray := prog_14_method_6_code
def yX12_isAbove : MethodName := ⟨RX12, "isAbove", "(II)Z"⟩
abbrev cX12_hashBegin : ByteArray := prog_14_method_7_code
def yX12_hashBegin : MethodName := ⟨RX12, "hashBegin", "()V"⟩
abbrev cX12_right : ByteArray := prog_14_method_8_code
def yX12_right : MethodName := ⟨RX12, "right", "(II)I"⟩
abbrev cX12_hash : ByteArray := prog_14_method_9_code
def yX12_hash : MethodName := ⟨RX12, "hash", "(I)V"⟩
abbrev cX12_rounds : ByteArray := prog_14_method_10_code
def yX12_rounds : MethodName := ⟨RX12, "rounds", "()V"⟩
abbrev cX12_hashEnd : ByteArray := prog_14_method_11_code
def yX12_hashEnd : MethodName := ⟨RX12, "hashEnd", "()V"⟩
abbrev cX12_hashLong : ByteArray := prog_14_method_12_code
def yX12_hashLong : MethodName := ⟨RX12, "hashLong", "(J)V"⟩
abbrev cX12_makeKey : ByteArray := prog_14_method_13_code
def yX12_makeKey : MethodName := ⟨RX12, "makeKey", "(JJ)V"⟩
abbrev cX12_authenticate : ByteArray := prog_14_method_14_code
def yX12_authenticate : MethodName := ⟨RX12, "authenticate", "([II)V"⟩
abbrev cX12_print : ByteArray := prog_14_method_15_code
def yX12_print : MethodName := ⟨RX12, "print", "([II)I"⟩
abbrev cX12_two : ByteArray := prog_14_method_16_code
def yX12_two : MethodName := ⟨RX12, "two", "([II)I"⟩
abbrev cX12_four : ByteArray := prog_14_method_17_code
def yX12_four : MethodName := ⟨RX12, "four", "([II)I"⟩
abbrev cX12_putTwo : ByteArray := prog_14_method_18_code
def yX12_putTwo : MethodName := ⟨RX12, "putTwo", "([III)V"⟩
abbrev cX12_putFour : ByteArray := prog_14_method_19_code
def yX12_putFour : MethodName := ⟨RX12, "putFour", "([III)V"⟩
abbrev cX12_feed : ByteArray := prog_14_method_20_code
def yX12_feed : MethodName := ⟨RX12, "feed", "(IIIII)I"⟩
abbrev cX12_end : ByteArray := prog_14_method_21_code
def yX12_end : MethodName := ⟨RX12, "end", "(I)I"⟩
abbrev cX12_message : ByteArray := prog_14_method_22_code
def yX12_message : MethodName := ⟨RX12, "message", "(IIII)I"⟩
abbrev cX12_begins : ByteArray := prog_14_method_23_code
def yX12_begins : MethodName := ⟨RX12, "begins", "(II)Z"⟩
abbrev cX12_number : ByteArray := prog_14_method_24_code
def yX12_number : MethodName := ⟨RX12, "number", "(III)I"⟩
abbrev cX12_addLetters : ByteArray := prog_14_method_25_code
def yX12_addLetters : MethodName := ⟨RX12, "addLetters", "(J)V"⟩
abbrev cX12_text : ByteArray := prog_14_method_26_code
def yX12_text : MethodName := ⟨RX12, "text", "(IJJ)I"⟩
abbrev cX12_nonce : ByteArray := prog_14_method_27_code
def yX12_nonce : MethodName := ⟨RX12, "nonce", "(IJ)I"⟩
abbrev cX12_address : ByteArray := prog_14_method_28_code
def yX12_address : MethodName := ⟨RX12, "address", "(III)I"⟩
abbrev cX12_putAddress : ByteArray := prog_14_method_29_code
def yX12_putAddress : MethodName := ⟨RX12, "putAddress", "([IIII)V"⟩
abbrev cX12_isName : ByteArray := prog_14_method_30_code
def yX12_isName : MethodName := ⟨RX12, "isName", "(J)Z"⟩
abbrev cX12_sign : ByteArray := prog_14_method_31_code
def yX12_sign : MethodName := ⟨RX12, "sign", "(JJ)I"⟩
abbrev cX12_finger : ByteArray := prog_14_method_32_code
def yX12_finger : MethodName := ⟨RX12, "finger", "()I"⟩
abbrev cX12_tape : ByteArray := prog_14_method_33_code
def yX12_tape : MethodName := ⟨RX12, "tape", "(I)I"⟩
abbrev cX12_alter : ByteArray := prog_14_method_34_code
def yX12_alter : MethodName := ⟨RX12, "alter", "(II)I"⟩
abbrev cX12_packed : ByteArray := prog_14_method_35_code
def yX12_packed : MethodName := ⟨RX12, "packed", "(J)J"⟩
abbrev cX12_userOf : ByteArray := prog_14_method_36_code
def yX12_userOf : MethodName := ⟨RX12, "userOf", "(J)I"⟩
abbrev cX12_user : ByteArray := prog_14_method_37_code
def yX12_user : MethodName := ⟨RX12, "user", "(JJ)I"⟩
abbrev cX12_realm : ByteArray := prog_14_method_38_code
def yX12_realm : MethodName := ⟨RX12, "realm", "(J)I"⟩
abbrev cX12_fresh : ByteArray := prog_14_method_39_code
def yX12_fresh : MethodName := ⟨RX12, "fresh", "(J)I"⟩
abbrev cX12_part : ByteArray := prog_14_method_40_code
def yX12_part : MethodName := ⟨RX12, "part", "(I)I"⟩
abbrev cX12_forbid : ByteArray := prog_14_method_41_code
def yX12_forbid : MethodName := ⟨RX12, "forbid", "(II)I"⟩
abbrev cX12_isForbidden : ByteArray := prog_14_method_42_code
def yX12_isForbidden : MethodName := ⟨RX12, "isForbidden", "(I)Z"⟩
abbrev cX12_sweep : ByteArray := prog_14_method_43_code
def yX12_sweep : MethodName := ⟨RX12, "sweep", "()I"⟩
abbrev cX12_sweepChannels : ByteArray := prog_14_method_44_code
def yX12_sweepChannels : MethodName := ⟨RX12, "sweepChannels", "(I)V"⟩
abbrev cX12_tick : ByteArray := prog_14_method_45_code
def yX12_tick : MethodName := ⟨RX12, "tick", "(I)I"⟩
abbrev cX12_allocationOf : ByteArray := prog_14_method_46_code
def yX12_allocationOf : MethodName := ⟨RX12, "allocationOf", "(II)I"⟩
abbrev cX12_permissionOf : ByteArray := prog_14_method_47_code
def yX12_permissionOf : MethodName := ⟨RX12, "permissionOf", "(II)I"⟩
abbrev cX12_channelOf : ByteArray := prog_14_method_48_code
def yX12_channelOf : MethodName := ⟨RX12, "channelOf", "(II)I"⟩
abbrev cX12_channelTo : ByteArray := prog_14_method_49_code
def yX12_channelTo : MethodName := ⟨RX12, "channelTo", "(III)I"⟩
abbrev cX12_permit : ByteArray := prog_14_method_50_code
def yX12_permit : MethodName := ⟨RX12, "permit", "(II)V"⟩
abbrev cX12_isMessage : ByteArray := prog_14_method_51_code
def yX12_isMessage : MethodName := ⟨RX12, "isMessage", "([II)Z"⟩
abbrev cX12_take : ByteArray := prog_14_method_52_code
def yX12_take : MethodName := ⟨RX12, "take", "(III)V"⟩
abbrev cX12_isAddress : ByteArray := prog_14_method_53_code
def yX12_isAddress : MethodName := ⟨RX12, "isAddress", "(I)Z"⟩
abbrev cX12_counts : ByteArray := prog_14_method_54_code
def yX12_counts : MethodName := ⟨RX12, "counts", "(I)Z"⟩
abbrev cX12_first : ByteArray := prog_14_method_55_code
def yX12_first : MethodName := ⟨RX12, "first", "(I)I"⟩
abbrev cX12_isKnown : ByteArray := prog_14_method_56_code
def yX12_isKnown : MethodName := ⟨RX12, "isKnown", "(I)Z"⟩
abbrev cX12_findStrange : ByteArray := prog_14_method_57_code
def yX12_findStrange : MethodName := ⟨RX12, "findStrange", "()V"⟩
abbrev cX12_ipOf : ByteArray := prog_14_method_58_code
def yX12_ipOf : MethodName := ⟨RX12, "ipOf", "(I)I"⟩
abbrev cX12_portOf : ByteArray := prog_14_method_59_code
def yX12_portOf : MethodName := ⟨RX12, "portOf", "(I)I"⟩
abbrev cX12_goes : ByteArray := prog_14_method_60_code
def yX12_goes : MethodName := ⟨RX12, "goes", "(III)V"⟩
abbrev cX12_none : ByteArray := prog_14_method_61_code
def yX12_none : MethodName := ⟨RX12, "none", "()V"⟩
abbrev cX12_answers : ByteArray := prog_14_method_62_code
def yX12_answers : MethodName := ⟨RX12, "answers", "(II)V"⟩
abbrev cX12_typeOf : ByteArray := prog_14_method_63_code
def yX12_typeOf : MethodName := ⟨RX12, "typeOf", "(II)I"⟩
abbrev cX12_methodOf : ByteArray := prog_14_method_64_code
def yX12_methodOf : MethodName := ⟨RX12, "methodOf", "(I)I"⟩
abbrev cX12_sortOf : ByteArray := prog_14_method_65_code
def yX12_sortOf : MethodName := ⟨RX12, "sortOf", "(I)I"⟩
abbrev cX12_adds : ByteArray := prog_14_method_66_code
def yX12_adds : MethodName := ⟨RX12, "adds", "(II)I"⟩
abbrev cX12_addAddress : ByteArray := prog_14_method_67_code
def yX12_addAddress : MethodName := ⟨RX12, "addAddress", "(III)V"⟩
abbrev cX12_addFour : ByteArray := prog_14_method_68_code
def yX12_addFour : MethodName := ⟨RX12, "addFour", "(II)V"⟩
abbrev cX12_answered : ByteArray := prog_14_method_69_code
def yX12_answered : MethodName := ⟨RX12, "answered", "()V"⟩
abbrev cX12_error : ByteArray := prog_14_method_70_code
def yX12_error : MethodName := ⟨RX12, "error", "(I)V"⟩
abbrev cX12_datagram : ByteArray := prog_14_method_71_code
def yX12_datagram : MethodName := ⟨RX12, "datagram", "(II)I"⟩
abbrev cX12_over : ByteArray := prog_14_method_72_code
def yX12_over : MethodName := ⟨RX12, "over", "()I"⟩
abbrev cX12_isChannelData : ByteArray := prog_14_method_73_code
def yX12_isChannelData : MethodName := ⟨RX12, "isChannelData", "()Z"⟩
abbrev cX12_relay : ByteArray := prog_14_method_74_code
def yX12_relay : MethodName := ⟨RX12, "relay", "(I)V"⟩
abbrev cX12_sendsOn : ByteArray := prog_14_method_75_code
def yX12_sendsOn : MethodName := ⟨RX12, "sendsOn", "(IIIII)V"⟩
abbrev cX12_comes : ByteArray := prog_14_method_76_code
def yX12_comes : MethodName := ⟨RX12, "comes", "()V"⟩
abbrev cX12_sends : ByteArray := prog_14_method_77_code
def yX12_sends : MethodName := ⟨RX12, "sends", "()V"⟩
abbrev cX12_binds : ByteArray := prog_14_method_78_code
def yX12_binds : MethodName := ⟨RX12, "binds", "()V"⟩
abbrev cX12_isRealm : ByteArray := prog_14_method_79_code
def yX12_isRealm : MethodName := ⟨RX12, "isRealm", "(I)Z"⟩
abbrev cX12_userAt : ByteArray := prog_14_method_80_code
def yX12_userAt : MethodName := ⟨RX12, "userAt", "(I)I"⟩
abbrev cX12_isSigned : ByteArray := prog_14_method_81_code
def yX12_isSigned : MethodName := ⟨RX12, "isSigned", "(I)Z"⟩
abbrev cX12_asked : ByteArray := prog_14_method_82_code
def yX12_asked : MethodName := ⟨RX12, "asked", "(I)V"⟩
abbrev cX12_lifetime : ByteArray := prog_14_method_83_code
def yX12_lifetime : MethodName := ⟨RX12, "lifetime", "()J"⟩
abbrev cX12_allocate : ByteArray := prog_14_method_84_code
def yX12_allocate : MethodName := ⟨RX12, "allocate", "(I)V"⟩
abbrev cX12_make : ByteArray := prog_14_method_85_code
def yX12_make : MethodName := ⟨RX12, "make", "(I)V"⟩
abbrev cX12_granted : ByteArray := prog_14_method_86_code
def yX12_granted : MethodName := ⟨RX12, "granted", "(I)V"⟩
abbrev cX12_refresh : ByteArray := prog_14_method_87_code
def yX12_refresh : MethodName := ⟨RX12, "refresh", "(I)V"⟩
abbrev cX12_permits : ByteArray := prog_14_method_88_code
def yX12_permits : MethodName := ⟨RX12, "permits", "(I)V"⟩
abbrev cX12_bindsChannel : ByteArray := prog_14_method_89_code
def yX12_bindsChannel : MethodName := ⟨RX12, "bindsChannel", "(I)V"⟩
abbrev cX12_peer : ByteArray := prog_14_method_90_code
def yX12_peer : MethodName := ⟨RX12, "peer", "(III)I"⟩
abbrev cX12_brings : ByteArray := prog_14_method_91_code
def yX12_brings : MethodName := ⟨RX12, "brings", "(III)V"⟩
abbrev cX12_isSentMessage : ByteArray := prog_14_method_92_code
def yX12_isSentMessage : MethodName := ⟨RX12, "isSentMessage", "()Z"⟩
abbrev cX12_sentAttributes : ByteArray := prog_14_method_93_code
def yX12_sentAttributes : MethodName := ⟨RX12, "sentAttributes", "()I"⟩
abbrev cX12_sent : ByteArray := prog_14_method_94_code
def yX12_sent : MethodName := ⟨RX12, "sent", "(I)I"⟩
abbrev cX12_octet : ByteArray := prog_14_method_95_code
def yX12_octet : MethodName := ⟨RX12, "octet", "(I)I"⟩
abbrev cX12_attribute : ByteArray := prog_14_method_96_code
def yX12_attribute : MethodName := ⟨RX12, "attribute", "(II)I"⟩
abbrev cX12_isAllocation : ByteArray := prog_14_method_97_code
def yX12_isAllocation : MethodName := ⟨RX12, "isAllocation", "(I)Z"⟩
abbrev cX12_allocation : ByteArray := prog_14_method_98_code
def yX12_allocation : MethodName := ⟨RX12, "allocation", "(II)I"⟩
abbrev cX12_permission : ByteArray := prog_14_method_99_code
def yX12_permission : MethodName := ⟨RX12, "permission", "(II)I"⟩
abbrev cX12_channel : ByteArray := prog_14_method_100_code
def yX12_channel : MethodName := ⟨RX12, "channel", "(II)I"⟩
abbrev cX12_count : ByteArray := prog_14_method_101_code
def yX12_count : MethodName := ⟨RX12, "count", "(I)I"⟩
def RJ6 : String := "java/lang/Integer"
abbrev cJ6_numberOfLeadingZeros_0f7a4 : ByteArray := prog_15_method_47_code
def yJ6_numberOfLeadingZeros_0f7a4 : MethodName := ⟨RJ6, "numberOfLeadingZeros", "(I)I"⟩
def RJ13 : String := "java/lang/Long"
abbrev cJ13_numberOfLeadingZeros_95d88 : ByteArray := prog_16_method_48_code
def yJ13_numberOfLeadingZeros_95d88 : MethodName := ⟨RJ13, "numberOfLeadingZeros", "(J)I"⟩
def RJ9 : String := "java/lang/Math"
abbrev cJ9_max_7cf53 : ByteArray := prog_17_method_65_code
def yJ9_max_7cf53 : MethodName := ⟨RJ9, "max", "(II)I"⟩
abbrev cJ9_max_f86c9 : ByteArray := prog_17_method_66_code
def yJ9_max_f86c9 : MethodName := ⟨RJ9, "max", "(JJ)J"⟩
abbrev cJ9_min_7cf53 : ByteArray := prog_17_method_69_code
def yJ9_min_7cf53 : MethodName := ⟨RJ9, "min", "(II)I"⟩
abbrev cJ9_min_f86c9 : ByteArray := prog_17_method_70_code
def yJ9_min_f86c9 : MethodName := ⟨RJ9, "min", "(JJ)J"⟩
def RJ10 : String := "java/lang/System"
def RL : String := "RelayHouseLaw"
abbrev cL_law : ByteArray := code
def yL_law : MethodName := ⟨RL, "law", "([I)Z"⟩
end
section
/-! ===== THE SMALL MACHINE: cells have places 0, 1, 2 ..; what is held lies in three tables (ints, longs, references by place), by place and slot; a shape list says what a place is: (class, fields) or (50 int[], 51 long[], 52 byte[], 53 boolean[], 54 references; length). The places 0 .. 3 are arrays that nobody writes (three static ones, the script). Instructions are carried by Instr, with operands of my own. ===== -/
abbrev am_H : Type := List (Nat × Nat) × (Nat → Nat → Int32) × (Nat → Nat → Int64) × (Nat → Nat → Option Nat)
def am_u {α : Type} (f : Nat → Nat → α) (p k : Nat) (v : α) : Nat → Nat → α := va_up f p (va_up (f p) k v)
def am_sl (sh : List (Nat × Nat)) : Nat := (sh.map (fun q => q.2)).sum
/-- a local's store: a long ahead of it is broken -/
def am_k (ls : List (Option Value)) (i : Nat) : List (Option Value) := match i with
  | 0 => ls
  | j + 1 => match ls[j]? with
    | some (some v) => if v.category = 2 then ls.set j none else ls
    | _ => ls
def am_set1 (ls : List (Option Value)) (i : Nat) (v : Value) : List (Option Value) := (am_k ls i).set i (some v)
def am_set2 (ls : List (Option Value)) (i : Nat) (v : Value) : List (Option Value) := ((am_k ls i).set i (some v)).set (i + 1) none
def am_slots : List Value → List (Option Value)
  | [] => []
  | v :: l => if v.category = 2 then some v :: none :: am_slots l else some v :: am_slots l
def am_ent (as : List Value) (n : Nat) : List (Option Value) := am_slots as ++ List.replicate (n - (am_slots as).length) none
def am_nth : List Instr → Nat → Instr
  | [], _ => .nop
  | a :: _, 0 => a
  | _ :: l, k + 1 => am_nth l k
def am_cat (st : List Value) : Nat := (st.map fun v => v.category).sum
/-- a switch's target -/
def am_sw (d : Int) (x : Int32) : List (Int × Int) → Int
  | [] => d
  | (a, t) :: l => if x = Int32.ofInt a then t else am_sw d x l
def am_cond (c : Jvm.ClassFile.Cond) (x y : Int32) : Prop := match c with
  | .eq => x = y
  | .ne => ¬ x = y
  | .lt => x < y
  | .ge => y ≤ x
  | .gt => y < x
  | .le => x ≤ y
abbrev am_X : Type := Nat → List (Option Value) → List Value → am_H → Prop
abbrev am_Q : Type := Option Value → am_H → Prop
abbrev am_C : Type := Nat → List Value → am_H → am_Q → Prop
/-- the receiver's class (99: none), how many arguments (the receiver with them) -/
def am_step (rc na mcT msT : Nat → Nat) (cN cZ : Nat) (C : am_C) (Z : am_Q) (X : am_X) (k : Nat) (ls : List (Option Value)) (st : List Value) (h : am_H) : Instr → Prop
  | .iconst n => X (k + 1) ls (.int (Int32.ofInt n) :: st) h
  | .goto_w n => X (k + 1) ls (.long (Int64.ofInt n) :: st) h
  | .aconst_null => X (k + 1) ls (.null :: st) h
  | .iload j => ∃ x, ls[j]? = some (some (.int x)) ∧ X (k + 1) ls (.int x :: st) h
  | .lload j => ∃ x, ls[j]? = some (some (.long x)) ∧ X (k + 1) ls (.long x :: st) h
  | .aload j => (∃ x, ls[j]? = some (some (.ref x)) ∧ X (k + 1) ls (.ref x :: st) h) ∨ (ls[j]? = some (some .null) ∧ X (k + 1) ls (.null :: st) h)
  | .istore j => ∃ x st', st = .int x :: st' ∧ X (k + 1) (am_set1 ls j (.int x)) st' h
  | .lstore j => ∃ x st', st = .long x :: st' ∧ X (k + 1) (am_set2 ls j (.long x)) st' h
  | .astore j => ∃ x st', st = .ref x :: st' ∧ X (k + 1) (am_set1 ls j (.ref x)) st' h
  | .iinc j n => ∃ x, ls[j]? = some (some (.int x)) ∧ X (k + 1) (am_set1 ls j (.int (x + Int32.ofInt n))) st h
  | .iadd => ∃ x y st', st = .int y :: .int x :: st' ∧ X (k + 1) ls (.int (x + y) :: st') h
  | .isub => ∃ x y st', st = .int y :: .int x :: st' ∧ X (k + 1) ls (.int (x - y) :: st') h
  | .imul => ∃ x y st', st = .int y :: .int x :: st' ∧ X (k + 1) ls (.int (x * y) :: st') h
  | .idiv => ∃ x y st', st = .int y :: .int x :: st' ∧ ¬ y = 0 ∧ X (k + 1) ls (.int (x / y) :: st') h
  | .irem => ∃ x y st', st = .int y :: .int x :: st' ∧ ¬ y = 0 ∧ X (k + 1) ls (.int (x - x / y * y) :: st') h
  | .iand => ∃ x y st', st = .int y :: .int x :: st' ∧ X (k + 1) ls (.int (x &&& y) :: st') h
  | .ior => ∃ x y st', st = .int y :: .int x :: st' ∧ X (k + 1) ls (.int (x ||| y) :: st') h
  | .ixor => ∃ x y st', st = .int y :: .int x :: st' ∧ X (k + 1) ls (.int (x ^^^ y) :: st') h
  | .ishl => ∃ x y st', st = .int y :: .int x :: st' ∧ X (k + 1) ls (.int (x <<< (y &&& 31)) :: st') h
  | .ishr => ∃ x y st', st = .int y :: .int x :: st' ∧ X (k + 1) ls (.int (x >>> (y &&& 31)) :: st') h
  | .iushr => ∃ x y st', st = .int y :: .int x :: st' ∧ X (k + 1) ls (.int (x.toUInt32 >>> (y.toUInt32 &&& Int32.toUInt32 31)).toInt32 :: st') h
  | .ladd => ∃ x y st', st = .long y :: .long x :: st' ∧ X (k + 1) ls (.long (x + y) :: st') h
  | .lsub => ∃ x y st', st = .long y :: .long x :: st' ∧ X (k + 1) ls (.long (x - y) :: st') h
  | .lmul => ∃ x y st', st = .long y :: .long x :: st' ∧ X (k + 1) ls (.long (x * y) :: st') h
  | .ldiv => ∃ x y st', st = .long y :: .long x :: st' ∧ ¬ y = 0 ∧ X (k + 1) ls (.long (x / y) :: st') h
  | .land => ∃ x y st', st = .long y :: .long x :: st' ∧ X (k + 1) ls (.long (x &&& y) :: st') h
  | .lor => ∃ x y st', st = .long y :: .long x :: st' ∧ X (k + 1) ls (.long (x ||| y) :: st') h
  | .lshl => ∃ x y st', st = .int y :: .long x :: st' ∧ X (k + 1) ls (.long (x <<< (y.toInt64 &&& 63)) :: st') h
  | .lshr => ∃ x y st', st = .int y :: .long x :: st' ∧ X (k + 1) ls (.long (x >>> (y.toInt64 &&& 63)) :: st') h
  | .lushr => ∃ x y st', st = .int y :: .long x :: st' ∧ X (k + 1) ls (.long (x.toUInt64 >>> (y.toInt64.toUInt64 &&& Int64.toUInt64 63)).toInt64 :: st') h
  | .lcmp => ∃ x y st', st = .long y :: .long x :: st' ∧ X (k + 1) ls (.int (lg_cmp x y) :: st') h
  | .i2l => ∃ x st', st = .int x :: st' ∧ X (k + 1) ls (.long x.toInt64 :: st') h
  | .i2b => ∃ x st', st = .int x :: st' ∧ X (k + 1) ls (.int x.toInt8.toInt32 :: st') h
  | .l2i => ∃ x st', st = .long x :: st' ∧ X (k + 1) ls (.int x.toInt32 :: st') h
  | .dup => ∃ v st', st = v :: st' ∧ v.category = 1 ∧ X (k + 1) ls (v :: v :: st') h
  | .dup2 => ∃ v w st', st = v :: w :: st' ∧ v.category = 1 ∧ w.category = 1 ∧ X (k + 1) ls (v :: w :: v :: w :: st') h
  | .pop => ∃ v st', st = v :: st' ∧ v.category = 1 ∧ X (k + 1) ls st' h
  | .goto t => X t.toNat ls st h
  | .ifCond c t => ∃ x st', st = .int x :: st' ∧ (am_cond c x 0 → X t.toNat ls st' h) ∧ (¬ am_cond c x 0 → X (k + 1) ls st' h)
  | .if_icmp c t => ∃ x y st', st = .int y :: .int x :: st' ∧ (am_cond c x y → X t.toNat ls st' h) ∧ (¬ am_cond c x y → X (k + 1) ls st' h)
  | .ifnull t => (∃ x st', st = .ref x :: st' ∧ X (k + 1) ls st' h) ∨ ∃ st', st = .null :: st' ∧ X t.toNat ls st' h
  | .ifnonnull t => (∃ x st', st = .ref x :: st' ∧ X t.toNat ls st' h) ∨ ∃ st', st = .null :: st' ∧ X (k + 1) ls st' h
  | .lookupswitch d ps => ∃ x st', st = .int x :: st' ∧ X (am_sw d x ps.toList).toNat ls st' h
  -- fields: 100 * class + slot; ints (booleans too), longs, references
  | .getfield q => ∃ p n st', st = .ref p :: st' ∧ h.1[p]? = some (q / 100, n) ∧ X (k + 1) ls (.int (h.2.1 p (q % 100)) :: st') h
  | .fload q => ∃ p n st', st = .ref p :: st' ∧ h.1[p]? = some (q / 100, n) ∧ X (k + 1) ls (.long (h.2.2.1 p (q % 100)) :: st') h
  | .dload q => ∃ p n st', st = .ref p :: st' ∧ h.1[p]? = some (q / 100, n) ∧ X (k + 1) ls (va_rf (h.2.2.2 p (q % 100)) :: st') h
  | .putfield q => ∃ p n x st', st = .int x :: .ref p :: st' ∧ h.1[p]? = some (q / 100, n) ∧ X (k + 1) ls st' (h.1, am_u h.2.1 p (q % 100) x, h.2.2)
  | .putstatic q => ∃ p n x st', st = .int x :: .ref p :: st' ∧ (x = 0 ∨ x = 1) ∧ h.1[p]? = some (q / 100, n) ∧ X (k + 1) ls st' (h.1, am_u h.2.1 p (q % 100) x, h.2.2)
  | .fstore q => ∃ p n x st', st = .long x :: .ref p :: st' ∧ h.1[p]? = some (q / 100, n) ∧ X (k + 1) ls st' (h.1, h.2.1, am_u h.2.2.1 p (q % 100) x, h.2.2.2)
  | .dstore q => ∃ p n r st', st = va_rf r :: .ref p :: st' ∧ h.1[p]? = some (q / 100, n) ∧ X (k + 1) ls st' (h.1, h.2.1, h.2.2.1, am_u h.2.2.2 p (q % 100) r)
  | .iaload => ∃ p n i st', st = .int i :: .ref p :: st' ∧ h.1[p]? = some (50, n) ∧ vp_in i n ∧ X (k + 1) ls (.int (h.2.1 p i.toNatClampNeg) :: st') h
  | .baload => ∃ p n i st', st = .int i :: .ref p :: st' ∧ h.1[p]? = some (52, n) ∧ vp_in i n ∧ X (k + 1) ls (.int (h.2.1 p i.toNatClampNeg) :: st') h
  | .caload => ∃ p n i st', st = .int i :: .ref p :: st' ∧ h.1[p]? = some (53, n) ∧ vp_in i n ∧ X (k + 1) ls (.int (h.2.1 p i.toNatClampNeg) :: st') h
  | .laload => ∃ p n i st', st = .int i :: .ref p :: st' ∧ h.1[p]? = some (51, n) ∧ vp_in i n ∧ X (k + 1) ls (.long (h.2.2.1 p i.toNatClampNeg) :: st') h
  | .aaload => ∃ p n i st', st = .int i :: .ref p :: st' ∧ h.1[p]? = some (54, n) ∧ vp_in i n ∧ X (k + 1) ls (va_rf (h.2.2.2 p i.toNatClampNeg) :: st') h
  | .iastore => ∃ p n i x st', st = .int x :: .int i :: .ref p :: st' ∧ 4 ≤ p ∧ h.1[p]? = some (50, n) ∧ vp_in i n ∧ X (k + 1) ls st' (h.1, am_u h.2.1 p i.toNatClampNeg x, h.2.2)
  | .bastore => ∃ p n i x st', st = .int x :: .int i :: .ref p :: st' ∧ h.1[p]? = some (52, n) ∧ vp_in i n ∧ X (k + 1) ls st' (h.1, am_u h.2.1 p i.toNatClampNeg (vp_nar .byte x), h.2.2)
  | .castore => ∃ p n i x st', st = .int x :: .int i :: .ref p :: st' ∧ h.1[p]? = some (53, n) ∧ vp_in i n ∧ X (k + 1) ls st' (h.1, am_u h.2.1 p i.toNatClampNeg (vp_nar .boolean x), h.2.2)
  | .lastore => ∃ p n i x st', st = .long x :: .int i :: .ref p :: st' ∧ h.1[p]? = some (51, n) ∧ vp_in i n ∧ X (k + 1) ls st' (h.1, h.2.1, am_u h.2.2.1 p i.toNatClampNeg x, h.2.2.2)
  | .aastore => ∃ p n i r m st', st = .ref r :: .int i :: .ref p :: st' ∧ h.1[p]? = some (54, n) ∧ h.1[r]? = some (0, m) ∧ vp_in i n ∧ X (k + 1) ls st' (h.1, h.2.1, h.2.2.1, am_u h.2.2.2 p i.toNatClampNeg (some r))
  | .arraylength => ∃ p t n st', st = .ref p :: st' ∧ h.1[p]? = some (t, n) ∧ 50 ≤ t ∧ t ≤ 54 ∧ X (k + 1) ls (.int (Int32.ofNat n) :: st') h
  | .getstatic j => X (k + 1) ls (.ref j :: st) h
  -- new cells: 100 * class + fields
  | .new q => h.1.length + 1 ≤ cN ∧ am_sl h.1 + q % 100 ≤ cZ ∧ X (k + 1) ls (.ref h.1.length :: st) (h.1 ++ [(q / 100, q % 100)], va_up h.2.1 h.1.length (fun _ => 0), va_up h.2.2.1 h.1.length (fun _ => 0), va_up h.2.2.2 h.1.length (fun _ => none))
  | .anewarray t => ∃ i st', st = .int i :: st' ∧ ¬ i < 0 ∧ i.toNatClampNeg ≤ 1000000 ∧ h.1.length + 1 ≤ cN ∧ am_sl h.1 + i.toNatClampNeg ≤ cZ ∧ X (k + 1) ls (.ref h.1.length :: st') (h.1 ++ [(t, i.toNatClampNeg)], va_up h.2.1 h.1.length (fun _ => 0), va_up h.2.2.1 h.1.length (fun _ => 0), va_up h.2.2.2 h.1.length (fun _ => none))
  -- calls
  | .invokevirtual q => ∃ as p n st', st = as.reverse ++ .ref p :: st' ∧ as.length + 1 = na q ∧ am_cat st' ≤ 8 ∧ h.1[p]? = some (rc q, n) ∧ (mcT q = 0 ∧ msT q = 0 ∨ h.1.length + mcT q ≤ cN ∧ am_sl h.1 + msT q ≤ cZ) ∧ C q (.ref p :: as) h (fun r h' => X (k + 1) ls (r.toList ++ st') h')
  | .invokestatic q => ∃ as st', st = as.reverse ++ st' ∧ as.length = na q ∧ am_cat st' ≤ 8 ∧ (mcT q = 0 ∧ msT q = 0 ∨ h.1.length + mcT q ≤ cN ∧ am_sl h.1 + msT q ≤ cZ) ∧ C q as h (fun r h' => X (k + 1) ls (r.toList ++ st') h')
  | .invokespecial q => ∃ as p n st', st = as.reverse ++ .ref p :: st' ∧ as.length + 1 = na q ∧ am_cat st' ≤ 8 ∧ h.1[p]? = some (rc q, n) ∧ (mcT q = 0 ∧ msT q = 0 ∨ h.1.length + mcT q ≤ cN ∧ am_sl h.1 + msT q ≤ cZ) ∧ C q (.ref p :: as) h (fun r h' => X (k + 1) ls (r.toList ++ st') h')
  | .monitorexit => ∃ p st', st = .ref p :: st' ∧ am_cat st' ≤ 8 ∧ X (k + 1) ls st' h
  | .invokeinterface 0 _ => ∃ x y st', st = .int y :: .int x :: st' ∧ am_cat st' ≤ 8 ∧ X (k + 1) ls (.int (if x < y then y else x) :: st') h
  | .invokeinterface 1 _ => ∃ x y st', st = .int y :: .int x :: st' ∧ am_cat st' ≤ 8 ∧ X (k + 1) ls (.int (if y < x then y else x) :: st') h
  | .invokeinterface 2 _ => ∃ x y st', st = .long y :: .long x :: st' ∧ am_cat st' ≤ 8 ∧ X (k + 1) ls (.long (if y < x then x else y) :: st') h
  | .invokeinterface 3 _ => ∃ x y st', st = .long y :: .long x :: st' ∧ am_cat st' ≤ 8 ∧ X (k + 1) ls (.long (if y < x then y else x) :: st') h
  -- System.arraycopy, of bytes, of ints out of one of the places 0 .. 3
  | .invokedynamic 0 => ∃ a b n0 n1 sp dp n st', st = .int n :: .int dp :: .ref b :: .int sp :: .ref a :: st' ∧ am_cat st' ≤ 8 ∧ h.1[a]? = some (52, n0) ∧ h.1[b]? = some (52, n1) ∧ ¬ sp < 0 ∧ ¬ dp < 0 ∧ ¬ n < 0 ∧ sp.toNatClampNeg + n.toNatClampNeg ≤ n0 ∧ dp.toNatClampNeg + n.toNatClampNeg ≤ n1 ∧ (∀ i, i < n.toNatClampNeg → fits .byte (.int (h.2.1 a (sp.toNatClampNeg + i))) = true) ∧ X (k + 1) ls st' (h.1, va_up h.2.1 b (va_cpy (h.2.1 a) (h.2.1 b) sp.toNatClampNeg dp.toNatClampNeg n.toNatClampNeg), h.2.2)
  | .invokedynamic 1 => ∃ a b n0 n1 sp dp n st', st = .int n :: .int dp :: .ref b :: .int sp :: .ref a :: st' ∧ am_cat st' ≤ 8 ∧ a < 4 ∧ 4 ≤ b ∧ h.1[a]? = some (50, n0) ∧ h.1[b]? = some (50, n1) ∧ ¬ sp < 0 ∧ ¬ dp < 0 ∧ ¬ n < 0 ∧ sp.toNatClampNeg + n.toNatClampNeg ≤ n0 ∧ dp.toNatClampNeg + n.toNatClampNeg ≤ n1 ∧ X (k + 1) ls st' (h.1, va_up h.2.1 b (va_cpy (h.2.1 a) (h.2.1 b) sp.toNatClampNeg dp.toNatClampNeg n.toNatClampNeg), h.2.2)
  | .ireturn => ∃ x, st = [.int x] ∧ Z (some (.int x)) h
  | .lreturn => ∃ x, st = [.long x] ∧ Z (some (.long x)) h
  | .areturn => ∃ r, st = [va_rf r] ∧ Z (some (va_rf r)) h
  | .return_ => st = [] ∧ Z none h
  | _ => False
/-- from here the method comes to its end, with Z: the least such -/
def am_WP (rc na mcT msT : Nat → Nat) (cN cZ : Nat) (cs : List Instr) (C : am_C) (Z : am_Q) (k : Nat) (ls : List (Option Value)) (st : List Value) (h : am_H) : Prop :=
  ∀ X : am_X, (∀ k ls st h, am_step rc na mcT msT cN cZ C Z X k ls st h (am_nth cs k) → X k ls st h) → X k ls st h
end
section
/-! ===== my tables of the classes: kinds of fields (0 int, 1 long, 2 reference, 3 boolean), the statics ===== -/
def am_cl : List vw_C := [(RX0, TX0, 16), (RX1, TX1, 2), (RX2, TX2, 3), (RX3, TX3, 10), (RX4, TX4, 2), (RX5, TX5, 7), (RX6, TX6, 2), (RX7, TX7, 4), (RX8, TX8, 15), (RX9, TX9, 2), (RX10, TX10, 6), (RX11, TX11, 8), (RX12, TX12, 68)]
def am_fk : List (List Nat) := [[3, 0, 0, 0, 0, 1, 1, 0, 2, 2, 0, 2, 2, 2, 2, 0], [2, 1], [2, 2, 0], [2, 2, 2, 2, 2, 3, 0, 0, 0, 0], [2, 2], [2, 2, 2, 3, 0, 0, 0], [2, 0], [2, 2, 2, 2], [2, 2, 2, 2, 2, 2, 2, 2, 2, 2, 0, 0, 0, 2, 0], [2, 2], [2, 2, 0, 1, 1, 0], [2, 2, 2, 2, 2, 2, 2, 2], [0, 2, 2, 2, 2, 2, 0, 1, 2, 2, 2, 2, 2, 2, 2, 0, 2, 0, 3, 0, 0, 0, 2, 0, 2, 2, 0, 2, 0, 1, 0, 2, 2, 0, 1, 2, 2, 2, 2, 2, 2, 2, 2, 2, 2, 2, 2, 2, 2, 2, 2, 2, 2, 0, 0, 0, 0, 2, 0, 0, 0, 0, 0, 0, 0, 0, 0, 0]]
def am_sf : Nat → String × String := fun j => match j with
  | 0 => ("RelayHouse$Sha", "FIRST")
  | 1 => ("RelayHouse$Sha", "ROUNDS")
  | _ => ("RelayHouse$Pen", "NIBBLES")
/-- the words that hold at every call -/
def am_tbl : List Cond := lw_tbl.filter goodWord
end
section
/-! ===== the small machine and the great one: what a place is there ===== -/
def am_vv (ad : Nat → Nat) (v : Value) : Value := match v with
  | .ref a => .ref (ad a)
  | v => v
theorem am_vv_cat (ad : Nat → Nat) (v : Value) : (am_vv ad v).category = v.category := by cases v <;> rfl
theorem am_cat_map (ad : Nat → Nat) (st : List Value) : ((st.map (am_vv ad)).map fun v => v.category).sum = am_cat st := by
  unfold am_cat
  rw [List.map_map]
  congr 1
  apply List.map_congr_left
  intro v _
  exact am_vv_cat ad v
theorem am_vv_rf (ad : Nat → Nat) (r : Option Nat) : am_vv ad (va_rf r) = va_rf (r.map ad) := by cases r <;> rfl
def am_fv (ad : Nat → Nat) (h : am_H) (p t j : Nat) : Value := match (am_fk.getD t []).getD j 0 with
  | 1 => .long (h.2.2.1 p j)
  | 2 => va_rf ((h.2.2.2 p j).map ad)
  | _ => .int (h.2.1 p j)
def am_el (ad : Nat → Nat) (cA : Nat → ClassId) (h : am_H) (p : Nat) : va_E := match h.1[p]? with
  | none => .inr (0, [])
  | some (t, n) =>
    if t < 50 then .inr (t, (List.range n).map (am_fv ad h p t))
    else if t = 51 then .inl (cA 51, n, .inr (.inl (h.2.2.1 p)))
    else if t = 54 then .inl (cA 54, n, .inr (.inr (.inr (.inr (fun i => (h.2.2.2 p i).map ad)))))
    else .inl (cA t, n, .inl (h.2.1 p))
def am_ws (ad : Nat → Nat) (cA : Nat → ClassId) (h : am_H) : va_W := (List.range (h.1.length - 4)).map (fun j => (ad (j + 4), am_el ad cA h (j + 4)))
theorem am_ws_at {ad : Nat → Nat} {cA : Nat → ClassId} {h : am_H} {p : Nat} (h4 : 4 ≤ p) (hp : p < h.1.length) : (am_ws ad cA h)[p - 4]? = some (ad p, am_el ad cA h p) := by
  unfold am_ws
  rw [List.getElem?_map, List.getElem?_range (by omega)]
  have : p - 4 + 4 = p := by omega
  simp [this]
theorem am_ws_set {ad : Nat → Nat} {cA : Nat → ClassId} {h h' : am_H} {p : Nat} {e : va_E} (h4 : 4 ≤ p) (hp : p < h.1.length) (hl : h'.1 = h.1) (he : am_el ad cA h' p = e) (ho : ∀ q, q ≠ p → am_el ad cA h' q = am_el ad cA h q) :
    (am_ws ad cA h).set (p - 4) (ad p, e) = am_ws ad cA h' := by
  unfold am_ws
  apply List.ext_getElem?
  intro i
  rw [List.getElem?_set]
  by_cases hi : p - 4 = i
  · subst hi
    have h1 : p - 4 + 4 = p := by omega
    have h2 : p - 4 < h.1.length - 4 := by omega
    rw [if_pos rfl, if_pos (by simp; omega), List.getElem?_map, hl, List.getElem?_range h2]
    simp [h1, he]
  · rw [if_neg hi, List.getElem?_map, List.getElem?_map, hl]
    by_cases hlt : i < h.1.length - 4
    · rw [List.getElem?_range hlt]
      simp [ho (i + 4) (by omega)]
    · rw [List.getElem?_eq_none (by simp; omega)]
      rfl
theorem am_ws_push {ad : Nat → Nat} {cA : Nat → ClassId} {h h' : am_H} {e : va_E} {q : Nat × Nat} (h4 : 4 ≤ h.1.length) (hl : h'.1 = h.1 ++ [q]) (he : am_el ad cA h' h.1.length = e) (ho : ∀ j, j < h.1.length → am_el ad cA h' j = am_el ad cA h j) :
    am_ws ad cA h ++ [(ad h.1.length, e)] = am_ws ad cA h' := by
  unfold am_ws
  have e1 : h'.1.length - 4 = (h.1.length - 4) + 1 := by rw [hl]; simp; omega
  rw [e1, List.range_succ, List.map_append]
  congr 1
  · apply List.map_congr_left
    intro j hj
    rw [List.mem_range] at hj
    rw [ho (j + 4) (by omega)]
  · have h1 : h.1.length - 4 + 4 = h.1.length := by omega
    simp [h1, he]
def am_tys (cA : Nat → ClassId) : List (ClassId × FieldType) := [(cA 50, .int), (cA 51, .long), (cA 52, .byte), (cA 53, .boolean), (cA 54, .object RX0)]
/-- the heap holds what the small machine's tables hold -/
def am_rel (D : va_G) (ad : Nat → Nat) (cA : Nat → ClassId) (base : Nat) (L0 : Nat → Nat) (X0 : Nat → Nat → Int32) (h : am_H) (H : Heap) : Prop :=
  va_P D am_cl (am_ws ad cA h) H ∧ va_D (fun q => base ≤ q) (am_ws ad cA h) ∧ 4 ≤ h.1.length ∧ (∀ j : Nat, j < 4 → h.1[j]? = some (50, L0 j) ∧ h.2.1 j = X0 j) ∧ (∀ (p : Nat) (q : Nat × Nat), h.1[p]? = some q → q.1 < 50 → ∃ Cn T, am_cl[q.1]? = some (Cn, T, q.2))
def am_loc (ad : Nat → Nat) (ls : List (Option Value)) (nL : Nat) (lr : Array Slot) : Prop := lr.size = nL ∧ lv_wf lr ∧ ls.length = nL ∧ ∀ (j : Nat) (v : Value), ls[j]? = some (some v) → lr[j]? = some (.val (am_vv ad v))
/-- no reference but to a place that is there -/
def am_okv (n : Nat) (v : Value) : Prop := match v with
  | .ref a => a < n
  | _ => True
def am_wf (ls : List (Option Value)) (st : List Value) (h : am_H) : Prop := (∀ v, some v ∈ ls → am_okv h.1.length v) ∧ (∀ v ∈ st, am_okv h.1.length v) ∧ (∀ p k q, h.2.2.2 p k = some q → q < h.1.length)
theorem am_vv_to {ad ad' : Nat → Nat} {n : Nat} {v : Value} (hv : am_okv n v) (ha : ∀ j, j < n → ad' j = ad j) : am_vv ad' v = am_vv ad v := by
  cases v <;> first | rfl | exact congrArg Value.ref (ha _ hv)
theorem am_okv_le {n n' : Nat} {v : Value} (hv : am_okv n v) (hn : n ≤ n') : am_okv n' v := by
  cases v <;> first | trivial | exact Nat.lt_of_lt_of_le hv hn
/-- what is the same all along: the machine, the method's code, the tables' words, the array classes, the arrays that nobody writes -/
def am_env (D : va_G) (a0 : Nat → Nat) (cA : Nat → ClassId) (base : Nat) (L0 : Nat → Nat) (X0 : Nat → Nat → Int32) (U : State) : Prop :=
  va_K D am_cl (am_tys cA) U ∧ (∀ j, j < 4 → va_X (a0 j) (L0 j) (X0 j) U U.heap ∧ a0 j < base) ∧ base ≤ U.heap.size ∧
  (∀ j, j < 3 → va_Z (am_sf j).1 (am_sf j).2 "[I" (.ref (a0 j)) (fun q => base ≤ q) U U.heap) ∧
  (∀ j, j < 5 → U.vm.findClass ("[" ++ (((am_tys cA).getD j (0, .int)).2).toString) = some ((am_tys cA).getD j (0, .int)).1) ∧ va_AO RX0 U ∧ (∀ (a : String) (i : Nat) (x : MethodName) (hh : String), Cond.methodLinkNest a i x hh ∈ lw_tbl → va_Nw (.methodLinkNest a i x hh) U)
def am_F (p : Program) (s : State) (m : MethodId) (args : Array Value) (c : Code) (cc : ByteArray) (nL : Nat) (own : String) (Ts : List Cond) (D : va_G) (a0 : Nat → Nat) (cA : Nat → ClassId) (base : Nat) (L0 : Nat → Nat) (X0 : Nat → Nat → Int32) : Prop :=
  p.tables.exec = Jvm.exec ∧ c.code = cc ∧ c.maxLocals = nL ∧ s.vm.findClass own = some m.cls ∧ (∀ w ∈ Ts, w.before args s = true) ∧ (∀ w ∈ am_tbl, w ∈ Ts) ∧ am_env D a0 cA base L0 X0 s
/-- at an instruction of a method: any heap that holds the tables, any locals that hold what is known: the great machine comes to Qm -/
def am_J (p : Program) (l : Launch) (e : Env) (R : Room) (s : State) (m : MethodId) (args : Array Value) (below : List Frame) (meth : Method) (c : Code) (Qm : State → Prop) (nL : Nat) (D : va_G) (a0 : Nat → Nat) (cA : Nat → ClassId) (base : Nat) (L0 : Nat → Nat) (X0 : Nat → Nat → Int32) (n0 z0 : Nat) (pcs : Nat → Nat) : am_X :=
  fun k ls st h => ∀ (ad : Nat → Nat) (H : Heap) (locs : List Loc) (lr : Array Slot) (cells slots : Nat), (∀ j, j < n0 → ad j = a0 j) → am_wf ls st h → am_rel D ad cA base L0 X0 h H → va_S (fun q => base ≤ q) s.heap H locs → am_loc ad ls nL lr → cells + n0 = h.1.length → slots + z0 = am_sl h.1 → (h.1.length ≤ n0 + R.cells ∧ am_sl h.1 ≤ z0 + R.slots) →
    W p l e R s m args below meth c H locs cells slots Qm (F0 m (pcs k) lr (st.map (am_vv ad)))
theorem am_lt {α : Type} {l : List α} {p : Nat} {q : α} (h : l[p]? = some q) : p < l.length := (List.getElem?_eq_some_iff.mp h).1
theorem am_el_obj {ad : Nat → Nat} {cA : Nat → ClassId} {h : am_H} {p t n : Nat} (hp : h.1[p]? = some (t, n)) (ht : t < 50) : am_el ad cA h p = .inr (t, (List.range n).map (am_fv ad h p t)) := by
  unfold am_el
  rw [hp]
  simp [ht]
theorem am_el_arr {ad : Nat → Nat} {cA : Nat → ClassId} {h : am_H} {p t n : Nat} (hp : h.1[p]? = some (t, n)) (ht : ¬ t < 50) (h1 : ¬ t = 51) (h2 : ¬ t = 54) : am_el ad cA h p = .inl (cA t, n, .inl (h.2.1 p)) := by
  unfold am_el
  rw [hp]
  simp [ht, h1, h2]
theorem am_el_51 {ad : Nat → Nat} {cA : Nat → ClassId} {h : am_H} {p n : Nat} (hp : h.1[p]? = some (51, n)) : am_el ad cA h p = .inl (cA 51, n, .inr (.inl (h.2.2.1 p))) := by
  unfold am_el
  rw [hp]
  simp
theorem am_el_54 {ad : Nat → Nat} {cA : Nat → ClassId} {h : am_H} {p n : Nat} (hp : h.1[p]? = some (54, n)) : am_el ad cA h p = .inl (cA 54, n, .inr (.inr (.inr (.inr (fun i => (h.2.2.2 p i).map ad))))) := by
  unfold am_el
  rw [hp]
  simp
end
section
section AMB
variable {p : Program} {l : Launch} {e : Env} {R : Room} {s : State} {m : MethodId} {args : Array Value} {below : List Frame} {meth : Method} {c : Code} {Qm : State → Prop} {cc : ByteArray} {nL : Nat} {own : String} {Ts : List Cond} {D : va_G} {a0 : Nat → Nat} {cA : Nat → ClassId} {base : Nat} {L0 : Nat → Nat} {X0 : Nat → Nat → Int32} {n0 z0 : Nat} {pcs : Nat → Nat} {rc na mcT msT : Nat → Nat} {cN cZ : Nat} {C : am_C} {Z : am_Q} {k : Nat} {ls : List (Option Value)} {st : List Value} {h : am_H}
theorem am_wfl {ls : List (Option Value)} {st : List Value} {h : am_H} {j : Nat} {v : Value} (hw : am_wf ls st h) (hj : ls[j]? = some (some v)) : am_wf ls (v :: st) h := by
  refine ⟨hw.1, fun w hm => ?_, hw.2.2⟩
  rcases List.mem_cons.mp hm with rfl | hm
  · exact hw.1 w (List.mem_of_getElem? hj)
  · exact hw.2.1 w hm
theorem am_wfs {ls : List (Option Value)} {st st2 : List Value} {h : am_H} (hw : am_wf ls st h) (hm : ∀ v ∈ st2, v ∈ st) : am_wf ls st2 h := ⟨hw.1, fun w q => hw.2.1 w (hm w q), hw.2.2⟩
theorem aj_iadd (F : am_F p s m args c cc nL own Ts D a0 cA base L0 X0) (hd : decode cc (pcs k) = .ok (.iadd, 1)) (hn : pcs (k + 1) = pcs k + 1) (hs : am_step rc na mcT msT cN cZ C Z (am_J p l e R s m args below meth c Qm nL D a0 cA base L0 X0 n0 z0 pcs) k ls st h (.iadd)) : (am_J p l e R s m args below meth c Qm nL D a0 cA base L0 X0 n0 z0 pcs) k ls st h := by
  obtain ⟨x, y, st1, rfl, hX⟩ := hs
  intro ad H locs lr cells slots hag hwf hR hS hL hc hz hcap
  have hw := hX ad H locs lr cells slots hag ⟨hwf.1, by simpa [am_okv] using hwf.2.1, hwf.2.2⟩ hR hS hL hc hz hcap
  rw [hn] at hw
  exact lv_iadd F.1 F.2.1 hd hw
theorem aj_isub (F : am_F p s m args c cc nL own Ts D a0 cA base L0 X0) (hd : decode cc (pcs k) = .ok (.isub, 1)) (hn : pcs (k + 1) = pcs k + 1) (hs : am_step rc na mcT msT cN cZ C Z (am_J p l e R s m args below meth c Qm nL D a0 cA base L0 X0 n0 z0 pcs) k ls st h (.isub)) : (am_J p l e R s m args below meth c Qm nL D a0 cA base L0 X0 n0 z0 pcs) k ls st h := by
  obtain ⟨x, y, st1, rfl, hX⟩ := hs
  intro ad H locs lr cells slots hag hwf hR hS hL hc hz hcap
  have hw := hX ad H locs lr cells slots hag ⟨hwf.1, by simpa [am_okv] using hwf.2.1, hwf.2.2⟩ hR hS hL hc hz hcap
  rw [hn] at hw
  exact lv_isub F.1 F.2.1 hd hw
theorem aj_imul (F : am_F p s m args c cc nL own Ts D a0 cA base L0 X0) (hd : decode cc (pcs k) = .ok (.imul, 1)) (hn : pcs (k + 1) = pcs k + 1) (hs : am_step rc na mcT msT cN cZ C Z (am_J p l e R s m args below meth c Qm nL D a0 cA base L0 X0 n0 z0 pcs) k ls st h (.imul)) : (am_J p l e R s m args below meth c Qm nL D a0 cA base L0 X0 n0 z0 pcs) k ls st h := by
  obtain ⟨x, y, st1, rfl, hX⟩ := hs
  intro ad H locs lr cells slots hag hwf hR hS hL hc hz hcap
  have hw := hX ad H locs lr cells slots hag ⟨hwf.1, by simpa [am_okv] using hwf.2.1, hwf.2.2⟩ hR hS hL hc hz hcap
  rw [hn] at hw
  exact lv_imul F.1 F.2.1 hd hw
theorem aj_iand (F : am_F p s m args c cc nL own Ts D a0 cA base L0 X0) (hd : decode cc (pcs k) = .ok (.iand, 1)) (hn : pcs (k + 1) = pcs k + 1) (hs : am_step rc na mcT msT cN cZ C Z (am_J p l e R s m args below meth c Qm nL D a0 cA base L0 X0 n0 z0 pcs) k ls st h (.iand)) : (am_J p l e R s m args below meth c Qm nL D a0 cA base L0 X0 n0 z0 pcs) k ls st h := by
  obtain ⟨x, y, st1, rfl, hX⟩ := hs
  intro ad H locs lr cells slots hag hwf hR hS hL hc hz hcap
  have hw := hX ad H locs lr cells slots hag ⟨hwf.1, by simpa [am_okv] using hwf.2.1, hwf.2.2⟩ hR hS hL hc hz hcap
  rw [hn] at hw
  exact lv_iand F.1 F.2.1 hd hw
theorem aj_ior (F : am_F p s m args c cc nL own Ts D a0 cA base L0 X0) (hd : decode cc (pcs k) = .ok (.ior, 1)) (hn : pcs (k + 1) = pcs k + 1) (hs : am_step rc na mcT msT cN cZ C Z (am_J p l e R s m args below meth c Qm nL D a0 cA base L0 X0 n0 z0 pcs) k ls st h (.ior)) : (am_J p l e R s m args below meth c Qm nL D a0 cA base L0 X0 n0 z0 pcs) k ls st h := by
  obtain ⟨x, y, st1, rfl, hX⟩ := hs
  intro ad H locs lr cells slots hag hwf hR hS hL hc hz hcap
  have hw := hX ad H locs lr cells slots hag ⟨hwf.1, by simpa [am_okv] using hwf.2.1, hwf.2.2⟩ hR hS hL hc hz hcap
  rw [hn] at hw
  exact lv_ior F.1 F.2.1 hd hw
theorem aj_ixor (F : am_F p s m args c cc nL own Ts D a0 cA base L0 X0) (hd : decode cc (pcs k) = .ok (.ixor, 1)) (hn : pcs (k + 1) = pcs k + 1) (hs : am_step rc na mcT msT cN cZ C Z (am_J p l e R s m args below meth c Qm nL D a0 cA base L0 X0 n0 z0 pcs) k ls st h (.ixor)) : (am_J p l e R s m args below meth c Qm nL D a0 cA base L0 X0 n0 z0 pcs) k ls st h := by
  obtain ⟨x, y, st1, rfl, hX⟩ := hs
  intro ad H locs lr cells slots hag hwf hR hS hL hc hz hcap
  have hw := hX ad H locs lr cells slots hag ⟨hwf.1, by simpa [am_okv] using hwf.2.1, hwf.2.2⟩ hR hS hL hc hz hcap
  rw [hn] at hw
  exact lv_ixor F.1 F.2.1 hd hw
theorem aj_ishl (F : am_F p s m args c cc nL own Ts D a0 cA base L0 X0) (hd : decode cc (pcs k) = .ok (.ishl, 1)) (hn : pcs (k + 1) = pcs k + 1) (hs : am_step rc na mcT msT cN cZ C Z (am_J p l e R s m args below meth c Qm nL D a0 cA base L0 X0 n0 z0 pcs) k ls st h (.ishl)) : (am_J p l e R s m args below meth c Qm nL D a0 cA base L0 X0 n0 z0 pcs) k ls st h := by
  obtain ⟨x, y, st1, rfl, hX⟩ := hs
  intro ad H locs lr cells slots hag hwf hR hS hL hc hz hcap
  have hw := hX ad H locs lr cells slots hag ⟨hwf.1, by simpa [am_okv] using hwf.2.1, hwf.2.2⟩ hR hS hL hc hz hcap
  rw [hn] at hw
  exact lv_ishl F.1 F.2.1 hd hw
theorem aj_ishr (F : am_F p s m args c cc nL own Ts D a0 cA base L0 X0) (hd : decode cc (pcs k) = .ok (.ishr, 1)) (hn : pcs (k + 1) = pcs k + 1) (hs : am_step rc na mcT msT cN cZ C Z (am_J p l e R s m args below meth c Qm nL D a0 cA base L0 X0 n0 z0 pcs) k ls st h (.ishr)) : (am_J p l e R s m args below meth c Qm nL D a0 cA base L0 X0 n0 z0 pcs) k ls st h := by
  obtain ⟨x, y, st1, rfl, hX⟩ := hs
  intro ad H locs lr cells slots hag hwf hR hS hL hc hz hcap
  have hw := hX ad H locs lr cells slots hag ⟨hwf.1, by simpa [am_okv] using hwf.2.1, hwf.2.2⟩ hR hS hL hc hz hcap
  rw [hn] at hw
  exact lv_ishr F.1 F.2.1 hd hw
theorem aj_ladd (F : am_F p s m args c cc nL own Ts D a0 cA base L0 X0) (hd : decode cc (pcs k) = .ok (.ladd, 1)) (hn : pcs (k + 1) = pcs k + 1) (hs : am_step rc na mcT msT cN cZ C Z (am_J p l e R s m args below meth c Qm nL D a0 cA base L0 X0 n0 z0 pcs) k ls st h (.ladd)) : (am_J p l e R s m args below meth c Qm nL D a0 cA base L0 X0 n0 z0 pcs) k ls st h := by
  obtain ⟨x, y, st1, rfl, hX⟩ := hs
  intro ad H locs lr cells slots hag hwf hR hS hL hc hz hcap
  have hw := hX ad H locs lr cells slots hag ⟨hwf.1, by simpa [am_okv] using hwf.2.1, hwf.2.2⟩ hR hS hL hc hz hcap
  rw [hn] at hw
  exact lv_ladd F.1 F.2.1 hd hw
theorem aj_lsub (F : am_F p s m args c cc nL own Ts D a0 cA base L0 X0) (hd : decode cc (pcs k) = .ok (.lsub, 1)) (hn : pcs (k + 1) = pcs k + 1) (hs : am_step rc na mcT msT cN cZ C Z (am_J p l e R s m args below meth c Qm nL D a0 cA base L0 X0 n0 z0 pcs) k ls st h (.lsub)) : (am_J p l e R s m args below meth c Qm nL D a0 cA base L0 X0 n0 z0 pcs) k ls st h := by
  obtain ⟨x, y, st1, rfl, hX⟩ := hs
  intro ad H locs lr cells slots hag hwf hR hS hL hc hz hcap
  have hw := hX ad H locs lr cells slots hag ⟨hwf.1, by simpa [am_okv] using hwf.2.1, hwf.2.2⟩ hR hS hL hc hz hcap
  rw [hn] at hw
  exact lv_lsub F.1 F.2.1 hd hw
theorem aj_lmul (F : am_F p s m args c cc nL own Ts D a0 cA base L0 X0) (hd : decode cc (pcs k) = .ok (.lmul, 1)) (hn : pcs (k + 1) = pcs k + 1) (hs : am_step rc na mcT msT cN cZ C Z (am_J p l e R s m args below meth c Qm nL D a0 cA base L0 X0 n0 z0 pcs) k ls st h (.lmul)) : (am_J p l e R s m args below meth c Qm nL D a0 cA base L0 X0 n0 z0 pcs) k ls st h := by
  obtain ⟨x, y, st1, rfl, hX⟩ := hs
  intro ad H locs lr cells slots hag hwf hR hS hL hc hz hcap
  have hw := hX ad H locs lr cells slots hag ⟨hwf.1, by simpa [am_okv] using hwf.2.1, hwf.2.2⟩ hR hS hL hc hz hcap
  rw [hn] at hw
  exact lv_lmul F.1 F.2.1 hd hw
theorem aj_land (F : am_F p s m args c cc nL own Ts D a0 cA base L0 X0) (hd : decode cc (pcs k) = .ok (.land, 1)) (hn : pcs (k + 1) = pcs k + 1) (hs : am_step rc na mcT msT cN cZ C Z (am_J p l e R s m args below meth c Qm nL D a0 cA base L0 X0 n0 z0 pcs) k ls st h (.land)) : (am_J p l e R s m args below meth c Qm nL D a0 cA base L0 X0 n0 z0 pcs) k ls st h := by
  obtain ⟨x, y, st1, rfl, hX⟩ := hs
  intro ad H locs lr cells slots hag hwf hR hS hL hc hz hcap
  have hw := hX ad H locs lr cells slots hag ⟨hwf.1, by simpa [am_okv] using hwf.2.1, hwf.2.2⟩ hR hS hL hc hz hcap
  rw [hn] at hw
  exact lv_land F.1 F.2.1 hd hw
theorem aj_lor (F : am_F p s m args c cc nL own Ts D a0 cA base L0 X0) (hd : decode cc (pcs k) = .ok (.lor, 1)) (hn : pcs (k + 1) = pcs k + 1) (hs : am_step rc na mcT msT cN cZ C Z (am_J p l e R s m args below meth c Qm nL D a0 cA base L0 X0 n0 z0 pcs) k ls st h (.lor)) : (am_J p l e R s m args below meth c Qm nL D a0 cA base L0 X0 n0 z0 pcs) k ls st h := by
  obtain ⟨x, y, st1, rfl, hX⟩ := hs
  intro ad H locs lr cells slots hag hwf hR hS hL hc hz hcap
  have hw := hX ad H locs lr cells slots hag ⟨hwf.1, by simpa [am_okv] using hwf.2.1, hwf.2.2⟩ hR hS hL hc hz hcap
  rw [hn] at hw
  exact lv_lor F.1 F.2.1 hd hw
theorem aj_iushr (F : am_F p s m args c cc nL own Ts D a0 cA base L0 X0) (hd : decode cc (pcs k) = .ok (.iushr, 1)) (hn : pcs (k + 1) = pcs k + 1) (hs : am_step rc na mcT msT cN cZ C Z (am_J p l e R s m args below meth c Qm nL D a0 cA base L0 X0 n0 z0 pcs) k ls st h (.iushr)) : (am_J p l e R s m args below meth c Qm nL D a0 cA base L0 X0 n0 z0 pcs) k ls st h := by
  obtain ⟨x, y, st1, rfl, hX⟩ := hs
  intro ad H locs lr cells slots hag hwf hR hS hL hc hz hcap
  have hw := hX ad H locs lr cells slots hag ⟨hwf.1, by simpa [am_okv] using hwf.2.1, hwf.2.2⟩ hR hS hL hc hz hcap
  rw [hn] at hw
  exact lv_iushr F.1 F.2.1 hd rfl hw
theorem aj_lushr (F : am_F p s m args c cc nL own Ts D a0 cA base L0 X0) (hd : decode cc (pcs k) = .ok (.lushr, 1)) (hn : pcs (k + 1) = pcs k + 1) (hs : am_step rc na mcT msT cN cZ C Z (am_J p l e R s m args below meth c Qm nL D a0 cA base L0 X0 n0 z0 pcs) k ls st h (.lushr)) : (am_J p l e R s m args below meth c Qm nL D a0 cA base L0 X0 n0 z0 pcs) k ls st h := by
  obtain ⟨x, y, st1, rfl, hX⟩ := hs
  intro ad H locs lr cells slots hag hwf hR hS hL hc hz hcap
  have hw := hX ad H locs lr cells slots hag ⟨hwf.1, by simpa [am_okv] using hwf.2.1, hwf.2.2⟩ hR hS hL hc hz hcap
  rw [hn] at hw
  exact lv_lushr F.1 F.2.1 hd rfl hw
theorem aj_lshl (F : am_F p s m args c cc nL own Ts D a0 cA base L0 X0) (hd : decode cc (pcs k) = .ok (.lshl, 1)) (hn : pcs (k + 1) = pcs k + 1) (hs : am_step rc na mcT msT cN cZ C Z (am_J p l e R s m args below meth c Qm nL D a0 cA base L0 X0 n0 z0 pcs) k ls st h (.lshl)) : (am_J p l e R s m args below meth c Qm nL D a0 cA base L0 X0 n0 z0 pcs) k ls st h := by
  obtain ⟨x, y, st1, rfl, hX⟩ := hs
  intro ad H locs lr cells slots hag hwf hR hS hL hc hz hcap
  have hw := hX ad H locs lr cells slots hag ⟨hwf.1, by simpa [am_okv] using hwf.2.1, hwf.2.2⟩ hR hS hL hc hz hcap
  rw [hn] at hw
  exact lv_lshl F.1 F.2.1 hd rfl hw
theorem aj_lshr (F : am_F p s m args c cc nL own Ts D a0 cA base L0 X0) (hd : decode cc (pcs k) = .ok (.lshr, 1)) (hn : pcs (k + 1) = pcs k + 1) (hs : am_step rc na mcT msT cN cZ C Z (am_J p l e R s m args below meth c Qm nL D a0 cA base L0 X0 n0 z0 pcs) k ls st h (.lshr)) : (am_J p l e R s m args below meth c Qm nL D a0 cA base L0 X0 n0 z0 pcs) k ls st h := by
  obtain ⟨x, y, st1, rfl, hX⟩ := hs
  intro ad H locs lr cells slots hag hwf hR hS hL hc hz hcap
  have hw := hX ad H locs lr cells slots hag ⟨hwf.1, by simpa [am_okv] using hwf.2.1, hwf.2.2⟩ hR hS hL hc hz hcap
  rw [hn] at hw
  exact lv_lshr F.1 F.2.1 hd rfl hw
theorem aj_idiv (F : am_F p s m args c cc nL own Ts D a0 cA base L0 X0) (hd : decode cc (pcs k) = .ok (.idiv, 1)) (hn : pcs (k + 1) = pcs k + 1) (hs : am_step rc na mcT msT cN cZ C Z (am_J p l e R s m args below meth c Qm nL D a0 cA base L0 X0 n0 z0 pcs) k ls st h (.idiv)) : (am_J p l e R s m args below meth c Qm nL D a0 cA base L0 X0 n0 z0 pcs) k ls st h := by
  obtain ⟨x, y, st1, rfl, hne, hX⟩ := hs
  intro ad H locs lr cells slots hag hwf hR hS hL hc hz hcap
  have hw := hX ad H locs lr cells slots hag ⟨hwf.1, by simpa [am_okv] using hwf.2.1, hwf.2.2⟩ hR hS hL hc hz hcap
  rw [hn] at hw
  exact lv_idiv F.1 F.2.1 hd hne hw
theorem aj_irem (F : am_F p s m args c cc nL own Ts D a0 cA base L0 X0) (hd : decode cc (pcs k) = .ok (.irem, 1)) (hn : pcs (k + 1) = pcs k + 1) (hs : am_step rc na mcT msT cN cZ C Z (am_J p l e R s m args below meth c Qm nL D a0 cA base L0 X0 n0 z0 pcs) k ls st h (.irem)) : (am_J p l e R s m args below meth c Qm nL D a0 cA base L0 X0 n0 z0 pcs) k ls st h := by
  obtain ⟨x, y, st1, rfl, hne, hX⟩ := hs
  intro ad H locs lr cells slots hag hwf hR hS hL hc hz hcap
  have hw := hX ad H locs lr cells slots hag ⟨hwf.1, by simpa [am_okv] using hwf.2.1, hwf.2.2⟩ hR hS hL hc hz hcap
  rw [hn] at hw
  exact lv_irem F.1 F.2.1 hd hne hw
theorem aj_ldiv (F : am_F p s m args c cc nL own Ts D a0 cA base L0 X0) (hd : decode cc (pcs k) = .ok (.ldiv, 1)) (hn : pcs (k + 1) = pcs k + 1) (hs : am_step rc na mcT msT cN cZ C Z (am_J p l e R s m args below meth c Qm nL D a0 cA base L0 X0 n0 z0 pcs) k ls st h (.ldiv)) : (am_J p l e R s m args below meth c Qm nL D a0 cA base L0 X0 n0 z0 pcs) k ls st h := by
  obtain ⟨x, y, st1, rfl, hne, hX⟩ := hs
  intro ad H locs lr cells slots hag hwf hR hS hL hc hz hcap
  have hw := hX ad H locs lr cells slots hag ⟨hwf.1, by simpa [am_okv] using hwf.2.1, hwf.2.2⟩ hR hS hL hc hz hcap
  rw [hn] at hw
  exact lv_ldiv F.1 F.2.1 hd hne hw
theorem aj_lcmp (F : am_F p s m args c cc nL own Ts D a0 cA base L0 X0) (hd : decode cc (pcs k) = .ok (.lcmp, 1)) (hn : pcs (k + 1) = pcs k + 1) (hs : am_step rc na mcT msT cN cZ C Z (am_J p l e R s m args below meth c Qm nL D a0 cA base L0 X0 n0 z0 pcs) k ls st h (.lcmp)) : (am_J p l e R s m args below meth c Qm nL D a0 cA base L0 X0 n0 z0 pcs) k ls st h := by
  obtain ⟨x, y, st1, rfl, hX⟩ := hs
  intro ad H locs lr cells slots hag hwf hR hS hL hc hz hcap
  have hw := hX ad H locs lr cells slots hag ⟨hwf.1, by simpa [am_okv] using hwf.2.1, hwf.2.2⟩ hR hS hL hc hz hcap
  rw [hn] at hw
  exact W.lcmp F.1 F.2.1 hd hw
theorem aj_i2l (F : am_F p s m args c cc nL own Ts D a0 cA base L0 X0) (hd : decode cc (pcs k) = .ok (.i2l, 1)) (hn : pcs (k + 1) = pcs k + 1) (hs : am_step rc na mcT msT cN cZ C Z (am_J p l e R s m args below meth c Qm nL D a0 cA base L0 X0 n0 z0 pcs) k ls st h (.i2l)) : (am_J p l e R s m args below meth c Qm nL D a0 cA base L0 X0 n0 z0 pcs) k ls st h := by
  obtain ⟨x, st1, rfl, hX⟩ := hs
  intro ad H locs lr cells slots hag hwf hR hS hL hc hz hcap
  have hw := hX ad H locs lr cells slots hag ⟨hwf.1, by simpa [am_okv] using hwf.2.1, hwf.2.2⟩ hR hS hL hc hz hcap
  rw [hn] at hw
  exact lv_i2l F.1 F.2.1 hd rfl hw
theorem aj_l2i (F : am_F p s m args c cc nL own Ts D a0 cA base L0 X0) (hd : decode cc (pcs k) = .ok (.l2i, 1)) (hn : pcs (k + 1) = pcs k + 1) (hs : am_step rc na mcT msT cN cZ C Z (am_J p l e R s m args below meth c Qm nL D a0 cA base L0 X0 n0 z0 pcs) k ls st h (.l2i)) : (am_J p l e R s m args below meth c Qm nL D a0 cA base L0 X0 n0 z0 pcs) k ls st h := by
  obtain ⟨x, st1, rfl, hX⟩ := hs
  intro ad H locs lr cells slots hag hwf hR hS hL hc hz hcap
  have hw := hX ad H locs lr cells slots hag ⟨hwf.1, by simpa [am_okv] using hwf.2.1, hwf.2.2⟩ hR hS hL hc hz hcap
  rw [hn] at hw
  exact lv_l2i F.1 F.2.1 hd rfl hw
theorem aj_i2b (F : am_F p s m args c cc nL own Ts D a0 cA base L0 X0) (hd : decode cc (pcs k) = .ok (.i2b, 1)) (hn : pcs (k + 1) = pcs k + 1) (hs : am_step rc na mcT msT cN cZ C Z (am_J p l e R s m args below meth c Qm nL D a0 cA base L0 X0 n0 z0 pcs) k ls st h (.i2b)) : (am_J p l e R s m args below meth c Qm nL D a0 cA base L0 X0 n0 z0 pcs) k ls st h := by
  obtain ⟨x, st1, rfl, hX⟩ := hs
  intro ad H locs lr cells slots hag hwf hR hS hL hc hz hcap
  have hw := hX ad H locs lr cells slots hag ⟨hwf.1, by simpa [am_okv] using hwf.2.1, hwf.2.2⟩ hR hS hL hc hz hcap
  rw [hn] at hw
  exact lv_i2b F.1 F.2.1 hd rfl hw
theorem aj_dup (F : am_F p s m args c cc nL own Ts D a0 cA base L0 X0) (hd : decode cc (pcs k) = .ok (.dup, 1)) (hn : pcs (k + 1) = pcs k + 1) (hs : am_step rc na mcT msT cN cZ C Z (am_J p l e R s m args below meth c Qm nL D a0 cA base L0 X0 n0 z0 pcs) k ls st h (.dup)) : (am_J p l e R s m args below meth c Qm nL D a0 cA base L0 X0 n0 z0 pcs) k ls st h := by
  obtain ⟨v, st1, rfl, hv, hX⟩ := hs
  intro ad H locs lr cells slots hag hwf hR hS hL hc hz hcap
  have hw := hX ad H locs lr cells slots hag (am_wfs hwf (fun w q => by rcases List.mem_cons.mp q with rfl | q; exact List.mem_cons_self; exact q)) hR hS hL hc hz hcap
  rw [hn] at hw
  exact lv_dup F.1 F.2.1 hd (by rw [am_vv_cat]; exact hv) hw
theorem aj_dup2 (F : am_F p s m args c cc nL own Ts D a0 cA base L0 X0) (hd : decode cc (pcs k) = .ok (.dup2, 1)) (hn : pcs (k + 1) = pcs k + 1) (hs : am_step rc na mcT msT cN cZ C Z (am_J p l e R s m args below meth c Qm nL D a0 cA base L0 X0 n0 z0 pcs) k ls st h (.dup2)) : (am_J p l e R s m args below meth c Qm nL D a0 cA base L0 X0 n0 z0 pcs) k ls st h := by
  obtain ⟨v, w, st1, rfl, hv, hv2, hX⟩ := hs
  intro ad H locs lr cells slots hag hwf hR hS hL hc hz hcap
  have hw := hX ad H locs lr cells slots hag (am_wfs hwf (fun x q => by simp only [List.mem_cons] at q ⊢; rcases q with q | q | q | q | q <;> simp [q])) hR hS hL hc hz hcap
  rw [hn] at hw
  exact lv_dup2_11 F.1 F.2.1 hd (by rw [am_vv_cat]; exact hv) (by rw [am_vv_cat]; exact hv2) hw
theorem aj_pop (F : am_F p s m args c cc nL own Ts D a0 cA base L0 X0) (hd : decode cc (pcs k) = .ok (.pop, 1)) (hn : pcs (k + 1) = pcs k + 1) (hs : am_step rc na mcT msT cN cZ C Z (am_J p l e R s m args below meth c Qm nL D a0 cA base L0 X0 n0 z0 pcs) k ls st h (.pop)) : (am_J p l e R s m args below meth c Qm nL D a0 cA base L0 X0 n0 z0 pcs) k ls st h := by
  obtain ⟨v, st1, rfl, hv, hX⟩ := hs
  intro ad H locs lr cells slots hag hwf hR hS hL hc hz hcap
  have hw := hX ad H locs lr cells slots hag (am_wfs hwf (fun x q => List.mem_cons_of_mem _ q)) hR hS hL hc hz hcap
  rw [hn] at hw
  exact lv_pop F.1 F.2.1 hd (by rw [am_vv_cat]; exact hv) hw
theorem aj_iconst (F : am_F p s m args c cc nL own Ts D a0 cA base L0 X0) {n : Int} (hd : decode cc (pcs k) = .ok (.iconst n, 1)) (hn : pcs (k + 1) = pcs k + 1) (hs : am_step rc na mcT msT cN cZ C Z (am_J p l e R s m args below meth c Qm nL D a0 cA base L0 X0 n0 z0 pcs) k ls st h (.iconst n)) : (am_J p l e R s m args below meth c Qm nL D a0 cA base L0 X0 n0 z0 pcs) k ls st h := by
  have hX := hs
  intro ad H locs lr cells slots hag hwf hR hS hL hc hz hcap
  have hw := hX ad H locs lr cells slots hag ⟨hwf.1, by simpa [am_okv] using hwf.2.1, hwf.2.2⟩ hR hS hL hc hz hcap
  rw [hn] at hw
  exact lv_iconst F.1 F.2.1 hd rfl hw
theorem aj_bipush (F : am_F p s m args c cc nL own Ts D a0 cA base L0 X0) {n : Int} (hv : (Int8.ofInt n).toInt32 = Int32.ofInt n) (hd : decode cc (pcs k) = .ok (.bipush n, 2)) (hn : pcs (k + 1) = pcs k + 2) (hs : am_step rc na mcT msT cN cZ C Z (am_J p l e R s m args below meth c Qm nL D a0 cA base L0 X0 n0 z0 pcs) k ls st h (.iconst n)) : (am_J p l e R s m args below meth c Qm nL D a0 cA base L0 X0 n0 z0 pcs) k ls st h := by
  have hX := hs
  intro ad H locs lr cells slots hag hwf hR hS hL hc hz hcap
  have hw := hX ad H locs lr cells slots hag ⟨hwf.1, by simpa [am_okv] using hwf.2.1, hwf.2.2⟩ hR hS hL hc hz hcap
  rw [hn] at hw
  exact lv_bipush F.1 F.2.1 hd hv hw
theorem aj_sipush (F : am_F p s m args c cc nL own Ts D a0 cA base L0 X0) {n : Int} (hv : (Int16.ofInt n).toInt32 = Int32.ofInt n) (hd : decode cc (pcs k) = .ok (.sipush n, 3)) (hn : pcs (k + 1) = pcs k + 3) (hs : am_step rc na mcT msT cN cZ C Z (am_J p l e R s m args below meth c Qm nL D a0 cA base L0 X0 n0 z0 pcs) k ls st h (.iconst n)) : (am_J p l e R s m args below meth c Qm nL D a0 cA base L0 X0 n0 z0 pcs) k ls st h := by
  have hX := hs
  intro ad H locs lr cells slots hag hwf hR hS hL hc hz hcap
  have hw := hX ad H locs lr cells slots hag ⟨hwf.1, by simpa [am_okv] using hwf.2.1, hwf.2.2⟩ hR hS hL hc hz hcap
  rw [hn] at hw
  exact lv_sipush F.1 F.2.1 hd hv hw
theorem aj_ldc (F : am_F p s m args c cc nL own Ts D a0 cA base L0 X0) {n : Int} {q : Nat} (hv : Cond.constant own q (Int32.ofInt n) ∈ am_tbl) (hd : decode cc (pcs k) = .ok (.ldc q, 2)) (hn : pcs (k + 1) = pcs k + 2) (hs : am_step rc na mcT msT cN cZ C Z (am_J p l e R s m args below meth c Qm nL D a0 cA base L0 X0 n0 z0 pcs) k ls st h (.iconst n)) : (am_J p l e R s m args below meth c Qm nL D a0 cA base L0 X0 n0 z0 pcs) k ls st h := by
  have hX := hs
  intro ad H locs lr cells slots hag hwf hR hS hL hc hz hcap
  have hw := hX ad H locs lr cells slots hag ⟨hwf.1, by simpa [am_okv] using hwf.2.1, hwf.2.2⟩ hR hS hL hc hz hcap
  rw [hn] at hw
  exact lv_ldc F.1 F.2.1 F.2.2.2.1 (F.2.2.2.2.1 _ (F.2.2.2.2.2.1 _ hv)) hd hw
theorem aj_ldcw (F : am_F p s m args c cc nL own Ts D a0 cA base L0 X0) {n : Int} {q : Nat} (hv : Cond.constant own q (Int32.ofInt n) ∈ am_tbl) (hd : decode cc (pcs k) = .ok (.ldc_w q, 3)) (hn : pcs (k + 1) = pcs k + 3) (hs : am_step rc na mcT msT cN cZ C Z (am_J p l e R s m args below meth c Qm nL D a0 cA base L0 X0 n0 z0 pcs) k ls st h (.iconst n)) : (am_J p l e R s m args below meth c Qm nL D a0 cA base L0 X0 n0 z0 pcs) k ls st h := by
  have hX := hs
  intro ad H locs lr cells slots hag hwf hR hS hL hc hz hcap
  have hw := hX ad H locs lr cells slots hag ⟨hwf.1, by simpa [am_okv] using hwf.2.1, hwf.2.2⟩ hR hS hL hc hz hcap
  rw [hn] at hw
  exact lv_ldcw F.1 F.2.1 F.2.2.2.1 (F.2.2.2.2.1 _ (F.2.2.2.2.2.1 _ hv)) hd hw
theorem aj_lconst (F : am_F p s m args c cc nL own Ts D a0 cA base L0 X0) {n : Int} {a : Fin 2} (hv : Int64.ofNat (a : Nat) = Int64.ofInt n) (hd : decode cc (pcs k) = .ok (.lconst a, 1)) (hn : pcs (k + 1) = pcs k + 1) (hs : am_step rc na mcT msT cN cZ C Z (am_J p l e R s m args below meth c Qm nL D a0 cA base L0 X0 n0 z0 pcs) k ls st h (.goto_w n)) : (am_J p l e R s m args below meth c Qm nL D a0 cA base L0 X0 n0 z0 pcs) k ls st h := by
  have hX := hs
  intro ad H locs lr cells slots hag hwf hR hS hL hc hz hcap
  have hw := hX ad H locs lr cells slots hag ⟨hwf.1, by simpa [am_okv] using hwf.2.1, hwf.2.2⟩ hR hS hL hc hz hcap
  rw [hn] at hw
  exact lv_lconst F.1 F.2.1 hd hv hw
theorem aj_ldc2 (F : am_F p s m args c cc nL own Ts D a0 cA base L0 X0) {n : Int} {q : Nat} (hv : Cond.constantLong own q (Int64.ofInt n) ∈ am_tbl) (hd : decode cc (pcs k) = .ok (.ldc2_w q, 3)) (hn : pcs (k + 1) = pcs k + 3) (hs : am_step rc na mcT msT cN cZ C Z (am_J p l e R s m args below meth c Qm nL D a0 cA base L0 X0 n0 z0 pcs) k ls st h (.goto_w n)) : (am_J p l e R s m args below meth c Qm nL D a0 cA base L0 X0 n0 z0 pcs) k ls st h := by
  have hX := hs
  intro ad H locs lr cells slots hag hwf hR hS hL hc hz hcap
  have hw := hX ad H locs lr cells slots hag ⟨hwf.1, by simpa [am_okv] using hwf.2.1, hwf.2.2⟩ hR hS hL hc hz hcap
  rw [hn] at hw
  exact lv_ldc2 F.1 F.2.1 F.2.2.2.1 (F.2.2.2.2.1 _ (F.2.2.2.2.2.1 _ hv)) hd hw
theorem aj_null (F : am_F p s m args c cc nL own Ts D a0 cA base L0 X0) (hd : decode cc (pcs k) = .ok (.aconst_null, 1)) (hn : pcs (k + 1) = pcs k + 1) (hs : am_step rc na mcT msT cN cZ C Z (am_J p l e R s m args below meth c Qm nL D a0 cA base L0 X0 n0 z0 pcs) k ls st h (.aconst_null)) : (am_J p l e R s m args below meth c Qm nL D a0 cA base L0 X0 n0 z0 pcs) k ls st h := by
  have hX := hs
  intro ad H locs lr cells slots hag hwf hR hS hL hc hz hcap
  have hw := hX ad H locs lr cells slots hag ⟨hwf.1, by simpa [am_okv] using hwf.2.1, hwf.2.2⟩ hR hS hL hc hz hcap
  rw [hn] at hw
  exact lv_null F.1 F.2.1 hd hw
theorem aj_iload (F : am_F p s m args c cc nL own Ts D a0 cA base L0 X0) {j : Nat} (hd : decode cc (pcs k) = .ok (.iload j, 2)) (hn : pcs (k + 1) = pcs k + 2) (hs : am_step rc na mcT msT cN cZ C Z (am_J p l e R s m args below meth c Qm nL D a0 cA base L0 X0 n0 z0 pcs) k ls st h (.iload j)) : (am_J p l e R s m args below meth c Qm nL D a0 cA base L0 X0 n0 z0 pcs) k ls st h := by
  obtain ⟨x, hj, hX⟩ := hs
  intro ad H locs lr cells slots hag hwf hR hS hL hc hz hcap
  have hw := hX ad H locs lr cells slots hag ⟨hwf.1, by simpa [am_okv] using hwf.2.1, hwf.2.2⟩ hR hS hL hc hz hcap
  rw [hn] at hw
  exact lv_iload F.1 F.2.1 hd (hL.2.2.2 j _ hj) hw
theorem aj_iloadn (F : am_F p s m args c cc nL own Ts D a0 cA base L0 X0) {j : Nat} {a : Fin 4} (ha : (a : Nat) = j) (hd : decode cc (pcs k) = .ok (.iload_n a, 1)) (hn : pcs (k + 1) = pcs k + 1) (hs : am_step rc na mcT msT cN cZ C Z (am_J p l e R s m args below meth c Qm nL D a0 cA base L0 X0 n0 z0 pcs) k ls st h (.iload j)) : (am_J p l e R s m args below meth c Qm nL D a0 cA base L0 X0 n0 z0 pcs) k ls st h := by
  obtain ⟨x, hj, hX⟩ := hs
  intro ad H locs lr cells slots hag hwf hR hS hL hc hz hcap
  have hw := hX ad H locs lr cells slots hag ⟨hwf.1, by simpa [am_okv] using hwf.2.1, hwf.2.2⟩ hR hS hL hc hz hcap
  rw [hn] at hw
  exact lv_iload_n F.1 F.2.1 hd ha (hL.2.2.2 j _ hj) hw
theorem aj_lload (F : am_F p s m args c cc nL own Ts D a0 cA base L0 X0) {j : Nat} (hd : decode cc (pcs k) = .ok (.lload j, 2)) (hn : pcs (k + 1) = pcs k + 2) (hs : am_step rc na mcT msT cN cZ C Z (am_J p l e R s m args below meth c Qm nL D a0 cA base L0 X0 n0 z0 pcs) k ls st h (.lload j)) : (am_J p l e R s m args below meth c Qm nL D a0 cA base L0 X0 n0 z0 pcs) k ls st h := by
  obtain ⟨x, hj, hX⟩ := hs
  intro ad H locs lr cells slots hag hwf hR hS hL hc hz hcap
  have hw := hX ad H locs lr cells slots hag ⟨hwf.1, by simpa [am_okv] using hwf.2.1, hwf.2.2⟩ hR hS hL hc hz hcap
  rw [hn] at hw
  exact lv_lload F.1 F.2.1 hd (hL.2.2.2 j _ hj) hw
theorem aj_lloadn (F : am_F p s m args c cc nL own Ts D a0 cA base L0 X0) {j : Nat} {a : Fin 4} (ha : (a : Nat) = j) (hd : decode cc (pcs k) = .ok (.lload_n a, 1)) (hn : pcs (k + 1) = pcs k + 1) (hs : am_step rc na mcT msT cN cZ C Z (am_J p l e R s m args below meth c Qm nL D a0 cA base L0 X0 n0 z0 pcs) k ls st h (.lload j)) : (am_J p l e R s m args below meth c Qm nL D a0 cA base L0 X0 n0 z0 pcs) k ls st h := by
  obtain ⟨x, hj, hX⟩ := hs
  intro ad H locs lr cells slots hag hwf hR hS hL hc hz hcap
  have hw := hX ad H locs lr cells slots hag ⟨hwf.1, by simpa [am_okv] using hwf.2.1, hwf.2.2⟩ hR hS hL hc hz hcap
  rw [hn] at hw
  exact lv_lload_n F.1 F.2.1 hd ha (hL.2.2.2 j _ hj) hw
theorem aj_aload (F : am_F p s m args c cc nL own Ts D a0 cA base L0 X0) {j : Nat} (hd : decode cc (pcs k) = .ok (.aload j, 2)) (hn : pcs (k + 1) = pcs k + 2) (hs : am_step rc na mcT msT cN cZ C Z (am_J p l e R s m args below meth c Qm nL D a0 cA base L0 X0 n0 z0 pcs) k ls st h (.aload j)) : (am_J p l e R s m args below meth c Qm nL D a0 cA base L0 X0 n0 z0 pcs) k ls st h := by
  rcases hs with ⟨x, hj, hX⟩ | ⟨hj, hX⟩
  · intro ad H locs lr cells slots hag hwf hR hS hL hc hz hcap
    have hw := hX ad H locs lr cells slots hag (am_wfl hwf hj) hR hS hL hc hz hcap
    rw [hn] at hw
    exact lv_aload F.1 F.2.1 hd (hL.2.2.2 j _ hj) hw
  · intro ad H locs lr cells slots hag hwf hR hS hL hc hz hcap
    have hw := hX ad H locs lr cells slots hag (am_wfl hwf hj) hR hS hL hc hz hcap
    rw [hn] at hw
    exact lv_aloadN F.1 F.2.1 hd (hL.2.2.2 j _ hj) hw
theorem aj_aloadn (F : am_F p s m args c cc nL own Ts D a0 cA base L0 X0) {j : Nat} {a : Fin 4} (ha : (a : Nat) = j) (hd : decode cc (pcs k) = .ok (.aload_n a, 1)) (hn : pcs (k + 1) = pcs k + 1) (hs : am_step rc na mcT msT cN cZ C Z (am_J p l e R s m args below meth c Qm nL D a0 cA base L0 X0 n0 z0 pcs) k ls st h (.aload j)) : (am_J p l e R s m args below meth c Qm nL D a0 cA base L0 X0 n0 z0 pcs) k ls st h := by
  rcases hs with ⟨x, hj, hX⟩ | ⟨hj, hX⟩
  · intro ad H locs lr cells slots hag hwf hR hS hL hc hz hcap
    have hw := hX ad H locs lr cells slots hag (am_wfl hwf hj) hR hS hL hc hz hcap
    rw [hn] at hw
    exact lv_aload_n F.1 F.2.1 hd ha (hL.2.2.2 j _ hj) hw
  · intro ad H locs lr cells slots hag hwf hR hS hL hc hz hcap
    have hw := hX ad H locs lr cells slots hag (am_wfl hwf hj) hR hS hL hc hz hcap
    rw [hn] at hw
    exact lv_aload_nN F.1 F.2.1 hd ha (hL.2.2.2 j _ hj) hw
theorem am_len_k (ls : List (Option Value)) (i : Nat) : (am_k ls i).length = ls.length := by
  unfold am_k
  split
  · rfl
  · split
    · split <;> simp
    · rfl
theorem am_len1 (ls : List (Option Value)) (i : Nat) (v : Value) : (am_set1 ls i v).length = ls.length := by simp [am_set1, am_len_k]
theorem am_len2 (ls : List (Option Value)) (i : Nat) (v : Value) : (am_set2 ls i v).length = ls.length := by simp [am_set2, am_len_k]
/-- what is behind am_k was there before, and is no long just ahead of i -/
theorem am_k_at {ls : List (Option Value)} {i j : Nat} {v : Value} (h : (am_k ls i)[j]? = some (some v)) : ls[j]? = some (some v) ∧ ¬ (j + 1 = i ∧ v.category = 2) := by
  unfold am_k at h
  split at h
  · exact ⟨h, by omega⟩
  · rename_i q
    split at h
    · rename_i w hw
      by_cases hc : w.category = 2
      · rw [if_pos hc, List.getElem?_set] at h
        by_cases hq : q = j
        · subst hq
          rw [if_pos rfl] at h
          split at h <;> simp at h
        · rw [if_neg hq] at h
          exact ⟨h, by omega⟩
      · rw [if_neg hc] at h
        refine ⟨h, fun z => ?_⟩
        have : q = j := by omega
        subst this
        rw [h] at hw
        cases hw
        exact hc z.2
    · rename_i hw
      refine ⟨h, fun z => ?_⟩
      have : q = j := by omega
      subst this
      exact hw v h
def am_ll (ad : Nat → Nat) (ls : List (Option Value)) : List (Nat × Value) := (List.range ls.length).filterMap (fun j => match ls[j]? with
  | some (some v) => some (j, am_vv ad v)
  | _ => none)
theorem am_ll_mem {ad : Nat → Nat} {ls : List (Option Value)} {j : Nat} {v : Value} (h : ls[j]? = some (some v)) : (j, am_vv ad v) ∈ am_ll ad ls := by
  unfold am_ll
  rw [List.mem_filterMap]
  exact ⟨j, List.mem_range.mpr (am_lt h), by rw [h]⟩
theorem am_ll_has {ad : Nat → Nat} {ls : List (Option Value)} {nL : Nat} {lr : Array Slot} (hL : am_loc ad ls nL lr) : lv_has lr nL (am_ll ad ls) := by
  refine ⟨hL.1, hL.2.1, fun q hq => ?_⟩
  unfold am_ll at hq
  rw [List.mem_filterMap] at hq
  obtain ⟨j, -, hj⟩ := hq
  split at hj
  · rename_i v hv
    cases hj
    exact hL.2.2.2 j v hv
  · cases hj
theorem am_mem_k {ls : List (Option Value)} {i : Nat} {v : Value} (hv : some v ∈ am_k ls i) : some v ∈ ls := by
  obtain ⟨j, hj⟩ := List.getElem?_of_mem hv
  exact List.mem_of_getElem? (am_k_at hj).1
theorem am_mem_set {α : Type} {l : List α} {i : Nat} {a b : α} (hb : b ∈ l.set i a) : b = a ∨ b ∈ l := by
  obtain ⟨j, hj⟩ := List.getElem?_of_mem hb
  rw [List.getElem?_set] at hj
  by_cases hi : i = j
  · rw [if_pos hi] at hj
    split at hj
    · exact Or.inl (Option.some.inj hj).symm
    · cases hj
  · rw [if_neg hi] at hj
    exact Or.inr (List.mem_of_getElem? hj)
theorem am_wf1 {ls : List (Option Value)} {st : List Value} {h : am_H} {i : Nat} {v : Value} (h1 : ∀ v, some v ∈ ls → am_okv h.1.length v) (h2 : am_okv h.1.length v ∧ ∀ v ∈ st, am_okv h.1.length v) (h3 : ∀ p k q, h.2.2.2 p k = some q → q < h.1.length) : am_wf (am_set1 ls i v) st h := by
  refine ⟨fun w hw => ?_, h2.2, h3⟩
  rcases am_mem_set hw with e | hw
  · cases e
    exact h2.1
  · exact h1 w (am_mem_k hw)
theorem am_wf2 {ls : List (Option Value)} {st : List Value} {h : am_H} {i : Nat} {v : Value} (h1 : ∀ v, some v ∈ ls → am_okv h.1.length v) (h2 : am_okv h.1.length v ∧ ∀ v ∈ st, am_okv h.1.length v) (h3 : ∀ p k q, h.2.2.2 p k = some q → q < h.1.length) : am_wf (am_set2 ls i v) st h := by
  refine ⟨fun w hw => ?_, h2.2, h3⟩
  rcases am_mem_set hw with e | hw
  · cases e
  rcases am_mem_set hw with e | hw
  · cases e
    exact h2.1
  · exact h1 w (am_mem_k hw)
theorem am_loc1 {ad : Nat → Nat} {ls : List (Option Value)} {nL i : Nat} {lr lr' : Array Slot} {v : Value} (hL : am_loc ad ls nL lr) (h : lv_has lr' nL ((i, am_vv ad v) :: (am_ll ad ls).filter (fun q => !(q.1 == i) && !(q.1 + 1 == i && q.2.category == 2)))) : am_loc ad (am_set1 ls i v) nL lr' := by
  refine ⟨h.1, h.2.1, by rw [am_len1]; exact hL.2.2.1, fun j w hj => ?_⟩
  unfold am_set1 at hj
  rw [List.getElem?_set] at hj
  by_cases hi : i = j
  · subst hi
    rw [if_pos rfl] at hj
    split at hj
    · cases hj
      exact h.2.2 (i, am_vv ad v) List.mem_cons_self
    · cases hj
  · rw [if_neg hi] at hj
    obtain ⟨h1, h2⟩ := am_k_at hj
    refine h.2.2 (j, am_vv ad w) (List.mem_cons_of_mem _ (List.mem_filter.mpr ⟨am_ll_mem h1, ?_⟩))
    simp only [Bool.and_eq_true, Bool.not_eq_true', beq_eq_false_iff_ne, ne_eq, Bool.and_eq_false_iff, am_vv_cat]
    refine ⟨fun z => hi z.symm, ?_⟩
    by_cases hji : j + 1 = i
    · exact Or.inr (fun z => h2 ⟨hji, z⟩)
    · exact Or.inl hji
theorem am_loc2 {ad : Nat → Nat} {ls : List (Option Value)} {nL i : Nat} {lr lr' : Array Slot} {v : Value} (hL : am_loc ad ls nL lr) (h : lv_has lr' nL ((i, am_vv ad v) :: (am_ll ad ls).filter (fun q => !(q.1 == i) && (!(q.1 == i + 1) && !(q.1 + 1 == i && q.2.category == 2))))) : am_loc ad (am_set2 ls i v) nL lr' := by
  refine ⟨h.1, h.2.1, by rw [am_len2]; exact hL.2.2.1, fun j w hj => ?_⟩
  unfold am_set2 at hj
  rw [List.getElem?_set] at hj
  by_cases hi1 : i + 1 = j
  · rw [if_pos hi1] at hj
    split at hj <;> cases hj
  · rw [if_neg hi1, List.getElem?_set] at hj
    by_cases hi : i = j
    · subst hi
      rw [if_pos rfl] at hj
      split at hj
      · cases hj
        exact h.2.2 (i, am_vv ad v) List.mem_cons_self
      · cases hj
    · rw [if_neg hi] at hj
      obtain ⟨h1, h2⟩ := am_k_at hj
      refine h.2.2 (j, am_vv ad w) (List.mem_cons_of_mem _ (List.mem_filter.mpr ⟨am_ll_mem h1, ?_⟩))
      simp only [Bool.and_eq_true, Bool.not_eq_true', beq_eq_false_iff_ne, ne_eq, Bool.and_eq_false_iff, am_vv_cat]
      refine ⟨fun z => hi z.symm, fun z => hi1 z.symm, ?_⟩
      by_cases hji : j + 1 = i
      · exact Or.inr (fun z => h2 ⟨hji, z⟩)
      · exact Or.inl hji
theorem aj_istore (F : am_F p s m args c cc nL own Ts D a0 cA base L0 X0) {j : Nat} (hj : j < nL) (hd : decode cc (pcs k) = .ok (.istore j, 2)) (hn : pcs (k + 1) = pcs k + 2) (hs : am_step rc na mcT msT cN cZ C Z (am_J p l e R s m args below meth c Qm nL D a0 cA base L0 X0 n0 z0 pcs) k ls st h (.istore j)) : (am_J p l e R s m args below meth c Qm nL D a0 cA base L0 X0 n0 z0 pcs) k ls st h := by
  obtain ⟨x, st1, rfl, hX⟩ := hs
  intro ad H locs lr cells slots hag hwf hR hS hL hc hz hcap
  refine lv_istore F.1 F.2.1 hd (am_ll_has hL) hj rfl (fun lr2 hl2 => ?_)
  have hw := hX ad H locs lr2 cells slots hag (am_wf1 hwf.1 (by simpa [am_okv] using hwf.2.1) hwf.2.2) hR hS (am_loc1 hL hl2) hc hz hcap
  rw [hn] at hw
  exact hw
theorem aj_istoren (F : am_F p s m args c cc nL own Ts D a0 cA base L0 X0) {j : Nat} {a : Fin 4} (ha : (a : Nat) = j) (hj : j < nL) (hd : decode cc (pcs k) = .ok (.istore_n a, 1)) (hn : pcs (k + 1) = pcs k + 1) (hs : am_step rc na mcT msT cN cZ C Z (am_J p l e R s m args below meth c Qm nL D a0 cA base L0 X0 n0 z0 pcs) k ls st h (.istore j)) : (am_J p l e R s m args below meth c Qm nL D a0 cA base L0 X0 n0 z0 pcs) k ls st h := by
  obtain ⟨x, st1, rfl, hX⟩ := hs
  intro ad H locs lr cells slots hag hwf hR hS hL hc hz hcap
  refine lv_istore_n F.1 F.2.1 hd ha (am_ll_has hL) hj rfl (fun lr2 hl2 => ?_)
  have hw := hX ad H locs lr2 cells slots hag (am_wf1 hwf.1 (by simpa [am_okv] using hwf.2.1) hwf.2.2) hR hS (am_loc1 hL hl2) hc hz hcap
  rw [hn] at hw
  exact hw
theorem aj_astore (F : am_F p s m args c cc nL own Ts D a0 cA base L0 X0) {j : Nat} (hj : j < nL) (hd : decode cc (pcs k) = .ok (.astore j, 2)) (hn : pcs (k + 1) = pcs k + 2) (hs : am_step rc na mcT msT cN cZ C Z (am_J p l e R s m args below meth c Qm nL D a0 cA base L0 X0 n0 z0 pcs) k ls st h (.astore j)) : (am_J p l e R s m args below meth c Qm nL D a0 cA base L0 X0 n0 z0 pcs) k ls st h := by
  obtain ⟨x, st1, rfl, hX⟩ := hs
  intro ad H locs lr cells slots hag hwf hR hS hL hc hz hcap
  refine lv_astore F.1 F.2.1 hd (am_ll_has hL) hj rfl (fun lr2 hl2 => ?_)
  have hw := hX ad H locs lr2 cells slots hag (am_wf1 hwf.1 (by simpa [am_okv] using hwf.2.1) hwf.2.2) hR hS (am_loc1 hL hl2) hc hz hcap
  rw [hn] at hw
  exact hw
theorem aj_astoren (F : am_F p s m args c cc nL own Ts D a0 cA base L0 X0) {j : Nat} {a : Fin 4} (ha : (a : Nat) = j) (hj : j < nL) (hd : decode cc (pcs k) = .ok (.astore_n a, 1)) (hn : pcs (k + 1) = pcs k + 1) (hs : am_step rc na mcT msT cN cZ C Z (am_J p l e R s m args below meth c Qm nL D a0 cA base L0 X0 n0 z0 pcs) k ls st h (.astore j)) : (am_J p l e R s m args below meth c Qm nL D a0 cA base L0 X0 n0 z0 pcs) k ls st h := by
  obtain ⟨x, st1, rfl, hX⟩ := hs
  intro ad H locs lr cells slots hag hwf hR hS hL hc hz hcap
  refine lv_astore_n F.1 F.2.1 hd ha (am_ll_has hL) hj rfl (fun lr2 hl2 => ?_)
  have hw := hX ad H locs lr2 cells slots hag (am_wf1 hwf.1 (by simpa [am_okv] using hwf.2.1) hwf.2.2) hR hS (am_loc1 hL hl2) hc hz hcap
  rw [hn] at hw
  exact hw
theorem aj_lstore (F : am_F p s m args c cc nL own Ts D a0 cA base L0 X0) {j : Nat} (hj : j + 1 < nL) (hd : decode cc (pcs k) = .ok (.lstore j, 2)) (hn : pcs (k + 1) = pcs k + 2) (hs : am_step rc na mcT msT cN cZ C Z (am_J p l e R s m args below meth c Qm nL D a0 cA base L0 X0 n0 z0 pcs) k ls st h (.lstore j)) : (am_J p l e R s m args below meth c Qm nL D a0 cA base L0 X0 n0 z0 pcs) k ls st h := by
  obtain ⟨x, st1, rfl, hX⟩ := hs
  intro ad H locs lr cells slots hag hwf hR hS hL hc hz hcap
  refine lv_lstore F.1 F.2.1 hd (am_ll_has hL) hj rfl (fun lr2 hl2 => ?_)
  have hw := hX ad H locs lr2 cells slots hag (am_wf2 hwf.1 (by simpa [am_okv] using hwf.2.1) hwf.2.2) hR hS (am_loc2 hL hl2) hc hz hcap
  rw [hn] at hw
  exact hw
theorem aj_lstoren (F : am_F p s m args c cc nL own Ts D a0 cA base L0 X0) {j : Nat} {a : Fin 4} (ha : (a : Nat) = j) (hj : j + 1 < nL) (hd : decode cc (pcs k) = .ok (.lstore_n a, 1)) (hn : pcs (k + 1) = pcs k + 1) (hs : am_step rc na mcT msT cN cZ C Z (am_J p l e R s m args below meth c Qm nL D a0 cA base L0 X0 n0 z0 pcs) k ls st h (.lstore j)) : (am_J p l e R s m args below meth c Qm nL D a0 cA base L0 X0 n0 z0 pcs) k ls st h := by
  obtain ⟨x, st1, rfl, hX⟩ := hs
  intro ad H locs lr cells slots hag hwf hR hS hL hc hz hcap
  refine lv_lstore_n F.1 F.2.1 hd ha (am_ll_has hL) hj rfl (fun lr2 hl2 => ?_)
  have hw := hX ad H locs lr2 cells slots hag (am_wf2 hwf.1 (by simpa [am_okv] using hwf.2.1) hwf.2.2) hR hS (am_loc2 hL hl2) hc hz hcap
  rw [hn] at hw
  exact hw
theorem aj_iinc (F : am_F p s m args c cc nL own Ts D a0 cA base L0 X0) {j : Nat} {n : Int} (hj : j < nL) (hd : decode cc (pcs k) = .ok (.iinc j n, 3)) (hn : pcs (k + 1) = pcs k + 3) (hs : am_step rc na mcT msT cN cZ C Z (am_J p l e R s m args below meth c Qm nL D a0 cA base L0 X0 n0 z0 pcs) k ls st h (.iinc j n)) : (am_J p l e R s m args below meth c Qm nL D a0 cA base L0 X0 n0 z0 pcs) k ls st h := by
  obtain ⟨x, hx, hX⟩ := hs
  intro ad H locs lr cells slots hag hwf hR hS hL hc hz hcap
  obtain ⟨q, hq⟩ := List.getElem?_of_mem (am_ll_mem (ad := ad) hx)
  refine lv_iinc (k := q) F.1 F.2.1 hd (am_ll_has hL) hq rfl hj rfl (fun lr2 hl2 => ?_)
  have hw := hX ad H locs lr2 cells slots hag (am_wf1 hwf.1 ⟨trivial, hwf.2.1⟩ hwf.2.2) hR hS (am_loc1 hL hl2) hc hz hcap
  rw [hn] at hw
  exact hw
theorem aj_goto (F : am_F p s m args c cc nL own Ts D a0 cA base L0 X0) {t off : Int} (hd : decode cc (pcs k) = .ok (.goto off, 3)) (hn : (pcs k : Int) + off = (pcs t.toNat : Nat)) (hs : am_step rc na mcT msT cN cZ C Z (am_J p l e R s m args below meth c Qm nL D a0 cA base L0 X0 n0 z0 pcs) k ls st h (.goto t)) : (am_J p l e R s m args below meth c Qm nL D a0 cA base L0 X0 n0 z0 pcs) k ls st h := by
  have hX := hs
  intro ad H locs lr cells slots hag hwf hR hS hL hc hz hcap
  exact lv_goto F.1 F.2.1 hd hn (hX ad H locs lr cells slots hag ⟨hwf.1, by simpa [am_okv] using hwf.2.1, hwf.2.2⟩ hR hS hL hc hz hcap)
theorem aj_if_eq (F : am_F p s m args c cc nL own Ts D a0 cA base L0 X0) {t off : Int} (hd : decode cc (pcs k) = .ok (.ifCond .eq off, 3)) (hn : pcs (k + 1) = pcs k + 3) (ht : (pcs k : Int) + off = (pcs t.toNat : Nat)) (hs : am_step rc na mcT msT cN cZ C Z (am_J p l e R s m args below meth c Qm nL D a0 cA base L0 X0 n0 z0 pcs) k ls st h (.ifCond .eq t)) : (am_J p l e R s m args below meth c Qm nL D a0 cA base L0 X0 n0 z0 pcs) k ls st h := by
  obtain ⟨x, st1, rfl, hX, hY⟩ := hs
  intro ad H locs lr cells slots hag hwf hR hS hL hc hz hcap
  refine lv_if_eq F.1 F.2.1 hd ht (fun q => hX q ad H locs lr cells slots hag ⟨hwf.1, by simpa [am_okv] using hwf.2.1, hwf.2.2⟩ hR hS hL hc hz hcap) (fun q => ?_)
  have hw := hY q ad H locs lr cells slots hag ⟨hwf.1, by simpa [am_okv] using hwf.2.1, hwf.2.2⟩ hR hS hL hc hz hcap
  rw [hn] at hw
  exact hw
theorem aj_icmp_eq (F : am_F p s m args c cc nL own Ts D a0 cA base L0 X0) {t off : Int} (hd : decode cc (pcs k) = .ok (.if_icmp .eq off, 3)) (hn : pcs (k + 1) = pcs k + 3) (ht : (pcs k : Int) + off = (pcs t.toNat : Nat)) (hs : am_step rc na mcT msT cN cZ C Z (am_J p l e R s m args below meth c Qm nL D a0 cA base L0 X0 n0 z0 pcs) k ls st h (.if_icmp .eq t)) : (am_J p l e R s m args below meth c Qm nL D a0 cA base L0 X0 n0 z0 pcs) k ls st h := by
  obtain ⟨x, y, st1, rfl, hX, hY⟩ := hs
  intro ad H locs lr cells slots hag hwf hR hS hL hc hz hcap
  refine lv_icmp_eq F.1 F.2.1 hd ht (fun q => hX q ad H locs lr cells slots hag ⟨hwf.1, by simpa [am_okv] using hwf.2.1, hwf.2.2⟩ hR hS hL hc hz hcap) (fun q => ?_)
  have hw := hY q ad H locs lr cells slots hag ⟨hwf.1, by simpa [am_okv] using hwf.2.1, hwf.2.2⟩ hR hS hL hc hz hcap
  rw [hn] at hw
  exact hw
theorem aj_if_ne (F : am_F p s m args c cc nL own Ts D a0 cA base L0 X0) {t off : Int} (hd : decode cc (pcs k) = .ok (.ifCond .ne off, 3)) (hn : pcs (k + 1) = pcs k + 3) (ht : (pcs k : Int) + off = (pcs t.toNat : Nat)) (hs : am_step rc na mcT msT cN cZ C Z (am_J p l e R s m args below meth c Qm nL D a0 cA base L0 X0 n0 z0 pcs) k ls st h (.ifCond .ne t)) : (am_J p l e R s m args below meth c Qm nL D a0 cA base L0 X0 n0 z0 pcs) k ls st h := by
  obtain ⟨x, st1, rfl, hX, hY⟩ := hs
  intro ad H locs lr cells slots hag hwf hR hS hL hc hz hcap
  refine lv_if_ne F.1 F.2.1 hd ht (fun q => hX q ad H locs lr cells slots hag ⟨hwf.1, by simpa [am_okv] using hwf.2.1, hwf.2.2⟩ hR hS hL hc hz hcap) (fun q => ?_)
  have hw := hY (fun hq => hq q) ad H locs lr cells slots hag ⟨hwf.1, by simpa [am_okv] using hwf.2.1, hwf.2.2⟩ hR hS hL hc hz hcap
  rw [hn] at hw
  exact hw
theorem aj_icmp_ne (F : am_F p s m args c cc nL own Ts D a0 cA base L0 X0) {t off : Int} (hd : decode cc (pcs k) = .ok (.if_icmp .ne off, 3)) (hn : pcs (k + 1) = pcs k + 3) (ht : (pcs k : Int) + off = (pcs t.toNat : Nat)) (hs : am_step rc na mcT msT cN cZ C Z (am_J p l e R s m args below meth c Qm nL D a0 cA base L0 X0 n0 z0 pcs) k ls st h (.if_icmp .ne t)) : (am_J p l e R s m args below meth c Qm nL D a0 cA base L0 X0 n0 z0 pcs) k ls st h := by
  obtain ⟨x, y, st1, rfl, hX, hY⟩ := hs
  intro ad H locs lr cells slots hag hwf hR hS hL hc hz hcap
  refine lv_icmp_ne F.1 F.2.1 hd ht (fun q => hX q ad H locs lr cells slots hag ⟨hwf.1, by simpa [am_okv] using hwf.2.1, hwf.2.2⟩ hR hS hL hc hz hcap) (fun q => ?_)
  have hw := hY (fun hq => hq q) ad H locs lr cells slots hag ⟨hwf.1, by simpa [am_okv] using hwf.2.1, hwf.2.2⟩ hR hS hL hc hz hcap
  rw [hn] at hw
  exact hw
theorem aj_if_lt (F : am_F p s m args c cc nL own Ts D a0 cA base L0 X0) {t off : Int} (hd : decode cc (pcs k) = .ok (.ifCond .lt off, 3)) (hn : pcs (k + 1) = pcs k + 3) (ht : (pcs k : Int) + off = (pcs t.toNat : Nat)) (hs : am_step rc na mcT msT cN cZ C Z (am_J p l e R s m args below meth c Qm nL D a0 cA base L0 X0 n0 z0 pcs) k ls st h (.ifCond .lt t)) : (am_J p l e R s m args below meth c Qm nL D a0 cA base L0 X0 n0 z0 pcs) k ls st h := by
  obtain ⟨x, st1, rfl, hX, hY⟩ := hs
  intro ad H locs lr cells slots hag hwf hR hS hL hc hz hcap
  refine lv_if_lt F.1 F.2.1 hd ht (fun q => hX q ad H locs lr cells slots hag ⟨hwf.1, by simpa [am_okv] using hwf.2.1, hwf.2.2⟩ hR hS hL hc hz hcap) (fun q => ?_)
  have hw := hY q ad H locs lr cells slots hag ⟨hwf.1, by simpa [am_okv] using hwf.2.1, hwf.2.2⟩ hR hS hL hc hz hcap
  rw [hn] at hw
  exact hw
theorem aj_icmp_lt (F : am_F p s m args c cc nL own Ts D a0 cA base L0 X0) {t off : Int} (hd : decode cc (pcs k) = .ok (.if_icmp .lt off, 3)) (hn : pcs (k + 1) = pcs k + 3) (ht : (pcs k : Int) + off = (pcs t.toNat : Nat)) (hs : am_step rc na mcT msT cN cZ C Z (am_J p l e R s m args below meth c Qm nL D a0 cA base L0 X0 n0 z0 pcs) k ls st h (.if_icmp .lt t)) : (am_J p l e R s m args below meth c Qm nL D a0 cA base L0 X0 n0 z0 pcs) k ls st h := by
  obtain ⟨x, y, st1, rfl, hX, hY⟩ := hs
  intro ad H locs lr cells slots hag hwf hR hS hL hc hz hcap
  refine lv_icmp_lt F.1 F.2.1 hd ht (fun q => hX q ad H locs lr cells slots hag ⟨hwf.1, by simpa [am_okv] using hwf.2.1, hwf.2.2⟩ hR hS hL hc hz hcap) (fun q => ?_)
  have hw := hY q ad H locs lr cells slots hag ⟨hwf.1, by simpa [am_okv] using hwf.2.1, hwf.2.2⟩ hR hS hL hc hz hcap
  rw [hn] at hw
  exact hw
theorem aj_if_ge (F : am_F p s m args c cc nL own Ts D a0 cA base L0 X0) {t off : Int} (hd : decode cc (pcs k) = .ok (.ifCond .ge off, 3)) (hn : pcs (k + 1) = pcs k + 3) (ht : (pcs k : Int) + off = (pcs t.toNat : Nat)) (hs : am_step rc na mcT msT cN cZ C Z (am_J p l e R s m args below meth c Qm nL D a0 cA base L0 X0 n0 z0 pcs) k ls st h (.ifCond .ge t)) : (am_J p l e R s m args below meth c Qm nL D a0 cA base L0 X0 n0 z0 pcs) k ls st h := by
  obtain ⟨x, st1, rfl, hX, hY⟩ := hs
  intro ad H locs lr cells slots hag hwf hR hS hL hc hz hcap
  refine lv_if_ge F.1 F.2.1 hd ht (fun q => hX q ad H locs lr cells slots hag ⟨hwf.1, by simpa [am_okv] using hwf.2.1, hwf.2.2⟩ hR hS hL hc hz hcap) (fun q => ?_)
  have hw := hY q ad H locs lr cells slots hag ⟨hwf.1, by simpa [am_okv] using hwf.2.1, hwf.2.2⟩ hR hS hL hc hz hcap
  rw [hn] at hw
  exact hw
theorem aj_icmp_ge (F : am_F p s m args c cc nL own Ts D a0 cA base L0 X0) {t off : Int} (hd : decode cc (pcs k) = .ok (.if_icmp .ge off, 3)) (hn : pcs (k + 1) = pcs k + 3) (ht : (pcs k : Int) + off = (pcs t.toNat : Nat)) (hs : am_step rc na mcT msT cN cZ C Z (am_J p l e R s m args below meth c Qm nL D a0 cA base L0 X0 n0 z0 pcs) k ls st h (.if_icmp .ge t)) : (am_J p l e R s m args below meth c Qm nL D a0 cA base L0 X0 n0 z0 pcs) k ls st h := by
  obtain ⟨x, y, st1, rfl, hX, hY⟩ := hs
  intro ad H locs lr cells slots hag hwf hR hS hL hc hz hcap
  refine lv_icmp_ge F.1 F.2.1 hd ht (fun q => hX q ad H locs lr cells slots hag ⟨hwf.1, by simpa [am_okv] using hwf.2.1, hwf.2.2⟩ hR hS hL hc hz hcap) (fun q => ?_)
  have hw := hY q ad H locs lr cells slots hag ⟨hwf.1, by simpa [am_okv] using hwf.2.1, hwf.2.2⟩ hR hS hL hc hz hcap
  rw [hn] at hw
  exact hw
theorem aj_if_gt (F : am_F p s m args c cc nL own Ts D a0 cA base L0 X0) {t off : Int} (hd : decode cc (pcs k) = .ok (.ifCond .gt off, 3)) (hn : pcs (k + 1) = pcs k + 3) (ht : (pcs k : Int) + off = (pcs t.toNat : Nat)) (hs : am_step rc na mcT msT cN cZ C Z (am_J p l e R s m args below meth c Qm nL D a0 cA base L0 X0 n0 z0 pcs) k ls st h (.ifCond .gt t)) : (am_J p l e R s m args below meth c Qm nL D a0 cA base L0 X0 n0 z0 pcs) k ls st h := by
  obtain ⟨x, st1, rfl, hX, hY⟩ := hs
  intro ad H locs lr cells slots hag hwf hR hS hL hc hz hcap
  refine lv_if_gt F.1 F.2.1 hd ht (fun q => hX q ad H locs lr cells slots hag ⟨hwf.1, by simpa [am_okv] using hwf.2.1, hwf.2.2⟩ hR hS hL hc hz hcap) (fun q => ?_)
  have hw := hY q ad H locs lr cells slots hag ⟨hwf.1, by simpa [am_okv] using hwf.2.1, hwf.2.2⟩ hR hS hL hc hz hcap
  rw [hn] at hw
  exact hw
theorem aj_icmp_gt (F : am_F p s m args c cc nL own Ts D a0 cA base L0 X0) {t off : Int} (hd : decode cc (pcs k) = .ok (.if_icmp .gt off, 3)) (hn : pcs (k + 1) = pcs k + 3) (ht : (pcs k : Int) + off = (pcs t.toNat : Nat)) (hs : am_step rc na mcT msT cN cZ C Z (am_J p l e R s m args below meth c Qm nL D a0 cA base L0 X0 n0 z0 pcs) k ls st h (.if_icmp .gt t)) : (am_J p l e R s m args below meth c Qm nL D a0 cA base L0 X0 n0 z0 pcs) k ls st h := by
  obtain ⟨x, y, st1, rfl, hX, hY⟩ := hs
  intro ad H locs lr cells slots hag hwf hR hS hL hc hz hcap
  refine lv_icmp_gt F.1 F.2.1 hd ht (fun q => hX q ad H locs lr cells slots hag ⟨hwf.1, by simpa [am_okv] using hwf.2.1, hwf.2.2⟩ hR hS hL hc hz hcap) (fun q => ?_)
  have hw := hY q ad H locs lr cells slots hag ⟨hwf.1, by simpa [am_okv] using hwf.2.1, hwf.2.2⟩ hR hS hL hc hz hcap
  rw [hn] at hw
  exact hw
theorem aj_if_le (F : am_F p s m args c cc nL own Ts D a0 cA base L0 X0) {t off : Int} (hd : decode cc (pcs k) = .ok (.ifCond .le off, 3)) (hn : pcs (k + 1) = pcs k + 3) (ht : (pcs k : Int) + off = (pcs t.toNat : Nat)) (hs : am_step rc na mcT msT cN cZ C Z (am_J p l e R s m args below meth c Qm nL D a0 cA base L0 X0 n0 z0 pcs) k ls st h (.ifCond .le t)) : (am_J p l e R s m args below meth c Qm nL D a0 cA base L0 X0 n0 z0 pcs) k ls st h := by
  obtain ⟨x, st1, rfl, hX, hY⟩ := hs
  intro ad H locs lr cells slots hag hwf hR hS hL hc hz hcap
  refine lv_if_le F.1 F.2.1 hd ht (fun q => hX q ad H locs lr cells slots hag ⟨hwf.1, by simpa [am_okv] using hwf.2.1, hwf.2.2⟩ hR hS hL hc hz hcap) (fun q => ?_)
  have hw := hY q ad H locs lr cells slots hag ⟨hwf.1, by simpa [am_okv] using hwf.2.1, hwf.2.2⟩ hR hS hL hc hz hcap
  rw [hn] at hw
  exact hw
theorem aj_icmp_le (F : am_F p s m args c cc nL own Ts D a0 cA base L0 X0) {t off : Int} (hd : decode cc (pcs k) = .ok (.if_icmp .le off, 3)) (hn : pcs (k + 1) = pcs k + 3) (ht : (pcs k : Int) + off = (pcs t.toNat : Nat)) (hs : am_step rc na mcT msT cN cZ C Z (am_J p l e R s m args below meth c Qm nL D a0 cA base L0 X0 n0 z0 pcs) k ls st h (.if_icmp .le t)) : (am_J p l e R s m args below meth c Qm nL D a0 cA base L0 X0 n0 z0 pcs) k ls st h := by
  obtain ⟨x, y, st1, rfl, hX, hY⟩ := hs
  intro ad H locs lr cells slots hag hwf hR hS hL hc hz hcap
  refine lv_icmp_le F.1 F.2.1 hd ht (fun q => hX q ad H locs lr cells slots hag ⟨hwf.1, by simpa [am_okv] using hwf.2.1, hwf.2.2⟩ hR hS hL hc hz hcap) (fun q => ?_)
  have hw := hY q ad H locs lr cells slots hag ⟨hwf.1, by simpa [am_okv] using hwf.2.1, hwf.2.2⟩ hR hS hL hc hz hcap
  rw [hn] at hw
  exact hw
theorem aj_ifnull (F : am_F p s m args c cc nL own Ts D a0 cA base L0 X0) {t off : Int} (hd : decode cc (pcs k) = .ok (.ifnull off, 3)) (hn : pcs (k + 1) = pcs k + 3) (ht : (pcs k : Int) + off = (pcs t.toNat : Nat)) (hs : am_step rc na mcT msT cN cZ C Z (am_J p l e R s m args below meth c Qm nL D a0 cA base L0 X0 n0 z0 pcs) k ls st h (.ifnull t)) : (am_J p l e R s m args below meth c Qm nL D a0 cA base L0 X0 n0 z0 pcs) k ls st h := by
  rcases hs with ⟨x, st1, rfl, hX⟩ | ⟨st1, rfl, hX⟩
  · intro ad H locs lr cells slots hag hwf hR hS hL hc hz hcap
    have hw := hX ad H locs lr cells slots hag (am_wfs hwf (fun x q => List.mem_cons_of_mem _ q)) hR hS hL hc hz hcap
    rw [hn] at hw
    exact lv_ifnull F.1 F.2.1 hd hw
  · intro ad H locs lr cells slots hag hwf hR hS hL hc hz hcap
    exact lv_ifnullN F.1 F.2.1 hd ht (hX ad H locs lr cells slots hag (am_wfs hwf (fun x q => List.mem_cons_of_mem _ q)) hR hS hL hc hz hcap)
theorem aj_ifnonnull (F : am_F p s m args c cc nL own Ts D a0 cA base L0 X0) {t off : Int} (hd : decode cc (pcs k) = .ok (.ifnonnull off, 3)) (hn : pcs (k + 1) = pcs k + 3) (ht : (pcs k : Int) + off = (pcs t.toNat : Nat)) (hs : am_step rc na mcT msT cN cZ C Z (am_J p l e R s m args below meth c Qm nL D a0 cA base L0 X0 n0 z0 pcs) k ls st h (.ifnonnull t)) : (am_J p l e R s m args below meth c Qm nL D a0 cA base L0 X0 n0 z0 pcs) k ls st h := by
  rcases hs with ⟨x, st1, rfl, hX⟩ | ⟨st1, rfl, hX⟩
  · intro ad H locs lr cells slots hag hwf hR hS hL hc hz hcap
    exact lv_ifnonnull F.1 F.2.1 hd ht (hX ad H locs lr cells slots hag (am_wfs hwf (fun x q => List.mem_cons_of_mem _ q)) hR hS hL hc hz hcap)
  · intro ad H locs lr cells slots hag hwf hR hS hL hc hz hcap
    have hw := hX ad H locs lr cells slots hag (am_wfs hwf (fun x q => List.mem_cons_of_mem _ q)) hR hS hL hc hz hcap
    rw [hn] at hw
    exact lv_ifnonnullN F.1 F.2.1 hd hw
end AMB
end
section
section AMC
variable {p : Program} {l : Launch} {e : Env} {R : Room} {s : State} {m : MethodId} {args : Array Value} {below : List Frame} {meth : Method} {c : Code} {Qm : State → Prop} {cc : ByteArray} {nL : Nat} {own : String} {Ts : List Cond} {D : va_G} {a0 : Nat → Nat} {cA : Nat → ClassId} {base : Nat} {L0 : Nat → Nat} {X0 : Nat → Nat → Int32} {n0 z0 : Nat} {pcs : Nat → Nat} {rc na mcT msT : Nat → Nat} {cN cZ : Nat} {C : am_C} {Z : am_Q} {k : Nat} {ls : List (Option Value)} {st : List Value} {h : am_H}
variable {ad : Nat → Nat} {H : Heap}
theorem am_tl {n : Nat} {v : Value} {st : List Value} (hw : ∀ w ∈ v :: st, am_okv n w) : ∀ w ∈ st, am_okv n w := fun w q => hw w (List.mem_cons_of_mem _ q)
theorem am_okc {n : Nat} {v : Value} {st : List Value} (hv : am_okv n v) (hw : ∀ w ∈ st, am_okv n w) : ∀ w ∈ v :: st, am_okv n w := fun w q => by
  rcases List.mem_cons.mp q with rfl | q
  · exact hv
  · exact hw w q
theorem am_okr {n : Nat} {r : Option Nat} (hr : ∀ q, r = some q → q < n) : am_okv n (va_rf r) := by
  cases r with
  | none => trivial
  | some q => exact hr q rfl
theorem am_okrf {n : Nat} {r : Option Nat} {st : List Value} (hw : ∀ w ∈ st, am_okv n w) (hr : ∀ q, r = some q → q < n) : ∀ w ∈ va_rf r :: st, am_okv n w := am_okc (am_okr hr) hw
theorem am_wfR {ls : List (Option Value)} {st : List Value} {h : am_H} {p1 j : Nat} {r : Option Nat} {w : Value} (hwf : am_wf ls (va_rf r :: w :: st) h) : am_wf ls st (h.1, h.2.1, h.2.2.1, am_u h.2.2.2 p1 j r) := by
  refine ⟨hwf.1, am_tl (am_tl hwf.2.1), fun a b q hq => ?_⟩
  have hq : am_u h.2.2.2 p1 j r a b = some q := hq
  unfold am_u va_up at hq
  split at hq
  · dsimp only at hq
    split at hq
    · subst hq
      exact hwf.2.1 (.ref q) List.mem_cons_self
    · exact hwf.2.2 p1 b q hq
  · exact hwf.2.2 a b q hq
theorem am_pl (hR : am_rel D ad cA base L0 X0 h H) {p t n : Nat} (hp : h.1[p]? = some (t, n)) (ht : ¬ t = 50) : 4 ≤ p := by
  rcases Nat.lt_or_ge p 4 with q | q
  · have := (hR.2.2.2.1 p q).1
    rw [hp] at this
    cases this
    exact absurd rfl ht
  · exact q
theorem am_fsl {p t n j : Nat} (hj : j < n) : ((List.range n).map (am_fv ad h p t))[j]? = some (am_fv ad h p t j) := by
  rw [List.getElem?_map, List.getElem?_range hj]
  rfl
/-- the same shapes, one cell other: the relation behind a store -/
theorem am_rel_set {h' : am_H} {H1 : Heap} (hR : am_rel D ad cA base L0 X0 h H) {p : Nat} {e1 : va_E} (h4 : 4 ≤ p) (hp : p < h.1.length) (hl : h'.1 = h.1) (he : am_el ad cA h' p = e1) (ho : ∀ q, q ≠ p → am_el ad cA h' q = am_el ad cA h q) (hI : ∀ j, j < 4 → h'.2.1 j = h.2.1 j)
    (hP : va_P D am_cl ((am_ws ad cA h).set (p - 4) (ad p, e1)) H1) (hD : va_D (fun q => base ≤ q) ((am_ws ad cA h).set (p - 4) (ad p, e1))) : am_rel D ad cA base L0 X0 h' H1 := by
  rw [am_ws_set h4 hp hl he ho] at hP hD
  obtain ⟨-, -, h3, h5, h6⟩ := hR
  refine ⟨hP, hD, by rw [hl]; exact h3, fun j hj => ?_, by rw [hl]; exact h6⟩
  rw [hl, hI j hj]
  exact h5 j hj
theorem am_el_oI {h : am_H} {I' : Nat → Nat → Int32} {q : Nat} (hq : I' q = h.2.1 q) : am_el ad cA (h.1, I', h.2.2) q = am_el ad cA h q := by
  unfold am_el
  cases hs : h.1[q]? with
  | none => simp
  | some x =>
    obtain ⟨t, n⟩ := x
    have hfv : am_fv ad (h.1, I', h.2.2) q t = am_fv ad h q t := by
      funext j
      unfold am_fv
      simp [hq]
    simp [hfv, hq]
theorem am_el_oL {h : am_H} {I' : Nat → Nat → Int64} {q : Nat} (hq : I' q = h.2.2.1 q) : am_el ad cA (h.1, h.2.1, I', h.2.2.2) q = am_el ad cA h q := by
  unfold am_el
  cases hs : h.1[q]? with
  | none => simp
  | some x =>
    obtain ⟨t, n⟩ := x
    have hfv : am_fv ad (h.1, h.2.1, I', h.2.2.2) q t = am_fv ad h q t := by
      funext j
      unfold am_fv
      simp [hq]
    simp [hfv, hq]
theorem am_el_oR {h : am_H} {I' : Nat → Nat → Option Nat} {q : Nat} (hq : I' q = h.2.2.2 q) : am_el ad cA (h.1, h.2.1, h.2.2.1, I') q = am_el ad cA h q := by
  unfold am_el
  cases hs : h.1[q]? with
  | none => simp
  | some x =>
    obtain ⟨t, n⟩ := x
    have hfv : am_fv ad (h.1, h.2.1, h.2.2.1, I') q t = am_fv ad h q t := by
      funext j
      unfold am_fv
      simp [hq]
    simp [hfv, hq]
theorem am_up_ne {α : Type} {f : Nat → α} {k j : Nat} {v : α} (hj : j ≠ k) : va_up f k v j = f j := by simp [va_up, hj]
theorem am_up_eq {α : Type} {f : Nat → α} {k : Nat} {v : α} : va_up f k v k = v := by simp [va_up]
theorem am_u_ne {α : Type} {f : Nat → Nat → α} {p k q : Nat} {v : α} (hq : q ≠ p) : am_u f p k v q = f q := by simp [am_u, va_up, hq]
theorem am_u_at {α : Type} {f : Nat → Nat → α} {p k : Nat} {v : α} : am_u f p k v p = va_up (f p) k v := by simp [am_u, va_up]
theorem am_list_set {n j : Nat} {f g : Nat → Value} (hj : j < n) (hg : ∀ i, i ≠ j → g i = f i) : ((List.range n).map f).set j (g j) = (List.range n).map g := by
  apply List.ext_getElem?
  intro i
  rw [List.getElem?_set]
  by_cases hi : j = i
  · subst hi
    rw [if_pos rfl, if_pos (by simpa using hj), List.getElem?_map, List.getElem?_range hj]
    rfl
  · rw [if_neg hi, List.getElem?_map, List.getElem?_map]
    by_cases hlt : i < n
    · rw [List.getElem?_range hlt]
      simp [hg i (fun z => hi z.symm)]
    · rw [List.getElem?_eq_none (by simp; omega)]
      rfl
theorem aj_getI (F : am_F p s m args c cc nL own Ts D a0 cA base L0 X0) {q idx : Nat} {Cn : String} {T : u_T} {N : Nat} (hcl : am_cl[q / 100]? = some (Cn, T, N)) (hq : q / 100 < 50) (hk : q % 100 < N) (hT : (T (q % 100)).1 = Cn) (hin : ∀ w ∈ u_ws Cn T N, w ∈ am_tbl) (hkd : ¬ (am_fk.getD (q / 100) []).getD (q % 100) 0 = 1) (hkd2 : ¬ (am_fk.getD (q / 100) []).getD (q % 100) 0 = 2) (hlk : .fieldLink own idx Cn (T (q % 100)).2.1 (T (q % 100)).2.2.1 ∈ am_tbl) (hd : decode cc (pcs k) = .ok (.getfield idx, 3)) (hn : pcs (k + 1) = pcs k + 3) (hs : am_step rc na mcT msT cN cZ C Z (am_J p l e R s m args below meth c Qm nL D a0 cA base L0 X0 n0 z0 pcs) k ls st h (.getfield q)) : (am_J p l e R s m args below meth c Qm nL D a0 cA base L0 X0 n0 z0 pcs) k ls st h := by
  obtain ⟨p1, n, st1, rfl, hp, hX⟩ := hs
  intro ad H locs lr cells slots hag hwf hR hS hL hc hz hcap
  have hw := hX ad H locs lr cells slots hag ⟨hwf.1, am_okc trivial (am_tl hwf.2.1), hwf.2.2⟩ hR hS hL hc hz hcap
  rw [hn] at hw
  obtain ⟨C2, T2, h2⟩ := hR.2.2.2.2 p1 _ hp hq
  have hCT : (C2, T2, n) = (Cn, T, N) := Option.some.inj (h2.symm.trans hcl)
  cases hCT
  have hw' := am_ws_at (ad := ad) (cA := cA) (am_pl hR hp (by omega)) (am_lt hp)
  rw [am_el_obj hp hq] at hw'
  refine va_get (D := D) (v := .int (h.2.1 p1 (q % 100))) F.1 F.2.1 F.2.2.2.2.1 (fun w hw => F.2.2.2.2.2.1 w (hin w hw)) F.2.2.2.1 F.2.2.2.2.2.2.1 hR.1 (p1 - 4) hw' hcl (q % 100) hk (F.2.2.2.2.1 _ (F.2.2.2.2.2.1 _ hlk)) (fun x hx => by rw [hT] at hx; exact hx) ?_ hd hw
  rw [am_fsl hk]
  unfold am_fv
  split
  · exact absurd (by assumption) hkd
  · exact absurd (by assumption) hkd2
  · rfl
theorem aj_getIN (F : am_F p s m args c cc nL own Ts D a0 cA base L0 X0) {q idx : Nat} {Cn : String} {T : u_T} {N : Nat} (hcl : am_cl[q / 100]? = some (Cn, T, N)) (hq : q / 100 < 50) (hk : q % 100 < N) (hT : (T (q % 100)).1 = Cn) (hin : ∀ w ∈ u_ws Cn T N, w ∈ am_tbl) {host : String} (hkd : ¬ (am_fk.getD (q / 100) []).getD (q % 100) 0 = 1) (hkd2 : ¬ (am_fk.getD (q / 100) []).getD (q % 100) 0 = 2) (hlk : .fieldLinkNest own idx Cn (T (q % 100)).2.1 (T (q % 100)).2.2.1 host ∈ am_tbl) (hd : decode cc (pcs k) = .ok (.getfield idx, 3)) (hn : pcs (k + 1) = pcs k + 3) (hs : am_step rc na mcT msT cN cZ C Z (am_J p l e R s m args below meth c Qm nL D a0 cA base L0 X0 n0 z0 pcs) k ls st h (.getfield q)) : (am_J p l e R s m args below meth c Qm nL D a0 cA base L0 X0 n0 z0 pcs) k ls st h := by
  obtain ⟨p1, n, st1, rfl, hp, hX⟩ := hs
  intro ad H locs lr cells slots hag hwf hR hS hL hc hz hcap
  have hw := hX ad H locs lr cells slots hag ⟨hwf.1, am_okc trivial (am_tl hwf.2.1), hwf.2.2⟩ hR hS hL hc hz hcap
  rw [hn] at hw
  obtain ⟨C2, T2, h2⟩ := hR.2.2.2.2 p1 _ hp hq
  have hCT : (C2, T2, n) = (Cn, T, N) := Option.some.inj (h2.symm.trans hcl)
  cases hCT
  have hw' := am_ws_at (ad := ad) (cA := cA) (am_pl hR hp (by omega)) (am_lt hp)
  rw [am_el_obj hp hq] at hw'
  refine va_getN (D := D) (v := .int (h.2.1 p1 (q % 100))) F.1 F.2.1 F.2.2.2.2.1 (fun w hw => F.2.2.2.2.2.1 w (hin w hw)) F.2.2.2.1 F.2.2.2.2.2.2.1 hR.1 (p1 - 4) hw' hcl (q % 100) hk (F.2.2.2.2.1 _ (F.2.2.2.2.2.1 _ hlk)) (fun x hx => by rw [hT] at hx; exact hx) ?_ hd hw
  rw [am_fsl hk]
  unfold am_fv
  split
  · exact absurd (by assumption) hkd
  · exact absurd (by assumption) hkd2
  · rfl
theorem aj_getL (F : am_F p s m args c cc nL own Ts D a0 cA base L0 X0) {q idx : Nat} {Cn : String} {T : u_T} {N : Nat} (hcl : am_cl[q / 100]? = some (Cn, T, N)) (hq : q / 100 < 50) (hk : q % 100 < N) (hT : (T (q % 100)).1 = Cn) (hin : ∀ w ∈ u_ws Cn T N, w ∈ am_tbl) (hkd : (am_fk.getD (q / 100) []).getD (q % 100) 0 = 1) (hlk : .fieldLink own idx Cn (T (q % 100)).2.1 (T (q % 100)).2.2.1 ∈ am_tbl) (hd : decode cc (pcs k) = .ok (.getfield idx, 3)) (hn : pcs (k + 1) = pcs k + 3) (hs : am_step rc na mcT msT cN cZ C Z (am_J p l e R s m args below meth c Qm nL D a0 cA base L0 X0 n0 z0 pcs) k ls st h (.fload q)) : (am_J p l e R s m args below meth c Qm nL D a0 cA base L0 X0 n0 z0 pcs) k ls st h := by
  obtain ⟨p1, n, st1, rfl, hp, hX⟩ := hs
  intro ad H locs lr cells slots hag hwf hR hS hL hc hz hcap
  have hw := hX ad H locs lr cells slots hag ⟨hwf.1, am_okc trivial (am_tl hwf.2.1), hwf.2.2⟩ hR hS hL hc hz hcap
  rw [hn] at hw
  obtain ⟨C2, T2, h2⟩ := hR.2.2.2.2 p1 _ hp hq
  have hCT : (C2, T2, n) = (Cn, T, N) := Option.some.inj (h2.symm.trans hcl)
  cases hCT
  have hw' := am_ws_at (ad := ad) (cA := cA) (am_pl hR hp (by omega)) (am_lt hp)
  rw [am_el_obj hp hq] at hw'
  refine va_get (D := D) (v := .long (h.2.2.1 p1 (q % 100))) F.1 F.2.1 F.2.2.2.2.1 (fun w hw => F.2.2.2.2.2.1 w (hin w hw)) F.2.2.2.1 F.2.2.2.2.2.2.1 hR.1 (p1 - 4) hw' hcl (q % 100) hk (F.2.2.2.2.1 _ (F.2.2.2.2.2.1 _ hlk)) (fun x hx => by rw [hT] at hx; exact hx) ?_ hd hw
  rw [am_fsl hk]
  unfold am_fv
  simp only [hkd]
theorem aj_getLN (F : am_F p s m args c cc nL own Ts D a0 cA base L0 X0) {q idx : Nat} {Cn : String} {T : u_T} {N : Nat} (hcl : am_cl[q / 100]? = some (Cn, T, N)) (hq : q / 100 < 50) (hk : q % 100 < N) (hT : (T (q % 100)).1 = Cn) (hin : ∀ w ∈ u_ws Cn T N, w ∈ am_tbl) {host : String} (hkd : (am_fk.getD (q / 100) []).getD (q % 100) 0 = 1) (hlk : .fieldLinkNest own idx Cn (T (q % 100)).2.1 (T (q % 100)).2.2.1 host ∈ am_tbl) (hd : decode cc (pcs k) = .ok (.getfield idx, 3)) (hn : pcs (k + 1) = pcs k + 3) (hs : am_step rc na mcT msT cN cZ C Z (am_J p l e R s m args below meth c Qm nL D a0 cA base L0 X0 n0 z0 pcs) k ls st h (.fload q)) : (am_J p l e R s m args below meth c Qm nL D a0 cA base L0 X0 n0 z0 pcs) k ls st h := by
  obtain ⟨p1, n, st1, rfl, hp, hX⟩ := hs
  intro ad H locs lr cells slots hag hwf hR hS hL hc hz hcap
  have hw := hX ad H locs lr cells slots hag ⟨hwf.1, am_okc trivial (am_tl hwf.2.1), hwf.2.2⟩ hR hS hL hc hz hcap
  rw [hn] at hw
  obtain ⟨C2, T2, h2⟩ := hR.2.2.2.2 p1 _ hp hq
  have hCT : (C2, T2, n) = (Cn, T, N) := Option.some.inj (h2.symm.trans hcl)
  cases hCT
  have hw' := am_ws_at (ad := ad) (cA := cA) (am_pl hR hp (by omega)) (am_lt hp)
  rw [am_el_obj hp hq] at hw'
  refine va_getN (D := D) (v := .long (h.2.2.1 p1 (q % 100))) F.1 F.2.1 F.2.2.2.2.1 (fun w hw => F.2.2.2.2.2.1 w (hin w hw)) F.2.2.2.1 F.2.2.2.2.2.2.1 hR.1 (p1 - 4) hw' hcl (q % 100) hk (F.2.2.2.2.1 _ (F.2.2.2.2.2.1 _ hlk)) (fun x hx => by rw [hT] at hx; exact hx) ?_ hd hw
  rw [am_fsl hk]
  unfold am_fv
  simp only [hkd]
theorem aj_getR (F : am_F p s m args c cc nL own Ts D a0 cA base L0 X0) {q idx : Nat} {Cn : String} {T : u_T} {N : Nat} (hcl : am_cl[q / 100]? = some (Cn, T, N)) (hq : q / 100 < 50) (hk : q % 100 < N) (hT : (T (q % 100)).1 = Cn) (hin : ∀ w ∈ u_ws Cn T N, w ∈ am_tbl) (hkd : (am_fk.getD (q / 100) []).getD (q % 100) 0 = 2) (hlk : .fieldLink own idx Cn (T (q % 100)).2.1 (T (q % 100)).2.2.1 ∈ am_tbl) (hd : decode cc (pcs k) = .ok (.getfield idx, 3)) (hn : pcs (k + 1) = pcs k + 3) (hs : am_step rc na mcT msT cN cZ C Z (am_J p l e R s m args below meth c Qm nL D a0 cA base L0 X0 n0 z0 pcs) k ls st h (.dload q)) : (am_J p l e R s m args below meth c Qm nL D a0 cA base L0 X0 n0 z0 pcs) k ls st h := by
  obtain ⟨p1, n, st1, rfl, hp, hX⟩ := hs
  intro ad H locs lr cells slots hag hwf hR hS hL hc hz hcap
  have hw := hX ad H locs lr cells slots hag ⟨hwf.1, am_okrf (am_tl hwf.2.1) (hwf.2.2 p1 (q % 100)), hwf.2.2⟩ hR hS hL hc hz hcap
  rw [hn] at hw
  obtain ⟨C2, T2, h2⟩ := hR.2.2.2.2 p1 _ hp hq
  have hCT : (C2, T2, n) = (Cn, T, N) := Option.some.inj (h2.symm.trans hcl)
  cases hCT
  have hw' := am_ws_at (ad := ad) (cA := cA) (am_pl hR hp (by omega)) (am_lt hp)
  rw [am_el_obj hp hq] at hw'
  refine va_get (D := D) (v := am_vv ad (va_rf (h.2.2.2 p1 (q % 100)))) F.1 F.2.1 F.2.2.2.2.1 (fun w hw => F.2.2.2.2.2.1 w (hin w hw)) F.2.2.2.1 F.2.2.2.2.2.2.1 hR.1 (p1 - 4) hw' hcl (q % 100) hk (F.2.2.2.2.1 _ (F.2.2.2.2.2.1 _ hlk)) (fun x hx => by rw [hT] at hx; exact hx) ?_ hd hw
  rw [am_fsl hk]
  unfold am_fv
  simp only [hkd, am_vv_rf]
theorem aj_getRN (F : am_F p s m args c cc nL own Ts D a0 cA base L0 X0) {q idx : Nat} {Cn : String} {T : u_T} {N : Nat} (hcl : am_cl[q / 100]? = some (Cn, T, N)) (hq : q / 100 < 50) (hk : q % 100 < N) (hT : (T (q % 100)).1 = Cn) (hin : ∀ w ∈ u_ws Cn T N, w ∈ am_tbl) {host : String} (hkd : (am_fk.getD (q / 100) []).getD (q % 100) 0 = 2) (hlk : .fieldLinkNest own idx Cn (T (q % 100)).2.1 (T (q % 100)).2.2.1 host ∈ am_tbl) (hd : decode cc (pcs k) = .ok (.getfield idx, 3)) (hn : pcs (k + 1) = pcs k + 3) (hs : am_step rc na mcT msT cN cZ C Z (am_J p l e R s m args below meth c Qm nL D a0 cA base L0 X0 n0 z0 pcs) k ls st h (.dload q)) : (am_J p l e R s m args below meth c Qm nL D a0 cA base L0 X0 n0 z0 pcs) k ls st h := by
  obtain ⟨p1, n, st1, rfl, hp, hX⟩ := hs
  intro ad H locs lr cells slots hag hwf hR hS hL hc hz hcap
  have hw := hX ad H locs lr cells slots hag ⟨hwf.1, am_okrf (am_tl hwf.2.1) (hwf.2.2 p1 (q % 100)), hwf.2.2⟩ hR hS hL hc hz hcap
  rw [hn] at hw
  obtain ⟨C2, T2, h2⟩ := hR.2.2.2.2 p1 _ hp hq
  have hCT : (C2, T2, n) = (Cn, T, N) := Option.some.inj (h2.symm.trans hcl)
  cases hCT
  have hw' := am_ws_at (ad := ad) (cA := cA) (am_pl hR hp (by omega)) (am_lt hp)
  rw [am_el_obj hp hq] at hw'
  refine va_getN (D := D) (v := am_vv ad (va_rf (h.2.2.2 p1 (q % 100)))) F.1 F.2.1 F.2.2.2.2.1 (fun w hw => F.2.2.2.2.2.1 w (hin w hw)) F.2.2.2.1 F.2.2.2.2.2.2.1 hR.1 (p1 - 4) hw' hcl (q % 100) hk (F.2.2.2.2.1 _ (F.2.2.2.2.2.1 _ hlk)) (fun x hx => by rw [hT] at hx; exact hx) ?_ hd hw
  rw [am_fsl hk]
  unfold am_fv
  simp only [hkd, am_vv_rf]
theorem aj_putI (F : am_F p s m args c cc nL own Ts D a0 cA base L0 X0) {q idx : Nat} {Cn : String} {T : u_T} {N : Nat} (hcl : am_cl[q / 100]? = some (Cn, T, N)) (hq : q / 100 < 50) (hk : q % 100 < N) (hT : (T (q % 100)).1 = Cn) (hin : ∀ w ∈ u_ws Cn T N, w ∈ am_tbl) (ty0 : Nat → FieldType) (hty : ∀ k, k < N → parseFieldDescriptor (T k).2.2.1 = some (ty0 k)) (hnm : ∀ a, a < N → ∀ b, b < N → a ≠ b → (T a).2.1 ≠ (T b).2.1) (htk : ty0 (q % 100) = .int) (hfin : (T (q % 100)).2.2.2 = false) (hkd : ¬ (am_fk.getD (q / 100) []).getD (q % 100) 0 = 1) (hkd2 : ¬ (am_fk.getD (q / 100) []).getD (q % 100) 0 = 2) (hlk : .fieldLink own idx Cn (T (q % 100)).2.1 (T (q % 100)).2.2.1 ∈ am_tbl) (hd : decode cc (pcs k) = .ok (.putfield idx, 3)) (hn : pcs (k + 1) = pcs k + 3) (hs : am_step rc na mcT msT cN cZ C Z (am_J p l e R s m args below meth c Qm nL D a0 cA base L0 X0 n0 z0 pcs) k ls st h (.putfield q)) : (am_J p l e R s m args below meth c Qm nL D a0 cA base L0 X0 n0 z0 pcs) k ls st h := by
  obtain ⟨p1, n, x, st1, rfl, hp, hX⟩ := hs
  intro ad H locs lr cells slots hag hwf hR hS hL hc hz hcap
  obtain ⟨C2, T2, h2⟩ := hR.2.2.2.2 p1 _ hp hq
  have hCT : (C2, T2, n) = (Cn, T, N) := Option.some.inj (h2.symm.trans hcl)
  cases hCT
  have h4 := am_pl hR hp (by omega)
  have hw' := am_ws_at (ad := ad) (cA := cA) h4 (am_lt hp)
  rw [am_el_obj hp hq] at hw'
  skip
  refine va_put (D := D) (v := .int x) (ty := .int) F.1 F.2.1 F.2.2.2.2.1 (fun w hw => F.2.2.2.2.2.1 w (hin w hw)) ty0 hty hnm F.2.2.2.1 F.2.2.2.2.2.2.1 hR.1 hR.2.1 hS (p1 - 4) hw' hcl (q % 100) hk (F.2.2.2.2.1 _ (F.2.2.2.2.2.1 _ hlk)) (fun x hx => by rw [hT] at hx; exact hx) hfin (by rw [hty _ hk, htk]) rfl rfl (by simpa using hk) hd (fun H1 locs1 hP1 hD1 hS1 => ?_)
  have hw := hX ad H1 locs1 lr cells slots hag ⟨hwf.1, am_tl (am_tl hwf.2.1), hwf.2.2⟩ (am_rel_set (p := p1) hR h4 (am_lt hp) rfl ?_ (fun z hz => am_el_oI (am_u_ne hz)) (fun j hj => am_u_ne (by have := am_pl hR hp (by omega); omega)) hP1 hD1) hS1 hL hc hz hcap
  · rw [hn] at hw
    exact hw
  · rw [am_el_obj (h := (h.1, am_u h.2.1 p1 (q % 100) x, h.2.2)) hp hq]
    have hval : .int x = am_fv ad (h.1, am_u h.2.1 p1 (q % 100) x, h.2.2) p1 (q / 100) (q % 100) := by
      unfold am_fv
      dsimp only; rw [am_u_at, am_up_eq]; split
      · exact absurd (by assumption) hkd
      · exact absurd (by assumption) hkd2
      · rfl
    rw [hval]
    congr 2
    refine (am_list_set hk (fun i hi => ?_)).symm
    unfold am_fv
    simp only [am_u_at, am_up_ne hi]
theorem aj_putIF (F : am_F p s m args c cc nL own Ts D a0 cA base L0 X0) {q idx : Nat} {Cn : String} {T : u_T} {N : Nat} (hcl : am_cl[q / 100]? = some (Cn, T, N)) (hq : q / 100 < 50) (hk : q % 100 < N) (hT : (T (q % 100)).1 = Cn) (hin : ∀ w ∈ u_ws Cn T N, w ∈ am_tbl) (ty0 : Nat → FieldType) (hty : ∀ k, k < N → parseFieldDescriptor (T k).2.2.1 = some (ty0 k)) (hnm : ∀ a, a < N → ∀ b, b < N → a ≠ b → (T a).2.1 ≠ (T b).2.1) (htk : ty0 (q % 100) = .int) (hfin : (T (q % 100)).2.2.2 = true) (hini : meth.name = "<init>") (hown : Cn = own) (hkd : ¬ (am_fk.getD (q / 100) []).getD (q % 100) 0 = 1) (hkd2 : ¬ (am_fk.getD (q / 100) []).getD (q % 100) 0 = 2) (hlk : .fieldLink own idx Cn (T (q % 100)).2.1 (T (q % 100)).2.2.1 ∈ am_tbl) (hd : decode cc (pcs k) = .ok (.putfield idx, 3)) (hn : pcs (k + 1) = pcs k + 3) (hs : am_step rc na mcT msT cN cZ C Z (am_J p l e R s m args below meth c Qm nL D a0 cA base L0 X0 n0 z0 pcs) k ls st h (.putfield q)) : (am_J p l e R s m args below meth c Qm nL D a0 cA base L0 X0 n0 z0 pcs) k ls st h := by
  obtain ⟨p1, n, x, st1, rfl, hp, hX⟩ := hs
  intro ad H locs lr cells slots hag hwf hR hS hL hc hz hcap
  obtain ⟨C2, T2, h2⟩ := hR.2.2.2.2 p1 _ hp hq
  have hCT : (C2, T2, n) = (Cn, T, N) := Option.some.inj (h2.symm.trans hcl)
  cases hCT
  have h4 := am_pl hR hp (by omega)
  have hw' := am_ws_at (ad := ad) (cA := cA) h4 (am_lt hp)
  rw [am_el_obj hp hq] at hw'
  skip
  refine va_putF (D := D) (v := .int x) (ty := .int) F.1 F.2.1 F.2.2.2.2.1 (fun w hw => F.2.2.2.2.2.1 w (hin w hw)) ty0 hty hnm F.2.2.2.1 F.2.2.2.2.2.2.1 hR.1 hR.2.1 hS (p1 - 4) hw' hcl (q % 100) hk (F.2.2.2.2.1 _ (F.2.2.2.2.2.1 _ hlk)) (fun x hx => by rw [hT] at hx; exact hx) hfin hini (by rw [hT]; exact hown) (by rw [hty _ hk, htk]) rfl rfl (by simpa using hk) hd (fun H1 locs1 hP1 hD1 hS1 => ?_)
  have hw := hX ad H1 locs1 lr cells slots hag ⟨hwf.1, am_tl (am_tl hwf.2.1), hwf.2.2⟩ (am_rel_set (p := p1) hR h4 (am_lt hp) rfl ?_ (fun z hz => am_el_oI (am_u_ne hz)) (fun j hj => am_u_ne (by have := am_pl hR hp (by omega); omega)) hP1 hD1) hS1 hL hc hz hcap
  · rw [hn] at hw
    exact hw
  · rw [am_el_obj (h := (h.1, am_u h.2.1 p1 (q % 100) x, h.2.2)) hp hq]
    have hval : .int x = am_fv ad (h.1, am_u h.2.1 p1 (q % 100) x, h.2.2) p1 (q / 100) (q % 100) := by
      unfold am_fv
      dsimp only; rw [am_u_at, am_up_eq]; split
      · exact absurd (by assumption) hkd
      · exact absurd (by assumption) hkd2
      · rfl
    rw [hval]
    congr 2
    refine (am_list_set hk (fun i hi => ?_)).symm
    unfold am_fv
    simp only [am_u_at, am_up_ne hi]
theorem aj_putIN (F : am_F p s m args c cc nL own Ts D a0 cA base L0 X0) {q idx : Nat} {Cn : String} {T : u_T} {N : Nat} (hcl : am_cl[q / 100]? = some (Cn, T, N)) (hq : q / 100 < 50) (hk : q % 100 < N) (hT : (T (q % 100)).1 = Cn) (hin : ∀ w ∈ u_ws Cn T N, w ∈ am_tbl) {host : String} (ty0 : Nat → FieldType) (hty : ∀ k, k < N → parseFieldDescriptor (T k).2.2.1 = some (ty0 k)) (hnm : ∀ a, a < N → ∀ b, b < N → a ≠ b → (T a).2.1 ≠ (T b).2.1) (htk : ty0 (q % 100) = .int) (hfin : (T (q % 100)).2.2.2 = false) (hkd : ¬ (am_fk.getD (q / 100) []).getD (q % 100) 0 = 1) (hkd2 : ¬ (am_fk.getD (q / 100) []).getD (q % 100) 0 = 2) (hlk : .fieldLinkNest own idx Cn (T (q % 100)).2.1 (T (q % 100)).2.2.1 host ∈ am_tbl) (hd : decode cc (pcs k) = .ok (.putfield idx, 3)) (hn : pcs (k + 1) = pcs k + 3) (hs : am_step rc na mcT msT cN cZ C Z (am_J p l e R s m args below meth c Qm nL D a0 cA base L0 X0 n0 z0 pcs) k ls st h (.putfield q)) : (am_J p l e R s m args below meth c Qm nL D a0 cA base L0 X0 n0 z0 pcs) k ls st h := by
  obtain ⟨p1, n, x, st1, rfl, hp, hX⟩ := hs
  intro ad H locs lr cells slots hag hwf hR hS hL hc hz hcap
  obtain ⟨C2, T2, h2⟩ := hR.2.2.2.2 p1 _ hp hq
  have hCT : (C2, T2, n) = (Cn, T, N) := Option.some.inj (h2.symm.trans hcl)
  cases hCT
  have h4 := am_pl hR hp (by omega)
  have hw' := am_ws_at (ad := ad) (cA := cA) h4 (am_lt hp)
  rw [am_el_obj hp hq] at hw'
  skip
  refine va_putN (D := D) (v := .int x) (ty := .int) F.1 F.2.1 F.2.2.2.2.1 (fun w hw => F.2.2.2.2.2.1 w (hin w hw)) ty0 hty hnm F.2.2.2.1 F.2.2.2.2.2.2.1 hR.1 hR.2.1 hS (p1 - 4) hw' hcl (q % 100) hk (F.2.2.2.2.1 _ (F.2.2.2.2.2.1 _ hlk)) (fun x hx => by rw [hT] at hx; exact hx) hfin (by rw [hty _ hk, htk]) rfl rfl (by simpa using hk) hd (fun H1 locs1 hP1 hD1 hS1 => ?_)
  have hw := hX ad H1 locs1 lr cells slots hag ⟨hwf.1, am_tl (am_tl hwf.2.1), hwf.2.2⟩ (am_rel_set (p := p1) hR h4 (am_lt hp) rfl ?_ (fun z hz => am_el_oI (am_u_ne hz)) (fun j hj => am_u_ne (by have := am_pl hR hp (by omega); omega)) hP1 hD1) hS1 hL hc hz hcap
  · rw [hn] at hw
    exact hw
  · rw [am_el_obj (h := (h.1, am_u h.2.1 p1 (q % 100) x, h.2.2)) hp hq]
    have hval : .int x = am_fv ad (h.1, am_u h.2.1 p1 (q % 100) x, h.2.2) p1 (q / 100) (q % 100) := by
      unfold am_fv
      dsimp only; rw [am_u_at, am_up_eq]; split
      · exact absurd (by assumption) hkd
      · exact absurd (by assumption) hkd2
      · rfl
    rw [hval]
    congr 2
    refine (am_list_set hk (fun i hi => ?_)).symm
    unfold am_fv
    simp only [am_u_at, am_up_ne hi]
theorem aj_putZ (F : am_F p s m args c cc nL own Ts D a0 cA base L0 X0) {q idx : Nat} {Cn : String} {T : u_T} {N : Nat} (hcl : am_cl[q / 100]? = some (Cn, T, N)) (hq : q / 100 < 50) (hk : q % 100 < N) (hT : (T (q % 100)).1 = Cn) (hin : ∀ w ∈ u_ws Cn T N, w ∈ am_tbl) (ty0 : Nat → FieldType) (hty : ∀ k, k < N → parseFieldDescriptor (T k).2.2.1 = some (ty0 k)) (hnm : ∀ a, a < N → ∀ b, b < N → a ≠ b → (T a).2.1 ≠ (T b).2.1) (htk : ty0 (q % 100) = .boolean) (hfin : (T (q % 100)).2.2.2 = false) (hkd : ¬ (am_fk.getD (q / 100) []).getD (q % 100) 0 = 1) (hkd2 : ¬ (am_fk.getD (q / 100) []).getD (q % 100) 0 = 2) (hlk : .fieldLink own idx Cn (T (q % 100)).2.1 (T (q % 100)).2.2.1 ∈ am_tbl) (hd : decode cc (pcs k) = .ok (.putfield idx, 3)) (hn : pcs (k + 1) = pcs k + 3) (hs : am_step rc na mcT msT cN cZ C Z (am_J p l e R s m args below meth c Qm nL D a0 cA base L0 X0 n0 z0 pcs) k ls st h (.putstatic q)) : (am_J p l e R s m args below meth c Qm nL D a0 cA base L0 X0 n0 z0 pcs) k ls st h := by
  obtain ⟨p1, n, x, st1, rfl, hx01, hp, hX⟩ := hs
  intro ad H locs lr cells slots hag hwf hR hS hL hc hz hcap
  obtain ⟨C2, T2, h2⟩ := hR.2.2.2.2 p1 _ hp hq
  have hCT : (C2, T2, n) = (Cn, T, N) := Option.some.inj (h2.symm.trans hcl)
  cases hCT
  have h4 := am_pl hR hp (by omega)
  have hw' := am_ws_at (ad := ad) (cA := cA) h4 (am_lt hp)
  rw [am_el_obj hp hq] at hw'
  skip
  refine va_put (D := D) (v := .int x) (ty := .boolean) F.1 F.2.1 F.2.2.2.2.1 (fun w hw => F.2.2.2.2.2.1 w (hin w hw)) ty0 hty hnm F.2.2.2.1 F.2.2.2.2.2.2.1 hR.1 hR.2.1 hS (p1 - 4) hw' hcl (q % 100) hk (F.2.2.2.2.1 _ (F.2.2.2.2.2.1 _ hlk)) (fun x hx => by rw [hT] at hx; exact hx) hfin (by rw [hty _ hk, htk]) (by rcases hx01 with rfl | rfl <;> rfl) (by rcases hx01 with rfl | rfl <;> rfl) (by simpa using hk) hd (fun H1 locs1 hP1 hD1 hS1 => ?_)
  have hw := hX ad H1 locs1 lr cells slots hag ⟨hwf.1, am_tl (am_tl hwf.2.1), hwf.2.2⟩ (am_rel_set (p := p1) hR h4 (am_lt hp) rfl ?_ (fun z hz => am_el_oI (am_u_ne hz)) (fun j hj => am_u_ne (by have := am_pl hR hp (by omega); omega)) hP1 hD1) hS1 hL hc hz hcap
  · rw [hn] at hw
    exact hw
  · rw [am_el_obj (h := (h.1, am_u h.2.1 p1 (q % 100) x, h.2.2)) hp hq]
    have hval : .int x = am_fv ad (h.1, am_u h.2.1 p1 (q % 100) x, h.2.2) p1 (q / 100) (q % 100) := by
      unfold am_fv
      dsimp only; rw [am_u_at, am_up_eq]; split
      · exact absurd (by assumption) hkd
      · exact absurd (by assumption) hkd2
      · rfl
    rw [hval]
    congr 2
    refine (am_list_set hk (fun i hi => ?_)).symm
    unfold am_fv
    simp only [am_u_at, am_up_ne hi]
theorem aj_putZF (F : am_F p s m args c cc nL own Ts D a0 cA base L0 X0) {q idx : Nat} {Cn : String} {T : u_T} {N : Nat} (hcl : am_cl[q / 100]? = some (Cn, T, N)) (hq : q / 100 < 50) (hk : q % 100 < N) (hT : (T (q % 100)).1 = Cn) (hin : ∀ w ∈ u_ws Cn T N, w ∈ am_tbl) (ty0 : Nat → FieldType) (hty : ∀ k, k < N → parseFieldDescriptor (T k).2.2.1 = some (ty0 k)) (hnm : ∀ a, a < N → ∀ b, b < N → a ≠ b → (T a).2.1 ≠ (T b).2.1) (htk : ty0 (q % 100) = .boolean) (hfin : (T (q % 100)).2.2.2 = true) (hini : meth.name = "<init>") (hown : Cn = own) (hkd : ¬ (am_fk.getD (q / 100) []).getD (q % 100) 0 = 1) (hkd2 : ¬ (am_fk.getD (q / 100) []).getD (q % 100) 0 = 2) (hlk : .fieldLink own idx Cn (T (q % 100)).2.1 (T (q % 100)).2.2.1 ∈ am_tbl) (hd : decode cc (pcs k) = .ok (.putfield idx, 3)) (hn : pcs (k + 1) = pcs k + 3) (hs : am_step rc na mcT msT cN cZ C Z (am_J p l e R s m args below meth c Qm nL D a0 cA base L0 X0 n0 z0 pcs) k ls st h (.putstatic q)) : (am_J p l e R s m args below meth c Qm nL D a0 cA base L0 X0 n0 z0 pcs) k ls st h := by
  obtain ⟨p1, n, x, st1, rfl, hx01, hp, hX⟩ := hs
  intro ad H locs lr cells slots hag hwf hR hS hL hc hz hcap
  obtain ⟨C2, T2, h2⟩ := hR.2.2.2.2 p1 _ hp hq
  have hCT : (C2, T2, n) = (Cn, T, N) := Option.some.inj (h2.symm.trans hcl)
  cases hCT
  have h4 := am_pl hR hp (by omega)
  have hw' := am_ws_at (ad := ad) (cA := cA) h4 (am_lt hp)
  rw [am_el_obj hp hq] at hw'
  skip
  refine va_putF (D := D) (v := .int x) (ty := .boolean) F.1 F.2.1 F.2.2.2.2.1 (fun w hw => F.2.2.2.2.2.1 w (hin w hw)) ty0 hty hnm F.2.2.2.1 F.2.2.2.2.2.2.1 hR.1 hR.2.1 hS (p1 - 4) hw' hcl (q % 100) hk (F.2.2.2.2.1 _ (F.2.2.2.2.2.1 _ hlk)) (fun x hx => by rw [hT] at hx; exact hx) hfin hini (by rw [hT]; exact hown) (by rw [hty _ hk, htk]) (by rcases hx01 with rfl | rfl <;> rfl) (by rcases hx01 with rfl | rfl <;> rfl) (by simpa using hk) hd (fun H1 locs1 hP1 hD1 hS1 => ?_)
  have hw := hX ad H1 locs1 lr cells slots hag ⟨hwf.1, am_tl (am_tl hwf.2.1), hwf.2.2⟩ (am_rel_set (p := p1) hR h4 (am_lt hp) rfl ?_ (fun z hz => am_el_oI (am_u_ne hz)) (fun j hj => am_u_ne (by have := am_pl hR hp (by omega); omega)) hP1 hD1) hS1 hL hc hz hcap
  · rw [hn] at hw
    exact hw
  · rw [am_el_obj (h := (h.1, am_u h.2.1 p1 (q % 100) x, h.2.2)) hp hq]
    have hval : .int x = am_fv ad (h.1, am_u h.2.1 p1 (q % 100) x, h.2.2) p1 (q / 100) (q % 100) := by
      unfold am_fv
      dsimp only; rw [am_u_at, am_up_eq]; split
      · exact absurd (by assumption) hkd
      · exact absurd (by assumption) hkd2
      · rfl
    rw [hval]
    congr 2
    refine (am_list_set hk (fun i hi => ?_)).symm
    unfold am_fv
    simp only [am_u_at, am_up_ne hi]
theorem aj_putZN (F : am_F p s m args c cc nL own Ts D a0 cA base L0 X0) {q idx : Nat} {Cn : String} {T : u_T} {N : Nat} (hcl : am_cl[q / 100]? = some (Cn, T, N)) (hq : q / 100 < 50) (hk : q % 100 < N) (hT : (T (q % 100)).1 = Cn) (hin : ∀ w ∈ u_ws Cn T N, w ∈ am_tbl) {host : String} (ty0 : Nat → FieldType) (hty : ∀ k, k < N → parseFieldDescriptor (T k).2.2.1 = some (ty0 k)) (hnm : ∀ a, a < N → ∀ b, b < N → a ≠ b → (T a).2.1 ≠ (T b).2.1) (htk : ty0 (q % 100) = .boolean) (hfin : (T (q % 100)).2.2.2 = false) (hkd : ¬ (am_fk.getD (q / 100) []).getD (q % 100) 0 = 1) (hkd2 : ¬ (am_fk.getD (q / 100) []).getD (q % 100) 0 = 2) (hlk : .fieldLinkNest own idx Cn (T (q % 100)).2.1 (T (q % 100)).2.2.1 host ∈ am_tbl) (hd : decode cc (pcs k) = .ok (.putfield idx, 3)) (hn : pcs (k + 1) = pcs k + 3) (hs : am_step rc na mcT msT cN cZ C Z (am_J p l e R s m args below meth c Qm nL D a0 cA base L0 X0 n0 z0 pcs) k ls st h (.putstatic q)) : (am_J p l e R s m args below meth c Qm nL D a0 cA base L0 X0 n0 z0 pcs) k ls st h := by
  obtain ⟨p1, n, x, st1, rfl, hx01, hp, hX⟩ := hs
  intro ad H locs lr cells slots hag hwf hR hS hL hc hz hcap
  obtain ⟨C2, T2, h2⟩ := hR.2.2.2.2 p1 _ hp hq
  have hCT : (C2, T2, n) = (Cn, T, N) := Option.some.inj (h2.symm.trans hcl)
  cases hCT
  have h4 := am_pl hR hp (by omega)
  have hw' := am_ws_at (ad := ad) (cA := cA) h4 (am_lt hp)
  rw [am_el_obj hp hq] at hw'
  skip
  refine va_putN (D := D) (v := .int x) (ty := .boolean) F.1 F.2.1 F.2.2.2.2.1 (fun w hw => F.2.2.2.2.2.1 w (hin w hw)) ty0 hty hnm F.2.2.2.1 F.2.2.2.2.2.2.1 hR.1 hR.2.1 hS (p1 - 4) hw' hcl (q % 100) hk (F.2.2.2.2.1 _ (F.2.2.2.2.2.1 _ hlk)) (fun x hx => by rw [hT] at hx; exact hx) hfin (by rw [hty _ hk, htk]) (by rcases hx01 with rfl | rfl <;> rfl) (by rcases hx01 with rfl | rfl <;> rfl) (by simpa using hk) hd (fun H1 locs1 hP1 hD1 hS1 => ?_)
  have hw := hX ad H1 locs1 lr cells slots hag ⟨hwf.1, am_tl (am_tl hwf.2.1), hwf.2.2⟩ (am_rel_set (p := p1) hR h4 (am_lt hp) rfl ?_ (fun z hz => am_el_oI (am_u_ne hz)) (fun j hj => am_u_ne (by have := am_pl hR hp (by omega); omega)) hP1 hD1) hS1 hL hc hz hcap
  · rw [hn] at hw
    exact hw
  · rw [am_el_obj (h := (h.1, am_u h.2.1 p1 (q % 100) x, h.2.2)) hp hq]
    have hval : .int x = am_fv ad (h.1, am_u h.2.1 p1 (q % 100) x, h.2.2) p1 (q / 100) (q % 100) := by
      unfold am_fv
      dsimp only; rw [am_u_at, am_up_eq]; split
      · exact absurd (by assumption) hkd
      · exact absurd (by assumption) hkd2
      · rfl
    rw [hval]
    congr 2
    refine (am_list_set hk (fun i hi => ?_)).symm
    unfold am_fv
    simp only [am_u_at, am_up_ne hi]
theorem aj_putL (F : am_F p s m args c cc nL own Ts D a0 cA base L0 X0) {q idx : Nat} {Cn : String} {T : u_T} {N : Nat} (hcl : am_cl[q / 100]? = some (Cn, T, N)) (hq : q / 100 < 50) (hk : q % 100 < N) (hT : (T (q % 100)).1 = Cn) (hin : ∀ w ∈ u_ws Cn T N, w ∈ am_tbl) (ty0 : Nat → FieldType) (hty : ∀ k, k < N → parseFieldDescriptor (T k).2.2.1 = some (ty0 k)) (hnm : ∀ a, a < N → ∀ b, b < N → a ≠ b → (T a).2.1 ≠ (T b).2.1) (htk : ty0 (q % 100) = .long) (hfin : (T (q % 100)).2.2.2 = false) (hkd : (am_fk.getD (q / 100) []).getD (q % 100) 0 = 1) (hlk : .fieldLink own idx Cn (T (q % 100)).2.1 (T (q % 100)).2.2.1 ∈ am_tbl) (hd : decode cc (pcs k) = .ok (.putfield idx, 3)) (hn : pcs (k + 1) = pcs k + 3) (hs : am_step rc na mcT msT cN cZ C Z (am_J p l e R s m args below meth c Qm nL D a0 cA base L0 X0 n0 z0 pcs) k ls st h (.fstore q)) : (am_J p l e R s m args below meth c Qm nL D a0 cA base L0 X0 n0 z0 pcs) k ls st h := by
  obtain ⟨p1, n, x, st1, rfl, hp, hX⟩ := hs
  intro ad H locs lr cells slots hag hwf hR hS hL hc hz hcap
  obtain ⟨C2, T2, h2⟩ := hR.2.2.2.2 p1 _ hp hq
  have hCT : (C2, T2, n) = (Cn, T, N) := Option.some.inj (h2.symm.trans hcl)
  cases hCT
  have h4 := am_pl hR hp (by omega)
  have hw' := am_ws_at (ad := ad) (cA := cA) h4 (am_lt hp)
  rw [am_el_obj hp hq] at hw'
  skip
  refine va_put (D := D) (v := .long x) (ty := .long) F.1 F.2.1 F.2.2.2.2.1 (fun w hw => F.2.2.2.2.2.1 w (hin w hw)) ty0 hty hnm F.2.2.2.1 F.2.2.2.2.2.2.1 hR.1 hR.2.1 hS (p1 - 4) hw' hcl (q % 100) hk (F.2.2.2.2.1 _ (F.2.2.2.2.2.1 _ hlk)) (fun x hx => by rw [hT] at hx; exact hx) hfin (by rw [hty _ hk, htk]) rfl rfl (by simpa using hk) hd (fun H1 locs1 hP1 hD1 hS1 => ?_)
  have hw := hX ad H1 locs1 lr cells slots hag ⟨hwf.1, am_tl (am_tl hwf.2.1), hwf.2.2⟩ (am_rel_set (p := p1) hR h4 (am_lt hp) rfl ?_ (fun z hz => am_el_oL (am_u_ne hz)) (fun j hj => rfl) hP1 hD1) hS1 hL hc hz hcap
  · rw [hn] at hw
    exact hw
  · rw [am_el_obj (h := (h.1, h.2.1, am_u h.2.2.1 p1 (q % 100) x, h.2.2.2)) hp hq]
    have hval : .long x = am_fv ad (h.1, h.2.1, am_u h.2.2.1 p1 (q % 100) x, h.2.2.2) p1 (q / 100) (q % 100) := by
      unfold am_fv
      dsimp only; simp only [hkd]; rw [am_u_at, am_up_eq]
    rw [hval]
    congr 2
    refine (am_list_set hk (fun i hi => ?_)).symm
    unfold am_fv
    simp only [am_u_at, am_up_ne hi]
theorem aj_putLF (F : am_F p s m args c cc nL own Ts D a0 cA base L0 X0) {q idx : Nat} {Cn : String} {T : u_T} {N : Nat} (hcl : am_cl[q / 100]? = some (Cn, T, N)) (hq : q / 100 < 50) (hk : q % 100 < N) (hT : (T (q % 100)).1 = Cn) (hin : ∀ w ∈ u_ws Cn T N, w ∈ am_tbl) (ty0 : Nat → FieldType) (hty : ∀ k, k < N → parseFieldDescriptor (T k).2.2.1 = some (ty0 k)) (hnm : ∀ a, a < N → ∀ b, b < N → a ≠ b → (T a).2.1 ≠ (T b).2.1) (htk : ty0 (q % 100) = .long) (hfin : (T (q % 100)).2.2.2 = true) (hini : meth.name = "<init>") (hown : Cn = own) (hkd : (am_fk.getD (q / 100) []).getD (q % 100) 0 = 1) (hlk : .fieldLink own idx Cn (T (q % 100)).2.1 (T (q % 100)).2.2.1 ∈ am_tbl) (hd : decode cc (pcs k) = .ok (.putfield idx, 3)) (hn : pcs (k + 1) = pcs k + 3) (hs : am_step rc na mcT msT cN cZ C Z (am_J p l e R s m args below meth c Qm nL D a0 cA base L0 X0 n0 z0 pcs) k ls st h (.fstore q)) : (am_J p l e R s m args below meth c Qm nL D a0 cA base L0 X0 n0 z0 pcs) k ls st h := by
  obtain ⟨p1, n, x, st1, rfl, hp, hX⟩ := hs
  intro ad H locs lr cells slots hag hwf hR hS hL hc hz hcap
  obtain ⟨C2, T2, h2⟩ := hR.2.2.2.2 p1 _ hp hq
  have hCT : (C2, T2, n) = (Cn, T, N) := Option.some.inj (h2.symm.trans hcl)
  cases hCT
  have h4 := am_pl hR hp (by omega)
  have hw' := am_ws_at (ad := ad) (cA := cA) h4 (am_lt hp)
  rw [am_el_obj hp hq] at hw'
  skip
  refine va_putF (D := D) (v := .long x) (ty := .long) F.1 F.2.1 F.2.2.2.2.1 (fun w hw => F.2.2.2.2.2.1 w (hin w hw)) ty0 hty hnm F.2.2.2.1 F.2.2.2.2.2.2.1 hR.1 hR.2.1 hS (p1 - 4) hw' hcl (q % 100) hk (F.2.2.2.2.1 _ (F.2.2.2.2.2.1 _ hlk)) (fun x hx => by rw [hT] at hx; exact hx) hfin hini (by rw [hT]; exact hown) (by rw [hty _ hk, htk]) rfl rfl (by simpa using hk) hd (fun H1 locs1 hP1 hD1 hS1 => ?_)
  have hw := hX ad H1 locs1 lr cells slots hag ⟨hwf.1, am_tl (am_tl hwf.2.1), hwf.2.2⟩ (am_rel_set (p := p1) hR h4 (am_lt hp) rfl ?_ (fun z hz => am_el_oL (am_u_ne hz)) (fun j hj => rfl) hP1 hD1) hS1 hL hc hz hcap
  · rw [hn] at hw
    exact hw
  · rw [am_el_obj (h := (h.1, h.2.1, am_u h.2.2.1 p1 (q % 100) x, h.2.2.2)) hp hq]
    have hval : .long x = am_fv ad (h.1, h.2.1, am_u h.2.2.1 p1 (q % 100) x, h.2.2.2) p1 (q / 100) (q % 100) := by
      unfold am_fv
      dsimp only; simp only [hkd]; rw [am_u_at, am_up_eq]
    rw [hval]
    congr 2
    refine (am_list_set hk (fun i hi => ?_)).symm
    unfold am_fv
    simp only [am_u_at, am_up_ne hi]
theorem aj_putLN (F : am_F p s m args c cc nL own Ts D a0 cA base L0 X0) {q idx : Nat} {Cn : String} {T : u_T} {N : Nat} (hcl : am_cl[q / 100]? = some (Cn, T, N)) (hq : q / 100 < 50) (hk : q % 100 < N) (hT : (T (q % 100)).1 = Cn) (hin : ∀ w ∈ u_ws Cn T N, w ∈ am_tbl) {host : String} (ty0 : Nat → FieldType) (hty : ∀ k, k < N → parseFieldDescriptor (T k).2.2.1 = some (ty0 k)) (hnm : ∀ a, a < N → ∀ b, b < N → a ≠ b → (T a).2.1 ≠ (T b).2.1) (htk : ty0 (q % 100) = .long) (hfin : (T (q % 100)).2.2.2 = false) (hkd : (am_fk.getD (q / 100) []).getD (q % 100) 0 = 1) (hlk : .fieldLinkNest own idx Cn (T (q % 100)).2.1 (T (q % 100)).2.2.1 host ∈ am_tbl) (hd : decode cc (pcs k) = .ok (.putfield idx, 3)) (hn : pcs (k + 1) = pcs k + 3) (hs : am_step rc na mcT msT cN cZ C Z (am_J p l e R s m args below meth c Qm nL D a0 cA base L0 X0 n0 z0 pcs) k ls st h (.fstore q)) : (am_J p l e R s m args below meth c Qm nL D a0 cA base L0 X0 n0 z0 pcs) k ls st h := by
  obtain ⟨p1, n, x, st1, rfl, hp, hX⟩ := hs
  intro ad H locs lr cells slots hag hwf hR hS hL hc hz hcap
  obtain ⟨C2, T2, h2⟩ := hR.2.2.2.2 p1 _ hp hq
  have hCT : (C2, T2, n) = (Cn, T, N) := Option.some.inj (h2.symm.trans hcl)
  cases hCT
  have h4 := am_pl hR hp (by omega)
  have hw' := am_ws_at (ad := ad) (cA := cA) h4 (am_lt hp)
  rw [am_el_obj hp hq] at hw'
  skip
  refine va_putN (D := D) (v := .long x) (ty := .long) F.1 F.2.1 F.2.2.2.2.1 (fun w hw => F.2.2.2.2.2.1 w (hin w hw)) ty0 hty hnm F.2.2.2.1 F.2.2.2.2.2.2.1 hR.1 hR.2.1 hS (p1 - 4) hw' hcl (q % 100) hk (F.2.2.2.2.1 _ (F.2.2.2.2.2.1 _ hlk)) (fun x hx => by rw [hT] at hx; exact hx) hfin (by rw [hty _ hk, htk]) rfl rfl (by simpa using hk) hd (fun H1 locs1 hP1 hD1 hS1 => ?_)
  have hw := hX ad H1 locs1 lr cells slots hag ⟨hwf.1, am_tl (am_tl hwf.2.1), hwf.2.2⟩ (am_rel_set (p := p1) hR h4 (am_lt hp) rfl ?_ (fun z hz => am_el_oL (am_u_ne hz)) (fun j hj => rfl) hP1 hD1) hS1 hL hc hz hcap
  · rw [hn] at hw
    exact hw
  · rw [am_el_obj (h := (h.1, h.2.1, am_u h.2.2.1 p1 (q % 100) x, h.2.2.2)) hp hq]
    have hval : .long x = am_fv ad (h.1, h.2.1, am_u h.2.2.1 p1 (q % 100) x, h.2.2.2) p1 (q / 100) (q % 100) := by
      unfold am_fv
      dsimp only; simp only [hkd]; rw [am_u_at, am_up_eq]
    rw [hval]
    congr 2
    refine (am_list_set hk (fun i hi => ?_)).symm
    unfold am_fv
    simp only [am_u_at, am_up_ne hi]
theorem aj_putR (F : am_F p s m args c cc nL own Ts D a0 cA base L0 X0) {q idx : Nat} {Cn : String} {T : u_T} {N : Nat} (hcl : am_cl[q / 100]? = some (Cn, T, N)) (hq : q / 100 < 50) (hk : q % 100 < N) (hT : (T (q % 100)).1 = Cn) (hin : ∀ w ∈ u_ws Cn T N, w ∈ am_tbl) {ty : FieldType} (hnr : ∀ r : Option Nat, narrow ty (va_rf r) = va_rf r) (hfr : ∀ r : Option Nat, fits ty (va_rf r) = true) (ty0 : Nat → FieldType) (hty : ∀ k, k < N → parseFieldDescriptor (T k).2.2.1 = some (ty0 k)) (hnm : ∀ a, a < N → ∀ b, b < N → a ≠ b → (T a).2.1 ≠ (T b).2.1) (htk : ty0 (q % 100) = ty) (hfin : (T (q % 100)).2.2.2 = false) (hkd : (am_fk.getD (q / 100) []).getD (q % 100) 0 = 2) (hlk : .fieldLink own idx Cn (T (q % 100)).2.1 (T (q % 100)).2.2.1 ∈ am_tbl) (hd : decode cc (pcs k) = .ok (.putfield idx, 3)) (hn : pcs (k + 1) = pcs k + 3) (hs : am_step rc na mcT msT cN cZ C Z (am_J p l e R s m args below meth c Qm nL D a0 cA base L0 X0 n0 z0 pcs) k ls st h (.dstore q)) : (am_J p l e R s m args below meth c Qm nL D a0 cA base L0 X0 n0 z0 pcs) k ls st h := by
  obtain ⟨p1, n, r, st1, rfl, hp, hX⟩ := hs
  intro ad H locs lr cells slots hag hwf hR hS hL hc hz hcap
  obtain ⟨C2, T2, h2⟩ := hR.2.2.2.2 p1 _ hp hq
  have hCT : (C2, T2, n) = (Cn, T, N) := Option.some.inj (h2.symm.trans hcl)
  cases hCT
  have h4 := am_pl hR hp (by omega)
  have hw' := am_ws_at (ad := ad) (cA := cA) h4 (am_lt hp)
  rw [am_el_obj hp hq] at hw'
  simp only [List.map_cons, am_vv_rf]
  refine va_put (D := D) (v := va_rf (r.map ad)) (ty := ty) F.1 F.2.1 F.2.2.2.2.1 (fun w hw => F.2.2.2.2.2.1 w (hin w hw)) ty0 hty hnm F.2.2.2.1 F.2.2.2.2.2.2.1 hR.1 hR.2.1 hS (p1 - 4) hw' hcl (q % 100) hk (F.2.2.2.2.1 _ (F.2.2.2.2.2.1 _ hlk)) (fun x hx => by rw [hT] at hx; exact hx) hfin (by rw [hty _ hk, htk]) (hnr _) (hfr _) (by simpa using hk) hd (fun H1 locs1 hP1 hD1 hS1 => ?_)
  have hw := hX ad H1 locs1 lr cells slots hag (am_wfR hwf) (am_rel_set (p := p1) hR h4 (am_lt hp) rfl ?_ (fun z hz => am_el_oR (am_u_ne hz)) (fun j hj => rfl) hP1 hD1) hS1 hL hc hz hcap
  · rw [hn] at hw
    exact hw
  · rw [am_el_obj (h := (h.1, h.2.1, h.2.2.1, am_u h.2.2.2 p1 (q % 100) r)) hp hq]
    have hval : va_rf (r.map ad) = am_fv ad (h.1, h.2.1, h.2.2.1, am_u h.2.2.2 p1 (q % 100) r) p1 (q / 100) (q % 100) := by
      unfold am_fv
      dsimp only; simp only [hkd]; rw [am_u_at, am_up_eq]
    rw [hval]
    congr 2
    refine (am_list_set hk (fun i hi => ?_)).symm
    unfold am_fv
    simp only [am_u_at, am_up_ne hi]
theorem aj_putRF (F : am_F p s m args c cc nL own Ts D a0 cA base L0 X0) {q idx : Nat} {Cn : String} {T : u_T} {N : Nat} (hcl : am_cl[q / 100]? = some (Cn, T, N)) (hq : q / 100 < 50) (hk : q % 100 < N) (hT : (T (q % 100)).1 = Cn) (hin : ∀ w ∈ u_ws Cn T N, w ∈ am_tbl) {ty : FieldType} (hnr : ∀ r : Option Nat, narrow ty (va_rf r) = va_rf r) (hfr : ∀ r : Option Nat, fits ty (va_rf r) = true) (ty0 : Nat → FieldType) (hty : ∀ k, k < N → parseFieldDescriptor (T k).2.2.1 = some (ty0 k)) (hnm : ∀ a, a < N → ∀ b, b < N → a ≠ b → (T a).2.1 ≠ (T b).2.1) (htk : ty0 (q % 100) = ty) (hfin : (T (q % 100)).2.2.2 = true) (hini : meth.name = "<init>") (hown : Cn = own) (hkd : (am_fk.getD (q / 100) []).getD (q % 100) 0 = 2) (hlk : .fieldLink own idx Cn (T (q % 100)).2.1 (T (q % 100)).2.2.1 ∈ am_tbl) (hd : decode cc (pcs k) = .ok (.putfield idx, 3)) (hn : pcs (k + 1) = pcs k + 3) (hs : am_step rc na mcT msT cN cZ C Z (am_J p l e R s m args below meth c Qm nL D a0 cA base L0 X0 n0 z0 pcs) k ls st h (.dstore q)) : (am_J p l e R s m args below meth c Qm nL D a0 cA base L0 X0 n0 z0 pcs) k ls st h := by
  obtain ⟨p1, n, r, st1, rfl, hp, hX⟩ := hs
  intro ad H locs lr cells slots hag hwf hR hS hL hc hz hcap
  obtain ⟨C2, T2, h2⟩ := hR.2.2.2.2 p1 _ hp hq
  have hCT : (C2, T2, n) = (Cn, T, N) := Option.some.inj (h2.symm.trans hcl)
  cases hCT
  have h4 := am_pl hR hp (by omega)
  have hw' := am_ws_at (ad := ad) (cA := cA) h4 (am_lt hp)
  rw [am_el_obj hp hq] at hw'
  simp only [List.map_cons, am_vv_rf]
  refine va_putF (D := D) (v := va_rf (r.map ad)) (ty := ty) F.1 F.2.1 F.2.2.2.2.1 (fun w hw => F.2.2.2.2.2.1 w (hin w hw)) ty0 hty hnm F.2.2.2.1 F.2.2.2.2.2.2.1 hR.1 hR.2.1 hS (p1 - 4) hw' hcl (q % 100) hk (F.2.2.2.2.1 _ (F.2.2.2.2.2.1 _ hlk)) (fun x hx => by rw [hT] at hx; exact hx) hfin hini (by rw [hT]; exact hown) (by rw [hty _ hk, htk]) (hnr _) (hfr _) (by simpa using hk) hd (fun H1 locs1 hP1 hD1 hS1 => ?_)
  have hw := hX ad H1 locs1 lr cells slots hag (am_wfR hwf) (am_rel_set (p := p1) hR h4 (am_lt hp) rfl ?_ (fun z hz => am_el_oR (am_u_ne hz)) (fun j hj => rfl) hP1 hD1) hS1 hL hc hz hcap
  · rw [hn] at hw
    exact hw
  · rw [am_el_obj (h := (h.1, h.2.1, h.2.2.1, am_u h.2.2.2 p1 (q % 100) r)) hp hq]
    have hval : va_rf (r.map ad) = am_fv ad (h.1, h.2.1, h.2.2.1, am_u h.2.2.2 p1 (q % 100) r) p1 (q / 100) (q % 100) := by
      unfold am_fv
      dsimp only; simp only [hkd]; rw [am_u_at, am_up_eq]
    rw [hval]
    congr 2
    refine (am_list_set hk (fun i hi => ?_)).symm
    unfold am_fv
    simp only [am_u_at, am_up_ne hi]
theorem aj_putRN (F : am_F p s m args c cc nL own Ts D a0 cA base L0 X0) {q idx : Nat} {Cn : String} {T : u_T} {N : Nat} (hcl : am_cl[q / 100]? = some (Cn, T, N)) (hq : q / 100 < 50) (hk : q % 100 < N) (hT : (T (q % 100)).1 = Cn) (hin : ∀ w ∈ u_ws Cn T N, w ∈ am_tbl) {host : String} {ty : FieldType} (hnr : ∀ r : Option Nat, narrow ty (va_rf r) = va_rf r) (hfr : ∀ r : Option Nat, fits ty (va_rf r) = true) (ty0 : Nat → FieldType) (hty : ∀ k, k < N → parseFieldDescriptor (T k).2.2.1 = some (ty0 k)) (hnm : ∀ a, a < N → ∀ b, b < N → a ≠ b → (T a).2.1 ≠ (T b).2.1) (htk : ty0 (q % 100) = ty) (hfin : (T (q % 100)).2.2.2 = false) (hkd : (am_fk.getD (q / 100) []).getD (q % 100) 0 = 2) (hlk : .fieldLinkNest own idx Cn (T (q % 100)).2.1 (T (q % 100)).2.2.1 host ∈ am_tbl) (hd : decode cc (pcs k) = .ok (.putfield idx, 3)) (hn : pcs (k + 1) = pcs k + 3) (hs : am_step rc na mcT msT cN cZ C Z (am_J p l e R s m args below meth c Qm nL D a0 cA base L0 X0 n0 z0 pcs) k ls st h (.dstore q)) : (am_J p l e R s m args below meth c Qm nL D a0 cA base L0 X0 n0 z0 pcs) k ls st h := by
  obtain ⟨p1, n, r, st1, rfl, hp, hX⟩ := hs
  intro ad H locs lr cells slots hag hwf hR hS hL hc hz hcap
  obtain ⟨C2, T2, h2⟩ := hR.2.2.2.2 p1 _ hp hq
  have hCT : (C2, T2, n) = (Cn, T, N) := Option.some.inj (h2.symm.trans hcl)
  cases hCT
  have h4 := am_pl hR hp (by omega)
  have hw' := am_ws_at (ad := ad) (cA := cA) h4 (am_lt hp)
  rw [am_el_obj hp hq] at hw'
  simp only [List.map_cons, am_vv_rf]
  refine va_putN (D := D) (v := va_rf (r.map ad)) (ty := ty) F.1 F.2.1 F.2.2.2.2.1 (fun w hw => F.2.2.2.2.2.1 w (hin w hw)) ty0 hty hnm F.2.2.2.1 F.2.2.2.2.2.2.1 hR.1 hR.2.1 hS (p1 - 4) hw' hcl (q % 100) hk (F.2.2.2.2.1 _ (F.2.2.2.2.2.1 _ hlk)) (fun x hx => by rw [hT] at hx; exact hx) hfin (by rw [hty _ hk, htk]) (hnr _) (hfr _) (by simpa using hk) hd (fun H1 locs1 hP1 hD1 hS1 => ?_)
  have hw := hX ad H1 locs1 lr cells slots hag (am_wfR hwf) (am_rel_set (p := p1) hR h4 (am_lt hp) rfl ?_ (fun z hz => am_el_oR (am_u_ne hz)) (fun j hj => rfl) hP1 hD1) hS1 hL hc hz hcap
  · rw [hn] at hw
    exact hw
  · rw [am_el_obj (h := (h.1, h.2.1, h.2.2.1, am_u h.2.2.2 p1 (q % 100) r)) hp hq]
    have hval : va_rf (r.map ad) = am_fv ad (h.1, h.2.1, h.2.2.1, am_u h.2.2.2 p1 (q % 100) r) p1 (q / 100) (q % 100) := by
      unfold am_fv
      dsimp only; simp only [hkd]; rw [am_u_at, am_up_eq]
    rw [hval]
    congr 2
    refine (am_list_set hk (fun i hi => ?_)).symm
    unfold am_fv
    simp only [am_u_at, am_up_ne hi]
end AMC
end
section
section AMD
variable {p : Program} {l : Launch} {e : Env} {R : Room} {s : State} {m : MethodId} {args : Array Value} {below : List Frame} {meth : Method} {c : Code} {Qm : State → Prop} {cc : ByteArray} {nL : Nat} {own : String} {Ts : List Cond} {D : va_G} {a0 : Nat → Nat} {cA : Nat → ClassId} {base : Nat} {L0 : Nat → Nat} {X0 : Nat → Nat → Int32} {n0 z0 : Nat} {pcs : Nat → Nat} {rc na mcT msT : Nat → Nat} {cN cZ : Nat} {C : am_C} {Z : am_Q} {k : Nat} {ls : List (Option Value)} {st : List Value} {h : am_H}
variable {ad : Nat → Nat} {H : Heap}
theorem am_wfA {ls : List (Option Value)} {st : List Value} {h : am_H} {p1 j r : Nat} {w w2 : Value} (hwf : am_wf ls (.ref r :: w :: w2 :: st) h) : am_wf ls st (h.1, h.2.1, h.2.2.1, am_u h.2.2.2 p1 j (some r)) :=
  am_wfR (r := some r) (w := w) ⟨hwf.1, am_okc (hwf.2.1 _ List.mem_cons_self) (am_okc (hwf.2.1 w (List.mem_cons_of_mem _ List.mem_cons_self)) (am_tl (am_tl (am_tl hwf.2.1)))), hwf.2.2⟩
theorem aj_iaload (F : am_F p s m args c cc nL own Ts D a0 cA base L0 X0) (h4n : 4 ≤ n0) (hd : decode cc (pcs k) = .ok (.iaload, 1)) (hn : pcs (k + 1) = pcs k + 1) (hs : am_step rc na mcT msT cN cZ C Z (am_J p l e R s m args below meth c Qm nL D a0 cA base L0 X0 n0 z0 pcs) k ls st h .iaload) : (am_J p l e R s m args below meth c Qm nL D a0 cA base L0 X0 n0 z0 pcs) k ls st h := by
  obtain ⟨p1, n, i, st1, rfl, hp, hi, hX⟩ := hs
  intro ad H locs lr cells slots hag hwf hR hS hL hc hz hcap
  have hw := hX ad H locs lr cells slots hag ⟨hwf.1, am_okc trivial (am_tl (am_tl hwf.2.1)), hwf.2.2⟩ hR hS hL hc hz hcap
  rw [hn] at hw
  rcases Nat.lt_or_ge p1 4 with q | q
  · obtain ⟨e1, e2⟩ := hR.2.2.2.1 p1 q
    rw [hp] at e1
    cases e1
    obtain ⟨x1, x2⟩ := F.2.2.2.2.2.2.2.1 p1 q
    rw [e2] at hw
    have e3 : ad p1 = a0 p1 := hag p1 (by omega)
    show W p l e R s m args below meth c H locs cells slots Qm (F0 m (pcs k) lr (.int i :: .ref (ad p1) :: st1.map (am_vv ad)))
    rw [e3]
    exact va_sld F.1 F.2.1 x1 (Nat.lt_of_lt_of_le x2 F.2.2.2.2.2.2.2.2.1) (by omega) hS hi hd hw
  · have hw' := am_ws_at (ad := ad) (cA := cA) q (am_lt hp)
    rw [am_el_arr hp (by omega) (by omega) (by omega)] at hw'
    exact va_iald F.1 F.2.1 F.2.2.2.2.2.2.1 hR.1 (p1 - 4) 0 hw' rfl hi hd hw
theorem aj_baload (F : am_F p s m args c cc nL own Ts D a0 cA base L0 X0) (hd : decode cc (pcs k) = .ok (.baload, 1)) (hn : pcs (k + 1) = pcs k + 1) (hs : am_step rc na mcT msT cN cZ C Z (am_J p l e R s m args below meth c Qm nL D a0 cA base L0 X0 n0 z0 pcs) k ls st h .baload) : (am_J p l e R s m args below meth c Qm nL D a0 cA base L0 X0 n0 z0 pcs) k ls st h := by
  obtain ⟨p1, n, i, st1, rfl, hp, hi, hX⟩ := hs
  intro ad H locs lr cells slots hag hwf hR hS hL hc hz hcap
  have hw := hX ad H locs lr cells slots hag ⟨hwf.1, am_okc trivial (am_tl (am_tl hwf.2.1)), hwf.2.2⟩ hR hS hL hc hz hcap
  rw [hn] at hw
  have hw' := am_ws_at (ad := ad) (cA := cA) (am_pl hR hp (by omega)) (am_lt hp)
  rw [am_el_arr hp (by omega) (by omega) (by omega)] at hw'
  exact va_bald F.1 F.2.1 F.2.2.2.2.2.2.1 hR.1 (p1 - 4) 2 hw' rfl hi hd hw
theorem aj_caload (F : am_F p s m args c cc nL own Ts D a0 cA base L0 X0) (hd : decode cc (pcs k) = .ok (.baload, 1)) (hn : pcs (k + 1) = pcs k + 1) (hs : am_step rc na mcT msT cN cZ C Z (am_J p l e R s m args below meth c Qm nL D a0 cA base L0 X0 n0 z0 pcs) k ls st h .caload) : (am_J p l e R s m args below meth c Qm nL D a0 cA base L0 X0 n0 z0 pcs) k ls st h := by
  obtain ⟨p1, n, i, st1, rfl, hp, hi, hX⟩ := hs
  intro ad H locs lr cells slots hag hwf hR hS hL hc hz hcap
  have hw := hX ad H locs lr cells slots hag ⟨hwf.1, am_okc trivial (am_tl (am_tl hwf.2.1)), hwf.2.2⟩ hR hS hL hc hz hcap
  rw [hn] at hw
  have hw' := am_ws_at (ad := ad) (cA := cA) (am_pl hR hp (by omega)) (am_lt hp)
  rw [am_el_arr hp (by omega) (by omega) (by omega)] at hw'
  exact va_zald F.1 F.2.1 F.2.2.2.2.2.2.1 hR.1 (p1 - 4) 3 hw' rfl hi hd hw
theorem aj_laload (F : am_F p s m args c cc nL own Ts D a0 cA base L0 X0) (hd : decode cc (pcs k) = .ok (.laload, 1)) (hn : pcs (k + 1) = pcs k + 1) (hs : am_step rc na mcT msT cN cZ C Z (am_J p l e R s m args below meth c Qm nL D a0 cA base L0 X0 n0 z0 pcs) k ls st h .laload) : (am_J p l e R s m args below meth c Qm nL D a0 cA base L0 X0 n0 z0 pcs) k ls st h := by
  obtain ⟨p1, n, i, st1, rfl, hp, hi, hX⟩ := hs
  intro ad H locs lr cells slots hag hwf hR hS hL hc hz hcap
  have hw := hX ad H locs lr cells slots hag ⟨hwf.1, am_okc trivial (am_tl (am_tl hwf.2.1)), hwf.2.2⟩ hR hS hL hc hz hcap
  rw [hn] at hw
  have hw' := am_ws_at (ad := ad) (cA := cA) (am_pl hR hp (by omega)) (am_lt hp)
  rw [am_el_51 hp] at hw'
  exact va_lald F.1 F.2.1 F.2.2.2.2.2.2.1 hR.1 (p1 - 4) 1 hw' rfl hi hd hw
theorem aj_aaload (F : am_F p s m args c cc nL own Ts D a0 cA base L0 X0) (hd : decode cc (pcs k) = .ok (.aaload, 1)) (hn : pcs (k + 1) = pcs k + 1) (hs : am_step rc na mcT msT cN cZ C Z (am_J p l e R s m args below meth c Qm nL D a0 cA base L0 X0 n0 z0 pcs) k ls st h .aaload) : (am_J p l e R s m args below meth c Qm nL D a0 cA base L0 X0 n0 z0 pcs) k ls st h := by
  obtain ⟨p1, n, i, st1, rfl, hp, hi, hX⟩ := hs
  intro ad H locs lr cells slots hag hwf hR hS hL hc hz hcap
  have hw := hX ad H locs lr cells slots hag ⟨hwf.1, am_okrf (am_tl (am_tl hwf.2.1)) (hwf.2.2 p1 i.toNatClampNeg), hwf.2.2⟩ hR hS hL hc hz hcap
  rw [hn] at hw
  have hw' := am_ws_at (ad := ad) (cA := cA) (am_pl hR hp (by omega)) (am_lt hp)
  rw [am_el_54 hp] at hw'
  simp only [List.map_cons, am_vv_rf] at hw
  exact va_aldq F.1 F.2.1 F.2.2.2.2.2.2.1 hR.1 (p1 - 4) 4 hw' rfl hi hd hw
theorem aj_iastore (F : am_F p s m args c cc nL own Ts D a0 cA base L0 X0) (hd : decode cc (pcs k) = .ok (.iastore, 1)) (hn : pcs (k + 1) = pcs k + 1) (hs : am_step rc na mcT msT cN cZ C Z (am_J p l e R s m args below meth c Qm nL D a0 cA base L0 X0 n0 z0 pcs) k ls st h .iastore) : (am_J p l e R s m args below meth c Qm nL D a0 cA base L0 X0 n0 z0 pcs) k ls st h := by
  obtain ⟨p1, n, i, x, st1, rfl, h4, hp, hi, hX⟩ := hs
  intro ad H locs lr cells slots hag hwf hR hS hL hc hz hcap
  have h4 : @LE.le Nat instLENat 4 p1 := h4
  have hw' := am_ws_at (ad := ad) (cA := cA) h4 (am_lt hp)
  rw [am_el_arr hp (by omega) (by omega) (by omega)] at hw'
  refine va_iast F.1 F.2.1 F.2.2.2.2.2.2.1 hR.1 hR.2.1 hS (p1 - 4) 0 hw' rfl hi hd (fun H1 locs1 hP1 hD1 hS1 => ?_)
  have hw := hX ad H1 locs1 lr cells slots hag ⟨hwf.1, am_tl (am_tl (am_tl hwf.2.1)), hwf.2.2⟩ (am_rel_set (p := p1) hR h4 (am_lt hp) rfl ?_ (fun z hz => am_el_oI (am_u_ne hz)) (fun j hj => am_u_ne (by omega)) hP1 hD1) hS1 hL hc hz hcap
  · rw [hn] at hw
    exact hw
  · rw [am_el_arr (h := (h.1, am_u h.2.1 p1 i.toNatClampNeg x, h.2.2)) hp (by omega) (by omega) (by omega)]
    dsimp only
    rw [am_u_at]
    rfl
theorem aj_bastore (F : am_F p s m args c cc nL own Ts D a0 cA base L0 X0) (hd : decode cc (pcs k) = .ok (.bastore, 1)) (hn : pcs (k + 1) = pcs k + 1) (hs : am_step rc na mcT msT cN cZ C Z (am_J p l e R s m args below meth c Qm nL D a0 cA base L0 X0 n0 z0 pcs) k ls st h .bastore) : (am_J p l e R s m args below meth c Qm nL D a0 cA base L0 X0 n0 z0 pcs) k ls st h := by
  obtain ⟨p1, n, i, x, st1, rfl, hp, hi, hX⟩ := hs
  intro ad H locs lr cells slots hag hwf hR hS hL hc hz hcap
  have h4 := am_pl hR hp (by omega)
  have hw' := am_ws_at (ad := ad) (cA := cA) h4 (am_lt hp)
  rw [am_el_arr hp (by omega) (by omega) (by omega)] at hw'
  refine va_bast F.1 F.2.1 F.2.2.2.2.2.2.1 hR.1 hR.2.1 hS (p1 - 4) 2 hw' rfl hi hd (fun H1 locs1 hP1 hD1 hS1 => ?_)
  have hw := hX ad H1 locs1 lr cells slots hag ⟨hwf.1, am_tl (am_tl (am_tl hwf.2.1)), hwf.2.2⟩ (am_rel_set (p := p1) hR h4 (am_lt hp) rfl ?_ (fun z hz => am_el_oI (am_u_ne hz)) (fun j hj => am_u_ne (by omega)) hP1 hD1) hS1 hL hc hz hcap
  · rw [hn] at hw
    exact hw
  · rw [am_el_arr (h := (h.1, am_u h.2.1 p1 i.toNatClampNeg (vp_nar .byte x), h.2.2)) hp (by omega) (by omega) (by omega)]
    dsimp only
    rw [am_u_at]
    rfl
theorem aj_castore (F : am_F p s m args c cc nL own Ts D a0 cA base L0 X0) (hd : decode cc (pcs k) = .ok (.bastore, 1)) (hn : pcs (k + 1) = pcs k + 1) (hs : am_step rc na mcT msT cN cZ C Z (am_J p l e R s m args below meth c Qm nL D a0 cA base L0 X0 n0 z0 pcs) k ls st h .castore) : (am_J p l e R s m args below meth c Qm nL D a0 cA base L0 X0 n0 z0 pcs) k ls st h := by
  obtain ⟨p1, n, i, x, st1, rfl, hp, hi, hX⟩ := hs
  intro ad H locs lr cells slots hag hwf hR hS hL hc hz hcap
  have h4 := am_pl hR hp (by omega)
  have hw' := am_ws_at (ad := ad) (cA := cA) h4 (am_lt hp)
  rw [am_el_arr hp (by omega) (by omega) (by omega)] at hw'
  refine va_zast F.1 F.2.1 F.2.2.2.2.2.2.1 hR.1 hR.2.1 hS (p1 - 4) 3 hw' rfl hi hd (fun H1 locs1 hP1 hD1 hS1 => ?_)
  have hw := hX ad H1 locs1 lr cells slots hag ⟨hwf.1, am_tl (am_tl (am_tl hwf.2.1)), hwf.2.2⟩ (am_rel_set (p := p1) hR h4 (am_lt hp) rfl ?_ (fun z hz => am_el_oI (am_u_ne hz)) (fun j hj => am_u_ne (by omega)) hP1 hD1) hS1 hL hc hz hcap
  · rw [hn] at hw
    exact hw
  · rw [am_el_arr (h := (h.1, am_u h.2.1 p1 i.toNatClampNeg (vp_nar .boolean x), h.2.2)) hp (by omega) (by omega) (by omega)]
    dsimp only
    rw [am_u_at]
    rfl
theorem aj_lastore (F : am_F p s m args c cc nL own Ts D a0 cA base L0 X0) (hd : decode cc (pcs k) = .ok (.lastore, 1)) (hn : pcs (k + 1) = pcs k + 1) (hs : am_step rc na mcT msT cN cZ C Z (am_J p l e R s m args below meth c Qm nL D a0 cA base L0 X0 n0 z0 pcs) k ls st h .lastore) : (am_J p l e R s m args below meth c Qm nL D a0 cA base L0 X0 n0 z0 pcs) k ls st h := by
  obtain ⟨p1, n, i, x, st1, rfl, hp, hi, hX⟩ := hs
  intro ad H locs lr cells slots hag hwf hR hS hL hc hz hcap
  have h4 := am_pl hR hp (by omega)
  have hw' := am_ws_at (ad := ad) (cA := cA) h4 (am_lt hp)
  rw [am_el_51 hp] at hw'
  refine va_last F.1 F.2.1 F.2.2.2.2.2.2.1 hR.1 hR.2.1 hS (p1 - 4) 1 hw' rfl hi hd (fun H1 locs1 hP1 hD1 hS1 => ?_)
  have hw := hX ad H1 locs1 lr cells slots hag ⟨hwf.1, am_tl (am_tl (am_tl hwf.2.1)), hwf.2.2⟩ (am_rel_set (p := p1) hR h4 (am_lt hp) rfl ?_ (fun z hz => am_el_oL (am_u_ne hz)) (fun j hj => rfl) hP1 hD1) hS1 hL hc hz hcap
  · rw [hn] at hw
    exact hw
  · rw [am_el_51 (h := (h.1, h.2.1, am_u h.2.2.1 p1 i.toNatClampNeg x, h.2.2.2)) hp]
    dsimp only
    rw [am_u_at]
    rfl
theorem aj_aastore (F : am_F p s m args c cc nL own Ts D a0 cA base L0 X0) (hd : decode cc (pcs k) = .ok (.aastore, 1)) (hn : pcs (k + 1) = pcs k + 1) (hs : am_step rc na mcT msT cN cZ C Z (am_J p l e R s m args below meth c Qm nL D a0 cA base L0 X0 n0 z0 pcs) k ls st h .aastore) : (am_J p l e R s m args below meth c Qm nL D a0 cA base L0 X0 n0 z0 pcs) k ls st h := by
  obtain ⟨p1, n, i, r, m1, st1, rfl, hp, hr, hi, hX⟩ := hs
  intro ad H locs lr cells slots hag hwf hR hS hL hc hz hcap
  have h4 := am_pl hR hp (by omega)
  have h5 := am_pl hR hr (by omega)
  have hw' := am_ws_at (ad := ad) (cA := cA) h4 (am_lt hp)
  rw [am_el_54 hp] at hw'
  have hw2 := am_ws_at (ad := ad) (cA := cA) h5 (am_lt hr)
  rw [am_el_obj hr (by omega)] at hw2
  refine va_astq (r := (RX0, TX0, 16)) F.1 F.2.1 F.2.2.2.2.2.2.1 hR.1 hR.2.1 hS (p1 - 4) 4 (r - 4) 0 hw' rfl hw2 rfl hi hd (fun H1 locs1 hP1 hD1 hS1 => ?_)
  have hw := hX ad H1 locs1 lr cells slots hag (am_wfA hwf) (am_rel_set (p := p1) hR h4 (am_lt hp) rfl ?_ (fun z hz => am_el_oR (am_u_ne hz)) (fun j hj => rfl) hP1 hD1) hS1 hL hc hz hcap
  · rw [hn] at hw
    exact hw
  · rw [am_el_54 (h := (h.1, h.2.1, h.2.2.1, am_u h.2.2.2 p1 i.toNatClampNeg (some r))) hp]
    dsimp only
    rw [am_u_at]
    congr 7
    funext j
    unfold va_up
    split <;> rfl
theorem aj_arraylength (F : am_F p s m args c cc nL own Ts D a0 cA base L0 X0) (h4n : 4 ≤ n0) (hd : decode cc (pcs k) = .ok (.arraylength, 1)) (hn : pcs (k + 1) = pcs k + 1) (hs : am_step rc na mcT msT cN cZ C Z (am_J p l e R s m args below meth c Qm nL D a0 cA base L0 X0 n0 z0 pcs) k ls st h .arraylength) : (am_J p l e R s m args below meth c Qm nL D a0 cA base L0 X0 n0 z0 pcs) k ls st h := by
  obtain ⟨p1, t, n, st1, rfl, hp, ht, ht2, hX⟩ := hs
  intro ad H locs lr cells slots hag hwf hR hS hL hc hz hcap
  have hw := hX ad H locs lr cells slots hag ⟨hwf.1, am_okc trivial (am_tl hwf.2.1), hwf.2.2⟩ hR hS hL hc hz hcap
  rw [hn] at hw
  rcases Nat.lt_or_ge p1 4 with q | q
  · obtain ⟨e1, e2⟩ := hR.2.2.2.1 p1 q
    rw [hp] at e1
    cases e1
    obtain ⟨x1, x2⟩ := F.2.2.2.2.2.2.2.1 p1 q
    have e3 : ad p1 = a0 p1 := hag p1 (by omega)
    show W p l e R s m args below meth c H locs cells slots Qm (F0 m (pcs k) lr (.ref (ad p1) :: st1.map (am_vv ad)))
    rw [e3]
    exact va_slen F.1 F.2.1 x1 (Nat.lt_of_lt_of_le x2 F.2.2.2.2.2.2.2.2.1) (by omega) hS hd hw
  · have hw' := am_ws_at (ad := ad) (cA := cA) q (am_lt hp)
    by_cases h51 : t = 51
    · subst h51
      rw [am_el_51 hp] at hw'
      exact va_alen F.1 F.2.1 F.2.2.2.2.2.2.1 hR.1 (p1 - 4) 1 hw' (ty := .long) rfl rfl hd hw
    · by_cases h54 : t = 54
      · subst h54
        rw [am_el_54 hp] at hw'
        exact va_alen F.1 F.2.1 F.2.2.2.2.2.2.1 hR.1 (p1 - 4) 4 hw' (ty := .object RX0) rfl rfl hd hw
      · rw [am_el_arr hp (by omega) h51 h54] at hw'
        have h3 : t = 50 ∨ t = 52 ∨ t = 53 := by omega
        rcases h3 with rfl | rfl | rfl
        · exact va_alen F.1 F.2.1 F.2.2.2.2.2.2.1 hR.1 (p1 - 4) 0 hw' (ty := .int) rfl rfl hd hw
        · exact va_alen F.1 F.2.1 F.2.2.2.2.2.2.1 hR.1 (p1 - 4) 2 hw' (ty := .byte) rfl rfl hd hw
        · exact va_alen F.1 F.2.1 F.2.2.2.2.2.2.1 hR.1 (p1 - 4) 3 hw' (ty := .boolean) rfl rfl hd hw
theorem aj_gets (F : am_F p s m args c cc nL own Ts D a0 cA base L0 X0) (h4n : 4 ≤ n0) {j idx : Nat} (hj : j < 3) (hlk : .fieldLink own idx (am_sf j).1 (am_sf j).2 "[I" ∈ am_tbl) (hd : decode cc (pcs k) = .ok (.getstatic idx, 3)) (hn : pcs (k + 1) = pcs k + 3) (hs : am_step rc na mcT msT cN cZ C Z (am_J p l e R s m args below meth c Qm nL D a0 cA base L0 X0 n0 z0 pcs) k ls st h (.getstatic j)) : (am_J p l e R s m args below meth c Qm nL D a0 cA base L0 X0 n0 z0 pcs) k ls st h := by
  have hX := hs
  intro ad H locs lr cells slots hag hwf hR hS hL hc hz hcap
  have hw := hX ad H locs lr cells slots hag ⟨hwf.1, am_okc (show j < h.1.length by have := hR.2.2.1; omega) hwf.2.1, hwf.2.2⟩ hR hS hL hc hz hcap
  rw [hn] at hw
  have e3 : ad j = a0 j := hag j (by omega)
  have hw2 : W p l e R s m args below meth c H locs cells slots Qm (F0 m (pcs k + 3) lr (.ref (ad j) :: st.map (am_vv ad))) := hw
  rw [e3] at hw2
  exact va_gets F.1 F.2.1 (F.2.2.2.2.2.2.2.2.2.1 j hj) hS F.2.2.2.1 (F.2.2.2.2.1 _ (F.2.2.2.2.2.1 _ hlk)) (fun x hx => hx) hd hw2
theorem aj_getsN (F : am_F p s m args c cc nL own Ts D a0 cA base L0 X0) (h4n : 4 ≤ n0) {j idx : Nat} {host : String} (hj : j < 3) (hlk : .fieldLinkNest own idx (am_sf j).1 (am_sf j).2 "[I" host ∈ am_tbl) (hd : decode cc (pcs k) = .ok (.getstatic idx, 3)) (hn : pcs (k + 1) = pcs k + 3) (hs : am_step rc na mcT msT cN cZ C Z (am_J p l e R s m args below meth c Qm nL D a0 cA base L0 X0 n0 z0 pcs) k ls st h (.getstatic j)) : (am_J p l e R s m args below meth c Qm nL D a0 cA base L0 X0 n0 z0 pcs) k ls st h := by
  have hX := hs
  intro ad H locs lr cells slots hag hwf hR hS hL hc hz hcap
  have hw := hX ad H locs lr cells slots hag ⟨hwf.1, am_okc (show j < h.1.length by have := hR.2.2.1; omega) hwf.2.1, hwf.2.2⟩ hR hS hL hc hz hcap
  rw [hn] at hw
  have e3 : ad j = a0 j := hag j (by omega)
  have hw2 : W p l e R s m args below meth c H locs cells slots Qm (F0 m (pcs k + 3) lr (.ref (ad j) :: st.map (am_vv ad))) := hw
  rw [e3] at hw2
  exact va_getsN F.1 F.2.1 (F.2.2.2.2.2.2.2.2.2.1 j hj) hS F.2.2.2.1 (F.2.2.2.2.1 _ (F.2.2.2.2.2.1 _ hlk)) (fun x hx => hx) hd hw2
def am_dv (kd : Nat) : Value := match kd with
  | 1 => .long 0
  | 2 => .null
  | _ => .int 0
theorem am_el_new {h h' : am_H} {q0 : Nat × Nat} (hl : h'.1 = h.1 ++ [q0]) {j : Nat} (hj : j < h.1.length) (hI : h'.2.1 j = h.2.1 j) (hLo : h'.2.2.1 j = h.2.2.1 j) (hRr : h'.2.2.2 j = h.2.2.2 j) {ad ad' : Nat → Nat} (ha : ∀ i, i < h.1.length → ad' i = ad i) (hw : ∀ p k q, h.2.2.2 p k = some q → q < h.1.length) : am_el ad' cA h' j = am_el ad cA h j := by
  have hm : ∀ k, (h.2.2.2 j k).map ad' = (h.2.2.2 j k).map ad := by
    intro k
    cases hq : h.2.2.2 j k with
    | none => rfl
    | some q => exact congrArg some (ha q (hw j k q hq))
  unfold am_el
  rw [hl, List.getElem?_append_left hj]
  cases hs : h.1[j]? with
  | none => simp
  | some x =>
    obtain ⟨t, n⟩ := x
    have hfv : am_fv ad' h' j t = am_fv ad h j t := by
      funext i
      unfold am_fv
      simp [hI, hLo, hRr, hm]
    simp [hfv, hI, hLo, hRr, hm]
theorem am_ws_new {h : am_H} {ad ad' : Nat → Nat} (ha : ∀ i, i < h.1.length → ad' i = ad i) (hw : ∀ p k q, h.2.2.2 p k = some q → q < h.1.length) : am_ws ad' cA h = am_ws ad cA h := by
  unfold am_ws
  apply List.map_congr_left
  intro j hj
  rw [List.mem_range] at hj
  rw [ha _ (by omega)]
  congr 1
  have hm : ∀ k, (h.2.2.2 (j + 4) k).map ad' = (h.2.2.2 (j + 4) k).map ad := by
    intro k
    cases hq : h.2.2.2 (j + 4) k with
    | none => rfl
    | some q => exact congrArg some (ha q (hw (j + 4) k q hq))
  unfold am_el
  cases hs : h.1[j + 4]? with
  | none => simp
  | some x =>
    obtain ⟨t, n⟩ := x
    have hfv : am_fv ad' h (j + 4) t = am_fv ad h (j + 4) t := by
      funext i
      unfold am_fv
      simp [hm]
    simp [hfv, hm]
theorem am_st_new {st : List Value} {n : Nat} {ad ad' : Nat → Nat} (ha : ∀ i, i < n → ad' i = ad i) (hw : ∀ v ∈ st, am_okv n v) : st.map (am_vv ad') = st.map (am_vv ad) := by
  apply List.map_congr_left
  intro v hv
  exact am_vv_to (hw v hv) ha
theorem am_loc_new {ls : List (Option Value)} {n : Nat} {lr : Array Slot} {ad ad' : Nat → Nat} (ha : ∀ i, i < n → ad' i = ad i) (hw : ∀ v, some v ∈ ls → am_okv n v) (hL : am_loc ad ls nL lr) : am_loc ad' ls nL lr :=
  ⟨hL.1, hL.2.1, hL.2.2.1, fun j v hj => by rw [am_vv_to (hw v (List.mem_of_getElem? hj)) ha]; exact hL.2.2.2 j v hj⟩
/-- a new cell behind all others -/
def am_nh (h : am_H) (q : Nat × Nat) : am_H := (h.1 ++ [q], va_up h.2.1 h.1.length (fun _ => 0), va_up h.2.2.1 h.1.length (fun _ => 0), va_up h.2.2.2 h.1.length (fun _ => none))
theorem am_nh_wf {ls : List (Option Value)} {st : List Value} {h : am_H} {q : Nat × Nat} (hwf : am_wf ls st h) : am_wf ls (.ref h.1.length :: st) (am_nh h q) := by
  have hlen : (am_nh h q).1.length = h.1.length + 1 := by simp [am_nh]
  refine ⟨fun v hv => am_okv_le (hwf.1 v hv) (by omega), am_okc (by show h.1.length < _; omega) (fun v hv => am_okv_le (hwf.2.1 v hv) (by omega)), fun a b r hr => ?_⟩
  have hr : va_up h.2.2.2 h.1.length (fun _ => none) a b = some r := hr
  rw [hlen]
  unfold va_up at hr
  split at hr
  · cases hr
  · have := hwf.2.2 a b r hr
    omega
theorem am_nh_rel {h : am_H} {q0 : Nat × Nat} {q : Nat} {e1 : va_E} {H H1 : Heap} (hw : ∀ p k q, h.2.2.2 p k = some q → q < h.1.length) (hR : am_rel D ad cA base L0 X0 h H) (hcl : q0.1 < 50 → ∃ Cn T, am_cl[q0.1]? = some (Cn, T, q0.2)) (he : am_el (va_up ad h.1.length q) cA (am_nh h q0) h.1.length = e1)
    (hP : va_P D am_cl (am_ws ad cA h ++ [(q, e1)]) H1) (hD : va_D (fun q => base ≤ q) (am_ws ad cA h ++ [(q, e1)])) : am_rel D (va_up ad h.1.length q) cA base L0 X0 (am_nh h q0) H1 := by
  have h4 := hR.2.2.1
  have ha : ∀ i, i < h.1.length → va_up ad h.1.length q i = ad i := fun i hi => am_up_ne (by omega)
  have e2 : am_ws ad cA h ++ [(q, e1)] = am_ws (va_up ad h.1.length q) cA (am_nh h q0) := by
    have := am_ws_push (ad := va_up ad h.1.length q) (cA := cA) (h := h) (h' := am_nh h q0) (q := q0) h4 rfl he (fun j hj => by
      exact am_el_new (h := h) (h' := am_nh h q0) (ad := va_up ad h.1.length q) (ad' := va_up ad h.1.length q) rfl hj (am_up_ne (by omega)) (am_up_ne (by omega)) (am_up_ne (by omega)) (fun _ _ => rfl) hw)
    rw [am_up_eq, am_ws_new ha hw] at this
    exact this
  rw [e2] at hP hD
  refine ⟨hP, hD, by show 4 ≤ (h.1 ++ [q0]).length; simp; omega, fun j hj => ?_, fun a b hb hb5 => ?_⟩
  · obtain ⟨r1, r2⟩ := hR.2.2.2.1 j hj
    refine ⟨?_, ?_⟩
    · show (h.1 ++ [q0])[j]? = _
      rw [List.getElem?_append_left (by omega)]
      exact r1
    · show va_up h.2.1 h.1.length (fun _ => 0) j = _
      rw [am_up_ne (by omega)]
      exact r2
  · have hb : (h.1 ++ [q0])[a]? = some b := hb
    by_cases hlt : a < h.1.length
    · rw [List.getElem?_append_left hlt] at hb
      exact hR.2.2.2.2 a b hb hb5
    · rw [List.getElem?_append_right (by omega)] at hb
      have hz : a - h.1.length < 1 := (List.getElem?_eq_some_iff.mp hb).1
      rw [show a - h.1.length = 0 by omega] at hb
      cases hb
      exact hcl hb5
theorem aj_new (F : am_F p s m args c cc nL own Ts D a0 cA base L0 X0) {q idx : Nat} {Cn : String} {T : u_T} (hq : q / 100 < 50) (hcl : am_cl[q / 100]? = some (Cn, T, q % 100)) (ty : Nat → FieldType) (hty : ∀ k, k < q % 100 → parseFieldDescriptor (T k).2.2.1 = some (ty k)) (hdf : ∀ k, k < q % 100 → defaultValue (ty k) = am_dv ((am_fk.getD (q / 100) []).getD k 0)) (hin : ∀ w ∈ u_ws Cn T (q % 100), w ∈ am_tbl) (hlk : .classLink own idx Cn ∈ am_tbl) (hit : .instantiable Cn (q % 100) ∈ am_tbl) (hii : .initialized Cn ∈ am_tbl) (hcN : cN = n0 + R.cells) (hcZ : cZ = z0 + R.slots) (hd : decode cc (pcs k) = .ok (.new idx, 3)) (hn : pcs (k + 1) = pcs k + 3) (hs : am_step rc na mcT msT cN cZ C Z (am_J p l e R s m args below meth c Qm nL D a0 cA base L0 X0 n0 z0 pcs) k ls st h (.new q)) : (am_J p l e R s m args below meth c Qm nL D a0 cA base L0 X0 n0 z0 pcs) k ls st h := by
  obtain ⟨hr1, hr2, hX⟩ := hs
  intro ad H locs lr cells slots hag hwf hR hS hL hc hz hcap
  have W0 : ∀ w, w ∈ am_tbl → w.before args s = true := fun w hw => F.2.2.2.2.1 _ (F.2.2.2.2.2.1 _ hw)
  refine va_new (fs := (List.range (q % 100)).map (fun k => am_dv ((am_fk.getD (q / 100) []).getD k 0))) F.1 F.2.1 F.2.2.2.2.1 (fun w hw => F.2.2.2.2.2.1 w (hin w hw)) ty hty F.2.2.2.1 (W0 _ hlk) (W0 _ hit) (W0 _ hii) F.2.2.2.2.2.2.1 hR.1 hR.2.1 hS (fun q2 h2 => Nat.le_trans F.2.2.2.2.2.2.2.2.1 h2) hcl (fun j hj => ?_) (by omega) (by omega) hd (fun q1 H1 hP1 hD1 hS1 => ?_)
  · unfold vp_V
    rw [hdf j hj, List.getD_eq_getElem?_getD (l := List.map _ _), List.getElem?_map, List.getElem?_range hj]
    rfl
  have he : am_el (va_up ad h.1.length q1) cA (am_nh h (q / 100, q % 100)) h.1.length = .inr (q / 100, (List.range (q % 100)).map (fun k => am_dv ((am_fk.getD (q / 100) []).getD k 0))) := by
    rw [am_el_obj (h := am_nh h (q / 100, q % 100)) (t := q / 100) (n := q % 100) (by show (h.1 ++ [_])[h.1.length]? = _; simp) hq]
    congr 2
    apply List.map_congr_left
    intro j _
    unfold am_fv am_nh
    simp only [am_up_eq]
    generalize (am_fk.getD (q / 100) []).getD j 0 = kd
    match kd with
    | 0 => rfl
    | 1 => rfl
    | 2 => rfl
    | _ + 3 => rfl
  have ha : ∀ i, i < h.1.length → va_up ad h.1.length q1 i = ad i := fun i hi => am_up_ne (by omega)
  have hlen : (am_nh h (q / 100, q % 100)).1.length = h.1.length + 1 := by simp [am_nh]
  have hsl : am_sl (am_nh h (q / 100, q % 100)).1 = am_sl h.1 + (q % 100) := by simp [am_nh, am_sl]
  have hw := hX (va_up ad h.1.length q1) H1 locs lr (cells + 1) (slots + (q % 100)) (fun j hj => by rw [ha j (by omega)]; exact hag j hj) (am_nh_wf hwf) (am_nh_rel hwf.2.2 hR (fun _ => ⟨_, _, hcl⟩) he hP1 hD1) hS1 (am_loc_new ha hwf.1 hL) (by show cells + 1 + n0 = (am_nh h (q / 100, q % 100)).1.length; rw [hlen]; omega) (by show slots + (q % 100) + z0 = am_sl (am_nh h (q / 100, q % 100)).1; rw [hsl]; omega) (by show (am_nh h (q / 100, q % 100)).1.length ≤ _ ∧ am_sl (am_nh h (q / 100, q % 100)).1 ≤ _; rw [hlen, hsl]; omega)
  rw [hn] at hw
  have e9 : List.map (am_vv (va_up ad h.1.length q1)) (.ref h.1.length :: st) = .ref q1 :: st.map (am_vv ad) := by
    rw [List.map_cons, am_st_new ha hwf.2.1]
    show Value.ref (va_up ad h.1.length q1 h.1.length) :: _ = _
    rw [am_up_eq]
  rw [e9] at hw
  exact hw
theorem aj_newa (F : am_F p s m args c cc nL own Ts D a0 cA base L0 X0) {t : Nat} {at0 : ArrayType} {ty : FieldType} {j : Nat} (hty : newarray.typeOf at0 = ty) (hj : j < 5) (htj : (am_tys cA).getD j (0, .int) = (cA t, ty)) (ht : t = 50 ∧ ty = .int ∨ t = 51 ∧ ty = .long ∨ t = 52 ∧ ty = .byte ∨ t = 53 ∧ ty = .boolean) (harr : .arrayClass ty ∈ am_tbl) (hcN : cN = n0 + R.cells) (hcZ : cZ = z0 + R.slots) (hd : decode cc (pcs k) = .ok (.newarray at0, 2)) (hn : pcs (k + 1) = pcs k + 2) (hs : am_step rc na mcT msT cN cZ C Z (am_J p l e R s m args below meth c Qm nL D a0 cA base L0 X0 n0 z0 pcs) k ls st h (.anewarray t)) : (am_J p l e R s m args below meth c Qm nL D a0 cA base L0 X0 n0 z0 pcs) k ls st h := by
  obtain ⟨i, st1, rfl, hi, hi2, hr1, hr2, hX⟩ := hs
  intro ad H locs lr cells slots hag hwf hR hS hL hc hz hcap
  subst hty
  refine va_newaK F.1 F.2.1 (F.2.2.2.2.1 _ (F.2.2.2.2.2.1 _ harr)) rfl hd rfl hi rfl (by rcases ht with ⟨-, e⟩ | ⟨-, e⟩ | ⟨-, e⟩ | ⟨-, e⟩ <;> rw [e] <;> simp [componentBytes] <;> omega) (by omega) (by omega) rfl (fun H1 cA1 e1 z1 o1 hAr hNm => ?_)
  have hcA : cA1 = cA t := by
    have h5 := F.2.2.2.2.2.2.2.2.2.2.1 j hj
    rw [htj] at h5
    exact Option.some.inj (hNm.symm.trans h5)
  subst hcA
  obtain ⟨q1, hq1⟩ : ∃ q1, q1 = H.size := ⟨_, rfl⟩
  rw [← hq1] at e1 z1 o1 ⊢
  have hkp : ∀ (k : Nat) (x : Nat × va_E), (am_ws ad cA h)[k]? = some x → H1[x.1]? = H[x.1]? := fun k x hx => o1 x.1 (by rw [hq1]; exact (hR.1 k x hx).lt)
  have hS1 : va_S (fun q => base ≤ q) s.heap H1 locs := ⟨Nat.le_trans hS.1 (by omega), fun x h1 h2 => (o1 x (by rw [hq1]; exact Nat.lt_of_lt_of_le h1 hS.1)).trans (hS.2.1 x h1 h2), hS.2.2⟩
  have hD1 : ∀ e : va_E, va_D (fun q => base ≤ q) (am_ws ad cA h ++ [(q1, e)]) := fun e => hR.2.1.push hR.1 hq1 (by show base ≤ q1; rw [hq1]; exact Nat.le_trans F.2.2.2.2.2.2.2.2.1 hS.1)
  have hw9 : ∀ e7 : va_E, va_at D am_cl (q1, e7) H1 → am_el (va_up ad h.1.length q1) cA (am_nh h (t, i.toNatClampNeg)) h.1.length = e7 → W p l e R s m args below meth c H1 locs (cells + 1) (slots + i.toNatClampNeg) Qm (F0 m (pcs k + 2) lr (.ref q1 :: st1.map (am_vv ad))) := by
    intro e0 hat he
    have hP1 : va_P D am_cl (am_ws ad cA h ++ [(q1, e0)]) H1 := (hR.1.kept hkp).app (fun k x hx => by
      have hz : k < 1 := (List.getElem?_eq_some_iff.mp hx).1
      rw [show k = 0 by omega] at hx
      cases hx
      exact hat)
    have hD1 := hD1 e0
    have ha : ∀ i, i < h.1.length → va_up ad h.1.length q1 i = ad i := fun i hi => am_up_ne (by omega)
    have hlen : (am_nh h (t, i.toNatClampNeg)).1.length = h.1.length + 1 := by simp [am_nh]
    have hsl : am_sl (am_nh h (t, i.toNatClampNeg)).1 = am_sl h.1 + i.toNatClampNeg := by simp [am_nh, am_sl]
    have hw := hX (va_up ad h.1.length q1) H1 locs lr (cells + 1) (slots + i.toNatClampNeg) (fun j hj => by rw [ha j (by omega)]; exact hag j hj) (am_nh_wf ⟨hwf.1, am_tl hwf.2.1, hwf.2.2⟩) (am_nh_rel hwf.2.2 hR (fun h9 => by rcases ht with ⟨e, -⟩ | ⟨e, -⟩ | ⟨e, -⟩ | ⟨e, -⟩ <;> (have h9 : t < 50 := h9; omega)) he hP1 hD1) hS1 (am_loc_new ha hwf.1 hL) (by show cells + 1 + n0 = (am_nh h (t, i.toNatClampNeg)).1.length; rw [hlen]; omega) (by show slots + i.toNatClampNeg + z0 = am_sl (am_nh h (t, i.toNatClampNeg)).1; rw [hsl]; omega) (by show (am_nh h (t, i.toNatClampNeg)).1.length ≤ _ ∧ am_sl (am_nh h (t, i.toNatClampNeg)).1 ≤ _; rw [hlen, hsl]; omega)
    rw [hn] at hw
    have e9 : List.map (am_vv (va_up ad h.1.length q1)) (.ref h.1.length :: st1) = .ref q1 :: st1.map (am_vv ad) := by
      rw [List.map_cons, am_st_new ha (am_tl hwf.2.1)]
      show Value.ref (va_up ad h.1.length q1 h.1.length) :: _ = _
      rw [am_up_eq]
    rw [e9] at hw
    exact hw
  have hsh : (am_nh h (t, i.toNatClampNeg)).1[h.1.length]? = some (t, i.toNatClampNeg) := by show (h.1 ++ [_])[h.1.length]? = _; simp
  rcases ht with ⟨rfl, e⟩ | ⟨rfl, e⟩ | ⟨rfl, e⟩ | ⟨rfl, e⟩
  · refine hw9 (.inl (cA 50, i.toNatClampNeg, .inl (fun _ => 0))) ?_ ?_
    · rw [e] at e1; exact e1
    · rw [am_el_arr hsh (by omega) (by omega) (by omega)]; unfold am_nh; simp only [am_up_eq]
  · refine hw9 (.inl (cA 51, i.toNatClampNeg, .inr (.inl (fun _ => 0)))) ?_ ?_
    · rw [e] at e1; exact e1
    · rw [am_el_51 hsh]; unfold am_nh; simp only [am_up_eq]
  · refine hw9 (.inl (cA 52, i.toNatClampNeg, .inl (fun _ => 0))) ?_ ?_
    · rw [e] at e1; exact e1
    · rw [am_el_arr hsh (by omega) (by omega) (by omega)]; unfold am_nh; simp only [am_up_eq]
  · refine hw9 (.inl (cA 53, i.toNatClampNeg, .inl (fun _ => 0))) ?_ ?_
    · rw [e] at e1; exact e1
    · rw [am_el_arr hsh (by omega) (by omega) (by omega)]; unfold am_nh; simp only [am_up_eq]
end AMD
end
section
section AME
variable {p : Program} {l : Launch} {e : Env} {R : Room} {s : State} {m : MethodId} {args : Array Value} {below : List Frame} {meth : Method} {c : Code} {Qm : State → Prop} {cc : ByteArray} {nL : Nat} {own : String} {Ts : List Cond} {D : va_G} {a0 : Nat → Nat} {cA : Nat → ClassId} {base : Nat} {L0 : Nat → Nat} {X0 : Nat → Nat → Int32} {n0 z0 : Nat} {pcs : Nat → Nat} {rc na mcT msT : Nat → Nat} {cN cZ : Nat} {C : am_C} {Z : am_Q} {k : Nat} {ls : List (Option Value)} {st : List Value} {h : am_H}
variable {ad : Nat → Nat} {H : Heap}
theorem aj_newq (F : am_F p s m args c cc nL own Ts D a0 cA base L0 X0) {idx : Nat} (hlk : .classLink own idx RX0 ∈ am_tbl) (hcN : cN = n0 + R.cells) (hcZ : cZ = z0 + R.slots) (hd : decode cc (pcs k) = .ok (.anewarray idx, 3)) (hn : pcs (k + 1) = pcs k + 3) (hs : am_step rc na mcT msT cN cZ C Z (am_J p l e R s m args below meth c Qm nL D a0 cA base L0 X0 n0 z0 pcs) k ls st h (.anewarray 54)) : (am_J p l e R s m args below meth c Qm nL D a0 cA base L0 X0 n0 z0 pcs) k ls st h := by
  obtain ⟨i, st1, rfl, hi, hi2, hr1, hr2, hX⟩ := hs
  intro ad H locs lr cells slots hag hwf hR hS hL hc hz hcap
  have W0 : ∀ w, w ∈ am_tbl → w.before args s = true := fun w hw => F.2.2.2.2.1 _ (F.2.2.2.2.2.1 _ hw)
  refine va_newq F.1 F.2.1 F.2.2.2.1 (W0 _ hlk) F.2.2.2.2.2.2.2.2.2.2.2.1 F.2.2.2.2.2.2.1 hR.1 hR.2.1 hS (fun q2 h2 => Nat.le_trans F.2.2.2.2.2.2.2.2.1 h2) hi rfl (by omega) (by omega) (by omega) hd (fun q1 cA1 H1 hK1 hP1 hD1 hS1 => ?_)
  have hcA : cA1 = cA 54 := by
    have h5 := F.2.2.2.2.2.2.2.2.2.2.1 4 (by omega)
    have h6 := (hK1.2 5 (cA1, .object RX0) rfl).2
    obtain ⟨kA, comp, -, -, -, h7⟩ := h6
    exact Option.some.inj (h7.symm.trans h5)
  subst hcA
  have he : am_el (va_up ad h.1.length q1) cA (am_nh h (54, i.toNatClampNeg)) h.1.length = .inl (cA 54, i.toNatClampNeg, .inr (.inr (.inr (.inr (fun _ => none))))) := by
    rw [am_el_54 (h := am_nh h (54, i.toNatClampNeg)) (n := i.toNatClampNeg) (by show (h.1 ++ [_])[h.1.length]? = _; simp)]
    unfold am_nh
    simp only [am_up_eq]
    rfl
  have ha : ∀ i, i < h.1.length → va_up ad h.1.length q1 i = ad i := fun i hi => am_up_ne (by omega)
  have hlen : (am_nh h (54, i.toNatClampNeg)).1.length = h.1.length + 1 := by simp [am_nh]
  have hsl : am_sl (am_nh h (54, i.toNatClampNeg)).1 = am_sl h.1 + i.toNatClampNeg := by simp [am_nh, am_sl]
  have hw := hX (va_up ad h.1.length q1) H1 locs lr (cells + 1) (slots + i.toNatClampNeg) (fun j hj => by rw [ha j (by omega)]; exact hag j hj) (am_nh_wf ⟨hwf.1, am_tl hwf.2.1, hwf.2.2⟩) (am_nh_rel hwf.2.2 hR (fun h9 => absurd (show (54 : Nat) < 50 from h9) (by decide)) he hP1 hD1) hS1 (am_loc_new ha hwf.1 hL) (by show cells + 1 + n0 = (am_nh h (54, i.toNatClampNeg)).1.length; rw [hlen]; omega) (by show slots + i.toNatClampNeg + z0 = am_sl (am_nh h (54, i.toNatClampNeg)).1; rw [hsl]; omega) (by show (am_nh h (54, i.toNatClampNeg)).1.length ≤ _ ∧ am_sl (am_nh h (54, i.toNatClampNeg)).1 ≤ _; rw [hlen, hsl]; omega)
  rw [hn] at hw
  have e9 : List.map (am_vv (va_up ad h.1.length q1)) (.ref h.1.length :: st1) = .ref q1 :: st1.map (am_vv ad) := by
    rw [List.map_cons, am_st_new ha (am_tl hwf.2.1)]
    show Value.ref (va_up ad h.1.length q1 h.1.length) :: _ = _
    rw [am_up_eq]
  rw [e9] at hw
  exact hw
def am_tsw (pcs : Nat → Nat) (k : Nat) : Int → List Int → List (Int × Int) → Prop
  | _, [], [] => True
  | v, o :: os, (a, t) :: ps => a = v ∧ (pcs k : Int) + o = (pcs t.toNat : Nat) ∧ am_tsw pcs k (v + 1) os ps
  | _, _, _ => False
theorem am_i32 {x : Int32} {a : Int} (h1 : -2147483648 ≤ a) (h2 : a < 2147483648) : x = Int32.ofInt a ↔ x.toInt = a := by
  constructor
  · rintro rfl
    rw [Int32.toInt_ofInt]
    have hsz : Int32.size = 4294967296 := rfl
    exact Int.bmod_eq_of_le (by omega) (by omega)
  · intro h
    rw [← h, Int32.ofInt_toInt]
theorem am_tsw_at {pcs : Nat → Nat} {k : Nat} {d : Int} {x : Int32} : ∀ (os : List Int) (ps : List (Int × Int)) (v : Int), am_tsw pcs k v os ps → -2147483648 ≤ v → v + os.length ≤ 2147483648 →
    (x.toInt < v ∨ v + os.length ≤ x.toInt → am_sw d x ps = d) ∧ (v ≤ x.toInt → x.toInt < v + os.length → ∃ o, os[(x.toInt - v).toNat]? = some o ∧ (pcs k : Int) + o = (pcs (am_sw d x ps).toNat : Nat))
  | [], [], v, _, _, _ => ⟨fun _ => rfl, fun h1 h2 => by simp at h2; omega⟩
  | [], _ :: _, v, h, _, _ => by simp [am_tsw] at h
  | _ :: _, [], v, h, _, _ => by simp [am_tsw] at h
  | o :: os, (a, t) :: ps, v, h, h1, h2 => by
    obtain ⟨rfl, h4, h5⟩ := h
    simp only [List.length_cons] at h2 ⊢
    obtain ⟨g1, g2⟩ := am_tsw_at (d := d) (x := x) os ps (a + 1) h5 (by omega) (by omega)
    unfold am_sw
    refine ⟨fun hx => ?_, fun hx hy => ?_⟩
    · rw [if_neg (by rw [am_i32 (by omega) (by omega)]; omega)]
      exact g1 (by omega)
    · by_cases hxa : x.toInt = a
      · rw [if_pos (by rw [am_i32 (by omega) (by omega)]; omega)]
        exact ⟨o, by rw [hxa]; simp, h4⟩
      · rw [if_neg (by rw [am_i32 (by omega) (by omega)]; omega)]
        obtain ⟨o2, e1, e2⟩ := g2 (by omega) (by omega)
        refine ⟨o2, ?_, e2⟩
        rw [show (x.toInt - a).toNat = (x.toInt - (a + 1)).toNat + 1 by omega, List.getElem?_cons_succ]
        exact e1
theorem aj_tsw (F : am_F p s m args c cc nL own Ts D a0 cA base L0 X0) {d dd lo hi : Int} {offs : Array Int} {ps : Array (Int × Int)} {len : Nat} (h1 : -2147483648 ≤ lo) (h2 : hi + 1 = lo + offs.toList.length) (h3 : hi < 2147483648) (hsw : am_tsw pcs k lo offs.toList ps.toList) (hdd : (pcs k : Int) + dd = (pcs d.toNat : Nat)) (hd : decode cc (pcs k) = .ok (.tableswitch dd lo hi offs, len)) (hs : am_step rc na mcT msT cN cZ C Z (am_J p l e R s m args below meth c Qm nL D a0 cA base L0 X0 n0 z0 pcs) k ls st h (.lookupswitch d ps)) : (am_J p l e R s m args below meth c Qm nL D a0 cA base L0 X0 n0 z0 pcs) k ls st h := by
  obtain ⟨x, st1, rfl, hX⟩ := hs
  intro ad H locs lr cells slots hag hwf hR hS hL hc hz hcap
  have hw := hX ad H locs lr cells slots hag ⟨hwf.1, am_tl hwf.2.1, hwf.2.2⟩ hR hS hL hc hz hcap
  obtain ⟨g1, g2⟩ := am_tsw_at (d := d) (x := x) offs.toList ps.toList lo hsw h1 (by omega)
  by_cases hx : x.toInt < lo ∨ hi < x.toInt
  · rw [g1 (by omega)] at hw
    exact lv_tableOut F.1 F.2.1 hd hx hdd hw
  · obtain ⟨o, e1, e2⟩ := g2 (by omega) (by omega)
    exact lv_tableIn F.1 F.2.1 hd (by omega) (by omega) (by rw [← Array.getElem?_toList]; exact e1) e2 hw
def am_lsw (pcs : Nat → Nat) (k : Nat) : List (Int × Int) → List (Int × Int) → Prop
  | [], [] => True
  | (b, o) :: os, (a, t) :: ps => a = b ∧ -2147483648 ≤ a ∧ a < 2147483648 ∧ (pcs k : Int) + o = (pcs t.toNat : Nat) ∧ am_lsw pcs k os ps
  | _, _ => False
theorem am_lsw_at {pcs : Nat → Nat} {k : Nat} {d dd : Int} {x : Int32} (hdd : (pcs k : Int) + dd = (pcs d.toNat : Nat)) : ∀ (os ps : List (Int × Int)), am_lsw pcs k os ps → (pcs k : Int) + Op.lookupswitch.offset os dd x.toInt = (pcs (am_sw d x ps).toNat : Nat)
  | [], [], _ => hdd
  | [], _ :: _, h => by simp [am_lsw] at h
  | _ :: _, [], h => by simp [am_lsw] at h
  | (b, o) :: os, (a, t) :: ps, h => by
    obtain ⟨rfl, h1, h2, h4, h5⟩ := h
    unfold am_sw
    rw [Op.lookupswitch.offset_cons]
    by_cases hxa : x.toInt = a
    · rw [if_pos hxa.symm, if_pos ((am_i32 h1 h2).mpr hxa)]
      exact h4
    · rw [if_neg (fun z => hxa z.symm), if_neg (fun z => hxa ((am_i32 h1 h2).mp z))]
      exact am_lsw_at hdd os ps h5
theorem aj_lsw (F : am_F p s m args c cc nL own Ts D a0 cA base L0 X0) {d dd : Int} {qs : Array (Int × Int)} {ps : Array (Int × Int)} {len : Nat} (hp : (qs.toList.zip (qs.toList.drop 1)).all (fun (a, next) => a.1 < next.1) = true) (hsw : am_lsw pcs k qs.toList ps.toList) (hdd : (pcs k : Int) + dd = (pcs d.toNat : Nat)) (hd : decode cc (pcs k) = .ok (.lookupswitch dd qs, len)) (hs : am_step rc na mcT msT cN cZ C Z (am_J p l e R s m args below meth c Qm nL D a0 cA base L0 X0 n0 z0 pcs) k ls st h (.lookupswitch d ps)) : (am_J p l e R s m args below meth c Qm nL D a0 cA base L0 X0 n0 z0 pcs) k ls st h := by
  obtain ⟨x, st1, rfl, hX⟩ := hs
  intro ad H locs lr cells slots hag hwf hR hS hL hc hz hcap
  have hw := hX ad H locs lr cells slots hag ⟨hwf.1, am_tl hwf.2.1, hwf.2.2⟩ hR hS hL hc hz hcap
  exact lv_lookup F.1 F.2.1 hd hp rfl (am_lsw_at hdd qs.toList ps.toList hsw) hw
theorem aj_mm0 (F : am_F p s m args c cc nL own Ts D a0 cA base L0 X0) {idx a : Nat} (hfr : 1 ≤ R.frames) (hlo : 23 ≤ R.locals) (hlk : .methodLink own idx Lib.Math.max.name ∈ am_tbl) (hst : .static Lib.Math.max.name ∈ am_tbl) (hii : .initialized "java/lang/Math" ∈ am_tbl) (hco : .code Lib.Math.max.name Lib.Math.max.code 2 (some .int) ∈ am_tbl) (hd : decode cc (pcs k) = .ok (.invokestatic idx, 3)) (hn : pcs (k + 1) = pcs k + 3) (hs : am_step rc na mcT msT cN cZ C Z (am_J p l e R s m args below meth c Qm nL D a0 cA base L0 X0 n0 z0 pcs) k ls st h (.invokeinterface 0 a)) : (am_J p l e R s m args below meth c Qm nL D a0 cA base L0 X0 n0 z0 pcs) k ls st h := by
  obtain ⟨x, y, st1, rfl, hct, hX⟩ := hs
  intro ad H locs lr cells slots hag hwf hR hS hL hc hz hcap
  have hw := hX ad H locs lr cells slots hag ⟨hwf.1, am_okc trivial (am_tl (am_tl hwf.2.1)), hwf.2.2⟩ hR hS hL hc hz hcap
  rw [hn] at hw
  have W0 : ∀ w, w ∈ am_tbl → w.before args s = true := fun w hw => F.2.2.2.2.1 _ (F.2.2.2.2.2.1 _ hw)
  exact va_mmax F.1 F.2.1 (by rw [F.2.2.1]; exact hL.1.symm) F.2.2.2.1 (W0 _ hlk) (W0 _ hst) (W0 _ hii) (W0 _ hco) hfr (by rw [am_cat_map]; omega) (by omega) (by omega) hd hw
theorem aj_mm1 (F : am_F p s m args c cc nL own Ts D a0 cA base L0 X0) {idx a : Nat} (hfr : 1 ≤ R.frames) (hlo : 23 ≤ R.locals) (hlk : .methodLink own idx Lib.Math.min.name ∈ am_tbl) (hst : .static Lib.Math.min.name ∈ am_tbl) (hii : .initialized "java/lang/Math" ∈ am_tbl) (hco : .code Lib.Math.min.name Lib.Math.min.code 2 (some .int) ∈ am_tbl) (hd : decode cc (pcs k) = .ok (.invokestatic idx, 3)) (hn : pcs (k + 1) = pcs k + 3) (hs : am_step rc na mcT msT cN cZ C Z (am_J p l e R s m args below meth c Qm nL D a0 cA base L0 X0 n0 z0 pcs) k ls st h (.invokeinterface 1 a)) : (am_J p l e R s m args below meth c Qm nL D a0 cA base L0 X0 n0 z0 pcs) k ls st h := by
  obtain ⟨x, y, st1, rfl, hct, hX⟩ := hs
  intro ad H locs lr cells slots hag hwf hR hS hL hc hz hcap
  have hw := hX ad H locs lr cells slots hag ⟨hwf.1, am_okc trivial (am_tl (am_tl hwf.2.1)), hwf.2.2⟩ hR hS hL hc hz hcap
  rw [hn] at hw
  have W0 : ∀ w, w ∈ am_tbl → w.before args s = true := fun w hw => F.2.2.2.2.1 _ (F.2.2.2.2.2.1 _ hw)
  exact va_mmin F.1 F.2.1 (by rw [F.2.2.1]; exact hL.1.symm) F.2.2.2.1 (W0 _ hlk) (W0 _ hst) (W0 _ hii) (W0 _ hco) hfr (by rw [am_cat_map]; omega) (by omega) (by omega) hd hw
theorem aj_mm2 (F : am_F p s m args c cc nL own Ts D a0 cA base L0 X0) {idx a : Nat} (hfr : 1 ≤ R.frames) (hlo : 23 ≤ R.locals) (hlk : .methodLink own idx Lib.MathLoose.max_long.x ∈ am_tbl) (hst : .static Lib.MathLoose.max_long.x ∈ am_tbl) (hii : .initialized "java/lang/Math" ∈ am_tbl) (hco : .code Lib.MathLoose.max_long.x Lib.MathLoose.max_long.code 4 (some .long) ∈ am_tbl) (hd : decode cc (pcs k) = .ok (.invokestatic idx, 3)) (hn : pcs (k + 1) = pcs k + 3) (hs : am_step rc na mcT msT cN cZ C Z (am_J p l e R s m args below meth c Qm nL D a0 cA base L0 X0 n0 z0 pcs) k ls st h (.invokeinterface 2 a)) : (am_J p l e R s m args below meth c Qm nL D a0 cA base L0 X0 n0 z0 pcs) k ls st h := by
  obtain ⟨x, y, st1, rfl, hct, hX⟩ := hs
  intro ad H locs lr cells slots hag hwf hR hS hL hc hz hcap
  have hw := hX ad H locs lr cells slots hag ⟨hwf.1, am_okc trivial (am_tl (am_tl hwf.2.1)), hwf.2.2⟩ hR hS hL hc hz hcap
  rw [hn] at hw
  have W0 : ∀ w, w ∈ am_tbl → w.before args s = true := fun w hw => F.2.2.2.2.1 _ (F.2.2.2.2.2.1 _ hw)
  exact va_mmax_long F.1 F.2.1 (by rw [F.2.2.1]; exact hL.1.symm) F.2.2.2.1 (W0 _ hlk) (W0 _ hst) (W0 _ hii) (W0 _ hco) hfr (by rw [am_cat_map]; omega) (by omega) (by omega) hd hw
theorem aj_mm3 (F : am_F p s m args c cc nL own Ts D a0 cA base L0 X0) {idx a : Nat} (hfr : 1 ≤ R.frames) (hlo : 23 ≤ R.locals) (hlk : .methodLink own idx Lib.MathLoose.min_long.x ∈ am_tbl) (hst : .static Lib.MathLoose.min_long.x ∈ am_tbl) (hii : .initialized "java/lang/Math" ∈ am_tbl) (hco : .code Lib.MathLoose.min_long.x Lib.MathLoose.min_long.code 4 (some .long) ∈ am_tbl) (hd : decode cc (pcs k) = .ok (.invokestatic idx, 3)) (hn : pcs (k + 1) = pcs k + 3) (hs : am_step rc na mcT msT cN cZ C Z (am_J p l e R s m args below meth c Qm nL D a0 cA base L0 X0 n0 z0 pcs) k ls st h (.invokeinterface 3 a)) : (am_J p l e R s m args below meth c Qm nL D a0 cA base L0 X0 n0 z0 pcs) k ls st h := by
  obtain ⟨x, y, st1, rfl, hct, hX⟩ := hs
  intro ad H locs lr cells slots hag hwf hR hS hL hc hz hcap
  have hw := hX ad H locs lr cells slots hag ⟨hwf.1, am_okc trivial (am_tl (am_tl hwf.2.1)), hwf.2.2⟩ hR hS hL hc hz hcap
  rw [hn] at hw
  have W0 : ∀ w, w ∈ am_tbl → w.before args s = true := fun w hw => F.2.2.2.2.1 _ (F.2.2.2.2.2.1 _ hw)
  exact va_mmin_long F.1 F.2.1 (by rw [F.2.2.1]; exact hL.1.symm) F.2.2.2.1 (W0 _ hlk) (W0 _ hst) (W0 _ hii) (W0 _ hco) hfr (by rw [am_cat_map]; omega) (by omega) (by omega) hd hw
theorem aj_objInit (F : am_F p s m args c cc nL own Ts D a0 cA base L0 X0) {idx : Nat} (hfr : 1 ≤ R.frames) (hlo : 20 ≤ R.locals) (hlk : .methodLink own idx Lib.objectInit ∈ am_tbl) (hst : .instanceMethod Lib.objectInit ∈ am_tbl) (hco : .code Lib.objectInit ⟨#[0xb1]⟩ 1 none ∈ am_tbl) (hd : decode cc (pcs k) = .ok (.invokespecial idx, 3)) (hn : pcs (k + 1) = pcs k + 3) (hs : am_step rc na mcT msT cN cZ C Z (am_J p l e R s m args below meth c Qm nL D a0 cA base L0 X0 n0 z0 pcs) k ls st h .monitorexit) : (am_J p l e R s m args below meth c Qm nL D a0 cA base L0 X0 n0 z0 pcs) k ls st h := by
  obtain ⟨p1, st1, rfl, hct, hX⟩ := hs
  intro ad H locs lr cells slots hag hwf hR hS hL hc hz hcap
  have hw := hX ad H locs lr cells slots hag ⟨hwf.1, am_tl hwf.2.1, hwf.2.2⟩ hR hS hL hc hz hcap
  rw [hn] at hw
  have W0 : ∀ w, w ∈ am_tbl → w.before args s = true := fun w hw => F.2.2.2.2.1 _ (F.2.2.2.2.2.1 _ hw)
  exact W.objInit F.1 F.2.1 F.2.2.2.1 (W0 _ hlk) (W0 _ hst) (W0 _ hco) rfl (by rw [F.2.2.1]; exact hL.1) rfl hd hfr (by show 2 * 0 + _ + 12 ≤ _; rw [am_cat_map]; omega) hw
theorem aj_copyb (F : am_F p s m args c cc nL own Ts D a0 cA base L0 X0) {idx : Nat} (hfr : 1 ≤ R.frames) (hlo : 8 + (nativeFrameWords "java/lang/System" "arraycopy" 5 + 11) ≤ R.locals) (hlk : .methodLink own idx arraycopyName ∈ am_tbl) (hna : .native arraycopyName ∈ am_tbl) (hst : .static arraycopyName ∈ am_tbl) (hii : .initialized "java/lang/System" ∈ am_tbl) (hd : decode cc (pcs k) = .ok (.invokestatic idx, 3)) (hn : pcs (k + 1) = pcs k + 3) (hs : am_step rc na mcT msT cN cZ C Z (am_J p l e R s m args below meth c Qm nL D a0 cA base L0 X0 n0 z0 pcs) k ls st h (.invokedynamic 0)) : (am_J p l e R s m args below meth c Qm nL D a0 cA base L0 X0 n0 z0 pcs) k ls st h := by
  obtain ⟨a, b, n1, n2, sp, dp, n, st1, rfl, hct, ha, hb, i1, i2, i3, i4, i5, hfit, hX⟩ := hs
  intro ad H locs lr cells slots hag hwf hR hS hL hc hz hcap
  have W0 : ∀ w, w ∈ am_tbl → w.before args s = true := fun w hw => F.2.2.2.2.1 _ (F.2.2.2.2.2.1 _ hw)
  have h4 := am_pl hR ha (by omega)
  have h5 := am_pl hR hb (by omega)
  have wa := am_ws_at (ad := ad) (cA := cA) h4 (am_lt ha)
  rw [am_el_arr ha (by omega) (by omega) (by omega)] at wa
  have wb := am_ws_at (ad := ad) (cA := cA) h5 (am_lt hb)
  rw [am_el_arr hb (by omega) (by omega) (by omega)] at wb
  refine va_copyi (ty := .byte) F.1 F.2.1 (by rw [F.2.2.1]; exact hL.1.symm) F.2.2.2.1 (W0 _ hlk) (W0 _ hna) (W0 _ hst) (W0 _ hii) F.2.2.2.2.2.2.1 hR.1 hR.2.1 hS (a - 4) (b - 4) 2 2 wa wb rfl rfl rfl i1 i2 i3 i4 i5 hfit hfr (by rw [am_cat_map]; omega) hd (fun H1 locs1 hP1 hD1 hS1 => ?_)
  have hw := hX ad H1 locs1 lr cells slots hag ⟨hwf.1, am_tl (am_tl (am_tl (am_tl (am_tl hwf.2.1)))), hwf.2.2⟩ (am_rel_set (p := b) hR h5 (am_lt hb) rfl ?_ (fun z hz => am_el_oI (am_up_ne hz)) (fun j hj => am_up_ne (by omega)) hP1 hD1) hS1 hL hc hz hcap
  · rw [hn] at hw
    exact hw
  · rw [am_el_arr (h := (h.1, va_up h.2.1 b _, h.2.2)) hb (by omega) (by omega) (by omega)]
    dsimp only
    rw [am_up_eq]
theorem aj_copyi (F : am_F p s m args c cc nL own Ts D a0 cA base L0 X0) (h4n : 4 ≤ n0) {idx : Nat} (hfr : 1 ≤ R.frames) (hlo : 8 + (nativeFrameWords "java/lang/System" "arraycopy" 5 + 11) ≤ R.locals) (hlk : .methodLink own idx arraycopyName ∈ am_tbl) (hna : .native arraycopyName ∈ am_tbl) (hst : .static arraycopyName ∈ am_tbl) (hii : .initialized "java/lang/System" ∈ am_tbl) (hd : decode cc (pcs k) = .ok (.invokestatic idx, 3)) (hn : pcs (k + 1) = pcs k + 3) (hs : am_step rc na mcT msT cN cZ C Z (am_J p l e R s m args below meth c Qm nL D a0 cA base L0 X0 n0 z0 pcs) k ls st h (.invokedynamic 1)) : (am_J p l e R s m args below meth c Qm nL D a0 cA base L0 X0 n0 z0 pcs) k ls st h := by
  obtain ⟨a, b, n1, n2, sp, dp, n, st1, rfl, hct, ha4, hb4, ha, hb, i1, i2, i3, i4, i5, hX⟩ := hs
  intro ad H locs lr cells slots hag hwf hR hS hL hc hz hcap
  have W0 : ∀ w, w ∈ am_tbl → w.before args s = true := fun w hw => F.2.2.2.2.1 _ (F.2.2.2.2.2.1 _ hw)
  have ha4 : @LT.lt Nat instLTNat a 4 := ha4
  have h5 : @LE.le Nat instLENat 4 b := hb4
  have wb := am_ws_at (ad := ad) (cA := cA) h5 (am_lt hb)
  rw [am_el_arr hb (by omega) (by omega) (by omega)] at wb
  obtain ⟨e1, e2⟩ := hR.2.2.2.1 a ha4
  rw [ha] at e1
  cases e1
  obtain ⟨x1, x2⟩ := F.2.2.2.2.2.2.2.1 a ha4
  have e3 : ad a = a0 a := hag a (by omega)
  show W p l e R s m args below meth c H locs cells slots Qm (F0 m (pcs k) lr (.int n :: .int dp :: .ref (ad b) :: .int sp :: .ref (ad a) :: st1.map (am_vv ad)))
  rw [e3]
  refine va_copyx F.1 F.2.1 (by rw [F.2.2.1]; exact hL.1.symm) F.2.2.2.1 (W0 _ hlk) (W0 _ hna) (W0 _ hst) (W0 _ hii) F.2.2.2.2.2.2.1 hR.1 hR.2.1 hS x1 (Nat.lt_of_lt_of_le x2 F.2.2.2.2.2.2.2.2.1) (by omega) (b - 4) 0 wb rfl i1 i2 i3 i4 i5 hfr (by rw [am_cat_map]; omega) hd (fun H1 locs1 hP1 hD1 hS1 => ?_)
  have hw := hX ad H1 locs1 lr cells slots hag ⟨hwf.1, am_tl (am_tl (am_tl (am_tl (am_tl hwf.2.1)))), hwf.2.2⟩ (am_rel_set (p := b) hR h5 (am_lt hb) rfl ?_ (fun z hz => am_el_oI (am_up_ne hz)) (fun j hj => am_up_ne (by omega)) hP1 hD1) hS1 hL hc hz hcap
  · rw [hn] at hw
    exact hw
  · rw [am_el_arr (h := (h.1, va_up h.2.1 b _, h.2.2)) hb (by omega) (by omega) (by omega)]
    dsimp only
    rw [am_up_eq, e2]
end AME
end
section
/-! ===== calls, returns; a method's contract out of the small machine's ===== -/
theorem am_env_to {D : va_G} {a0 a1 : Nat → Nat} {cA : Nat → ClassId} {base : Nat} {L0 : Nat → Nat} {X0 : Nat → Nat → Int32} {u U : State} (hvm : u.vm.Alike U.vm) (hb : base ≤ U.heap.size) (hk : ∀ a : Nat, a < u.heap.size → ¬ base ≤ a → U.heap[a]? = u.heap[a]?) (ha : ∀ j, j < 4 → a1 j = a0 j) (hns : ∀ (a : String) (i : Nat) (x : MethodName) (hh : String), va_Nw (.methodLinkNest a i x hh) u → va_Nw (.methodLinkNest a i x hh) U) (E : am_env D a0 cA base L0 X0 u) : am_env D a1 cA base L0 X0 U := by
  obtain ⟨e1, e2, e3, e4, e5, e6, e7⟩ := E
  refine ⟨va_K.moved hvm e1, fun j hj => ?_, hb, fun j hj => ?_, fun j hj => ?_, va_AO.moved hvm e6, fun a i x hh hm => hns a i x hh (e7 a i x hh hm)⟩
  · obtain ⟨x1, x2⟩ := e2 j hj
    rw [ha j hj]
    exact ⟨(x1.moved hvm).kept (hk _ (Nat.lt_of_lt_of_le x2 e3) (by omega)), x2⟩
  · rw [ha j (by omega)]
    exact (va_Z.moved hvm (e4 j hj)).kept (fun a h1 h2 => hk a h1 h2)
  · rw [hvm.findClass]
    exact e5 j hj
def am_rm (fr lo mc ms : Nat) : Room := { frames := fr, cells := mc, slots := ms, locals := lo }
def am_Pc (D : va_G) (ad : Nat → Nat) (cA : Nat → ClassId) (base : Nat) (L0 : Nat → Nat) (X0 : Nat → Nat → Int32) (as : List Value) (h : am_H) : Array Value → State → Prop := va_Pc (as.map (am_vv ad)) (fun U => am_wf [] as h ∧ am_rel D ad cA base L0 X0 h U.heap ∧ am_env D ad cA base L0 X0 U)
def am_Qc (D : va_G) (ad : Nat → Nat) (cA : Nat → ClassId) (base : Nat) (L0 : Nat → Nat) (X0 : Nat → Nat → Int32) (mc ms : Nat) (h : am_H) (Q : am_Q) : Array Value → State → Outcome → State → Prop := fun _ st oc t =>
  (∃ (r : Option Value) (h' : am_H) (ad' : Nat → Nat), oc = .returned (r.map (am_vv ad')) ∧ (∀ j, j < h.1.length → ad' j = ad j) ∧ am_wf [] r.toList h' ∧ am_rel D ad' cA base L0 X0 h' t.heap ∧ (h'.1.length = h.1.length + mc ∧ am_sl h'.1 = am_sl h.1 + ms) ∧ Q r h') ∧ va_F (fun a => base ≤ a) st t
/-- the contract of a method, out of which a call of it is made -/
def am_Met (l : Launch) (D : va_G) (cA : Nat → ClassId) (base : Nat) (L0 : Nat → Nat) (X0 : Nat → Nat → Int32) (y : MethodName) (cc : ByteArray) (nL : Nat) (rt : Option FieldType) (fr lo mc ms : Nat) (as : List Value) (h : am_H) (Q : am_Q) : Prop :=
  ∀ ad : Nat → Nat, Met l y (Cond.code y cc nL rt :: am_tbl) (am_rm fr lo mc ms) (am_Pc D ad cA base L0 X0 as h) (am_Qc D ad cA base L0 X0 mc ms h Q) mc ms (fun a => base ≤ a)
theorem am_blind {D : va_G} {ad : Nat → Nat} {cA : Nat → ClassId} {base : Nat} {L0 : Nat → Nat} {X0 : Nat → Nat → Int32} {as : List Value} {h : am_H} : FrameBlind (am_Pc D ad cA base L0 X0 as h) := by
  intro a U g mk q
  obtain ⟨q1, q2, q3, q4⟩ := q
  exact ⟨q1, q2, q3, am_env_to (u := U) (U := U.calling g mk a) (Vm.Alike.refl U.vm) q4.2.2.1 (fun _ _ _ => rfl) (fun _ _ => rfl) (fun _ _ _ _ z => va_Nw.same rfl rfl z) q4⟩
section AMF
variable {p : Program} {l : Launch} {e : Env} {R : Room} {s : State} {m : MethodId} {args : Array Value} {below : List Frame} {meth : Method} {c : Code} {Qm : State → Prop} {cc : ByteArray} {nL : Nat} {own : String} {Ts : List Cond} {D : va_G} {a0 : Nat → Nat} {cA : Nat → ClassId} {base : Nat} {L0 : Nat → Nat} {X0 : Nat → Nat → Int32} {n0 z0 : Nat} {pcs : Nat → Nat} {rc na mcT msT : Nat → Nat} {cN cZ : Nat} {C : am_C} {Z : am_Q} {k : Nat} {ls : List (Option Value)} {st : List Value} {h : am_H}
variable {ad : Nat → Nat} {H : Heap} {locs : List Loc} {lr : Array Slot} {cells slots : Nat}
/-- behind a call -/
theorem am_ret {mc ms : Nat} {g0 : List Value} {st1 : List Value} {as : Array Value} {Q : am_Q} (hr : va_Run p l e R s m args below meth c H locs cells slots mc ms (F0 m (pcs k) lr g0) (st1.map (am_vv ad)) (am_Qc D ad cA base L0 X0 mc ms h Q as) (fun a => base ≤ a))
    (hn : pcs (k + 1) = pcs k + 3) (hS : va_S (fun q => base ≤ q) s.heap H locs) (hag : ∀ j, j < n0 → ad j = a0 j) (hwf : am_wf ls st1 h) (hL : am_loc ad ls nL lr) (hc : cells + n0 = h.1.length) (hz : slots + z0 = am_sl h.1)
    (hcap : h.1.length + mc ≤ n0 + R.cells ∧ am_sl h.1 + ms ≤ z0 + R.slots) (hX : ∀ r h', Q r h' → (am_J p l e R s m args below meth c Qm nL D a0 cA base L0 X0 n0 z0 pcs) (k + 1) ls (r.toList ++ st1) h') : W p l e R s m args below meth c H locs cells slots Qm (F0 m (pcs k) lr g0) := by
  intro T hT X
  obtain ⟨v, st₀, t, T', L, h0, X', hLl, e1, e2, ⟨⟨r, h', ad', hv, ha, hw', hR', ⟨hl1, hl2⟩, hq⟩, hz1, hk1⟩, stp⟩ := hr T hT X
  cases hv
  rw [h0] at hz1 hk1
  have hS1 : va_S (fun q => base ≤ q) s.heap T'.heap (locs ++ L) := ⟨Nat.le_trans hS.1 (by rw [e1]; exact hz1), fun q h1 h2 => by rw [e1, hk1 q (Nat.lt_of_lt_of_le h1 hS.1) h2]; exact hS.2.1 q h1 h2, fun q hq => by
      rcases List.mem_append.mp hq with h | h
      · exact hS.2.2 q h
      · exact hLl q h⟩
  have hwn : am_wf ls (r.toList ++ st1) h' := ⟨fun v hv => am_okv_le (hwf.1 v hv) (by omega), fun v hv => by
      rcases List.mem_append.mp hv with q | q
      · exact hw'.2.1 v q
      · exact am_okv_le (hwf.2.1 v q) (by omega), hw'.2.2⟩
  have hw := hX r h' hq ad' T'.heap (locs ++ L) lr (cells + mc) (slots + ms) (fun j hj => by rw [ha j (by omega)]; exact hag j hj) hwn (by rw [e1]; exact hR') hS1 (am_loc_new ha hwf.1 hL) (by omega) (by omega) (by omega)
  rw [hn, List.map_append, am_st_new ha hwf.2.1] at hw
  have e9 : r.toList.map (am_vv ad') = (r.map (am_vv ad')).toList := by cases r <;> rfl
  rw [e9] at hw
  obtain ⟨t2, a1, b1⟩ := hw T' rfl X'
  exact ⟨t2, stp t2 a1, b1⟩
/-- what a callee's contract asks of the state at the call -/
theorem am_prec (F : am_F p s m args c cc nL own Ts D a0 cA base L0 X0) {as : List Value} {st1 : List Value} (hag : ∀ j, j < n0 → ad j = a0 j) (h4n : 4 ≤ n0) (hwf : am_wf ls (as.reverse ++ st1) h) (hR : am_rel D ad cA base L0 X0 h H) (hS : va_S (fun q => base ≤ q) s.heap H locs) : ∀ U : State, U.heap = H → s.WarmedH U.vm → am_Pc D ad cA base L0 X0 as h (as.map (am_vv ad)).toArray U := by
  intro U hU hW
  refine ⟨rfl, ⟨fun v hv => by simp at hv, fun v hv => hwf.2.1 v (List.mem_append_left _ (List.mem_reverse.mpr hv)), hwf.2.2⟩, by rw [hU]; exact hR, am_env_to hW.alike (by rw [hU]; exact Nat.le_trans F.2.2.2.2.2.2.2.2.1 hS.1) (fun a h1 h2 => by rw [hU]; exact hS.2.1 a h1 h2) (fun j hj => hag j (by omega)) (fun _ _ _ _ z => va_Nw.warmM hW z) F.2.2.2.2.2.2⟩
theorem am_good {y : MethodName} {c1 : ByteArray} {nl : Nat} {rt : Option FieldType} (hg : am_tbl.all goodWord = true) (hT : ∀ w ∈ am_tbl, w ∈ Ts) (hc : Cond.code y c1 nl rt ∈ am_tbl) : GoodIn Ts (Cond.code y c1 nl rt :: am_tbl) := by
  intro w hw
  rcases List.mem_cons.mp hw with rfl | hw
  · exact ⟨hT _ hc, good_of_word (List.all_eq_true.mp hg _ hc)⟩
  · exact ⟨hT _ hw, good_of_word (List.all_eq_true.mp hg _ hw)⟩
-- calls below
theorem aj_callV (F : am_F p s m args c cc nL own Ts D a0 cA base L0 X0) (h4n : 4 ≤ n0) {q idx : Nat} {y : MethodName} {c1 : ByteArray} {nl fr lo mc ms n : Nat} {rt : Option FieldType} (hC : ∀ as h Q, C q as h Q → am_Met l D cA base L0 X0 y c1 nl rt fr lo mc ms as h Q) (hg : am_tbl.all goodWord = true) (hco : .code y c1 nl rt ∈ am_tbl) (hii : .initialized y.cls ∈ am_tbl) (hds : y.cls ≠ "java/lang/invoke/MethodHandle" ∧ y.cls ≠ "java/lang/invoke/VarHandle" ∧ (parseMethodDescriptor y.desc).map (fun d => d.parameters.length) = some n) (hcN : cN = n0 + R.cells) (hcZ : cZ = z0 + R.slots) (hmc : mcT q = mc) (hms : msT q = ms) (hfl : fr + 1 ≤ R.frames ∧ 8 + (nl + 11) + lo ≤ R.locals) {T : u_T} {N : Nat} (hna : na q = n + 1) (hrq : rc q < 50) (hrc : am_cl[rc q]? = some (y.cls, T, N)) (hlk : .methodLink own idx y ∈ am_tbl) (hin : .instanceMethod y ∈ am_tbl) (hse : .selects y.cls y y ∈ am_tbl) (hd : decode cc (pcs k) = .ok (.invokevirtual idx, 3)) (hn : pcs (k + 1) = pcs k + 3) (hs : am_step rc na mcT msT cN cZ C Z (am_J p l e R s m args below meth c Qm nL D a0 cA base L0 X0 n0 z0 pcs) k ls st h (.invokevirtual q)) : (am_J p l e R s m args below meth c Qm nL D a0 cA base L0 X0 n0 z0 pcs) k ls st h := by
  obtain ⟨as, p1, n1, st1, rfl, hlen, hct, hp, hrm, hX⟩ := hs
  intro ad H locs lr cells slots hag hwf hR hS hL hc hz hcap
  have W0 : ∀ w, w ∈ am_tbl → w.before args s = true := fun w hw => F.2.2.2.2.1 _ (F.2.2.2.2.2.1 _ hw)
  have hcp : h.1.length + mc ≤ n0 + R.cells ∧ am_sl h.1 + ms ≤ z0 + R.slots := by omega
  have hM := hC _ _ _ hX ad
  have hw1 := am_ws_at (ad := ad) (cA := cA) (am_pl hR hp (by omega)) (am_lt hp)
  rw [am_el_obj hp hrq] at hw1
  have hwf2 : am_wf ls ((.ref p1 :: as).reverse ++ st1) h := by
    have e : (Value.ref p1 :: as).reverse ++ st1 = as.reverse ++ .ref p1 :: st1 := by simp
    rw [e]
    exact hwf
  have hwf3 : am_wf ls st1 h := ⟨hwf.1, fun v hv => hwf.2.1 v (List.mem_append_right _ (List.mem_cons_of_mem _ hv)), hwf.2.2⟩
  refine am_ret (as := (Value.ref (ad p1) :: as.map (am_vv ad)).toArray) (va_runV (As := as.map (am_vv ad)) (rest := st1.map (am_vv ad)) ⟨F.1, F.2.1, F.2.2.1, F.2.2.2.1, F.2.2.2.2.1⟩ hM ⟨callB_of n F.2.2.2.2.1 (am_good hg F.2.2.2.2.2.1 hco) rfl rfl rfl (W0 _ hii) (W0 _ hlk) hds hfl, W0 _ hin, W0 _ hse⟩ ⟨am_blind, va_recv F.2.2.2.2.2.2.1 hR.1 hrc hw1, am_prec F hag h4n hwf2 hR hS⟩ rfl (by rw [List.length_map]; omega) hL.1 (by simp [am_vv]) (by show 2 * 0 + _ ≤ 8; rw [am_cat_map]; omega) hd ⟨by omega, by omega⟩) hn hS hag hwf3 hL hc hz hcp (fun r h' hq => hq)
theorem aj_callS (F : am_F p s m args c cc nL own Ts D a0 cA base L0 X0) (h4n : 4 ≤ n0) {q idx : Nat} {y : MethodName} {c1 : ByteArray} {nl fr lo mc ms n : Nat} {rt : Option FieldType} (hC : ∀ as h Q, C q as h Q → am_Met l D cA base L0 X0 y c1 nl rt fr lo mc ms as h Q) (hg : am_tbl.all goodWord = true) (hco : .code y c1 nl rt ∈ am_tbl) (hii : .initialized y.cls ∈ am_tbl) (hds : y.cls ≠ "java/lang/invoke/MethodHandle" ∧ y.cls ≠ "java/lang/invoke/VarHandle" ∧ (parseMethodDescriptor y.desc).map (fun d => d.parameters.length) = some n) (hcN : cN = n0 + R.cells) (hcZ : cZ = z0 + R.slots) (hmc : mcT q = mc) (hms : msT q = ms) (hfl : fr + 1 ≤ R.frames ∧ 8 + (nl + 11) + lo ≤ R.locals) (hna : na q = n) (hlk : .methodLink own idx y ∈ am_tbl) (hst : .static y ∈ am_tbl) (hd : decode cc (pcs k) = .ok (.invokestatic idx, 3)) (hn : pcs (k + 1) = pcs k + 3) (hs : am_step rc na mcT msT cN cZ C Z (am_J p l e R s m args below meth c Qm nL D a0 cA base L0 X0 n0 z0 pcs) k ls st h (.invokestatic q)) : (am_J p l e R s m args below meth c Qm nL D a0 cA base L0 X0 n0 z0 pcs) k ls st h := by
  obtain ⟨as, st1, rfl, hlen, hct, hrm, hX⟩ := hs
  intro ad H locs lr cells slots hag hwf hR hS hL hc hz hcap
  have W0 : ∀ w, w ∈ am_tbl → w.before args s = true := fun w hw => F.2.2.2.2.1 _ (F.2.2.2.2.2.1 _ hw)
  have hcp : h.1.length + mc ≤ n0 + R.cells ∧ am_sl h.1 + ms ≤ z0 + R.slots := by omega
  have hM := hC _ _ _ hX ad
  have hwf3 : am_wf ls st1 h := ⟨hwf.1, fun v hv => hwf.2.1 v (List.mem_append_right _ hv), hwf.2.2⟩
  refine am_ret (as := (as.map (am_vv ad)).toArray) (va_runS (As := as.map (am_vv ad)) (rest := st1.map (am_vv ad)) ⟨F.1, F.2.1, F.2.2.1, F.2.2.2.1, F.2.2.2.2.1⟩ hM ⟨callB_of n F.2.2.2.2.1 (am_good hg F.2.2.2.2.2.1 hco) rfl rfl rfl (W0 _ hii) (W0 _ hlk) hds hfl, W0 _ hst⟩ ⟨am_blind, am_prec F hag h4n hwf hR hS⟩ rfl (by rw [List.length_map]; omega) hL.1 (by simp) (by show 2 * 0 + _ ≤ 8; rw [am_cat_map]; omega) hd ⟨by omega, by omega⟩) hn hS hag hwf3 hL hc hz hcp (fun r h' hq => hq)
theorem aj_callI (F : am_F p s m args c cc nL own Ts D a0 cA base L0 X0) (h4n : 4 ≤ n0) {q idx : Nat} {y : MethodName} {c1 : ByteArray} {nl fr lo mc ms n : Nat} (hC : ∀ as h Q, C q as h Q → am_Met l D cA base L0 X0 y c1 nl none fr lo mc ms as h Q) (hg : am_tbl.all goodWord = true) (hco : .code y c1 nl none ∈ am_tbl) (hii : .initialized y.cls ∈ am_tbl) (hds : y.cls ≠ "java/lang/invoke/MethodHandle" ∧ y.cls ≠ "java/lang/invoke/VarHandle" ∧ (parseMethodDescriptor y.desc).map (fun d => d.parameters.length) = some n) (hcN : cN = n0 + R.cells) (hcZ : cZ = z0 + R.slots) (hmc : mcT q = mc) (hms : msT q = ms) (hfl : fr + 1 ≤ R.frames ∧ 8 + (nl + 11) + lo ≤ R.locals) (hna : na q = n + 1) (hy : y.name = "<init>") (hlk : .methodLink own idx y ∈ am_tbl) (hin : .instanceMethod y ∈ am_tbl) (hd : decode cc (pcs k) = .ok (.invokespecial idx, 3)) (hn : pcs (k + 1) = pcs k + 3) (hs : am_step rc na mcT msT cN cZ C Z (am_J p l e R s m args below meth c Qm nL D a0 cA base L0 X0 n0 z0 pcs) k ls st h (.invokespecial q)) : (am_J p l e R s m args below meth c Qm nL D a0 cA base L0 X0 n0 z0 pcs) k ls st h := by
  obtain ⟨as, p1, n1, st1, rfl, hlen, hct, hp, hrm, hX⟩ := hs
  intro ad H locs lr cells slots hag hwf hR hS hL hc hz hcap
  have W0 : ∀ w, w ∈ am_tbl → w.before args s = true := fun w hw => F.2.2.2.2.1 _ (F.2.2.2.2.2.1 _ hw)
  have hcp : h.1.length + mc ≤ n0 + R.cells ∧ am_sl h.1 + ms ≤ z0 + R.slots := by omega
  have hM := hC _ _ _ hX ad
  have hwf2 : am_wf ls ((.ref p1 :: as).reverse ++ st1) h := by
    have e : (Value.ref p1 :: as).reverse ++ st1 = as.reverse ++ .ref p1 :: st1 := by simp
    rw [e]
    exact hwf
  have hwf3 : am_wf ls st1 h := ⟨hwf.1, fun v hv => hwf.2.1 v (List.mem_append_right _ (List.mem_cons_of_mem _ hv)), hwf.2.2⟩
  refine am_ret (as := (Value.ref (ad p1) :: as.map (am_vv ad)).toArray) (va_runI (As := as.map (am_vv ad)) (rest := st1.map (am_vv ad)) ⟨F.1, F.2.1, F.2.2.1, F.2.2.2.1, F.2.2.2.2.1⟩ hM ⟨callB_of n F.2.2.2.2.1 (am_good hg F.2.2.2.2.2.1 hco) rfl rfl rfl (W0 _ hii) (W0 _ hlk) hds hfl, hy, W0 _ hin⟩ ⟨am_blind, am_prec F hag h4n hwf2 hR hS⟩ rfl (by rw [List.length_map]; omega) hL.1 (by simp [am_vv]) (by show 2 * 0 + _ ≤ 8; rw [am_cat_map]; omega) hd ⟨by omega, by omega⟩) hn hS hag hwf3 hL hc hz hcp (fun r h' hq => hq)
theorem aj_callVN (F : am_F p s m args c cc nL own Ts D a0 cA base L0 X0) (h4n : 4 ≤ n0) {q idx : Nat} {y : MethodName} {c1 : ByteArray} {nl fr lo mc ms n : Nat} {rt : Option FieldType} (hC : ∀ as h Q, C q as h Q → am_Met l D cA base L0 X0 y c1 nl rt fr lo mc ms as h Q) (hg : am_tbl.all goodWord = true) (hco : .code y c1 nl rt ∈ am_tbl) (hii : .initialized y.cls ∈ am_tbl) (hds : y.cls ≠ "java/lang/invoke/MethodHandle" ∧ y.cls ≠ "java/lang/invoke/VarHandle" ∧ (parseMethodDescriptor y.desc).map (fun d => d.parameters.length) = some n) (hcN : cN = n0 + R.cells) (hcZ : cZ = z0 + R.slots) (hmc : mcT q = mc) (hms : msT q = ms) (hfl : fr + 1 ≤ R.frames ∧ 8 + (nl + 11) + lo ≤ R.locals) {host : String} {T : u_T} {N : Nat} (hna : na q = n + 1) (hrq : rc q < 50) (hrc : am_cl[rc q]? = some (y.cls, T, N)) (hlk : .methodLinkNest own idx y host ∈ lw_tbl) (hin : .instanceMethod y ∈ am_tbl) (hse : .selects y.cls y y ∈ am_tbl) (hd : decode cc (pcs k) = .ok (.invokevirtual idx, 3)) (hn : pcs (k + 1) = pcs k + 3) (hs : am_step rc na mcT msT cN cZ C Z (am_J p l e R s m args below meth c Qm nL D a0 cA base L0 X0 n0 z0 pcs) k ls st h (.invokevirtual q)) : (am_J p l e R s m args below meth c Qm nL D a0 cA base L0 X0 n0 z0 pcs) k ls st h := by
  obtain ⟨as, p1, n1, st1, rfl, hlen, hct, hp, hrm, hX⟩ := hs
  intro ad H locs lr cells slots hag hwf hR hS hL hc hz hcap
  have W0 : ∀ w, w ∈ am_tbl → w.before args s = true := fun w hw => F.2.2.2.2.1 _ (F.2.2.2.2.2.1 _ hw)
  have hcp : h.1.length + mc ≤ n0 + R.cells ∧ am_sl h.1 + ms ≤ z0 + R.slots := by omega
  have hM := hC _ _ _ hX ad
  have hw1 := am_ws_at (ad := ad) (cA := cA) (am_pl hR hp (by omega)) (am_lt hp)
  rw [am_el_obj hp hrq] at hw1
  have hwf2 : am_wf ls ((.ref p1 :: as).reverse ++ st1) h := by
    have e : (Value.ref p1 :: as).reverse ++ st1 = as.reverse ++ .ref p1 :: st1 := by simp
    rw [e]
    exact hwf
  have hwf3 : am_wf ls st1 h := ⟨hwf.1, fun v hv => hwf.2.1 v (List.mem_append_right _ (List.mem_cons_of_mem _ hv)), hwf.2.2⟩
  refine am_ret (as := (Value.ref (ad p1) :: as.map (am_vv ad)).toArray) (va_runVN (As := as.map (am_vv ad)) (rest := st1.map (am_vv ad)) ⟨F.1, F.2.1, F.2.2.1, F.2.2.2.1, F.2.2.2.2.1⟩ hM ⟨va_cnB n F.2.2.2.2.1 (am_good hg F.2.2.2.2.2.1 hco) rfl rfl rfl (F.2.2.2.2.2.2.2.2.2.2.2.2 _ _ _ _ hlk) (W0 _ hii) hds hfl, W0 _ hin, W0 _ hse⟩ ⟨am_blind, va_recv F.2.2.2.2.2.2.1 hR.1 hrc hw1, am_prec F hag h4n hwf2 hR hS⟩ rfl (by rw [List.length_map]; omega) hL.1 (by simp [am_vv]) (by show 2 * 0 + _ ≤ 8; rw [am_cat_map]; omega) hd ⟨by omega, by omega⟩) hn hS hag hwf3 hL hc hz hcp (fun r h' hq => hq)
theorem aj_callSN (F : am_F p s m args c cc nL own Ts D a0 cA base L0 X0) (h4n : 4 ≤ n0) {q idx : Nat} {y : MethodName} {c1 : ByteArray} {nl fr lo mc ms n : Nat} {rt : Option FieldType} (hC : ∀ as h Q, C q as h Q → am_Met l D cA base L0 X0 y c1 nl rt fr lo mc ms as h Q) (hg : am_tbl.all goodWord = true) (hco : .code y c1 nl rt ∈ am_tbl) (hii : .initialized y.cls ∈ am_tbl) (hds : y.cls ≠ "java/lang/invoke/MethodHandle" ∧ y.cls ≠ "java/lang/invoke/VarHandle" ∧ (parseMethodDescriptor y.desc).map (fun d => d.parameters.length) = some n) (hcN : cN = n0 + R.cells) (hcZ : cZ = z0 + R.slots) (hmc : mcT q = mc) (hms : msT q = ms) (hfl : fr + 1 ≤ R.frames ∧ 8 + (nl + 11) + lo ≤ R.locals) {host : String} (hna : na q = n) (hlk : .methodLinkNest own idx y host ∈ lw_tbl) (hst : .static y ∈ am_tbl) (hd : decode cc (pcs k) = .ok (.invokestatic idx, 3)) (hn : pcs (k + 1) = pcs k + 3) (hs : am_step rc na mcT msT cN cZ C Z (am_J p l e R s m args below meth c Qm nL D a0 cA base L0 X0 n0 z0 pcs) k ls st h (.invokestatic q)) : (am_J p l e R s m args below meth c Qm nL D a0 cA base L0 X0 n0 z0 pcs) k ls st h := by
  obtain ⟨as, st1, rfl, hlen, hct, hrm, hX⟩ := hs
  intro ad H locs lr cells slots hag hwf hR hS hL hc hz hcap
  have W0 : ∀ w, w ∈ am_tbl → w.before args s = true := fun w hw => F.2.2.2.2.1 _ (F.2.2.2.2.2.1 _ hw)
  have hcp : h.1.length + mc ≤ n0 + R.cells ∧ am_sl h.1 + ms ≤ z0 + R.slots := by omega
  have hM := hC _ _ _ hX ad
  have hwf3 : am_wf ls st1 h := ⟨hwf.1, fun v hv => hwf.2.1 v (List.mem_append_right _ hv), hwf.2.2⟩
  refine am_ret (as := (as.map (am_vv ad)).toArray) (va_runSN (As := as.map (am_vv ad)) (rest := st1.map (am_vv ad)) ⟨F.1, F.2.1, F.2.2.1, F.2.2.2.1, F.2.2.2.2.1⟩ hM ⟨va_cnB n F.2.2.2.2.1 (am_good hg F.2.2.2.2.2.1 hco) rfl rfl rfl (F.2.2.2.2.2.2.2.2.2.2.2.2 _ _ _ _ hlk) (W0 _ hii) hds hfl, W0 _ hst, trivial⟩ ⟨am_blind, am_prec F hag h4n hwf hR hS⟩ rfl (by rw [List.length_map]; omega) hL.1 (by simp) (by show 2 * 0 + _ ≤ 8; rw [am_cat_map]; omega) hd ⟨by omega, by omega⟩) hn hS hag hwf3 hL hc hz hcp (fun r h' hq => hq)
theorem aj_callIN (F : am_F p s m args c cc nL own Ts D a0 cA base L0 X0) (h4n : 4 ≤ n0) {q idx : Nat} {y : MethodName} {c1 : ByteArray} {nl fr lo mc ms n : Nat} (hC : ∀ as h Q, C q as h Q → am_Met l D cA base L0 X0 y c1 nl none fr lo mc ms as h Q) (hg : am_tbl.all goodWord = true) (hco : .code y c1 nl none ∈ am_tbl) (hii : .initialized y.cls ∈ am_tbl) (hds : y.cls ≠ "java/lang/invoke/MethodHandle" ∧ y.cls ≠ "java/lang/invoke/VarHandle" ∧ (parseMethodDescriptor y.desc).map (fun d => d.parameters.length) = some n) (hcN : cN = n0 + R.cells) (hcZ : cZ = z0 + R.slots) (hmc : mcT q = mc) (hms : msT q = ms) (hfl : fr + 1 ≤ R.frames ∧ 8 + (nl + 11) + lo ≤ R.locals) {host : String} (hna : na q = n + 1) (hy : y.name = "<init>") (hlk : .methodLinkNest own idx y host ∈ lw_tbl) (hin : .instanceMethod y ∈ am_tbl) (hd : decode cc (pcs k) = .ok (.invokespecial idx, 3)) (hn : pcs (k + 1) = pcs k + 3) (hs : am_step rc na mcT msT cN cZ C Z (am_J p l e R s m args below meth c Qm nL D a0 cA base L0 X0 n0 z0 pcs) k ls st h (.invokespecial q)) : (am_J p l e R s m args below meth c Qm nL D a0 cA base L0 X0 n0 z0 pcs) k ls st h := by
  obtain ⟨as, p1, n1, st1, rfl, hlen, hct, hp, hrm, hX⟩ := hs
  intro ad H locs lr cells slots hag hwf hR hS hL hc hz hcap
  have W0 : ∀ w, w ∈ am_tbl → w.before args s = true := fun w hw => F.2.2.2.2.1 _ (F.2.2.2.2.2.1 _ hw)
  have hcp : h.1.length + mc ≤ n0 + R.cells ∧ am_sl h.1 + ms ≤ z0 + R.slots := by omega
  have hM := hC _ _ _ hX ad
  have hwf2 : am_wf ls ((.ref p1 :: as).reverse ++ st1) h := by
    have e : (Value.ref p1 :: as).reverse ++ st1 = as.reverse ++ .ref p1 :: st1 := by simp
    rw [e]
    exact hwf
  have hwf3 : am_wf ls st1 h := ⟨hwf.1, fun v hv => hwf.2.1 v (List.mem_append_right _ (List.mem_cons_of_mem _ hv)), hwf.2.2⟩
  refine am_ret (as := (Value.ref (ad p1) :: as.map (am_vv ad)).toArray) (va_runIN (As := as.map (am_vv ad)) (rest := st1.map (am_vv ad)) ⟨F.1, F.2.1, F.2.2.1, F.2.2.2.1, F.2.2.2.2.1⟩ hM ⟨va_cnB n F.2.2.2.2.1 (am_good hg F.2.2.2.2.2.1 hco) rfl rfl rfl (F.2.2.2.2.2.2.2.2.2.2.2.2 _ _ _ _ hlk) (W0 _ hii) hds hfl, hy, W0 _ hin⟩ ⟨am_blind, am_prec F hag h4n hwf2 hR hS⟩ rfl (by rw [List.length_map]; omega) hL.1 (by simp [am_vv]) (by show 2 * 0 + _ ≤ 8; rw [am_cat_map]; omega) hd ⟨by omega, by omega⟩) hn hS hag hwf3 hL hc hz hcp (fun r h' hq => hq)
/-- a method's end, in the small machine's words -/
def am_Z (rt : Option FieldType) (mc ms n0 z0 : Nat) (Q : am_Q) : am_Q := fun r h' => (h'.1.length = n0 + mc ∧ am_sl h'.1 = z0 + ms) ∧ (rt = some .boolean → r = some (.int 0) ∨ r = some (.int 1)) ∧ Q r h'
end AMF
section AMR
variable {p : Program} {l : Launch} {e : Env} {R : Room} {s : State} {m : MethodId} {args : Array Value} {below : List Frame} {meth : Method} {c : Code} {cc : ByteArray} {nL : Nat} {own : String} {Ts : List Cond} {D : va_G} {a0 : Nat → Nat} {cA : Nat → ClassId} {base : Nat} {L0 : Nat → Nat} {X0 : Nat → Nat → Int32} {pcs : Nat → Nat} {rc na mcT msT : Nat → Nat} {cN cZ : Nat} {C : am_C} {k : Nat} {ls : List (Option Value)} {st : List Value} {h h0 : am_H} {rt : Option FieldType} {mc ms : Nat} {Q : am_Q}
theorem am_end {ad : Nat → Nat} {H : Heap} {locs : List Loc} {r : Option Value} {h1 : am_H} (hag : ∀ j, j < h0.1.length → ad j = a0 j) (hw : ∀ v ∈ r.toList, am_okv h1.1.length v) (hw2 : ∀ p k q, h1.2.2.2 p k = some q → q < h1.1.length) (hR : am_rel D ad cA base L0 X0 h1 H) (hS : va_S (fun q => base ≤ q) s.heap H locs) (hZ : am_Z rt mc ms h0.1.length (am_sl h0.1) Q r h1) : ∀ t : State, t.heap = H → s.WarmedH t.vm → am_Qc D a0 cA base L0 X0 mc ms h0 Q args s (.returned (r.map (am_vv ad))) t := by
  intro t ht _
  exact ⟨⟨r, h1, ad, rfl, hag, ⟨fun v hv => by simp at hv, hw, hw2⟩, by rw [ht]; exact hR, hZ.1, hZ.2.2⟩, hS.F ht⟩
theorem aj_ireturn (F : am_F p s m args c cc nL own Ts D a0 cA base L0 X0) (hlocks : meth.locks = false) (hr : meth.sig.returnType = some .int) (hd : decode cc (pcs k) = .ok (.ireturn, 1)) (hs : am_step rc na mcT msT cN cZ C (am_Z rt mc ms h0.1.length (am_sl h0.1) Q) (am_J p l e R s m args below meth c (MQ below (am_Qc D a0 cA base L0 X0 mc ms h0 Q) args s mc ms (fun a => base ≤ a)) nL D a0 cA base L0 X0 h0.1.length (am_sl h0.1) pcs) k ls st h .ireturn) : (am_J p l e R s m args below meth c (MQ below (am_Qc D a0 cA base L0 X0 mc ms h0 Q) args s mc ms (fun a => base ≤ a)) nL D a0 cA base L0 X0 h0.1.length (am_sl h0.1) pcs) k ls st h := by
  obtain ⟨x, rfl, hZ⟩ := hs
  intro ad H locs lr cells slots hag hwf hR hS hL hc hz hcap
  obtain rfl : cells = mc := by have := hZ.1.1; omega
  obtain rfl : slots = ms := by have := hZ.1.2; omega
  exact W.zret (ty := .int) F.1 F.2.1 hr rfl (am_end hag (by simp [am_okv]) hwf.2.2 hR hS hZ) hS.2.2 hd
theorem aj_zreturn (F : am_F p s m args c cc nL own Ts D a0 cA base L0 X0) (hlocks : meth.locks = false) (hr : meth.sig.returnType = some .boolean) (hrt : rt = some .boolean) (hd : decode cc (pcs k) = .ok (.ireturn, 1)) (hs : am_step rc na mcT msT cN cZ C (am_Z rt mc ms h0.1.length (am_sl h0.1) Q) (am_J p l e R s m args below meth c (MQ below (am_Qc D a0 cA base L0 X0 mc ms h0 Q) args s mc ms (fun a => base ≤ a)) nL D a0 cA base L0 X0 h0.1.length (am_sl h0.1) pcs) k ls st h .ireturn) : (am_J p l e R s m args below meth c (MQ below (am_Qc D a0 cA base L0 X0 mc ms h0 Q) args s mc ms (fun a => base ≤ a)) nL D a0 cA base L0 X0 h0.1.length (am_sl h0.1) pcs) k ls st h := by
  obtain ⟨x, rfl, hZ⟩ := hs
  intro ad H locs lr cells slots hag hwf hR hS hL hc hz hcap
  obtain rfl : cells = mc := by have := hZ.1.1; omega
  obtain rfl : slots = ms := by have := hZ.1.2; omega
  exact W.zret (ty := .boolean) F.1 F.2.1 hr (by rcases hZ.2.1 hrt with q | q <;> cases q <;> rfl) (am_end hag (by simp [am_okv]) hwf.2.2 hR hS hZ) hS.2.2 hd
theorem aj_lreturn (F : am_F p s m args c cc nL own Ts D a0 cA base L0 X0) (hlocks : meth.locks = false) (hr : meth.sig.returnType = some .long) (hd : decode cc (pcs k) = .ok (.lreturn, 1)) (hs : am_step rc na mcT msT cN cZ C (am_Z rt mc ms h0.1.length (am_sl h0.1) Q) (am_J p l e R s m args below meth c (MQ below (am_Qc D a0 cA base L0 X0 mc ms h0 Q) args s mc ms (fun a => base ≤ a)) nL D a0 cA base L0 X0 h0.1.length (am_sl h0.1) pcs) k ls st h .lreturn) : (am_J p l e R s m args below meth c (MQ below (am_Qc D a0 cA base L0 X0 mc ms h0 Q) args s mc ms (fun a => base ≤ a)) nL D a0 cA base L0 X0 h0.1.length (am_sl h0.1) pcs) k ls st h := by
  obtain ⟨x, rfl, hZ⟩ := hs
  intro ad H locs lr cells slots hag hwf hR hS hL hc hz hcap
  obtain rfl : cells = mc := by have := hZ.1.1; omega
  obtain rfl : slots = ms := by have := hZ.1.2; omega
  exact W.lret F.1 F.2.1 hr (am_end hag (by simp [am_okv]) hwf.2.2 hR hS hZ) hS.2.2 hd
theorem aj_return (F : am_F p s m args c cc nL own Ts D a0 cA base L0 X0) (hlocks : meth.locks = false) (hr : meth.sig.returnType = none) (hd : decode cc (pcs k) = .ok (.return_, 1)) (hs : am_step rc na mcT msT cN cZ C (am_Z rt mc ms h0.1.length (am_sl h0.1) Q) (am_J p l e R s m args below meth c (MQ below (am_Qc D a0 cA base L0 X0 mc ms h0 Q) args s mc ms (fun a => base ≤ a)) nL D a0 cA base L0 X0 h0.1.length (am_sl h0.1) pcs) k ls st h .return_) : (am_J p l e R s m args below meth c (MQ below (am_Qc D a0 cA base L0 X0 mc ms h0 Q) args s mc ms (fun a => base ≤ a)) nL D a0 cA base L0 X0 h0.1.length (am_sl h0.1) pcs) k ls st h := by
  obtain ⟨rfl, hZ⟩ := hs
  intro ad H locs lr cells slots hag hwf hR hS hL hc hz hcap
  obtain rfl : cells = mc := by have := hZ.1.1; omega
  obtain rfl : slots = ms := by have := hZ.1.2; omega
  exact W.vret F.1 F.2.1 hr (am_end (r := none) hag (by simp) hwf.2.2 hR hS hZ) hS.2.2 hd
theorem aj_areturn (F : am_F p s m args c cc nL own Ts D a0 cA base L0 X0) (hlocks : meth.locks = false) {ty : String} (hr : meth.sig.returnType = some (.object ty)) (hd : decode cc (pcs k) = .ok (.areturn, 1)) (hs : am_step rc na mcT msT cN cZ C (am_Z rt mc ms h0.1.length (am_sl h0.1) Q) (am_J p l e R s m args below meth c (MQ below (am_Qc D a0 cA base L0 X0 mc ms h0 Q) args s mc ms (fun a => base ≤ a)) nL D a0 cA base L0 X0 h0.1.length (am_sl h0.1) pcs) k ls st h .areturn) : (am_J p l e R s m args below meth c (MQ below (am_Qc D a0 cA base L0 X0 mc ms h0 Q) args s mc ms (fun a => base ≤ a)) nL D a0 cA base L0 X0 h0.1.length (am_sl h0.1) pcs) k ls st h := by
  obtain ⟨r, rfl, hZ⟩ := hs
  intro ad H locs lr cells slots hag hwf hR hS hL hc hz hcap
  obtain rfl : cells = mc := by have := hZ.1.1; omega
  obtain rfl : slots = ms := by have := hZ.1.2; omega
  exact W.aret F.1 F.2.1 hr (Or.inl ⟨_, rfl⟩) (by rw [am_vv_rf]; cases r <;> simp [va_rf]) (am_end hag (by simpa using hwf.2.1) hwf.2.2 hR hS hZ) hS.2.2 hd
end AMR
end
section
/-! ===== the program: each method's instructions in the small machine's words; rows of (pc, instruction, length, place of its word in lw_tbl) ===== -/
noncomputable def am_c1 : List Instr := [.aload 0, .monitorexit, .aload 0, .iconst 16, .anewarray 50, .dstore 8, .aload 0, .iconst 16, .anewarray 51, .dstore 9, .aload 0, .iconst 8, .anewarray 50, .dstore 11, .aload 0, .iconst 8, .anewarray 50, .dstore 12, .aload 0, .iconst 8, .anewarray 50, .dstore 13, .aload 0, .iconst 8, .anewarray 51, .dstore 14, .return_]
noncomputable def am_c2 : List Instr := [.aload 0, .iconst 1, .putstatic 0, .aload 0, .iload 1, .putfield 1, .aload 0, .iload 2, .putfield 2, .aload 0, .iload 3, .putfield 3, .aload 0, .iload 4, .putfield 4, .aload 0, .iconst 0, .putfield 10, .aload 0, .iconst 0, .putfield 15, .return_]
noncomputable def am_c3 : List Instr := [.aload 0, .lload 1, .fstore 6, .aload 0, .iload 3, .putfield 7, .return_]
noncomputable def am_c4 : List Instr := [.aload 0, .fload 6, .lload 1, .lcmp, .ifCond .ne 11, .aload 0, .getfield 7, .iload 3, .if_icmp .ne 11, .iconst 1, .goto 12, .iconst 0, .ireturn]
noncomputable def am_c5 : List Instr := [.aload 0, .fload 5, .lload 1, .lsub, .l2i, .ireturn]
noncomputable def am_c6 : List Instr := [.aload 0, .aload 0, .fload 5, .lload 1, .lcmp, .ifCond .le 8, .iconst 1, .goto 9, .iconst 0, .putstatic 0, .iconst 0, .istore 3, .iconst 0, .istore 4, .iload 4, .aload 0, .getfield 10, .if_icmp .ge 47, .iload 4, .iconst 16, .if_icmp .ge 47, .aload 0, .dload 9, .iload 4, .laload, .lload 1, .lcmp, .ifCond .le 45, .aload 0, .dload 8, .iload 3, .aload 0, .dload 8, .iload 4, .iaload, .iastore, .aload 0, .dload 9, .iload 3, .aload 0, .dload 9, .iload 4, .laload, .lastore, .iinc 3 1, .iinc 4 1, .goto 14, .aload 0, .iload 3, .putfield 10, .iconst 0, .istore 3, .iconst 0, .istore 4, .iload 4, .aload 0, .getfield 15, .if_icmp .ge 103, .iload 4, .iconst 8, .if_icmp .ge 103, .aload 0, .dload 14, .iload 4, .laload, .lload 1, .lcmp, .ifCond .le 101, .aload 0, .dload 11, .iload 3, .aload 0, .dload 11, .iload 4, .iaload, .iastore, .aload 0, .dload 12, .iload 3, .aload 0, .dload 12, .iload 4, .iaload, .iastore, .aload 0, .dload 13, .iload 3, .aload 0, .dload 13, .iload 4, .iaload, .iastore, .aload 0, .dload 14, .iload 3, .aload 0, .dload 14, .iload 4, .laload, .lastore, .iinc 3 1, .iinc 4 1, .goto 54, .aload 0, .iload 3, .putfield 15, .return_]
noncomputable def am_c7 : List Instr := [.iconst 0, .istore 2, .iload 2, .aload 0, .getfield 10, .if_icmp .ge 19, .iload 2, .iconst 16, .if_icmp .ge 19, .aload 0, .dload 8, .iload 2, .iaload, .iload 1, .if_icmp .ne 17, .iload 2, .ireturn, .iinc 2 1, .goto 2, .iconst (-1), .ireturn]
noncomputable def am_c8 : List Instr := [.aload 0, .iload 1, .invokevirtual 7, .iconst (-1), .if_icmp .eq 7, .iconst 1, .goto 8, .iconst 0, .ireturn]
noncomputable def am_c9 : List Instr := [.iconst 0, .istore 3, .iconst 0, .istore 4, .iload 4, .iload 2, .if_icmp .ge 21, .iload 4, .aload 1, .arraylength, .if_icmp .ge 21, .aload 0, .aload 1, .iload 4, .iaload, .invokevirtual 7, .iconst (-1), .if_icmp .ne 19, .iinc 3 1, .iinc 4 1, .goto 4, .aload 0, .getfield 10, .iload 3, .iadd, .iconst 16, .if_icmp .gt 29, .iconst 1, .goto 30, .iconst 0, .ireturn]
noncomputable def am_c10 : List Instr := [.aload 0, .iload 1, .invokevirtual 7, .istore 4, .iload 4, .iconst (-1), .if_icmp .ne 20, .aload 0, .getfield 10, .iconst 16, .if_icmp .ge 20, .aload 0, .getfield 10, .istore 4, .aload 0, .dup, .getfield 10, .iconst 1, .iadd, .putfield 10, .iload 4, .iconst (-1), .if_icmp .eq 33, .aload 0, .dload 8, .iload 4, .iload 1, .iastore, .aload 0, .dload 9, .iload 4, .lload 2, .lastore, .return_]
noncomputable def am_c11 : List Instr := [.aload 0, .iload 1, .invokevirtual 7, .istore 4, .iload 4, .iconst (-1), .if_icmp .ne 9, .iconst 0, .goto 16, .aload 0, .dload 9, .iload 4, .laload, .lload 2, .lsub, .l2i, .ireturn]
noncomputable def am_c12 : List Instr := [.iconst 0, .istore 2, .iload 2, .aload 0, .getfield 15, .if_icmp .ge 19, .iload 2, .iconst 8, .if_icmp .ge 19, .aload 0, .dload 11, .iload 2, .iaload, .iload 1, .if_icmp .ne 17, .iload 2, .ireturn, .iinc 2 1, .goto 2, .iconst (-1), .ireturn]
noncomputable def am_c13 : List Instr := [.iconst 0, .istore 3, .iload 3, .aload 0, .getfield 15, .if_icmp .ge 25, .iload 3, .iconst 8, .if_icmp .ge 25, .aload 0, .dload 12, .iload 3, .iaload, .iload 1, .if_icmp .ne 23, .aload 0, .dload 13, .iload 3, .iaload, .iload 2, .if_icmp .ne 23, .iload 3, .ireturn, .iinc 3 1, .goto 2, .iconst (-1), .ireturn]
noncomputable def am_c14 : List Instr := [.aload 0, .iload 1, .invokevirtual 12, .iconst (-1), .if_icmp .ne 9, .aload 0, .getfield 15, .iconst 8, .if_icmp .ge 20, .aload 0, .iload 2, .invokevirtual 7, .iconst (-1), .if_icmp .ne 18, .aload 0, .getfield 10, .iconst 16, .if_icmp .ge 20, .iconst 1, .goto 21, .iconst 0, .ireturn]
noncomputable def am_c15 : List Instr := [.aload 0, .iload 1, .invokevirtual 12, .istore 6, .iload 6, .iconst (-1), .if_icmp .ne 20, .aload 0, .getfield 15, .iconst 8, .if_icmp .ge 20, .aload 0, .getfield 15, .istore 6, .aload 0, .dup, .getfield 15, .iconst 1, .iadd, .putfield 15, .iload 6, .iconst (-1), .if_icmp .eq 43, .aload 0, .dload 11, .iload 6, .iload 1, .iastore, .aload 0, .dload 12, .iload 6, .iload 2, .iastore, .aload 0, .dload 13, .iload 6, .iload 3, .iastore, .aload 0, .dload 14, .iload 6, .lload 4, .lastore, .return_]
noncomputable def am_c16 : List Instr := [.aload 0, .iload 1, .invokevirtual 12, .istore 4, .iload 4, .iconst (-1), .if_icmp .ne 9, .iconst 0, .goto 16, .aload 0, .dload 14, .iload 4, .laload, .lload 2, .lsub, .l2i, .ireturn]
noncomputable def am_c17 : List Instr := [.iload 1, .ifCond .lt 10, .iload 1, .iconst 8, .if_icmp .ge 10, .aload 0, .dload 11, .iload 1, .iaload, .goto 11, .iconst 0, .ireturn]
noncomputable def am_c18 : List Instr := [.iload 1, .ifCond .lt 10, .iload 1, .iconst 8, .if_icmp .ge 10, .aload 0, .dload 12, .iload 1, .iaload, .goto 11, .iconst 0, .ireturn]
noncomputable def am_c19 : List Instr := [.iload 1, .ifCond .lt 10, .iload 1, .iconst 8, .if_icmp .ge 10, .aload 0, .dload 13, .iload 1, .iaload, .goto 11, .iconst 0, .ireturn]
noncomputable def am_c20 : List Instr := [.iload 1, .lookupswitch 24 #[(0, 2), (1, 5), (2, 8), (3, 11), (4, 14), (5, 18), (6, 21)], .aload 0, .getfield 1, .ireturn, .aload 0, .getfield 2, .ireturn, .aload 0, .getfield 3, .ireturn, .aload 0, .getfield 4, .ireturn, .aload 0, .lload 2, .invokevirtual 5, .ireturn, .aload 0, .getfield 10, .ireturn, .aload 0, .getfield 15, .ireturn, .iconst (-1), .ireturn]
noncomputable def am_c21 : List Instr := [.aload 0, .monitorexit, .aload 0, .iconst 8, .anewarray 54, .dstore 100, .iconst 0, .istore 1, .iload 1, .iconst 8, .if_icmp .ge 20, .aload 0, .dload 100, .iload 1, .new 16, .dup, .invokespecial 1, .aastore, .iinc 1 1, .goto 8, .return_]
noncomputable def am_c22 : List Instr := [.aload 0, .fload 101, .lreturn]
noncomputable def am_c23 : List Instr := [.aload 0, .dup, .fload 101, .iload 1, .i2l, .ladd, .fstore 101, .aload 0, .invokevirtual 24, .istore 2, .iconst 0, .istore 3, .iload 3, .iconst 8, .if_icmp .ge 30, .aload 0, .dload 100, .iload 3, .aaload, .getfield 0, .ifCond .eq 28, .aload 0, .dload 100, .iload 3, .aaload, .aload 0, .fload 101, .invokevirtual 6, .iinc 3 1, .goto 12, .iload 2, .aload 0, .invokevirtual 24, .isub, .ireturn]
noncomputable def am_c24 : List Instr := [.iconst 0, .istore 1, .iconst 0, .istore 2, .iload 2, .iconst 8, .if_icmp .ge 16, .aload 0, .dload 100, .iload 2, .aaload, .getfield 0, .ifCond .eq 14, .iinc 1 1, .iinc 2 1, .goto 4, .iload 1, .ireturn]
noncomputable def am_c25 : List Instr := [.iconst 0, .istore 2, .iconst 0, .istore 3, .iload 3, .iconst 8, .if_icmp .ge 23, .aload 0, .dload 100, .iload 3, .aaload, .getfield 0, .ifCond .eq 21, .aload 0, .dload 100, .iload 3, .aaload, .getfield 3, .iload 1, .if_icmp .ne 21, .iinc 2 1, .iinc 3 1, .goto 4, .iload 2, .ireturn]
noncomputable def am_c26 : List Instr := [.iload 1, .ifCond .lt 16, .iload 1, .iconst 8, .if_icmp .ge 16, .aload 0, .dload 100, .iload 1, .aaload, .getfield 0, .ifCond .eq 16, .aload 0, .dload 100, .iload 1, .aaload, .goto 17, .aconst_null, .areturn]
noncomputable def am_c27 : List Instr := [.iconst 0, .istore 3, .iload 3, .iconst 8, .if_icmp .ge 25, .aload 0, .dload 100, .iload 3, .aaload, .astore 4, .aload 4, .getfield 0, .ifCond .eq 23, .aload 4, .getfield 1, .iload 1, .if_icmp .ne 23, .aload 4, .getfield 2, .iload 2, .if_icmp .ne 23, .aload 4, .areturn, .iinc 3 1, .goto 2, .aconst_null, .areturn]
noncomputable def am_c28 : List Instr := [.iconst 0, .istore 2, .iload 2, .iconst 8, .if_icmp .ge 25, .aload 0, .dload 100, .iload 2, .aaload, .getfield 0, .ifCond .eq 23, .aload 0, .dload 100, .iload 2, .aaload, .getfield 4, .iload 1, .if_icmp .ne 23, .aload 0, .dload 100, .iload 2, .aaload, .areturn, .iinc 2 1, .goto 2, .aconst_null, .areturn]
noncomputable def am_c29 : List Instr := [.iconst 0, .istore 1, .iload 1, .iconst 8, .if_icmp .ge 18, .aload 0, .dload 100, .iload 1, .aaload, .getfield 0, .ifCond .ne 16, .aload 0, .dload 100, .iload 1, .aaload, .areturn, .iinc 1 1, .goto 2, .aconst_null, .areturn]
noncomputable def am_c30 : List Instr := [.iconst 49152, .istore 1, .iconst 0, .istore 2, .iload 2, .iconst 8, .if_icmp .ge 14, .aload 0, .iload 1, .invokevirtual 28, .ifnull 14, .iinc 1 1, .iinc 2 1, .goto 4, .iload 1, .ireturn]
noncomputable def am_c31 : List Instr := [.aload 0, .monitorexit, .aload 0, .iconst 4, .anewarray 50, .dstore 200, .aload 0, .iconst 4, .anewarray 50, .dstore 201, .return_]
noncomputable def am_c32 : List Instr := [.aload 0, .getfield 202, .iconst 4, .if_icmp .lt 6, .iconst (-1), .ireturn, .aload 0, .dload 200, .aload 0, .getfield 202, .iload 1, .iastore, .aload 0, .dload 201, .aload 0, .getfield 202, .iload 2, .ifCond .ne 20, .iconst 0, .goto 25, .iconst (-1), .iconst 32, .iload 2, .isub, .ishl, .iastore, .aload 0, .dup, .getfield 202, .iconst 1, .iadd, .putfield 202, .aload 0, .getfield 202, .ireturn]
noncomputable def am_c33 : List Instr := [.iconst 0, .istore 2, .iload 2, .aload 0, .getfield 202, .if_icmp .ge 25, .iload 2, .iconst 4, .if_icmp .ge 25, .iload 1, .aload 0, .dload 200, .iload 2, .iaload, .ixor, .aload 0, .dload 201, .iload 2, .iaload, .iand, .ifCond .ne 23, .iconst 1, .ireturn, .iinc 2 1, .goto 2, .iconst 0, .ireturn]
noncomputable def am_c34 : List Instr := [.aload 0, .monitorexit, .aload 0, .iconst 104, .anewarray 50, .dstore 301, .aload 0, .iconst 104, .anewarray 50, .dstore 302, .aload 0, .iconst 104, .anewarray 50, .dstore 303, .aload 0, .iconst 104, .anewarray 53, .dstore 304, .aload 0, .aload 1, .dstore 300, .return_]
noncomputable def am_c35 : List Instr := [.aload 0, .iconst 0, .putfield 306, .aload 0, .iconst (-1), .putfield 307, .aload 0, .iconst (-1), .putfield 308, .aload 0, .aload 0, .dload 300, .invokevirtual 82, .iconst 20, .if_icmp .lt 47, .aload 0, .dload 300, .iconst 0, .invokevirtual 84, .iconst 64, .if_icmp .ge 47, .aload 0, .dload 300, .iconst 2, .iconst 2, .invokevirtual 90, .aload 0, .dload 300, .invokevirtual 82, .iconst 20, .isub, .i2l, .lcmp, .ifCond .ne 47, .aload 0, .dload 300, .iconst 4, .iconst 4, .invokevirtual 90, .goto_w 554869826, .lcmp, .ifCond .ne 47, .aload 0, .invokevirtual 36, .ifCond .eq 47, .iconst 1, .goto 48, .iconst 0, .putstatic 305, .aload 0, .getfield 305, .ifCond .ne 55, .aload 0, .iconst 0, .putfield 306, .aload 0, .aload 0, .getfield 307, .iconst (-1), .if_icmp .ne 63, .aload 0, .getfield 306, .goto 70, .aload 0, .getfield 306, .aload 0, .getfield 307, .iconst 1, .iadd, .invokeinterface 1 0, .putfield 309, .aload 0, .getfield 305, .ireturn]
noncomputable def am_c36 : List Instr := [.iconst 20, .istore 1, .iconst 0, .istore 2, .iload 2, .iconst 104, .if_icmp .ge 118, .iload 1, .iconst 4, .iadd, .aload 0, .dload 300, .invokevirtual 82, .if_icmp .gt 118, .aload 0, .dload 301, .iload 2, .aload 0, .dload 300, .iload 1, .iconst 2, .invokevirtual 90, .l2i, .iastore, .aload 0, .dload 302, .iload 2, .aload 0, .dload 300, .iload 1, .iconst 2, .iadd, .iconst 2, .invokevirtual 90, .l2i, .iastore, .aload 0, .dload 303, .iload 2, .iload 1, .iconst 4, .iadd, .iastore, .aload 0, .dload 304, .iload 2, .aload 0, .dload 301, .iload 2, .iaload, .aload 0, .dload 302, .iload 2, .iaload, .aload 0, .dload 300, .aload 0, .dload 303, .iload 2, .iaload, .iconst 1, .iadd, .invokevirtual 84, .invokestatic 37, .castore, .aload 0, .dload 304, .iload 2, .caload, .ifCond .eq 83, .aload 0, .dload 301, .iload 2, .iaload, .iconst 28, .if_icmp .ne 83, .aload 0, .getfield 307, .iconst (-1), .if_icmp .ne 83, .aload 0, .iload 2, .putfield 307, .aload 0, .dload 304, .iload 2, .caload, .ifCond .eq 101, .aload 0, .dload 301, .iload 2, .iaload, .iconst 32808, .if_icmp .ne 101, .aload 0, .getfield 308, .iconst (-1), .if_icmp .ne 101, .aload 0, .iload 2, .putfield 308, .aload 0, .iload 2, .iconst 1, .iadd, .putfield 306, .iload 1, .iconst 4, .aload 0, .dload 302, .iload 2, .iaload, .invokestatic 58, .iadd, .iadd, .istore 1, .iinc 2 1, .goto 4, .iload 1, .aload 0, .dload 300, .invokevirtual 82, .if_icmp .ne 125, .iconst 1, .goto 126, .iconst 0, .ireturn]
noncomputable def am_c37 : List Instr := [.iload 0, .lookupswitch 51 #[(6, 2), (9, 29), (10, 36), (12, 29), (13, 29), (18, 19), (20, 2), (21, 12), (22, 19), (25, 29), (28, 44), (32, 19), (32808, 29)], .iload 1, .iconst 1, .if_icmp .lt 10, .iload 1, .iconst 8, .if_icmp .gt 10, .iconst 1, .goto 11, .iconst 0, .ireturn, .iload 1, .iconst 8, .if_icmp .ne 17, .iconst 1, .goto 18, .iconst 0, .ireturn, .iload 1, .iconst 8, .if_icmp .ne 27, .iload 2, .iconst 1, .if_icmp .ne 27, .iconst 1, .goto 28, .iconst 0, .ireturn, .iload 1, .iconst 4, .if_icmp .ne 34, .iconst 1, .goto 35, .iconst 0, .ireturn, .iload 1, .iconst 2, .irem, .ifCond .ne 42, .iconst 1, .goto 43, .iconst 0, .ireturn, .iload 1, .iconst 32, .if_icmp .ne 49, .iconst 1, .goto 50, .iconst 0, .ireturn, .iconst 1, .ireturn]
noncomputable def am_c38 : List Instr := [.iconst 0, .istore 2, .iload 2, .aload 0, .getfield 309, .if_icmp .ge 21, .aload 0, .dload 301, .iload 2, .iaload, .iload 1, .if_icmp .ne 19, .aload 0, .dload 304, .iload 2, .caload, .ifCond .eq 19, .iload 2, .ireturn, .iinc 2 1, .goto 2, .iconst (-1), .ireturn]
noncomputable def am_c39 : List Instr := [.aload 0, .getfield 305, .ireturn]
noncomputable def am_c40 : List Instr := [.aload 0, .getfield 306, .ireturn]
noncomputable def am_c41 : List Instr := [.aload 0, .dload 300, .iconst 0, .iconst 2, .invokevirtual 90, .l2i, .istore 1, .iload 1, .iconst 15, .iand, .iload 1, .iconst 1, .ishr, .iconst 112, .iand, .ior, .iload 1, .iconst 2, .ishr, .iconst 3968, .iand, .ior, .ireturn]
noncomputable def am_c42 : List Instr := [.aload 0, .dload 300, .iconst 0, .iconst 2, .invokevirtual 90, .l2i, .istore 1, .iload 1, .iconst 4, .ishr, .iconst 1, .iand, .iload 1, .iconst 7, .ishr, .iconst 2, .iand, .ior, .ireturn]
noncomputable def am_c43 : List Instr := [.iload 1, .ifCond .lt 11, .iload 1, .aload 0, .getfield 306, .if_icmp .ge 11, .aload 0, .dload 302, .iload 1, .iaload, .goto 12, .iconst 0, .ireturn]
noncomputable def am_c44 : List Instr := [.iload 1, .ifCond .lt 11, .iload 1, .aload 0, .getfield 306, .if_icmp .ge 11, .aload 0, .dload 303, .iload 1, .iaload, .goto 12, .iconst 0, .ireturn]
noncomputable def am_c45 : List Instr := [.aload 0, .dload 300, .aload 0, .iload 1, .invokevirtual 44, .iconst 8, .aload 0, .iload 1, .invokevirtual 43, .invokeinterface 1 0, .invokevirtual 90, .lreturn]
noncomputable def am_c46 : List Instr := [.aload 0, .dload 300, .aload 0, .iload 1, .invokevirtual 44, .iconst 4, .iadd, .iconst 4, .invokevirtual 90, .l2i, .iconst 554869826, .ixor, .ireturn]
noncomputable def am_c47 : List Instr := [.aload 0, .dload 300, .aload 0, .iload 1, .invokevirtual 44, .iconst 2, .iadd, .iconst 2, .invokevirtual 90, .l2i, .iconst 8466, .ixor, .ireturn]
noncomputable def am_c48 : List Instr := [.aload 0, .getfield 308, .iconst (-1), .if_icmp .eq 6, .iconst 1, .goto 7, .iconst 0, .ireturn]
noncomputable def am_c49 : List Instr := [.aload 0, .getfield 308, .iconst (-1), .if_icmp .ne 6, .iconst 0, .ireturn, .aload 0, .aload 0, .getfield 308, .invokevirtual 44, .iconst 4, .isub, .istore 1, .aload 0, .getfield 308, .aload 0, .getfield 306, .iconst 1, .isub, .if_icmp .ne 30, .aload 0, .aload 0, .getfield 308, .invokevirtual 45, .l2i, .aload 0, .dload 300, .iload 1, .invokestatic 59, .if_icmp .eq 32, .iconst 1, .goto 33, .iconst 0, .ireturn]
noncomputable def am_c50 : List Instr := [.iconst 0, .istore 2, .iconst 0, .istore 3, .iload 3, .aload 0, .getfield 309, .if_icmp .ge 36, .iload 2, .aload 1, .arraylength, .if_icmp .ge 36, .aload 0, .dload 301, .iload 3, .iaload, .invokestatic 53, .ifCond .eq 34, .aload 1, .iload 2, .aload 0, .dload 301, .iload 3, .iaload, .invokestatic 52, .ifCond .ne 34, .aload 1, .iload 2, .aload 0, .dload 301, .iload 3, .iaload, .iastore, .iinc 2 1, .iinc 3 1, .goto 4, .iload 2, .ireturn]
noncomputable def am_c51 : List Instr := [.iconst 0, .istore 2, .iconst 0, .istore 3, .iload 3, .aload 0, .getfield 309, .if_icmp .ge 49, .iload 2, .aload 1, .arraylength, .if_icmp .ge 49, .aload 0, .dload 301, .iload 3, .iaload, .iconst 18, .if_icmp .ne 47, .aload 0, .dload 304, .iload 3, .caload, .ifCond .eq 47, .aload 0, .dload 300, .aload 0, .dload 303, .iload 3, .iaload, .iconst 4, .iadd, .iconst 4, .invokevirtual 90, .l2i, .iconst 554869826, .ixor, .istore 4, .aload 1, .iload 2, .iload 4, .invokestatic 52, .ifCond .ne 47, .aload 1, .iload 2, .iload 4, .iastore, .iinc 2 1, .iinc 3 1, .goto 4, .iload 2, .ireturn]
noncomputable def am_c52 : List Instr := [.iconst 0, .istore 3, .iload 3, .iload 1, .if_icmp .ge 18, .iload 3, .aload 0, .arraylength, .if_icmp .ge 18, .aload 0, .iload 3, .iaload, .iload 2, .if_icmp .ne 16, .iconst 1, .ireturn, .iinc 3 1, .goto 2, .iconst 0, .ireturn]
noncomputable def am_c53 : List Instr := [.iload 0, .lookupswitch 4 #[(6, 2), (7, 4), (8, 4), (9, 2), (10, 2), (11, 4), (12, 2), (13, 2), (14, 4), (15, 4), (16, 4), (17, 4), (18, 2), (19, 2), (20, 2), (21, 2), (22, 2), (23, 4), (24, 4), (25, 2), (26, 4), (27, 4), (28, 2), (29, 4), (30, 4), (31, 4), (32, 2)], .iconst 0, .ireturn, .iload 0, .iconst 32768, .if_icmp .ge 9, .iconst 1, .goto 10, .iconst 0, .ireturn]
noncomputable def am_c54 : List Instr := [.iload 1, .ifCond .lt 6, .iload 1, .aload 0, .getfield 306, .if_icmp .lt 8, .iconst (-1), .ireturn, .iload 2, .lookupswitch 77 #[(0, 10), (1, 15), (2, 20), (3, 25), (4, 40), (5, 50), (6, 60)], .aload 0, .dload 301, .iload 1, .iaload, .ireturn, .aload 0, .dload 302, .iload 1, .iaload, .ireturn, .aload 0, .dload 303, .iload 1, .iaload, .ireturn, .aload 0, .dload 300, .aload 0, .dload 303, .iload 1, .iaload, .iconst 4, .aload 0, .dload 302, .iload 1, .iaload, .invokeinterface 1 0, .invokevirtual 90, .l2i, .ireturn, .aload 0, .iload 1, .invokevirtual 55, .ifCond .eq 48, .aload 0, .iload 1, .invokevirtual 47, .goto 49, .iconst 0, .ireturn, .aload 0, .iload 1, .invokevirtual 55, .ifCond .eq 58, .aload 0, .iload 1, .invokevirtual 46, .goto 59, .iconst 0, .ireturn, .aload 0, .dload 301, .iload 1, .iaload, .iconst 9, .if_icmp .ne 75, .aload 0, .dload 304, .iload 1, .caload, .ifCond .eq 75, .aload 0, .iload 1, .invokevirtual 56, .goto 76, .iconst 0, .ireturn, .iconst (-1), .ireturn]
noncomputable def am_c55 : List Instr := [.aload 0, .dload 301, .iload 1, .iaload, .iconst 18, .if_icmp .eq 18, .aload 0, .dload 301, .iload 1, .iaload, .iconst 22, .if_icmp .eq 18, .aload 0, .dload 301, .iload 1, .iaload, .iconst 32, .if_icmp .ne 25, .aload 0, .dload 304, .iload 1, .caload, .ifCond .eq 25, .iconst 1, .goto 26, .iconst 0, .ireturn]
noncomputable def am_c56 : List Instr := [.aload 0, .dload 300, .aload 0, .dload 303, .iload 1, .iaload, .iconst 2, .iadd, .invokevirtual 84, .iconst 100, .imul, .aload 0, .dload 300, .aload 0, .dload 303, .iload 1, .iaload, .iconst 3, .iadd, .invokevirtual 84, .iadd, .ireturn]
noncomputable def am_c57 : List Instr := [.aload 0, .monitorexit, .aload 0, .aload 1, .dstore 400, .aload 0, .aload 2, .dstore 401, .return_]
noncomputable def am_c58 : List Instr := [.iload 0, .iconst 3, .iadd, .iconst (-4), .iand, .ireturn]
noncomputable def am_c59 : List Instr := [.iconst (-1), .istore 2, .iconst 0, .istore 3, .iload 3, .iload 1, .if_icmp .ge 37, .iload 2, .aload 0, .iload 3, .invokevirtual 84, .iconst 255, .iand, .ixor, .istore 2, .iload 2, .iconst 4, .iushr, .getstatic 2, .iload 2, .iconst 15, .iand, .iaload, .ixor, .istore 2, .iload 2, .iconst 4, .iushr, .getstatic 2, .iload 2, .iconst 15, .iand, .iaload, .ixor, .istore 2, .iinc 3 1, .goto 4, .iload 2, .iconst (-1), .ixor, .iconst 1398035790, .ixor, .ireturn]
noncomputable def am_c60 : List Instr := [.iload 0, .iconst 15, .iand, .iload 1, .iconst 1, .iand, .iconst 4, .ishl, .ior, .iload 0, .iconst 112, .iand, .iconst 1, .ishl, .ior, .iload 1, .iconst 2, .iand, .iconst 7, .ishl, .ior, .iload 0, .iconst 3968, .iand, .iconst 2, .ishl, .ior, .ireturn]
noncomputable def am_c61 : List Instr := [.iload 1, .ifCond .lt 30, .iload 1, .iconst 65535, .if_icmp .gt 30, .aload 0, .dload 400, .invokevirtual 82, .iconst 20, .if_icmp .lt 30, .aload 0, .dload 400, .invokevirtual 82, .iconst 4, .irem, .ifCond .ne 30, .aload 0, .dload 400, .invokevirtual 82, .iconst 4, .iadd, .iload 2, .invokestatic 58, .iadd, .aload 0, .dload 400, .invokevirtual 83, .if_icmp .gt 30, .iconst 1, .goto 31, .iconst 0, .ireturn]
noncomputable def am_c62 : List Instr := [.aload 0, .dload 400, .iconst 0, .invokevirtual 86, .aload 0, .dload 400, .iload 1, .i2l, .iconst 2, .invokevirtual 87, .aload 0, .dload 400, .goto_w 0, .iconst 2, .invokevirtual 87, .aload 0, .dload 400, .goto_w 554869826, .iconst 4, .invokevirtual 87, .aload 0, .dload 400, .iload 2, .i2l, .iconst 4, .invokevirtual 87, .aload 0, .dload 400, .iload 3, .i2l, .iconst 4, .invokevirtual 87, .aload 0, .dload 400, .iload 4, .i2l, .iconst 4, .invokevirtual 87, .return_]
noncomputable def am_c63 : List Instr := [.aload 0, .dload 400, .invokevirtual 82, .iconst 4, .iadd, .iload 2, .invokestatic 58, .iadd, .iconst 20, .isub, .istore 3, .aload 0, .dload 400, .iconst 2, .iload 3, .iconst 8, .ishr, .invokevirtual 85, .aload 0, .dload 400, .iconst 3, .iload 3, .invokevirtual 85, .aload 0, .dload 400, .iload 1, .i2l, .iconst 2, .invokevirtual 87, .aload 0, .dload 400, .iload 2, .i2l, .iconst 2, .invokevirtual 87, .return_]
noncomputable def am_c64 : List Instr := [.aload 0, .dload 400, .iload 1, .invokestatic 58, .iload 1, .isub, .invokevirtual 88, .return_]
noncomputable def am_c65 : List Instr := [.aload 0, .iload 1, .iload 4, .invokevirtual 63, .aload 0, .dload 400, .lload 2, .iload 4, .invokevirtual 87, .aload 0, .iload 4, .invokevirtual 64, .return_]
noncomputable def am_c66 : List Instr := [.lload 2, .invokestatic 125, .lload 4, .invokestatic 125, .iadd, .istore 6, .aload 0, .iload 1, .iload 6, .invokevirtual 63, .aload 0, .dload 400, .lload 2, .lload 2, .invokestatic 125, .invokevirtual 87, .aload 0, .dload 400, .lload 4, .lload 4, .invokestatic 125, .invokevirtual 87, .aload 0, .iload 6, .invokevirtual 64, .return_]
noncomputable def am_c67 : List Instr := [.aload 0, .iload 1, .iconst 8, .invokevirtual 63, .aload 0, .dload 400, .goto_w 1, .iconst 2, .invokevirtual 87, .aload 0, .dload 400, .iload 3, .iconst 8466, .ixor, .i2l, .iconst 2, .invokevirtual 87, .aload 0, .dload 400, .iload 2, .iconst 554869826, .ixor, .i2l, .iconst 4, .invokevirtual 87, .return_]
noncomputable def am_c68 : List Instr := [.aload 0, .iconst 10, .iconst 2, .iload 2, .imul, .invokevirtual 63, .iconst 0, .istore 3, .iload 3, .iload 2, .if_icmp .ge 25, .iload 3, .aload 1, .arraylength, .if_icmp .ge 25, .aload 0, .dload 400, .aload 1, .iload 3, .iaload, .i2l, .iconst 2, .invokevirtual 87, .iinc 3 1, .goto 8, .aload 0, .iconst 2, .iload 2, .imul, .invokevirtual 64, .return_]
noncomputable def am_c69 : List Instr := [.aload 0, .iconst 19, .aload 1, .invokevirtual 82, .invokevirtual 63, .aload 0, .dload 400, .aload 1, .iconst 0, .aload 1, .invokevirtual 82, .invokevirtual 89, .aload 0, .aload 1, .invokevirtual 82, .invokevirtual 64, .return_]
noncomputable def am_c70 : List Instr := [.aload 0, .dload 401, .aload 0, .dload 400, .aload 0, .dload 400, .invokevirtual 82, .invokevirtual 93, .aload 0, .iconst 28, .iconst 32, .invokevirtual 63, .aload 0, .dload 401, .aload 0, .dload 400, .invokevirtual 96, .return_]
noncomputable def am_c71 : List Instr := [.aload 0, .dload 400, .invokevirtual 82, .istore 1, .aload 0, .iconst 32808, .iconst 4, .invokevirtual 63, .aload 0, .dload 400, .aload 0, .dload 400, .iload 1, .invokestatic 59, .i2l, .iconst 4, .invokevirtual 87, .return_]
noncomputable def am_c72 : List Instr := [.aload 0, .monitorexit, .aload 0, .new 602, .dup, .iconst 436, .invokespecial 267, .dstore 500, .aload 0, .new 310, .dup, .aload 0, .dload 500, .invokespecial 34, .dstore 501, .aload 0, .iconst 10, .anewarray 50, .dstore 502, .return_]
noncomputable def am_c73 : List Instr := [.aload 0, .dload 500, .areturn]
noncomputable def am_c74 : List Instr := [.aload 0, .dload 501, .areturn]
noncomputable def am_c75 : List Instr := [.aload 0, .iconst 0, .putstatic 503, .aload 0, .dload 500, .iconst 0, .invokevirtual 86, .return_]
noncomputable def am_c76 : List Instr := [.aload 0, .iconst 1, .putstatic 503, .aload 0, .iload 1, .putfield 504, .aload 0, .iload 2, .putfield 505, .aload 0, .iload 3, .putfield 506, .aload 0, .iconst 4, .invokevirtual 78, .return_]
noncomputable def am_c77 : List Instr := [.aload 0, .dload 501, .invokevirtual 35, .pop, .aload 0, .getfield 503, .ifCond .ne 10, .aload 0, .iconst 9, .invokevirtual 78, .aload 0, .getfield 503, .ifCond .eq 15, .iconst 1, .goto 16, .iconst 0, .ireturn]
noncomputable def am_c78 : List Instr := [.iload 1, .ifCond .lt 15, .iload 1, .aload 0, .dload 502, .arraylength, .if_icmp .ge 15, .aload 0, .dload 502, .iload 1, .dup2, .iaload, .iconst 1, .iadd, .iastore, .return_]
noncomputable def am_c79 : List Instr := [.iload 1, .iconst 4, .if_icmp .lt 11, .iload 1, .iconst 9, .if_icmp .gt 11, .aload 0, .dload 502, .iload 1, .iaload, .goto 12, .iconst (-1), .ireturn]
noncomputable def am_c80 : List Instr := [.iload 1, .ifCond .lt 5, .iload 1, .iconst 6, .if_icmp .le 7, .iconst (-1), .ireturn, .aload 0, .getfield 503, .ifCond .ne 12, .iconst 0, .ireturn, .iload 1, .lookupswitch 47 #[(0, 14), (1, 18), (2, 21), (3, 24), (4, 27), (5, 37)], .aload 0, .dload 500, .invokevirtual 82, .ireturn, .aload 0, .getfield 504, .ireturn, .aload 0, .getfield 505, .ireturn, .aload 0, .getfield 506, .ireturn, .aload 0, .dload 501, .invokevirtual 39, .ifCond .eq 35, .aload 0, .dload 501, .invokevirtual 41, .goto 36, .iconst (-1), .ireturn, .aload 0, .dload 501, .invokevirtual 39, .ifCond .eq 45, .aload 0, .dload 501, .invokevirtual 42, .goto 46, .iconst (-1), .ireturn, .aload 0, .dload 501, .invokevirtual 40, .ireturn]
noncomputable def am_c81 : List Instr := [.aload 0, .monitorexit, .aload 0, .iconst 0, .iload 1, .invokeinterface 0 0, .anewarray 52, .dstore 600, .return_]
noncomputable def am_c82 : List Instr := [.aload 0, .getfield 601, .ireturn]
noncomputable def am_c83 : List Instr := [.aload 0, .dload 600, .arraylength, .ireturn]
noncomputable def am_c84 : List Instr := [.iload 1, .ifCond .lt 13, .iload 1, .aload 0, .getfield 601, .if_icmp .ge 13, .aload 0, .dload 600, .iload 1, .baload, .iconst 255, .iand, .goto 14, .iconst (-1), .ireturn]
noncomputable def am_c85 : List Instr := [.iload 1, .ifCond .lt 12, .iload 1, .aload 0, .getfield 601, .if_icmp .ge 12, .aload 0, .dload 600, .iload 1, .iload 2, .i2b, .bastore, .return_]
noncomputable def am_c86 : List Instr := [.iload 1, .ifCond .lt 9, .iload 1, .aload 0, .getfield 601, .if_icmp .ge 9, .aload 0, .iload 1, .putfield 601, .return_]
noncomputable def am_c87 : List Instr := [.iconst 8, .iload 3, .iconst 1, .isub, .imul, .istore 4, .iload 4, .ifCond .lt 32, .aload 0, .getfield 601, .aload 0, .dload 600, .arraylength, .if_icmp .ge 30, .aload 0, .dload 600, .aload 0, .getfield 601, .lload 1, .iload 4, .lushr, .l2i, .i2b, .bastore, .aload 0, .dup, .getfield 601, .iconst 1, .iadd, .putfield 601, .iinc 4 (-8), .goto 6, .return_]
noncomputable def am_c88 : List Instr := [.iconst 0, .istore 2, .iload 2, .iload 1, .if_icmp .ge 25, .aload 0, .getfield 601, .aload 0, .dload 600, .arraylength, .if_icmp .ge 25, .aload 0, .dload 600, .aload 0, .getfield 601, .iconst 0, .bastore, .aload 0, .dup, .getfield 601, .iconst 1, .iadd, .putfield 601, .iinc 2 1, .goto 2, .return_]
noncomputable def am_c89 : List Instr := [.iload 2, .ifCond .lt 33, .iload 3, .ifCond .lt 33, .iload 2, .iload 3, .iadd, .aload 1, .getfield 601, .if_icmp .gt 33, .aload 0, .getfield 601, .iload 3, .iadd, .aload 0, .dload 600, .arraylength, .if_icmp .gt 33, .aload 1, .dload 600, .iload 2, .aload 0, .dload 600, .aload 0, .getfield 601, .iload 3, .invokedynamic 0, .aload 0, .dup, .getfield 601, .iload 3, .iadd, .putfield 601, .return_]
noncomputable def am_c90 : List Instr := [.goto_w 0, .lstore 3, .iload 1, .istore 5, .iload 5, .iload 1, .iload 2, .iadd, .if_icmp .ge 31, .lload 3, .iconst 8, .lshl, .iload 5, .ifCond .lt 25, .iload 5, .aload 0, .getfield 601, .if_icmp .ge 25, .aload 0, .dload 600, .iload 5, .baload, .iconst 255, .iand, .goto 26, .iconst 0, .i2l, .lor, .lstore 3, .iinc 5 1, .goto 4, .lload 3, .lreturn]
noncomputable def am_c91 : List Instr := [.aload 0, .monitorexit, .aload 0, .new 902, .dup, .invokespecial 119, .dstore 700, .aload 0, .new 602, .dup, .iconst 572, .invokespecial 268, .dstore 701, .aload 0, .new 602, .dup, .iconst 32, .invokespecial 269, .dstore 702, .aload 0, .new 602, .dup, .iconst 32, .invokespecial 269, .dstore 703, .return_]
noncomputable def am_c92 : List Instr := [.aload 0, .dload 701, .iconst 0, .invokevirtual 86, .aload 0, .dload 701, .lload 1, .lload 1, .invokestatic 125, .invokevirtual 87, .aload 0, .dload 701, .goto_w 58, .iconst 1, .invokevirtual 87, .aload 0, .dload 701, .lload 3, .lload 3, .invokestatic 125, .invokevirtual 87, .aload 0, .dload 701, .goto_w 58, .iconst 1, .invokevirtual 87, .aload 0, .dload 701, .lload 5, .lload 5, .invokestatic 125, .invokevirtual 87, .aload 0, .dload 700, .aload 0, .dload 701, .aload 0, .dload 702, .invokevirtual 120, .return_]
noncomputable def am_c93 : List Instr := [.iload 2, .iconst 4, .iadd, .iconst 32, .iadd, .iconst 20, .isub, .istore 3, .aload 0, .iconst 54, .invokevirtual 94, .aload 0, .dload 701, .aload 1, .iconst 0, .iload 2, .invokevirtual 89, .aload 0, .dload 701, .iconst 66, .iload 3, .iconst 8, .ishr, .invokevirtual 85, .aload 0, .dload 701, .iconst 67, .iload 3, .invokevirtual 85, .aload 0, .dload 700, .aload 0, .dload 701, .aload 0, .dload 703, .invokevirtual 120, .aload 0, .iconst 92, .invokevirtual 94, .aload 0, .dload 701, .aload 0, .dload 703, .iconst 0, .iconst 32, .invokevirtual 89, .aload 0, .dload 700, .aload 0, .dload 701, .aload 0, .dload 703, .invokevirtual 120, .return_]
noncomputable def am_c94 : List Instr := [.aload 0, .dload 701, .iconst 0, .invokevirtual 86, .aload 0, .dload 701, .aload 0, .dload 702, .iconst 0, .aload 0, .dload 702, .invokevirtual 82, .invokevirtual 89, .aload 0, .dload 701, .iconst 64, .aload 0, .dload 702, .invokevirtual 82, .isub, .invokevirtual 88, .iconst 0, .istore 2, .iload 2, .iconst 64, .if_icmp .ge 38, .aload 0, .dload 701, .iload 2, .aload 0, .dload 701, .iload 2, .invokevirtual 84, .iload 1, .ixor, .invokevirtual 85, .iinc 2 1, .goto 23, .return_]
noncomputable def am_c95 : List Instr := [.iconst 0, .istore 3, .iload 3, .iconst 32, .if_icmp .ge 19, .aload 1, .iload 2, .iload 3, .iadd, .invokevirtual 84, .aload 0, .dload 703, .iload 3, .invokevirtual 84, .if_icmp .eq 17, .iconst 0, .ireturn, .iinc 3 1, .goto 2, .iconst 1, .ireturn]
noncomputable def am_c96 : List Instr := [.aload 1, .aload 0, .dload 703, .iconst 0, .iconst 32, .invokevirtual 89, .return_]
noncomputable def am_c97 : List Instr := [.aload 0, .monitorexit, .aload 0, .iconst 8, .anewarray 50, .dstore 808, .aload 0, .iconst 31, .anewarray 50, .dstore 809, .aload 0, .aload 1, .dstore 800, .aload 0, .aload 2, .dstore 801, .aload 0, .aload 3, .dstore 802, .aload 0, .aload 4, .dstore 803, .aload 0, .aload 5, .dstore 804, .aload 0, .aload 6, .dstore 805, .aload 0, .new 310, .dup, .aload 1, .invokespecial 34, .dstore 806, .aload 0, .new 402, .dup, .aload 5, .invokevirtual 73, .aload 6, .invokespecial 57, .dstore 807, .return_]
noncomputable def am_c98 : List Instr := [.aload 0, .dload 804, .invokevirtual 75, .aload 0, .iload 1, .putfield 811, .aload 0, .iload 2, .putfield 812, .aload 0, .aload 0, .dload 803, .iload 1, .iload 2, .invokevirtual 27, .dstore 813, .aload 0, .invokevirtual 103, .ifCond .eq 22, .aload 0, .invokevirtual 104, .goto 52, .aload 0, .dload 806, .invokevirtual 35, .ifCond .eq 52, .aload 0, .dload 806, .invokevirtual 49, .ifCond .ne 52, .aload 0, .dload 806, .invokevirtual 42, .ifCond .ne 40, .aload 0, .aload 0, .dload 806, .invokevirtual 41, .invokevirtual 107, .goto 52, .aload 0, .dload 806, .invokevirtual 42, .iconst 1, .if_icmp .ne 52, .aload 0, .dload 806, .invokevirtual 41, .iconst 6, .if_icmp .ne 52, .aload 0, .invokevirtual 105, .aload 0, .dload 800, .iconst 0, .invokevirtual 86, .aload 0, .dload 804, .invokevirtual 77, .ireturn]
noncomputable def am_c99 : List Instr := [.aload 0, .dload 804, .invokevirtual 75, .aload 0, .dload 803, .iload 1, .invokevirtual 28, .astore 4, .aload 4, .ifnull 44, .aload 4, .iload 2, .invokevirtual 8, .ifCond .eq 44, .aload 0, .dload 804, .aload 4, .getfield 1, .aload 4, .getfield 2, .iconst 3478, .invokevirtual 76, .aload 0, .dload 804, .iconst 7, .invokevirtual 78, .aload 4, .iload 2, .iload 3, .invokevirtual 13, .istore 5, .iload 5, .iconst (-1), .if_icmp .eq 40, .aload 0, .aload 4, .iload 5, .invokevirtual 17, .invokevirtual 100, .goto 44, .aload 0, .iload 2, .iload 3, .invokevirtual 101, .aload 0, .dload 800, .iconst 0, .invokevirtual 86, .aload 0, .dload 804, .invokevirtual 77, .ireturn]
noncomputable def am_c100 : List Instr := [.aload 0, .dload 804, .invokevirtual 73, .astore 2, .aload 2, .iload 1, .i2l, .iconst 2, .invokevirtual 87, .aload 2, .aload 0, .dload 800, .invokevirtual 82, .i2l, .iconst 2, .invokevirtual 87, .aload 2, .aload 0, .dload 800, .iconst 0, .aload 0, .dload 800, .invokevirtual 82, .invokevirtual 89, .return_]
noncomputable def am_c101 : List Instr := [.aload 0, .dload 807, .iconst 7, .iconst 1, .invokestatic 60, .iconst 0, .iconst 0, .aload 0, .dload 804, .iconst 5, .invokevirtual 79, .invokevirtual 62, .aload 0, .dload 807, .iconst 18, .iload 1, .iload 2, .invokevirtual 67, .aload 0, .dload 807, .aload 0, .dload 800, .invokevirtual 69, .aload 0, .dload 804, .iconst 5, .invokevirtual 78, .return_]
noncomputable def am_c102 : List Instr := [.lload 0, .goto_w 16384, .lcmp, .ifCond .lt 10, .lload 0, .goto_w 20479, .lcmp, .ifCond .gt 10, .iconst 1, .goto 11, .iconst 0, .ireturn]
noncomputable def am_c103 : List Instr := [.aload 0, .dload 800, .invokevirtual 82, .iconst 4, .if_icmp .lt 12, .aload 0, .dload 800, .iconst 0, .iconst 2, .invokevirtual 90, .invokestatic 102, .ifCond .ne 14, .iconst 0, .ireturn, .aload 0, .dload 800, .invokevirtual 82, .iconst 4, .isub, .i2l, .aload 0, .dload 800, .iconst 2, .iconst 2, .invokevirtual 90, .lsub, .lstore 1, .lload 1, .goto_w 0, .lcmp, .ifCond .lt 37, .lload 1, .goto_w 3, .lcmp, .ifCond .gt 37, .iconst 1, .goto 38, .iconst 0, .ireturn]
noncomputable def am_c104 : List Instr := [.aload 0, .dload 813, .ifnonnull 4, .return_, .aload 0, .dload 813, .aload 0, .dload 800, .iconst 0, .iconst 2, .invokevirtual 90, .l2i, .invokevirtual 12, .istore 1, .iload 1, .iconst (-1), .if_icmp .eq 36, .aload 0, .aload 0, .dload 813, .aload 0, .dload 813, .iload 1, .invokevirtual 18, .aload 0, .dload 813, .iload 1, .invokevirtual 19, .iconst 4, .aload 0, .dload 800, .iconst 2, .iconst 2, .invokevirtual 90, .l2i, .invokevirtual 106, .return_]
noncomputable def am_c105 : List Instr := [.aload 0, .dload 806, .iconst 18, .invokevirtual 38, .istore 1, .aload 0, .dload 806, .iconst 19, .invokevirtual 38, .istore 2, .aload 0, .dload 813, .ifnull 25, .iload 1, .iconst (-1), .if_icmp .eq 25, .iload 2, .iconst (-1), .if_icmp .eq 25, .aload 0, .dload 806, .aload 0, .dload 808, .invokevirtual 50, .ifCond .le 26, .return_, .aload 0, .aload 0, .dload 813, .aload 0, .dload 806, .iload 1, .invokevirtual 46, .aload 0, .dload 806, .iload 1, .invokevirtual 47, .aload 0, .dload 806, .iload 2, .invokevirtual 44, .aload 0, .dload 806, .iload 2, .invokevirtual 43, .invokevirtual 106, .return_]
noncomputable def am_c106 : List Instr := [.aload 1, .iload 2, .invokevirtual 8, .ifCond .eq 23, .aload 0, .dload 804, .iload 2, .iload 3, .aload 1, .getfield 4, .invokevirtual 76, .aload 0, .dload 804, .iconst 6, .invokevirtual 78, .aload 0, .dload 804, .invokevirtual 73, .aload 0, .dload 800, .iload 4, .iload 5, .invokevirtual 89, .return_]
noncomputable def am_c107 : List Instr := [.aload 0, .iconst (-1), .putfield 814, .aload 0, .aload 0, .dload 806, .aload 0, .dload 808, .invokevirtual 50, .putfield 810, .aload 0, .iload 1, .invokevirtual 109, .istore 2, .iload 2, .ifCond .ne 20, .aload 0, .iload 1, .invokevirtual 111, .istore 2, .aload 0, .dload 804, .aload 0, .getfield 811, .aload 0, .getfield 812, .iconst 3478, .invokevirtual 76, .aload 0, .dload 807, .iload 1, .iload 2, .ifCond .ne 35, .iconst 2, .goto 36, .iconst 3, .invokestatic 60, .aload 0, .dload 800, .iconst 8, .iconst 4, .invokevirtual 90, .l2i, .aload 0, .dload 800, .iconst 12, .iconst 4, .invokevirtual 90, .l2i, .aload 0, .dload 800, .iconst 16, .iconst 4, .invokevirtual 90, .l2i, .invokevirtual 62, .iload 2, .ifCond .ne 62, .aload 0, .iload 1, .invokevirtual 117, .goto 65, .aload 0, .iload 2, .invokevirtual 118, .aload 0, .getfield 814, .iconst (-1), .if_icmp .eq 72, .aload 0, .dload 807, .invokevirtual 70, .aload 0, .dload 806, .invokevirtual 48, .ifCond .eq 79, .aload 0, .dload 807, .invokevirtual 71, .return_]
noncomputable def am_c108 : List Instr := [.iload 0, .iconst 3, .if_icmp .eq 12, .iload 0, .iconst 4, .if_icmp .eq 12, .iload 0, .iconst 8, .if_icmp .eq 12, .iload 0, .iconst 9, .if_icmp .ne 14, .iconst 1, .goto 15, .iconst 0, .ireturn]
noncomputable def am_c109 : List Instr := [.iload 1, .invokestatic 108, .ifCond .ne 15, .iload 1, .iconst 1, .if_icmp .eq 8, .iconst 400, .goto 14, .aload 0, .getfield 810, .ifCond .le 13, .iconst 420, .goto 14, .iconst 0, .ireturn, .aload 0, .dload 806, .iconst 28, .invokevirtual 38, .istore 2, .aload 0, .dload 806, .iconst 6, .invokevirtual 38, .istore 3, .aload 0, .dload 806, .iconst 20, .invokevirtual 38, .istore 4, .aload 0, .dload 806, .iconst 21, .invokevirtual 38, .istore 5, .iload 2, .iconst (-1), .if_icmp .ne 40, .iconst 401, .ireturn, .iload 3, .iconst (-1), .if_icmp .eq 49, .iload 4, .iconst (-1), .if_icmp .eq 49, .iload 5, .iconst (-1), .if_icmp .ne 51, .iconst 400, .ireturn, .aload 0, .dload 806, .iload 5, .invokevirtual 45, .aload 0, .dload 801, .invokevirtual 134, .lcmp, .ifCond .eq 62, .iconst 438, .ireturn, .aload 0, .dload 801, .aload 0, .dload 806, .iload 3, .invokevirtual 45, .invokevirtual 129, .istore 6, .iload 6, .iconst (-1), .if_icmp .eq 88, .aload 0, .iload 3, .aload 0, .dload 801, .iload 6, .invokevirtual 130, .invokevirtual 110, .ifCond .eq 88, .aload 0, .iload 4, .aload 0, .dload 801, .invokevirtual 132, .invokevirtual 110, .ifCond .ne 90, .iconst 401, .ireturn, .aload 0, .dload 805, .aload 0, .dload 801, .iload 6, .invokevirtual 130, .aload 0, .dload 801, .invokevirtual 132, .aload 0, .dload 801, .iload 6, .invokevirtual 131, .invokevirtual 92, .aload 0, .dload 805, .aload 0, .dload 800, .aload 0, .dload 806, .iload 2, .invokevirtual 44, .iconst 4, .isub, .invokevirtual 93, .aload 0, .dload 805, .aload 0, .dload 800, .aload 0, .dload 806, .iload 2, .invokevirtual 44, .invokevirtual 95, .ifCond .ne 127, .iconst 401, .ireturn, .aload 0, .getfield 810, .ifCond .le 132, .iconst 420, .ireturn, .aload 0, .iload 6, .putfield 814, .iconst 0, .ireturn]
noncomputable def am_c110 : List Instr := [.aload 0, .dload 806, .iload 1, .invokevirtual 45, .lload 2, .lcmp, .ifCond .ne 16, .aload 0, .dload 806, .iload 1, .invokevirtual 43, .lload 2, .invokestatic 125, .if_icmp .ne 16, .iconst 1, .goto 17, .iconst 0, .ireturn]
noncomputable def am_c111 : List Instr := [.iload 1, .iconst 1, .if_icmp .ne 5, .iconst 0, .ireturn, .iload 1, .iconst 3, .if_icmp .ne 11, .aload 0, .invokevirtual 112, .ireturn, .aload 0, .dload 813, .ifnonnull 16, .iconst 437, .ireturn, .aload 0, .dload 813, .getfield 3, .aload 0, .getfield 814, .if_icmp .eq 24, .iconst 441, .ireturn, .iload 1, .lookupswitch 36 #[(4, 26), (8, 31)], .aload 0, .aload 0, .dload 813, .invokevirtual 114, .ireturn, .aload 0, .aload 0, .dload 813, .invokevirtual 115, .ireturn, .aload 0, .aload 0, .dload 813, .invokevirtual 116, .ireturn]
noncomputable def am_c112 : List Instr := [.aload 0, .dload 800, .iconst 8, .iconst 8, .invokevirtual 90, .lstore 1, .aload 0, .dload 800, .iconst 16, .iconst 4, .invokevirtual 90, .l2i, .istore 3, .aload 0, .dload 813, .ifnull 26, .aload 0, .dload 813, .lload 1, .iload 3, .invokevirtual 4, .ifCond .eq 24, .iconst 0, .goto 25, .iconst 437, .ireturn, .aload 0, .dload 806, .iconst 25, .invokevirtual 38, .istore 4, .iload 4, .iconst (-1), .if_icmp .ne 36, .iconst 400, .ireturn, .aload 0, .dload 800, .aload 0, .dload 806, .iload 4, .invokevirtual 44, .invokevirtual 84, .iconst 17, .if_icmp .eq 47, .iconst 442, .ireturn, .aload 0, .dload 803, .aload 0, .getfield 814, .invokevirtual 25, .aload 0, .dload 801, .invokevirtual 136, .if_icmp .lt 58, .iconst 486, .ireturn, .aload 0, .dload 803, .invokevirtual 29, .astore 5, .aload 5, .ifnonnull 66, .iconst 508, .ireturn, .aload 5, .aload 0, .getfield 811, .aload 0, .getfield 812, .aload 0, .getfield 814, .aload 0, .dload 803, .invokevirtual 30, .invokevirtual 2, .aload 5, .lload 1, .iload 3, .invokevirtual 3, .aload 5, .aload 0, .dload 803, .invokevirtual 22, .aload 0, .invokevirtual 113, .ladd, .fstore 5, .aload 0, .aload 5, .dstore 813, .iconst 0, .ireturn]
noncomputable def am_c113 : List Instr := [.aload 0, .dload 806, .iconst 13, .invokevirtual 38, .istore 1, .iload 1, .iconst (-1), .if_icmp .ne 10, .goto_w 600, .goto 18, .aload 0, .dload 800, .aload 0, .dload 806, .iload 1, .invokevirtual 44, .iconst 4, .invokevirtual 90, .lstore 2, .goto_w 600, .goto_w 3600, .lload 2, .invokeinterface 3 0, .invokeinterface 2 0, .lreturn]
noncomputable def am_c114 : List Instr := [.aload 0, .dload 806, .iconst 13, .invokevirtual 38, .istore 2, .iload 2, .iconst (-1), .if_icmp .eq 24, .aload 0, .dload 806, .iload 2, .invokevirtual 45, .goto_w 0, .lcmp, .ifCond .ne 24, .aload 1, .aload 0, .dload 803, .invokevirtual 22, .fstore 5, .aload 1, .iconst 0, .putstatic 0, .goto 32, .aload 1, .aload 0, .dload 803, .invokevirtual 22, .aload 0, .invokevirtual 113, .ladd, .fstore 5, .iconst 0, .ireturn]
noncomputable def am_c115 : List Instr := [.aload 0, .dload 806, .aload 0, .dload 809, .invokevirtual 51, .istore 2, .iload 2, .ifCond .ne 10, .iconst 400, .ireturn, .iconst 0, .istore 3, .iload 3, .iload 2, .if_icmp .ge 30, .iload 3, .iconst 31, .if_icmp .ge 30, .aload 0, .dload 802, .aload 0, .dload 809, .iload 3, .iaload, .invokevirtual 33, .ifCond .eq 28, .iconst 403, .ireturn, .iinc 3 1, .goto 12, .aload 1, .aload 0, .dload 809, .iload 2, .invokevirtual 9, .ifCond .ne 38, .iconst 508, .ireturn, .iconst 0, .istore 3, .iload 3, .iload 2, .if_icmp .ge 59, .iload 3, .iconst 31, .if_icmp .ge 59, .aload 1, .aload 0, .dload 809, .iload 3, .iaload, .aload 0, .dload 803, .invokevirtual 22, .goto_w 300, .ladd, .invokevirtual 10, .iinc 3 1, .goto 40, .iconst 0, .ireturn]
noncomputable def am_c116 : List Instr := [.aload 0, .dload 806, .iconst 12, .invokevirtual 38, .istore 2, .aload 0, .dload 806, .iconst 18, .invokevirtual 38, .istore 3, .iload 2, .iconst (-1), .if_icmp .eq 16, .iload 3, .iconst (-1), .if_icmp .ne 18, .iconst 400, .ireturn, .aload 0, .dload 806, .iload 2, .invokevirtual 45, .iconst 16, .lushr, .l2i, .istore 4, .aload 0, .dload 806, .iload 3, .invokevirtual 46, .istore 5, .aload 0, .dload 806, .iload 3, .invokevirtual 47, .istore 6, .iload 4, .i2l, .invokestatic 102, .ifCond .eq 48, .aload 1, .iload 4, .invokevirtual 12, .aload 1, .iload 5, .iload 6, .invokevirtual 13, .if_icmp .eq 50, .iconst 400, .ireturn, .aload 0, .dload 802, .iload 5, .invokevirtual 33, .ifCond .eq 57, .iconst 403, .ireturn, .aload 1, .iload 4, .iload 5, .invokevirtual 14, .ifCond .ne 64, .iconst 508, .ireturn, .aload 1, .iload 4, .iload 5, .iload 6, .aload 0, .dload 803, .invokevirtual 22, .goto_w 600, .ladd, .invokevirtual 15, .aload 1, .iload 5, .aload 0, .dload 803, .invokevirtual 22, .goto_w 300, .ladd, .invokevirtual 10, .iconst 0, .ireturn]
noncomputable def am_c117 : List Instr := [.iload 1, .iconst 3, .if_icmp .ne 14, .aload 0, .dload 813, .ifnull 14, .aload 0, .dload 807, .iconst 22, .iconst (-1062731519), .aload 0, .dload 813, .getfield 4, .invokevirtual 67, .iload 1, .iconst 3, .if_icmp .eq 20, .iload 1, .iconst 4, .if_icmp .ne 35, .aload 0, .dload 813, .ifnull 35, .aload 0, .dload 807, .iconst 13, .aload 0, .dload 813, .aload 0, .dload 803, .invokevirtual 22, .invokevirtual 5, .i2l, .iconst 4, .invokevirtual 65, .iload 1, .iconst 3, .if_icmp .eq 41, .iload 1, .iconst 1, .if_icmp .ne 49, .aload 0, .dload 807, .iconst 32, .aload 0, .getfield 811, .aload 0, .getfield 812, .invokevirtual 67, .return_]
noncomputable def am_c118 : List Instr := [.aload 0, .dload 804, .iconst 8, .invokevirtual 78, .aload 0, .dload 807, .iconst 9, .iload 1, .iconst 100, .idiv, .iconst 8, .ishl, .iload 1, .iconst 100, .irem, .ior, .i2l, .iconst 4, .invokevirtual 65, .iload 1, .iconst 401, .if_icmp .eq 25, .iload 1, .iconst 438, .if_icmp .ne 44, .aload 0, .dload 807, .iconst 20, .aload 0, .dload 801, .invokevirtual 132, .aload 0, .dload 801, .invokevirtual 132, .invokestatic 125, .invokevirtual 65, .aload 0, .dload 807, .iconst 21, .aload 0, .dload 801, .invokevirtual 134, .iconst 8, .invokevirtual 65, .iload 1, .iconst 420, .if_icmp .ne 54, .aload 0, .dload 807, .aload 0, .dload 808, .aload 0, .getfield 810, .invokevirtual 68, .return_]
noncomputable def am_c119 : List Instr := [.aload 0, .monitorexit, .aload 0, .iconst 8, .anewarray 50, .dstore 900, .aload 0, .iconst 64, .anewarray 50, .dstore 901, .return_]
noncomputable def am_c120 : List Instr := [.goto_w 8, .aload 1, .invokevirtual 82, .i2l, .lmul, .lstore 3, .aload 1, .goto_w 128, .iconst 1, .invokevirtual 87, .aload 1, .iconst 56, .aload 1, .invokevirtual 82, .isub, .iconst 63, .iand, .invokevirtual 88, .aload 1, .lload 3, .iconst 8, .invokevirtual 87, .getstatic 0, .iconst 0, .aload 0, .dload 900, .iconst 0, .iconst 8, .invokedynamic 1, .iconst 0, .istore 5, .iload 5, .aload 1, .invokevirtual 82, .if_icmp .ge 61, .iconst 0, .istore 6, .iload 6, .iconst 16, .if_icmp .ge 55, .aload 0, .dload 901, .iload 6, .aload 1, .iload 5, .iconst 4, .iload 6, .imul, .iadd, .iconst 4, .invokevirtual 90, .l2i, .iastore, .iinc 6 1, .goto 37, .aload 0, .invokevirtual 121, .aload 0, .invokevirtual 122, .iinc 5 64, .goto 31, .aload 2, .iconst 0, .invokevirtual 86, .iconst 0, .istore 5, .iload 5, .iconst 8, .if_icmp .ge 79, .aload 2, .aload 0, .dload 900, .iload 5, .iaload, .i2l, .iconst 4, .invokevirtual 87, .iinc 5 1, .goto 66, .return_]
noncomputable def am_c121 : List Instr := [.iconst 16, .istore 1, .iload 1, .iconst 64, .if_icmp .ge 82, .aload 0, .dload 901, .iload 1, .iconst 15, .isub, .iaload, .istore 2, .aload 0, .dload 901, .iload 1, .iconst 2, .isub, .iaload, .istore 3, .iload 2, .iconst 7, .iushr, .iload 2, .iconst 25, .ishl, .ior, .iload 2, .iconst 18, .iushr, .iload 2, .iconst 14, .ishl, .ior, .ixor, .iload 2, .iconst 3, .iushr, .ixor, .istore 4, .iload 3, .iconst 17, .iushr, .iload 3, .iconst 15, .ishl, .ior, .iload 3, .iconst 19, .iushr, .iload 3, .iconst 13, .ishl, .ior, .ixor, .iload 3, .iconst 10, .iushr, .ixor, .istore 5, .aload 0, .dload 901, .iload 1, .aload 0, .dload 901, .iload 1, .iconst 16, .isub, .iaload, .iload 4, .iadd, .aload 0, .dload 901, .iload 1, .iconst 7, .isub, .iaload, .iadd, .iload 5, .iadd, .iastore, .iinc 1 1, .goto 2, .return_]
noncomputable def am_c122 : List Instr := [.aload 0, .dload 900, .iconst 0, .iaload, .istore 1, .aload 0, .dload 900, .iconst 1, .iaload, .istore 2, .aload 0, .dload 900, .iconst 2, .iaload, .istore 3, .aload 0, .dload 900, .iconst 3, .iaload, .istore 4, .aload 0, .dload 900, .iconst 4, .iaload, .istore 5, .aload 0, .dload 900, .iconst 5, .iaload, .istore 6, .aload 0, .dload 900, .iconst 6, .iaload, .istore 7, .aload 0, .dload 900, .iconst 7, .iaload, .istore 8, .iconst 0, .istore 9, .iload 9, .iconst 64, .if_icmp .ge 152, .iload 5, .iconst 6, .iushr, .iload 5, .iconst 26, .ishl, .ior, .iload 5, .iconst 11, .iushr, .iload 5, .iconst 21, .ishl, .ior, .ixor, .iload 5, .iconst 25, .iushr, .iload 5, .iconst 7, .ishl, .ior, .ixor, .istore 10, .iload 1, .iconst 2, .iushr, .iload 1, .iconst 30, .ishl, .ior, .iload 1, .iconst 13, .iushr, .iload 1, .iconst 19, .ishl, .ior, .ixor, .iload 1, .iconst 22, .iushr, .iload 1, .iconst 10, .ishl, .ior, .ixor, .istore 11, .iload 8, .iload 10, .iadd, .iload 5, .iload 6, .iand, .iload 5, .iconst (-1), .ixor, .iload 7, .iand, .ixor, .iadd, .getstatic 1, .iload 9, .iaload, .iadd, .aload 0, .dload 901, .iload 9, .iaload, .iadd, .istore 12, .iload 11, .iload 1, .iload 2, .iand, .iload 1, .iload 3, .iand, .ixor, .iload 2, .iload 3, .iand, .ixor, .iadd, .istore 13, .iload 7, .istore 8, .iload 6, .istore 7, .iload 5, .istore 6, .iload 4, .iload 12, .iadd, .istore 5, .iload 3, .istore 4, .iload 2, .istore 3, .iload 1, .istore 2, .iload 12, .iload 13, .iadd, .istore 1, .iinc 9 1, .goto 42, .aload 0, .dload 900, .iconst 0, .dup2, .iaload, .iload 1, .iadd, .iastore, .aload 0, .dload 900, .iconst 1, .dup2, .iaload, .iload 2, .iadd, .iastore, .aload 0, .dload 900, .iconst 2, .dup2, .iaload, .iload 3, .iadd, .iastore, .aload 0, .dload 900, .iconst 3, .dup2, .iaload, .iload 4, .iadd, .iastore, .aload 0, .dload 900, .iconst 4, .dup2, .iaload, .iload 5, .iadd, .iastore, .aload 0, .dload 900, .iconst 5, .dup2, .iaload, .iload 6, .iadd, .iastore, .aload 0, .dload 900, .iconst 6, .dup2, .iaload, .iload 7, .iadd, .iastore, .aload 0, .dload 900, .iconst 7, .dup2, .iaload, .iload 8, .iadd, .iastore, .return_]
noncomputable def am_c123 : List Instr := [.aload 0, .monitorexit, .aload 0, .iconst 8, .anewarray 51, .dstore 1000, .aload 0, .iconst 8, .anewarray 51, .dstore 1001, .aload 0, .goto_w 114, .fstore 1003, .aload 0, .iconst 2, .putfield 1005, .return_]
noncomputable def am_c124 : List Instr := [.goto_w 0, .lstore 2, .iconst 56, .istore 4, .iload 4, .ifCond .lt 24, .lload 0, .iload 4, .lushr, .goto_w 255, .land, .lstore 5, .lload 5, .goto_w 0, .lcmp, .ifCond .eq 22, .lload 2, .iconst 8, .lshl, .lload 5, .lor, .lstore 2, .iinc 4 (-8), .goto 4, .lload 2, .lreturn]
noncomputable def am_c125 : List Instr := [.iconst 71, .lload 0, .invokestatic 266, .isub, .iconst 8, .idiv, .ireturn]
noncomputable def am_c126 : List Instr := [.iconst 56, .istore 2, .iload 2, .ifCond .lt 26, .lload 0, .iload 2, .lushr, .l2i, .iconst 255, .iand, .istore 3, .iload 3, .ifCond .eq 24, .iload 3, .iconst 33, .if_icmp .lt 22, .iload 3, .iconst 126, .if_icmp .gt 22, .iload 3, .iconst 58, .if_icmp .ne 24, .iconst 0, .ireturn, .iinc 2 (-8), .goto 2, .lload 0, .goto_w 0, .lcmp, .ifCond .eq 32, .iconst 1, .goto 33, .iconst 0, .ireturn]
noncomputable def am_c127 : List Instr := [.aload 0, .getfield 1002, .ireturn]
noncomputable def am_c128 : List Instr := [.aload 0, .lload 1, .invokevirtual 129, .istore 5, .iload 5, .iconst (-1), .if_icmp .eq 15, .aload 0, .dload 1001, .iload 5, .lload 3, .lastore, .aload 0, .getfield 1002, .ireturn, .aload 0, .getfield 1002, .iconst 8, .if_icmp .lt 21, .iconst (-1), .ireturn, .aload 0, .dload 1000, .aload 0, .getfield 1002, .lload 1, .lastore, .aload 0, .dload 1001, .aload 0, .getfield 1002, .lload 3, .lastore, .aload 0, .dup, .getfield 1002, .iconst 1, .iadd, .putfield 1002, .aload 0, .getfield 1002, .ireturn]
noncomputable def am_c129 : List Instr := [.iconst 0, .istore 3, .iload 3, .aload 0, .getfield 1002, .if_icmp .ge 20, .iload 3, .iconst 8, .if_icmp .ge 20, .aload 0, .dload 1000, .iload 3, .laload, .lload 1, .lcmp, .ifCond .ne 18, .iload 3, .ireturn, .iinc 3 1, .goto 2, .iconst (-1), .ireturn]
noncomputable def am_c130 : List Instr := [.iload 1, .ifCond .lt 10, .iload 1, .iconst 8, .if_icmp .ge 10, .aload 0, .dload 1000, .iload 1, .laload, .goto 11, .goto_w 0, .lreturn]
noncomputable def am_c131 : List Instr := [.iload 1, .ifCond .lt 10, .iload 1, .iconst 8, .if_icmp .ge 10, .aload 0, .dload 1001, .iload 1, .laload, .goto 11, .goto_w 0, .lreturn]
noncomputable def am_c132 : List Instr := [.aload 0, .fload 1003, .lreturn]
noncomputable def am_c133 : List Instr := [.aload 0, .lload 1, .fstore 1003, .return_]
noncomputable def am_c134 : List Instr := [.aload 0, .fload 1004, .lreturn]
noncomputable def am_c135 : List Instr := [.aload 0, .lload 1, .fstore 1004, .return_]
noncomputable def am_c136 : List Instr := [.aload 0, .getfield 1005, .ireturn]
noncomputable def am_c137 : List Instr := [.aload 0, .iload 1, .putfield 1005, .return_]
noncomputable def am_c138 : List Instr := [.aload 0, .monitorexit, .aload 0, .new 602, .dup, .iconst 400, .invokespecial 270, .dstore 1100, .aload 0, .new 704, .dup, .invokespecial 91, .dstore 1101, .aload 0, .new 402, .dup, .aload 0, .dload 1100, .aload 0, .dload 1101, .invokespecial 57, .dstore 1102, .aload 0, .new 1006, .dup, .invokespecial 123, .dstore 1103, .aload 0, .new 203, .dup, .invokespecial 31, .dstore 1104, .aload 0, .new 102, .dup, .invokespecial 21, .dstore 1105, .aload 0, .new 507, .dup, .invokespecial 72, .dstore 1106, .aload 0, .new 815, .dup, .aload 0, .dload 1100, .aload 0, .dload 1103, .aload 0, .dload 1104, .aload 0, .dload 1105, .aload 0, .dload 1106, .aload 0, .dload 1101, .invokespecial 97, .dstore 1107, .return_]
noncomputable def am_c139 : List Instr := [.aload 0, .dload 1100, .invokevirtual 82, .iconst 20, .iadd, .aload 0, .dload 1100, .invokevirtual 83, .if_icmp .le 11, .iconst (-1), .ireturn, .aload 0, .dload 1100, .iload 1, .i2l, .iconst 4, .invokevirtual 87, .aload 0, .dload 1100, .iload 2, .i2l, .iconst 4, .invokevirtual 87, .aload 0, .dload 1100, .iload 3, .i2l, .iconst 4, .invokevirtual 87, .aload 0, .dload 1100, .iload 4, .i2l, .iconst 4, .invokevirtual 87, .aload 0, .dload 1100, .iload 5, .i2l, .iconst 4, .invokevirtual 87, .aload 0, .dload 1100, .invokevirtual 82, .ireturn]
noncomputable def am_c140 : List Instr := [.iload 1, .ifCond .lt 7, .iload 1, .aload 0, .dload 1100, .invokevirtual 82, .if_icmp .le 9, .iconst (-1), .ireturn, .aload 0, .dload 1100, .iload 1, .invokevirtual 86, .iload 1, .ireturn]
noncomputable def am_c141 : List Instr := [.iload 1, .ifCond .lt 5, .iload 1, .iconst 16383, .if_icmp .le 7, .iconst (-1), .ireturn, .aload 0, .dload 1102, .iload 1, .iload 2, .iload 3, .iload 4, .invokevirtual 62, .aload 0, .dload 1100, .invokevirtual 82, .ireturn]
noncomputable def am_c142 : List Instr := [.iload 2, .ifCond .lt 11, .iload 2, .iconst 4, .if_icmp .gt 11, .aload 0, .dload 1102, .iload 1, .iload 2, .invokevirtual 61, .ifCond .ne 13, .iconst (-1), .ireturn, .aload 0, .dload 1102, .iload 1, .iload 3, .i2l, .iload 2, .invokevirtual 65, .aload 0, .dload 1100, .invokevirtual 82, .ireturn]
noncomputable def am_c143 : List Instr := [.lload 2, .invokestatic 124, .lstore 6, .lload 4, .invokestatic 124, .lstore 8, .aload 0, .dload 1102, .iload 1, .lload 6, .invokestatic 125, .lload 8, .invokestatic 125, .iadd, .invokevirtual 61, .ifCond .ne 18, .iconst (-1), .ireturn, .aload 0, .dload 1102, .iload 1, .lload 6, .lload 8, .invokevirtual 66, .aload 0, .dload 1100, .invokevirtual 82, .ireturn]
noncomputable def am_c144 : List Instr := [.aload 0, .dload 1102, .iload 1, .iconst 8, .invokevirtual 61, .ifCond .ne 8, .iconst (-1), .ireturn, .aload 0, .dload 1102, .iload 1, .lload 2, .iconst 8, .invokevirtual 65, .aload 0, .dload 1100, .invokevirtual 82, .ireturn]
noncomputable def am_c145 : List Instr := [.iload 3, .ifCond .lt 11, .iload 3, .iconst 65535, .if_icmp .gt 11, .aload 0, .dload 1102, .iload 1, .iconst 8, .invokevirtual 61, .ifCond .ne 13, .iconst (-1), .ireturn, .aload 0, .dload 1102, .iload 1, .iload 2, .iload 3, .invokevirtual 67, .aload 0, .dload 1100, .invokevirtual 82, .ireturn]
noncomputable def am_c146 : List Instr := [.lload 1, .invokestatic 126, .ifCond .eq 12, .lload 3, .invokestatic 126, .ifCond .eq 12, .aload 0, .dload 1102, .iconst 28, .iconst 32, .invokevirtual 61, .ifCond .ne 14, .iconst (-1), .ireturn, .aload 0, .dload 1101, .lload 1, .invokestatic 124, .aload 0, .dload 1103, .invokevirtual 132, .lload 3, .invokestatic 124, .invokevirtual 92, .aload 0, .dload 1102, .invokevirtual 70, .aload 0, .dload 1100, .invokevirtual 82, .ireturn]
noncomputable def am_c147 : List Instr := [.aload 0, .dload 1102, .iconst 32808, .iconst 4, .invokevirtual 61, .ifCond .ne 8, .iconst (-1), .ireturn, .aload 0, .dload 1102, .invokevirtual 71, .aload 0, .dload 1100, .invokevirtual 82, .ireturn]
noncomputable def am_c148 : List Instr := [.aload 0, .dload 1100, .iload 1, .invokevirtual 84, .ireturn]
noncomputable def am_c149 : List Instr := [.iload 1, .ifCond .lt 13, .iload 1, .aload 0, .dload 1100, .invokevirtual 82, .if_icmp .ge 13, .iload 2, .iconst 1, .if_icmp .lt 13, .iload 2, .iconst 255, .if_icmp .le 15, .iconst (-1), .ireturn, .aload 0, .dload 1100, .iload 1, .aload 0, .dload 1100, .iload 1, .invokevirtual 84, .iload 2, .ixor, .invokevirtual 85, .aload 0, .dload 1100, .iload 1, .invokevirtual 84, .ireturn]
noncomputable def am_c150 : List Instr := [.lload 1, .invokestatic 126, .ifCond .eq 6, .lload 3, .invokestatic 126, .ifCond .ne 8, .iconst (-1), .ireturn, .aload 0, .dload 1103, .lload 1, .invokestatic 124, .lload 3, .invokestatic 124, .invokevirtual 128, .ireturn]
noncomputable def am_c151 : List Instr := [.lload 1, .invokestatic 126, .ifCond .ne 5, .iconst (-1), .ireturn, .aload 0, .dload 1103, .lload 1, .invokestatic 124, .invokevirtual 133, .aload 0, .dload 1103, .invokevirtual 127, .ireturn]
noncomputable def am_c152 : List Instr := [.aload 0, .dload 1103, .lload 1, .invokevirtual 135, .iconst 0, .ireturn]
noncomputable def am_c153 : List Instr := [.iload 1, .ifCond .lt 5, .iload 1, .iconst 8, .if_icmp .le 7, .iconst (-1), .ireturn, .aload 0, .dload 1103, .invokevirtual 136, .istore 2, .aload 0, .dload 1103, .iload 1, .invokevirtual 137, .iload 2, .ireturn]
noncomputable def am_c154 : List Instr := [.iload 2, .ifCond .lt 5, .iload 2, .iconst 32, .if_icmp .le 7, .iconst (-1), .ireturn, .aload 0, .dload 1104, .iload 1, .iload 2, .invokevirtual 32, .ireturn]
noncomputable def am_c155 : List Instr := [.iload 1, .ifCond .lt 5, .iload 1, .iconst 10000, .if_icmp .le 7, .iconst (-1), .ireturn, .aload 0, .dload 1105, .iload 1, .invokevirtual 23, .ireturn]
noncomputable def am_c156 : List Instr := [.iload 2, .iconst 1, .if_icmp .lt 6, .iload 2, .iconst 65535, .if_icmp .le 8, .iconst (-1), .ireturn, .aload 0, .dload 1107, .iload 1, .iload 2, .invokevirtual 98, .ireturn]
noncomputable def am_c157 : List Instr := [.iload 3, .iconst 1, .if_icmp .lt 6, .iload 3, .iconst 65535, .if_icmp .le 8, .iconst (-1), .ireturn, .aload 0, .dload 1107, .iload 1, .iload 2, .iload 3, .invokevirtual 99, .ireturn]
noncomputable def am_c158 : List Instr := [.aload 0, .dload 1106, .iload 1, .invokevirtual 80, .ireturn]
noncomputable def am_c159 : List Instr := [.aload 0, .dload 1106, .invokevirtual 73, .iload 1, .invokevirtual 84, .ireturn]
noncomputable def am_c160 : List Instr := [.aload 0, .dload 1106, .invokevirtual 74, .iload 1, .iload 2, .invokevirtual 54, .ireturn]
noncomputable def am_c161 : List Instr := [.aload 0, .dload 1105, .iload 1, .invokevirtual 26, .astore 3, .aload 3, .ifnonnull 9, .iconst (-1), .goto 15, .aload 3, .iload 2, .aload 0, .dload 1105, .invokevirtual 22, .invokevirtual 20, .ireturn]
noncomputable def am_c162 : List Instr := [.aload 0, .dload 1105, .iload 1, .invokevirtual 26, .astore 3, .aload 3, .ifnonnull 9, .iconst 0, .goto 15, .aload 3, .iload 2, .aload 0, .dload 1105, .invokevirtual 22, .invokevirtual 11, .ireturn]
noncomputable def am_c163 : List Instr := [.aload 0, .dload 1105, .iload 1, .invokevirtual 26, .astore 3, .aload 3, .ifnonnull 9, .iconst 0, .goto 15, .aload 3, .iload 2, .aload 0, .dload 1105, .invokevirtual 22, .invokevirtual 16, .ireturn]
noncomputable def am_c164 : List Instr := [.iload 1, .lookupswitch 21 #[(0, 2), (1, 9), (2, 13), (3, 17)], .aload 0, .dload 1105, .invokevirtual 22, .goto_w 2147483647, .land, .l2i, .ireturn, .aload 0, .dload 1103, .invokevirtual 127, .ireturn, .aload 0, .dload 1105, .invokevirtual 24, .ireturn, .aload 0, .dload 1100, .invokevirtual 82, .ireturn, .aload 0, .dload 1106, .iload 1, .invokevirtual 79, .ireturn]
noncomputable def am_c165 : List Instr := [.aload 0, .monitorexit, .aload 0, .iconst 64, .anewarray 50, .dstore 1201, .aload 0, .iconst 8, .anewarray 50, .dstore 1202, .aload 0, .iconst 8, .anewarray 50, .dstore 1203, .aload 0, .iconst 64, .anewarray 50, .dstore 1204, .aload 0, .iconst 64, .anewarray 50, .dstore 1205, .aload 0, .iconst 9, .anewarray 51, .dstore 1208, .aload 0, .iconst 9, .anewarray 51, .dstore 1209, .aload 0, .iconst 8, .anewarray 50, .dstore 1210, .aload 0, .iconst 32, .anewarray 50, .dstore 1211, .aload 0, .iconst 32, .anewarray 50, .dstore 1212, .aload 0, .iconst 32, .anewarray 50, .dstore 1213, .aload 0, .iconst 400, .anewarray 50, .dstore 1214, .aload 0, .iconst 500, .anewarray 50, .dstore 1216, .aload 0, .iconst 16, .anewarray 50, .dstore 1222, .aload 0, .iconst 8, .anewarray 51, .dstore 1224, .aload 0, .iconst 8, .anewarray 51, .dstore 1225, .aload 0, .iconst 8, .anewarray 50, .dstore 1227, .aload 0, .iconst 2, .putfield 1230, .aload 0, .iconst 4, .anewarray 50, .dstore 1231, .aload 0, .iconst 4, .anewarray 50, .dstore 1232, .aload 0, .iconst 8, .anewarray 53, .dstore 1235, .aload 0, .iconst 8, .anewarray 50, .dstore 1236, .aload 0, .iconst 8, .anewarray 50, .dstore 1237, .aload 0, .iconst 8, .anewarray 50, .dstore 1238, .aload 0, .iconst 8, .anewarray 50, .dstore 1239, .aload 0, .iconst 8, .anewarray 51, .dstore 1240, .aload 0, .iconst 24, .anewarray 50, .dstore 1241, .aload 0, .iconst 8, .anewarray 50, .dstore 1242, .aload 0, .iconst 128, .anewarray 50, .dstore 1243, .aload 0, .iconst 128, .anewarray 51, .dstore 1244, .aload 0, .iconst 8, .anewarray 50, .dstore 1245, .aload 0, .iconst 64, .anewarray 50, .dstore 1246, .aload 0, .iconst 64, .anewarray 50, .dstore 1247, .aload 0, .iconst 64, .anewarray 50, .dstore 1248, .aload 0, .iconst 64, .anewarray 51, .dstore 1249, .aload 0, .iconst 100, .anewarray 50, .dstore 1250, .aload 0, .iconst 100, .anewarray 50, .dstore 1251, .aload 0, .iconst 100, .anewarray 50, .dstore 1252, .aload 0, .iconst 8, .anewarray 50, .dstore 1257, .iconst 0, .istore 1, .iconst 2, .istore 2, .iload 1, .iconst 64, .if_icmp .ge 209, .iconst 1, .istore 3, .iconst 2, .istore 4, .iload 4, .iload 4, .imul, .iload 2, .if_icmp .gt 185, .iload 3, .ifCond .eq 181, .iload 2, .iload 4, .irem, .ifCond .eq 181, .iconst 1, .goto 182, .iconst 0, .istore 3, .iinc 4 1, .goto 168, .iload 3, .ifCond .eq 207, .aload 0, .dload 1201, .iload 1, .aload 0, .iload 2, .iconst 3, .invokevirtual 167, .iastore, .iload 1, .iconst 8, .if_icmp .ge 206, .aload 0, .dload 1202, .iload 1, .aload 0, .iload 2, .iconst 2, .invokevirtual 167, .iastore, .iinc 1 1, .iinc 2 1, .goto 161, .aload 0, .dload 1227, .iconst 0, .iconst 114, .iastore, .aload 0, .iconst 1, .putfield 1228, .return_]
noncomputable def am_c166 : List Instr := [.lload 0, .lload 2, .lcmp, .ifCond .lt 10, .lload 0, .lload 4, .lcmp, .ifCond .gt 10, .iconst 1, .goto 11, .iconst 0, .ireturn]
noncomputable def am_c167 : List Instr := [.goto_w 0, .lstore 3, .goto_w 137438953472, .lstore 5, .lload 5, .lload 3, .lsub, .goto_w 1, .lcmp, .ifCond .le 55, .lload 3, .lload 5, .ladd, .goto_w 2, .ldiv, .lstore 7, .iconst 0, .istore 9, .iload 9, .iconst 9, .if_icmp .ge 32, .aload 0, .dload 1208, .iload 9, .iload 9, .ifCond .ne 28, .goto_w 1, .goto 29, .goto_w 0, .lastore, .iinc 9 1, .goto 18, .iconst 0, .istore 9, .iload 9, .iload 2, .if_icmp .ge 42, .aload 0, .lload 7, .invokevirtual 168, .iinc 9 1, .goto 34, .aload 0, .iload 1, .iconst 2, .iload 2, .imul, .invokevirtual 169, .ifCond .eq 52, .lload 7, .lstore 5, .goto 54, .lload 7, .lstore 3, .goto 4, .lload 3, .l2i, .ireturn]
noncomputable def am_c168 : List Instr := [.iconst 0, .istore 3, .iload 3, .iconst 9, .if_icmp .ge 20, .aload 0, .dload 1209, .iload 3, .aload 0, .dload 1208, .iload 3, .laload, .lastore, .aload 0, .dload 1208, .iload 3, .goto_w 0, .lastore, .iinc 3 1, .goto 2, .iconst 0, .istore 3, .iload 3, .iconst 9, .if_icmp .ge 60, .iconst 0, .istore 4, .iload 4, .iconst 3, .if_icmp .ge 58, .iload 3, .iload 4, .iadd, .iconst 9, .if_icmp .ge 56, .aload 0, .dload 1208, .iload 3, .iload 4, .iadd, .dup2, .laload, .aload 0, .dload 1209, .iload 3, .laload, .lload 1, .iconst 16, .iload 4, .imul, .lshr, .goto_w 65535, .land, .lmul, .ladd, .lastore, .iinc 4 1, .goto 27, .iinc 3 1, .goto 22, .iconst 0, .istore 3, .iload 3, .iconst 8, .if_icmp .ge 92, .aload 0, .dload 1208, .iload 3, .iconst 1, .iadd, .dup2, .laload, .aload 0, .dload 1208, .iload 3, .laload, .iconst 16, .lshr, .ladd, .lastore, .aload 0, .dload 1208, .iload 3, .aload 0, .dload 1208, .iload 3, .laload, .goto_w 65535, .land, .lastore, .iinc 3 1, .goto 62, .return_]
noncomputable def am_c169 : List Instr := [.iconst 8, .istore 3, .iload 3, .ifCond .lt 32, .iload 3, .iload 2, .if_icmp .ne 10, .iload 1, .i2l, .goto 11, .goto_w 0, .lstore 4, .aload 0, .dload 1208, .iload 3, .laload, .lload 4, .lcmp, .ifCond .eq 30, .aload 0, .dload 1208, .iload 3, .laload, .lload 4, .lcmp, .ifCond .le 28, .iconst 1, .goto 29, .iconst 0, .ireturn, .iinc 3 (-1), .goto 2, .iconst 0, .ireturn]
noncomputable def am_c170 : List Instr := [.iconst 0, .istore 1, .iload 1, .iconst 8, .if_icmp .ge 15, .aload 0, .dload 1203, .iload 1, .aload 0, .dload 1202, .iload 1, .iaload, .iastore, .iinc 1 1, .goto 2, .aload 0, .iconst 0, .putfield 1206, .aload 0, .goto_w 0, .fstore 1207, .return_]
noncomputable def am_c171 : List Instr := [.iload 0, .iload 1, .iushr, .iload 0, .iconst 32, .iload 1, .isub, .ishl, .ior, .ireturn]
noncomputable def am_c172 : List Instr := [.aload 0, .dload 1205, .aload 0, .getfield 1206, .iload 1, .iconst 255, .iand, .iastore, .aload 0, .dup, .getfield 1206, .iconst 1, .iadd, .putfield 1206, .aload 0, .dup, .fload 1207, .goto_w 1, .ladd, .fstore 1207, .aload 0, .getfield 1206, .iconst 64, .if_icmp .ge 25, .return_, .aload 0, .iconst 0, .putfield 1206, .iconst 0, .istore 2, .iload 2, .iconst 16, .if_icmp .ge 78, .aload 0, .dload 1204, .iload 2, .aload 0, .dload 1205, .iconst 4, .iload 2, .imul, .iaload, .iconst 24, .ishl, .aload 0, .dload 1205, .iconst 4, .iload 2, .imul, .iconst 1, .iadd, .iaload, .iconst 16, .ishl, .ior, .aload 0, .dload 1205, .iconst 4, .iload 2, .imul, .iconst 2, .iadd, .iaload, .iconst 8, .ishl, .ior, .aload 0, .dload 1205, .iconst 4, .iload 2, .imul, .iconst 3, .iadd, .iaload, .ior, .iastore, .iinc 2 1, .goto 30, .iconst 16, .istore 2, .iload 2, .iconst 64, .if_icmp .ge 140, .aload 0, .dload 1204, .iload 2, .iconst 15, .isub, .iaload, .istore 3, .aload 0, .dload 1204, .iload 2, .iconst 2, .isub, .iaload, .istore 4, .aload 0, .dload 1204, .iload 2, .aload 0, .dload 1204, .iload 2, .iconst 16, .isub, .iaload, .iload 3, .iconst 7, .invokestatic 171, .iload 3, .iconst 18, .invokestatic 171, .ixor, .iload 3, .iconst 3, .iushr, .ixor, .iadd, .aload 0, .dload 1204, .iload 2, .iconst 7, .isub, .iaload, .iadd, .iload 4, .iconst 17, .invokestatic 171, .iload 4, .iconst 19, .invokestatic 171, .ixor, .iload 4, .iconst 10, .iushr, .ixor, .iadd, .iastore, .iinc 2 1, .goto 80, .aload 0, .invokevirtual 173, .return_]
noncomputable def am_c173 : List Instr := [.iconst 0, .istore 1, .iload 1, .iconst 8, .if_icmp .ge 15, .aload 0, .dload 1210, .iload 1, .aload 0, .dload 1203, .iload 1, .iaload, .iastore, .iinc 1 1, .goto 2, .iconst 0, .istore 1, .iload 1, .iconst 64, .if_icmp .ge 142, .aload 0, .dload 1210, .iconst 4, .iaload, .istore 2, .aload 0, .dload 1210, .iconst 0, .iaload, .istore 3, .aload 0, .dload 1210, .iconst 7, .iaload, .iload 2, .iconst 6, .invokestatic 171, .iload 2, .iconst 11, .invokestatic 171, .ixor, .iload 2, .iconst 25, .invokestatic 171, .ixor, .iadd, .iload 2, .aload 0, .dload 1210, .iconst 5, .iaload, .iand, .iload 2, .iconst (-1), .ixor, .aload 0, .dload 1210, .iconst 6, .iaload, .iand, .ixor, .iadd, .aload 0, .dload 1201, .iload 1, .iaload, .iadd, .aload 0, .dload 1204, .iload 1, .iaload, .iadd, .istore 4, .iload 3, .iconst 2, .invokestatic 171, .iload 3, .iconst 13, .invokestatic 171, .ixor, .iload 3, .iconst 22, .invokestatic 171, .ixor, .iload 3, .aload 0, .dload 1210, .iconst 1, .iaload, .iand, .iload 3, .aload 0, .dload 1210, .iconst 2, .iaload, .iand, .ixor, .aload 0, .dload 1210, .iconst 1, .iaload, .aload 0, .dload 1210, .iconst 2, .iaload, .iand, .ixor, .iadd, .istore 5, .iconst 7, .istore 6, .iload 6, .ifCond .le 125, .aload 0, .dload 1210, .iload 6, .aload 0, .dload 1210, .iload 6, .iconst 1, .isub, .iaload, .iastore, .iinc 6 (-1), .goto 111, .aload 0, .dload 1210, .iconst 4, .dup2, .iaload, .iload 4, .iadd, .iastore, .aload 0, .dload 1210, .iconst 0, .iload 4, .iload 5, .iadd, .iastore, .iinc 1 1, .goto 17, .iconst 0, .istore 1, .iload 1, .iconst 8, .if_icmp .ge 160, .aload 0, .dload 1203, .iload 1, .dup2, .iaload, .aload 0, .dload 1210, .iload 1, .iaload, .iadd, .iastore, .iinc 1 1, .goto 144, .return_]
noncomputable def am_c174 : List Instr := [.aload 0, .fload 1207, .goto_w 8, .lmul, .lstore 1, .aload 0, .iconst 128, .invokevirtual 172, .aload 0, .getfield 1206, .iconst 56, .if_icmp .eq 16, .aload 0, .iconst 0, .invokevirtual 172, .goto 8, .iconst 7, .istore 3, .iload 3, .ifCond .lt 30, .aload 0, .lload 1, .iconst 8, .iload 3, .imul, .lshr, .l2i, .invokevirtual 172, .iinc 3 (-1), .goto 18, .iconst 0, .istore 3, .iload 3, .iconst 32, .if_icmp .ge 57, .aload 0, .dload 1211, .iload 3, .aload 0, .dload 1203, .iload 3, .iconst 4, .idiv, .iaload, .iconst 24, .iconst 8, .iload 3, .iconst 4, .irem, .imul, .isub, .ishr, .iconst 255, .iand, .iastore, .iinc 3 1, .goto 32, .return_]
noncomputable def am_c175 : List Instr := [.iconst 7, .istore 3, .iload 3, .ifCond .lt 20, .lload 1, .iconst 8, .iload 3, .imul, .lshr, .l2i, .iconst 255, .iand, .istore 4, .iload 4, .ifCond .eq 18, .aload 0, .iload 4, .invokevirtual 172, .iinc 3 (-1), .goto 2, .return_]
noncomputable def am_c176 : List Instr := [.aload 0, .invokevirtual 170, .aload 0, .lload 1, .invokevirtual 175, .aload 0, .iconst 58, .invokevirtual 172, .iconst 0, .istore 5, .iload 5, .aload 0, .getfield 1228, .if_icmp .ge 22, .aload 0, .aload 0, .dload 1227, .iload 5, .iaload, .invokevirtual 172, .iinc 5 1, .goto 10, .aload 0, .iconst 58, .invokevirtual 172, .aload 0, .lload 3, .invokevirtual 175, .aload 0, .invokevirtual 174, .iconst 0, .istore 5, .iload 5, .iconst 32, .if_icmp .ge 45, .aload 0, .dload 1212, .iload 5, .aload 0, .dload 1211, .iload 5, .iaload, .iastore, .iinc 5 1, .goto 32, .return_]
noncomputable def am_c177 : List Instr := [.iload 2, .iconst 36, .iadd, .iconst 20, .isub, .istore 3, .aload 0, .invokevirtual 170, .iconst 0, .istore 4, .iload 4, .iconst 64, .if_icmp .ge 28, .aload 0, .iconst 54, .iload 4, .iconst 32, .if_icmp .ge 23, .aload 0, .dload 1212, .iload 4, .iaload, .goto 24, .iconst 0, .ixor, .invokevirtual 172, .iinc 4 1, .goto 10, .iconst 0, .istore 4, .iload 4, .iload 2, .if_icmp .ge 52, .aload 0, .iload 4, .iconst 2, .if_icmp .ne 41, .iload 3, .iconst 8, .ishr, .goto 49, .iload 4, .iconst 3, .if_icmp .ne 46, .iload 3, .goto 49, .aload 1, .iload 4, .iaload, .invokevirtual 172, .iinc 4 1, .goto 30, .aload 0, .invokevirtual 174, .iconst 0, .istore 4, .iload 4, .iconst 32, .if_icmp .ge 69, .aload 0, .dload 1213, .iload 4, .aload 0, .dload 1211, .iload 4, .iaload, .iastore, .iinc 4 1, .goto 56, .aload 0, .invokevirtual 170, .iconst 0, .istore 4, .iload 4, .iconst 64, .if_icmp .ge 91, .aload 0, .iconst 92, .iload 4, .iconst 32, .if_icmp .ge 86, .aload 0, .dload 1212, .iload 4, .iaload, .goto 87, .iconst 0, .ixor, .invokevirtual 172, .iinc 4 1, .goto 73, .iconst 0, .istore 4, .iload 4, .iconst 32, .if_icmp .ge 104, .aload 0, .aload 0, .dload 1213, .iload 4, .iaload, .invokevirtual 172, .iinc 4 1, .goto 93, .aload 0, .invokevirtual 174, .return_]
noncomputable def am_c178 : List Instr := [.iconst (-1), .istore 2, .iconst 0, .istore 3, .iload 3, .iload 1, .if_icmp .ge 37, .iload 2, .aload 0, .iload 3, .iaload, .ixor, .istore 2, .iconst 0, .istore 4, .iload 4, .iconst 8, .if_icmp .ge 35, .iload 2, .iconst 1, .iand, .iconst 1, .if_icmp .ne 29, .iload 2, .iconst 1, .iushr, .iconst (-306674912), .ixor, .goto 32, .iload 2, .iconst 1, .iushr, .istore 2, .iinc 4 1, .goto 15, .iinc 3 1, .goto 4, .iload 2, .iconst (-1), .ixor, .iconst 1398035790, .ixor, .ireturn]
noncomputable def am_c179 : List Instr := [.aload 0, .iload 1, .iaload, .iconst 8, .ishl, .aload 0, .iload 1, .iconst 1, .iadd, .iaload, .ior, .ireturn]
noncomputable def am_c180 : List Instr := [.aload 0, .iload 1, .invokestatic 179, .iconst 16, .ishl, .aload 0, .iload 1, .iconst 2, .iadd, .invokestatic 179, .ior, .ireturn]
noncomputable def am_c181 : List Instr := [.aload 0, .iload 1, .iload 2, .iconst 8, .ishr, .iconst 255, .iand, .iastore, .aload 0, .iload 1, .iconst 1, .iadd, .iload 2, .iconst 255, .iand, .iastore, .return_]
noncomputable def am_c182 : List Instr := [.aload 0, .iload 1, .iload 2, .iconst 16, .ishr, .invokestatic 181, .aload 0, .iload 1, .iconst 2, .iadd, .iload 2, .invokestatic 181, .return_]
noncomputable def am_c183 : List Instr := [.aload 0, .iconst 0, .putfield 1200, .aload 0, .getfield 1215, .iconst 20, .iadd, .iconst 400, .if_icmp .le 11, .iconst (-1), .ireturn, .aload 0, .dload 1214, .aload 0, .getfield 1215, .iload 1, .invokestatic 182, .aload 0, .dload 1214, .aload 0, .getfield 1215, .iconst 4, .iadd, .iload 2, .invokestatic 182, .aload 0, .dload 1214, .aload 0, .getfield 1215, .iconst 8, .iadd, .iload 3, .invokestatic 182, .aload 0, .dload 1214, .aload 0, .getfield 1215, .iconst 12, .iadd, .iload 4, .invokestatic 182, .aload 0, .dload 1214, .aload 0, .getfield 1215, .iconst 16, .iadd, .iload 5, .invokestatic 182, .aload 0, .dup, .getfield 1215, .iconst 20, .iadd, .putfield 1215, .aload 0, .getfield 1215, .ireturn]
noncomputable def am_c184 : List Instr := [.aload 0, .iconst 0, .putfield 1200, .iload 1, .ifCond .lt 9, .iload 1, .aload 0, .getfield 1215, .if_icmp .le 11, .iconst (-1), .ireturn, .aload 0, .iload 1, .putfield 1215, .iload 1, .ireturn]
noncomputable def am_c185 : List Instr := [.aload 0, .iconst 0, .putfield 1200, .iload 1, .i2l, .goto_w 0, .goto_w 16383, .invokestatic 166, .ifCond .ne 11, .iconst (-1), .ireturn, .aload 0, .dload 1214, .iconst 0, .iload 1, .invokestatic 181, .aload 0, .dload 1214, .iconst 2, .iconst 0, .invokestatic 181, .aload 0, .dload 1214, .iconst 4, .iconst 554869826, .invokestatic 182, .aload 0, .dload 1214, .iconst 8, .iload 2, .invokestatic 182, .aload 0, .dload 1214, .iconst 12, .iload 3, .invokestatic 182, .aload 0, .dload 1214, .iconst 16, .iload 4, .invokestatic 182, .aload 0, .iconst 20, .putfield 1215, .iconst 20, .ireturn]
noncomputable def am_c186 : List Instr := [.iconst 4, .iload 2, .iconst 3, .iadd, .iconst 4, .idiv, .iconst 4, .imul, .iadd, .istore 3, .iload 1, .i2l, .goto_w 0, .goto_w 65535, .invokestatic 166, .ifCond .eq 31, .aload 0, .getfield 1215, .iconst 20, .if_icmp .lt 31, .aload 0, .getfield 1215, .iconst 4, .irem, .ifCond .ne 31, .aload 0, .getfield 1215, .iload 3, .iadd, .iconst 400, .if_icmp .le 33, .iconst 0, .ireturn, .aload 0, .dload 1214, .aload 0, .getfield 1215, .iload 1, .invokestatic 181, .aload 0, .dload 1214, .aload 0, .getfield 1215, .iconst 2, .iadd, .iload 2, .invokestatic 181, .iconst 4, .istore 4, .iload 4, .iload 3, .if_icmp .ge 62, .aload 0, .dload 1214, .aload 0, .getfield 1215, .iload 4, .iadd, .iconst 0, .iastore, .iinc 4 1, .goto 49, .aload 0, .dup, .getfield 1215, .iload 3, .iadd, .putfield 1215, .aload 0, .dload 1214, .iconst 2, .aload 0, .getfield 1215, .iconst 20, .isub, .invokestatic 181, .iconst 1, .ireturn]
noncomputable def am_c187 : List Instr := [.aload 0, .iconst 0, .putfield 1200, .iload 2, .i2l, .goto_w 0, .goto_w 4, .invokestatic 166, .ifCond .eq 14, .aload 0, .iload 1, .iload 2, .invokevirtual 186, .ifCond .ne 16, .iconst (-1), .ireturn, .aload 0, .getfield 1215, .iload 2, .iconst 3, .iadd, .iconst 4, .idiv, .iconst 4, .imul, .isub, .istore 4, .iconst 0, .istore 5, .iload 5, .iload 2, .if_icmp .ge 51, .aload 0, .dload 1214, .iload 4, .iload 5, .iadd, .iload 3, .iconst 8, .iload 2, .iconst 1, .isub, .iload 5, .isub, .imul, .ishr, .iconst 255, .iand, .iastore, .iinc 5 1, .goto 29, .aload 0, .getfield 1215, .ireturn]
noncomputable def am_c188 : List Instr := [.iconst 7, .istore 3, .iload 3, .ifCond .lt 29, .lload 1, .iconst 8, .iload 3, .imul, .lshr, .l2i, .iconst 255, .iand, .istore 4, .iload 4, .ifCond .eq 27, .aload 0, .dload 1222, .aload 0, .getfield 1223, .iload 4, .iastore, .aload 0, .dup, .getfield 1223, .iconst 1, .iadd, .putfield 1223, .iinc 3 (-1), .goto 2, .return_]
noncomputable def am_c189 : List Instr := [.aload 0, .iconst 0, .putfield 1200, .aload 0, .iconst 0, .putfield 1223, .aload 0, .lload 2, .invokevirtual 188, .aload 0, .lload 4, .invokevirtual 188, .aload 0, .iload 1, .aload 0, .getfield 1223, .invokevirtual 186, .ifCond .ne 20, .iconst (-1), .ireturn, .aload 0, .getfield 1215, .aload 0, .getfield 1223, .iconst 3, .iadd, .iconst 4, .idiv, .iconst 4, .imul, .isub, .istore 6, .iconst 0, .istore 7, .iload 7, .aload 0, .getfield 1223, .if_icmp .ge 50, .aload 0, .dload 1214, .iload 6, .iload 7, .iadd, .aload 0, .dload 1222, .iload 7, .iaload, .iastore, .iinc 7 1, .goto 34, .aload 0, .getfield 1215, .ireturn]
noncomputable def am_c190 : List Instr := [.aload 0, .iconst 0, .putfield 1200, .aload 0, .iload 1, .iconst 8, .invokevirtual 186, .ifCond .ne 10, .iconst (-1), .ireturn, .aload 0, .dload 1214, .aload 0, .getfield 1215, .iconst 8, .isub, .lload 2, .iconst 32, .lshr, .l2i, .invokestatic 182, .aload 0, .dload 1214, .aload 0, .getfield 1215, .iconst 4, .isub, .lload 2, .l2i, .invokestatic 182, .aload 0, .getfield 1215, .ireturn]
noncomputable def am_c191 : List Instr := [.aload 0, .iconst 0, .putfield 1200, .iload 3, .i2l, .goto_w 0, .goto_w 65535, .invokestatic 166, .ifCond .eq 14, .aload 0, .iload 1, .iconst 8, .invokevirtual 186, .ifCond .ne 16, .iconst (-1), .ireturn, .aload 0, .dload 1214, .aload 0, .getfield 1215, .iconst 8, .isub, .iload 2, .iload 3, .invokestatic 192, .aload 0, .getfield 1215, .ireturn]
noncomputable def am_c192 : List Instr := [.aload 0, .iload 1, .iconst 0, .iastore, .aload 0, .iload 1, .iconst 1, .iadd, .iconst 1, .iastore, .aload 0, .iload 1, .iconst 2, .iadd, .iload 3, .iconst 8466, .ixor, .invokestatic 181, .aload 0, .iload 1, .iconst 4, .iadd, .iload 2, .iconst 554869826, .ixor, .invokestatic 182, .return_]
noncomputable def am_c193 : List Instr := [.aload 0, .iconst 0, .putfield 1223, .aload 0, .lload 1, .invokevirtual 188, .aload 0, .getfield 1223, .ifCond .le 11, .iconst 1, .goto 12, .iconst 0, .istore 3, .iconst 0, .istore 4, .iload 4, .aload 0, .getfield 1223, .if_icmp .ge 42, .iload 3, .ifCond .eq 38, .aload 0, .dload 1222, .iload 4, .iaload, .i2l, .goto_w 33, .goto_w 126, .invokestatic 166, .ifCond .eq 38, .aload 0, .dload 1222, .iload 4, .iaload, .iconst 58, .if_icmp .eq 38, .iconst 1, .goto 39, .iconst 0, .istore 3, .iinc 4 1, .goto 15, .iload 3, .ireturn]
noncomputable def am_c194 : List Instr := [.aload 0, .iconst 0, .putfield 1200, .aload 0, .lload 1, .invokevirtual 193, .ifCond .eq 16, .aload 0, .lload 3, .invokevirtual 193, .ifCond .eq 16, .aload 0, .iconst 28, .iconst 32, .invokevirtual 186, .ifCond .ne 18, .iconst (-1), .ireturn, .aload 0, .lload 1, .lload 3, .invokevirtual 176, .aload 0, .aload 0, .dload 1214, .aload 0, .getfield 1215, .iconst 36, .isub, .invokevirtual 177, .iconst 0, .istore 5, .iload 5, .iconst 32, .if_icmp .ge 50, .aload 0, .dload 1214, .aload 0, .getfield 1215, .iconst 32, .isub, .iload 5, .iadd, .aload 0, .dload 1211, .iload 5, .iaload, .iastore, .iinc 5 1, .goto 32, .aload 0, .getfield 1215, .ireturn]
noncomputable def am_c195 : List Instr := [.aload 0, .iconst 0, .putfield 1200, .aload 0, .iconst 32808, .iconst 4, .invokevirtual 186, .ifCond .ne 10, .iconst (-1), .ireturn, .aload 0, .dload 1214, .aload 0, .getfield 1215, .iconst 4, .isub, .aload 0, .dload 1214, .aload 0, .getfield 1215, .iconst 8, .isub, .invokestatic 178, .invokestatic 182, .aload 0, .getfield 1215, .ireturn]
noncomputable def am_c196 : List Instr := [.aload 0, .iconst 0, .putfield 1200, .iload 1, .ifCond .lt 14, .iload 1, .aload 0, .getfield 1215, .if_icmp .ge 14, .aload 0, .dload 1214, .iload 1, .iaload, .goto 15, .iconst (-1), .ireturn]
noncomputable def am_c197 : List Instr := [.aload 0, .iconst 0, .putfield 1200, .iload 1, .ifCond .lt 15, .iload 1, .aload 0, .getfield 1215, .if_icmp .ge 15, .iload 2, .i2l, .goto_w 1, .goto_w 255, .invokestatic 166, .ifCond .ne 17, .iconst (-1), .ireturn, .aload 0, .dload 1214, .iload 1, .aload 0, .dload 1214, .iload 1, .iaload, .iload 2, .ixor, .iastore, .aload 0, .dload 1214, .iload 1, .iaload, .ireturn]
noncomputable def am_c198 : List Instr := [.goto_w 0, .lstore 2, .iconst 7, .istore 4, .iload 4, .ifCond .lt 28, .lload 0, .iconst 8, .iload 4, .imul, .lshr, .goto_w 255, .land, .lstore 5, .lload 5, .goto_w 0, .lcmp, .ifCond .ne 20, .lload 2, .goto 25, .lload 2, .iconst 8, .lshl, .lload 5, .lor, .lstore 2, .iinc 4 (-1), .goto 4, .lload 2, .lreturn]
noncomputable def am_c199 : List Instr := [.aload 0, .getfield 1226, .iconst 1, .isub, .istore 3, .iload 3, .ifCond .lt 16, .aload 0, .dload 1224, .iload 3, .laload, .lload 1, .lcmp, .ifCond .eq 16, .iinc 3 (-1), .goto 5, .iload 3, .ireturn]
noncomputable def am_c200 : List Instr := [.aload 0, .iconst 0, .putfield 1200, .aload 0, .lload 1, .invokevirtual 193, .ifCond .eq 11, .aload 0, .lload 3, .invokevirtual 193, .ifCond .ne 13, .iconst (-1), .ireturn, .aload 0, .lload 1, .invokestatic 198, .invokevirtual 199, .istore 5, .iload 5, .ifCond .ge 26, .aload 0, .getfield 1226, .iconst 8, .if_icmp .ne 26, .iconst (-1), .ireturn, .iload 5, .ifCond .ge 43, .aload 0, .getfield 1226, .istore 5, .aload 0, .dload 1224, .iload 5, .lload 1, .invokestatic 198, .lastore, .aload 0, .dup, .getfield 1226, .iconst 1, .iadd, .putfield 1226, .aload 0, .dload 1225, .iload 5, .lload 3, .lastore, .aload 0, .getfield 1226, .ireturn]
noncomputable def am_c201 : List Instr := [.aload 0, .iconst 0, .putfield 1200, .aload 0, .lload 1, .invokevirtual 193, .ifCond .ne 9, .iconst (-1), .ireturn, .aload 0, .aload 0, .getfield 1223, .putfield 1228, .iconst 0, .istore 3, .iload 3, .aload 0, .getfield 1223, .if_icmp .ge 29, .aload 0, .dload 1227, .iload 3, .aload 0, .dload 1222, .iload 3, .iaload, .iastore, .iinc 3 1, .goto 15, .aload 0, .getfield 1226, .ireturn]
noncomputable def am_c202 : List Instr := [.aload 0, .iconst 0, .putfield 1200, .aload 0, .lload 1, .fstore 1229, .iconst 0, .ireturn]
noncomputable def am_c203 : List Instr := [.aload 0, .iconst 0, .putfield 1200, .iload 1, .i2l, .goto_w 0, .goto_w 8, .invokestatic 166, .ifCond .ne 11, .iconst (-1), .ireturn, .aload 0, .getfield 1230, .istore 2, .aload 0, .iload 1, .putfield 1230, .iload 2, .ireturn]
noncomputable def am_c204 : List Instr := [.aload 0, .iconst 0, .putfield 1200, .iload 2, .i2l, .goto_w 0, .goto_w 32, .invokestatic 166, .ifCond .eq 13, .aload 0, .getfield 1233, .iconst 4, .if_icmp .ne 15, .iconst (-1), .ireturn, .aload 0, .dload 1231, .aload 0, .getfield 1233, .iload 1, .iastore, .aload 0, .dload 1232, .aload 0, .getfield 1233, .iload 2, .iastore, .aload 0, .dup, .getfield 1233, .iconst 1, .iadd, .putfield 1233, .aload 0, .getfield 1233, .ireturn]
noncomputable def am_c205 : List Instr := [.iconst 0, .istore 2, .iconst 0, .istore 3, .iload 3, .aload 0, .getfield 1233, .if_icmp .ge 37, .aload 0, .dload 1232, .iload 3, .iaload, .istore 4, .iload 2, .ifCond .ne 31, .iload 4, .ifCond .eq 31, .iload 1, .iconst 32, .iload 4, .isub, .ishr, .aload 0, .dload 1231, .iload 3, .iaload, .iconst 32, .iload 4, .isub, .ishr, .if_icmp .ne 33, .iconst 1, .goto 34, .iconst 0, .istore 2, .iinc 3 1, .goto 4, .iload 2, .ireturn]
noncomputable def am_c206 : List Instr := [.iconst 0, .istore 1, .iconst 0, .istore 2, .iload 2, .iconst 8, .if_icmp .ge 95, .aload 0, .dload 1235, .iload 2, .caload, .ifCond .ne 13, .goto 93, .aload 0, .dload 1240, .iload 2, .laload, .aload 0, .fload 1234, .lcmp, .ifCond .gt 28, .aload 0, .dload 1235, .iload 2, .iconst 0, .castore, .iinc 1 1, .goto 93, .iconst 0, .istore 3, .iconst 0, .istore 4, .iload 4, .aload 0, .dload 1242, .iload 2, .iaload, .if_icmp .ge 85, .aload 0, .dload 1244, .iconst 16, .iload 2, .imul, .iload 4, .iadd, .laload, .aload 0, .fload 1234, .lcmp, .ifCond .le 83, .aload 0, .dload 1243, .iconst 16, .iload 2, .imul, .iload 3, .iadd, .aload 0, .dload 1243, .iconst 16, .iload 2, .imul, .iload 4, .iadd, .iaload, .iastore, .aload 0, .dload 1244, .iconst 16, .iload 2, .imul, .iload 3, .iadd, .aload 0, .dload 1244, .iconst 16, .iload 2, .imul, .iload 4, .iadd, .laload, .lastore, .iinc 3 1, .iinc 4 1, .goto 32, .aload 0, .dload 1242, .iload 2, .iload 3, .iastore, .aload 0, .iload 2, .invokevirtual 207, .iinc 2 1, .goto 4, .iload 1, .ireturn]
noncomputable def am_c207 : List Instr := [.iconst 0, .istore 2, .iconst 0, .istore 3, .iload 3, .aload 0, .dload 1245, .iload 1, .iaload, .if_icmp .ge 65, .iconst 8, .iload 1, .imul, .iload 3, .iadd, .istore 4, .iconst 8, .iload 1, .imul, .iload 2, .iadd, .istore 5, .aload 0, .dload 1249, .iload 4, .laload, .aload 0, .fload 1234, .lcmp, .ifCond .le 63, .aload 0, .dload 1246, .iload 5, .aload 0, .dload 1246, .iload 4, .iaload, .iastore, .aload 0, .dload 1247, .iload 5, .aload 0, .dload 1247, .iload 4, .iaload, .iastore, .aload 0, .dload 1248, .iload 5, .aload 0, .dload 1248, .iload 4, .iaload, .iastore, .aload 0, .dload 1249, .iload 5, .aload 0, .dload 1249, .iload 4, .laload, .lastore, .iinc 2 1, .iinc 3 1, .goto 4, .aload 0, .dload 1245, .iload 1, .iload 2, .iastore, .return_]
noncomputable def am_c208 : List Instr := [.aload 0, .iconst 0, .putfield 1200, .iload 1, .i2l, .goto_w 0, .goto_w 10000, .invokestatic 166, .ifCond .ne 11, .iconst (-1), .ireturn, .aload 0, .dup, .fload 1234, .iload 1, .i2l, .ladd, .fstore 1234, .aload 0, .invokevirtual 206, .ireturn]
noncomputable def am_c209 : List Instr := [.iconst 7, .istore 3, .iload 3, .ifCond .lt 23, .aload 0, .dload 1235, .iload 3, .caload, .ifCond .eq 21, .aload 0, .dload 1236, .iload 3, .iaload, .iload 1, .if_icmp .ne 21, .aload 0, .dload 1237, .iload 3, .iaload, .iload 2, .if_icmp .eq 23, .iinc 3 (-1), .goto 2, .iload 3, .ireturn]
noncomputable def am_c210 : List Instr := [.aload 0, .dload 1242, .iload 1, .iaload, .iconst 1, .isub, .istore 3, .iload 3, .ifCond .lt 21, .aload 0, .dload 1243, .iconst 16, .iload 1, .imul, .iload 3, .iadd, .iaload, .iload 2, .if_icmp .eq 21, .iinc 3 (-1), .goto 7, .iload 3, .ireturn]
noncomputable def am_c211 : List Instr := [.aload 0, .dload 1245, .iload 1, .iaload, .iconst 1, .isub, .istore 3, .iload 3, .ifCond .lt 21, .aload 0, .dload 1246, .iconst 8, .iload 1, .imul, .iload 3, .iadd, .iaload, .iload 2, .if_icmp .eq 21, .iinc 3 (-1), .goto 7, .iload 3, .ireturn]
noncomputable def am_c212 : List Instr := [.aload 0, .dload 1245, .iload 1, .iaload, .iconst 1, .isub, .istore 4, .iload 4, .ifCond .lt 31, .aload 0, .dload 1247, .iconst 8, .iload 1, .imul, .iload 4, .iadd, .iaload, .iload 2, .if_icmp .ne 29, .aload 0, .dload 1248, .iconst 8, .iload 1, .imul, .iload 4, .iadd, .iaload, .iload 3, .if_icmp .eq 31, .iinc 4 (-1), .goto 7, .iload 4, .ireturn]
noncomputable def am_c213 : List Instr := [.aload 0, .iload 1, .iload 2, .invokevirtual 210, .istore 3, .iload 3, .ifCond .ge 29, .aload 0, .dload 1242, .iload 1, .iaload, .istore 3, .aload 0, .dload 1243, .iconst 16, .iload 1, .imul, .iload 3, .iadd, .iload 2, .iastore, .aload 0, .dload 1242, .iload 1, .dup2, .iaload, .iconst 1, .iadd, .iastore, .aload 0, .dload 1244, .iconst 16, .iload 1, .imul, .iload 3, .iadd, .aload 0, .fload 1234, .goto_w 300, .ladd, .lastore, .return_]
noncomputable def am_c214 : List Instr := [.iload 2, .iconst 20, .if_icmp .lt 20, .aload 1, .iconst 0, .iaload, .iconst 63, .if_icmp .gt 20, .aload 1, .iconst 4, .invokestatic 180, .iconst 554869826, .if_icmp .ne 20, .aload 1, .iconst 2, .invokestatic 179, .iload 2, .iconst 20, .isub, .if_icmp .eq 22, .iconst 0, .ireturn, .aload 0, .iconst 0, .putfield 1253, .aload 0, .iconst (-1), .putfield 1254, .aload 0, .iconst (-1), .putfield 1255, .aload 0, .iconst (-1), .putfield 1256, .iconst 20, .istore 3, .iload 3, .iload 2, .if_icmp .ge 84, .iload 3, .iconst 4, .iadd, .iload 2, .if_icmp .le 46, .iconst 0, .ireturn, .aload 1, .iload 3, .iconst 2, .iadd, .invokestatic 179, .istore 4, .iconst 4, .iload 4, .iconst 3, .iadd, .iconst 4, .idiv, .iconst 4, .imul, .iadd, .istore 5, .iload 3, .iload 5, .iadd, .iload 2, .if_icmp .le 69, .iconst 0, .ireturn, .aload 0, .iload 3, .putfield 1256, .aload 0, .aload 1, .iload 3, .invokestatic 179, .iload 4, .iload 3, .invokevirtual 215, .iload 3, .iload 5, .iadd, .istore 3, .goto 36, .iconst 1, .ireturn]
noncomputable def am_c215 : List Instr := [.iload 1, .iconst 32808, .if_icmp .ne 12, .iload 2, .iconst 4, .if_icmp .ne 12, .aload 0, .getfield 1255, .ifCond .ge 12, .aload 0, .iload 3, .putfield 1255, .aload 0, .getfield 1254, .ifCond .lt 16, .return_, .iload 1, .iconst 28, .if_icmp .ne 25, .iload 2, .iconst 32, .if_icmp .ne 25, .aload 0, .iload 3, .putfield 1254, .aload 0, .dload 1250, .aload 0, .getfield 1253, .iload 1, .iastore, .aload 0, .dload 1251, .aload 0, .getfield 1253, .iload 2, .iastore, .aload 0, .dload 1252, .aload 0, .getfield 1253, .iload 3, .iconst 4, .iadd, .iastore, .aload 0, .dup, .getfield 1253, .iconst 1, .iadd, .putfield 1253, .return_]
noncomputable def am_c216 : List Instr := [.aload 0, .dload 1251, .iload 1, .iaload, .iconst 8, .if_icmp .ne 19, .aload 0, .dload 1214, .aload 0, .dload 1252, .iload 1, .iaload, .iconst 1, .iadd, .iaload, .iconst 1, .if_icmp .ne 19, .iconst 1, .goto 20, .iconst 0, .ireturn]
noncomputable def am_c217 : List Instr := [.aload 0, .dload 1250, .iload 1, .iaload, .istore 2, .aload 0, .dload 1251, .iload 1, .iaload, .istore 3, .iload 2, .lookupswitch 36 #[(6, 12), (7, 36), (8, 36), (9, 36), (10, 36), (11, 36), (12, 18), (13, 18), (14, 36), (15, 36), (16, 36), (17, 36), (18, 25), (19, 36), (20, 12), (21, 29), (22, 36), (23, 36), (24, 36), (25, 18)], .iload 3, .i2l, .goto_w 1, .goto_w 8, .invokestatic 166, .ireturn, .iload 3, .iconst 4, .if_icmp .ne 23, .iconst 1, .goto 24, .iconst 0, .ireturn, .aload 0, .iload 1, .invokevirtual 216, .ireturn, .iload 3, .iconst 8, .if_icmp .ne 34, .iconst 1, .goto 35, .iconst 0, .ireturn, .iconst 1, .ireturn]
noncomputable def am_c218 : List Instr := [.iconst 0, .istore 2, .iload 2, .aload 0, .getfield 1253, .if_icmp .ge 20, .aload 0, .dload 1250, .iload 2, .iaload, .iload 1, .if_icmp .ne 18, .aload 0, .iload 2, .invokevirtual 217, .ifCond .eq 18, .iload 2, .ireturn, .iinc 2 1, .goto 2, .iconst (-1), .ireturn]
noncomputable def am_c219 : List Instr := [.iload 0, .iconst 6, .if_icmp .eq 39, .iload 0, .iconst 9, .if_icmp .eq 39, .iload 0, .iconst 10, .if_icmp .eq 39, .iload 0, .iconst 12, .if_icmp .eq 39, .iload 0, .iconst 13, .if_icmp .eq 39, .iload 0, .iconst 18, .if_icmp .eq 39, .iload 0, .iconst 19, .if_icmp .eq 39, .iload 0, .iconst 20, .if_icmp .eq 39, .iload 0, .iconst 21, .if_icmp .eq 39, .iload 0, .iconst 22, .if_icmp .eq 39, .iload 0, .iconst 25, .if_icmp .eq 39, .iload 0, .iconst 28, .if_icmp .eq 39, .iload 0, .iconst 32, .if_icmp .ne 41, .iconst 1, .goto 42, .iconst 0, .ireturn]
noncomputable def am_c220 : List Instr := [.aload 0, .iconst 0, .putfield 1258, .iconst 0, .istore 1, .iload 1, .aload 0, .getfield 1253, .if_icmp .ge 64, .aload 0, .dload 1250, .iload 1, .iaload, .istore 2, .iload 2, .iconst 32768, .if_icmp .ge 26, .iload 2, .invokestatic 219, .ifCond .ne 26, .aload 0, .getfield 1258, .iconst 8, .if_icmp .ge 26, .iconst 1, .goto 27, .iconst 0, .istore 3, .iconst 0, .istore 4, .iload 4, .aload 0, .getfield 1258, .if_icmp .ge 48, .iload 3, .ifCond .eq 48, .aload 0, .dload 1257, .iload 4, .iaload, .iload 2, .if_icmp .eq 44, .iconst 1, .goto 45, .iconst 0, .istore 3, .iinc 4 1, .goto 30, .iload 3, .ifCond .eq 62, .aload 0, .dload 1257, .aload 0, .getfield 1258, .iload 2, .iastore, .aload 0, .dup, .getfield 1258, .iconst 1, .iadd, .putfield 1258, .iinc 1 1, .goto 5, .return_]
noncomputable def am_c221 : List Instr := [.aload 0, .dload 1214, .aload 0, .dload 1252, .iload 1, .iaload, .iconst 4, .iadd, .invokestatic 180, .iconst 554869826, .ixor, .ireturn]
noncomputable def am_c222 : List Instr := [.aload 0, .dload 1214, .aload 0, .dload 1252, .iload 1, .iaload, .iconst 2, .iadd, .invokestatic 179, .iconst 8466, .ixor, .ireturn]
noncomputable def am_c223 : List Instr := [.aload 0, .iconst 1, .putstatic 1218, .aload 0, .iload 1, .putfield 1219, .aload 0, .iload 2, .putfield 1220, .aload 0, .iload 3, .putfield 1221, .aload 0, .dup, .getfield 1259, .iconst 1, .iadd, .putfield 1259, .return_]
noncomputable def am_c224 : List Instr := [.aload 0, .iconst 0, .putstatic 1218, .aload 0, .iconst 0, .putfield 1217, .return_]
noncomputable def am_c225 : List Instr := [.aload 0, .dload 1216, .iconst 0, .iload 1, .iload 2, .invokestatic 226, .invokestatic 181, .aload 0, .dload 1216, .iconst 2, .iconst 0, .invokestatic 181, .aload 0, .dload 1216, .iconst 4, .iconst 554869826, .invokestatic 182, .iconst 8, .istore 3, .iload 3, .iconst 20, .if_icmp .ge 32, .aload 0, .dload 1216, .iload 3, .aload 0, .dload 1214, .iload 3, .iaload, .iastore, .iinc 3 1, .goto 19, .aload 0, .iconst 20, .putfield 1217, .return_]
noncomputable def am_c226 : List Instr := [.iload 0, .iconst 15, .iand, .iload 1, .iconst 1, .iand, .iconst 4, .ishl, .ior, .iload 0, .iconst 4, .ishr, .iconst 7, .iand, .iconst 5, .ishl, .ior, .iload 1, .iconst 1, .ishr, .iconst 8, .ishl, .ior, .iload 0, .iconst 7, .ishr, .iconst 31, .iand, .iconst 9, .ishl, .ior, .ireturn]
noncomputable def am_c227 : List Instr := [.iload 0, .iconst 15, .iand, .iload 0, .iconst 5, .ishr, .iconst 7, .iand, .iconst 4, .ishl, .ior, .iload 0, .iconst 9, .ishr, .iconst 31, .iand, .iconst 7, .ishl, .ior, .ireturn]
noncomputable def am_c228 : List Instr := [.iload 0, .iconst 4, .ishr, .iconst 1, .iand, .iload 0, .iconst 8, .ishr, .iconst 1, .iand, .iconst 1, .ishl, .ior, .ireturn]
noncomputable def am_c229 : List Instr := [.aload 0, .getfield 1217, .iconst 4, .iadd, .istore 3, .aload 0, .dload 1216, .aload 0, .getfield 1217, .iload 1, .invokestatic 181, .aload 0, .dload 1216, .aload 0, .getfield 1217, .iconst 2, .iadd, .iload 2, .invokestatic 181, .iconst 4, .iload 2, .iconst 3, .iadd, .iconst 4, .idiv, .iconst 4, .imul, .iadd, .istore 4, .iconst 4, .istore 5, .iload 5, .iload 4, .if_icmp .ge 44, .aload 0, .dload 1216, .aload 0, .getfield 1217, .iload 5, .iadd, .iconst 0, .iastore, .iinc 5 1, .goto 31, .aload 0, .dup, .getfield 1217, .iload 4, .iadd, .putfield 1217, .aload 0, .dload 1216, .iconst 2, .aload 0, .getfield 1217, .iconst 20, .isub, .invokestatic 181, .iload 3, .ireturn]
noncomputable def am_c230 : List Instr := [.aload 0, .dload 1216, .aload 0, .iload 1, .iconst 8, .invokevirtual 229, .iload 2, .iload 3, .invokestatic 192, .return_]
noncomputable def am_c231 : List Instr := [.aload 0, .dload 1216, .aload 0, .iload 1, .iconst 4, .invokevirtual 229, .iload 2, .invokestatic 182, .return_]
noncomputable def am_c232 : List Instr := [.aload 0, .getfield 1267, .ifCond .lt 43, .aload 0, .aload 0, .dload 1224, .aload 0, .getfield 1267, .laload, .aload 0, .dload 1225, .aload 0, .getfield 1267, .laload, .invokevirtual 176, .aload 0, .aload 0, .dload 1216, .aload 0, .getfield 1217, .invokevirtual 177, .aload 0, .iconst 28, .iconst 32, .invokevirtual 229, .istore 1, .iconst 0, .istore 2, .iload 2, .iconst 32, .if_icmp .ge 43, .aload 0, .dload 1216, .iload 1, .iload 2, .iadd, .aload 0, .dload 1211, .iload 2, .iaload, .iastore, .iinc 2 1, .goto 28, .aload 0, .getfield 1255, .ifCond .lt 61, .aload 0, .iconst 32808, .iconst 4, .invokevirtual 229, .istore 1, .aload 0, .dload 1216, .iload 1, .aload 0, .dload 1216, .iload 1, .iconst 4, .isub, .invokestatic 178, .invokestatic 182, .aload 0, .aload 0, .getfield 1265, .aload 0, .getfield 1266, .iconst 3478, .invokevirtual 223, .return_]
noncomputable def am_c233 : List Instr := [.aload 0, .aload 0, .dload 1214, .iconst 0, .invokestatic 179, .invokestatic 227, .iconst 3, .invokevirtual 225, .aload 0, .iconst 9, .iload 1, .iconst 100, .idiv, .iconst 8, .ishl, .iload 1, .iconst 100, .irem, .ior, .invokevirtual 231, .iload 1, .iconst 401, .if_icmp .eq 26, .iload 1, .iconst 438, .if_icmp .ne 73, .aload 0, .iconst 20, .aload 0, .getfield 1228, .invokevirtual 229, .istore 2, .iconst 0, .istore 3, .iload 3, .aload 0, .getfield 1228, .if_icmp .ge 50, .aload 0, .dload 1216, .iload 2, .iload 3, .iadd, .aload 0, .dload 1227, .iload 3, .iaload, .iastore, .iinc 3 1, .goto 34, .aload 0, .iconst 21, .iconst 8, .invokevirtual 229, .istore 3, .aload 0, .dload 1216, .iload 3, .aload 0, .fload 1229, .iconst 32, .lshr, .l2i, .invokestatic 182, .aload 0, .dload 1216, .iload 3, .iconst 4, .iadd, .aload 0, .fload 1229, .l2i, .invokestatic 182, .iload 1, .iconst 420, .if_icmp .ne 104, .aload 0, .iconst 10, .iconst 2, .aload 0, .getfield 1258, .imul, .invokevirtual 229, .istore 2, .iconst 0, .istore 3, .iload 3, .aload 0, .getfield 1258, .if_icmp .ge 104, .aload 0, .dload 1216, .iload 2, .iconst 2, .iload 3, .imul, .iadd, .aload 0, .dload 1257, .iload 3, .iaload, .invokestatic 181, .iinc 3 1, .goto 86, .aload 0, .dup, .getfield 1263, .iconst 1, .iadd, .putfield 1263, .aload 0, .invokevirtual 232, .return_]
noncomputable def am_c234 : List Instr := [.aload 0, .iconst 0, .putfield 1200, .iload 2, .i2l, .goto_w 1, .goto_w 65535, .invokestatic 166, .ifCond .ne 11, .iconst (-1), .ireturn, .aload 0, .invokevirtual 224, .aload 0, .iload 1, .putfield 1265, .aload 0, .iload 2, .putfield 1266, .aload 0, .iconst (-1), .putfield 1267, .aload 0, .invokevirtual 236, .ifCond .eq 32, .aload 0, .aload 0, .iload 1, .iload 2, .invokevirtual 209, .invokevirtual 237, .goto 41, .aload 0, .aload 0, .dload 1214, .aload 0, .getfield 1215, .invokevirtual 214, .ifCond .eq 41, .aload 0, .invokevirtual 239, .aload 0, .invokevirtual 235, .ireturn]
noncomputable def am_c235 : List Instr := [.aload 0, .iconst 0, .putfield 1215, .aload 0, .dup, .getfield 1264, .aload 0, .getfield 1218, .ifCond .eq 11, .iconst 0, .goto 12, .iconst 1, .iadd, .putfield 1264, .aload 0, .getfield 1218, .ifCond .eq 19, .iconst 1, .goto 20, .iconst 0, .ireturn]
noncomputable def am_c236 : List Instr := [.aload 0, .getfield 1215, .iconst 4, .if_icmp .lt 13, .aload 0, .dload 1214, .iconst 0, .invokestatic 179, .i2l, .goto_w 16384, .goto_w 20479, .invokestatic 166, .ifCond .ne 15, .iconst 0, .ireturn, .aload 0, .dload 1214, .iconst 2, .invokestatic 179, .istore 1, .aload 0, .getfield 1215, .i2l, .goto_w 4, .iload 1, .i2l, .ladd, .goto_w 7, .iload 1, .i2l, .ladd, .invokestatic 166, .ireturn]
noncomputable def am_c237 : List Instr := [.iload 1, .ifCond .ge 3, .return_, .aload 0, .iload 1, .aload 0, .dload 1214, .iconst 0, .invokestatic 179, .invokevirtual 211, .istore 2, .iload 2, .ifCond .lt 25, .aload 0, .iload 1, .aload 0, .dload 1247, .iconst 8, .iload 1, .imul, .iload 2, .iadd, .iaload, .invokevirtual 210, .ifCond .ge 26, .return_, .aload 0, .iload 1, .iconst 4, .aload 0, .dload 1214, .iconst 2, .invokestatic 179, .aload 0, .dload 1247, .iconst 8, .iload 1, .imul, .iload 2, .iadd, .iaload, .aload 0, .dload 1248, .iconst 8, .iload 1, .imul, .iload 2, .iadd, .iaload, .invokevirtual 238, .return_]
noncomputable def am_c238 : List Instr := [.iconst 0, .istore 6, .iload 6, .iload 3, .if_icmp .ge 17, .aload 0, .dload 1216, .iload 6, .aload 0, .dload 1214, .iload 2, .iload 6, .iadd, .iaload, .iastore, .iinc 6 1, .goto 2, .aload 0, .iload 3, .putfield 1217, .aload 0, .dup, .getfield 1261, .iconst 1, .iadd, .putfield 1261, .aload 0, .iload 4, .iload 5, .aload 0, .dload 1239, .iload 1, .iaload, .invokevirtual 223, .return_]
noncomputable def am_c239 : List Instr := [.aload 0, .getfield 1255, .ifCond .lt 22, .aload 0, .getfield 1255, .aload 0, .getfield 1256, .if_icmp .ne 21, .aload 0, .dload 1214, .aload 0, .getfield 1255, .iconst 4, .iadd, .invokestatic 180, .aload 0, .dload 1214, .aload 0, .getfield 1255, .invokestatic 178, .if_icmp .eq 22, .return_, .aload 0, .dload 1214, .iconst 0, .invokestatic 179, .istore 1, .iload 1, .invokestatic 227, .istore 2, .aload 0, .invokevirtual 220, .iload 1, .invokestatic 228, .iconst 1, .if_icmp .ne 41, .iload 2, .iconst 6, .if_icmp .ne 41, .aload 0, .invokevirtual 240, .iload 1, .invokestatic 228, .ifCond .eq 45, .return_, .iload 2, .iconst 1, .if_icmp .ne 51, .aload 0, .invokevirtual 241, .goto 70, .iload 2, .iconst 3, .if_icmp .eq 63, .iload 2, .iconst 4, .if_icmp .eq 63, .iload 2, .iconst 8, .if_icmp .eq 63, .iload 2, .iconst 9, .if_icmp .ne 67, .aload 0, .iload 2, .invokevirtual 245, .goto 70, .aload 0, .iconst 400, .invokevirtual 233, .return_]
noncomputable def am_c240 : List Instr := [.aload 0, .iconst 18, .invokevirtual 218, .istore 1, .aload 0, .iconst 19, .invokevirtual 218, .istore 2, .aload 0, .aload 0, .getfield 1265, .aload 0, .getfield 1266, .invokevirtual 209, .istore 3, .iload 1, .ifCond .lt 31, .iload 2, .ifCond .lt 31, .aload 0, .getfield 1258, .ifCond .gt 31, .iload 3, .ifCond .lt 31, .aload 0, .iload 3, .aload 0, .iload 1, .invokevirtual 221, .invokevirtual 210, .ifCond .ge 32, .return_, .aload 0, .iload 3, .aload 0, .dload 1252, .iload 2, .iaload, .aload 0, .dload 1251, .iload 2, .iaload, .aload 0, .iload 1, .invokevirtual 221, .aload 0, .iload 1, .invokevirtual 222, .invokevirtual 238, .return_]
noncomputable def am_c241 : List Instr := [.aload 0, .getfield 1258, .ifCond .le 7, .aload 0, .iconst 420, .invokevirtual 233, .return_, .aload 0, .iconst 1, .iconst 2, .invokevirtual 225, .aload 0, .iconst 32, .aload 0, .getfield 1265, .aload 0, .getfield 1266, .invokevirtual 230, .aload 0, .invokevirtual 232, .return_]
noncomputable def am_c242 : List Instr := [.aload 0, .dload 1251, .iload 1, .iaload, .aload 0, .getfield 1228, .if_icmp .ne 9, .iconst 1, .goto 10, .iconst 0, .istore 2, .iconst 0, .istore 3, .iload 3, .aload 0, .getfield 1228, .if_icmp .ge 39, .iload 2, .ifCond .eq 39, .aload 0, .dload 1214, .aload 0, .dload 1252, .iload 1, .iaload, .iload 3, .iadd, .iaload, .aload 0, .dload 1227, .iload 3, .iaload, .if_icmp .ne 35, .iconst 1, .goto 36, .iconst 0, .istore 2, .iinc 3 1, .goto 13, .iload 2, .ireturn]
noncomputable def am_c243 : List Instr := [.goto_w 0, .lstore 2, .iconst 1, .istore 4, .iconst 0, .istore 5, .iload 5, .aload 0, .dload 1251, .iload 1, .iaload, .if_icmp .ge 45, .iload 4, .ifCond .eq 26, .aload 0, .dload 1214, .aload 0, .dload 1252, .iload 1, .iaload, .iload 5, .iadd, .iaload, .ifCond .eq 26, .iconst 1, .goto 27, .iconst 0, .istore 4, .lload 2, .iconst 8, .lshl, .aload 0, .dload 1214, .aload 0, .dload 1252, .iload 1, .iaload, .iload 5, .iadd, .iaload, .i2l, .lor, .lstore 2, .iinc 5 1, .goto 6, .iload 4, .ifCond .eq 51, .aload 0, .lload 2, .invokevirtual 199, .goto 52, .iconst (-1), .ireturn]
noncomputable def am_c244 : List Instr := [.aload 0, .aload 0, .dload 1224, .iload 1, .laload, .aload 0, .dload 1225, .iload 1, .laload, .invokevirtual 176, .aload 0, .aload 0, .dload 1214, .aload 0, .getfield 1254, .invokevirtual 177, .iconst 1, .istore 2, .iconst 0, .istore 3, .iload 3, .iconst 32, .if_icmp .ge 45, .iload 2, .ifCond .eq 41, .aload 0, .dload 1214, .aload 0, .getfield 1254, .iconst 4, .iadd, .iload 3, .iadd, .iaload, .aload 0, .dload 1211, .iload 3, .iaload, .if_icmp .ne 41, .iconst 1, .goto 42, .iconst 0, .istore 2, .iinc 3 1, .goto 20, .iload 2, .ireturn]
noncomputable def am_c245 : List Instr := [.aload 0, .getfield 1254, .ifCond .ge 7, .aload 0, .iconst 401, .invokevirtual 233, .return_, .aload 0, .iconst 6, .invokevirtual 218, .istore 2, .aload 0, .iconst 20, .invokevirtual 218, .istore 3, .aload 0, .iconst 21, .invokevirtual 218, .istore 4, .iload 2, .ifCond .lt 25, .iload 3, .ifCond .lt 25, .iload 4, .ifCond .ge 29, .aload 0, .iconst 400, .invokevirtual 233, .return_, .aload 0, .dload 1214, .aload 0, .dload 1252, .iload 4, .iaload, .invokestatic 180, .aload 0, .fload 1229, .iconst 32, .lshr, .l2i, .if_icmp .ne 55, .aload 0, .dload 1214, .aload 0, .dload 1252, .iload 4, .iaload, .iconst 4, .iadd, .invokestatic 180, .aload 0, .fload 1229, .l2i, .if_icmp .eq 59, .aload 0, .iconst 438, .invokevirtual 233, .return_, .aload 0, .iload 2, .invokevirtual 243, .istore 5, .iload 5, .ifCond .lt 73, .aload 0, .iload 3, .invokevirtual 242, .ifCond .eq 73, .aload 0, .iload 5, .invokevirtual 244, .ifCond .ne 77, .aload 0, .iconst 401, .invokevirtual 233, .return_, .aload 0, .getfield 1258, .ifCond .le 84, .aload 0, .iconst 420, .invokevirtual 233, .return_, .aload 0, .iload 5, .putfield 1267, .aload 0, .aload 0, .getfield 1265, .aload 0, .getfield 1266, .invokevirtual 209, .istore 6, .iload 1, .iconst 3, .if_icmp .ne 101, .aload 0, .iload 6, .invokevirtual 247, .goto 134, .iload 6, .ifCond .ge 107, .aload 0, .iconst 437, .invokevirtual 233, .goto 134, .aload 0, .dload 1238, .iload 6, .iaload, .iload 5, .if_icmp .eq 117, .aload 0, .iconst 441, .invokevirtual 233, .goto 134, .iload 1, .iconst 4, .if_icmp .ne 124, .aload 0, .iload 6, .invokevirtual 250, .goto 134, .iload 1, .iconst 8, .if_icmp .ne 131, .aload 0, .iload 6, .invokevirtual 251, .goto 134, .aload 0, .iload 6, .invokevirtual 252, .return_]
noncomputable def am_c246 : List Instr := [.aload 0, .iconst 13, .invokevirtual 218, .istore 1, .iload 1, .ifCond .ge 8, .goto_w 600, .goto 18, .aload 0, .dload 1214, .aload 0, .dload 1252, .iload 1, .iaload, .invokestatic 180, .i2l, .goto_w 4294967295, .land, .lstore 2, .lload 2, .goto_w 600, .lcmp, .ifCond .ge 25, .goto_w 600, .goto 32, .lload 2, .goto_w 3600, .lcmp, .ifCond .le 31, .goto_w 3600, .goto 32, .lload 2, .lreturn]
noncomputable def am_c247 : List Instr := [.iload 1, .ifCond .lt 44, .iconst 1, .istore 2, .iconst 0, .istore 3, .iload 3, .iconst 3, .if_icmp .ge 34, .iload 2, .ifCond .eq 30, .aload 0, .dload 1241, .iconst 3, .iload 1, .imul, .iload 3, .iadd, .iaload, .aload 0, .dload 1214, .iconst 8, .iconst 4, .iload 3, .imul, .iadd, .invokestatic 180, .if_icmp .ne 30, .iconst 1, .goto 31, .iconst 0, .istore 2, .iinc 3 1, .goto 6, .iload 2, .ifCond .eq 40, .aload 0, .iload 1, .invokevirtual 249, .goto 43, .aload 0, .iconst 437, .invokevirtual 233, .return_, .aload 0, .iconst 25, .invokevirtual 218, .istore 2, .iload 2, .ifCond .ge 54, .aload 0, .iconst 400, .invokevirtual 233, .return_, .aload 0, .dload 1214, .aload 0, .dload 1252, .iload 2, .iaload, .iaload, .iconst 17, .if_icmp .eq 67, .aload 0, .iconst 442, .invokevirtual 233, .return_, .iconst 0, .istore 3, .iconst (-1), .istore 4, .iconst 7, .istore 5, .iload 5, .ifCond .lt 104, .iload 3, .aload 0, .dload 1235, .iload 5, .caload, .ifCond .eq 90, .aload 0, .dload 1238, .iload 5, .iaload, .aload 0, .getfield 1267, .if_icmp .ne 90, .iconst 1, .goto 91, .iconst 0, .iadd, .istore 3, .aload 0, .dload 1235, .iload 5, .caload, .ifCond .eq 100, .iload 4, .goto 101, .iload 5, .istore 4, .iinc 5 (-1), .goto 73, .iload 3, .aload 0, .getfield 1230, .if_icmp .lt 112, .aload 0, .iconst 486, .invokevirtual 233, .goto 124, .iload 4, .ifCond .ge 118, .aload 0, .iconst 508, .invokevirtual 233, .goto 124, .aload 0, .iload 4, .invokevirtual 248, .aload 0, .iload 4, .invokevirtual 249, .return_]
noncomputable def am_c248 : List Instr := [.iconst 49152, .istore 2, .iconst 1, .istore 3, .iload 3, .ifCond .eq 41, .iconst 0, .istore 3, .iconst 0, .istore 4, .iload 4, .iconst 8, .if_icmp .ge 32, .iload 3, .ifCond .ne 26, .aload 0, .dload 1235, .iload 4, .caload, .ifCond .eq 28, .aload 0, .dload 1239, .iload 4, .iaload, .iload 2, .if_icmp .ne 28, .iconst 1, .goto 29, .iconst 0, .istore 3, .iinc 4 1, .goto 10, .iload 2, .iload 3, .ifCond .eq 37, .iconst 1, .goto 38, .iconst 0, .iadd, .istore 2, .goto 4, .aload 0, .dload 1235, .iload 1, .iconst 1, .castore, .aload 0, .dload 1236, .iload 1, .aload 0, .getfield 1265, .iastore, .aload 0, .dload 1237, .iload 1, .aload 0, .getfield 1266, .iastore, .aload 0, .dload 1238, .iload 1, .aload 0, .getfield 1267, .iastore, .aload 0, .dload 1239, .iload 1, .iload 2, .iastore, .aload 0, .dload 1240, .iload 1, .aload 0, .fload 1234, .aload 0, .invokevirtual 246, .ladd, .lastore, .iconst 0, .istore 4, .iload 4, .iconst 3, .if_icmp .ge 101, .aload 0, .dload 1241, .iconst 3, .iload 1, .imul, .iload 4, .iadd, .aload 0, .dload 1214, .iconst 8, .iconst 4, .iload 4, .imul, .iadd, .invokestatic 180, .iastore, .iinc 4 1, .goto 80, .aload 0, .dload 1242, .iload 1, .iconst 0, .iastore, .aload 0, .dload 1245, .iload 1, .iconst 0, .iastore, .return_]
noncomputable def am_c249 : List Instr := [.aload 0, .iconst 3, .iconst 2, .invokevirtual 225, .aload 0, .iconst 22, .iconst (-1062731519), .aload 0, .dload 1239, .iload 1, .iaload, .invokevirtual 230, .aload 0, .iconst 13, .aload 0, .dload 1240, .iload 1, .laload, .aload 0, .fload 1234, .lsub, .l2i, .invokevirtual 231, .aload 0, .iconst 32, .aload 0, .getfield 1265, .aload 0, .getfield 1266, .invokevirtual 230, .aload 0, .invokevirtual 232, .return_]
noncomputable def am_c250 : List Instr := [.aload 0, .iconst 13, .invokevirtual 218, .istore 2, .iload 2, .ifCond .lt 16, .aload 0, .dload 1214, .aload 0, .dload 1252, .iload 2, .iaload, .invokestatic 180, .ifCond .ne 16, .iconst 1, .goto 17, .iconst 0, .istore 3, .iload 3, .ifCond .eq 26, .aload 0, .dload 1235, .iload 1, .iconst 0, .castore, .goto 35, .aload 0, .dload 1240, .iload 1, .aload 0, .fload 1234, .aload 0, .invokevirtual 246, .ladd, .lastore, .aload 0, .iconst 4, .iconst 2, .invokevirtual 225, .aload 0, .iconst 13, .iload 3, .ifCond .eq 45, .iconst 0, .goto 53, .aload 0, .dload 1240, .iload 1, .laload, .aload 0, .fload 1234, .lsub, .l2i, .invokevirtual 231, .aload 0, .invokevirtual 232, .return_]
noncomputable def am_c251 : List Instr := [.iconst 0, .istore 2, .iconst 0, .istore 3, .iconst 0, .istore 4, .iconst 0, .istore 5, .iload 5, .aload 0, .getfield 1253, .if_icmp .ge 87, .aload 0, .dload 1250, .iload 5, .iaload, .iconst 18, .if_icmp .ne 85, .aload 0, .iload 5, .invokevirtual 217, .ifCond .ne 23, .goto 85, .iinc 2 1, .iload 4, .ifCond .ne 32, .aload 0, .aload 0, .iload 5, .invokevirtual 221, .invokevirtual 205, .ifCond .eq 34, .iconst 1, .goto 35, .iconst 0, .istore 4, .aload 0, .iload 1, .aload 0, .iload 5, .invokevirtual 221, .invokevirtual 210, .ifCond .ge 45, .iconst 1, .goto 46, .iconst 0, .istore 6, .iconst 0, .istore 7, .iload 7, .iload 5, .if_icmp .ge 77, .iload 6, .ifCond .eq 77, .aload 0, .dload 1250, .iload 7, .iaload, .iconst 18, .if_icmp .ne 71, .aload 0, .iload 7, .invokevirtual 217, .ifCond .eq 71, .aload 0, .iload 7, .invokevirtual 221, .aload 0, .iload 5, .invokevirtual 221, .if_icmp .eq 73, .iconst 1, .goto 74, .iconst 0, .istore 6, .iinc 7 1, .goto 49, .iload 3, .iload 6, .ifCond .eq 82, .iconst 1, .goto 83, .iconst 0, .iadd, .istore 3, .iinc 5 1, .goto 8, .iload 2, .ifCond .ne 93, .aload 0, .iconst 400, .invokevirtual 233, .goto 141, .iload 4, .ifCond .eq 99, .aload 0, .iconst 403, .invokevirtual 233, .goto 141, .aload 0, .dload 1242, .iload 1, .iaload, .iload 3, .iadd, .iconst 16, .if_icmp .le 111, .aload 0, .iconst 508, .invokevirtual 233, .goto 141, .iconst 0, .istore 5, .iload 5, .aload 0, .getfield 1253, .if_icmp .ge 135, .aload 0, .dload 1250, .iload 5, .iaload, .iconst 18, .if_icmp .ne 133, .aload 0, .iload 5, .invokevirtual 217, .ifCond .eq 133, .aload 0, .iload 1, .aload 0, .iload 5, .invokevirtual 221, .invokevirtual 213, .iinc 5 1, .goto 113, .aload 0, .iconst 8, .iconst 2, .invokevirtual 225, .aload 0, .invokevirtual 232, .return_]
noncomputable def am_c252 : List Instr := [.aload 0, .iconst 12, .invokevirtual 218, .istore 2, .aload 0, .iconst 18, .invokevirtual 218, .istore 3, .iload 2, .ifCond .lt 24, .iload 3, .ifCond .lt 24, .aload 0, .dload 1214, .aload 0, .dload 1252, .iload 2, .iaload, .invokestatic 179, .i2l, .goto_w 16384, .goto_w 20479, .invokestatic 166, .ifCond .ne 28, .aload 0, .iconst 400, .invokevirtual 233, .return_, .aload 0, .dload 1214, .aload 0, .dload 1252, .iload 2, .iaload, .invokestatic 179, .istore 4, .aload 0, .iload 3, .invokevirtual 221, .istore 5, .aload 0, .iload 3, .invokevirtual 222, .istore 6, .aload 0, .iload 1, .iload 4, .invokevirtual 211, .istore 7, .aload 0, .iload 1, .iload 5, .iload 6, .invokevirtual 212, .istore 8, .iload 7, .iload 8, .if_icmp .eq 62, .aload 0, .iconst 400, .invokevirtual 233, .return_, .aload 0, .iload 5, .invokevirtual 205, .ifCond .eq 70, .aload 0, .iconst 403, .invokevirtual 233, .return_, .iload 7, .ifCond .ge 78, .aload 0, .dload 1245, .iload 1, .iaload, .iconst 8, .if_icmp .eq 89, .aload 0, .iload 1, .iload 5, .invokevirtual 210, .ifCond .ge 93, .aload 0, .dload 1242, .iload 1, .iaload, .iconst 16, .if_icmp .ne 93, .aload 0, .iconst 508, .invokevirtual 233, .return_, .iload 7, .ifCond .ge 135, .aload 0, .dload 1245, .iload 1, .iaload, .istore 7, .aload 0, .dload 1245, .iload 1, .dup2, .iaload, .iconst 1, .iadd, .iastore, .aload 0, .dload 1246, .iconst 8, .iload 1, .imul, .iload 7, .iadd, .iload 4, .iastore, .aload 0, .dload 1247, .iconst 8, .iload 1, .imul, .iload 7, .iadd, .iload 5, .iastore, .aload 0, .dload 1248, .iconst 8, .iload 1, .imul, .iload 7, .iadd, .iload 6, .iastore, .aload 0, .dload 1249, .iconst 8, .iload 1, .imul, .iload 7, .iadd, .aload 0, .fload 1234, .goto_w 600, .ladd, .lastore, .aload 0, .iload 1, .iload 5, .invokevirtual 213, .aload 0, .iconst 9, .iconst 2, .invokevirtual 225, .aload 0, .invokevirtual 232, .return_]
noncomputable def am_c253 : List Instr := [.aload 0, .iconst 0, .putfield 1200, .iload 3, .i2l, .goto_w 1, .goto_w 65535, .invokestatic 166, .ifCond .ne 11, .iconst (-1), .ireturn, .aload 0, .invokevirtual 224, .iconst 7, .istore 4, .iload 4, .ifCond .lt 30, .aload 0, .dload 1235, .iload 4, .caload, .ifCond .eq 28, .aload 0, .dload 1239, .iload 4, .iaload, .iload 1, .if_icmp .eq 30, .iinc 4 (-1), .goto 15, .iload 4, .ifCond .lt 42, .aload 0, .iload 4, .iload 2, .invokevirtual 210, .ifCond .lt 42, .aload 0, .iload 4, .iload 2, .iload 3, .invokevirtual 254, .aload 0, .invokevirtual 235, .ireturn]
noncomputable def am_c254 : List Instr := [.aload 0, .iload 1, .iload 2, .iload 3, .invokevirtual 212, .istore 4, .iload 4, .ifCond .lt 51, .aload 0, .dload 1216, .iconst 0, .aload 0, .dload 1246, .iconst 8, .iload 1, .imul, .iload 4, .iadd, .iaload, .invokestatic 181, .aload 0, .dload 1216, .iconst 2, .aload 0, .getfield 1215, .invokestatic 181, .iconst 0, .istore 5, .iload 5, .aload 0, .getfield 1215, .if_icmp .ge 44, .aload 0, .dload 1216, .iconst 4, .iload 5, .iadd, .aload 0, .dload 1214, .iload 5, .iaload, .iastore, .iinc 5 1, .goto 28, .aload 0, .iconst 4, .aload 0, .getfield 1215, .iadd, .putfield 1217, .goto 122, .aload 0, .dload 1216, .iconst 0, .iconst 7, .iconst 1, .invokestatic 226, .invokestatic 181, .aload 0, .dload 1216, .iconst 2, .iconst 0, .invokestatic 181, .aload 0, .dload 1216, .iconst 4, .iconst 554869826, .invokestatic 182, .aload 0, .dload 1216, .iconst 8, .iconst 0, .invokestatic 182, .aload 0, .dload 1216, .iconst 12, .iconst 0, .invokestatic 182, .aload 0, .dload 1216, .iconst 16, .aload 0, .getfield 1260, .invokestatic 182, .aload 0, .iconst 20, .putfield 1217, .aload 0, .iconst 18, .iload 2, .iload 3, .invokevirtual 230, .aload 0, .iconst 19, .aload 0, .getfield 1215, .invokevirtual 229, .istore 5, .iconst 0, .istore 6, .iload 6, .aload 0, .getfield 1215, .if_icmp .ge 116, .aload 0, .dload 1216, .iload 5, .iload 6, .iadd, .aload 0, .dload 1214, .iload 6, .iaload, .iastore, .iinc 6 1, .goto 100, .aload 0, .dup, .getfield 1260, .iconst 1, .iadd, .putfield 1260, .aload 0, .dup, .getfield 1262, .iconst 1, .iadd, .putfield 1262, .aload 0, .aload 0, .dload 1236, .iload 1, .iaload, .aload 0, .dload 1237, .iload 1, .iaload, .iconst 3478, .invokevirtual 223, .return_]
noncomputable def am_c255 : List Instr := [.aload 0, .getfield 1218, .ifCond .eq 28, .aload 0, .getfield 1217, .iconst 20, .if_icmp .lt 28, .aload 0, .dload 1216, .iconst 0, .iaload, .iconst 63, .if_icmp .gt 28, .aload 0, .dload 1216, .iconst 4, .invokestatic 180, .iconst 554869826, .if_icmp .ne 28, .aload 0, .dload 1216, .iconst 2, .invokestatic 179, .aload 0, .getfield 1217, .iconst 20, .isub, .if_icmp .eq 30, .iconst 0, .ireturn, .iconst 20, .istore 1, .iload 1, .aload 0, .getfield 1217, .if_icmp .ge 60, .iload 1, .iconst 4, .iadd, .aload 0, .getfield 1217, .if_icmp .gt 60, .iload 1, .iconst 4, .aload 0, .dload 1216, .iload 1, .iconst 2, .iadd, .invokestatic 179, .iconst 3, .iadd, .iconst 4, .idiv, .iconst 4, .imul, .iadd, .iadd, .istore 1, .goto 32, .iload 1, .aload 0, .getfield 1217, .if_icmp .ne 66, .iconst 1, .goto 67, .iconst 0, .ireturn]
noncomputable def am_c256 : List Instr := [.aload 0, .invokevirtual 255, .ifCond .ne 5, .iconst 0, .ireturn, .iconst 0, .istore 1, .iconst 20, .istore 2, .iload 2, .aload 0, .getfield 1217, .if_icmp .ge 55, .aload 0, .dload 1250, .iload 1, .aload 0, .dload 1216, .iload 2, .invokestatic 179, .iastore, .aload 0, .dload 1251, .iload 1, .aload 0, .dload 1216, .iload 2, .iconst 2, .iadd, .invokestatic 179, .iastore, .aload 0, .dload 1252, .iload 1, .iload 2, .iconst 4, .iadd, .iastore, .iload 2, .iconst 4, .aload 0, .dload 1251, .iload 1, .iaload, .iconst 3, .iadd, .iconst 4, .idiv, .iconst 4, .imul, .iadd, .iadd, .istore 2, .iinc 1 1, .goto 9, .iload 1, .ireturn]
noncomputable def am_c257 : List Instr := [.aload 0, .iconst 0, .putfield 1200, .iload 1, .i2l, .goto_w 0, .goto_w 6, .invokestatic 166, .ifCond .ne 11, .iconst (-1), .ireturn, .aload 0, .getfield 1218, .ifCond .ne 16, .iconst 0, .ireturn, .iload 1, .lookupswitch 52 #[(0, 18), (1, 21), (2, 24), (3, 27), (4, 30), (5, 41)], .aload 0, .getfield 1217, .ireturn, .aload 0, .getfield 1219, .ireturn, .aload 0, .getfield 1220, .ireturn, .aload 0, .getfield 1221, .ireturn, .aload 0, .invokevirtual 255, .ifCond .eq 39, .aload 0, .dload 1216, .iconst 0, .invokestatic 179, .invokestatic 227, .goto 40, .iconst (-1), .ireturn, .aload 0, .invokevirtual 255, .ifCond .eq 50, .aload 0, .dload 1216, .iconst 0, .invokestatic 179, .invokestatic 228, .goto 51, .iconst (-1), .ireturn, .aload 0, .invokevirtual 256, .ireturn]
noncomputable def am_c258 : List Instr := [.aload 0, .iconst 0, .putfield 1200, .aload 0, .getfield 1218, .ifCond .eq 17, .iload 1, .ifCond .lt 17, .iload 1, .aload 0, .getfield 1217, .if_icmp .ge 17, .aload 0, .dload 1216, .iload 1, .iaload, .goto 18, .iconst (-1), .ireturn]
noncomputable def am_c259 : List Instr := [.aload 0, .iconst 0, .putfield 1200, .iload 1, .ifCond .lt 15, .iload 1, .aload 0, .invokevirtual 256, .if_icmp .ge 15, .iload 2, .i2l, .goto_w 0, .goto_w 6, .invokestatic 166, .ifCond .ne 17, .iconst (-1), .ireturn, .aload 0, .dload 1252, .iload 1, .iaload, .istore 3, .aload 0, .dload 1250, .iload 1, .iaload, .iconst 18, .if_icmp .eq 40, .aload 0, .dload 1250, .iload 1, .iaload, .iconst 22, .if_icmp .eq 40, .aload 0, .dload 1250, .iload 1, .iaload, .iconst 32, .if_icmp .ne 56, .aload 0, .dload 1251, .iload 1, .iaload, .iconst 8, .if_icmp .ne 56, .aload 0, .dload 1216, .iload 3, .iconst 1, .iadd, .iaload, .iconst 1, .if_icmp .ne 56, .iconst 1, .goto 57, .iconst 0, .istore 4, .iload 2, .lookupswitch 126 #[(0, 60), (1, 65), (2, 70), (3, 72), (4, 100), (5, 113)], .aload 0, .dload 1250, .iload 1, .iaload, .ireturn, .aload 0, .dload 1251, .iload 1, .iaload, .ireturn, .iload 3, .ireturn, .iconst 0, .istore 5, .iconst 0, .istore 6, .iload 6, .aload 0, .dload 1251, .iload 1, .iaload, .if_icmp .ge 98, .iload 6, .iconst 4, .if_icmp .ge 98, .iload 5, .iconst 8, .ishl, .aload 0, .dload 1216, .iload 3, .iload 6, .iadd, .iaload, .ior, .istore 5, .iinc 6 1, .goto 76, .iload 5, .ireturn, .iload 4, .ifCond .eq 111, .aload 0, .dload 1216, .iload 3, .iconst 2, .iadd, .invokestatic 179, .iconst 8466, .ixor, .goto 112, .iconst 0, .ireturn, .iload 4, .ifCond .eq 124, .aload 0, .dload 1216, .iload 3, .iconst 4, .iadd, .invokestatic 180, .iconst 554869826, .ixor, .goto 125, .iconst 0, .ireturn, .aload 0, .dload 1250, .iload 1, .iaload, .iconst 9, .if_icmp .ne 154, .aload 0, .dload 1251, .iload 1, .iaload, .iconst 4, .if_icmp .ne 154, .aload 0, .dload 1216, .iload 3, .iconst 2, .iadd, .iaload, .iconst 100, .imul, .aload 0, .dload 1216, .iload 3, .iconst 3, .iadd, .iaload, .iadd, .goto 155, .iconst 0, .ireturn]
noncomputable def am_c260 : List Instr := [.iload 1, .i2l, .goto_w 0, .goto_w 7, .invokestatic 166, .ifCond .eq 13, .aload 0, .dload 1235, .iload 1, .caload, .ifCond .eq 13, .iconst 1, .goto 14, .iconst 0, .ireturn]
noncomputable def am_c261 : List Instr := [.aload 0, .iconst 0, .putfield 1200, .aload 0, .iload 1, .invokevirtual 260, .ifCond .ne 9, .iconst (-1), .ireturn, .iload 2, .lookupswitch 50 #[(0, 11), (1, 16), (2, 21), (3, 26), (4, 31), (5, 40), (6, 45)], .aload 0, .dload 1236, .iload 1, .iaload, .ireturn, .aload 0, .dload 1237, .iload 1, .iaload, .ireturn, .aload 0, .dload 1238, .iload 1, .iaload, .ireturn, .aload 0, .dload 1239, .iload 1, .iaload, .ireturn, .aload 0, .dload 1240, .iload 1, .laload, .aload 0, .fload 1234, .lsub, .l2i, .ireturn, .aload 0, .dload 1242, .iload 1, .iaload, .ireturn, .aload 0, .dload 1245, .iload 1, .iaload, .ireturn, .iconst (-1), .ireturn]
noncomputable def am_c262 : List Instr := [.aload 0, .iconst 0, .putfield 1200, .aload 0, .iload 1, .invokevirtual 260, .ifCond .ne 9, .iconst 0, .ireturn, .aload 0, .iload 1, .iload 2, .invokevirtual 210, .istore 3, .iload 3, .ifCond .ge 18, .iconst 0, .goto 30, .aload 0, .dload 1244, .iconst 16, .iload 1, .imul, .iload 3, .iadd, .laload, .aload 0, .fload 1234, .lsub, .l2i, .ireturn]
noncomputable def am_c263 : List Instr := [.aload 0, .iconst 0, .putfield 1200, .aload 0, .iload 1, .invokevirtual 260, .ifCond .ne 9, .iconst 0, .ireturn, .aload 0, .iload 1, .iload 2, .invokevirtual 211, .istore 3, .iload 3, .ifCond .ge 18, .iconst 0, .goto 30, .aload 0, .dload 1249, .iconst 8, .iload 1, .imul, .iload 3, .iadd, .laload, .aload 0, .fload 1234, .lsub, .l2i, .ireturn]
noncomputable def am_c264 : List Instr := [.aload 0, .iconst 0, .putfield 1200, .iload 1, .lookupswitch 57 #[(0, 5), (1, 11), (2, 14), (3, 36), (4, 39), (5, 42), (6, 45), (7, 48), (8, 51), (9, 54)], .aload 0, .fload 1234, .goto_w 2147483647, .land, .l2i, .ireturn, .aload 0, .getfield 1226, .ireturn, .iconst 0, .istore 2, .iconst 0, .istore 3, .iload 3, .iconst 8, .if_icmp .ge 34, .iload 2, .aload 0, .dload 1235, .iload 3, .caload, .ifCond .eq 29, .iconst 1, .goto 30, .iconst 0, .iadd, .istore 2, .iinc 3 1, .goto 18, .iload 2, .ireturn, .aload 0, .getfield 1215, .ireturn, .aload 0, .getfield 1259, .ireturn, .aload 0, .getfield 1260, .ireturn, .aload 0, .getfield 1261, .ireturn, .aload 0, .getfield 1262, .ireturn, .aload 0, .getfield 1263, .ireturn, .aload 0, .getfield 1264, .ireturn, .iconst (-1), .ireturn]
noncomputable def am_c265 : List Instr := [.iload 0, .ifCond .gt 8, .iload 0, .ifCond .ne 6, .iconst 32, .goto 7, .iconst 0, .ireturn, .iconst 31, .istore 1, .iload 0, .iconst 65536, .if_icmp .lt 18, .iinc 1 (-16), .iload 0, .iconst 16, .iushr, .istore 0, .iload 0, .iconst 256, .if_icmp .lt 26, .iinc 1 (-8), .iload 0, .iconst 8, .iushr, .istore 0, .iload 0, .iconst 16, .if_icmp .lt 34, .iinc 1 (-4), .iload 0, .iconst 4, .iushr, .istore 0, .iload 0, .iconst 4, .if_icmp .lt 42, .iinc 1 (-2), .iload 0, .iconst 2, .iushr, .istore 0, .iload 1, .iload 0, .iconst 1, .iushr, .isub, .ireturn]
noncomputable def am_c266 : List Instr := [.lload 0, .iconst 32, .lushr, .l2i, .istore 2, .iload 2, .ifCond .ne 13, .iconst 32, .lload 0, .l2i, .invokestatic 265, .iadd, .goto 15, .iload 2, .invokestatic 265, .ireturn]
noncomputable def am_c267 : List Instr := [.aload 0, .monitorexit, .aload 0, .iconst 0, .iload 1, .invokeinterface 0 0, .anewarray 52, .dstore 600, .return_]
noncomputable def am_c268 : List Instr := [.aload 0, .monitorexit, .aload 0, .iconst 0, .iload 1, .invokeinterface 0 0, .anewarray 52, .dstore 600, .return_]
noncomputable def am_c269 : List Instr := [.aload 0, .monitorexit, .aload 0, .iconst 0, .iload 1, .invokeinterface 0 0, .anewarray 52, .dstore 600, .return_]
noncomputable def am_c270 : List Instr := [.aload 0, .monitorexit, .aload 0, .iconst 0, .iload 1, .invokeinterface 0 0, .anewarray 52, .dstore 600, .return_]
noncomputable def am_c271 : List Instr := [.new 1108, .dup, .invokespecial 138, .astore 1, .new 1268, .dup, .invokespecial 165, .astore 2, .iconst 0, .istore 3, .iload 3, .aload 0, .arraylength, .iconst 6, .isub, .if_icmp .gt 922, .aload 0, .iload 3, .iaload, .iconst 31, .iand, .lookupswitch 920 #[(0, 22), (1, 79), (2, 96), (3, 143), (4, 180), (5, 265), (6, 316), (7, 353), (8, 428), (9, 435), (10, 452), (11, 479), (12, 554), (13, 595), (14, 636), (15, 653), (16, 680), (17, 697), (18, 724), (19, 761), (20, 778), (21, 795), (22, 822), (23, 849), (24, 876), (25, 903)], .aload 1, .aload 0, .iload 3, .iconst 1, .iadd, .iaload, .aload 0, .iload 3, .iconst 2, .iadd, .iaload, .aload 0, .iload 3, .iconst 3, .iadd, .iaload, .aload 0, .iload 3, .iconst 4, .iadd, .iaload, .aload 0, .iload 3, .iconst 5, .iadd, .iaload, .invokevirtual 139, .aload 2, .aload 0, .iload 3, .iconst 1, .iadd, .iaload, .aload 0, .iload 3, .iconst 2, .iadd, .iaload, .aload 0, .iload 3, .iconst 3, .iadd, .iaload, .aload 0, .iload 3, .iconst 4, .iadd, .iaload, .aload 0, .iload 3, .iconst 5, .iadd, .iaload, .invokevirtual 183, .if_icmp .eq 920, .iconst 0, .ireturn, .aload 1, .aload 0, .iload 3, .iconst 1, .iadd, .iaload, .invokevirtual 140, .aload 2, .aload 0, .iload 3, .iconst 1, .iadd, .iaload, .invokevirtual 184, .if_icmp .eq 920, .iconst 0, .ireturn, .aload 1, .aload 0, .iload 3, .iconst 1, .iadd, .iaload, .aload 0, .iload 3, .iconst 2, .iadd, .iaload, .aload 0, .iload 3, .iconst 3, .iadd, .iaload, .aload 0, .iload 3, .iconst 4, .iadd, .iaload, .invokevirtual 141, .aload 2, .aload 0, .iload 3, .iconst 1, .iadd, .iaload, .aload 0, .iload 3, .iconst 2, .iadd, .iaload, .aload 0, .iload 3, .iconst 3, .iadd, .iaload, .aload 0, .iload 3, .iconst 4, .iadd, .iaload, .invokevirtual 185, .if_icmp .eq 920, .iconst 0, .ireturn, .aload 1, .aload 0, .iload 3, .iconst 1, .iadd, .iaload, .aload 0, .iload 3, .iconst 2, .iadd, .iaload, .aload 0, .iload 3, .iconst 3, .iadd, .iaload, .invokevirtual 142, .aload 2, .aload 0, .iload 3, .iconst 1, .iadd, .iaload, .aload 0, .iload 3, .iconst 2, .iadd, .iaload, .aload 0, .iload 3, .iconst 3, .iadd, .iaload, .invokevirtual 187, .if_icmp .eq 920, .iconst 0, .ireturn, .aload 1, .aload 0, .iload 3, .iconst 1, .iadd, .iaload, .aload 0, .iload 3, .iconst 2, .iadd, .iaload, .i2l, .iconst 32, .lshl, .aload 0, .iload 3, .iconst 3, .iadd, .iaload, .i2l, .goto_w 4294967295, .land, .lor, .aload 0, .iload 3, .iconst 4, .iadd, .iaload, .i2l, .iconst 32, .lshl, .aload 0, .iload 3, .iconst 5, .iadd, .iaload, .i2l, .goto_w 4294967295, .land, .lor, .invokevirtual 143, .aload 2, .aload 0, .iload 3, .iconst 1, .iadd, .iaload, .aload 0, .iload 3, .iconst 2, .iadd, .iaload, .i2l, .iconst 32, .lshl, .aload 0, .iload 3, .iconst 3, .iadd, .iaload, .i2l, .goto_w 4294967295, .land, .lor, .aload 0, .iload 3, .iconst 4, .iadd, .iaload, .i2l, .iconst 32, .lshl, .aload 0, .iload 3, .iconst 5, .iadd, .iaload, .i2l, .goto_w 4294967295, .land, .lor, .invokevirtual 189, .if_icmp .eq 920, .iconst 0, .ireturn, .aload 1, .aload 0, .iload 3, .iconst 1, .iadd, .iaload, .aload 0, .iload 3, .iconst 2, .iadd, .iaload, .i2l, .iconst 32, .lshl, .aload 0, .iload 3, .iconst 3, .iadd, .iaload, .i2l, .goto_w 4294967295, .land, .lor, .invokevirtual 144, .aload 2, .aload 0, .iload 3, .iconst 1, .iadd, .iaload, .aload 0, .iload 3, .iconst 2, .iadd, .iaload, .i2l, .iconst 32, .lshl, .aload 0, .iload 3, .iconst 3, .iadd, .iaload, .i2l, .goto_w 4294967295, .land, .lor, .invokevirtual 190, .if_icmp .eq 920, .iconst 0, .ireturn, .aload 1, .aload 0, .iload 3, .iconst 1, .iadd, .iaload, .aload 0, .iload 3, .iconst 2, .iadd, .iaload, .aload 0, .iload 3, .iconst 3, .iadd, .iaload, .invokevirtual 145, .aload 2, .aload 0, .iload 3, .iconst 1, .iadd, .iaload, .aload 0, .iload 3, .iconst 2, .iadd, .iaload, .aload 0, .iload 3, .iconst 3, .iadd, .iaload, .invokevirtual 191, .if_icmp .eq 920, .iconst 0, .ireturn, .aload 1, .aload 0, .iload 3, .iconst 1, .iadd, .iaload, .i2l, .iconst 32, .lshl, .aload 0, .iload 3, .iconst 2, .iadd, .iaload, .i2l, .goto_w 4294967295, .land, .lor, .aload 0, .iload 3, .iconst 3, .iadd, .iaload, .i2l, .iconst 32, .lshl, .aload 0, .iload 3, .iconst 4, .iadd, .iaload, .i2l, .goto_w 4294967295, .land, .lor, .invokevirtual 146, .aload 2, .aload 0, .iload 3, .iconst 1, .iadd, .iaload, .i2l, .iconst 32, .lshl, .aload 0, .iload 3, .iconst 2, .iadd, .iaload, .i2l, .goto_w 4294967295, .land, .lor, .aload 0, .iload 3, .iconst 3, .iadd, .iaload, .i2l, .iconst 32, .lshl, .aload 0, .iload 3, .iconst 4, .iadd, .iaload, .i2l, .goto_w 4294967295, .land, .lor, .invokevirtual 194, .if_icmp .eq 920, .iconst 0, .ireturn, .aload 1, .invokevirtual 147, .aload 2, .invokevirtual 195, .if_icmp .eq 920, .iconst 0, .ireturn, .aload 1, .aload 0, .iload 3, .iconst 1, .iadd, .iaload, .invokevirtual 148, .aload 2, .aload 0, .iload 3, .iconst 1, .iadd, .iaload, .invokevirtual 196, .if_icmp .eq 920, .iconst 0, .ireturn, .aload 1, .aload 0, .iload 3, .iconst 1, .iadd, .iaload, .aload 0, .iload 3, .iconst 2, .iadd, .iaload, .invokevirtual 149, .aload 2, .aload 0, .iload 3, .iconst 1, .iadd, .iaload, .aload 0, .iload 3, .iconst 2, .iadd, .iaload, .invokevirtual 197, .if_icmp .eq 920, .iconst 0, .ireturn, .aload 1, .aload 0, .iload 3, .iconst 1, .iadd, .iaload, .i2l, .iconst 32, .lshl, .aload 0, .iload 3, .iconst 2, .iadd, .iaload, .i2l, .goto_w 4294967295, .land, .lor, .aload 0, .iload 3, .iconst 3, .iadd, .iaload, .i2l, .iconst 32, .lshl, .aload 0, .iload 3, .iconst 4, .iadd, .iaload, .i2l, .goto_w 4294967295, .land, .lor, .invokevirtual 150, .aload 2, .aload 0, .iload 3, .iconst 1, .iadd, .iaload, .i2l, .iconst 32, .lshl, .aload 0, .iload 3, .iconst 2, .iadd, .iaload, .i2l, .goto_w 4294967295, .land, .lor, .aload 0, .iload 3, .iconst 3, .iadd, .iaload, .i2l, .iconst 32, .lshl, .aload 0, .iload 3, .iconst 4, .iadd, .iaload, .i2l, .goto_w 4294967295, .land, .lor, .invokevirtual 200, .if_icmp .eq 920, .iconst 0, .ireturn, .aload 1, .aload 0, .iload 3, .iconst 1, .iadd, .iaload, .i2l, .iconst 32, .lshl, .aload 0, .iload 3, .iconst 2, .iadd, .iaload, .i2l, .goto_w 4294967295, .land, .lor, .invokevirtual 151, .aload 2, .aload 0, .iload 3, .iconst 1, .iadd, .iaload, .i2l, .iconst 32, .lshl, .aload 0, .iload 3, .iconst 2, .iadd, .iaload, .i2l, .goto_w 4294967295, .land, .lor, .invokevirtual 201, .if_icmp .eq 920, .iconst 0, .ireturn, .aload 1, .aload 0, .iload 3, .iconst 1, .iadd, .iaload, .i2l, .iconst 32, .lshl, .aload 0, .iload 3, .iconst 2, .iadd, .iaload, .i2l, .goto_w 4294967295, .land, .lor, .invokevirtual 152, .aload 2, .aload 0, .iload 3, .iconst 1, .iadd, .iaload, .i2l, .iconst 32, .lshl, .aload 0, .iload 3, .iconst 2, .iadd, .iaload, .i2l, .goto_w 4294967295, .land, .lor, .invokevirtual 202, .if_icmp .eq 920, .iconst 0, .ireturn, .aload 1, .aload 0, .iload 3, .iconst 1, .iadd, .iaload, .invokevirtual 153, .aload 2, .aload 0, .iload 3, .iconst 1, .iadd, .iaload, .invokevirtual 203, .if_icmp .eq 920, .iconst 0, .ireturn, .aload 1, .aload 0, .iload 3, .iconst 1, .iadd, .iaload, .aload 0, .iload 3, .iconst 2, .iadd, .iaload, .invokevirtual 154, .aload 2, .aload 0, .iload 3, .iconst 1, .iadd, .iaload, .aload 0, .iload 3, .iconst 2, .iadd, .iaload, .invokevirtual 204, .if_icmp .eq 920, .iconst 0, .ireturn, .aload 1, .aload 0, .iload 3, .iconst 1, .iadd, .iaload, .invokevirtual 155, .aload 2, .aload 0, .iload 3, .iconst 1, .iadd, .iaload, .invokevirtual 208, .if_icmp .eq 920, .iconst 0, .ireturn, .aload 1, .aload 0, .iload 3, .iconst 1, .iadd, .iaload, .aload 0, .iload 3, .iconst 2, .iadd, .iaload, .invokevirtual 156, .aload 2, .aload 0, .iload 3, .iconst 1, .iadd, .iaload, .aload 0, .iload 3, .iconst 2, .iadd, .iaload, .invokevirtual 234, .if_icmp .eq 920, .iconst 0, .ireturn, .aload 1, .aload 0, .iload 3, .iconst 1, .iadd, .iaload, .aload 0, .iload 3, .iconst 2, .iadd, .iaload, .aload 0, .iload 3, .iconst 3, .iadd, .iaload, .invokevirtual 157, .aload 2, .aload 0, .iload 3, .iconst 1, .iadd, .iaload, .aload 0, .iload 3, .iconst 2, .iadd, .iaload, .aload 0, .iload 3, .iconst 3, .iadd, .iaload, .invokevirtual 253, .if_icmp .eq 920, .iconst 0, .ireturn, .aload 1, .aload 0, .iload 3, .iconst 1, .iadd, .iaload, .invokevirtual 158, .aload 2, .aload 0, .iload 3, .iconst 1, .iadd, .iaload, .invokevirtual 257, .if_icmp .eq 920, .iconst 0, .ireturn, .aload 1, .aload 0, .iload 3, .iconst 1, .iadd, .iaload, .invokevirtual 159, .aload 2, .aload 0, .iload 3, .iconst 1, .iadd, .iaload, .invokevirtual 258, .if_icmp .eq 920, .iconst 0, .ireturn, .aload 1, .aload 0, .iload 3, .iconst 1, .iadd, .iaload, .aload 0, .iload 3, .iconst 2, .iadd, .iaload, .invokevirtual 160, .aload 2, .aload 0, .iload 3, .iconst 1, .iadd, .iaload, .aload 0, .iload 3, .iconst 2, .iadd, .iaload, .invokevirtual 259, .if_icmp .eq 920, .iconst 0, .ireturn, .aload 1, .aload 0, .iload 3, .iconst 1, .iadd, .iaload, .aload 0, .iload 3, .iconst 2, .iadd, .iaload, .invokevirtual 161, .aload 2, .aload 0, .iload 3, .iconst 1, .iadd, .iaload, .aload 0, .iload 3, .iconst 2, .iadd, .iaload, .invokevirtual 261, .if_icmp .eq 920, .iconst 0, .ireturn, .aload 1, .aload 0, .iload 3, .iconst 1, .iadd, .iaload, .aload 0, .iload 3, .iconst 2, .iadd, .iaload, .invokevirtual 162, .aload 2, .aload 0, .iload 3, .iconst 1, .iadd, .iaload, .aload 0, .iload 3, .iconst 2, .iadd, .iaload, .invokevirtual 262, .if_icmp .eq 920, .iconst 0, .ireturn, .aload 1, .aload 0, .iload 3, .iconst 1, .iadd, .iaload, .aload 0, .iload 3, .iconst 2, .iadd, .iaload, .invokevirtual 163, .aload 2, .aload 0, .iload 3, .iconst 1, .iadd, .iaload, .aload 0, .iload 3, .iconst 2, .iadd, .iaload, .invokevirtual 263, .if_icmp .eq 920, .iconst 0, .ireturn, .aload 1, .aload 0, .iload 3, .iconst 1, .iadd, .iaload, .invokevirtual 164, .aload 2, .aload 0, .iload 3, .iconst 1, .iadd, .iaload, .invokevirtual 264, .if_icmp .eq 920, .iconst 0, .ireturn, .iinc 3 6, .goto 10, .iconst 1, .ireturn]
noncomputable def am_b1 : ByteArray := cX0_init
noncomputable def am_b2 : ByteArray := cX0_begin
noncomputable def am_b3 : ByteArray := cX0_setId
noncomputable def am_b4 : ByteArray := cX0_isMadeBy
noncomputable def am_b5 : ByteArray := cX0_left
noncomputable def am_b6 : ByteArray := cX0_dropPast
noncomputable def am_b7 : ByteArray := cX0_permissionOf
noncomputable def am_b8 : ByteArray := cX0_permits
noncomputable def am_b9 : ByteArray := cX0_hasRoomToPermit
noncomputable def am_b10 : ByteArray := cX0_permit
noncomputable def am_b11 : ByteArray := cX0_permissionLeft
noncomputable def am_b12 : ByteArray := cX0_channelOf
noncomputable def am_b13 : ByteArray := cX0_channelTo
noncomputable def am_b14 : ByteArray := cX0_hasRoomToBind
noncomputable def am_b15 : ByteArray := cX0_bind
noncomputable def am_b16 : ByteArray := cX0_channelLeft
noncomputable def am_b17 : ByteArray := cX0_numberOf
noncomputable def am_b18 : ByteArray := cX0_boundIp
noncomputable def am_b19 : ByteArray := cX0_boundPort
noncomputable def am_b20 : ByteArray := cX0_tell
noncomputable def am_b21 : ByteArray := cX1_init
noncomputable def am_b22 : ByteArray := cX1_now
noncomputable def am_b23 : ByteArray := cX1_pass
noncomputable def am_b24 : ByteArray := cX1_size
noncomputable def am_b25 : ByteArray := cX1_sizeOf
noncomputable def am_b26 : ByteArray := cX1_at
noncomputable def am_b27 : ByteArray := cX1_ofClient
noncomputable def am_b28 : ByteArray := cX1_ofPort
noncomputable def am_b29 : ByteArray := cX1_firstFree
noncomputable def am_b30 : ByteArray := cX1_firstFreePort
noncomputable def am_b31 : ByteArray := cX2_init
noncomputable def am_b32 : ByteArray := cX2_raise
noncomputable def am_b33 : ByteArray := cX2_bars
noncomputable def am_b34 : ByteArray := cX3_init
noncomputable def am_b35 : ByteArray := cX3_read
noncomputable def am_b36 : ByteArray := cX3_readAttributes
noncomputable def am_b37 : ByteArray := cX3_isSound
noncomputable def am_b38 : ByteArray := cX3_find
noncomputable def am_b39 : ByteArray := cX3_isWhole
noncomputable def am_b40 : ByteArray := cX3_size
noncomputable def am_b41 : ByteArray := cX3_method
noncomputable def am_b42 : ByteArray := cX3_rank
noncomputable def am_b43 : ByteArray := cX3_sizeOf
noncomputable def am_b44 : ByteArray := cX3_startOf
noncomputable def am_b45 : ByteArray := cX3_valueOf
noncomputable def am_b46 : ByteArray := cX3_ipOf
noncomputable def am_b47 : ByteArray := cX3_portOf
noncomputable def am_b48 : ByteArray := cX3_hasFingerprint
noncomputable def am_b49 : ByteArray := cX3_isFingerprintWrong
noncomputable def am_b50 : ByteArray := cX3_strangeKinds
noncomputable def am_b51 : ByteArray := cX3_peerIps
noncomputable def am_b52 : ByteArray := cX3_isAmong
noncomputable def am_b53 : ByteArray := cX3_isStrange
noncomputable def am_b54 : ByteArray := cX3_tell
noncomputable def am_b55 : ByteArray := cX3_isAddress
noncomputable def am_b56 : ByteArray := cX3_errorOf
noncomputable def am_b57 : ByteArray := cX4_init
noncomputable def am_b58 : ByteArray := cX4_padded
noncomputable def am_b59 : ByteArray := cX4_fingerprint
noncomputable def am_b60 : ByteArray := cX4_typeOf
noncomputable def am_b61 : ByteArray := cX4_takes
noncomputable def am_b62 : ByteArray := cX4_openLetter
noncomputable def am_b63 : ByteArray := cX4_open
noncomputable def am_b64 : ByteArray := cX4_close
noncomputable def am_b65 : ByteArray := cX4_addValue
noncomputable def am_b66 : ByteArray := cX4_addWords
noncomputable def am_b67 : ByteArray := cX4_addAddress
noncomputable def am_b68 : ByteArray := cX4_addKinds
noncomputable def am_b69 : ByteArray := cX4_addData
noncomputable def am_b70 : ByteArray := cX4_addIntegrity
noncomputable def am_b71 : ByteArray := cX4_addFingerprint
noncomputable def am_b72 : ByteArray := cX5_init
noncomputable def am_b73 : ByteArray := cX5_row
noncomputable def am_b74 : ByteArray := cX5_letter
noncomputable def am_b75 : ByteArray := cX5_clear
noncomputable def am_b76 : ByteArray := cX5_open
noncomputable def am_b77 : ByteArray := cX5_close
noncomputable def am_b78 : ByteArray := cX5_note
noncomputable def am_b79 : ByteArray := cX5_tally
noncomputable def am_b80 : ByteArray := cX5_tell
noncomputable def am_b81 : ByteArray := cX6_init
noncomputable def am_b82 : ByteArray := cX6_size
noncomputable def am_b83 : ByteArray := cX6_most
noncomputable def am_b84 : ByteArray := cX6_at
noncomputable def am_b85 : ByteArray := cX6_set
noncomputable def am_b86 : ByteArray := cX6_cut
noncomputable def am_b87 : ByteArray := cX6_addNumber
noncomputable def am_b88 : ByteArray := cX6_addZeros
noncomputable def am_b89 : ByteArray := cX6_addFrom
noncomputable def am_b90 : ByteArray := cX6_numberAt
noncomputable def am_b91 : ByteArray := cX7_init
noncomputable def am_b92 : ByteArray := cX7_setKey
noncomputable def am_b93 : ByteArray := cX7_make
noncomputable def am_b94 : ByteArray := cX7_startWithKey
noncomputable def am_b95 : ByteArray := cX7_standsAt
noncomputable def am_b96 : ByteArray := cX7_write
noncomputable def am_b97 : ByteArray := cX8_init
noncomputable def am_b98 : ByteArray := cX8_fromClient
noncomputable def am_b99 : ByteArray := cX8_fromPeer
noncomputable def am_b100 : ByteArray := cX8_writeChannelData
noncomputable def am_b101 : ByteArray := cX8_writeIndication
noncomputable def am_b102 : ByteArray := cX8_isChannelNumber
noncomputable def am_b103 : ByteArray := cX8_isChannelData
noncomputable def am_b104 : ByteArray := cX8_relayChannelData
noncomputable def am_b105 : ByteArray := cX8_relaySend
noncomputable def am_b106 : ByteArray := cX8_relay
noncomputable def am_b107 : ByteArray := cX8_answer
noncomputable def am_b108 : ByteArray := cX8_needsUser
noncomputable def am_b109 : ByteArray := cX8_accessError
noncomputable def am_b110 : ByteArray := cX8_isWordAt
noncomputable def am_b111 : ByteArray := cX8_perform
noncomputable def am_b112 : ByteArray := cX8_allocate
noncomputable def am_b113 : ByteArray := cX8_lifetime
noncomputable def am_b114 : ByteArray := cX8_refresh
noncomputable def am_b115 : ByteArray := cX8_permitPeers
noncomputable def am_b116 : ByteArray := cX8_bindChannel
noncomputable def am_b117 : ByteArray := cX8_writeTold
noncomputable def am_b118 : ByteArray := cX8_writeError
noncomputable def am_b119 : ByteArray := cX9_init
noncomputable def am_b120 : ByteArray := cX9_digest
noncomputable def am_b121 : ByteArray := cX9_spread
noncomputable def am_b122 : ByteArray := cX9_stir
noncomputable def am_b123 : ByteArray := cX10_init
noncomputable def am_b124 : ByteArray := cX10_packed
noncomputable def am_b125 : ByteArray := cX10_sizeOf
noncomputable def am_b126 : ByteArray := cX10_isWord
noncomputable def am_b127 : ByteArray := cX10_size
noncomputable def am_b128 : ByteArray := cX10_enter
noncomputable def am_b129 : ByteArray := cX10_find
noncomputable def am_b130 : ByteArray := cX10_nameOf
noncomputable def am_b131 : ByteArray := cX10_passwordOf
noncomputable def am_b132 : ByteArray := cX10_realmWord
noncomputable def am_b133 : ByteArray := cX10_setRealm
noncomputable def am_b134 : ByteArray := cX10_nonceNow
noncomputable def am_b135 : ByteArray := cX10_setNonce
noncomputable def am_b136 : ByteArray := cX10_share
noncomputable def am_b137 : ByteArray := cX10_setShare
noncomputable def am_b138 : ByteArray := cX11_init
noncomputable def am_b139 : ByteArray := cX11_feed
noncomputable def am_b140 : ByteArray := cX11_end
noncomputable def am_b141 : ByteArray := cX11_message
noncomputable def am_b142 : ByteArray := cX11_number
noncomputable def am_b143 : ByteArray := cX11_text
noncomputable def am_b144 : ByteArray := cX11_nonce
noncomputable def am_b145 : ByteArray := cX11_address
noncomputable def am_b146 : ByteArray := cX11_sign
noncomputable def am_b147 : ByteArray := cX11_finger
noncomputable def am_b148 : ByteArray := cX11_tape
noncomputable def am_b149 : ByteArray := cX11_alter
noncomputable def am_b150 : ByteArray := cX11_user
noncomputable def am_b151 : ByteArray := cX11_realm
noncomputable def am_b152 : ByteArray := cX11_fresh
noncomputable def am_b153 : ByteArray := cX11_part
noncomputable def am_b154 : ByteArray := cX11_forbid
noncomputable def am_b155 : ByteArray := cX11_tick
noncomputable def am_b156 : ByteArray := cX11_datagram
noncomputable def am_b157 : ByteArray := cX11_peer
noncomputable def am_b158 : ByteArray := cX11_sent
noncomputable def am_b159 : ByteArray := cX11_octet
noncomputable def am_b160 : ByteArray := cX11_attribute
noncomputable def am_b161 : ByteArray := cX11_allocation
noncomputable def am_b162 : ByteArray := cX11_permission
noncomputable def am_b163 : ByteArray := cX11_channel
noncomputable def am_b164 : ByteArray := cX11_count
noncomputable def am_b165 : ByteArray := cX12_init
noncomputable def am_b166 : ByteArray := cX12_in
noncomputable def am_b167 : ByteArray := cX12_fraction
noncomputable def am_b168 : ByteArray := cX12_times
noncomputable def am_b169 : ByteArray := cX12_isAbove
noncomputable def am_b170 : ByteArray := cX12_hashBegin
noncomputable def am_b171 : ByteArray := cX12_right
noncomputable def am_b172 : ByteArray := cX12_hash
noncomputable def am_b173 : ByteArray := cX12_rounds
noncomputable def am_b174 : ByteArray := cX12_hashEnd
noncomputable def am_b175 : ByteArray := cX12_hashLong
noncomputable def am_b176 : ByteArray := cX12_makeKey
noncomputable def am_b177 : ByteArray := cX12_authenticate
noncomputable def am_b178 : ByteArray := cX12_print
noncomputable def am_b179 : ByteArray := cX12_two
noncomputable def am_b180 : ByteArray := cX12_four
noncomputable def am_b181 : ByteArray := cX12_putTwo
noncomputable def am_b182 : ByteArray := cX12_putFour
noncomputable def am_b183 : ByteArray := cX12_feed
noncomputable def am_b184 : ByteArray := cX12_end
noncomputable def am_b185 : ByteArray := cX12_message
noncomputable def am_b186 : ByteArray := cX12_begins
noncomputable def am_b187 : ByteArray := cX12_number
noncomputable def am_b188 : ByteArray := cX12_addLetters
noncomputable def am_b189 : ByteArray := cX12_text
noncomputable def am_b190 : ByteArray := cX12_nonce
noncomputable def am_b191 : ByteArray := cX12_address
noncomputable def am_b192 : ByteArray := cX12_putAddress
noncomputable def am_b193 : ByteArray := cX12_isName
noncomputable def am_b194 : ByteArray := cX12_sign
noncomputable def am_b195 : ByteArray := cX12_finger
noncomputable def am_b196 : ByteArray := cX12_tape
noncomputable def am_b197 : ByteArray := cX12_alter
noncomputable def am_b198 : ByteArray := cX12_packed
noncomputable def am_b199 : ByteArray := cX12_userOf
noncomputable def am_b200 : ByteArray := cX12_user
noncomputable def am_b201 : ByteArray := cX12_realm
noncomputable def am_b202 : ByteArray := cX12_fresh
noncomputable def am_b203 : ByteArray := cX12_part
noncomputable def am_b204 : ByteArray := cX12_forbid
noncomputable def am_b205 : ByteArray := cX12_isForbidden
noncomputable def am_b206 : ByteArray := cX12_sweep
noncomputable def am_b207 : ByteArray := cX12_sweepChannels
noncomputable def am_b208 : ByteArray := cX12_tick
noncomputable def am_b209 : ByteArray := cX12_allocationOf
noncomputable def am_b210 : ByteArray := cX12_permissionOf
noncomputable def am_b211 : ByteArray := cX12_channelOf
noncomputable def am_b212 : ByteArray := cX12_channelTo
noncomputable def am_b213 : ByteArray := cX12_permit
noncomputable def am_b214 : ByteArray := cX12_isMessage
noncomputable def am_b215 : ByteArray := cX12_take
noncomputable def am_b216 : ByteArray := cX12_isAddress
noncomputable def am_b217 : ByteArray := cX12_counts
noncomputable def am_b218 : ByteArray := cX12_first
noncomputable def am_b219 : ByteArray := cX12_isKnown
noncomputable def am_b220 : ByteArray := cX12_findStrange
noncomputable def am_b221 : ByteArray := cX12_ipOf
noncomputable def am_b222 : ByteArray := cX12_portOf
noncomputable def am_b223 : ByteArray := cX12_goes
noncomputable def am_b224 : ByteArray := cX12_none
noncomputable def am_b225 : ByteArray := cX12_answers
noncomputable def am_b226 : ByteArray := cX12_typeOf
noncomputable def am_b227 : ByteArray := cX12_methodOf
noncomputable def am_b228 : ByteArray := cX12_sortOf
noncomputable def am_b229 : ByteArray := cX12_adds
noncomputable def am_b230 : ByteArray := cX12_addAddress
noncomputable def am_b231 : ByteArray := cX12_addFour
noncomputable def am_b232 : ByteArray := cX12_answered
noncomputable def am_b233 : ByteArray := cX12_error
noncomputable def am_b234 : ByteArray := cX12_datagram
noncomputable def am_b235 : ByteArray := cX12_over
noncomputable def am_b236 : ByteArray := cX12_isChannelData
noncomputable def am_b237 : ByteArray := cX12_relay
noncomputable def am_b238 : ByteArray := cX12_sendsOn
noncomputable def am_b239 : ByteArray := cX12_comes
noncomputable def am_b240 : ByteArray := cX12_sends
noncomputable def am_b241 : ByteArray := cX12_binds
noncomputable def am_b242 : ByteArray := cX12_isRealm
noncomputable def am_b243 : ByteArray := cX12_userAt
noncomputable def am_b244 : ByteArray := cX12_isSigned
noncomputable def am_b245 : ByteArray := cX12_asked
noncomputable def am_b246 : ByteArray := cX12_lifetime
noncomputable def am_b247 : ByteArray := cX12_allocate
noncomputable def am_b248 : ByteArray := cX12_make
noncomputable def am_b249 : ByteArray := cX12_granted
noncomputable def am_b250 : ByteArray := cX12_refresh
noncomputable def am_b251 : ByteArray := cX12_permits
noncomputable def am_b252 : ByteArray := cX12_bindsChannel
noncomputable def am_b253 : ByteArray := cX12_peer
noncomputable def am_b254 : ByteArray := cX12_brings
noncomputable def am_b255 : ByteArray := cX12_isSentMessage
noncomputable def am_b256 : ByteArray := cX12_sentAttributes
noncomputable def am_b257 : ByteArray := cX12_sent
noncomputable def am_b258 : ByteArray := cX12_octet
noncomputable def am_b259 : ByteArray := cX12_attribute
noncomputable def am_b260 : ByteArray := cX12_isAllocation
noncomputable def am_b261 : ByteArray := cX12_allocation
noncomputable def am_b262 : ByteArray := cX12_permission
noncomputable def am_b263 : ByteArray := cX12_channel
noncomputable def am_b264 : ByteArray := cX12_count
noncomputable def am_b265 : ByteArray := cJ6_numberOfLeadingZeros_0f7a4
noncomputable def am_b266 : ByteArray := cJ13_numberOfLeadingZeros_95d88
noncomputable def am_b267 : ByteArray := cX6_init
noncomputable def am_b268 : ByteArray := cX6_init
noncomputable def am_b269 : ByteArray := cX6_init
noncomputable def am_b270 : ByteArray := cX6_init
noncomputable def am_b271 : ByteArray := cL_law
noncomputable def am_codes : List (List Instr) := [[], am_c1, am_c2, am_c3, am_c4, am_c5, am_c6, am_c7, am_c8, am_c9, am_c10, am_c11, am_c12, am_c13, am_c14, am_c15, am_c16, am_c17, am_c18, am_c19, am_c20, am_c21, am_c22, am_c23, am_c24, am_c25, am_c26, am_c27, am_c28, am_c29, am_c30, am_c31, am_c32, am_c33, am_c34, am_c35, am_c36, am_c37, am_c38, am_c39, am_c40, am_c41, am_c42, am_c43, am_c44, am_c45, am_c46, am_c47, am_c48, am_c49, am_c50, am_c51, am_c52, am_c53, am_c54, am_c55, am_c56, am_c57, am_c58, am_c59, am_c60, am_c61, am_c62, am_c63, am_c64, am_c65, am_c66, am_c67, am_c68, am_c69, am_c70, am_c71, am_c72, am_c73, am_c74, am_c75, am_c76, am_c77, am_c78, am_c79, am_c80, am_c81, am_c82, am_c83, am_c84, am_c85, am_c86, am_c87, am_c88, am_c89, am_c90, am_c91, am_c92, am_c93, am_c94, am_c95, am_c96, am_c97, am_c98, am_c99, am_c100, am_c101, am_c102, am_c103, am_c104, am_c105, am_c106, am_c107, am_c108, am_c109, am_c110, am_c111, am_c112, am_c113, am_c114, am_c115, am_c116, am_c117, am_c118, am_c119, am_c120, am_c121, am_c122, am_c123, am_c124, am_c125, am_c126, am_c127, am_c128, am_c129, am_c130, am_c131, am_c132, am_c133, am_c134, am_c135, am_c136, am_c137, am_c138, am_c139, am_c140, am_c141, am_c142, am_c143, am_c144, am_c145, am_c146, am_c147, am_c148, am_c149, am_c150, am_c151, am_c152, am_c153, am_c154, am_c155, am_c156, am_c157, am_c158, am_c159, am_c160, am_c161, am_c162, am_c163, am_c164, am_c165, am_c166, am_c167, am_c168, am_c169, am_c170, am_c171, am_c172, am_c173, am_c174, am_c175, am_c176, am_c177, am_c178, am_c179, am_c180, am_c181, am_c182, am_c183, am_c184, am_c185, am_c186, am_c187, am_c188, am_c189, am_c190, am_c191, am_c192, am_c193, am_c194, am_c195, am_c196, am_c197, am_c198, am_c199, am_c200, am_c201, am_c202, am_c203, am_c204, am_c205, am_c206, am_c207, am_c208, am_c209, am_c210, am_c211, am_c212, am_c213, am_c214, am_c215, am_c216, am_c217, am_c218, am_c219, am_c220, am_c221, am_c222, am_c223, am_c224, am_c225, am_c226, am_c227, am_c228, am_c229, am_c230, am_c231, am_c232, am_c233, am_c234, am_c235, am_c236, am_c237, am_c238, am_c239, am_c240, am_c241, am_c242, am_c243, am_c244, am_c245, am_c246, am_c247, am_c248, am_c249, am_c250, am_c251, am_c252, am_c253, am_c254, am_c255, am_c256, am_c257, am_c258, am_c259, am_c260, am_c261, am_c262, am_c263, am_c264, am_c265, am_c266, am_c267, am_c268, am_c269, am_c270, am_c271]
noncomputable def am_ys : List MethodName := [⟨"", "", ""⟩, yX0_init, yX0_begin, yX0_setId, yX0_isMadeBy, yX0_left, yX0_dropPast, yX0_permissionOf, yX0_permits, yX0_hasRoomToPermit, yX0_permit, yX0_permissionLeft, yX0_channelOf, yX0_channelTo, yX0_hasRoomToBind, yX0_bind, yX0_channelLeft, yX0_numberOf, yX0_boundIp, yX0_boundPort, yX0_tell, yX1_init, yX1_now, yX1_pass, yX1_size, yX1_sizeOf, yX1_at, yX1_ofClient, yX1_ofPort, yX1_firstFree, yX1_firstFreePort, yX2_init, yX2_raise, yX2_bars, yX3_init, yX3_read, yX3_readAttributes, yX3_isSound, yX3_find, yX3_isWhole, yX3_size, yX3_method, yX3_rank, yX3_sizeOf, yX3_startOf, yX3_valueOf, yX3_ipOf, yX3_portOf, yX3_hasFingerprint, yX3_isFingerprintWrong, yX3_strangeKinds, yX3_peerIps, yX3_isAmong, yX3_isStrange, yX3_tell, yX3_isAddress, yX3_errorOf, yX4_init, yX4_padded, yX4_fingerprint, yX4_typeOf, yX4_takes, yX4_openLetter, yX4_open, yX4_close, yX4_addValue, yX4_addWords, yX4_addAddress, yX4_addKinds, yX4_addData, yX4_addIntegrity, yX4_addFingerprint, yX5_init, yX5_row, yX5_letter, yX5_clear, yX5_open, yX5_close, yX5_note, yX5_tally, yX5_tell, yX6_init, yX6_size, yX6_most, yX6_at, yX6_set, yX6_cut, yX6_addNumber, yX6_addZeros, yX6_addFrom, yX6_numberAt, yX7_init, yX7_setKey, yX7_make, yX7_startWithKey, yX7_standsAt, yX7_write, yX8_init, yX8_fromClient, yX8_fromPeer, yX8_writeChannelData, yX8_writeIndication, yX8_isChannelNumber, yX8_isChannelData, yX8_relayChannelData, yX8_relaySend, yX8_relay, yX8_answer, yX8_needsUser, yX8_accessError, yX8_isWordAt, yX8_perform, yX8_allocate, yX8_lifetime, yX8_refresh, yX8_permitPeers, yX8_bindChannel, yX8_writeTold, yX8_writeError, yX9_init, yX9_digest, yX9_spread, yX9_stir, yX10_init, yX10_packed, yX10_sizeOf, yX10_isWord, yX10_size, yX10_enter, yX10_find, yX10_nameOf, yX10_passwordOf, yX10_realmWord, yX10_setRealm, yX10_nonceNow, yX10_setNonce, yX10_share, yX10_setShare, yX11_init, yX11_feed, yX11_end, yX11_message, yX11_number, yX11_text, yX11_nonce, yX11_address, yX11_sign, yX11_finger, yX11_tape, yX11_alter, yX11_user, yX11_realm, yX11_fresh, yX11_part, yX11_forbid, yX11_tick, yX11_datagram, yX11_peer, yX11_sent, yX11_octet, yX11_attribute, yX11_allocation, yX11_permission, yX11_channel, yX11_count, yX12_init, yX12_in, yX12_fraction, yX12_times, yX12_isAbove, yX12_hashBegin, yX12_right, yX12_hash, yX12_rounds, yX12_hashEnd, yX12_hashLong, yX12_makeKey, yX12_authenticate, yX12_print, yX12_two, yX12_four, yX12_putTwo, yX12_putFour, yX12_feed, yX12_end, yX12_message, yX12_begins, yX12_number, yX12_addLetters, yX12_text, yX12_nonce, yX12_address, yX12_putAddress, yX12_isName, yX12_sign, yX12_finger, yX12_tape, yX12_alter, yX12_packed, yX12_userOf, yX12_user, yX12_realm, yX12_fresh, yX12_part, yX12_forbid, yX12_isForbidden, yX12_sweep, yX12_sweepChannels, yX12_tick, yX12_allocationOf, yX12_permissionOf, yX12_channelOf, yX12_channelTo, yX12_permit, yX12_isMessage, yX12_take, yX12_isAddress, yX12_counts, yX12_first, yX12_isKnown, yX12_findStrange, yX12_ipOf, yX12_portOf, yX12_goes, yX12_none, yX12_answers, yX12_typeOf, yX12_methodOf, yX12_sortOf, yX12_adds, yX12_addAddress, yX12_addFour, yX12_answered, yX12_error, yX12_datagram, yX12_over, yX12_isChannelData, yX12_relay, yX12_sendsOn, yX12_comes, yX12_sends, yX12_binds, yX12_isRealm, yX12_userAt, yX12_isSigned, yX12_asked, yX12_lifetime, yX12_allocate, yX12_make, yX12_granted, yX12_refresh, yX12_permits, yX12_bindsChannel, yX12_peer, yX12_brings, yX12_isSentMessage, yX12_sentAttributes, yX12_sent, yX12_octet, yX12_attribute, yX12_isAllocation, yX12_allocation, yX12_permission, yX12_channel, yX12_count, yJ6_numberOfLeadingZeros_0f7a4, yJ13_numberOfLeadingZeros_95d88, yX6_init, yX6_init, yX6_init, yX6_init, yL_law]
noncomputable def am_ccs : List ByteArray := [⟨#[]⟩, am_b1, am_b2, am_b3, am_b4, am_b5, am_b6, am_b7, am_b8, am_b9, am_b10, am_b11, am_b12, am_b13, am_b14, am_b15, am_b16, am_b17, am_b18, am_b19, am_b20, am_b21, am_b22, am_b23, am_b24, am_b25, am_b26, am_b27, am_b28, am_b29, am_b30, am_b31, am_b32, am_b33, am_b34, am_b35, am_b36, am_b37, am_b38, am_b39, am_b40, am_b41, am_b42, am_b43, am_b44, am_b45, am_b46, am_b47, am_b48, am_b49, am_b50, am_b51, am_b52, am_b53, am_b54, am_b55, am_b56, am_b57, am_b58, am_b59, am_b60, am_b61, am_b62, am_b63, am_b64, am_b65, am_b66, am_b67, am_b68, am_b69, am_b70, am_b71, am_b72, am_b73, am_b74, am_b75, am_b76, am_b77, am_b78, am_b79, am_b80, am_b81, am_b82, am_b83, am_b84, am_b85, am_b86, am_b87, am_b88, am_b89, am_b90, am_b91, am_b92, am_b93, am_b94, am_b95, am_b96, am_b97, am_b98, am_b99, am_b100, am_b101, am_b102, am_b103, am_b104, am_b105, am_b106, am_b107, am_b108, am_b109, am_b110, am_b111, am_b112, am_b113, am_b114, am_b115, am_b116, am_b117, am_b118, am_b119, am_b120, am_b121, am_b122, am_b123, am_b124, am_b125, am_b126, am_b127, am_b128, am_b129, am_b130, am_b131, am_b132, am_b133, am_b134, am_b135, am_b136, am_b137, am_b138, am_b139, am_b140, am_b141, am_b142, am_b143, am_b144, am_b145, am_b146, am_b147, am_b148, am_b149, am_b150, am_b151, am_b152, am_b153, am_b154, am_b155, am_b156, am_b157, am_b158, am_b159, am_b160, am_b161, am_b162, am_b163, am_b164, am_b165, am_b166, am_b167, am_b168, am_b169, am_b170, am_b171, am_b172, am_b173, am_b174, am_b175, am_b176, am_b177, am_b178, am_b179, am_b180, am_b181, am_b182, am_b183, am_b184, am_b185, am_b186, am_b187, am_b188, am_b189, am_b190, am_b191, am_b192, am_b193, am_b194, am_b195, am_b196, am_b197, am_b198, am_b199, am_b200, am_b201, am_b202, am_b203, am_b204, am_b205, am_b206, am_b207, am_b208, am_b209, am_b210, am_b211, am_b212, am_b213, am_b214, am_b215, am_b216, am_b217, am_b218, am_b219, am_b220, am_b221, am_b222, am_b223, am_b224, am_b225, am_b226, am_b227, am_b228, am_b229, am_b230, am_b231, am_b232, am_b233, am_b234, am_b235, am_b236, am_b237, am_b238, am_b239, am_b240, am_b241, am_b242, am_b243, am_b244, am_b245, am_b246, am_b247, am_b248, am_b249, am_b250, am_b251, am_b252, am_b253, am_b254, am_b255, am_b256, am_b257, am_b258, am_b259, am_b260, am_b261, am_b262, am_b263, am_b264, am_b265, am_b266, am_b267, am_b268, am_b269, am_b270, am_b271]
noncomputable def am_nls : List (Nat × Option FieldType) := [(0, none), (1, none), (5, none), (4, none), (4, (some .boolean)), (3, (some .int)), (5, none), (3, (some .int)), (2, (some .boolean)), (5, (some .boolean)), (5, none), (5, (some .int)), (3, (some .int)), (4, (some .int)), (3, (some .boolean)), (7, none), (5, (some .int)), (2, (some .int)), (2, (some .int)), (2, (some .int)), (4, (some .int)), (2, none), (1, (some .long)), (4, (some .int)), (3, (some .int)), (4, (some .int)), (2, (some (.object "RelayHouse$Allocation"))), (5, (some (.object "RelayHouse$Allocation"))), (3, (some (.object "RelayHouse$Allocation"))), (2, (some (.object "RelayHouse$Allocation"))), (3, (some .int)), (1, none), (3, (some .int)), (3, (some .boolean)), (2, none), (1, (some .boolean)), (3, (some .boolean)), (3, (some .boolean)), (3, (some .int)), (1, (some .boolean)), (1, (some .int)), (2, (some .int)), (2, (some .int)), (2, (some .int)), (2, (some .int)), (2, (some .long)), (2, (some .int)), (2, (some .int)), (1, (some .boolean)), (2, (some .boolean)), (4, (some .int)), (5, (some .int)), (4, (some .boolean)), (1, (some .boolean)), (3, (some .int)), (2, (some .boolean)), (2, (some .int)), (3, none), (1, (some .int)), (4, (some .int)), (2, (some .int)), (3, (some .boolean)), (5, none), (4, none), (2, none), (5, none), (7, none), (4, none), (4, none), (2, none), (1, none), (2, none), (1, none), (1, (some (.object "RelayHouse$Row"))), (1, (some (.object "RelayHouse$Letter"))), (1, none), (4, none), (1, (some .int)), (2, none), (2, (some .int)), (2, (some .int)), (2, none), (1, (some .int)), (1, (some .int)), (2, (some .int)), (3, none), (2, none), (5, none), (3, none), (4, none), (6, (some .long)), (1, none), (7, none), (4, none), (3, none), (4, (some .boolean)), (2, none), (7, none), (3, (some .int)), (6, (some .int)), (3, none), (3, none), (2, (some .boolean)), (3, (some .boolean)), (2, none), (3, none), (6, none), (3, none), (1, (some .boolean)), (7, (some .int)), (4, (some .boolean)), (2, (some .int)), (6, (some .int)), (4, (some .long)), (3, (some .int)), (4, (some .int)), (7, (some .int)), (2, none), (2, none), (1, none), (7, none), (6, none), (14, none), (1, none), (7, (some .long)), (2, (some .int)), (4, (some .boolean)), (1, (some .int)), (6, (some .int)), (4, (some .int)), (2, (some .long)), (2, (some .long)), (1, (some .long)), (3, none), (1, (some .long)), (3, none), (1, (some .int)), (2, none), (1, none), (6, (some .int)), (2, (some .int)), (5, (some .int)), (4, (some .int)), (10, (some .int)), (4, (some .int)), (4, (some .int)), (5, (some .int)), (1, (some .int)), (2, (some .int)), (3, (some .int)), (5, (some .int)), (3, (some .int)), (3, (some .int)), (3, (some .int)), (3, (some .int)), (2, (some .int)), (3, (some .int)), (4, (some .int)), (2, (some .int)), (2, (some .int)), (3, (some .int)), (4, (some .int)), (4, (some .int)), (4, (some .int)), (2, (some .int)), (5, none), (6, (some .boolean)), (10, (some .int)), (5, none), (6, (some .boolean)), (2, none), (2, (some .int)), (5, none), (7, none), (4, none), (5, none), (6, none), (5, none), (5, (some .int)), (2, (some .int)), (2, (some .int)), (3, none), (3, none), (6, (some .int)), (2, (some .int)), (5, (some .int)), (5, (some .boolean)), (6, (some .int)), (5, none), (8, (some .int)), (4, (some .int)), (4, (some .int)), (4, none), (5, (some .boolean)), (6, (some .int)), (1, (some .int)), (2, (some .int)), (3, (some .int)), (7, (some .long)), (4, (some .int)), (6, (some .int)), (4, (some .int)), (3, (some .int)), (3, (some .int)), (3, (some .int)), (5, (some .boolean)), (5, (some .int)), (6, none), (2, (some .int)), (4, (some .int)), (4, (some .int)), (4, (some .int)), (5, (some .int)), (4, none), (6, (some .boolean)), (4, none), (2, (some .boolean)), (4, (some .boolean)), (3, (some .int)), (1, (some .boolean)), (5, none), (2, (some .int)), (2, (some .int)), (4, none), (1, none), (4, none), (2, (some .int)), (1, (some .int)), (1, (some .int)), (6, (some .int)), (4, none), (3, none), (3, none), (4, none), (3, (some .int)), (1, (some .int)), (2, (some .boolean)), (3, none), (7, none), (3, none), (4, none), (1, none), (4, (some .boolean)), (6, (some .int)), (4, (some .boolean)), (7, none), (4, (some .long)), (6, none), (5, none), (2, none), (4, none), (8, none), (9, none), (5, (some .int)), (7, none), (2, (some .boolean)), (3, (some .int)), (2, (some .int)), (2, (some .int)), (7, (some .int)), (2, (some .boolean)), (3, (some .int)), (4, (some .int)), (4, (some .int)), (4, (some .int)), (2, (some .int)), (3, (some .int)), (2, none), (2, none), (2, none), (2, none), (4, (some .boolean))]
noncomputable def am_nums : List (Nat × Nat × Nat × Nat × Nat × Nat) := [(99, 0, 0, 0, 0, 0), (0, 1, 1, 20, 6, 64), (0, 5, 0, 0, 0, 0), (0, 3, 0, 0, 0, 0), (0, 3, 0, 0, 0, 0), (0, 2, 0, 0, 0, 0), (0, 2, 0, 0, 0, 0), (0, 2, 0, 0, 0, 0), (0, 2, 1, 22, 0, 0), (0, 3, 1, 22, 0, 0), (0, 3, 1, 22, 0, 0), (0, 3, 1, 22, 0, 0), (0, 2, 0, 0, 0, 0), (0, 3, 0, 0, 0, 0), (0, 3, 1, 22, 0, 0), (0, 5, 1, 22, 0, 0), (0, 3, 1, 22, 0, 0), (0, 2, 0, 0, 0, 0), (0, 2, 0, 0, 0, 0), (0, 2, 0, 0, 0, 0), (0, 3, 1, 22, 0, 0), (1, 1, 2, 40, 57, 648), (1, 1, 0, 0, 0, 0), (1, 2, 1, 24, 0, 0), (1, 1, 0, 0, 0, 0), (1, 2, 0, 0, 0, 0), (1, 2, 0, 0, 0, 0), (1, 3, 0, 0, 0, 0), (1, 2, 0, 0, 0, 0), (1, 1, 0, 0, 0, 0), (1, 1, 1, 22, 0, 0), (2, 1, 1, 20, 2, 8), (2, 3, 0, 0, 0, 0), (2, 2, 0, 0, 0, 0), (3, 2, 1, 20, 4, 416), (3, 1, 2, 47, 0, 0), (3, 1, 1, 25, 0, 0), (99, 3, 0, 0, 0, 0), (3, 2, 0, 0, 0, 0), (3, 1, 0, 0, 0, 0), (3, 1, 0, 0, 0, 0), (3, 1, 1, 25, 0, 0), (3, 1, 1, 25, 0, 0), (3, 2, 0, 0, 0, 0), (3, 2, 0, 0, 0, 0), (3, 2, 1, 25, 0, 0), (3, 2, 1, 25, 0, 0), (3, 2, 1, 25, 0, 0), (3, 1, 0, 0, 0, 0), (3, 1, 2, 46, 0, 0), (3, 2, 1, 23, 0, 0), (3, 2, 1, 25, 0, 0), (99, 3, 0, 0, 0, 0), (99, 1, 0, 0, 0, 0), (3, 3, 2, 46, 0, 0), (3, 2, 0, 0, 0, 0), (3, 2, 1, 21, 0, 0), (4, 3, 1, 20, 0, 0), (99, 1, 0, 0, 0, 0), (99, 2, 1, 21, 0, 0), (99, 2, 0, 0, 0, 0), (4, 3, 1, 20, 0, 0), (4, 5, 1, 24, 0, 0), (4, 3, 1, 24, 0, 0), (4, 2, 1, 22, 0, 0), (4, 4, 2, 47, 0, 0), (4, 4, 3, 64, 0, 0), (4, 4, 2, 47, 0, 0), (4, 3, 2, 47, 0, 0), (4, 2, 2, 49, 0, 0), (4, 1, 4, 94, 0, 0), (4, 1, 2, 47, 0, 0), (5, 1, 2, 44, 8, 874), (5, 1, 0, 0, 0, 0), (5, 1, 0, 0, 0, 0), (5, 1, 1, 21, 0, 0), (5, 4, 1, 21, 0, 0), (5, 1, 3, 67, 0, 0), (5, 2, 0, 0, 0, 0), (5, 2, 0, 0, 0, 0), (5, 2, 2, 46, 0, 0), (6, 2, 1, 23, 1, 0), (6, 1, 0, 0, 0, 0), (6, 1, 0, 0, 0, 0), (6, 2, 0, 0, 0, 0), (6, 3, 0, 0, 0, 0), (6, 2, 0, 0, 0, 0), (6, 3, 0, 0, 0, 0), (6, 2, 0, 0, 0, 0), (6, 4, 1, 26, 0, 0), (6, 3, 0, 0, 0, 0), (7, 1, 2, 44, 9, 716), (7, 4, 3, 64, 0, 0), (7, 3, 3, 71, 0, 0), (7, 2, 2, 49, 0, 0), (7, 3, 1, 21, 0, 0), (7, 2, 2, 49, 0, 0), (8, 7, 2, 42, 8, 467), (8, 3, 6, 142, 0, 0), (8, 4, 4, 92, 0, 0), (8, 2, 2, 49, 0, 0), (8, 3, 3, 70, 0, 0), (99, 1, 0, 0, 0, 0), (8, 1, 1, 25, 0, 0), (8, 1, 3, 74, 0, 0), (8, 1, 3, 74, 0, 0), (8, 6, 2, 49, 0, 0), (8, 2, 5, 120, 0, 0), (99, 1, 0, 0, 0, 0), (8, 2, 4, 94, 0, 0), (8, 3, 3, 64, 0, 0), (8, 2, 3, 74, 0, 0), (8, 1, 2, 48, 0, 0), (8, 1, 1, 25, 0, 0), (8, 2, 2, 48, 0, 0), (8, 2, 2, 49, 0, 0), (8, 2, 2, 48, 0, 0), (8, 2, 3, 71, 0, 0), (8, 2, 3, 71, 0, 0), (9, 1, 1, 20, 2, 72), (9, 3, 1, 33, 0, 0), (9, 1, 0, 0, 0, 0), (9, 1, 0, 0, 0, 0), (10, 1, 1, 20, 2, 16), (99, 1, 0, 0, 0, 0), (99, 1, 2, 43, 0, 0), (99, 1, 0, 0, 0, 0), (10, 1, 0, 0, 0, 0), (10, 3, 1, 23, 0, 0), (10, 2, 0, 0, 0, 0), (10, 2, 0, 0, 0, 0), (10, 2, 0, 0, 0, 0), (10, 1, 0, 0, 0, 0), (10, 2, 0, 0, 0, 0), (10, 1, 0, 0, 0, 0), (10, 2, 0, 0, 0, 0), (10, 1, 0, 0, 0, 0), (10, 2, 0, 0, 0, 0), (11, 1, 3, 68, 95, 3170), (11, 6, 1, 24, 0, 0), (11, 2, 1, 21, 0, 0), (11, 5, 2, 48, 0, 0), (11, 4, 3, 71, 0, 0), (11, 4, 4, 90, 0, 0), (11, 3, 3, 71, 0, 0), (11, 4, 3, 70, 0, 0), (11, 3, 5, 114, 0, 0), (11, 1, 3, 68, 0, 0), (11, 2, 1, 21, 0, 0), (11, 3, 1, 22, 0, 0), (11, 3, 2, 48, 0, 0), (11, 2, 1, 26, 0, 0), (11, 2, 1, 22, 0, 0), (11, 2, 1, 21, 0, 0), (11, 3, 1, 22, 0, 0), (11, 2, 2, 47, 0, 0), (11, 3, 7, 164, 0, 0), (11, 4, 5, 117, 0, 0), (11, 2, 3, 67, 0, 0), (11, 2, 1, 21, 0, 0), (11, 3, 3, 68, 0, 0), (11, 3, 2, 45, 0, 0), (11, 3, 2, 46, 0, 0), (11, 3, 2, 46, 0, 0), (11, 2, 1, 22, 0, 0), (12, 1, 2, 54, 38, 2186), (99, 3, 0, 0, 0, 0), (12, 3, 1, 25, 0, 0), (12, 2, 0, 0, 0, 0), (12, 3, 0, 0, 0, 0), (12, 1, 0, 0, 0, 0), (99, 2, 0, 0, 0, 0), (12, 2, 2, 47, 0, 0), (12, 1, 1, 21, 0, 0), (12, 1, 3, 71, 0, 0), (12, 2, 3, 71, 0, 0), (12, 3, 4, 95, 0, 0), (12, 3, 4, 94, 0, 0), (99, 2, 0, 0, 0, 0), (99, 2, 0, 0, 0, 0), (99, 2, 1, 21, 0, 0), (99, 3, 0, 0, 0, 0), (99, 3, 1, 22, 0, 0), (12, 6, 2, 44, 0, 0), (12, 2, 0, 0, 0, 0), (12, 5, 2, 44, 0, 0), (12, 3, 1, 25, 0, 0), (12, 4, 2, 49, 0, 0), (12, 2, 0, 0, 0, 0), (12, 4, 2, 49, 0, 0), (12, 3, 2, 49, 0, 0), (12, 4, 3, 67, 0, 0), (99, 4, 2, 44, 0, 0), (12, 2, 1, 25, 0, 0), (12, 3, 5, 120, 0, 0), (12, 1, 2, 49, 0, 0), (12, 2, 0, 0, 0, 0), (12, 3, 1, 25, 0, 0), (99, 1, 0, 0, 0, 0), (12, 2, 0, 0, 0, 0), (12, 3, 2, 49, 0, 0), (12, 2, 2, 49, 0, 0), (12, 2, 0, 0, 0, 0), (12, 2, 1, 25, 0, 0), (12, 3, 1, 25, 0, 0), (12, 2, 0, 0, 0, 0), (12, 1, 1, 25, 0, 0), (12, 2, 0, 0, 0, 0), (12, 2, 2, 49, 0, 0), (12, 3, 0, 0, 0, 0), (12, 3, 0, 0, 0, 0), (12, 3, 0, 0, 0, 0), (12, 4, 0, 0, 0, 0), (12, 3, 1, 23, 0, 0), (12, 3, 2, 42, 0, 0), (12, 4, 0, 0, 0, 0), (12, 2, 0, 0, 0, 0), (12, 2, 1, 25, 0, 0), (12, 2, 2, 48, 0, 0), (99, 1, 0, 0, 0, 0), (12, 1, 1, 20, 0, 0), (12, 2, 2, 42, 0, 0), (12, 2, 1, 21, 0, 0), (12, 4, 0, 0, 0, 0), (12, 1, 0, 0, 0, 0), (12, 3, 2, 44, 0, 0), (99, 2, 0, 0, 0, 0), (99, 1, 0, 0, 0, 0), (99, 1, 0, 0, 0, 0), (12, 3, 1, 22, 0, 0), (12, 4, 3, 67, 0, 0), (12, 3, 2, 47, 0, 0), (12, 1, 5, 120, 0, 0), (12, 2, 6, 142, 0, 0), (12, 3, 10, 241, 0, 0), (12, 1, 0, 0, 0, 0), (12, 1, 1, 25, 0, 0), (12, 2, 2, 49, 0, 0), (12, 6, 1, 23, 0, 0), (12, 1, 9, 219, 0, 0), (12, 1, 3, 70, 0, 0), (12, 1, 7, 165, 0, 0), (12, 2, 0, 0, 0, 0), (12, 2, 1, 23, 0, 0), (12, 2, 5, 120, 0, 0), (12, 2, 8, 193, 0, 0), (12, 1, 3, 70, 0, 0), (12, 2, 7, 165, 0, 0), (12, 2, 4, 93, 0, 0), (12, 2, 6, 142, 0, 0), (12, 2, 6, 142, 0, 0), (12, 2, 7, 165, 0, 0), (12, 2, 7, 165, 0, 0), (12, 4, 5, 116, 0, 0), (12, 4, 4, 90, 0, 0), (12, 1, 2, 42, 0, 0), (12, 1, 3, 63, 0, 0), (12, 2, 4, 85, 0, 0), (12, 2, 0, 0, 0, 0), (12, 3, 4, 85, 0, 0), (12, 2, 1, 25, 0, 0), (12, 3, 2, 46, 0, 0), (12, 3, 2, 46, 0, 0), (12, 3, 2, 46, 0, 0), (12, 2, 0, 0, 0, 0), (99, 1, 0, 0, 0, 0), (99, 1, 1, 21, 0, 0), (6, 2, 1, 23, 1, 436), (6, 2, 1, 23, 1, 572), (6, 2, 1, 23, 1, 32), (6, 2, 1, 23, 1, 400), (99, 1, 13, 532, 600000, 7302249)]
noncomputable def am_cs (q : Nat) : List Instr := am_codes.getD q []
noncomputable def am_num (q : Nat) : Nat × Nat × Nat × Nat × Nat × Nat := am_nums.getD q (99, 0, 0, 0, 0, 0)
noncomputable def am_y (q : Nat) : MethodName := am_ys.getD q ⟨"", "", ""⟩
noncomputable def am_cc (q : Nat) : ByteArray := am_ccs.getD q ⟨#[]⟩
noncomputable def am_nl (q : Nat) : Nat := (am_nls.getD q (0, none)).1
noncomputable def am_rt (q : Nat) : Option FieldType := (am_nls.getD q (0, none)).2
noncomputable def am_rc (q : Nat) : Nat := (am_num q).1
noncomputable def am_na (q : Nat) : Nat := (am_num q).2.1
noncomputable def am_fr (q : Nat) : Nat := (am_num q).2.2.1
noncomputable def am_lo (q : Nat) : Nat := (am_num q).2.2.2.1
noncomputable def am_mc (q : Nat) : Nat := (am_num q).2.2.2.2.1
noncomputable def am_ms (q : Nat) : Nat := (am_num q).2.2.2.2.2
end
section
/-! ===== rows: (pc, instruction, length, place of its word in lw_tbl) ===== -/
noncomputable def am_r1 : List (Nat × Instr × Nat × Nat) := [(0, .aload_n 0, 1, 0), (1, .invokespecial 3, 3, 232), (4, .aload_n 0, 1, 0), (5, .bipush 16, 2, 0), (7, .newarray .int, 2, 0), (9, .putfield 9, 3, 252), (12, .aload_n 0, 1, 0), (13, .bipush 16, 2, 0), (15, .newarray .long, 2, 0), (17, .putfield 15, 3, 253), (20, .aload_n 0, 1, 0), (21, .bipush 8, 2, 0), (23, .newarray .int, 2, 0), (25, .putfield 19, 3, 255), (28, .aload_n 0, 1, 0), (29, .bipush 8, 2, 0), (31, .newarray .int, 2, 0), (33, .putfield 22, 3, 256), (36, .aload_n 0, 1, 0), (37, .bipush 8, 2, 0), (39, .newarray .int, 2, 0), (41, .putfield 25, 3, 257), (44, .aload_n 0, 1, 0), (45, .bipush 8, 2, 0), (47, .newarray .long, 2, 0), (49, .putfield 28, 3, 258), (52, .return_, 1, 0)]
noncomputable def am_r2 : List (Nat × Instr × Nat × Nat) := [(0, .aload_n 0, 1, 0), (1, .iconst 1, 1, 0), (2, .putfield 31, 3, 233), (5, .aload_n 0, 1, 0), (6, .iload_n 1, 1, 0), (7, .putfield 35, 3, 236), (10, .aload_n 0, 1, 0), (11, .iload_n 2, 1, 0), (12, .putfield 39, 3, 239), (15, .aload_n 0, 1, 0), (16, .iload_n 3, 1, 0), (17, .putfield 42, 3, 242), (20, .aload_n 0, 1, 0), (21, .iload 4, 2, 0), (23, .putfield 45, 3, 245), (26, .aload_n 0, 1, 0), (27, .iconst 0, 1, 0), (28, .putfield 48, 3, 254), (31, .aload_n 0, 1, 0), (32, .iconst 0, 1, 0), (33, .putfield 51, 3, 259), (36, .return_, 1, 0)]
noncomputable def am_r3 : List (Nat × Instr × Nat × Nat) := [(0, .aload_n 0, 1, 0), (1, .lload_n 1, 1, 0), (2, .putfield 54, 3, 250), (5, .aload_n 0, 1, 0), (6, .iload_n 3, 1, 0), (7, .putfield 58, 3, 251), (10, .return_, 1, 0)]
noncomputable def am_r4 : List (Nat × Instr × Nat × Nat) := [(0, .aload_n 0, 1, 0), (1, .getfield 54, 3, 250), (4, .lload_n 1, 1, 0), (5, .lcmp, 1, 0), (6, .ifCond .ne 15, 3, 0), (9, .aload_n 0, 1, 0), (10, .getfield 58, 3, 251), (13, .iload_n 3, 1, 0), (14, .if_icmp .ne 7, 3, 0), (17, .iconst 1, 1, 0), (18, .goto 4, 3, 0), (21, .iconst 0, 1, 0), (22, .ireturn, 1, 0)]
noncomputable def am_r5 : List (Nat × Instr × Nat × Nat) := [(0, .aload_n 0, 1, 0), (1, .getfield 61, 3, 248), (4, .lload_n 1, 1, 0), (5, .lsub, 1, 0), (6, .l2i, 1, 0), (7, .ireturn, 1, 0)]
noncomputable def am_r6 : List (Nat × Instr × Nat × Nat) := [(0, .aload_n 0, 1, 0), (1, .aload_n 0, 1, 0), (2, .getfield 61, 3, 248), (5, .lload_n 1, 1, 0), (6, .lcmp, 1, 0), (7, .ifCond .le 7, 3, 0), (10, .iconst 1, 1, 0), (11, .goto 4, 3, 0), (14, .iconst 0, 1, 0), (15, .putfield 31, 3, 233), (18, .iconst 0, 1, 0), (19, .istore_n 3, 1, 0), (20, .iconst 0, 1, 0), (21, .istore 4, 2, 0), (23, .iload 4, 2, 0), (25, .aload_n 0, 1, 0), (26, .getfield 48, 3, 254), (29, .if_icmp .ge 57, 3, 0), (32, .iload 4, 2, 0), (34, .bipush 16, 2, 0), (36, .if_icmp .ge 50, 3, 0), (39, .aload_n 0, 1, 0), (40, .getfield 15, 3, 253), (43, .iload 4, 2, 0), (45, .laload, 1, 0), (46, .lload_n 1, 1, 0), (47, .lcmp, 1, 0), (48, .ifCond .le 32, 3, 0), (51, .aload_n 0, 1, 0), (52, .getfield 9, 3, 252), (55, .iload_n 3, 1, 0), (56, .aload_n 0, 1, 0), (57, .getfield 9, 3, 252), (60, .iload 4, 2, 0), (62, .iaload, 1, 0), (63, .iastore, 1, 0), (64, .aload_n 0, 1, 0), (65, .getfield 15, 3, 253), (68, .iload_n 3, 1, 0), (69, .aload_n 0, 1, 0), (70, .getfield 15, 3, 253), (73, .iload 4, 2, 0), (75, .laload, 1, 0), (76, .lastore, 1, 0), (77, .iinc 3 1, 3, 0), (80, .iinc 4 1, 3, 0), (83, .goto (-60), 3, 0), (86, .aload_n 0, 1, 0), (87, .iload_n 3, 1, 0), (88, .putfield 48, 3, 254), (91, .iconst 0, 1, 0), (92, .istore_n 3, 1, 0), (93, .iconst 0, 1, 0), (94, .istore 4, 2, 0), (96, .iload 4, 2, 0), (98, .aload_n 0, 1, 0), (99, .getfield 51, 3, 259), (102, .if_icmp .ge 83, 3, 0), (105, .iload 4, 2, 0), (107, .bipush 8, 2, 0), (109, .if_icmp .ge 76, 3, 0), (112, .aload_n 0, 1, 0), (113, .getfield 28, 3, 258), (116, .iload 4, 2, 0), (118, .laload, 1, 0), (119, .lload_n 1, 1, 0), (120, .lcmp, 1, 0), (121, .ifCond .le 58, 3, 0), (124, .aload_n 0, 1, 0), (125, .getfield 19, 3, 255), (128, .iload_n 3, 1, 0), (129, .aload_n 0, 1, 0), (130, .getfield 19, 3, 255), (133, .iload 4, 2, 0), (135, .iaload, 1, 0), (136, .iastore, 1, 0), (137, .aload_n 0, 1, 0), (138, .getfield 22, 3, 256), (141, .iload_n 3, 1, 0), (142, .aload_n 0, 1, 0), (143, .getfield 22, 3, 256), (146, .iload 4, 2, 0), (148, .iaload, 1, 0), (149, .iastore, 1, 0), (150, .aload_n 0, 1, 0), (151, .getfield 25, 3, 257), (154, .iload_n 3, 1, 0), (155, .aload_n 0, 1, 0), (156, .getfield 25, 3, 257), (159, .iload 4, 2, 0), (161, .iaload, 1, 0), (162, .iastore, 1, 0), (163, .aload_n 0, 1, 0), (164, .getfield 28, 3, 258), (167, .iload_n 3, 1, 0), (168, .aload_n 0, 1, 0), (169, .getfield 28, 3, 258), (172, .iload 4, 2, 0), (174, .laload, 1, 0), (175, .lastore, 1, 0), (176, .iinc 3 1, 3, 0), (179, .iinc 4 1, 3, 0), (182, .goto (-86), 3, 0), (185, .aload_n 0, 1, 0), (186, .iload_n 3, 1, 0), (187, .putfield 51, 3, 259), (190, .return_, 1, 0)]
noncomputable def am_r7 : List (Nat × Instr × Nat × Nat) := [(0, .iconst 0, 1, 0), (1, .istore_n 2, 1, 0), (2, .iload_n 2, 1, 0), (3, .aload_n 0, 1, 0), (4, .getfield 48, 3, 254), (7, .if_icmp .ge 27, 3, 0), (10, .iload_n 2, 1, 0), (11, .bipush 16, 2, 0), (13, .if_icmp .ge 21, 3, 0), (16, .aload_n 0, 1, 0), (17, .getfield 9, 3, 252), (20, .iload_n 2, 1, 0), (21, .iaload, 1, 0), (22, .iload_n 1, 1, 0), (23, .if_icmp .ne 5, 3, 0), (26, .iload_n 2, 1, 0), (27, .ireturn, 1, 0), (28, .iinc 2 1, 3, 0), (31, .goto (-29), 3, 0), (34, .iconst (-1), 1, 0), (35, .ireturn, 1, 0)]
noncomputable def am_r8 : List (Nat × Instr × Nat × Nat) := [(0, .aload_n 0, 1, 0), (1, .iload_n 1, 1, 0), (2, .invokevirtual 64, 3, 783), (5, .iconst (-1), 1, 0), (6, .if_icmp .eq 7, 3, 0), (9, .iconst 1, 1, 0), (10, .goto 4, 3, 0), (13, .iconst 0, 1, 0), (14, .ireturn, 1, 0)]
noncomputable def am_r9 : List (Nat × Instr × Nat × Nat) := [(0, .iconst 0, 1, 0), (1, .istore_n 3, 1, 0), (2, .iconst 0, 1, 0), (3, .istore 4, 2, 0), (5, .iload 4, 2, 0), (7, .iload_n 2, 1, 0), (8, .if_icmp .ge 31, 3, 0), (11, .iload 4, 2, 0), (13, .aload_n 1, 1, 0), (14, .arraylength, 1, 0), (15, .if_icmp .ge 24, 3, 0), (18, .aload_n 0, 1, 0), (19, .aload_n 1, 1, 0), (20, .iload 4, 2, 0), (22, .iaload, 1, 0), (23, .invokevirtual 64, 3, 783), (26, .iconst (-1), 1, 0), (27, .if_icmp .ne 6, 3, 0), (30, .iinc 3 1, 3, 0), (33, .iinc 4 1, 3, 0), (36, .goto (-31), 3, 0), (39, .aload_n 0, 1, 0), (40, .getfield 48, 3, 254), (43, .iload_n 3, 1, 0), (44, .iadd, 1, 0), (45, .bipush 16, 2, 0), (47, .if_icmp .gt 7, 3, 0), (50, .iconst 1, 1, 0), (51, .goto 4, 3, 0), (54, .iconst 0, 1, 0), (55, .ireturn, 1, 0)]
noncomputable def am_r10 : List (Nat × Instr × Nat × Nat) := [(0, .aload_n 0, 1, 0), (1, .iload_n 1, 1, 0), (2, .invokevirtual 64, 3, 783), (5, .istore 4, 2, 0), (7, .iload 4, 2, 0), (9, .iconst (-1), 1, 0), (10, .if_icmp .ne 28, 3, 0), (13, .aload_n 0, 1, 0), (14, .getfield 48, 3, 254), (17, .bipush 16, 2, 0), (19, .if_icmp .ge 19, 3, 0), (22, .aload_n 0, 1, 0), (23, .getfield 48, 3, 254), (26, .istore 4, 2, 0), (28, .aload_n 0, 1, 0), (29, .dup, 1, 0), (30, .getfield 48, 3, 254), (33, .iconst 1, 1, 0), (34, .iadd, 1, 0), (35, .putfield 48, 3, 254), (38, .iload 4, 2, 0), (40, .iconst (-1), 1, 0), (41, .if_icmp .eq 19, 3, 0), (44, .aload_n 0, 1, 0), (45, .getfield 9, 3, 252), (48, .iload 4, 2, 0), (50, .iload_n 1, 1, 0), (51, .iastore, 1, 0), (52, .aload_n 0, 1, 0), (53, .getfield 15, 3, 253), (56, .iload 4, 2, 0), (58, .lload_n 2, 1, 0), (59, .lastore, 1, 0), (60, .return_, 1, 0)]
noncomputable def am_r11 : List (Nat × Instr × Nat × Nat) := [(0, .aload_n 0, 1, 0), (1, .iload_n 1, 1, 0), (2, .invokevirtual 64, 3, 783), (5, .istore 4, 2, 0), (7, .iload 4, 2, 0), (9, .iconst (-1), 1, 0), (10, .if_icmp .ne 7, 3, 0), (13, .iconst 0, 1, 0), (14, .goto 13, 3, 0), (17, .aload_n 0, 1, 0), (18, .getfield 15, 3, 253), (21, .iload 4, 2, 0), (23, .laload, 1, 0), (24, .lload_n 2, 1, 0), (25, .lsub, 1, 0), (26, .l2i, 1, 0), (27, .ireturn, 1, 0)]
noncomputable def am_r12 : List (Nat × Instr × Nat × Nat) := [(0, .iconst 0, 1, 0), (1, .istore_n 2, 1, 0), (2, .iload_n 2, 1, 0), (3, .aload_n 0, 1, 0), (4, .getfield 51, 3, 259), (7, .if_icmp .ge 27, 3, 0), (10, .iload_n 2, 1, 0), (11, .bipush 8, 2, 0), (13, .if_icmp .ge 21, 3, 0), (16, .aload_n 0, 1, 0), (17, .getfield 19, 3, 255), (20, .iload_n 2, 1, 0), (21, .iaload, 1, 0), (22, .iload_n 1, 1, 0), (23, .if_icmp .ne 5, 3, 0), (26, .iload_n 2, 1, 0), (27, .ireturn, 1, 0), (28, .iinc 2 1, 3, 0), (31, .goto (-29), 3, 0), (34, .iconst (-1), 1, 0), (35, .ireturn, 1, 0)]
noncomputable def am_r13 : List (Nat × Instr × Nat × Nat) := [(0, .iconst 0, 1, 0), (1, .istore_n 3, 1, 0), (2, .iload_n 3, 1, 0), (3, .aload_n 0, 1, 0), (4, .getfield 51, 3, 259), (7, .if_icmp .ge 37, 3, 0), (10, .iload_n 3, 1, 0), (11, .bipush 8, 2, 0), (13, .if_icmp .ge 31, 3, 0), (16, .aload_n 0, 1, 0), (17, .getfield 22, 3, 256), (20, .iload_n 3, 1, 0), (21, .iaload, 1, 0), (22, .iload_n 1, 1, 0), (23, .if_icmp .ne 15, 3, 0), (26, .aload_n 0, 1, 0), (27, .getfield 25, 3, 257), (30, .iload_n 3, 1, 0), (31, .iaload, 1, 0), (32, .iload_n 2, 1, 0), (33, .if_icmp .ne 5, 3, 0), (36, .iload_n 3, 1, 0), (37, .ireturn, 1, 0), (38, .iinc 3 1, 3, 0), (41, .goto (-39), 3, 0), (44, .iconst (-1), 1, 0), (45, .ireturn, 1, 0)]
noncomputable def am_r14 : List (Nat × Instr × Nat × Nat) := [(0, .aload_n 0, 1, 0), (1, .iload_n 1, 1, 0), (2, .invokevirtual 68, 3, 997), (5, .iconst (-1), 1, 0), (6, .if_icmp .ne 12, 3, 0), (9, .aload_n 0, 1, 0), (10, .getfield 51, 3, 259), (13, .bipush 8, 2, 0), (15, .if_icmp .ge 25, 3, 0), (18, .aload_n 0, 1, 0), (19, .iload_n 2, 1, 0), (20, .invokevirtual 64, 3, 783), (23, .iconst (-1), 1, 0), (24, .if_icmp .ne 12, 3, 0), (27, .aload_n 0, 1, 0), (28, .getfield 48, 3, 254), (31, .bipush 16, 2, 0), (33, .if_icmp .ge 7, 3, 0), (36, .iconst 1, 1, 0), (37, .goto 4, 3, 0), (40, .iconst 0, 1, 0), (41, .ireturn, 1, 0)]
noncomputable def am_r15 : List (Nat × Instr × Nat × Nat) := [(0, .aload_n 0, 1, 0), (1, .iload_n 1, 1, 0), (2, .invokevirtual 68, 3, 997), (5, .istore 6, 2, 0), (7, .iload 6, 2, 0), (9, .iconst (-1), 1, 0), (10, .if_icmp .ne 28, 3, 0), (13, .aload_n 0, 1, 0), (14, .getfield 51, 3, 259), (17, .bipush 8, 2, 0), (19, .if_icmp .ge 19, 3, 0), (22, .aload_n 0, 1, 0), (23, .getfield 51, 3, 259), (26, .istore 6, 2, 0), (28, .aload_n 0, 1, 0), (29, .dup, 1, 0), (30, .getfield 51, 3, 259), (33, .iconst 1, 1, 0), (34, .iadd, 1, 0), (35, .putfield 51, 3, 259), (38, .iload 6, 2, 0), (40, .iconst (-1), 1, 0), (41, .if_icmp .eq 36, 3, 0), (44, .aload_n 0, 1, 0), (45, .getfield 19, 3, 255), (48, .iload 6, 2, 0), (50, .iload_n 1, 1, 0), (51, .iastore, 1, 0), (52, .aload_n 0, 1, 0), (53, .getfield 22, 3, 256), (56, .iload 6, 2, 0), (58, .iload_n 2, 1, 0), (59, .iastore, 1, 0), (60, .aload_n 0, 1, 0), (61, .getfield 25, 3, 257), (64, .iload 6, 2, 0), (66, .iload_n 3, 1, 0), (67, .iastore, 1, 0), (68, .aload_n 0, 1, 0), (69, .getfield 28, 3, 258), (72, .iload 6, 2, 0), (74, .lload 4, 2, 0), (76, .lastore, 1, 0), (77, .return_, 1, 0)]
noncomputable def am_r16 : List (Nat × Instr × Nat × Nat) := [(0, .aload_n 0, 1, 0), (1, .iload_n 1, 1, 0), (2, .invokevirtual 68, 3, 997), (5, .istore 4, 2, 0), (7, .iload 4, 2, 0), (9, .iconst (-1), 1, 0), (10, .if_icmp .ne 7, 3, 0), (13, .iconst 0, 1, 0), (14, .goto 13, 3, 0), (17, .aload_n 0, 1, 0), (18, .getfield 28, 3, 258), (21, .iload 4, 2, 0), (23, .laload, 1, 0), (24, .lload_n 2, 1, 0), (25, .lsub, 1, 0), (26, .l2i, 1, 0), (27, .ireturn, 1, 0)]
noncomputable def am_r17 : List (Nat × Instr × Nat × Nat) := [(0, .iload_n 1, 1, 0), (1, .ifCond .lt 18, 3, 0), (4, .iload_n 1, 1, 0), (5, .bipush 8, 2, 0), (7, .if_icmp .ge 12, 3, 0), (10, .aload_n 0, 1, 0), (11, .getfield 19, 3, 255), (14, .iload_n 1, 1, 0), (15, .iaload, 1, 0), (16, .goto 4, 3, 0), (19, .iconst 0, 1, 0), (20, .ireturn, 1, 0)]
noncomputable def am_r18 : List (Nat × Instr × Nat × Nat) := [(0, .iload_n 1, 1, 0), (1, .ifCond .lt 18, 3, 0), (4, .iload_n 1, 1, 0), (5, .bipush 8, 2, 0), (7, .if_icmp .ge 12, 3, 0), (10, .aload_n 0, 1, 0), (11, .getfield 22, 3, 256), (14, .iload_n 1, 1, 0), (15, .iaload, 1, 0), (16, .goto 4, 3, 0), (19, .iconst 0, 1, 0), (20, .ireturn, 1, 0)]
noncomputable def am_r19 : List (Nat × Instr × Nat × Nat) := [(0, .iload_n 1, 1, 0), (1, .ifCond .lt 18, 3, 0), (4, .iload_n 1, 1, 0), (5, .bipush 8, 2, 0), (7, .if_icmp .ge 12, 3, 0), (10, .aload_n 0, 1, 0), (11, .getfield 25, 3, 257), (14, .iload_n 1, 1, 0), (15, .iaload, 1, 0), (16, .goto 4, 3, 0), (19, .iconst 0, 1, 0), (20, .ireturn, 1, 0)]
noncomputable def am_r20 : List (Nat × Instr × Nat × Nat) := [(0, .iload_n 1, 1, 0), (1, .tableswitch 79 0 6 #[43, 48, 53, 58, 63, 69, 74], 43, 0), (44, .aload_n 0, 1, 0), (45, .getfield 35, 3, 236), (48, .ireturn, 1, 0), (49, .aload_n 0, 1, 0), (50, .getfield 39, 3, 239), (53, .ireturn, 1, 0), (54, .aload_n 0, 1, 0), (55, .getfield 42, 3, 242), (58, .ireturn, 1, 0), (59, .aload_n 0, 1, 0), (60, .getfield 45, 3, 245), (63, .ireturn, 1, 0), (64, .aload_n 0, 1, 0), (65, .lload_n 2, 1, 0), (66, .invokevirtual 71, 3, 1131), (69, .ireturn, 1, 0), (70, .aload_n 0, 1, 0), (71, .getfield 48, 3, 254), (74, .ireturn, 1, 0), (75, .aload_n 0, 1, 0), (76, .getfield 51, 3, 259), (79, .ireturn, 1, 0), (80, .iconst (-1), 1, 0), (81, .ireturn, 1, 0)]
noncomputable def am_r21 : List (Nat × Instr × Nat × Nat) := [(0, .aload_n 0, 1, 0), (1, .invokespecial 3, 3, 225), (4, .aload_n 0, 1, 0), (5, .bipush 8, 2, 0), (7, .anewarray 9, 3, 226), (10, .putfield 11, 3, 293), (13, .iconst 0, 1, 0), (14, .istore_n 1, 1, 0), (15, .iload_n 1, 1, 0), (16, .bipush 8, 2, 0), (18, .if_icmp .ge 22, 3, 0), (21, .aload_n 0, 1, 0), (22, .getfield 11, 3, 293), (25, .iload_n 1, 1, 0), (26, .new 9, 3, 226), (29, .dup, 1, 0), (30, .invokespecial 17, 3, 229), (33, .aastore, 1, 0), (34, .iinc 1 1, 3, 0), (37, .goto (-22), 3, 0), (40, .return_, 1, 0)]
noncomputable def am_r22 : List (Nat × Instr × Nat × Nat) := [(0, .aload_n 0, 1, 0), (1, .getfield 18, 3, 294), (4, .lreturn, 1, 0)]
noncomputable def am_r23 : List (Nat × Instr × Nat × Nat) := [(0, .aload_n 0, 1, 0), (1, .dup, 1, 0), (2, .getfield 18, 3, 294), (5, .iload_n 1, 1, 0), (6, .i2l, 1, 0), (7, .ladd, 1, 0), (8, .putfield 18, 3, 294), (11, .aload_n 0, 1, 0), (12, .invokevirtual 22, 3, 722), (15, .istore_n 2, 1, 0), (16, .iconst 0, 1, 0), (17, .istore_n 3, 1, 0), (18, .iload_n 3, 1, 0), (19, .bipush 8, 2, 0), (21, .if_icmp .ge 34, 3, 0), (24, .aload_n 0, 1, 0), (25, .getfield 11, 3, 293), (28, .iload_n 3, 1, 0), (29, .aaload, 1, 0), (30, .getfield 26, 3, 234), (33, .ifCond .eq 16, 3, 0), (36, .aload_n 0, 1, 0), (37, .getfield 11, 3, 293), (40, .iload_n 3, 1, 0), (41, .aaload, 1, 0), (42, .aload_n 0, 1, 0), (43, .getfield 18, 3, 294), (46, .invokevirtual 30, 3, 726), (49, .iinc 3 1, 3, 0), (52, .goto (-34), 3, 0), (55, .iload_n 2, 1, 0), (56, .aload_n 0, 1, 0), (57, .invokevirtual 22, 3, 722), (60, .isub, 1, 0), (61, .ireturn, 1, 0)]
noncomputable def am_r24 : List (Nat × Instr × Nat × Nat) := [(0, .iconst 0, 1, 0), (1, .istore_n 1, 1, 0), (2, .iconst 0, 1, 0), (3, .istore_n 2, 1, 0), (4, .iload_n 2, 1, 0), (5, .bipush 8, 2, 0), (7, .if_icmp .ge 24, 3, 0), (10, .aload_n 0, 1, 0), (11, .getfield 11, 3, 293), (14, .iload_n 2, 1, 0), (15, .aaload, 1, 0), (16, .getfield 26, 3, 234), (19, .ifCond .eq 6, 3, 0), (22, .iinc 1 1, 3, 0), (25, .iinc 2 1, 3, 0), (28, .goto (-24), 3, 0), (31, .iload_n 1, 1, 0), (32, .ireturn, 1, 0)]
noncomputable def am_r25 : List (Nat × Instr × Nat × Nat) := [(0, .iconst 0, 1, 0), (1, .istore_n 2, 1, 0), (2, .iconst 0, 1, 0), (3, .istore_n 3, 1, 0), (4, .iload_n 3, 1, 0), (5, .bipush 8, 2, 0), (7, .if_icmp .ge 37, 3, 0), (10, .aload_n 0, 1, 0), (11, .getfield 11, 3, 293), (14, .iload_n 3, 1, 0), (15, .aaload, 1, 0), (16, .getfield 26, 3, 234), (19, .ifCond .eq 19, 3, 0), (22, .aload_n 0, 1, 0), (23, .getfield 11, 3, 293), (26, .iload_n 3, 1, 0), (27, .aaload, 1, 0), (28, .getfield 34, 3, 243), (31, .iload_n 1, 1, 0), (32, .if_icmp .ne 6, 3, 0), (35, .iinc 2 1, 3, 0), (38, .iinc 3 1, 3, 0), (41, .goto (-37), 3, 0), (44, .iload_n 2, 1, 0), (45, .ireturn, 1, 0)]
noncomputable def am_r26 : List (Nat × Instr × Nat × Nat) := [(0, .iload_n 1, 1, 0), (1, .ifCond .lt 30, 3, 0), (4, .iload_n 1, 1, 0), (5, .bipush 8, 2, 0), (7, .if_icmp .ge 24, 3, 0), (10, .aload_n 0, 1, 0), (11, .getfield 11, 3, 293), (14, .iload_n 1, 1, 0), (15, .aaload, 1, 0), (16, .getfield 26, 3, 234), (19, .ifCond .eq 12, 3, 0), (22, .aload_n 0, 1, 0), (23, .getfield 11, 3, 293), (26, .iload_n 1, 1, 0), (27, .aaload, 1, 0), (28, .goto 4, 3, 0), (31, .aconst_null, 1, 0), (32, .areturn, 1, 0)]
noncomputable def am_r27 : List (Nat × Instr × Nat × Nat) := [(0, .iconst 0, 1, 0), (1, .istore_n 3, 1, 0), (2, .iload_n 3, 1, 0), (3, .bipush 8, 2, 0), (5, .if_icmp .ge 46, 3, 0), (8, .aload_n 0, 1, 0), (9, .getfield 11, 3, 293), (12, .iload_n 3, 1, 0), (13, .aaload, 1, 0), (14, .astore 4, 2, 0), (16, .aload 4, 2, 0), (18, .getfield 26, 3, 234), (21, .ifCond .eq 24, 3, 0), (24, .aload 4, 2, 0), (26, .getfield 38, 3, 238), (29, .iload_n 1, 1, 0), (30, .if_icmp .ne 15, 3, 0), (33, .aload 4, 2, 0), (35, .getfield 41, 3, 241), (38, .iload_n 2, 1, 0), (39, .if_icmp .ne 6, 3, 0), (42, .aload 4, 2, 0), (44, .areturn, 1, 0), (45, .iinc 3 1, 3, 0), (48, .goto (-46), 3, 0), (51, .aconst_null, 1, 0), (52, .areturn, 1, 0)]
noncomputable def am_r28 : List (Nat × Instr × Nat × Nat) := [(0, .iconst 0, 1, 0), (1, .istore_n 2, 1, 0), (2, .iload_n 2, 1, 0), (3, .bipush 8, 2, 0), (5, .if_icmp .ge 41, 3, 0), (8, .aload_n 0, 1, 0), (9, .getfield 11, 3, 293), (12, .iload_n 2, 1, 0), (13, .aaload, 1, 0), (14, .getfield 26, 3, 234), (17, .ifCond .eq 23, 3, 0), (20, .aload_n 0, 1, 0), (21, .getfield 11, 3, 293), (24, .iload_n 2, 1, 0), (25, .aaload, 1, 0), (26, .getfield 44, 3, 246), (29, .iload_n 1, 1, 0), (30, .if_icmp .ne 10, 3, 0), (33, .aload_n 0, 1, 0), (34, .getfield 11, 3, 293), (37, .iload_n 2, 1, 0), (38, .aaload, 1, 0), (39, .areturn, 1, 0), (40, .iinc 2 1, 3, 0), (43, .goto (-41), 3, 0), (46, .aconst_null, 1, 0), (47, .areturn, 1, 0)]
noncomputable def am_r29 : List (Nat × Instr × Nat × Nat) := [(0, .iconst 0, 1, 0), (1, .istore_n 1, 1, 0), (2, .iload_n 1, 1, 0), (3, .bipush 8, 2, 0), (5, .if_icmp .ge 28, 3, 0), (8, .aload_n 0, 1, 0), (9, .getfield 11, 3, 293), (12, .iload_n 1, 1, 0), (13, .aaload, 1, 0), (14, .getfield 26, 3, 234), (17, .ifCond .ne 10, 3, 0), (20, .aload_n 0, 1, 0), (21, .getfield 11, 3, 293), (24, .iload_n 1, 1, 0), (25, .aaload, 1, 0), (26, .areturn, 1, 0), (27, .iinc 1 1, 3, 0), (30, .goto (-28), 3, 0), (33, .aconst_null, 1, 0), (34, .areturn, 1, 0)]
noncomputable def am_r30 : List (Nat × Instr × Nat × Nat) := [(0, .ldc 47, 2, 922), (2, .istore_n 1, 1, 0), (3, .iconst 0, 1, 0), (4, .istore_n 2, 1, 0), (5, .iload_n 2, 1, 0), (6, .bipush 8, 2, 0), (8, .if_icmp .ge 20, 3, 0), (11, .aload_n 0, 1, 0), (12, .iload_n 1, 1, 0), (13, .invokevirtual 48, 3, 923), (16, .ifnull 12, 3, 0), (19, .iinc 1 1, 3, 0), (22, .iinc 2 1, 3, 0), (25, .goto (-20), 3, 0), (28, .iload_n 1, 1, 0), (29, .ireturn, 1, 0)]
noncomputable def am_r31 : List (Nat × Instr × Nat × Nat) := [(0, .aload_n 0, 1, 0), (1, .invokespecial 3, 3, 209), (4, .aload_n 0, 1, 0), (5, .iconst 4, 1, 0), (6, .newarray .int, 2, 0), (8, .putfield 9, 3, 210), (11, .aload_n 0, 1, 0), (12, .iconst 4, 1, 0), (13, .newarray .int, 2, 0), (15, .putfield 15, 3, 211), (18, .return_, 1, 0)]
noncomputable def am_r32 : List (Nat × Instr × Nat × Nat) := [(0, .aload_n 0, 1, 0), (1, .getfield 18, 3, 212), (4, .iconst 4, 1, 0), (5, .if_icmp .lt 5, 3, 0), (8, .iconst (-1), 1, 0), (9, .ireturn, 1, 0), (10, .aload_n 0, 1, 0), (11, .getfield 9, 3, 210), (14, .aload_n 0, 1, 0), (15, .getfield 18, 3, 212), (18, .iload_n 1, 1, 0), (19, .iastore, 1, 0), (20, .aload_n 0, 1, 0), (21, .getfield 15, 3, 211), (24, .aload_n 0, 1, 0), (25, .getfield 18, 3, 212), (28, .iload_n 2, 1, 0), (29, .ifCond .ne 7, 3, 0), (32, .iconst 0, 1, 0), (33, .goto 9, 3, 0), (36, .iconst (-1), 1, 0), (37, .bipush 32, 2, 0), (39, .iload_n 2, 1, 0), (40, .isub, 1, 0), (41, .ishl, 1, 0), (42, .iastore, 1, 0), (43, .aload_n 0, 1, 0), (44, .dup, 1, 0), (45, .getfield 18, 3, 212), (48, .iconst 1, 1, 0), (49, .iadd, 1, 0), (50, .putfield 18, 3, 212), (53, .aload_n 0, 1, 0), (54, .getfield 18, 3, 212), (57, .ireturn, 1, 0)]
noncomputable def am_r33 : List (Nat × Instr × Nat × Nat) := [(0, .iconst 0, 1, 0), (1, .istore_n 2, 1, 0), (2, .iload_n 2, 1, 0), (3, .aload_n 0, 1, 0), (4, .getfield 18, 3, 212), (7, .if_icmp .ge 34, 3, 0), (10, .iload_n 2, 1, 0), (11, .iconst 4, 1, 0), (12, .if_icmp .ge 29, 3, 0), (15, .iload_n 1, 1, 0), (16, .aload_n 0, 1, 0), (17, .getfield 9, 3, 210), (20, .iload_n 2, 1, 0), (21, .iaload, 1, 0), (22, .ixor, 1, 0), (23, .aload_n 0, 1, 0), (24, .getfield 15, 3, 211), (27, .iload_n 2, 1, 0), (28, .iaload, 1, 0), (29, .iand, 1, 0), (30, .ifCond .ne 5, 3, 0), (33, .iconst 1, 1, 0), (34, .ireturn, 1, 0), (35, .iinc 2 1, 3, 0), (38, .goto (-36), 3, 0), (41, .iconst 0, 1, 0), (42, .ireturn, 1, 0)]
noncomputable def am_r34 : List (Nat × Instr × Nat × Nat) := [(0, .aload_n 0, 1, 0), (1, .invokespecial 3, 3, 313), (4, .aload_n 0, 1, 0), (5, .bipush 104, 2, 0), (7, .newarray .int, 2, 0), (9, .putfield 9, 3, 315), (12, .aload_n 0, 1, 0), (13, .bipush 104, 2, 0), (15, .newarray .int, 2, 0), (17, .putfield 15, 3, 316), (20, .aload_n 0, 1, 0), (21, .bipush 104, 2, 0), (23, .newarray .int, 2, 0), (25, .putfield 18, 3, 317), (28, .aload_n 0, 1, 0), (29, .bipush 104, 2, 0), (31, .newarray .boolean, 2, 0), (33, .putfield 21, 3, 318), (36, .aload_n 0, 1, 0), (37, .aload_n 1, 1, 0), (38, .putfield 25, 3, 314), (41, .return_, 1, 0)]
noncomputable def am_r35 : List (Nat × Instr × Nat × Nat) := [(0, .aload_n 0, 1, 0), (1, .iconst 0, 1, 0), (2, .putfield 29, 3, 320), (5, .aload_n 0, 1, 0), (6, .iconst (-1), 1, 0), (7, .putfield 33, 3, 321), (10, .aload_n 0, 1, 0), (11, .iconst (-1), 1, 0), (12, .putfield 36, 3, 322), (15, .aload_n 0, 1, 0), (16, .aload_n 0, 1, 0), (17, .getfield 25, 3, 314), (20, .invokevirtual 39, 3, 801), (23, .bipush 20, 2, 0), (25, .if_icmp .lt 67, 3, 0), (28, .aload_n 0, 1, 0), (29, .getfield 25, 3, 314), (32, .iconst 0, 1, 0), (33, .invokevirtual 44, 3, 802), (36, .bipush 64, 2, 0), (38, .if_icmp .ge 54, 3, 0), (41, .aload_n 0, 1, 0), (42, .getfield 25, 3, 314), (45, .iconst 2, 1, 0), (46, .iconst 2, 1, 0), (47, .invokevirtual 48, 3, 803), (50, .aload_n 0, 1, 0), (51, .getfield 25, 3, 314), (54, .invokevirtual 39, 3, 801), (57, .bipush 20, 2, 0), (59, .isub, 1, 0), (60, .i2l, 1, 0), (61, .lcmp, 1, 0), (62, .ifCond .ne 30, 3, 0), (65, .aload_n 0, 1, 0), (66, .getfield 25, 3, 314), (69, .iconst 4, 1, 0), (70, .iconst 4, 1, 0), (71, .invokevirtual 48, 3, 803), (74, .ldc2_w 52, 3, 804), (77, .lcmp, 1, 0), (78, .ifCond .ne 14, 3, 0), (81, .aload_n 0, 1, 0), (82, .invokevirtual 54, 3, 805), (85, .ifCond .eq 7, 3, 0), (88, .iconst 1, 1, 0), (89, .goto 4, 3, 0), (92, .iconst 0, 1, 0), (93, .putfield 58, 3, 319), (96, .aload_n 0, 1, 0), (97, .getfield 58, 3, 319), (100, .ifCond .ne 8, 3, 0), (103, .aload_n 0, 1, 0), (104, .iconst 0, 1, 0), (105, .putfield 29, 3, 320), (108, .aload_n 0, 1, 0), (109, .aload_n 0, 1, 0), (110, .getfield 33, 3, 321), (113, .iconst (-1), 1, 0), (114, .if_icmp .ne 10, 3, 0), (117, .aload_n 0, 1, 0), (118, .getfield 29, 3, 320), (121, .goto 16, 3, 0), (124, .aload_n 0, 1, 0), (125, .getfield 29, 3, 320), (128, .aload_n 0, 1, 0), (129, .getfield 33, 3, 321), (132, .iconst 1, 1, 0), (133, .iadd, 1, 0), (134, .invokestatic 62, 3, 814), (137, .putfield 68, 3, 323), (140, .aload_n 0, 1, 0), (141, .getfield 58, 3, 319), (144, .ireturn, 1, 0)]
noncomputable def am_r36 : List (Nat × Instr × Nat × Nat) := [(0, .bipush 20, 2, 0), (2, .istore_n 1, 1, 0), (3, .iconst 0, 1, 0), (4, .istore_n 2, 1, 0), (5, .iload_n 2, 1, 0), (6, .bipush 104, 2, 0), (8, .if_icmp .ge 188, 3, 0), (11, .iload_n 1, 1, 0), (12, .iconst 4, 1, 0), (13, .iadd, 1, 0), (14, .aload_n 0, 1, 0), (15, .getfield 25, 3, 314), (18, .invokevirtual 39, 3, 801), (21, .if_icmp .gt 175, 3, 0), (24, .aload_n 0, 1, 0), (25, .getfield 9, 3, 315), (28, .iload_n 2, 1, 0), (29, .aload_n 0, 1, 0), (30, .getfield 25, 3, 314), (33, .iload_n 1, 1, 0), (34, .iconst 2, 1, 0), (35, .invokevirtual 48, 3, 803), (38, .l2i, 1, 0), (39, .iastore, 1, 0), (40, .aload_n 0, 1, 0), (41, .getfield 15, 3, 316), (44, .iload_n 2, 1, 0), (45, .aload_n 0, 1, 0), (46, .getfield 25, 3, 314), (49, .iload_n 1, 1, 0), (50, .iconst 2, 1, 0), (51, .iadd, 1, 0), (52, .iconst 2, 1, 0), (53, .invokevirtual 48, 3, 803), (56, .l2i, 1, 0), (57, .iastore, 1, 0), (58, .aload_n 0, 1, 0), (59, .getfield 18, 3, 317), (62, .iload_n 2, 1, 0), (63, .iload_n 1, 1, 0), (64, .iconst 4, 1, 0), (65, .iadd, 1, 0), (66, .iastore, 1, 0), (67, .aload_n 0, 1, 0), (68, .getfield 21, 3, 318), (71, .iload_n 2, 1, 0), (72, .aload_n 0, 1, 0), (73, .getfield 9, 3, 315), (76, .iload_n 2, 1, 0), (77, .iaload, 1, 0), (78, .aload_n 0, 1, 0), (79, .getfield 15, 3, 316), (82, .iload_n 2, 1, 0), (83, .iaload, 1, 0), (84, .aload_n 0, 1, 0), (85, .getfield 25, 3, 314), (88, .aload_n 0, 1, 0), (89, .getfield 18, 3, 317), (92, .iload_n 2, 1, 0), (93, .iaload, 1, 0), (94, .iconst 1, 1, 0), (95, .iadd, 1, 0), (96, .invokevirtual 44, 3, 802), (99, .invokestatic 71, 3, 809), (102, .bastore, 1, 0), (103, .aload_n 0, 1, 0), (104, .getfield 21, 3, 318), (107, .iload_n 2, 1, 0), (108, .baload, 1, 0), (109, .ifCond .eq 27, 3, 0), (112, .aload_n 0, 1, 0), (113, .getfield 9, 3, 315), (116, .iload_n 2, 1, 0), (117, .iaload, 1, 0), (118, .bipush 28, 2, 0), (120, .if_icmp .ne 16, 3, 0), (123, .aload_n 0, 1, 0), (124, .getfield 33, 3, 321), (127, .iconst (-1), 1, 0), (128, .if_icmp .ne 8, 3, 0), (131, .aload_n 0, 1, 0), (132, .iload_n 2, 1, 0), (133, .putfield 33, 3, 321), (136, .aload_n 0, 1, 0), (137, .getfield 21, 3, 318), (140, .iload_n 2, 1, 0), (141, .baload, 1, 0), (142, .ifCond .eq 27, 3, 0), (145, .aload_n 0, 1, 0), (146, .getfield 9, 3, 315), (149, .iload_n 2, 1, 0), (150, .iaload, 1, 0), (151, .ldc 75, 2, 812), (153, .if_icmp .ne 16, 3, 0), (156, .aload_n 0, 1, 0), (157, .getfield 36, 3, 322), (160, .iconst (-1), 1, 0), (161, .if_icmp .ne 8, 3, 0), (164, .aload_n 0, 1, 0), (165, .iload_n 2, 1, 0), (166, .putfield 36, 3, 322), (169, .aload_n 0, 1, 0), (170, .iload_n 2, 1, 0), (171, .iconst 1, 1, 0), (172, .iadd, 1, 0), (173, .putfield 29, 3, 320), (176, .iload_n 1, 1, 0), (177, .iconst 4, 1, 0), (178, .aload_n 0, 1, 0), (179, .getfield 15, 3, 316), (182, .iload_n 2, 1, 0), (183, .iaload, 1, 0), (184, .invokestatic 76, 3, 813), (187, .iadd, 1, 0), (188, .iadd, 1, 0), (189, .istore_n 1, 1, 0), (190, .iinc 2 1, 3, 0), (193, .goto (-188), 3, 0), (196, .iload_n 1, 1, 0), (197, .aload_n 0, 1, 0), (198, .getfield 25, 3, 314), (201, .invokevirtual 39, 3, 801), (204, .if_icmp .ne 7, 3, 0), (207, .iconst 1, 1, 0), (208, .goto 4, 3, 0), (211, .iconst 0, 1, 0), (212, .ireturn, 1, 0)]
noncomputable def am_r37 : List (Nat × Instr × Nat × Nat) := [(0, .iload_n 0, 1, 0), (1, .lookupswitch 196 #[(6, 115), (9, 161), (10, 172), (12, 161), (13, 161), (18, 144), (20, 115), (21, 132), (22, 144), (25, 161), (28, 184), (32, 144), (32808, 161)], 115, 0), (116, .iload_n 1, 1, 0), (117, .iconst 1, 1, 0), (118, .if_icmp .lt 13, 3, 0), (121, .iload_n 1, 1, 0), (122, .bipush 8, 2, 0), (124, .if_icmp .gt 7, 3, 0), (127, .iconst 1, 1, 0), (128, .goto 4, 3, 0), (131, .iconst 0, 1, 0), (132, .ireturn, 1, 0), (133, .iload_n 1, 1, 0), (134, .bipush 8, 2, 0), (136, .if_icmp .ne 7, 3, 0), (139, .iconst 1, 1, 0), (140, .goto 4, 3, 0), (143, .iconst 0, 1, 0), (144, .ireturn, 1, 0), (145, .iload_n 1, 1, 0), (146, .bipush 8, 2, 0), (148, .if_icmp .ne 12, 3, 0), (151, .iload_n 2, 1, 0), (152, .iconst 1, 1, 0), (153, .if_icmp .ne 7, 3, 0), (156, .iconst 1, 1, 0), (157, .goto 4, 3, 0), (160, .iconst 0, 1, 0), (161, .ireturn, 1, 0), (162, .iload_n 1, 1, 0), (163, .iconst 4, 1, 0), (164, .if_icmp .ne 7, 3, 0), (167, .iconst 1, 1, 0), (168, .goto 4, 3, 0), (171, .iconst 0, 1, 0), (172, .ireturn, 1, 0), (173, .iload_n 1, 1, 0), (174, .iconst 2, 1, 0), (175, .irem, 1, 0), (176, .ifCond .ne 7, 3, 0), (179, .iconst 1, 1, 0), (180, .goto 4, 3, 0), (183, .iconst 0, 1, 0), (184, .ireturn, 1, 0), (185, .iload_n 1, 1, 0), (186, .bipush 32, 2, 0), (188, .if_icmp .ne 7, 3, 0), (191, .iconst 1, 1, 0), (192, .goto 4, 3, 0), (195, .iconst 0, 1, 0), (196, .ireturn, 1, 0), (197, .iconst 1, 1, 0), (198, .ireturn, 1, 0)]
noncomputable def am_r38 : List (Nat × Instr × Nat × Nat) := [(0, .iconst 0, 1, 0), (1, .istore_n 2, 1, 0), (2, .iload_n 2, 1, 0), (3, .aload_n 0, 1, 0), (4, .getfield 68, 3, 323), (7, .if_icmp .ge 30, 3, 0), (10, .aload_n 0, 1, 0), (11, .getfield 9, 3, 315), (14, .iload_n 2, 1, 0), (15, .iaload, 1, 0), (16, .iload_n 1, 1, 0), (17, .if_icmp .ne 14, 3, 0), (20, .aload_n 0, 1, 0), (21, .getfield 21, 3, 318), (24, .iload_n 2, 1, 0), (25, .baload, 1, 0), (26, .ifCond .eq 5, 3, 0), (29, .iload_n 2, 1, 0), (30, .ireturn, 1, 0), (31, .iinc 2 1, 3, 0), (34, .goto (-32), 3, 0), (37, .iconst (-1), 1, 0), (38, .ireturn, 1, 0)]
noncomputable def am_r39 : List (Nat × Instr × Nat × Nat) := [(0, .aload_n 0, 1, 0), (1, .getfield 58, 3, 319), (4, .ireturn, 1, 0)]
noncomputable def am_r40 : List (Nat × Instr × Nat × Nat) := [(0, .aload_n 0, 1, 0), (1, .getfield 29, 3, 320), (4, .ireturn, 1, 0)]
noncomputable def am_r41 : List (Nat × Instr × Nat × Nat) := [(0, .aload_n 0, 1, 0), (1, .getfield 25, 3, 314), (4, .iconst 0, 1, 0), (5, .iconst 2, 1, 0), (6, .invokevirtual 48, 3, 803), (9, .l2i, 1, 0), (10, .istore_n 1, 1, 0), (11, .iload_n 1, 1, 0), (12, .bipush 15, 2, 0), (14, .iand, 1, 0), (15, .iload_n 1, 1, 0), (16, .iconst 1, 1, 0), (17, .ishr, 1, 0), (18, .bipush 112, 2, 0), (20, .iand, 1, 0), (21, .ior, 1, 0), (22, .iload_n 1, 1, 0), (23, .iconst 2, 1, 0), (24, .ishr, 1, 0), (25, .sipush 3968, 3, 0), (28, .iand, 1, 0), (29, .ior, 1, 0), (30, .ireturn, 1, 0)]
noncomputable def am_r42 : List (Nat × Instr × Nat × Nat) := [(0, .aload_n 0, 1, 0), (1, .getfield 25, 3, 314), (4, .iconst 0, 1, 0), (5, .iconst 2, 1, 0), (6, .invokevirtual 48, 3, 803), (9, .l2i, 1, 0), (10, .istore_n 1, 1, 0), (11, .iload_n 1, 1, 0), (12, .iconst 4, 1, 0), (13, .ishr, 1, 0), (14, .iconst 1, 1, 0), (15, .iand, 1, 0), (16, .iload_n 1, 1, 0), (17, .bipush 7, 2, 0), (19, .ishr, 1, 0), (20, .iconst 2, 1, 0), (21, .iand, 1, 0), (22, .ior, 1, 0), (23, .ireturn, 1, 0)]
noncomputable def am_r43 : List (Nat × Instr × Nat × Nat) := [(0, .iload_n 1, 1, 0), (1, .ifCond .lt 20, 3, 0), (4, .iload_n 1, 1, 0), (5, .aload_n 0, 1, 0), (6, .getfield 29, 3, 320), (9, .if_icmp .ge 12, 3, 0), (12, .aload_n 0, 1, 0), (13, .getfield 15, 3, 316), (16, .iload_n 1, 1, 0), (17, .iaload, 1, 0), (18, .goto 4, 3, 0), (21, .iconst 0, 1, 0), (22, .ireturn, 1, 0)]
noncomputable def am_r44 : List (Nat × Instr × Nat × Nat) := [(0, .iload_n 1, 1, 0), (1, .ifCond .lt 20, 3, 0), (4, .iload_n 1, 1, 0), (5, .aload_n 0, 1, 0), (6, .getfield 29, 3, 320), (9, .if_icmp .ge 12, 3, 0), (12, .aload_n 0, 1, 0), (13, .getfield 18, 3, 317), (16, .iload_n 1, 1, 0), (17, .iaload, 1, 0), (18, .goto 4, 3, 0), (21, .iconst 0, 1, 0), (22, .ireturn, 1, 0)]
noncomputable def am_r45 : List (Nat × Instr × Nat × Nat) := [(0, .aload_n 0, 1, 0), (1, .getfield 25, 3, 314), (4, .aload_n 0, 1, 0), (5, .iload_n 1, 1, 0), (6, .invokevirtual 81, 3, 821), (9, .bipush 8, 2, 0), (11, .aload_n 0, 1, 0), (12, .iload_n 1, 1, 0), (13, .invokevirtual 84, 3, 829), (16, .invokestatic 62, 3, 814), (19, .invokevirtual 48, 3, 803), (22, .lreturn, 1, 0)]
noncomputable def am_r46 : List (Nat × Instr × Nat × Nat) := [(0, .aload_n 0, 1, 0), (1, .getfield 25, 3, 314), (4, .aload_n 0, 1, 0), (5, .iload_n 1, 1, 0), (6, .invokevirtual 81, 3, 821), (9, .iconst 4, 1, 0), (10, .iadd, 1, 0), (11, .iconst 4, 1, 0), (12, .invokevirtual 48, 3, 803), (15, .l2i, 1, 0), (16, .ldc 87, 2, 963), (18, .ixor, 1, 0), (19, .ireturn, 1, 0)]
noncomputable def am_r47 : List (Nat × Instr × Nat × Nat) := [(0, .aload_n 0, 1, 0), (1, .getfield 25, 3, 314), (4, .aload_n 0, 1, 0), (5, .iload_n 1, 1, 0), (6, .invokevirtual 81, 3, 821), (9, .iconst 2, 1, 0), (10, .iadd, 1, 0), (11, .iconst 2, 1, 0), (12, .invokevirtual 48, 3, 803), (15, .l2i, 1, 0), (16, .sipush 8466, 3, 0), (19, .ixor, 1, 0), (20, .ireturn, 1, 0)]
noncomputable def am_r48 : List (Nat × Instr × Nat × Nat) := [(0, .aload_n 0, 1, 0), (1, .getfield 36, 3, 322), (4, .iconst (-1), 1, 0), (5, .if_icmp .eq 7, 3, 0), (8, .iconst 1, 1, 0), (9, .goto 4, 3, 0), (12, .iconst 0, 1, 0), (13, .ireturn, 1, 0)]
noncomputable def am_r49 : List (Nat × Instr × Nat × Nat) := [(0, .aload_n 0, 1, 0), (1, .getfield 36, 3, 322), (4, .iconst (-1), 1, 0), (5, .if_icmp .ne 5, 3, 0), (8, .iconst 0, 1, 0), (9, .ireturn, 1, 0), (10, .aload_n 0, 1, 0), (11, .aload_n 0, 1, 0), (12, .getfield 36, 3, 322), (15, .invokevirtual 81, 3, 821), (18, .iconst 4, 1, 0), (19, .isub, 1, 0), (20, .istore_n 1, 1, 0), (21, .aload_n 0, 1, 0), (22, .getfield 36, 3, 322), (25, .aload_n 0, 1, 0), (26, .getfield 29, 3, 320), (29, .iconst 1, 1, 0), (30, .isub, 1, 0), (31, .if_icmp .ne 23, 3, 0), (34, .aload_n 0, 1, 0), (35, .aload_n 0, 1, 0), (36, .getfield 36, 3, 322), (39, .invokevirtual 88, 3, 825), (42, .l2i, 1, 0), (43, .aload_n 0, 1, 0), (44, .getfield 25, 3, 314), (47, .iload_n 1, 1, 0), (48, .invokestatic 92, 3, 833), (51, .if_icmp .eq 7, 3, 0), (54, .iconst 1, 1, 0), (55, .goto 4, 3, 0), (58, .iconst 0, 1, 0), (59, .ireturn, 1, 0)]
noncomputable def am_r50 : List (Nat × Instr × Nat × Nat) := [(0, .iconst 0, 1, 0), (1, .istore_n 2, 1, 0), (2, .iconst 0, 1, 0), (3, .istore_n 3, 1, 0), (4, .iload_n 3, 1, 0), (5, .aload_n 0, 1, 0), (6, .getfield 68, 3, 323), (9, .if_icmp .ge 53, 3, 0), (12, .iload_n 2, 1, 0), (13, .aload_n 1, 1, 0), (14, .arraylength, 1, 0), (15, .if_icmp .ge 47, 3, 0), (18, .aload_n 0, 1, 0), (19, .getfield 9, 3, 315), (22, .iload_n 3, 1, 0), (23, .iaload, 1, 0), (24, .invokestatic 96, 3, 850), (27, .ifCond .eq 29, 3, 0), (30, .aload_n 1, 1, 0), (31, .iload_n 2, 1, 0), (32, .aload_n 0, 1, 0), (33, .getfield 9, 3, 315), (36, .iload_n 3, 1, 0), (37, .iaload, 1, 0), (38, .invokestatic 100, 3, 854), (41, .ifCond .ne 15, 3, 0), (44, .aload_n 1, 1, 0), (45, .iload_n 2, 1, 0), (46, .aload_n 0, 1, 0), (47, .getfield 9, 3, 315), (50, .iload_n 3, 1, 0), (51, .iaload, 1, 0), (52, .iastore, 1, 0), (53, .iinc 2 1, 3, 0), (56, .iinc 3 1, 3, 0), (59, .goto (-55), 3, 0), (62, .iload_n 2, 1, 0), (63, .ireturn, 1, 0)]
noncomputable def am_r51 : List (Nat × Instr × Nat × Nat) := [(0, .iconst 0, 1, 0), (1, .istore_n 2, 1, 0), (2, .iconst 0, 1, 0), (3, .istore_n 3, 1, 0), (4, .iload_n 3, 1, 0), (5, .aload_n 0, 1, 0), (6, .getfield 68, 3, 323), (9, .if_icmp .ge 75, 3, 0), (12, .iload_n 2, 1, 0), (13, .aload_n 1, 1, 0), (14, .arraylength, 1, 0), (15, .if_icmp .ge 69, 3, 0), (18, .aload_n 0, 1, 0), (19, .getfield 9, 3, 315), (22, .iload_n 3, 1, 0), (23, .iaload, 1, 0), (24, .bipush 18, 2, 0), (26, .if_icmp .ne 52, 3, 0), (29, .aload_n 0, 1, 0), (30, .getfield 21, 3, 318), (33, .iload_n 3, 1, 0), (34, .baload, 1, 0), (35, .ifCond .eq 43, 3, 0), (38, .aload_n 0, 1, 0), (39, .getfield 25, 3, 314), (42, .aload_n 0, 1, 0), (43, .getfield 18, 3, 317), (46, .iload_n 3, 1, 0), (47, .iaload, 1, 0), (48, .iconst 4, 1, 0), (49, .iadd, 1, 0), (50, .iconst 4, 1, 0), (51, .invokevirtual 48, 3, 803), (54, .l2i, 1, 0), (55, .ldc 87, 2, 963), (57, .ixor, 1, 0), (58, .istore 4, 2, 0), (60, .aload_n 1, 1, 0), (61, .iload_n 2, 1, 0), (62, .iload 4, 2, 0), (64, .invokestatic 100, 3, 854), (67, .ifCond .ne 11, 3, 0), (70, .aload_n 1, 1, 0), (71, .iload_n 2, 1, 0), (72, .iload 4, 2, 0), (74, .iastore, 1, 0), (75, .iinc 2 1, 3, 0), (78, .iinc 3 1, 3, 0), (81, .goto (-77), 3, 0), (84, .iload_n 2, 1, 0), (85, .ireturn, 1, 0)]
noncomputable def am_r52 : List (Nat × Instr × Nat × Nat) := [(0, .iconst 0, 1, 0), (1, .istore_n 3, 1, 0), (2, .iload_n 3, 1, 0), (3, .iload_n 1, 1, 0), (4, .if_icmp .ge 24, 3, 0), (7, .iload_n 3, 1, 0), (8, .aload_n 0, 1, 0), (9, .arraylength, 1, 0), (10, .if_icmp .ge 18, 3, 0), (13, .aload_n 0, 1, 0), (14, .iload_n 3, 1, 0), (15, .iaload, 1, 0), (16, .iload_n 2, 1, 0), (17, .if_icmp .ne 5, 3, 0), (20, .iconst 1, 1, 0), (21, .ireturn, 1, 0), (22, .iinc 3 1, 3, 0), (25, .goto (-23), 3, 0), (28, .iconst 0, 1, 0), (29, .ireturn, 1, 0)]
noncomputable def am_r53 : List (Nat × Instr × Nat × Nat) := [(0, .iload_n 0, 1, 0), (1, .tableswitch 125 6 32 #[123, 125, 125, 123, 123, 125, 123, 123, 125, 125, 125, 125, 123, 123, 123, 123, 123, 125, 125, 123, 125, 125, 123, 125, 125, 125, 123], 123, 0), (124, .iconst 0, 1, 0), (125, .ireturn, 1, 0), (126, .iload_n 0, 1, 0), (127, .ldc 104, 2, 853), (129, .if_icmp .ge 7, 3, 0), (132, .iconst 1, 1, 0), (133, .goto 4, 3, 0), (136, .iconst 0, 1, 0), (137, .ireturn, 1, 0)]
noncomputable def am_r54 : List (Nat × Instr × Nat × Nat) := [(0, .iload_n 1, 1, 0), (1, .ifCond .lt 11, 3, 0), (4, .iload_n 1, 1, 0), (5, .aload_n 0, 1, 0), (6, .getfield 29, 3, 320), (9, .if_icmp .lt 5, 3, 0), (12, .iconst (-1), 1, 0), (13, .ireturn, 1, 0), (14, .iload_n 2, 1, 0), (15, .tableswitch 153 0 6 #[41, 48, 55, 62, 87, 105, 123], 41, 0), (56, .aload_n 0, 1, 0), (57, .getfield 9, 3, 315), (60, .iload_n 1, 1, 0), (61, .iaload, 1, 0), (62, .ireturn, 1, 0), (63, .aload_n 0, 1, 0), (64, .getfield 15, 3, 316), (67, .iload_n 1, 1, 0), (68, .iaload, 1, 0), (69, .ireturn, 1, 0), (70, .aload_n 0, 1, 0), (71, .getfield 18, 3, 317), (74, .iload_n 1, 1, 0), (75, .iaload, 1, 0), (76, .ireturn, 1, 0), (77, .aload_n 0, 1, 0), (78, .getfield 25, 3, 314), (81, .aload_n 0, 1, 0), (82, .getfield 18, 3, 317), (85, .iload_n 1, 1, 0), (86, .iaload, 1, 0), (87, .iconst 4, 1, 0), (88, .aload_n 0, 1, 0), (89, .getfield 15, 3, 316), (92, .iload_n 1, 1, 0), (93, .iaload, 1, 0), (94, .invokestatic 62, 3, 814), (97, .invokevirtual 48, 3, 803), (100, .l2i, 1, 0), (101, .ireturn, 1, 0), (102, .aload_n 0, 1, 0), (103, .iload_n 1, 1, 0), (104, .invokevirtual 105, 3, 1108), (107, .ifCond .eq 11, 3, 0), (110, .aload_n 0, 1, 0), (111, .iload_n 1, 1, 0), (112, .invokevirtual 108, 3, 1112), (115, .goto 4, 3, 0), (118, .iconst 0, 1, 0), (119, .ireturn, 1, 0), (120, .aload_n 0, 1, 0), (121, .iload_n 1, 1, 0), (122, .invokevirtual 105, 3, 1108), (125, .ifCond .eq 11, 3, 0), (128, .aload_n 0, 1, 0), (129, .iload_n 1, 1, 0), (130, .invokevirtual 111, 3, 1113), (133, .goto 4, 3, 0), (136, .iconst 0, 1, 0), (137, .ireturn, 1, 0), (138, .aload_n 0, 1, 0), (139, .getfield 9, 3, 315), (142, .iload_n 1, 1, 0), (143, .iaload, 1, 0), (144, .bipush 9, 2, 0), (146, .if_icmp .ne 20, 3, 0), (149, .aload_n 0, 1, 0), (150, .getfield 21, 3, 318), (153, .iload_n 1, 1, 0), (154, .baload, 1, 0), (155, .ifCond .eq 11, 3, 0), (158, .aload_n 0, 1, 0), (159, .iload_n 1, 1, 0), (160, .invokevirtual 114, 3, 1114), (163, .goto 4, 3, 0), (166, .iconst 0, 1, 0), (167, .ireturn, 1, 0), (168, .iconst (-1), 1, 0), (169, .ireturn, 1, 0)]
noncomputable def am_r55 : List (Nat × Instr × Nat × Nat) := [(0, .aload_n 0, 1, 0), (1, .getfield 9, 3, 315), (4, .iload_n 1, 1, 0), (5, .iaload, 1, 0), (6, .bipush 18, 2, 0), (8, .if_icmp .eq 25, 3, 0), (11, .aload_n 0, 1, 0), (12, .getfield 9, 3, 315), (15, .iload_n 1, 1, 0), (16, .iaload, 1, 0), (17, .bipush 22, 2, 0), (19, .if_icmp .eq 14, 3, 0), (22, .aload_n 0, 1, 0), (23, .getfield 9, 3, 315), (26, .iload_n 1, 1, 0), (27, .iaload, 1, 0), (28, .bipush 32, 2, 0), (30, .if_icmp .ne 16, 3, 0), (33, .aload_n 0, 1, 0), (34, .getfield 21, 3, 318), (37, .iload_n 1, 1, 0), (38, .baload, 1, 0), (39, .ifCond .eq 7, 3, 0), (42, .iconst 1, 1, 0), (43, .goto 4, 3, 0), (46, .iconst 0, 1, 0), (47, .ireturn, 1, 0)]
noncomputable def am_r56 : List (Nat × Instr × Nat × Nat) := [(0, .aload_n 0, 1, 0), (1, .getfield 25, 3, 314), (4, .aload_n 0, 1, 0), (5, .getfield 18, 3, 317), (8, .iload_n 1, 1, 0), (9, .iaload, 1, 0), (10, .iconst 2, 1, 0), (11, .iadd, 1, 0), (12, .invokevirtual 44, 3, 802), (15, .bipush 100, 2, 0), (17, .imul, 1, 0), (18, .aload_n 0, 1, 0), (19, .getfield 25, 3, 314), (22, .aload_n 0, 1, 0), (23, .getfield 18, 3, 317), (26, .iload_n 1, 1, 0), (27, .iaload, 1, 0), (28, .iconst 3, 1, 0), (29, .iadd, 1, 0), (30, .invokevirtual 44, 3, 802), (33, .iadd, 1, 0), (34, .ireturn, 1, 0)]
noncomputable def am_r57 : List (Nat × Instr × Nat × Nat) := [(0, .aload_n 0, 1, 0), (1, .invokespecial 3, 3, 169), (4, .aload_n 0, 1, 0), (5, .aload_n 1, 1, 0), (6, .putfield 9, 3, 170), (9, .aload_n 0, 1, 0), (10, .aload_n 2, 1, 0), (11, .putfield 15, 3, 171), (14, .return_, 1, 0)]
noncomputable def am_r58 : List (Nat × Instr × Nat × Nat) := [(0, .iload_n 0, 1, 0), (1, .iconst 3, 1, 0), (2, .iadd, 1, 0), (3, .bipush (-4), 2, 0), (5, .iand, 1, 0), (6, .ireturn, 1, 0)]
noncomputable def am_r59 : List (Nat × Instr × Nat × Nat) := [(0, .iconst (-1), 1, 0), (1, .istore_n 2, 1, 0), (2, .iconst 0, 1, 0), (3, .istore_n 3, 1, 0), (4, .iload_n 3, 1, 0), (5, .iload_n 1, 1, 0), (6, .if_icmp .ge 47, 3, 0), (9, .iload_n 2, 1, 0), (10, .aload_n 0, 1, 0), (11, .iload_n 3, 1, 0), (12, .invokevirtual 19, 3, 648), (15, .sipush 255, 3, 0), (18, .iand, 1, 0), (19, .ixor, 1, 0), (20, .istore_n 2, 1, 0), (21, .iload_n 2, 1, 0), (22, .iconst 4, 1, 0), (23, .iushr, 1, 0), (24, .getstatic 25, 3, 649), (27, .iload_n 2, 1, 0), (28, .bipush 15, 2, 0), (30, .iand, 1, 0), (31, .iaload, 1, 0), (32, .ixor, 1, 0), (33, .istore_n 2, 1, 0), (34, .iload_n 2, 1, 0), (35, .iconst 4, 1, 0), (36, .iushr, 1, 0), (37, .getstatic 25, 3, 649), (40, .iload_n 2, 1, 0), (41, .bipush 15, 2, 0), (43, .iand, 1, 0), (44, .iaload, 1, 0), (45, .ixor, 1, 0), (46, .istore_n 2, 1, 0), (47, .iinc 3 1, 3, 0), (50, .goto (-46), 3, 0), (53, .iload_n 2, 1, 0), (54, .iconst (-1), 1, 0), (55, .ixor, 1, 0), (56, .ldc 29, 2, 651), (58, .ixor, 1, 0), (59, .ireturn, 1, 0)]
noncomputable def am_r60 : List (Nat × Instr × Nat × Nat) := [(0, .iload_n 0, 1, 0), (1, .bipush 15, 2, 0), (3, .iand, 1, 0), (4, .iload_n 1, 1, 0), (5, .iconst 1, 1, 0), (6, .iand, 1, 0), (7, .iconst 4, 1, 0), (8, .ishl, 1, 0), (9, .ior, 1, 0), (10, .iload_n 0, 1, 0), (11, .bipush 112, 2, 0), (13, .iand, 1, 0), (14, .iconst 1, 1, 0), (15, .ishl, 1, 0), (16, .ior, 1, 0), (17, .iload_n 1, 1, 0), (18, .iconst 2, 1, 0), (19, .iand, 1, 0), (20, .bipush 7, 2, 0), (22, .ishl, 1, 0), (23, .ior, 1, 0), (24, .iload_n 0, 1, 0), (25, .sipush 3968, 3, 0), (28, .iand, 1, 0), (29, .iconst 2, 1, 0), (30, .ishl, 1, 0), (31, .ior, 1, 0), (32, .ireturn, 1, 0)]
noncomputable def am_r61 : List (Nat × Instr × Nat × Nat) := [(0, .iload_n 1, 1, 0), (1, .ifCond .lt 61, 3, 0), (4, .iload_n 1, 1, 0), (5, .ldc 30, 2, 496), (7, .if_icmp .gt 55, 3, 0), (10, .aload_n 0, 1, 0), (11, .getfield 9, 3, 170), (14, .invokevirtual 31, 3, 497), (17, .bipush 20, 2, 0), (19, .if_icmp .lt 43, 3, 0), (22, .aload_n 0, 1, 0), (23, .getfield 9, 3, 170), (26, .invokevirtual 31, 3, 497), (29, .iconst 4, 1, 0), (30, .irem, 1, 0), (31, .ifCond .ne 31, 3, 0), (34, .aload_n 0, 1, 0), (35, .getfield 9, 3, 170), (38, .invokevirtual 31, 3, 497), (41, .iconst 4, 1, 0), (42, .iadd, 1, 0), (43, .iload_n 2, 1, 0), (44, .invokestatic 35, 3, 498), (47, .iadd, 1, 0), (48, .aload_n 0, 1, 0), (49, .getfield 9, 3, 170), (52, .invokevirtual 38, 3, 501), (55, .if_icmp .gt 7, 3, 0), (58, .iconst 1, 1, 0), (59, .goto 4, 3, 0), (62, .iconst 0, 1, 0), (63, .ireturn, 1, 0)]
noncomputable def am_r62 : List (Nat × Instr × Nat × Nat) := [(0, .aload_n 0, 1, 0), (1, .getfield 9, 3, 170), (4, .iconst 0, 1, 0), (5, .invokevirtual 41, 3, 485), (8, .aload_n 0, 1, 0), (9, .getfield 9, 3, 170), (12, .iload_n 1, 1, 0), (13, .i2l, 1, 0), (14, .iconst 2, 1, 0), (15, .invokevirtual 45, 3, 486), (18, .aload_n 0, 1, 0), (19, .getfield 9, 3, 170), (22, .lconst 0, 1, 0), (23, .iconst 2, 1, 0), (24, .invokevirtual 45, 3, 486), (27, .aload_n 0, 1, 0), (28, .getfield 9, 3, 170), (31, .ldc2_w 49, 3, 487), (34, .iconst 4, 1, 0), (35, .invokevirtual 45, 3, 486), (38, .aload_n 0, 1, 0), (39, .getfield 9, 3, 170), (42, .iload_n 2, 1, 0), (43, .i2l, 1, 0), (44, .iconst 4, 1, 0), (45, .invokevirtual 45, 3, 486), (48, .aload_n 0, 1, 0), (49, .getfield 9, 3, 170), (52, .iload_n 3, 1, 0), (53, .i2l, 1, 0), (54, .iconst 4, 1, 0), (55, .invokevirtual 45, 3, 486), (58, .aload_n 0, 1, 0), (59, .getfield 9, 3, 170), (62, .iload 4, 2, 0), (64, .i2l, 1, 0), (65, .iconst 4, 1, 0), (66, .invokevirtual 45, 3, 486), (69, .return_, 1, 0)]
noncomputable def am_r63 : List (Nat × Instr × Nat × Nat) := [(0, .aload_n 0, 1, 0), (1, .getfield 9, 3, 170), (4, .invokevirtual 31, 3, 497), (7, .iconst 4, 1, 0), (8, .iadd, 1, 0), (9, .iload_n 2, 1, 0), (10, .invokestatic 35, 3, 498), (13, .iadd, 1, 0), (14, .bipush 20, 2, 0), (16, .isub, 1, 0), (17, .istore_n 3, 1, 0), (18, .aload_n 0, 1, 0), (19, .getfield 9, 3, 170), (22, .iconst 2, 1, 0), (23, .iload_n 3, 1, 0), (24, .bipush 8, 2, 0), (26, .ishr, 1, 0), (27, .invokevirtual 51, 3, 510), (30, .aload_n 0, 1, 0), (31, .getfield 9, 3, 170), (34, .iconst 3, 1, 0), (35, .iload_n 3, 1, 0), (36, .invokevirtual 51, 3, 510), (39, .aload_n 0, 1, 0), (40, .getfield 9, 3, 170), (43, .iload_n 1, 1, 0), (44, .i2l, 1, 0), (45, .iconst 2, 1, 0), (46, .invokevirtual 45, 3, 486), (49, .aload_n 0, 1, 0), (50, .getfield 9, 3, 170), (53, .iload_n 2, 1, 0), (54, .i2l, 1, 0), (55, .iconst 2, 1, 0), (56, .invokevirtual 45, 3, 486), (59, .return_, 1, 0)]
noncomputable def am_r64 : List (Nat × Instr × Nat × Nat) := [(0, .aload_n 0, 1, 0), (1, .getfield 9, 3, 170), (4, .iload_n 1, 1, 0), (5, .invokestatic 35, 3, 498), (8, .iload_n 1, 1, 0), (9, .isub, 1, 0), (10, .invokevirtual 55, 3, 518), (13, .return_, 1, 0)]
noncomputable def am_r65 : List (Nat × Instr × Nat × Nat) := [(0, .aload_n 0, 1, 0), (1, .iload_n 1, 1, 0), (2, .iload 4, 2, 0), (4, .invokevirtual 58, 3, 506), (7, .aload_n 0, 1, 0), (8, .getfield 9, 3, 170), (11, .lload_n 2, 1, 0), (12, .iload 4, 2, 0), (14, .invokevirtual 45, 3, 486), (17, .aload_n 0, 1, 0), (18, .iload 4, 2, 0), (20, .invokevirtual 61, 3, 514), (23, .return_, 1, 0)]
noncomputable def am_r66 : List (Nat × Instr × Nat × Nat) := [(0, .lload_n 2, 1, 0), (1, .invokestatic 64, 3, 544), (4, .lload 4, 2, 0), (6, .invokestatic 64, 3, 544), (9, .iadd, 1, 0), (10, .istore 6, 2, 0), (12, .aload_n 0, 1, 0), (13, .iload_n 1, 1, 0), (14, .iload 6, 2, 0), (16, .invokevirtual 58, 3, 506), (19, .aload_n 0, 1, 0), (20, .getfield 9, 3, 170), (23, .lload_n 2, 1, 0), (24, .lload_n 2, 1, 0), (25, .invokestatic 64, 3, 544), (28, .invokevirtual 45, 3, 486), (31, .aload_n 0, 1, 0), (32, .getfield 9, 3, 170), (35, .lload 4, 2, 0), (37, .lload 4, 2, 0), (39, .invokestatic 64, 3, 544), (42, .invokevirtual 45, 3, 486), (45, .aload_n 0, 1, 0), (46, .iload 6, 2, 0), (48, .invokevirtual 61, 3, 514), (51, .return_, 1, 0)]
noncomputable def am_r67 : List (Nat × Instr × Nat × Nat) := [(0, .aload_n 0, 1, 0), (1, .iload_n 1, 1, 0), (2, .bipush 8, 2, 0), (4, .invokevirtual 58, 3, 506), (7, .aload_n 0, 1, 0), (8, .getfield 9, 3, 170), (11, .lconst 1, 1, 0), (12, .iconst 2, 1, 0), (13, .invokevirtual 45, 3, 486), (16, .aload_n 0, 1, 0), (17, .getfield 9, 3, 170), (20, .iload_n 3, 1, 0), (21, .sipush 8466, 3, 0), (24, .ixor, 1, 0), (25, .i2l, 1, 0), (26, .iconst 2, 1, 0), (27, .invokevirtual 45, 3, 486), (30, .aload_n 0, 1, 0), (31, .getfield 9, 3, 170), (34, .iload_n 2, 1, 0), (35, .ldc 70, 2, 558), (37, .ixor, 1, 0), (38, .i2l, 1, 0), (39, .iconst 4, 1, 0), (40, .invokevirtual 45, 3, 486), (43, .return_, 1, 0)]
noncomputable def am_r68 : List (Nat × Instr × Nat × Nat) := [(0, .aload_n 0, 1, 0), (1, .bipush 10, 2, 0), (3, .iconst 2, 1, 0), (4, .iload_n 2, 1, 0), (5, .imul, 1, 0), (6, .invokevirtual 58, 3, 506), (9, .iconst 0, 1, 0), (10, .istore_n 3, 1, 0), (11, .iload_n 3, 1, 0), (12, .iload_n 2, 1, 0), (13, .if_icmp .ge 27, 3, 0), (16, .iload_n 3, 1, 0), (17, .aload_n 1, 1, 0), (18, .arraylength, 1, 0), (19, .if_icmp .ge 21, 3, 0), (22, .aload_n 0, 1, 0), (23, .getfield 9, 3, 170), (26, .aload_n 1, 1, 0), (27, .iload_n 3, 1, 0), (28, .iaload, 1, 0), (29, .i2l, 1, 0), (30, .iconst 2, 1, 0), (31, .invokevirtual 45, 3, 486), (34, .iinc 3 1, 3, 0), (37, .goto (-26), 3, 0), (40, .aload_n 0, 1, 0), (41, .iconst 2, 1, 0), (42, .iload_n 2, 1, 0), (43, .imul, 1, 0), (44, .invokevirtual 61, 3, 514), (47, .return_, 1, 0)]
noncomputable def am_r69 : List (Nat × Instr × Nat × Nat) := [(0, .aload_n 0, 1, 0), (1, .bipush 19, 2, 0), (3, .aload_n 1, 1, 0), (4, .invokevirtual 31, 3, 497), (7, .invokevirtual 58, 3, 506), (10, .aload_n 0, 1, 0), (11, .getfield 9, 3, 170), (14, .aload_n 1, 1, 0), (15, .iconst 0, 1, 0), (16, .aload_n 1, 1, 0), (17, .invokevirtual 31, 3, 497), (20, .invokevirtual 71, 3, 1071), (23, .aload_n 0, 1, 0), (24, .aload_n 1, 1, 0), (25, .invokevirtual 31, 3, 497), (28, .invokevirtual 61, 3, 514), (31, .return_, 1, 0)]
noncomputable def am_r70 : List (Nat × Instr × Nat × Nat) := [(0, .aload_n 0, 1, 0), (1, .getfield 15, 3, 171), (4, .aload_n 0, 1, 0), (5, .getfield 9, 3, 170), (8, .aload_n 0, 1, 0), (9, .getfield 9, 3, 170), (12, .invokevirtual 31, 3, 497), (15, .invokevirtual 75, 3, 611), (18, .aload_n 0, 1, 0), (19, .bipush 28, 2, 0), (21, .bipush 32, 2, 0), (23, .invokevirtual 58, 3, 506), (26, .aload_n 0, 1, 0), (27, .getfield 15, 3, 171), (30, .aload_n 0, 1, 0), (31, .getfield 9, 3, 170), (34, .invokevirtual 81, 3, 631), (37, .return_, 1, 0)]
noncomputable def am_r71 : List (Nat × Instr × Nat × Nat) := [(0, .aload_n 0, 1, 0), (1, .getfield 9, 3, 170), (4, .invokevirtual 31, 3, 497), (7, .istore_n 1, 1, 0), (8, .aload_n 0, 1, 0), (9, .ldc 85, 2, 644), (11, .iconst 4, 1, 0), (12, .invokevirtual 58, 3, 506), (15, .aload_n 0, 1, 0), (16, .getfield 9, 3, 170), (19, .aload_n 0, 1, 0), (20, .getfield 9, 3, 170), (23, .iload_n 1, 1, 0), (24, .invokestatic 86, 3, 645), (27, .i2l, 1, 0), (28, .iconst 4, 1, 0), (29, .invokevirtual 45, 3, 486), (32, .return_, 1, 0)]
noncomputable def am_r72 : List (Nat × Instr × Nat × Nat) := [(0, .aload_n 0, 1, 0), (1, .invokespecial 3, 3, 305), (4, .aload_n 0, 1, 0), (5, .new 9, 3, 306), (8, .dup, 1, 0), (9, .sipush 436, 3, 0), (12, .invokespecial 11, 3, 307), (15, .putfield 14, 3, 346), (18, .aload_n 0, 1, 0), (19, .new 20, 3, 308), (22, .dup, 1, 0), (23, .aload_n 0, 1, 0), (24, .getfield 14, 3, 346), (27, .invokespecial 22, 3, 310), (30, .putfield 25, 3, 347), (33, .aload_n 0, 1, 0), (34, .bipush 10, 2, 0), (36, .newarray .int, 2, 0), (38, .putfield 29, 3, 348), (41, .return_, 1, 0)]
noncomputable def am_r73 : List (Nat × Instr × Nat × Nat) := [(0, .aload_n 0, 1, 0), (1, .getfield 14, 3, 346), (4, .areturn, 1, 0)]
noncomputable def am_r74 : List (Nat × Instr × Nat × Nat) := [(0, .aload_n 0, 1, 0), (1, .getfield 25, 3, 347), (4, .areturn, 1, 0)]
noncomputable def am_r75 : List (Nat × Instr × Nat × Nat) := [(0, .aload_n 0, 1, 0), (1, .iconst 0, 1, 0), (2, .putfield 33, 3, 349), (5, .aload_n 0, 1, 0), (6, .getfield 14, 3, 346), (9, .iconst 0, 1, 0), (10, .invokevirtual 37, 3, 742), (13, .return_, 1, 0)]
noncomputable def am_r76 : List (Nat × Instr × Nat × Nat) := [(0, .aload_n 0, 1, 0), (1, .iconst 1, 1, 0), (2, .putfield 33, 3, 349), (5, .aload_n 0, 1, 0), (6, .iload_n 1, 1, 0), (7, .putfield 40, 3, 350), (10, .aload_n 0, 1, 0), (11, .iload_n 2, 1, 0), (12, .putfield 44, 3, 351), (15, .aload_n 0, 1, 0), (16, .iload_n 3, 1, 0), (17, .putfield 47, 3, 352), (20, .aload_n 0, 1, 0), (21, .iconst 4, 1, 0), (22, .invokevirtual 50, 3, 791), (25, .return_, 1, 0)]
noncomputable def am_r77 : List (Nat × Instr × Nat × Nat) := [(0, .aload_n 0, 1, 0), (1, .getfield 25, 3, 347), (4, .invokevirtual 53, 3, 1040), (7, .pop, 1, 0), (8, .aload_n 0, 1, 0), (9, .getfield 33, 3, 349), (12, .ifCond .ne 9, 3, 0), (15, .aload_n 0, 1, 0), (16, .bipush 9, 2, 0), (18, .invokevirtual 50, 3, 791), (21, .aload_n 0, 1, 0), (22, .getfield 33, 3, 349), (25, .ifCond .eq 7, 3, 0), (28, .iconst 1, 1, 0), (29, .goto 4, 3, 0), (32, .iconst 0, 1, 0), (33, .ireturn, 1, 0)]
noncomputable def am_r78 : List (Nat × Instr × Nat × Nat) := [(0, .iload_n 1, 1, 0), (1, .ifCond .lt 22, 3, 0), (4, .iload_n 1, 1, 0), (5, .aload_n 0, 1, 0), (6, .getfield 29, 3, 348), (9, .arraylength, 1, 0), (10, .if_icmp .ge 13, 3, 0), (13, .aload_n 0, 1, 0), (14, .getfield 29, 3, 348), (17, .iload_n 1, 1, 0), (18, .dup2, 1, 0), (19, .iaload, 1, 0), (20, .iconst 1, 1, 0), (21, .iadd, 1, 0), (22, .iastore, 1, 0), (23, .return_, 1, 0)]
noncomputable def am_r79 : List (Nat × Instr × Nat × Nat) := [(0, .iload_n 1, 1, 0), (1, .iconst 4, 1, 0), (2, .if_icmp .lt 18, 3, 0), (5, .iload_n 1, 1, 0), (6, .bipush 9, 2, 0), (8, .if_icmp .gt 12, 3, 0), (11, .aload_n 0, 1, 0), (12, .getfield 29, 3, 348), (15, .iload_n 1, 1, 0), (16, .iaload, 1, 0), (17, .goto 4, 3, 0), (20, .iconst (-1), 1, 0), (21, .ireturn, 1, 0)]
noncomputable def am_r80 : List (Nat × Instr × Nat × Nat) := [(0, .iload_n 1, 1, 0), (1, .ifCond .lt 9, 3, 0), (4, .iload_n 1, 1, 0), (5, .bipush 6, 2, 0), (7, .if_icmp .le 5, 3, 0), (10, .iconst (-1), 1, 0), (11, .ireturn, 1, 0), (12, .aload_n 0, 1, 0), (13, .getfield 33, 3, 349), (16, .ifCond .ne 5, 3, 0), (19, .iconst 0, 1, 0), (20, .ireturn, 1, 0), (21, .iload_n 1, 1, 0), (22, .tableswitch 105 0 5 #[38, 46, 51, 56, 61, 83], 38, 0), (60, .aload_n 0, 1, 0), (61, .getfield 14, 3, 346), (64, .invokevirtual 57, 3, 1080), (67, .ireturn, 1, 0), (68, .aload_n 0, 1, 0), (69, .getfield 40, 3, 350), (72, .ireturn, 1, 0), (73, .aload_n 0, 1, 0), (74, .getfield 44, 3, 351), (77, .ireturn, 1, 0), (78, .aload_n 0, 1, 0), (79, .getfield 47, 3, 352), (82, .ireturn, 1, 0), (83, .aload_n 0, 1, 0), (84, .getfield 25, 3, 347), (87, .invokevirtual 61, 3, 1081), (90, .ifCond .eq 13, 3, 0), (93, .aload_n 0, 1, 0), (94, .getfield 25, 3, 347), (97, .invokevirtual 64, 3, 1085), (100, .goto 4, 3, 0), (103, .iconst (-1), 1, 0), (104, .ireturn, 1, 0), (105, .aload_n 0, 1, 0), (106, .getfield 25, 3, 347), (109, .invokevirtual 61, 3, 1081), (112, .ifCond .eq 13, 3, 0), (115, .aload_n 0, 1, 0), (116, .getfield 25, 3, 347), (119, .invokevirtual 67, 3, 1086), (122, .goto 4, 3, 0), (125, .iconst (-1), 1, 0), (126, .ireturn, 1, 0), (127, .aload_n 0, 1, 0), (128, .getfield 25, 3, 347), (131, .invokevirtual 70, 3, 1087), (134, .ireturn, 1, 0)]
noncomputable def am_r81 : List (Nat × Instr × Nat × Nat) := [(0, .aload_n 0, 1, 0), (1, .invokespecial 3, 3, 117), (4, .aload_n 0, 1, 0), (5, .iconst 0, 1, 0), (6, .iload_n 1, 1, 0), (7, .invokestatic 9, 3, 118), (10, .newarray .byte, 2, 0), (12, .putfield 15, 3, 121), (15, .return_, 1, 0)]
noncomputable def am_r82 : List (Nat × Instr × Nat × Nat) := [(0, .aload_n 0, 1, 0), (1, .getfield 21, 3, 122), (4, .ireturn, 1, 0)]
noncomputable def am_r83 : List (Nat × Instr × Nat × Nat) := [(0, .aload_n 0, 1, 0), (1, .getfield 15, 3, 121), (4, .arraylength, 1, 0), (5, .ireturn, 1, 0)]
noncomputable def am_r84 : List (Nat × Instr × Nat × Nat) := [(0, .iload_n 1, 1, 0), (1, .ifCond .lt 24, 3, 0), (4, .iload_n 1, 1, 0), (5, .aload_n 0, 1, 0), (6, .getfield 21, 3, 122), (9, .if_icmp .ge 16, 3, 0), (12, .aload_n 0, 1, 0), (13, .getfield 15, 3, 121), (16, .iload_n 1, 1, 0), (17, .baload, 1, 0), (18, .sipush 255, 3, 0), (21, .iand, 1, 0), (22, .goto 4, 3, 0), (25, .iconst (-1), 1, 0), (26, .ireturn, 1, 0)]
noncomputable def am_r85 : List (Nat × Instr × Nat × Nat) := [(0, .iload_n 1, 1, 0), (1, .ifCond .lt 19, 3, 0), (4, .iload_n 1, 1, 0), (5, .aload_n 0, 1, 0), (6, .getfield 21, 3, 122), (9, .if_icmp .ge 11, 3, 0), (12, .aload_n 0, 1, 0), (13, .getfield 15, 3, 121), (16, .iload_n 1, 1, 0), (17, .iload_n 2, 1, 0), (18, .i2b, 1, 0), (19, .bastore, 1, 0), (20, .return_, 1, 0)]
noncomputable def am_r86 : List (Nat × Instr × Nat × Nat) := [(0, .iload_n 1, 1, 0), (1, .ifCond .lt 16, 3, 0), (4, .iload_n 1, 1, 0), (5, .aload_n 0, 1, 0), (6, .getfield 21, 3, 122), (9, .if_icmp .ge 8, 3, 0), (12, .aload_n 0, 1, 0), (13, .iload_n 1, 1, 0), (14, .putfield 21, 3, 122), (17, .return_, 1, 0)]
noncomputable def am_r87 : List (Nat × Instr × Nat × Nat) := [(0, .bipush 8, 2, 0), (2, .iload_n 3, 1, 0), (3, .iconst 1, 1, 0), (4, .isub, 1, 0), (5, .imul, 1, 0), (6, .istore 4, 2, 0), (8, .iload 4, 2, 0), (10, .ifCond .lt 46, 3, 0), (13, .aload_n 0, 1, 0), (14, .getfield 21, 3, 122), (17, .aload_n 0, 1, 0), (18, .getfield 15, 3, 121), (21, .arraylength, 1, 0), (22, .if_icmp .ge 28, 3, 0), (25, .aload_n 0, 1, 0), (26, .getfield 15, 3, 121), (29, .aload_n 0, 1, 0), (30, .getfield 21, 3, 122), (33, .lload_n 1, 1, 0), (34, .iload 4, 2, 0), (36, .lushr, 1, 0), (37, .l2i, 1, 0), (38, .i2b, 1, 0), (39, .bastore, 1, 0), (40, .aload_n 0, 1, 0), (41, .dup, 1, 0), (42, .getfield 21, 3, 122), (45, .iconst 1, 1, 0), (46, .iadd, 1, 0), (47, .putfield 21, 3, 122), (50, .iinc 4 (-8), 3, 0), (53, .goto (-45), 3, 0), (56, .return_, 1, 0)]
noncomputable def am_r88 : List (Nat × Instr × Nat × Nat) := [(0, .iconst 0, 1, 0), (1, .istore_n 2, 1, 0), (2, .iload_n 2, 1, 0), (3, .iload_n 1, 1, 0), (4, .if_icmp .ge 41, 3, 0), (7, .aload_n 0, 1, 0), (8, .getfield 21, 3, 122), (11, .aload_n 0, 1, 0), (12, .getfield 15, 3, 121), (15, .arraylength, 1, 0), (16, .if_icmp .ge 29, 3, 0), (19, .aload_n 0, 1, 0), (20, .getfield 15, 3, 121), (23, .aload_n 0, 1, 0), (24, .getfield 21, 3, 122), (27, .iconst 0, 1, 0), (28, .bastore, 1, 0), (29, .aload_n 0, 1, 0), (30, .dup, 1, 0), (31, .getfield 21, 3, 122), (34, .iconst 1, 1, 0), (35, .iadd, 1, 0), (36, .putfield 21, 3, 122), (39, .iinc 2 1, 3, 0), (42, .goto (-40), 3, 0), (45, .return_, 1, 0)]
noncomputable def am_r89 : List (Nat × Instr × Nat × Nat) := [(0, .iload_n 2, 1, 0), (1, .ifCond .lt 58, 3, 0), (4, .iload_n 3, 1, 0), (5, .ifCond .lt 54, 3, 0), (8, .iload_n 2, 1, 0), (9, .iload_n 3, 1, 0), (10, .iadd, 1, 0), (11, .aload_n 1, 1, 0), (12, .getfield 21, 3, 122), (15, .if_icmp .gt 44, 3, 0), (18, .aload_n 0, 1, 0), (19, .getfield 21, 3, 122), (22, .iload_n 3, 1, 0), (23, .iadd, 1, 0), (24, .aload_n 0, 1, 0), (25, .getfield 15, 3, 121), (28, .arraylength, 1, 0), (29, .if_icmp .gt 30, 3, 0), (32, .aload_n 1, 1, 0), (33, .getfield 15, 3, 121), (36, .iload_n 2, 1, 0), (37, .aload_n 0, 1, 0), (38, .getfield 15, 3, 121), (41, .aload_n 0, 1, 0), (42, .getfield 21, 3, 122), (45, .iload_n 3, 1, 0), (46, .invokestatic 25, 3, 624), (49, .aload_n 0, 1, 0), (50, .dup, 1, 0), (51, .getfield 21, 3, 122), (54, .iload_n 3, 1, 0), (55, .iadd, 1, 0), (56, .putfield 21, 3, 122), (59, .return_, 1, 0)]
noncomputable def am_r90 : List (Nat × Instr × Nat × Nat) := [(0, .lconst 0, 1, 0), (1, .lstore_n 3, 1, 0), (2, .iload_n 1, 1, 0), (3, .istore 5, 2, 0), (5, .iload 5, 2, 0), (7, .iload_n 1, 1, 0), (8, .iload_n 2, 1, 0), (9, .iadd, 1, 0), (10, .if_icmp .ge 45, 3, 0), (13, .lload_n 3, 1, 0), (14, .bipush 8, 2, 0), (16, .lshl, 1, 0), (17, .iload 5, 2, 0), (19, .ifCond .lt 26, 3, 0), (22, .iload 5, 2, 0), (24, .aload_n 0, 1, 0), (25, .getfield 21, 3, 122), (28, .if_icmp .ge 17, 3, 0), (31, .aload_n 0, 1, 0), (32, .getfield 15, 3, 121), (35, .iload 5, 2, 0), (37, .baload, 1, 0), (38, .sipush 255, 3, 0), (41, .iand, 1, 0), (42, .goto 4, 3, 0), (45, .iconst 0, 1, 0), (46, .i2l, 1, 0), (47, .lor, 1, 0), (48, .lstore_n 3, 1, 0), (49, .iinc 5 1, 3, 0), (52, .goto (-47), 3, 0), (55, .lload_n 3, 1, 0), (56, .lreturn, 1, 0)]
noncomputable def am_r91 : List (Nat × Instr × Nat × Nat) := [(0, .aload_n 0, 1, 0), (1, .invokespecial 3, 3, 134), (4, .aload_n 0, 1, 0), (5, .new 9, 3, 135), (8, .dup, 1, 0), (9, .invokespecial 11, 3, 137), (12, .putfield 12, 3, 151), (15, .aload_n 0, 1, 0), (16, .new 18, 3, 149), (19, .dup, 1, 0), (20, .sipush 572, 3, 0), (23, .invokespecial 20, 3, 150), (26, .putfield 23, 3, 152), (29, .aload_n 0, 1, 0), (30, .new 18, 3, 149), (33, .dup, 1, 0), (34, .bipush 32, 2, 0), (36, .invokespecial 20, 3, 150), (39, .putfield 27, 3, 153), (42, .aload_n 0, 1, 0), (43, .new 18, 3, 149), (46, .dup, 1, 0), (47, .bipush 32, 2, 0), (49, .invokespecial 20, 3, 150), (52, .putfield 30, 3, 154), (55, .return_, 1, 0)]
noncomputable def am_r92 : List (Nat × Instr × Nat × Nat) := [(0, .aload_n 0, 1, 0), (1, .getfield 23, 3, 152), (4, .iconst 0, 1, 0), (5, .invokevirtual 33, 3, 574), (8, .aload_n 0, 1, 0), (9, .getfield 23, 3, 152), (12, .lload_n 1, 1, 0), (13, .lload_n 1, 1, 0), (14, .invokestatic 36, 3, 575), (17, .invokevirtual 42, 3, 576), (20, .aload_n 0, 1, 0), (21, .getfield 23, 3, 152), (24, .ldc2_w 46, 3, 577), (27, .iconst 1, 1, 0), (28, .invokevirtual 42, 3, 576), (31, .aload_n 0, 1, 0), (32, .getfield 23, 3, 152), (35, .lload_n 3, 1, 0), (36, .lload_n 3, 1, 0), (37, .invokestatic 36, 3, 575), (40, .invokevirtual 42, 3, 576), (43, .aload_n 0, 1, 0), (44, .getfield 23, 3, 152), (47, .ldc2_w 46, 3, 577), (50, .iconst 1, 1, 0), (51, .invokevirtual 42, 3, 576), (54, .aload_n 0, 1, 0), (55, .getfield 23, 3, 152), (58, .lload 5, 2, 0), (60, .lload 5, 2, 0), (62, .invokestatic 36, 3, 575), (65, .invokevirtual 42, 3, 576), (68, .aload_n 0, 1, 0), (69, .getfield 12, 3, 151), (72, .aload_n 0, 1, 0), (73, .getfield 23, 3, 152), (76, .aload_n 0, 1, 0), (77, .getfield 27, 3, 153), (80, .invokevirtual 48, 3, 578), (83, .return_, 1, 0)]
noncomputable def am_r93 : List (Nat × Instr × Nat × Nat) := [(0, .iload_n 2, 1, 0), (1, .iconst 4, 1, 0), (2, .iadd, 1, 0), (3, .bipush 32, 2, 0), (5, .iadd, 1, 0), (6, .bipush 20, 2, 0), (8, .isub, 1, 0), (9, .istore_n 3, 1, 0), (10, .aload_n 0, 1, 0), (11, .bipush 54, 2, 0), (13, .invokevirtual 52, 3, 615), (16, .aload_n 0, 1, 0), (17, .getfield 23, 3, 152), (20, .aload_n 1, 1, 0), (21, .iconst 0, 1, 0), (22, .iload_n 2, 1, 0), (23, .invokevirtual 55, 3, 620), (26, .aload_n 0, 1, 0), (27, .getfield 23, 3, 152), (30, .bipush 66, 2, 0), (32, .iload_n 3, 1, 0), (33, .bipush 8, 2, 0), (35, .ishr, 1, 0), (36, .invokevirtual 59, 3, 630), (39, .aload_n 0, 1, 0), (40, .getfield 23, 3, 152), (43, .bipush 67, 2, 0), (45, .iload_n 3, 1, 0), (46, .invokevirtual 59, 3, 630), (49, .aload_n 0, 1, 0), (50, .getfield 12, 3, 151), (53, .aload_n 0, 1, 0), (54, .getfield 23, 3, 152), (57, .aload_n 0, 1, 0), (58, .getfield 30, 3, 154), (61, .invokevirtual 48, 3, 578), (64, .aload_n 0, 1, 0), (65, .bipush 92, 2, 0), (67, .invokevirtual 52, 3, 615), (70, .aload_n 0, 1, 0), (71, .getfield 23, 3, 152), (74, .aload_n 0, 1, 0), (75, .getfield 30, 3, 154), (78, .iconst 0, 1, 0), (79, .bipush 32, 2, 0), (81, .invokevirtual 55, 3, 620), (84, .aload_n 0, 1, 0), (85, .getfield 12, 3, 151), (88, .aload_n 0, 1, 0), (89, .getfield 23, 3, 152), (92, .aload_n 0, 1, 0), (93, .getfield 30, 3, 154), (96, .invokevirtual 48, 3, 578), (99, .return_, 1, 0)]
noncomputable def am_r94 : List (Nat × Instr × Nat × Nat) := [(0, .aload_n 0, 1, 0), (1, .getfield 23, 3, 152), (4, .iconst 0, 1, 0), (5, .invokevirtual 33, 3, 574), (8, .aload_n 0, 1, 0), (9, .getfield 23, 3, 152), (12, .aload_n 0, 1, 0), (13, .getfield 27, 3, 153), (16, .iconst 0, 1, 0), (17, .aload_n 0, 1, 0), (18, .getfield 27, 3, 153), (21, .invokevirtual 63, 3, 619), (24, .invokevirtual 55, 3, 620), (27, .aload_n 0, 1, 0), (28, .getfield 23, 3, 152), (31, .bipush 64, 2, 0), (33, .aload_n 0, 1, 0), (34, .getfield 27, 3, 153), (37, .invokevirtual 63, 3, 619), (40, .isub, 1, 0), (41, .invokevirtual 67, 3, 625), (44, .iconst 0, 1, 0), (45, .istore_n 2, 1, 0), (46, .iload_n 2, 1, 0), (47, .bipush 64, 2, 0), (49, .if_icmp .ge 27, 3, 0), (52, .aload_n 0, 1, 0), (53, .getfield 23, 3, 152), (56, .iload_n 2, 1, 0), (57, .aload_n 0, 1, 0), (58, .getfield 23, 3, 152), (61, .iload_n 2, 1, 0), (62, .invokevirtual 70, 3, 626), (65, .iload_n 1, 1, 0), (66, .ixor, 1, 0), (67, .invokevirtual 59, 3, 630), (70, .iinc 2 1, 3, 0), (73, .goto (-27), 3, 0), (76, .return_, 1, 0)]
noncomputable def am_r95 : List (Nat × Instr × Nat × Nat) := [(0, .iconst 0, 1, 0), (1, .istore_n 3, 1, 0), (2, .iload_n 3, 1, 0), (3, .bipush 32, 2, 0), (5, .if_icmp .ge 29, 3, 0), (8, .aload_n 1, 1, 0), (9, .iload_n 2, 1, 0), (10, .iload_n 3, 1, 0), (11, .iadd, 1, 0), (12, .invokevirtual 70, 3, 626), (15, .aload_n 0, 1, 0), (16, .getfield 30, 3, 154), (19, .iload_n 3, 1, 0), (20, .invokevirtual 70, 3, 626), (23, .if_icmp .eq 5, 3, 0), (26, .iconst 0, 1, 0), (27, .ireturn, 1, 0), (28, .iinc 3 1, 3, 0), (31, .goto (-29), 3, 0), (34, .iconst 1, 1, 0), (35, .ireturn, 1, 0)]
noncomputable def am_r96 : List (Nat × Instr × Nat × Nat) := [(0, .aload_n 1, 1, 0), (1, .aload_n 0, 1, 0), (2, .getfield 30, 3, 154), (5, .iconst 0, 1, 0), (6, .bipush 32, 2, 0), (8, .invokevirtual 55, 3, 620), (11, .return_, 1, 0)]
noncomputable def am_r97 : List (Nat × Instr × Nat × Nat) := [(0, .aload_n 0, 1, 0), (1, .invokespecial 3, 3, 373), (4, .aload_n 0, 1, 0), (5, .bipush 8, 2, 0), (7, .newarray .int, 2, 0), (9, .putfield 9, 3, 390), (12, .aload_n 0, 1, 0), (13, .bipush 31, 2, 0), (15, .newarray .int, 2, 0), (17, .putfield 15, 3, 391), (20, .aload_n 0, 1, 0), (21, .aload_n 1, 1, 0), (22, .putfield 18, 3, 382), (25, .aload_n 0, 1, 0), (26, .aload_n 2, 1, 0), (27, .putfield 22, 3, 383), (30, .aload_n 0, 1, 0), (31, .aload_n 3, 1, 0), (32, .putfield 26, 3, 384), (35, .aload_n 0, 1, 0), (36, .aload 4, 2, 0), (38, .putfield 30, 3, 385), (41, .aload_n 0, 1, 0), (42, .aload 5, 2, 0), (44, .putfield 34, 3, 386), (47, .aload_n 0, 1, 0), (48, .aload 6, 2, 0), (50, .putfield 38, 3, 387), (53, .aload_n 0, 1, 0), (54, .new 42, 3, 374), (57, .dup, 1, 0), (58, .aload_n 1, 1, 0), (59, .invokespecial 44, 3, 375), (62, .putfield 47, 3, 388), (65, .aload_n 0, 1, 0), (66, .new 51, 3, 376), (69, .dup, 1, 0), (70, .aload 5, 2, 0), (72, .invokevirtual 53, 3, 377), (75, .aload 6, 2, 0), (77, .invokespecial 59, 3, 381), (80, .putfield 62, 3, 389), (83, .return_, 1, 0)]
noncomputable def am_r98 : List (Nat × Instr × Nat × Nat) := [(0, .aload_n 0, 1, 0), (1, .getfield 34, 3, 386), (4, .invokevirtual 66, 3, 738), (7, .aload_n 0, 1, 0), (8, .iload_n 1, 1, 0), (9, .putfield 69, 3, 393), (12, .aload_n 0, 1, 0), (13, .iload_n 2, 1, 0), (14, .putfield 73, 3, 394), (17, .aload_n 0, 1, 0), (18, .aload_n 0, 1, 0), (19, .getfield 30, 3, 385), (22, .iload_n 1, 1, 0), (23, .iload_n 2, 1, 0), (24, .invokevirtual 76, 3, 743), (27, .putfield 82, 3, 395), (30, .aload_n 0, 1, 0), (31, .invokevirtual 86, 3, 747), (34, .ifCond .eq 10, 3, 0), (37, .aload_n 0, 1, 0), (38, .invokevirtual 90, 3, 759), (41, .goto 74, 3, 0), (44, .aload_n 0, 1, 0), (45, .getfield 47, 3, 388), (48, .invokevirtual 93, 3, 797), (51, .ifCond .eq 64, 3, 0), (54, .aload_n 0, 1, 0), (55, .getfield 47, 3, 388), (58, .invokevirtual 96, 3, 817), (61, .ifCond .ne 54, 3, 0), (64, .aload_n 0, 1, 0), (65, .getfield 47, 3, 388), (68, .invokevirtual 99, 3, 834), (71, .ifCond .ne 17, 3, 0), (74, .aload_n 0, 1, 0), (75, .aload_n 0, 1, 0), (76, .getfield 47, 3, 388), (79, .invokevirtual 103, 3, 838), (82, .invokevirtual 106, 3, 842), (85, .goto 30, 3, 0), (88, .aload_n 0, 1, 0), (89, .getfield 47, 3, 388), (92, .invokevirtual 99, 3, 834), (95, .iconst 1, 1, 0), (96, .if_icmp .ne 19, 3, 0), (99, .aload_n 0, 1, 0), (100, .getfield 47, 3, 388), (103, .invokevirtual 103, 3, 838), (106, .bipush 6, 2, 0), (108, .if_icmp .ne 7, 3, 0), (111, .aload_n 0, 1, 0), (112, .invokevirtual 110, 3, 1031), (115, .aload_n 0, 1, 0), (116, .getfield 18, 3, 382), (119, .iconst 0, 1, 0), (120, .invokevirtual 113, 3, 1035), (123, .aload_n 0, 1, 0), (124, .getfield 34, 3, 386), (127, .invokevirtual 118, 3, 1036), (130, .ireturn, 1, 0)]
noncomputable def am_r99 : List (Nat × Instr × Nat × Nat) := [(0, .aload_n 0, 1, 0), (1, .getfield 34, 3, 386), (4, .invokevirtual 66, 3, 738), (7, .aload_n 0, 1, 0), (8, .getfield 30, 3, 385), (11, .iload_n 1, 1, 0), (12, .invokevirtual 121, 3, 1049), (15, .astore 4, 2, 0), (17, .aload 4, 2, 0), (19, .ifnull 76, 3, 0), (22, .aload 4, 2, 0), (24, .iload_n 2, 1, 0), (25, .invokevirtual 125, 3, 779), (28, .ifCond .eq 67, 3, 0), (31, .aload_n 0, 1, 0), (32, .getfield 34, 3, 386), (35, .aload 4, 2, 0), (37, .getfield 131, 3, 237), (40, .aload 4, 2, 0), (42, .getfield 132, 3, 240), (45, .sipush 3478, 3, 0), (48, .invokevirtual 133, 3, 787), (51, .aload_n 0, 1, 0), (52, .getfield 34, 3, 386), (55, .bipush 7, 2, 0), (57, .invokevirtual 137, 3, 795), (60, .aload 4, 2, 0), (62, .iload_n 2, 1, 0), (63, .iload_n 3, 1, 0), (64, .invokevirtual 140, 3, 989), (67, .istore 5, 2, 0), (69, .iload 5, 2, 0), (71, .iconst (-1), 1, 0), (72, .if_icmp .eq 17, 3, 0), (75, .aload_n 0, 1, 0), (76, .aload 4, 2, 0), (78, .iload 5, 2, 0), (80, .invokevirtual 144, 3, 1050), (83, .invokevirtual 148, 3, 1054), (86, .goto 9, 3, 0), (89, .aload_n 0, 1, 0), (90, .iload_n 2, 1, 0), (91, .iload_n 3, 1, 0), (92, .invokevirtual 151, 3, 1059), (95, .aload_n 0, 1, 0), (96, .getfield 18, 3, 382), (99, .iconst 0, 1, 0), (100, .invokevirtual 113, 3, 1035), (103, .aload_n 0, 1, 0), (104, .getfield 34, 3, 386), (107, .invokevirtual 118, 3, 1036), (110, .ireturn, 1, 0)]
noncomputable def am_r100 : List (Nat × Instr × Nat × Nat) := [(0, .aload_n 0, 1, 0), (1, .getfield 34, 3, 386), (4, .invokevirtual 53, 3, 377), (7, .astore_n 2, 1, 0), (8, .aload_n 2, 1, 0), (9, .iload_n 1, 1, 0), (10, .i2l, 1, 0), (11, .iconst 2, 1, 0), (12, .invokevirtual 155, 3, 1058), (15, .aload_n 2, 1, 0), (16, .aload_n 0, 1, 0), (17, .getfield 18, 3, 382), (20, .invokevirtual 159, 3, 751), (23, .i2l, 1, 0), (24, .iconst 2, 1, 0), (25, .invokevirtual 155, 3, 1058), (28, .aload_n 2, 1, 0), (29, .aload_n 0, 1, 0), (30, .getfield 18, 3, 382), (33, .iconst 0, 1, 0), (34, .aload_n 0, 1, 0), (35, .getfield 18, 3, 382), (38, .invokevirtual 159, 3, 751), (41, .invokevirtual 162, 3, 796), (44, .return_, 1, 0)]
noncomputable def am_r101 : List (Nat × Instr × Nat × Nat) := [(0, .aload_n 0, 1, 0), (1, .getfield 62, 3, 389), (4, .bipush 7, 2, 0), (6, .iconst 1, 1, 0), (7, .invokestatic 166, 3, 1002), (10, .iconst 0, 1, 0), (11, .iconst 0, 1, 0), (12, .aload_n 0, 1, 0), (13, .getfield 34, 3, 386), (16, .iconst 5, 1, 0), (17, .invokevirtual 169, 3, 1063), (20, .invokevirtual 172, 3, 1005), (23, .aload_n 0, 1, 0), (24, .getfield 62, 3, 389), (27, .bipush 18, 2, 0), (29, .iload_n 1, 1, 0), (30, .iload_n 2, 1, 0), (31, .invokevirtual 176, 3, 1011), (34, .aload_n 0, 1, 0), (35, .getfield 62, 3, 389), (38, .aload_n 0, 1, 0), (39, .getfield 18, 3, 382), (42, .invokevirtual 179, 3, 1067), (45, .aload_n 0, 1, 0), (46, .getfield 34, 3, 386), (49, .iconst 5, 1, 0), (50, .invokevirtual 137, 3, 795), (53, .return_, 1, 0)]
noncomputable def am_r102 : List (Nat × Instr × Nat × Nat) := [(0, .lload_n 0, 1, 0), (1, .ldc2_w 182, 3, 756), (4, .lcmp, 1, 0), (5, .ifCond .lt 15, 3, 0), (8, .lload_n 0, 1, 0), (9, .ldc2_w 184, 3, 757), (12, .lcmp, 1, 0), (13, .ifCond .gt 7, 3, 0), (16, .iconst 1, 1, 0), (17, .goto 4, 3, 0), (20, .iconst 0, 1, 0), (21, .ireturn, 1, 0)]
noncomputable def am_r103 : List (Nat × Instr × Nat × Nat) := [(0, .aload_n 0, 1, 0), (1, .getfield 18, 3, 382), (4, .invokevirtual 159, 3, 751), (7, .iconst 4, 1, 0), (8, .if_icmp .lt 18, 3, 0), (11, .aload_n 0, 1, 0), (12, .getfield 18, 3, 382), (15, .iconst 0, 1, 0), (16, .iconst 2, 1, 0), (17, .invokevirtual 186, 3, 752), (20, .invokestatic 190, 3, 753), (23, .ifCond .ne 5, 3, 0), (26, .iconst 0, 1, 0), (27, .ireturn, 1, 0), (28, .aload_n 0, 1, 0), (29, .getfield 18, 3, 382), (32, .invokevirtual 159, 3, 751), (35, .iconst 4, 1, 0), (36, .isub, 1, 0), (37, .i2l, 1, 0), (38, .aload_n 0, 1, 0), (39, .getfield 18, 3, 382), (42, .iconst 2, 1, 0), (43, .iconst 2, 1, 0), (44, .invokevirtual 186, 3, 752), (47, .lsub, 1, 0), (48, .lstore_n 1, 1, 0), (49, .lload_n 1, 1, 0), (50, .lconst 0, 1, 0), (51, .lcmp, 1, 0), (52, .ifCond .lt 15, 3, 0), (55, .lload_n 1, 1, 0), (56, .ldc2_w 194, 3, 758), (59, .lcmp, 1, 0), (60, .ifCond .gt 7, 3, 0), (63, .iconst 1, 1, 0), (64, .goto 4, 3, 0), (67, .iconst 0, 1, 0), (68, .ireturn, 1, 0)]
noncomputable def am_r104 : List (Nat × Instr × Nat × Nat) := [(0, .aload_n 0, 1, 0), (1, .getfield 82, 3, 395), (4, .ifnonnull 4, 3, 0), (7, .return_, 1, 0), (8, .aload_n 0, 1, 0), (9, .getfield 82, 3, 395), (12, .aload_n 0, 1, 0), (13, .getfield 18, 3, 382), (16, .iconst 0, 1, 0), (17, .iconst 2, 1, 0), (18, .invokevirtual 186, 3, 752), (21, .l2i, 1, 0), (22, .invokevirtual 196, 3, 763), (25, .istore_n 1, 1, 0), (26, .iload_n 1, 1, 0), (27, .iconst (-1), 1, 0), (28, .if_icmp .eq 38, 3, 0), (31, .aload_n 0, 1, 0), (32, .aload_n 0, 1, 0), (33, .getfield 82, 3, 395), (36, .aload_n 0, 1, 0), (37, .getfield 82, 3, 395), (40, .iload_n 1, 1, 0), (41, .invokevirtual 199, 3, 767), (44, .aload_n 0, 1, 0), (45, .getfield 82, 3, 395), (48, .iload_n 1, 1, 0), (49, .invokevirtual 202, 3, 771), (52, .iconst 4, 1, 0), (53, .aload_n 0, 1, 0), (54, .getfield 18, 3, 382), (57, .iconst 2, 1, 0), (58, .iconst 2, 1, 0), (59, .invokevirtual 186, 3, 752), (62, .l2i, 1, 0), (63, .invokevirtual 205, 3, 775), (66, .return_, 1, 0)]
noncomputable def am_r105 : List (Nat × Instr × Nat × Nat) := [(0, .aload_n 0, 1, 0), (1, .getfield 47, 3, 388), (4, .bipush 18, 2, 0), (6, .invokevirtual 209, 3, 864), (9, .istore_n 1, 1, 0), (10, .aload_n 0, 1, 0), (11, .getfield 47, 3, 388), (14, .bipush 19, 2, 0), (16, .invokevirtual 209, 3, 864), (19, .istore_n 2, 1, 0), (20, .aload_n 0, 1, 0), (21, .getfield 82, 3, 395), (24, .ifnull 27, 3, 0), (27, .iload_n 1, 1, 0), (28, .iconst (-1), 1, 0), (29, .if_icmp .eq 22, 3, 0), (32, .iload_n 2, 1, 0), (33, .iconst (-1), 1, 0), (34, .if_icmp .eq 17, 3, 0), (37, .aload_n 0, 1, 0), (38, .getfield 47, 3, 388), (41, .aload_n 0, 1, 0), (42, .getfield 9, 3, 390), (45, .invokevirtual 212, 3, 846), (48, .ifCond .le 4, 3, 0), (51, .return_, 1, 0), (52, .aload_n 0, 1, 0), (53, .aload_n 0, 1, 0), (54, .getfield 82, 3, 395), (57, .aload_n 0, 1, 0), (58, .getfield 47, 3, 388), (61, .iload_n 1, 1, 0), (62, .invokevirtual 216, 3, 981), (65, .aload_n 0, 1, 0), (66, .getfield 47, 3, 388), (69, .iload_n 1, 1, 0), (70, .invokevirtual 219, 3, 985), (73, .aload_n 0, 1, 0), (74, .getfield 47, 3, 388), (77, .iload_n 2, 1, 0), (78, .invokevirtual 222, 3, 890), (81, .aload_n 0, 1, 0), (82, .getfield 47, 3, 388), (85, .iload_n 2, 1, 0), (86, .invokevirtual 225, 3, 882), (89, .invokevirtual 205, 3, 775), (92, .return_, 1, 0)]
noncomputable def am_r106 : List (Nat × Instr × Nat × Nat) := [(0, .aload_n 1, 1, 0), (1, .iload_n 2, 1, 0), (2, .invokevirtual 125, 3, 779), (5, .ifCond .eq 43, 3, 0), (8, .aload_n 0, 1, 0), (9, .getfield 34, 3, 386), (12, .iload_n 2, 1, 0), (13, .iload_n 3, 1, 0), (14, .aload_n 1, 1, 0), (15, .getfield 228, 3, 247), (18, .invokevirtual 133, 3, 787), (21, .aload_n 0, 1, 0), (22, .getfield 34, 3, 386), (25, .bipush 6, 2, 0), (27, .invokevirtual 137, 3, 795), (30, .aload_n 0, 1, 0), (31, .getfield 34, 3, 386), (34, .invokevirtual 53, 3, 377), (37, .aload_n 0, 1, 0), (38, .getfield 18, 3, 382), (41, .iload 4, 2, 0), (43, .iload 5, 2, 0), (45, .invokevirtual 162, 3, 796), (48, .return_, 1, 0)]
noncomputable def am_r107 : List (Nat × Instr × Nat × Nat) := [(0, .aload_n 0, 1, 0), (1, .iconst (-1), 1, 0), (2, .putfield 231, 3, 396), (5, .aload_n 0, 1, 0), (6, .aload_n 0, 1, 0), (7, .getfield 47, 3, 388), (10, .aload_n 0, 1, 0), (11, .getfield 9, 3, 390), (14, .invokevirtual 212, 3, 846), (17, .putfield 234, 3, 392), (20, .aload_n 0, 1, 0), (21, .iload_n 1, 1, 0), (22, .invokevirtual 237, 3, 857), (25, .istore_n 2, 1, 0), (26, .iload_n 2, 1, 0), (27, .ifCond .ne 9, 3, 0), (30, .aload_n 0, 1, 0), (31, .iload_n 1, 1, 0), (32, .invokevirtual 240, 3, 896), (35, .istore_n 2, 1, 0), (36, .aload_n 0, 1, 0), (37, .getfield 34, 3, 386), (40, .aload_n 0, 1, 0), (41, .getfield 69, 3, 393), (44, .aload_n 0, 1, 0), (45, .getfield 73, 3, 394), (48, .sipush 3478, 3, 0), (51, .invokevirtual 133, 3, 787), (54, .aload_n 0, 1, 0), (55, .getfield 62, 3, 389), (58, .iload_n 1, 1, 0), (59, .iload_n 2, 1, 0), (60, .ifCond .ne 7, 3, 0), (63, .iconst 2, 1, 0), (64, .goto 4, 3, 0), (67, .iconst 3, 1, 0), (68, .invokestatic 166, 3, 1002), (71, .aload_n 0, 1, 0), (72, .getfield 18, 3, 382), (75, .bipush 8, 2, 0), (77, .iconst 4, 1, 0), (78, .invokevirtual 186, 3, 752), (81, .l2i, 1, 0), (82, .aload_n 0, 1, 0), (83, .getfield 18, 3, 382), (86, .bipush 12, 2, 0), (88, .iconst 4, 1, 0), (89, .invokevirtual 186, 3, 752), (92, .l2i, 1, 0), (93, .aload_n 0, 1, 0), (94, .getfield 18, 3, 382), (97, .bipush 16, 2, 0), (99, .iconst 4, 1, 0), (100, .invokevirtual 186, 3, 752), (103, .l2i, 1, 0), (104, .invokevirtual 172, 3, 1005), (107, .iload_n 2, 1, 0), (108, .ifCond .ne 11, 3, 0), (111, .aload_n 0, 1, 0), (112, .iload_n 1, 1, 0), (113, .invokevirtual 243, 3, 1006), (116, .goto 8, 3, 0), (119, .aload_n 0, 1, 0), (120, .iload_n 2, 1, 0), (121, .invokevirtual 246, 3, 1017), (124, .aload_n 0, 1, 0), (125, .getfield 231, 3, 396), (128, .iconst (-1), 1, 0), (129, .if_icmp .eq 10, 3, 0), (132, .aload_n 0, 1, 0), (133, .getfield 62, 3, 389), (136, .invokevirtual 249, 3, 1025), (139, .aload_n 0, 1, 0), (140, .getfield 47, 3, 388), (143, .invokevirtual 252, 3, 1026), (146, .ifCond .eq 10, 3, 0), (149, .aload_n 0, 1, 0), (150, .getfield 62, 3, 389), (153, .invokevirtual 255, 3, 1030), (156, .return_, 1, 0)]
noncomputable def am_r108 : List (Nat × Instr × Nat × Nat) := [(0, .iload_n 0, 1, 0), (1, .iconst 3, 1, 0), (2, .if_icmp .eq 20, 3, 0), (5, .iload_n 0, 1, 0), (6, .iconst 4, 1, 0), (7, .if_icmp .eq 15, 3, 0), (10, .iload_n 0, 1, 0), (11, .bipush 8, 2, 0), (13, .if_icmp .eq 9, 3, 0), (16, .iload_n 0, 1, 0), (17, .bipush 9, 2, 0), (19, .if_icmp .ne 7, 3, 0), (22, .iconst 1, 1, 0), (23, .goto 4, 3, 0), (26, .iconst 0, 1, 0), (27, .ireturn, 1, 0)]
noncomputable def am_r109 : List (Nat × Instr × Nat × Nat) := [(0, .iload_n 1, 1, 0), (1, .invokestatic 258, 3, 861), (4, .ifCond .ne 29, 3, 0), (7, .iload_n 1, 1, 0), (8, .iconst 1, 1, 0), (9, .if_icmp .eq 9, 3, 0), (12, .sipush 400, 3, 0), (15, .goto 17, 3, 0), (18, .aload_n 0, 1, 0), (19, .getfield 234, 3, 392), (22, .ifCond .le 9, 3, 0), (25, .sipush 420, 3, 0), (28, .goto 4, 3, 0), (31, .iconst 0, 1, 0), (32, .ireturn, 1, 0), (33, .aload_n 0, 1, 0), (34, .getfield 47, 3, 388), (37, .bipush 28, 2, 0), (39, .invokevirtual 209, 3, 864), (42, .istore_n 2, 1, 0), (43, .aload_n 0, 1, 0), (44, .getfield 47, 3, 388), (47, .bipush 6, 2, 0), (49, .invokevirtual 209, 3, 864), (52, .istore_n 3, 1, 0), (53, .aload_n 0, 1, 0), (54, .getfield 47, 3, 388), (57, .bipush 20, 2, 0), (59, .invokevirtual 209, 3, 864), (62, .istore 4, 2, 0), (64, .aload_n 0, 1, 0), (65, .getfield 47, 3, 388), (68, .bipush 21, 2, 0), (70, .invokevirtual 209, 3, 864), (73, .istore 5, 2, 0), (75, .iload_n 2, 1, 0), (76, .iconst (-1), 1, 0), (77, .if_icmp .ne 7, 3, 0), (80, .sipush 401, 3, 0), (83, .ireturn, 1, 0), (84, .iload_n 3, 1, 0), (85, .iconst (-1), 1, 0), (86, .if_icmp .eq 15, 3, 0), (89, .iload 4, 2, 0), (91, .iconst (-1), 1, 0), (92, .if_icmp .eq 9, 3, 0), (95, .iload 5, 2, 0), (97, .iconst (-1), 1, 0), (98, .if_icmp .ne 7, 3, 0), (101, .sipush 400, 3, 0), (104, .ireturn, 1, 0), (105, .aload_n 0, 1, 0), (106, .getfield 47, 3, 388), (109, .iload 5, 2, 0), (111, .invokevirtual 261, 3, 868), (114, .aload_n 0, 1, 0), (115, .getfield 22, 3, 383), (118, .invokevirtual 265, 3, 869), (121, .lcmp, 1, 0), (122, .ifCond .eq 7, 3, 0), (125, .sipush 438, 3, 0), (128, .ireturn, 1, 0), (129, .aload_n 0, 1, 0), (130, .getfield 22, 3, 383), (133, .aload_n 0, 1, 0), (134, .getfield 47, 3, 388), (137, .iload_n 3, 1, 0), (138, .invokevirtual 261, 3, 868), (141, .invokevirtual 271, 3, 873), (144, .istore 6, 2, 0), (146, .iload 6, 2, 0), (148, .iconst (-1), 1, 0), (149, .if_icmp .eq 36, 3, 0), (152, .aload_n 0, 1, 0), (153, .iload_n 3, 1, 0), (154, .aload_n 0, 1, 0), (155, .getfield 22, 3, 383), (158, .iload 6, 2, 0), (160, .invokevirtual 274, 3, 874), (163, .invokevirtual 277, 3, 878), (166, .ifCond .eq 19, 3, 0), (169, .aload_n 0, 1, 0), (170, .iload 4, 2, 0), (172, .aload_n 0, 1, 0), (173, .getfield 22, 3, 383), (176, .invokevirtual 281, 3, 884), (179, .invokevirtual 277, 3, 878), (182, .ifCond .ne 7, 3, 0), (185, .sipush 401, 3, 0), (188, .ireturn, 1, 0), (189, .aload_n 0, 1, 0), (190, .getfield 38, 3, 387), (193, .aload_n 0, 1, 0), (194, .getfield 22, 3, 383), (197, .iload 6, 2, 0), (199, .invokevirtual 274, 3, 874), (202, .aload_n 0, 1, 0), (203, .getfield 22, 3, 383), (206, .invokevirtual 281, 3, 884), (209, .aload_n 0, 1, 0), (210, .getfield 22, 3, 383), (213, .iload 6, 2, 0), (215, .invokevirtual 284, 3, 885), (218, .invokevirtual 287, 3, 889), (221, .aload_n 0, 1, 0), (222, .getfield 38, 3, 387), (225, .aload_n 0, 1, 0), (226, .getfield 18, 3, 382), (229, .aload_n 0, 1, 0), (230, .getfield 47, 3, 388), (233, .iload_n 2, 1, 0), (234, .invokevirtual 222, 3, 890), (237, .iconst 4, 1, 0), (238, .isub, 1, 0), (239, .invokevirtual 293, 3, 891), (242, .aload_n 0, 1, 0), (243, .getfield 38, 3, 387), (246, .aload_n 0, 1, 0), (247, .getfield 18, 3, 382), (250, .aload_n 0, 1, 0), (251, .getfield 47, 3, 388), (254, .iload_n 2, 1, 0), (255, .invokevirtual 222, 3, 890), (258, .invokevirtual 297, 3, 892), (261, .ifCond .ne 7, 3, 0), (264, .sipush 401, 3, 0), (267, .ireturn, 1, 0), (268, .aload_n 0, 1, 0), (269, .getfield 234, 3, 392), (272, .ifCond .le 7, 3, 0), (275, .sipush 420, 3, 0), (278, .ireturn, 1, 0), (279, .aload_n 0, 1, 0), (280, .iload 6, 2, 0), (282, .putfield 231, 3, 396), (285, .iconst 0, 1, 0), (286, .ireturn, 1, 0)]
noncomputable def am_r110 : List (Nat × Instr × Nat × Nat) := [(0, .aload_n 0, 1, 0), (1, .getfield 47, 3, 388), (4, .iload_n 1, 1, 0), (5, .invokevirtual 261, 3, 868), (8, .lload_n 2, 1, 0), (9, .lcmp, 1, 0), (10, .ifCond .ne 22, 3, 0), (13, .aload_n 0, 1, 0), (14, .getfield 47, 3, 388), (17, .iload_n 1, 1, 0), (18, .invokevirtual 225, 3, 882), (21, .lload_n 2, 1, 0), (22, .invokestatic 301, 3, 883), (25, .if_icmp .ne 7, 3, 0), (28, .iconst 1, 1, 0), (29, .goto 4, 3, 0), (32, .iconst 0, 1, 0), (33, .ireturn, 1, 0)]
noncomputable def am_r111 : List (Nat × Instr × Nat × Nat) := [(0, .iload_n 1, 1, 0), (1, .iconst 1, 1, 0), (2, .if_icmp .ne 5, 3, 0), (5, .iconst 0, 1, 0), (6, .ireturn, 1, 0), (7, .iload_n 1, 1, 0), (8, .iconst 3, 1, 0), (9, .if_icmp .ne 8, 3, 0), (12, .aload_n 0, 1, 0), (13, .invokevirtual 303, 3, 900), (16, .ireturn, 1, 0), (17, .aload_n 0, 1, 0), (18, .getfield 82, 3, 395), (21, .ifnonnull 7, 3, 0), (24, .sipush 437, 3, 0), (27, .ireturn, 1, 0), (28, .aload_n 0, 1, 0), (29, .getfield 82, 3, 395), (32, .getfield 306, 3, 244), (35, .aload_n 0, 1, 0), (36, .getfield 231, 3, 396), (39, .if_icmp .eq 7, 3, 0), (42, .sipush 441, 3, 0), (45, .ireturn, 1, 0), (46, .iload_n 1, 1, 0), (47, .lookupswitch 43 #[(4, 25), (8, 34)], 25, 0), (72, .aload_n 0, 1, 0), (73, .aload_n 0, 1, 0), (74, .getfield 82, 3, 395), (77, .invokevirtual 309, 3, 951), (80, .ireturn, 1, 0), (81, .aload_n 0, 1, 0), (82, .aload_n 0, 1, 0), (83, .getfield 82, 3, 395), (86, .invokevirtual 313, 3, 955), (89, .ireturn, 1, 0), (90, .aload_n 0, 1, 0), (91, .aload_n 0, 1, 0), (92, .getfield 82, 3, 395), (95, .invokevirtual 316, 3, 977), (98, .ireturn, 1, 0)]
noncomputable def am_r112 : List (Nat × Instr × Nat × Nat) := [(0, .aload_n 0, 1, 0), (1, .getfield 18, 3, 382), (4, .bipush 8, 2, 0), (6, .bipush 8, 2, 0), (8, .invokevirtual 186, 3, 752), (11, .lstore_n 1, 1, 0), (12, .aload_n 0, 1, 0), (13, .getfield 18, 3, 382), (16, .bipush 16, 2, 0), (18, .iconst 4, 1, 0), (19, .invokevirtual 186, 3, 752), (22, .l2i, 1, 0), (23, .istore_n 3, 1, 0), (24, .aload_n 0, 1, 0), (25, .getfield 82, 3, 395), (28, .ifnull 23, 3, 0), (31, .aload_n 0, 1, 0), (32, .getfield 82, 3, 395), (35, .lload_n 1, 1, 0), (36, .iload_n 3, 1, 0), (37, .invokevirtual 319, 3, 904), (40, .ifCond .eq 7, 3, 0), (43, .iconst 0, 1, 0), (44, .goto 6, 3, 0), (47, .sipush 437, 3, 0), (50, .ireturn, 1, 0), (51, .aload_n 0, 1, 0), (52, .getfield 47, 3, 388), (55, .bipush 25, 2, 0), (57, .invokevirtual 209, 3, 864), (60, .istore 4, 2, 0), (62, .iload 4, 2, 0), (64, .iconst (-1), 1, 0), (65, .if_icmp .ne 7, 3, 0), (68, .sipush 400, 3, 0), (71, .ireturn, 1, 0), (72, .aload_n 0, 1, 0), (73, .getfield 18, 3, 382), (76, .aload_n 0, 1, 0), (77, .getfield 47, 3, 388), (80, .iload 4, 2, 0), (82, .invokevirtual 222, 3, 890), (85, .invokevirtual 323, 3, 908), (88, .bipush 17, 2, 0), (90, .if_icmp .eq 7, 3, 0), (93, .sipush 442, 3, 0), (96, .ireturn, 1, 0), (97, .aload_n 0, 1, 0), (98, .getfield 30, 3, 385), (101, .aload_n 0, 1, 0), (102, .getfield 231, 3, 396), (105, .invokevirtual 326, 3, 909), (108, .aload_n 0, 1, 0), (109, .getfield 22, 3, 383), (112, .invokevirtual 327, 3, 913), (115, .if_icmp .lt 7, 3, 0), (118, .sipush 486, 3, 0), (121, .ireturn, 1, 0), (122, .aload_n 0, 1, 0), (123, .getfield 30, 3, 385), (126, .invokevirtual 330, 3, 914), (129, .astore 5, 2, 0), (131, .aload 5, 2, 0), (133, .ifnonnull 7, 3, 0), (136, .sipush 508, 3, 0), (139, .ireturn, 1, 0), (140, .aload 5, 2, 0), (142, .aload_n 0, 1, 0), (143, .getfield 69, 3, 393), (146, .aload_n 0, 1, 0), (147, .getfield 73, 3, 394), (150, .aload_n 0, 1, 0), (151, .getfield 231, 3, 396), (154, .aload_n 0, 1, 0), (155, .getfield 30, 3, 385), (158, .invokevirtual 334, 3, 918), (161, .invokevirtual 337, 3, 927), (164, .aload 5, 2, 0), (166, .lload_n 1, 1, 0), (167, .iload_n 3, 1, 0), (168, .invokevirtual 340, 3, 931), (171, .aload 5, 2, 0), (173, .aload_n 0, 1, 0), (174, .getfield 30, 3, 385), (177, .invokevirtual 343, 3, 935), (180, .aload_n 0, 1, 0), (181, .invokevirtual 346, 3, 939), (184, .ladd, 1, 0), (185, .putfield 349, 3, 249), (188, .aload_n 0, 1, 0), (189, .aload 5, 2, 0), (191, .putfield 82, 3, 395), (194, .iconst 0, 1, 0), (195, .ireturn, 1, 0)]
noncomputable def am_r113 : List (Nat × Instr × Nat × Nat) := [(0, .aload_n 0, 1, 0), (1, .getfield 47, 3, 388), (4, .bipush 13, 2, 0), (6, .invokevirtual 209, 3, 864), (9, .istore_n 1, 1, 0), (10, .iload_n 1, 1, 0), (11, .iconst (-1), 1, 0), (12, .if_icmp .ne 9, 3, 0), (15, .ldc2_w 353, 3, 943), (18, .goto 19, 3, 0), (21, .aload_n 0, 1, 0), (22, .getfield 18, 3, 382), (25, .aload_n 0, 1, 0), (26, .getfield 47, 3, 388), (29, .iload_n 1, 1, 0), (30, .invokevirtual 222, 3, 890), (33, .iconst 4, 1, 0), (34, .invokevirtual 186, 3, 752), (37, .lstore_n 2, 1, 0), (38, .ldc2_w 353, 3, 943), (41, .ldc2_w 355, 3, 944), (44, .lload_n 2, 1, 0), (45, .invokestatic 357, 3, 945), (48, .invokestatic 363, 3, 948), (51, .lreturn, 1, 0)]
noncomputable def am_r114 : List (Nat × Instr × Nat × Nat) := [(0, .aload_n 0, 1, 0), (1, .getfield 47, 3, 388), (4, .bipush 13, 2, 0), (6, .invokevirtual 209, 3, 864), (9, .istore_n 2, 1, 0), (10, .iload_n 2, 1, 0), (11, .iconst (-1), 1, 0), (12, .if_icmp .eq 35, 3, 0), (15, .aload_n 0, 1, 0), (16, .getfield 47, 3, 388), (19, .iload_n 2, 1, 0), (20, .invokevirtual 261, 3, 868), (23, .lconst 0, 1, 0), (24, .lcmp, 1, 0), (25, .ifCond .ne 22, 3, 0), (28, .aload_n 1, 1, 0), (29, .aload_n 0, 1, 0), (30, .getfield 30, 3, 385), (33, .invokevirtual 343, 3, 935), (36, .putfield 349, 3, 249), (39, .aload_n 1, 1, 0), (40, .iconst 0, 1, 0), (41, .putfield 366, 3, 235), (44, .goto 19, 3, 0), (47, .aload_n 1, 1, 0), (48, .aload_n 0, 1, 0), (49, .getfield 30, 3, 385), (52, .invokevirtual 343, 3, 935), (55, .aload_n 0, 1, 0), (56, .invokevirtual 346, 3, 939), (59, .ladd, 1, 0), (60, .putfield 349, 3, 249), (63, .iconst 0, 1, 0), (64, .ireturn, 1, 0)]
noncomputable def am_r115 : List (Nat × Instr × Nat × Nat) := [(0, .aload_n 0, 1, 0), (1, .getfield 47, 3, 388), (4, .aload_n 0, 1, 0), (5, .getfield 15, 3, 391), (8, .invokevirtual 370, 3, 959), (11, .istore_n 2, 1, 0), (12, .iload_n 2, 1, 0), (13, .ifCond .ne 7, 3, 0), (16, .sipush 400, 3, 0), (19, .ireturn, 1, 0), (20, .iconst 0, 1, 0), (21, .istore_n 3, 1, 0), (22, .iload_n 3, 1, 0), (23, .iload_n 2, 1, 0), (24, .if_icmp .ge 35, 3, 0), (27, .iload_n 3, 1, 0), (28, .bipush 31, 2, 0), (30, .if_icmp .ge 29, 3, 0), (33, .aload_n 0, 1, 0), (34, .getfield 26, 3, 384), (37, .aload_n 0, 1, 0), (38, .getfield 15, 3, 391), (41, .iload_n 3, 1, 0), (42, .iaload, 1, 0), (43, .invokevirtual 373, 3, 964), (46, .ifCond .eq 7, 3, 0), (49, .sipush 403, 3, 0), (52, .ireturn, 1, 0), (53, .iinc 3 1, 3, 0), (56, .goto (-34), 3, 0), (59, .aload_n 1, 1, 0), (60, .aload_n 0, 1, 0), (61, .getfield 15, 3, 391), (64, .iload_n 2, 1, 0), (65, .invokevirtual 378, 3, 968), (68, .ifCond .ne 7, 3, 0), (71, .sipush 508, 3, 0), (74, .ireturn, 1, 0), (75, .iconst 0, 1, 0), (76, .istore_n 3, 1, 0), (77, .iload_n 3, 1, 0), (78, .iload_n 2, 1, 0), (79, .if_icmp .ge 36, 3, 0), (82, .iload_n 3, 1, 0), (83, .bipush 31, 2, 0), (85, .if_icmp .ge 30, 3, 0), (88, .aload_n 1, 1, 0), (89, .aload_n 0, 1, 0), (90, .getfield 15, 3, 391), (93, .iload_n 3, 1, 0), (94, .iaload, 1, 0), (95, .aload_n 0, 1, 0), (96, .getfield 30, 3, 385), (99, .invokevirtual 343, 3, 935), (102, .ldc2_w 382, 3, 972), (105, .ladd, 1, 0), (106, .invokevirtual 384, 3, 973), (109, .iinc 3 1, 3, 0), (112, .goto (-35), 3, 0), (115, .iconst 0, 1, 0), (116, .ireturn, 1, 0)]
noncomputable def am_r116 : List (Nat × Instr × Nat × Nat) := [(0, .aload_n 0, 1, 0), (1, .getfield 47, 3, 388), (4, .bipush 12, 2, 0), (6, .invokevirtual 209, 3, 864), (9, .istore_n 2, 1, 0), (10, .aload_n 0, 1, 0), (11, .getfield 47, 3, 388), (14, .bipush 18, 2, 0), (16, .invokevirtual 209, 3, 864), (19, .istore_n 3, 1, 0), (20, .iload_n 2, 1, 0), (21, .iconst (-1), 1, 0), (22, .if_icmp .eq 8, 3, 0), (25, .iload_n 3, 1, 0), (26, .iconst (-1), 1, 0), (27, .if_icmp .ne 7, 3, 0), (30, .sipush 400, 3, 0), (33, .ireturn, 1, 0), (34, .aload_n 0, 1, 0), (35, .getfield 47, 3, 388), (38, .iload_n 2, 1, 0), (39, .invokevirtual 261, 3, 868), (42, .bipush 16, 2, 0), (44, .lushr, 1, 0), (45, .l2i, 1, 0), (46, .istore 4, 2, 0), (48, .aload_n 0, 1, 0), (49, .getfield 47, 3, 388), (52, .iload_n 3, 1, 0), (53, .invokevirtual 216, 3, 981), (56, .istore 5, 2, 0), (58, .aload_n 0, 1, 0), (59, .getfield 47, 3, 388), (62, .iload_n 3, 1, 0), (63, .invokevirtual 219, 3, 985), (66, .istore 6, 2, 0), (68, .iload 4, 2, 0), (70, .i2l, 1, 0), (71, .invokestatic 190, 3, 753), (74, .ifCond .eq 20, 3, 0), (77, .aload_n 1, 1, 0), (78, .iload 4, 2, 0), (80, .invokevirtual 196, 3, 763), (83, .aload_n 1, 1, 0), (84, .iload 5, 2, 0), (86, .iload 6, 2, 0), (88, .invokevirtual 140, 3, 989), (91, .if_icmp .eq 7, 3, 0), (94, .sipush 400, 3, 0), (97, .ireturn, 1, 0), (98, .aload_n 0, 1, 0), (99, .getfield 26, 3, 384), (102, .iload 5, 2, 0), (104, .invokevirtual 373, 3, 964), (107, .ifCond .eq 7, 3, 0), (110, .sipush 403, 3, 0), (113, .ireturn, 1, 0), (114, .aload_n 1, 1, 0), (115, .iload 4, 2, 0), (117, .iload 5, 2, 0), (119, .invokevirtual 388, 3, 993), (122, .ifCond .ne 7, 3, 0), (125, .sipush 508, 3, 0), (128, .ireturn, 1, 0), (129, .aload_n 1, 1, 0), (130, .iload 4, 2, 0), (132, .iload 5, 2, 0), (134, .iload 6, 2, 0), (136, .aload_n 0, 1, 0), (137, .getfield 30, 3, 385), (140, .invokevirtual 343, 3, 935), (143, .ldc2_w 353, 3, 943), (146, .ladd, 1, 0), (147, .invokevirtual 392, 3, 998), (150, .aload_n 1, 1, 0), (151, .iload 5, 2, 0), (153, .aload_n 0, 1, 0), (154, .getfield 30, 3, 385), (157, .invokevirtual 343, 3, 935), (160, .ldc2_w 382, 3, 972), (163, .ladd, 1, 0), (164, .invokevirtual 384, 3, 973), (167, .iconst 0, 1, 0), (168, .ireturn, 1, 0)]
noncomputable def am_r117 : List (Nat × Instr × Nat × Nat) := [(0, .iload_n 1, 1, 0), (1, .iconst 3, 1, 0), (2, .if_icmp .ne 29, 3, 0), (5, .aload_n 0, 1, 0), (6, .getfield 82, 3, 395), (9, .ifnull 22, 3, 0), (12, .aload_n 0, 1, 0), (13, .getfield 62, 3, 389), (16, .bipush 22, 2, 0), (18, .ldc_w 396, 3, 1010), (21, .aload_n 0, 1, 0), (22, .getfield 82, 3, 395), (25, .getfield 228, 3, 247), (28, .invokevirtual 176, 3, 1011), (31, .iload_n 1, 1, 0), (32, .iconst 3, 1, 0), (33, .if_icmp .eq 8, 3, 0), (36, .iload_n 1, 1, 0), (37, .iconst 4, 1, 0), (38, .if_icmp .ne 35, 3, 0), (41, .aload_n 0, 1, 0), (42, .getfield 82, 3, 395), (45, .ifnull 28, 3, 0), (48, .aload_n 0, 1, 0), (49, .getfield 62, 3, 389), (52, .bipush 13, 2, 0), (54, .aload_n 0, 1, 0), (55, .getfield 82, 3, 395), (58, .aload_n 0, 1, 0), (59, .getfield 30, 3, 385), (62, .invokevirtual 343, 3, 935), (65, .invokevirtual 397, 3, 1012), (68, .i2l, 1, 0), (69, .iconst 4, 1, 0), (70, .invokevirtual 400, 3, 1016), (73, .iload_n 1, 1, 0), (74, .iconst 3, 1, 0), (75, .if_icmp .eq 8, 3, 0), (78, .iload_n 1, 1, 0), (79, .iconst 1, 1, 0), (80, .if_icmp .ne 20, 3, 0), (83, .aload_n 0, 1, 0), (84, .getfield 62, 3, 389), (87, .bipush 32, 2, 0), (89, .aload_n 0, 1, 0), (90, .getfield 69, 3, 393), (93, .aload_n 0, 1, 0), (94, .getfield 73, 3, 394), (97, .invokevirtual 176, 3, 1011), (100, .return_, 1, 0)]
noncomputable def am_r118 : List (Nat × Instr × Nat × Nat) := [(0, .aload_n 0, 1, 0), (1, .getfield 34, 3, 386), (4, .bipush 8, 2, 0), (6, .invokevirtual 137, 3, 795), (9, .aload_n 0, 1, 0), (10, .getfield 62, 3, 389), (13, .bipush 9, 2, 0), (15, .iload_n 1, 1, 0), (16, .bipush 100, 2, 0), (18, .idiv, 1, 0), (19, .bipush 8, 2, 0), (21, .ishl, 1, 0), (22, .iload_n 1, 1, 0), (23, .bipush 100, 2, 0), (25, .irem, 1, 0), (26, .ior, 1, 0), (27, .i2l, 1, 0), (28, .iconst 4, 1, 0), (29, .invokevirtual 400, 3, 1016), (32, .iload_n 1, 1, 0), (33, .sipush 401, 3, 0), (36, .if_icmp .eq 10, 3, 0), (39, .iload_n 1, 1, 0), (40, .sipush 438, 3, 0), (43, .if_icmp .ne 47, 3, 0), (46, .aload_n 0, 1, 0), (47, .getfield 62, 3, 389), (50, .bipush 20, 2, 0), (52, .aload_n 0, 1, 0), (53, .getfield 22, 3, 383), (56, .invokevirtual 281, 3, 884), (59, .aload_n 0, 1, 0), (60, .getfield 22, 3, 383), (63, .invokevirtual 281, 3, 884), (66, .invokestatic 301, 3, 883), (69, .invokevirtual 400, 3, 1016), (72, .aload_n 0, 1, 0), (73, .getfield 62, 3, 389), (76, .bipush 21, 2, 0), (78, .aload_n 0, 1, 0), (79, .getfield 22, 3, 383), (82, .invokevirtual 265, 3, 869), (85, .bipush 8, 2, 0), (87, .invokevirtual 400, 3, 1016), (90, .iload_n 1, 1, 0), (91, .sipush 420, 3, 0), (94, .if_icmp .ne 18, 3, 0), (97, .aload_n 0, 1, 0), (98, .getfield 62, 3, 389), (101, .aload_n 0, 1, 0), (102, .getfield 9, 3, 390), (105, .aload_n 0, 1, 0), (106, .getfield 234, 3, 392), (109, .invokevirtual 404, 3, 1021), (112, .return_, 1, 0)]
noncomputable def am_r119 : List (Nat × Instr × Nat × Nat) := [(0, .aload_n 0, 1, 0), (1, .invokespecial 1, 3, 140), (4, .aload_n 0, 1, 0), (5, .bipush 8, 2, 0), (7, .newarray .int, 2, 0), (9, .putfield 7, 3, 141), (12, .aload_n 0, 1, 0), (13, .bipush 64, 2, 0), (15, .newarray .int, 2, 0), (17, .putfield 13, 3, 142), (20, .return_, 1, 0)]
noncomputable def am_r120 : List (Nat × Instr × Nat × Nat) := [(0, .ldc2_w 16, 3, 582), (3, .aload_n 1, 1, 0), (4, .invokevirtual 18, 3, 583), (7, .i2l, 1, 0), (8, .lmul, 1, 0), (9, .lstore_n 3, 1, 0), (10, .aload_n 1, 1, 0), (11, .ldc2_w 24, 3, 584), (14, .iconst 1, 1, 0), (15, .invokevirtual 26, 3, 585), (18, .aload_n 1, 1, 0), (19, .bipush 56, 2, 0), (21, .aload_n 1, 1, 0), (22, .invokevirtual 18, 3, 583), (25, .isub, 1, 0), (26, .bipush 63, 2, 0), (28, .iand, 1, 0), (29, .invokevirtual 30, 3, 586), (32, .aload_n 1, 1, 0), (33, .lload_n 3, 1, 0), (34, .bipush 8, 2, 0), (36, .invokevirtual 26, 3, 585), (39, .getstatic 34, 3, 587), (42, .iconst 0, 1, 0), (43, .aload_n 0, 1, 0), (44, .getfield 7, 3, 141), (47, .iconst 0, 1, 0), (48, .bipush 8, 2, 0), (50, .invokestatic 37, 3, 589), (53, .iconst 0, 1, 0), (54, .istore 5, 2, 0), (56, .iload 5, 2, 0), (58, .aload_n 1, 1, 0), (59, .invokevirtual 18, 3, 583), (62, .if_icmp .ge 53, 3, 0), (65, .iconst 0, 1, 0), (66, .istore 6, 2, 0), (68, .iload 6, 2, 0), (70, .bipush 16, 2, 0), (72, .if_icmp .ge 29, 3, 0), (75, .aload_n 0, 1, 0), (76, .getfield 13, 3, 142), (79, .iload 6, 2, 0), (81, .aload_n 1, 1, 0), (82, .iload 5, 2, 0), (84, .iconst 4, 1, 0), (85, .iload 6, 2, 0), (87, .imul, 1, 0), (88, .iadd, 1, 0), (89, .iconst 4, 1, 0), (90, .invokevirtual 43, 3, 592), (93, .l2i, 1, 0), (94, .iastore, 1, 0), (95, .iinc 6 1, 3, 0), (98, .goto (-30), 3, 0), (101, .aload_n 0, 1, 0), (102, .invokevirtual 47, 3, 596), (105, .aload_n 0, 1, 0), (106, .invokevirtual 50, 3, 600), (109, .iinc 5 64, 3, 0), (112, .goto (-56), 3, 0), (115, .aload_n 2, 1, 0), (116, .iconst 0, 1, 0), (117, .invokevirtual 53, 3, 606), (120, .iconst 0, 1, 0), (121, .istore 5, 2, 0), (123, .iload 5, 2, 0), (125, .bipush 8, 2, 0), (127, .if_icmp .ge 22, 3, 0), (130, .aload_n 2, 1, 0), (131, .aload_n 0, 1, 0), (132, .getfield 7, 3, 141), (135, .iload 5, 2, 0), (137, .iaload, 1, 0), (138, .i2l, 1, 0), (139, .iconst 4, 1, 0), (140, .invokevirtual 26, 3, 585), (143, .iinc 5 1, 3, 0), (146, .goto (-23), 3, 0), (149, .return_, 1, 0)]
noncomputable def am_r121 : List (Nat × Instr × Nat × Nat) := [(0, .bipush 16, 2, 0), (2, .istore_n 1, 1, 0), (3, .iload_n 1, 1, 0), (4, .bipush 64, 2, 0), (6, .if_icmp .ge 110, 3, 0), (9, .aload_n 0, 1, 0), (10, .getfield 13, 3, 142), (13, .iload_n 1, 1, 0), (14, .bipush 15, 2, 0), (16, .isub, 1, 0), (17, .iaload, 1, 0), (18, .istore_n 2, 1, 0), (19, .aload_n 0, 1, 0), (20, .getfield 13, 3, 142), (23, .iload_n 1, 1, 0), (24, .iconst 2, 1, 0), (25, .isub, 1, 0), (26, .iaload, 1, 0), (27, .istore_n 3, 1, 0), (28, .iload_n 2, 1, 0), (29, .bipush 7, 2, 0), (31, .iushr, 1, 0), (32, .iload_n 2, 1, 0), (33, .bipush 25, 2, 0), (35, .ishl, 1, 0), (36, .ior, 1, 0), (37, .iload_n 2, 1, 0), (38, .bipush 18, 2, 0), (40, .iushr, 1, 0), (41, .iload_n 2, 1, 0), (42, .bipush 14, 2, 0), (44, .ishl, 1, 0), (45, .ior, 1, 0), (46, .ixor, 1, 0), (47, .iload_n 2, 1, 0), (48, .iconst 3, 1, 0), (49, .iushr, 1, 0), (50, .ixor, 1, 0), (51, .istore 4, 2, 0), (53, .iload_n 3, 1, 0), (54, .bipush 17, 2, 0), (56, .iushr, 1, 0), (57, .iload_n 3, 1, 0), (58, .bipush 15, 2, 0), (60, .ishl, 1, 0), (61, .ior, 1, 0), (62, .iload_n 3, 1, 0), (63, .bipush 19, 2, 0), (65, .iushr, 1, 0), (66, .iload_n 3, 1, 0), (67, .bipush 13, 2, 0), (69, .ishl, 1, 0), (70, .ior, 1, 0), (71, .ixor, 1, 0), (72, .iload_n 3, 1, 0), (73, .bipush 10, 2, 0), (75, .iushr, 1, 0), (76, .ixor, 1, 0), (77, .istore 5, 2, 0), (79, .aload_n 0, 1, 0), (80, .getfield 13, 3, 142), (83, .iload_n 1, 1, 0), (84, .aload_n 0, 1, 0), (85, .getfield 13, 3, 142), (88, .iload_n 1, 1, 0), (89, .bipush 16, 2, 0), (91, .isub, 1, 0), (92, .iaload, 1, 0), (93, .iload 4, 2, 0), (95, .iadd, 1, 0), (96, .aload_n 0, 1, 0), (97, .getfield 13, 3, 142), (100, .iload_n 1, 1, 0), (101, .bipush 7, 2, 0), (103, .isub, 1, 0), (104, .iaload, 1, 0), (105, .iadd, 1, 0), (106, .iload 5, 2, 0), (108, .iadd, 1, 0), (109, .iastore, 1, 0), (110, .iinc 1 1, 3, 0), (113, .goto (-110), 3, 0), (116, .return_, 1, 0)]
noncomputable def am_r122 : List (Nat × Instr × Nat × Nat) := [(0, .aload_n 0, 1, 0), (1, .getfield 7, 3, 141), (4, .iconst 0, 1, 0), (5, .iaload, 1, 0), (6, .istore_n 1, 1, 0), (7, .aload_n 0, 1, 0), (8, .getfield 7, 3, 141), (11, .iconst 1, 1, 0), (12, .iaload, 1, 0), (13, .istore_n 2, 1, 0), (14, .aload_n 0, 1, 0), (15, .getfield 7, 3, 141), (18, .iconst 2, 1, 0), (19, .iaload, 1, 0), (20, .istore_n 3, 1, 0), (21, .aload_n 0, 1, 0), (22, .getfield 7, 3, 141), (25, .iconst 3, 1, 0), (26, .iaload, 1, 0), (27, .istore 4, 2, 0), (29, .aload_n 0, 1, 0), (30, .getfield 7, 3, 141), (33, .iconst 4, 1, 0), (34, .iaload, 1, 0), (35, .istore 5, 2, 0), (37, .aload_n 0, 1, 0), (38, .getfield 7, 3, 141), (41, .iconst 5, 1, 0), (42, .iaload, 1, 0), (43, .istore 6, 2, 0), (45, .aload_n 0, 1, 0), (46, .getfield 7, 3, 141), (49, .bipush 6, 2, 0), (51, .iaload, 1, 0), (52, .istore 7, 2, 0), (54, .aload_n 0, 1, 0), (55, .getfield 7, 3, 141), (58, .bipush 7, 2, 0), (60, .iaload, 1, 0), (61, .istore 8, 2, 0), (63, .iconst 0, 1, 0), (64, .istore 9, 2, 0), (66, .iload 9, 2, 0), (68, .bipush 64, 2, 0), (70, .if_icmp .ge 160, 3, 0), (73, .iload 5, 2, 0), (75, .bipush 6, 2, 0), (77, .iushr, 1, 0), (78, .iload 5, 2, 0), (80, .bipush 26, 2, 0), (82, .ishl, 1, 0), (83, .ior, 1, 0), (84, .iload 5, 2, 0), (86, .bipush 11, 2, 0), (88, .iushr, 1, 0), (89, .iload 5, 2, 0), (91, .bipush 21, 2, 0), (93, .ishl, 1, 0), (94, .ior, 1, 0), (95, .ixor, 1, 0), (96, .iload 5, 2, 0), (98, .bipush 25, 2, 0), (100, .iushr, 1, 0), (101, .iload 5, 2, 0), (103, .bipush 7, 2, 0), (105, .ishl, 1, 0), (106, .ior, 1, 0), (107, .ixor, 1, 0), (108, .istore 10, 2, 0), (110, .iload_n 1, 1, 0), (111, .iconst 2, 1, 0), (112, .iushr, 1, 0), (113, .iload_n 1, 1, 0), (114, .bipush 30, 2, 0), (116, .ishl, 1, 0), (117, .ior, 1, 0), (118, .iload_n 1, 1, 0), (119, .bipush 13, 2, 0), (121, .iushr, 1, 0), (122, .iload_n 1, 1, 0), (123, .bipush 19, 2, 0), (125, .ishl, 1, 0), (126, .ior, 1, 0), (127, .ixor, 1, 0), (128, .iload_n 1, 1, 0), (129, .bipush 22, 2, 0), (131, .iushr, 1, 0), (132, .iload_n 1, 1, 0), (133, .bipush 10, 2, 0), (135, .ishl, 1, 0), (136, .ior, 1, 0), (137, .ixor, 1, 0), (138, .istore 11, 2, 0), (140, .iload 8, 2, 0), (142, .iload 10, 2, 0), (144, .iadd, 1, 0), (145, .iload 5, 2, 0), (147, .iload 6, 2, 0), (149, .iand, 1, 0), (150, .iload 5, 2, 0), (152, .iconst (-1), 1, 0), (153, .ixor, 1, 0), (154, .iload 7, 2, 0), (156, .iand, 1, 0), (157, .ixor, 1, 0), (158, .iadd, 1, 0), (159, .getstatic 56, 3, 604), (162, .iload 9, 2, 0), (164, .iaload, 1, 0), (165, .iadd, 1, 0), (166, .aload_n 0, 1, 0), (167, .getfield 13, 3, 142), (170, .iload 9, 2, 0), (172, .iaload, 1, 0), (173, .iadd, 1, 0), (174, .istore 12, 2, 0), (176, .iload 11, 2, 0), (178, .iload_n 1, 1, 0), (179, .iload_n 2, 1, 0), (180, .iand, 1, 0), (181, .iload_n 1, 1, 0), (182, .iload_n 3, 1, 0), (183, .iand, 1, 0), (184, .ixor, 1, 0), (185, .iload_n 2, 1, 0), (186, .iload_n 3, 1, 0), (187, .iand, 1, 0), (188, .ixor, 1, 0), (189, .iadd, 1, 0), (190, .istore 13, 2, 0), (192, .iload 7, 2, 0), (194, .istore 8, 2, 0), (196, .iload 6, 2, 0), (198, .istore 7, 2, 0), (200, .iload 5, 2, 0), (202, .istore 6, 2, 0), (204, .iload 4, 2, 0), (206, .iload 12, 2, 0), (208, .iadd, 1, 0), (209, .istore 5, 2, 0), (211, .iload_n 3, 1, 0), (212, .istore 4, 2, 0), (214, .iload_n 2, 1, 0), (215, .istore_n 3, 1, 0), (216, .iload_n 1, 1, 0), (217, .istore_n 2, 1, 0), (218, .iload 12, 2, 0), (220, .iload 13, 2, 0), (222, .iadd, 1, 0), (223, .istore_n 1, 1, 0), (224, .iinc 9 1, 3, 0), (227, .goto (-161), 3, 0), (230, .aload_n 0, 1, 0), (231, .getfield 7, 3, 141), (234, .iconst 0, 1, 0), (235, .dup2, 1, 0), (236, .iaload, 1, 0), (237, .iload_n 1, 1, 0), (238, .iadd, 1, 0), (239, .iastore, 1, 0), (240, .aload_n 0, 1, 0), (241, .getfield 7, 3, 141), (244, .iconst 1, 1, 0), (245, .dup2, 1, 0), (246, .iaload, 1, 0), (247, .iload_n 2, 1, 0), (248, .iadd, 1, 0), (249, .iastore, 1, 0), (250, .aload_n 0, 1, 0), (251, .getfield 7, 3, 141), (254, .iconst 2, 1, 0), (255, .dup2, 1, 0), (256, .iaload, 1, 0), (257, .iload_n 3, 1, 0), (258, .iadd, 1, 0), (259, .iastore, 1, 0), (260, .aload_n 0, 1, 0), (261, .getfield 7, 3, 141), (264, .iconst 3, 1, 0), (265, .dup2, 1, 0), (266, .iaload, 1, 0), (267, .iload 4, 2, 0), (269, .iadd, 1, 0), (270, .iastore, 1, 0), (271, .aload_n 0, 1, 0), (272, .getfield 7, 3, 141), (275, .iconst 4, 1, 0), (276, .dup2, 1, 0), (277, .iaload, 1, 0), (278, .iload 5, 2, 0), (280, .iadd, 1, 0), (281, .iastore, 1, 0), (282, .aload_n 0, 1, 0), (283, .getfield 7, 3, 141), (286, .iconst 5, 1, 0), (287, .dup2, 1, 0), (288, .iaload, 1, 0), (289, .iload 6, 2, 0), (291, .iadd, 1, 0), (292, .iastore, 1, 0), (293, .aload_n 0, 1, 0), (294, .getfield 7, 3, 141), (297, .bipush 6, 2, 0), (299, .dup2, 1, 0), (300, .iaload, 1, 0), (301, .iload 7, 2, 0), (303, .iadd, 1, 0), (304, .iastore, 1, 0), (305, .aload_n 0, 1, 0), (306, .getfield 7, 3, 141), (309, .bipush 7, 2, 0), (311, .dup2, 1, 0), (312, .iaload, 1, 0), (313, .iload 8, 2, 0), (315, .iadd, 1, 0), (316, .iastore, 1, 0), (317, .return_, 1, 0)]
noncomputable def am_r123 : List (Nat × Instr × Nat × Nat) := [(0, .aload_n 0, 1, 0), (1, .invokespecial 3, 3, 182), (4, .aload_n 0, 1, 0), (5, .bipush 8, 2, 0), (7, .newarray .long, 2, 0), (9, .putfield 9, 3, 184), (12, .aload_n 0, 1, 0), (13, .bipush 8, 2, 0), (15, .newarray .long, 2, 0), (17, .putfield 15, 3, 185), (20, .aload_n 0, 1, 0), (21, .ldc2_w 18, 3, 183), (24, .putfield 20, 3, 187), (27, .aload_n 0, 1, 0), (28, .iconst 2, 1, 0), (29, .putfield 24, 3, 189), (32, .return_, 1, 0)]
noncomputable def am_r124 : List (Nat × Instr × Nat × Nat) := [(0, .lconst 0, 1, 0), (1, .lstore_n 2, 1, 0), (2, .bipush 56, 2, 0), (4, .istore 4, 2, 0), (6, .iload 4, 2, 0), (8, .ifCond .lt 34, 3, 0), (11, .lload_n 0, 1, 0), (12, .iload 4, 2, 0), (14, .lushr, 1, 0), (15, .ldc2_w 28, 3, 529), (18, .land, 1, 0), (19, .lstore 5, 2, 0), (21, .lload 5, 2, 0), (23, .lconst 0, 1, 0), (24, .lcmp, 1, 0), (25, .ifCond .eq 11, 3, 0), (28, .lload_n 2, 1, 0), (29, .bipush 8, 2, 0), (31, .lshl, 1, 0), (32, .lload 5, 2, 0), (34, .lor, 1, 0), (35, .lstore_n 2, 1, 0), (36, .iinc 4 (-8), 3, 0), (39, .goto (-33), 3, 0), (42, .lload_n 2, 1, 0), (43, .lreturn, 1, 0)]
noncomputable def am_r125 : List (Nat × Instr × Nat × Nat) := [(0, .bipush 71, 2, 0), (2, .lload_n 0, 1, 0), (3, .invokestatic 30, 3, 533), (6, .isub, 1, 0), (7, .bipush 8, 2, 0), (9, .idiv, 1, 0), (10, .ireturn, 1, 0)]
noncomputable def am_r126 : List (Nat × Instr × Nat × Nat) := [(0, .bipush 56, 2, 0), (2, .istore_n 2, 1, 0), (3, .iload_n 2, 1, 0), (4, .ifCond .lt 42, 3, 0), (7, .lload_n 0, 1, 0), (8, .iload_n 2, 1, 0), (9, .lushr, 1, 0), (10, .l2i, 1, 0), (11, .sipush 255, 3, 0), (14, .iand, 1, 0), (15, .istore_n 3, 1, 0), (16, .iload_n 3, 1, 0), (17, .ifCond .eq 23, 3, 0), (20, .iload_n 3, 1, 0), (21, .bipush 33, 2, 0), (23, .if_icmp .lt 15, 3, 0), (26, .iload_n 3, 1, 0), (27, .bipush 126, 2, 0), (29, .if_icmp .gt 9, 3, 0), (32, .iload_n 3, 1, 0), (33, .bipush 58, 2, 0), (35, .if_icmp .ne 5, 3, 0), (38, .iconst 0, 1, 0), (39, .ireturn, 1, 0), (40, .iinc 2 (-8), 3, 0), (43, .goto (-40), 3, 0), (46, .lload_n 0, 1, 0), (47, .lconst 0, 1, 0), (48, .lcmp, 1, 0), (49, .ifCond .eq 7, 3, 0), (52, .iconst 1, 1, 0), (53, .goto 4, 3, 0), (56, .iconst 0, 1, 0), (57, .ireturn, 1, 0)]
noncomputable def am_r127 : List (Nat × Instr × Nat × Nat) := [(0, .aload_n 0, 1, 0), (1, .getfield 36, 3, 186), (4, .ireturn, 1, 0)]
noncomputable def am_r128 : List (Nat × Instr × Nat × Nat) := [(0, .aload_n 0, 1, 0), (1, .lload_n 1, 1, 0), (2, .invokevirtual 39, 3, 670), (5, .istore 5, 2, 0), (7, .iload 5, 2, 0), (9, .iconst (-1), 1, 0), (10, .if_icmp .eq 16, 3, 0), (13, .aload_n 0, 1, 0), (14, .getfield 15, 3, 185), (17, .iload 5, 2, 0), (19, .lload_n 3, 1, 0), (20, .lastore, 1, 0), (21, .aload_n 0, 1, 0), (22, .getfield 36, 3, 186), (25, .ireturn, 1, 0), (26, .aload_n 0, 1, 0), (27, .getfield 36, 3, 186), (30, .bipush 8, 2, 0), (32, .if_icmp .lt 5, 3, 0), (35, .iconst (-1), 1, 0), (36, .ireturn, 1, 0), (37, .aload_n 0, 1, 0), (38, .getfield 9, 3, 184), (41, .aload_n 0, 1, 0), (42, .getfield 36, 3, 186), (45, .lload_n 1, 1, 0), (46, .lastore, 1, 0), (47, .aload_n 0, 1, 0), (48, .getfield 15, 3, 185), (51, .aload_n 0, 1, 0), (52, .getfield 36, 3, 186), (55, .lload_n 3, 1, 0), (56, .lastore, 1, 0), (57, .aload_n 0, 1, 0), (58, .dup, 1, 0), (59, .getfield 36, 3, 186), (62, .iconst 1, 1, 0), (63, .iadd, 1, 0), (64, .putfield 36, 3, 186), (67, .aload_n 0, 1, 0), (68, .getfield 36, 3, 186), (71, .ireturn, 1, 0)]
noncomputable def am_r129 : List (Nat × Instr × Nat × Nat) := [(0, .iconst 0, 1, 0), (1, .istore_n 3, 1, 0), (2, .iload_n 3, 1, 0), (3, .aload_n 0, 1, 0), (4, .getfield 36, 3, 186), (7, .if_icmp .ge 28, 3, 0), (10, .iload_n 3, 1, 0), (11, .bipush 8, 2, 0), (13, .if_icmp .ge 22, 3, 0), (16, .aload_n 0, 1, 0), (17, .getfield 9, 3, 184), (20, .iload_n 3, 1, 0), (21, .laload, 1, 0), (22, .lload_n 1, 1, 0), (23, .lcmp, 1, 0), (24, .ifCond .ne 5, 3, 0), (27, .iload_n 3, 1, 0), (28, .ireturn, 1, 0), (29, .iinc 3 1, 3, 0), (32, .goto (-30), 3, 0), (35, .iconst (-1), 1, 0), (36, .ireturn, 1, 0)]
noncomputable def am_r130 : List (Nat × Instr × Nat × Nat) := [(0, .iload_n 1, 1, 0), (1, .ifCond .lt 18, 3, 0), (4, .iload_n 1, 1, 0), (5, .bipush 8, 2, 0), (7, .if_icmp .ge 12, 3, 0), (10, .aload_n 0, 1, 0), (11, .getfield 9, 3, 184), (14, .iload_n 1, 1, 0), (15, .laload, 1, 0), (16, .goto 4, 3, 0), (19, .lconst 0, 1, 0), (20, .lreturn, 1, 0)]
noncomputable def am_r131 : List (Nat × Instr × Nat × Nat) := [(0, .iload_n 1, 1, 0), (1, .ifCond .lt 18, 3, 0), (4, .iload_n 1, 1, 0), (5, .bipush 8, 2, 0), (7, .if_icmp .ge 12, 3, 0), (10, .aload_n 0, 1, 0), (11, .getfield 15, 3, 185), (14, .iload_n 1, 1, 0), (15, .laload, 1, 0), (16, .goto 4, 3, 0), (19, .lconst 0, 1, 0), (20, .lreturn, 1, 0)]
noncomputable def am_r132 : List (Nat × Instr × Nat × Nat) := [(0, .aload_n 0, 1, 0), (1, .getfield 20, 3, 187), (4, .lreturn, 1, 0)]
noncomputable def am_r133 : List (Nat × Instr × Nat × Nat) := [(0, .aload_n 0, 1, 0), (1, .lload_n 1, 1, 0), (2, .putfield 20, 3, 187), (5, .return_, 1, 0)]
noncomputable def am_r134 : List (Nat × Instr × Nat × Nat) := [(0, .aload_n 0, 1, 0), (1, .getfield 42, 3, 188), (4, .lreturn, 1, 0)]
noncomputable def am_r135 : List (Nat × Instr × Nat × Nat) := [(0, .aload_n 0, 1, 0), (1, .lload_n 1, 1, 0), (2, .putfield 42, 3, 188), (5, .return_, 1, 0)]
noncomputable def am_r136 : List (Nat × Instr × Nat × Nat) := [(0, .aload_n 0, 1, 0), (1, .getfield 24, 3, 189), (4, .ireturn, 1, 0)]
noncomputable def am_r137 : List (Nat × Instr × Nat × Nat) := [(0, .aload_n 0, 1, 0), (1, .iload_n 1, 1, 0), (2, .putfield 24, 3, 189), (5, .return_, 1, 0)]
noncomputable def am_r138 : List (Nat × Instr × Nat × Nat) := [(0, .aload_n 0, 1, 0), (1, .invokespecial 3, 3, 109), (4, .aload_n 0, 1, 0), (5, .new 9, 3, 112), (8, .dup, 1, 0), (9, .sipush 400, 3, 0), (12, .invokespecial 11, 3, 114), (15, .putfield 14, 3, 428), (18, .aload_n 0, 1, 0), (19, .new 18, 3, 129), (22, .dup, 1, 0), (23, .invokespecial 20, 3, 131), (26, .putfield 21, 3, 429), (29, .aload_n 0, 1, 0), (30, .new 25, 3, 164), (33, .dup, 1, 0), (34, .aload_n 0, 1, 0), (35, .getfield 14, 3, 428), (38, .aload_n 0, 1, 0), (39, .getfield 21, 3, 429), (42, .invokespecial 27, 3, 166), (45, .putfield 30, 3, 430), (48, .aload_n 0, 1, 0), (49, .new 34, 3, 177), (52, .dup, 1, 0), (53, .invokespecial 36, 3, 179), (56, .putfield 37, 3, 431), (59, .aload_n 0, 1, 0), (60, .new 41, 3, 204), (63, .dup, 1, 0), (64, .invokespecial 43, 3, 206), (67, .putfield 44, 3, 432), (70, .aload_n 0, 1, 0), (71, .new 48, 3, 220), (74, .dup, 1, 0), (75, .invokespecial 50, 3, 222), (78, .putfield 51, 3, 433), (81, .aload_n 0, 1, 0), (82, .new 55, 3, 300), (85, .dup, 1, 0), (86, .invokespecial 57, 3, 302), (89, .putfield 58, 3, 434), (92, .aload_n 0, 1, 0), (93, .new 62, 3, 368), (96, .dup, 1, 0), (97, .aload_n 0, 1, 0), (98, .getfield 14, 3, 428), (101, .aload_n 0, 1, 0), (102, .getfield 37, 3, 431), (105, .aload_n 0, 1, 0), (106, .getfield 44, 3, 432), (109, .aload_n 0, 1, 0), (110, .getfield 51, 3, 433), (113, .aload_n 0, 1, 0), (114, .getfield 58, 3, 434), (117, .aload_n 0, 1, 0), (118, .getfield 21, 3, 429), (121, .invokespecial 64, 3, 370), (124, .putfield 67, 3, 435), (127, .return_, 1, 0)]
noncomputable def am_r139 : List (Nat × Instr × Nat × Nat) := [(0, .aload_n 0, 1, 0), (1, .getfield 14, 3, 428), (4, .invokevirtual 71, 3, 457), (7, .bipush 20, 2, 0), (9, .iadd, 1, 0), (10, .aload_n 0, 1, 0), (11, .getfield 14, 3, 428), (14, .invokevirtual 75, 3, 461), (17, .if_icmp .le 5, 3, 0), (20, .iconst (-1), 1, 0), (21, .ireturn, 1, 0), (22, .aload_n 0, 1, 0), (23, .getfield 14, 3, 428), (26, .iload_n 1, 1, 0), (27, .i2l, 1, 0), (28, .iconst 4, 1, 0), (29, .invokevirtual 78, 3, 465), (32, .aload_n 0, 1, 0), (33, .getfield 14, 3, 428), (36, .iload_n 2, 1, 0), (37, .i2l, 1, 0), (38, .iconst 4, 1, 0), (39, .invokevirtual 78, 3, 465), (42, .aload_n 0, 1, 0), (43, .getfield 14, 3, 428), (46, .iload_n 3, 1, 0), (47, .i2l, 1, 0), (48, .iconst 4, 1, 0), (49, .invokevirtual 78, 3, 465), (52, .aload_n 0, 1, 0), (53, .getfield 14, 3, 428), (56, .iload 4, 2, 0), (58, .i2l, 1, 0), (59, .iconst 4, 1, 0), (60, .invokevirtual 78, 3, 465), (63, .aload_n 0, 1, 0), (64, .getfield 14, 3, 428), (67, .iload 5, 2, 0), (69, .i2l, 1, 0), (70, .iconst 4, 1, 0), (71, .invokevirtual 78, 3, 465), (74, .aload_n 0, 1, 0), (75, .getfield 14, 3, 428), (78, .invokevirtual 71, 3, 457), (81, .ireturn, 1, 0)]
noncomputable def am_r140 : List (Nat × Instr × Nat × Nat) := [(0, .iload_n 1, 1, 0), (1, .ifCond .lt 14, 3, 0), (4, .iload_n 1, 1, 0), (5, .aload_n 0, 1, 0), (6, .getfield 14, 3, 428), (9, .invokevirtual 71, 3, 457), (12, .if_icmp .le 5, 3, 0), (15, .iconst (-1), 1, 0), (16, .ireturn, 1, 0), (17, .aload_n 0, 1, 0), (18, .getfield 14, 3, 428), (21, .iload_n 1, 1, 0), (22, .invokevirtual 82, 3, 473), (25, .iload_n 1, 1, 0), (26, .ireturn, 1, 0)]
noncomputable def am_r141 : List (Nat × Instr × Nat × Nat) := [(0, .iload_n 1, 1, 0), (1, .ifCond .lt 10, 3, 0), (4, .iload_n 1, 1, 0), (5, .sipush 16383, 3, 0), (8, .if_icmp .le 5, 3, 0), (11, .iconst (-1), 1, 0), (12, .ireturn, 1, 0), (13, .aload_n 0, 1, 0), (14, .getfield 30, 3, 430), (17, .iload_n 1, 1, 0), (18, .iload_n 2, 1, 0), (19, .iload_n 3, 1, 0), (20, .iload 4, 2, 0), (22, .invokevirtual 85, 3, 481), (25, .aload_n 0, 1, 0), (26, .getfield 14, 3, 428), (29, .invokevirtual 71, 3, 457), (32, .ireturn, 1, 0)]
noncomputable def am_r142 : List (Nat × Instr × Nat × Nat) := [(0, .iload_n 2, 1, 0), (1, .ifCond .lt 20, 3, 0), (4, .iload_n 2, 1, 0), (5, .iconst 4, 1, 0), (6, .if_icmp .gt 15, 3, 0), (9, .aload_n 0, 1, 0), (10, .getfield 30, 3, 430), (13, .iload_n 1, 1, 0), (14, .iload_n 2, 1, 0), (15, .invokevirtual 89, 3, 492), (18, .ifCond .ne 5, 3, 0), (21, .iconst (-1), 1, 0), (22, .ireturn, 1, 0), (23, .aload_n 0, 1, 0), (24, .getfield 30, 3, 430), (27, .iload_n 1, 1, 0), (28, .iload_n 3, 1, 0), (29, .i2l, 1, 0), (30, .iload_n 2, 1, 0), (31, .invokevirtual 93, 3, 502), (34, .aload_n 0, 1, 0), (35, .getfield 14, 3, 428), (38, .invokevirtual 71, 3, 457), (41, .ireturn, 1, 0)]
noncomputable def am_r143 : List (Nat × Instr × Nat × Nat) := [(0, .lload_n 2, 1, 0), (1, .invokestatic 97, 3, 526), (4, .lstore 6, 2, 0), (6, .lload 4, 2, 0), (8, .invokestatic 97, 3, 526), (11, .lstore 8, 2, 0), (13, .aload_n 0, 1, 0), (14, .getfield 30, 3, 430), (17, .iload_n 1, 1, 0), (18, .lload 6, 2, 0), (20, .invokestatic 101, 3, 530), (23, .lload 8, 2, 0), (25, .invokestatic 101, 3, 530), (28, .iadd, 1, 0), (29, .invokevirtual 89, 3, 492), (32, .ifCond .ne 5, 3, 0), (35, .iconst (-1), 1, 0), (36, .ireturn, 1, 0), (37, .aload_n 0, 1, 0), (38, .getfield 30, 3, 430), (41, .iload_n 1, 1, 0), (42, .lload 6, 2, 0), (44, .lload 8, 2, 0), (46, .invokevirtual 105, 3, 540), (49, .aload_n 0, 1, 0), (50, .getfield 14, 3, 428), (53, .invokevirtual 71, 3, 457), (56, .ireturn, 1, 0)]
noncomputable def am_r144 : List (Nat × Instr × Nat × Nat) := [(0, .aload_n 0, 1, 0), (1, .getfield 30, 3, 430), (4, .iload_n 1, 1, 0), (5, .bipush 8, 2, 0), (7, .invokevirtual 89, 3, 492), (10, .ifCond .ne 5, 3, 0), (13, .iconst (-1), 1, 0), (14, .ireturn, 1, 0), (15, .aload_n 0, 1, 0), (16, .getfield 30, 3, 430), (19, .iload_n 1, 1, 0), (20, .lload_n 2, 1, 0), (21, .bipush 8, 2, 0), (23, .invokevirtual 93, 3, 502), (26, .aload_n 0, 1, 0), (27, .getfield 14, 3, 428), (30, .invokevirtual 71, 3, 457), (33, .ireturn, 1, 0)]
noncomputable def am_r145 : List (Nat × Instr × Nat × Nat) := [(0, .iload_n 3, 1, 0), (1, .ifCond .lt 22, 3, 0), (4, .iload_n 3, 1, 0), (5, .ldc 109, 2, 553), (7, .if_icmp .gt 16, 3, 0), (10, .aload_n 0, 1, 0), (11, .getfield 30, 3, 430), (14, .iload_n 1, 1, 0), (15, .bipush 8, 2, 0), (17, .invokevirtual 89, 3, 492), (20, .ifCond .ne 5, 3, 0), (23, .iconst (-1), 1, 0), (24, .ireturn, 1, 0), (25, .aload_n 0, 1, 0), (26, .getfield 30, 3, 430), (29, .iload_n 1, 1, 0), (30, .iload_n 2, 1, 0), (31, .iload_n 3, 1, 0), (32, .invokevirtual 110, 3, 554), (35, .aload_n 0, 1, 0), (36, .getfield 14, 3, 428), (39, .invokevirtual 71, 3, 457), (42, .ireturn, 1, 0)]
noncomputable def am_r146 : List (Nat × Instr × Nat × Nat) := [(0, .lload_n 1, 1, 0), (1, .invokestatic 114, 3, 563), (4, .ifCond .eq 24, 3, 0), (7, .lload_n 3, 1, 0), (8, .invokestatic 114, 3, 563), (11, .ifCond .eq 17, 3, 0), (14, .aload_n 0, 1, 0), (15, .getfield 30, 3, 430), (18, .bipush 28, 2, 0), (20, .bipush 32, 2, 0), (22, .invokevirtual 89, 3, 492), (25, .ifCond .ne 5, 3, 0), (28, .iconst (-1), 1, 0), (29, .ireturn, 1, 0), (30, .aload_n 0, 1, 0), (31, .getfield 21, 3, 429), (34, .lload_n 1, 1, 0), (35, .invokestatic 97, 3, 526), (38, .aload_n 0, 1, 0), (39, .getfield 37, 3, 431), (42, .invokevirtual 118, 3, 566), (45, .lload_n 3, 1, 0), (46, .invokestatic 97, 3, 526), (49, .invokevirtual 122, 3, 570), (52, .aload_n 0, 1, 0), (53, .getfield 30, 3, 430), (56, .invokevirtual 126, 3, 607), (59, .aload_n 0, 1, 0), (60, .getfield 14, 3, 428), (63, .invokevirtual 71, 3, 457), (66, .ireturn, 1, 0)]
noncomputable def am_r147 : List (Nat × Instr × Nat × Nat) := [(0, .aload_n 0, 1, 0), (1, .getfield 30, 3, 430), (4, .ldc 129, 2, 639), (6, .iconst 4, 1, 0), (7, .invokevirtual 89, 3, 492), (10, .ifCond .ne 5, 3, 0), (13, .iconst (-1), 1, 0), (14, .ireturn, 1, 0), (15, .aload_n 0, 1, 0), (16, .getfield 30, 3, 430), (19, .invokevirtual 130, 3, 640), (22, .aload_n 0, 1, 0), (23, .getfield 14, 3, 428), (26, .invokevirtual 71, 3, 457), (29, .ireturn, 1, 0)]
noncomputable def am_r148 : List (Nat × Instr × Nat × Nat) := [(0, .aload_n 0, 1, 0), (1, .getfield 14, 3, 428), (4, .iload_n 1, 1, 0), (5, .invokevirtual 133, 3, 656), (8, .ireturn, 1, 0)]
noncomputable def am_r149 : List (Nat × Instr × Nat × Nat) := [(0, .iload_n 1, 1, 0), (1, .ifCond .lt 26, 3, 0), (4, .iload_n 1, 1, 0), (5, .aload_n 0, 1, 0), (6, .getfield 14, 3, 428), (9, .invokevirtual 71, 3, 457), (12, .if_icmp .ge 15, 3, 0), (15, .iload_n 2, 1, 0), (16, .iconst 1, 1, 0), (17, .if_icmp .lt 10, 3, 0), (20, .iload_n 2, 1, 0), (21, .sipush 255, 3, 0), (24, .if_icmp .le 5, 3, 0), (27, .iconst (-1), 1, 0), (28, .ireturn, 1, 0), (29, .aload_n 0, 1, 0), (30, .getfield 14, 3, 428), (33, .iload_n 1, 1, 0), (34, .aload_n 0, 1, 0), (35, .getfield 14, 3, 428), (38, .iload_n 1, 1, 0), (39, .invokevirtual 133, 3, 656), (42, .iload_n 2, 1, 0), (43, .ixor, 1, 0), (44, .invokevirtual 137, 3, 661), (47, .aload_n 0, 1, 0), (48, .getfield 14, 3, 428), (51, .iload_n 1, 1, 0), (52, .invokevirtual 133, 3, 656), (55, .ireturn, 1, 0)]
noncomputable def am_r150 : List (Nat × Instr × Nat × Nat) := [(0, .lload_n 1, 1, 0), (1, .invokestatic 114, 3, 563), (4, .ifCond .eq 10, 3, 0), (7, .lload_n 3, 1, 0), (8, .invokestatic 114, 3, 563), (11, .ifCond .ne 5, 3, 0), (14, .iconst (-1), 1, 0), (15, .ireturn, 1, 0), (16, .aload_n 0, 1, 0), (17, .getfield 37, 3, 431), (20, .lload_n 1, 1, 0), (21, .invokestatic 97, 3, 526), (24, .lload_n 3, 1, 0), (25, .invokestatic 97, 3, 526), (28, .invokevirtual 141, 3, 666), (31, .ireturn, 1, 0)]
noncomputable def am_r151 : List (Nat × Instr × Nat × Nat) := [(0, .lload_n 1, 1, 0), (1, .invokestatic 114, 3, 563), (4, .ifCond .ne 5, 3, 0), (7, .iconst (-1), 1, 0), (8, .ireturn, 1, 0), (9, .aload_n 0, 1, 0), (10, .getfield 37, 3, 431), (13, .lload_n 1, 1, 0), (14, .invokestatic 97, 3, 526), (17, .invokevirtual 145, 3, 678), (20, .aload_n 0, 1, 0), (21, .getfield 37, 3, 431), (24, .invokevirtual 149, 3, 682), (27, .ireturn, 1, 0)]
noncomputable def am_r152 : List (Nat × Instr × Nat × Nat) := [(0, .aload_n 0, 1, 0), (1, .getfield 37, 3, 431), (4, .lload_n 1, 1, 0), (5, .invokevirtual 150, 3, 690), (8, .iconst 0, 1, 0), (9, .ireturn, 1, 0)]
noncomputable def am_r153 : List (Nat × Instr × Nat × Nat) := [(0, .iload_n 1, 1, 0), (1, .ifCond .lt 9, 3, 0), (4, .iload_n 1, 1, 0), (5, .bipush 8, 2, 0), (7, .if_icmp .le 5, 3, 0), (10, .iconst (-1), 1, 0), (11, .ireturn, 1, 0), (12, .aload_n 0, 1, 0), (13, .getfield 37, 3, 431), (16, .invokevirtual 153, 3, 698), (19, .istore_n 2, 1, 0), (20, .aload_n 0, 1, 0), (21, .getfield 37, 3, 431), (24, .iload_n 1, 1, 0), (25, .invokevirtual 156, 3, 702), (28, .iload_n 2, 1, 0), (29, .ireturn, 1, 0)]
noncomputable def am_r154 : List (Nat × Instr × Nat × Nat) := [(0, .iload_n 2, 1, 0), (1, .ifCond .lt 9, 3, 0), (4, .iload_n 2, 1, 0), (5, .bipush 32, 2, 0), (7, .if_icmp .le 5, 3, 0), (10, .iconst (-1), 1, 0), (11, .ireturn, 1, 0), (12, .aload_n 0, 1, 0), (13, .getfield 44, 3, 432), (16, .iload_n 1, 1, 0), (17, .iload_n 2, 1, 0), (18, .invokevirtual 159, 3, 710), (21, .ireturn, 1, 0)]
noncomputable def am_r155 : List (Nat × Instr × Nat × Nat) := [(0, .iload_n 1, 1, 0), (1, .ifCond .lt 10, 3, 0), (4, .iload_n 1, 1, 0), (5, .sipush 10000, 3, 0), (8, .if_icmp .le 5, 3, 0), (11, .iconst (-1), 1, 0), (12, .ireturn, 1, 0), (13, .aload_n 0, 1, 0), (14, .getfield 51, 3, 433), (17, .iload_n 1, 1, 0), (18, .invokevirtual 163, 3, 718), (21, .ireturn, 1, 0)]
noncomputable def am_r156 : List (Nat × Instr × Nat × Nat) := [(0, .iload_n 2, 1, 0), (1, .iconst 1, 1, 0), (2, .if_icmp .lt 9, 3, 0), (5, .iload_n 2, 1, 0), (6, .ldc 109, 2, 553), (8, .if_icmp .le 5, 3, 0), (11, .iconst (-1), 1, 0), (12, .ireturn, 1, 0), (13, .aload_n 0, 1, 0), (14, .getfield 67, 3, 435), (17, .iload_n 1, 1, 0), (18, .iload_n 2, 1, 0), (19, .invokevirtual 166, 3, 734), (22, .ireturn, 1, 0)]
noncomputable def am_r157 : List (Nat × Instr × Nat × Nat) := [(0, .iload_n 3, 1, 0), (1, .iconst 1, 1, 0), (2, .if_icmp .lt 9, 3, 0), (5, .iload_n 3, 1, 0), (6, .ldc 109, 2, 553), (8, .if_icmp .le 5, 3, 0), (11, .iconst (-1), 1, 0), (12, .ireturn, 1, 0), (13, .aload_n 0, 1, 0), (14, .getfield 67, 3, 435), (17, .iload_n 1, 1, 0), (18, .iload_n 2, 1, 0), (19, .iload_n 3, 1, 0), (20, .invokevirtual 169, 3, 1045), (23, .ireturn, 1, 0)]
noncomputable def am_r158 : List (Nat × Instr × Nat × Nat) := [(0, .aload_n 0, 1, 0), (1, .getfield 58, 3, 434), (4, .iload_n 1, 1, 0), (5, .invokevirtual 173, 3, 1076), (8, .ireturn, 1, 0)]
noncomputable def am_r159 : List (Nat × Instr × Nat × Nat) := [(0, .aload_n 0, 1, 0), (1, .getfield 58, 3, 434), (4, .invokevirtual 176, 3, 1095), (7, .iload_n 1, 1, 0), (8, .invokevirtual 133, 3, 656), (11, .ireturn, 1, 0)]
noncomputable def am_r160 : List (Nat × Instr × Nat × Nat) := [(0, .aload_n 0, 1, 0), (1, .getfield 58, 3, 434), (4, .invokevirtual 180, 3, 1100), (7, .iload_n 1, 1, 0), (8, .iload_n 2, 1, 0), (9, .invokevirtual 184, 3, 1104), (12, .ireturn, 1, 0)]
noncomputable def am_r161 : List (Nat × Instr × Nat × Nat) := [(0, .aload_n 0, 1, 0), (1, .getfield 51, 3, 433), (4, .iload_n 1, 1, 0), (5, .invokevirtual 188, 3, 1122), (8, .astore_n 3, 1, 0), (9, .aload_n 3, 1, 0), (10, .ifnonnull 7, 3, 0), (13, .iconst (-1), 1, 0), (14, .goto 15, 3, 0), (17, .aload_n 3, 1, 0), (18, .iload_n 2, 1, 0), (19, .aload_n 0, 1, 0), (20, .getfield 51, 3, 433), (23, .invokevirtual 191, 3, 1126), (26, .invokevirtual 194, 3, 1127), (29, .ireturn, 1, 0)]
noncomputable def am_r162 : List (Nat × Instr × Nat × Nat) := [(0, .aload_n 0, 1, 0), (1, .getfield 51, 3, 433), (4, .iload_n 1, 1, 0), (5, .invokevirtual 188, 3, 1122), (8, .astore_n 3, 1, 0), (9, .aload_n 3, 1, 0), (10, .ifnonnull 7, 3, 0), (13, .iconst 0, 1, 0), (14, .goto 15, 3, 0), (17, .aload_n 3, 1, 0), (18, .iload_n 2, 1, 0), (19, .aload_n 0, 1, 0), (20, .getfield 51, 3, 433), (23, .invokevirtual 191, 3, 1126), (26, .invokevirtual 199, 3, 1136), (29, .ireturn, 1, 0)]
noncomputable def am_r163 : List (Nat × Instr × Nat × Nat) := [(0, .aload_n 0, 1, 0), (1, .getfield 51, 3, 433), (4, .iload_n 1, 1, 0), (5, .invokevirtual 188, 3, 1122), (8, .astore_n 3, 1, 0), (9, .aload_n 3, 1, 0), (10, .ifnonnull 7, 3, 0), (13, .iconst 0, 1, 0), (14, .goto 15, 3, 0), (17, .aload_n 3, 1, 0), (18, .iload_n 2, 1, 0), (19, .aload_n 0, 1, 0), (20, .getfield 51, 3, 433), (23, .invokevirtual 191, 3, 1126), (26, .invokevirtual 202, 3, 1144), (29, .ireturn, 1, 0)]
noncomputable def am_r164 : List (Nat × Instr × Nat × Nat) := [(0, .iload_n 1, 1, 0), (1, .tableswitch 68 0 3 #[31, 44, 52, 60], 31, 0), (32, .aload_n 0, 1, 0), (33, .getfield 51, 3, 433), (36, .invokevirtual 191, 3, 1126), (39, .ldc2_w 205, 3, 1152), (42, .land, 1, 0), (43, .l2i, 1, 0), (44, .ireturn, 1, 0), (45, .aload_n 0, 1, 0), (46, .getfield 37, 3, 431), (49, .invokevirtual 149, 3, 682), (52, .ireturn, 1, 0), (53, .aload_n 0, 1, 0), (54, .getfield 51, 3, 433), (57, .invokevirtual 207, 3, 1153), (60, .ireturn, 1, 0), (61, .aload_n 0, 1, 0), (62, .getfield 14, 3, 428), (65, .invokevirtual 71, 3, 457), (68, .ireturn, 1, 0), (69, .aload_n 0, 1, 0), (70, .getfield 58, 3, 434), (73, .iload_n 1, 1, 0), (74, .invokevirtual 208, 3, 1154), (77, .ireturn, 1, 0)]
noncomputable def am_r165 : List (Nat × Instr × Nat × Nat) := [(0, .aload_n 0, 1, 0), (1, .invokespecial 1, 3, 1160), (4, .aload_n 0, 1, 0), (5, .bipush 64, 2, 0), (7, .newarray .int, 2, 0), (9, .putfield 7, 3, 1177), (12, .aload_n 0, 1, 0), (13, .bipush 8, 2, 0), (15, .newarray .int, 2, 0), (17, .putfield 13, 3, 1178), (20, .aload_n 0, 1, 0), (21, .bipush 8, 2, 0), (23, .newarray .int, 2, 0), (25, .putfield 16, 3, 1179), (28, .aload_n 0, 1, 0), (29, .bipush 64, 2, 0), (31, .newarray .int, 2, 0), (33, .putfield 19, 3, 1180), (36, .aload_n 0, 1, 0), (37, .bipush 64, 2, 0), (39, .newarray .int, 2, 0), (41, .putfield 22, 3, 1181), (44, .aload_n 0, 1, 0), (45, .bipush 9, 2, 0), (47, .newarray .long, 2, 0), (49, .putfield 25, 3, 1184), (52, .aload_n 0, 1, 0), (53, .bipush 9, 2, 0), (55, .newarray .long, 2, 0), (57, .putfield 29, 3, 1185), (60, .aload_n 0, 1, 0), (61, .bipush 8, 2, 0), (63, .newarray .int, 2, 0), (65, .putfield 32, 3, 1186), (68, .aload_n 0, 1, 0), (69, .bipush 32, 2, 0), (71, .newarray .int, 2, 0), (73, .putfield 35, 3, 1187), (76, .aload_n 0, 1, 0), (77, .bipush 32, 2, 0), (79, .newarray .int, 2, 0), (81, .putfield 38, 3, 1188), (84, .aload_n 0, 1, 0), (85, .bipush 32, 2, 0), (87, .newarray .int, 2, 0), (89, .putfield 41, 3, 1189), (92, .aload_n 0, 1, 0), (93, .sipush 400, 3, 0), (96, .newarray .int, 2, 0), (98, .putfield 44, 3, 1190), (101, .aload_n 0, 1, 0), (102, .sipush 500, 3, 0), (105, .newarray .int, 2, 0), (107, .putfield 47, 3, 1192), (110, .aload_n 0, 1, 0), (111, .bipush 16, 2, 0), (113, .newarray .int, 2, 0), (115, .putfield 50, 3, 1198), (118, .aload_n 0, 1, 0), (119, .bipush 8, 2, 0), (121, .newarray .long, 2, 0), (123, .putfield 53, 3, 1200), (126, .aload_n 0, 1, 0), (127, .bipush 8, 2, 0), (129, .newarray .long, 2, 0), (131, .putfield 56, 3, 1201), (134, .aload_n 0, 1, 0), (135, .bipush 8, 2, 0), (137, .newarray .int, 2, 0), (139, .putfield 59, 3, 1203), (142, .aload_n 0, 1, 0), (143, .iconst 2, 1, 0), (144, .putfield 62, 3, 1206), (147, .aload_n 0, 1, 0), (148, .iconst 4, 1, 0), (149, .newarray .int, 2, 0), (151, .putfield 66, 3, 1207), (154, .aload_n 0, 1, 0), (155, .iconst 4, 1, 0), (156, .newarray .int, 2, 0), (158, .putfield 69, 3, 1208), (161, .aload_n 0, 1, 0), (162, .bipush 8, 2, 0), (164, .newarray .boolean, 2, 0), (166, .putfield 72, 3, 1211), (169, .aload_n 0, 1, 0), (170, .bipush 8, 2, 0), (172, .newarray .int, 2, 0), (174, .putfield 76, 3, 1212), (177, .aload_n 0, 1, 0), (178, .bipush 8, 2, 0), (180, .newarray .int, 2, 0), (182, .putfield 79, 3, 1213), (185, .aload_n 0, 1, 0), (186, .bipush 8, 2, 0), (188, .newarray .int, 2, 0), (190, .putfield 82, 3, 1214), (193, .aload_n 0, 1, 0), (194, .bipush 8, 2, 0), (196, .newarray .int, 2, 0), (198, .putfield 85, 3, 1215), (201, .aload_n 0, 1, 0), (202, .bipush 8, 2, 0), (204, .newarray .long, 2, 0), (206, .putfield 88, 3, 1216), (209, .aload_n 0, 1, 0), (210, .bipush 24, 2, 0), (212, .newarray .int, 2, 0), (214, .putfield 91, 3, 1217), (217, .aload_n 0, 1, 0), (218, .bipush 8, 2, 0), (220, .newarray .int, 2, 0), (222, .putfield 94, 3, 1218), (225, .aload_n 0, 1, 0), (226, .sipush 128, 3, 0), (229, .newarray .int, 2, 0), (231, .putfield 97, 3, 1219), (234, .aload_n 0, 1, 0), (235, .sipush 128, 3, 0), (238, .newarray .long, 2, 0), (240, .putfield 100, 3, 1220), (243, .aload_n 0, 1, 0), (244, .bipush 8, 2, 0), (246, .newarray .int, 2, 0), (248, .putfield 103, 3, 1221), (251, .aload_n 0, 1, 0), (252, .bipush 64, 2, 0), (254, .newarray .int, 2, 0), (256, .putfield 106, 3, 1222), (259, .aload_n 0, 1, 0), (260, .bipush 64, 2, 0), (262, .newarray .int, 2, 0), (264, .putfield 109, 3, 1223), (267, .aload_n 0, 1, 0), (268, .bipush 64, 2, 0), (270, .newarray .int, 2, 0), (272, .putfield 112, 3, 1224), (275, .aload_n 0, 1, 0), (276, .bipush 64, 2, 0), (278, .newarray .long, 2, 0), (280, .putfield 115, 3, 1225), (283, .aload_n 0, 1, 0), (284, .bipush 100, 2, 0), (286, .newarray .int, 2, 0), (288, .putfield 118, 3, 1226), (291, .aload_n 0, 1, 0), (292, .bipush 100, 2, 0), (294, .newarray .int, 2, 0), (296, .putfield 121, 3, 1227), (299, .aload_n 0, 1, 0), (300, .bipush 100, 2, 0), (302, .newarray .int, 2, 0), (304, .putfield 124, 3, 1228), (307, .aload_n 0, 1, 0), (308, .bipush 8, 2, 0), (310, .newarray .int, 2, 0), (312, .putfield 127, 3, 1233), (315, .iconst 0, 1, 0), (316, .istore_n 1, 1, 0), (317, .iconst 2, 1, 0), (318, .istore_n 2, 1, 0), (319, .iload_n 1, 1, 0), (320, .bipush 64, 2, 0), (322, .if_icmp .ge 83, 3, 0), (325, .iconst 1, 1, 0), (326, .istore_n 3, 1, 0), (327, .iconst 2, 1, 0), (328, .istore 4, 2, 0), (330, .iload 4, 2, 0), (332, .iload 4, 2, 0), (334, .imul, 1, 0), (335, .iload_n 2, 1, 0), (336, .if_icmp .gt 26, 3, 0), (339, .iload_n 3, 1, 0), (340, .ifCond .eq 14, 3, 0), (343, .iload_n 2, 1, 0), (344, .iload 4, 2, 0), (346, .irem, 1, 0), (347, .ifCond .eq 7, 3, 0), (350, .iconst 1, 1, 0), (351, .goto 4, 3, 0), (354, .iconst 0, 1, 0), (355, .istore_n 3, 1, 0), (356, .iinc 4 1, 3, 0), (359, .goto (-29), 3, 0), (362, .iload_n 3, 1, 0), (363, .ifCond .eq 36, 3, 0), (366, .aload_n 0, 1, 0), (367, .getfield 7, 3, 1177), (370, .iload_n 1, 1, 0), (371, .aload_n 0, 1, 0), (372, .iload_n 2, 1, 0), (373, .iconst 3, 1, 0), (374, .invokevirtual 130, 3, 1161), (377, .iastore, 1, 0), (378, .iload_n 1, 1, 0), (379, .bipush 8, 2, 0), (381, .if_icmp .ge 15, 3, 0), (384, .aload_n 0, 1, 0), (385, .getfield 13, 3, 1178), (388, .iload_n 1, 1, 0), (389, .aload_n 0, 1, 0), (390, .iload_n 2, 1, 0), (391, .iconst 2, 1, 0), (392, .invokevirtual 130, 3, 1161), (395, .iastore, 1, 0), (396, .iinc 1 1, 3, 0), (399, .iinc 2 1, 3, 0), (402, .goto (-83), 3, 0), (405, .aload_n 0, 1, 0), (406, .getfield 59, 3, 1203), (409, .iconst 0, 1, 0), (410, .bipush 114, 2, 0), (412, .iastore, 1, 0), (413, .aload_n 0, 1, 0), (414, .iconst 1, 1, 0), (415, .putfield 134, 3, 1204), (418, .return_, 1, 0)]
noncomputable def am_r166 : List (Nat × Instr × Nat × Nat) := [(0, .lload_n 0, 1, 0), (1, .lload_n 2, 1, 0), (2, .lcmp, 1, 0), (3, .ifCond .lt 14, 3, 0), (6, .lload_n 0, 1, 0), (7, .lload 4, 2, 0), (9, .lcmp, 1, 0), (10, .ifCond .gt 7, 3, 0), (13, .iconst 1, 1, 0), (14, .goto 4, 3, 0), (17, .iconst 0, 1, 0), (18, .ireturn, 1, 0)]
noncomputable def am_r167 : List (Nat × Instr × Nat × Nat) := [(0, .lconst 0, 1, 0), (1, .lstore_n 3, 1, 0), (2, .ldc2_w 140, 3, 1165), (5, .lstore 5, 2, 0), (7, .lload 5, 2, 0), (9, .lload_n 3, 1, 0), (10, .lsub, 1, 0), (11, .lconst 1, 1, 0), (12, .lcmp, 1, 0), (13, .ifCond .le 91, 3, 0), (16, .lload_n 3, 1, 0), (17, .lload 5, 2, 0), (19, .ladd, 1, 0), (20, .ldc2_w 142, 3, 1166), (23, .ldiv, 1, 0), (24, .lstore 7, 2, 0), (26, .iconst 0, 1, 0), (27, .istore 9, 2, 0), (29, .iload 9, 2, 0), (31, .bipush 9, 2, 0), (33, .if_icmp .ge 26, 3, 0), (36, .aload_n 0, 1, 0), (37, .getfield 25, 3, 1184), (40, .iload 9, 2, 0), (42, .iload 9, 2, 0), (44, .ifCond .ne 7, 3, 0), (47, .lconst 1, 1, 0), (48, .goto 4, 3, 0), (51, .lconst 0, 1, 0), (52, .lastore, 1, 0), (53, .iinc 9 1, 3, 0), (56, .goto (-27), 3, 0), (59, .iconst 0, 1, 0), (60, .istore 9, 2, 0), (62, .iload 9, 2, 0), (64, .iload_n 2, 1, 0), (65, .if_icmp .ge 15, 3, 0), (68, .aload_n 0, 1, 0), (69, .lload 7, 2, 0), (71, .invokevirtual 144, 3, 1167), (74, .iinc 9 1, 3, 0), (77, .goto (-15), 3, 0), (80, .aload_n 0, 1, 0), (81, .iload_n 1, 1, 0), (82, .iconst 2, 1, 0), (83, .iload_n 2, 1, 0), (84, .imul, 1, 0), (85, .invokevirtual 148, 3, 1172), (88, .ifCond .eq 10, 3, 0), (91, .lload 7, 2, 0), (93, .lstore 5, 2, 0), (95, .goto 6, 3, 0), (98, .lload 7, 2, 0), (100, .lstore_n 3, 1, 0), (101, .goto (-94), 3, 0), (104, .lload_n 3, 1, 0), (105, .l2i, 1, 0), (106, .ireturn, 1, 0)]
noncomputable def am_r168 : List (Nat × Instr × Nat × Nat) := [(0, .iconst 0, 1, 0), (1, .istore_n 3, 1, 0), (2, .iload_n 3, 1, 0), (3, .bipush 9, 2, 0), (5, .if_icmp .ge 28, 3, 0), (8, .aload_n 0, 1, 0), (9, .getfield 29, 3, 1185), (12, .iload_n 3, 1, 0), (13, .aload_n 0, 1, 0), (14, .getfield 25, 3, 1184), (17, .iload_n 3, 1, 0), (18, .laload, 1, 0), (19, .lastore, 1, 0), (20, .aload_n 0, 1, 0), (21, .getfield 25, 3, 1184), (24, .iload_n 3, 1, 0), (25, .lconst 0, 1, 0), (26, .lastore, 1, 0), (27, .iinc 3 1, 3, 0), (30, .goto (-28), 3, 0), (33, .iconst 0, 1, 0), (34, .istore_n 3, 1, 0), (35, .iload_n 3, 1, 0), (36, .bipush 9, 2, 0), (38, .if_icmp .ge 63, 3, 0), (41, .iconst 0, 1, 0), (42, .istore 4, 2, 0), (44, .iload 4, 2, 0), (46, .iconst 3, 1, 0), (47, .if_icmp .ge 48, 3, 0), (50, .iload_n 3, 1, 0), (51, .iload 4, 2, 0), (53, .iadd, 1, 0), (54, .bipush 9, 2, 0), (56, .if_icmp .ge 33, 3, 0), (59, .aload_n 0, 1, 0), (60, .getfield 25, 3, 1184), (63, .iload_n 3, 1, 0), (64, .iload 4, 2, 0), (66, .iadd, 1, 0), (67, .dup2, 1, 0), (68, .laload, 1, 0), (69, .aload_n 0, 1, 0), (70, .getfield 29, 3, 1185), (73, .iload_n 3, 1, 0), (74, .laload, 1, 0), (75, .lload_n 1, 1, 0), (76, .bipush 16, 2, 0), (78, .iload 4, 2, 0), (80, .imul, 1, 0), (81, .lshr, 1, 0), (82, .ldc2_w 152, 3, 1171), (85, .land, 1, 0), (86, .lmul, 1, 0), (87, .ladd, 1, 0), (88, .lastore, 1, 0), (89, .iinc 4 1, 3, 0), (92, .goto (-48), 3, 0), (95, .iinc 3 1, 3, 0), (98, .goto (-63), 3, 0), (101, .iconst 0, 1, 0), (102, .istore_n 3, 1, 0), (103, .iload_n 3, 1, 0), (104, .bipush 8, 2, 0), (106, .if_icmp .ge 45, 3, 0), (109, .aload_n 0, 1, 0), (110, .getfield 25, 3, 1184), (113, .iload_n 3, 1, 0), (114, .iconst 1, 1, 0), (115, .iadd, 1, 0), (116, .dup2, 1, 0), (117, .laload, 1, 0), (118, .aload_n 0, 1, 0), (119, .getfield 25, 3, 1184), (122, .iload_n 3, 1, 0), (123, .laload, 1, 0), (124, .bipush 16, 2, 0), (126, .lshr, 1, 0), (127, .ladd, 1, 0), (128, .lastore, 1, 0), (129, .aload_n 0, 1, 0), (130, .getfield 25, 3, 1184), (133, .iload_n 3, 1, 0), (134, .aload_n 0, 1, 0), (135, .getfield 25, 3, 1184), (138, .iload_n 3, 1, 0), (139, .laload, 1, 0), (140, .ldc2_w 152, 3, 1171), (143, .land, 1, 0), (144, .lastore, 1, 0), (145, .iinc 3 1, 3, 0), (148, .goto (-45), 3, 0), (151, .return_, 1, 0)]
noncomputable def am_r169 : List (Nat × Instr × Nat × Nat) := [(0, .bipush 8, 2, 0), (2, .istore_n 3, 1, 0), (3, .iload_n 3, 1, 0), (4, .ifCond .lt 52, 3, 0), (7, .iload_n 3, 1, 0), (8, .iload_n 2, 1, 0), (9, .if_icmp .ne 8, 3, 0), (12, .iload_n 1, 1, 0), (13, .i2l, 1, 0), (14, .goto 4, 3, 0), (17, .lconst 0, 1, 0), (18, .lstore 4, 2, 0), (20, .aload_n 0, 1, 0), (21, .getfield 25, 3, 1184), (24, .iload_n 3, 1, 0), (25, .laload, 1, 0), (26, .lload 4, 2, 0), (28, .lcmp, 1, 0), (29, .ifCond .eq 21, 3, 0), (32, .aload_n 0, 1, 0), (33, .getfield 25, 3, 1184), (36, .iload_n 3, 1, 0), (37, .laload, 1, 0), (38, .lload 4, 2, 0), (40, .lcmp, 1, 0), (41, .ifCond .le 7, 3, 0), (44, .iconst 1, 1, 0), (45, .goto 4, 3, 0), (48, .iconst 0, 1, 0), (49, .ireturn, 1, 0), (50, .iinc 3 (-1), 3, 0), (53, .goto (-50), 3, 0), (56, .iconst 0, 1, 0), (57, .ireturn, 1, 0)]
noncomputable def am_r170 : List (Nat × Instr × Nat × Nat) := [(0, .iconst 0, 1, 0), (1, .istore_n 1, 1, 0), (2, .iload_n 1, 1, 0), (3, .bipush 8, 2, 0), (5, .if_icmp .ge 21, 3, 0), (8, .aload_n 0, 1, 0), (9, .getfield 16, 3, 1179), (12, .iload_n 1, 1, 0), (13, .aload_n 0, 1, 0), (14, .getfield 13, 3, 1178), (17, .iload_n 1, 1, 0), (18, .iaload, 1, 0), (19, .iastore, 1, 0), (20, .iinc 1 1, 3, 0), (23, .goto (-21), 3, 0), (26, .aload_n 0, 1, 0), (27, .iconst 0, 1, 0), (28, .putfield 154, 3, 1182), (31, .aload_n 0, 1, 0), (32, .lconst 0, 1, 0), (33, .putfield 157, 3, 1183), (36, .return_, 1, 0)]
noncomputable def am_r171 : List (Nat × Instr × Nat × Nat) := [(0, .iload_n 0, 1, 0), (1, .iload_n 1, 1, 0), (2, .iushr, 1, 0), (3, .iload_n 0, 1, 0), (4, .bipush 32, 2, 0), (6, .iload_n 1, 1, 0), (7, .isub, 1, 0), (8, .ishl, 1, 0), (9, .ior, 1, 0), (10, .ireturn, 1, 0)]
noncomputable def am_r172 : List (Nat × Instr × Nat × Nat) := [(0, .aload_n 0, 1, 0), (1, .getfield 22, 3, 1181), (4, .aload_n 0, 1, 0), (5, .getfield 154, 3, 1182), (8, .iload_n 1, 1, 0), (9, .sipush 255, 3, 0), (12, .iand, 1, 0), (13, .iastore, 1, 0), (14, .aload_n 0, 1, 0), (15, .dup, 1, 0), (16, .getfield 154, 3, 1182), (19, .iconst 1, 1, 0), (20, .iadd, 1, 0), (21, .putfield 154, 3, 1182), (24, .aload_n 0, 1, 0), (25, .dup, 1, 0), (26, .getfield 157, 3, 1183), (29, .lconst 1, 1, 0), (30, .ladd, 1, 0), (31, .putfield 157, 3, 1183), (34, .aload_n 0, 1, 0), (35, .getfield 154, 3, 1182), (38, .bipush 64, 2, 0), (40, .if_icmp .ge 4, 3, 0), (43, .return_, 1, 0), (44, .aload_n 0, 1, 0), (45, .iconst 0, 1, 0), (46, .putfield 154, 3, 1182), (49, .iconst 0, 1, 0), (50, .istore_n 2, 1, 0), (51, .iload_n 2, 1, 0), (52, .bipush 16, 2, 0), (54, .if_icmp .ge 65, 3, 0), (57, .aload_n 0, 1, 0), (58, .getfield 19, 3, 1180), (61, .iload_n 2, 1, 0), (62, .aload_n 0, 1, 0), (63, .getfield 22, 3, 1181), (66, .iconst 4, 1, 0), (67, .iload_n 2, 1, 0), (68, .imul, 1, 0), (69, .iaload, 1, 0), (70, .bipush 24, 2, 0), (72, .ishl, 1, 0), (73, .aload_n 0, 1, 0), (74, .getfield 22, 3, 1181), (77, .iconst 4, 1, 0), (78, .iload_n 2, 1, 0), (79, .imul, 1, 0), (80, .iconst 1, 1, 0), (81, .iadd, 1, 0), (82, .iaload, 1, 0), (83, .bipush 16, 2, 0), (85, .ishl, 1, 0), (86, .ior, 1, 0), (87, .aload_n 0, 1, 0), (88, .getfield 22, 3, 1181), (91, .iconst 4, 1, 0), (92, .iload_n 2, 1, 0), (93, .imul, 1, 0), (94, .iconst 2, 1, 0), (95, .iadd, 1, 0), (96, .iaload, 1, 0), (97, .bipush 8, 2, 0), (99, .ishl, 1, 0), (100, .ior, 1, 0), (101, .aload_n 0, 1, 0), (102, .getfield 22, 3, 1181), (105, .iconst 4, 1, 0), (106, .iload_n 2, 1, 0), (107, .imul, 1, 0), (108, .iconst 3, 1, 0), (109, .iadd, 1, 0), (110, .iaload, 1, 0), (111, .ior, 1, 0), (112, .iastore, 1, 0), (113, .iinc 2 1, 3, 0), (116, .goto (-65), 3, 0), (119, .bipush 16, 2, 0), (121, .istore_n 2, 1, 0), (122, .iload_n 2, 1, 0), (123, .bipush 64, 2, 0), (125, .if_icmp .ge 94, 3, 0), (128, .aload_n 0, 1, 0), (129, .getfield 19, 3, 1180), (132, .iload_n 2, 1, 0), (133, .bipush 15, 2, 0), (135, .isub, 1, 0), (136, .iaload, 1, 0), (137, .istore_n 3, 1, 0), (138, .aload_n 0, 1, 0), (139, .getfield 19, 3, 1180), (142, .iload_n 2, 1, 0), (143, .iconst 2, 1, 0), (144, .isub, 1, 0), (145, .iaload, 1, 0), (146, .istore 4, 2, 0), (148, .aload_n 0, 1, 0), (149, .getfield 19, 3, 1180), (152, .iload_n 2, 1, 0), (153, .aload_n 0, 1, 0), (154, .getfield 19, 3, 1180), (157, .iload_n 2, 1, 0), (158, .bipush 16, 2, 0), (160, .isub, 1, 0), (161, .iaload, 1, 0), (162, .iload_n 3, 1, 0), (163, .bipush 7, 2, 0), (165, .invokestatic 161, 3, 1458), (168, .iload_n 3, 1, 0), (169, .bipush 18, 2, 0), (171, .invokestatic 161, 3, 1458), (174, .ixor, 1, 0), (175, .iload_n 3, 1, 0), (176, .iconst 3, 1, 0), (177, .iushr, 1, 0), (178, .ixor, 1, 0), (179, .iadd, 1, 0), (180, .aload_n 0, 1, 0), (181, .getfield 19, 3, 1180), (184, .iload_n 2, 1, 0), (185, .bipush 7, 2, 0), (187, .isub, 1, 0), (188, .iaload, 1, 0), (189, .iadd, 1, 0), (190, .iload 4, 2, 0), (192, .bipush 17, 2, 0), (194, .invokestatic 161, 3, 1458), (197, .iload 4, 2, 0), (199, .bipush 19, 2, 0), (201, .invokestatic 161, 3, 1458), (204, .ixor, 1, 0), (205, .iload 4, 2, 0), (207, .bipush 10, 2, 0), (209, .iushr, 1, 0), (210, .ixor, 1, 0), (211, .iadd, 1, 0), (212, .iastore, 1, 0), (213, .iinc 2 1, 3, 0), (216, .goto (-94), 3, 0), (219, .aload_n 0, 1, 0), (220, .invokevirtual 164, 3, 1461), (223, .return_, 1, 0)]
noncomputable def am_r173 : List (Nat × Instr × Nat × Nat) := [(0, .iconst 0, 1, 0), (1, .istore_n 1, 1, 0), (2, .iload_n 1, 1, 0), (3, .bipush 8, 2, 0), (5, .if_icmp .ge 21, 3, 0), (8, .aload_n 0, 1, 0), (9, .getfield 32, 3, 1186), (12, .iload_n 1, 1, 0), (13, .aload_n 0, 1, 0), (14, .getfield 16, 3, 1179), (17, .iload_n 1, 1, 0), (18, .iaload, 1, 0), (19, .iastore, 1, 0), (20, .iinc 1 1, 3, 0), (23, .goto (-21), 3, 0), (26, .iconst 0, 1, 0), (27, .istore_n 1, 1, 0), (28, .iload_n 1, 1, 0), (29, .bipush 64, 2, 0), (31, .if_icmp .ge 194, 3, 0), (34, .aload_n 0, 1, 0), (35, .getfield 32, 3, 1186), (38, .iconst 4, 1, 0), (39, .iaload, 1, 0), (40, .istore_n 2, 1, 0), (41, .aload_n 0, 1, 0), (42, .getfield 32, 3, 1186), (45, .iconst 0, 1, 0), (46, .iaload, 1, 0), (47, .istore_n 3, 1, 0), (48, .aload_n 0, 1, 0), (49, .getfield 32, 3, 1186), (52, .bipush 7, 2, 0), (54, .iaload, 1, 0), (55, .iload_n 2, 1, 0), (56, .bipush 6, 2, 0), (58, .invokestatic 161, 3, 1458), (61, .iload_n 2, 1, 0), (62, .bipush 11, 2, 0), (64, .invokestatic 161, 3, 1458), (67, .ixor, 1, 0), (68, .iload_n 2, 1, 0), (69, .bipush 25, 2, 0), (71, .invokestatic 161, 3, 1458), (74, .ixor, 1, 0), (75, .iadd, 1, 0), (76, .iload_n 2, 1, 0), (77, .aload_n 0, 1, 0), (78, .getfield 32, 3, 1186), (81, .iconst 5, 1, 0), (82, .iaload, 1, 0), (83, .iand, 1, 0), (84, .iload_n 2, 1, 0), (85, .iconst (-1), 1, 0), (86, .ixor, 1, 0), (87, .aload_n 0, 1, 0), (88, .getfield 32, 3, 1186), (91, .bipush 6, 2, 0), (93, .iaload, 1, 0), (94, .iand, 1, 0), (95, .ixor, 1, 0), (96, .iadd, 1, 0), (97, .aload_n 0, 1, 0), (98, .getfield 7, 3, 1177), (101, .iload_n 1, 1, 0), (102, .iaload, 1, 0), (103, .iadd, 1, 0), (104, .aload_n 0, 1, 0), (105, .getfield 19, 3, 1180), (108, .iload_n 1, 1, 0), (109, .iaload, 1, 0), (110, .iadd, 1, 0), (111, .istore 4, 2, 0), (113, .iload_n 3, 1, 0), (114, .iconst 2, 1, 0), (115, .invokestatic 161, 3, 1458), (118, .iload_n 3, 1, 0), (119, .bipush 13, 2, 0), (121, .invokestatic 161, 3, 1458), (124, .ixor, 1, 0), (125, .iload_n 3, 1, 0), (126, .bipush 22, 2, 0), (128, .invokestatic 161, 3, 1458), (131, .ixor, 1, 0), (132, .iload_n 3, 1, 0), (133, .aload_n 0, 1, 0), (134, .getfield 32, 3, 1186), (137, .iconst 1, 1, 0), (138, .iaload, 1, 0), (139, .iand, 1, 0), (140, .iload_n 3, 1, 0), (141, .aload_n 0, 1, 0), (142, .getfield 32, 3, 1186), (145, .iconst 2, 1, 0), (146, .iaload, 1, 0), (147, .iand, 1, 0), (148, .ixor, 1, 0), (149, .aload_n 0, 1, 0), (150, .getfield 32, 3, 1186), (153, .iconst 1, 1, 0), (154, .iaload, 1, 0), (155, .aload_n 0, 1, 0), (156, .getfield 32, 3, 1186), (159, .iconst 2, 1, 0), (160, .iaload, 1, 0), (161, .iand, 1, 0), (162, .ixor, 1, 0), (163, .iadd, 1, 0), (164, .istore 5, 2, 0), (166, .bipush 7, 2, 0), (168, .istore 6, 2, 0), (170, .iload 6, 2, 0), (172, .ifCond .le 25, 3, 0), (175, .aload_n 0, 1, 0), (176, .getfield 32, 3, 1186), (179, .iload 6, 2, 0), (181, .aload_n 0, 1, 0), (182, .getfield 32, 3, 1186), (185, .iload 6, 2, 0), (187, .iconst 1, 1, 0), (188, .isub, 1, 0), (189, .iaload, 1, 0), (190, .iastore, 1, 0), (191, .iinc 6 (-1), 3, 0), (194, .goto (-24), 3, 0), (197, .aload_n 0, 1, 0), (198, .getfield 32, 3, 1186), (201, .iconst 4, 1, 0), (202, .dup2, 1, 0), (203, .iaload, 1, 0), (204, .iload 4, 2, 0), (206, .iadd, 1, 0), (207, .iastore, 1, 0), (208, .aload_n 0, 1, 0), (209, .getfield 32, 3, 1186), (212, .iconst 0, 1, 0), (213, .iload 4, 2, 0), (215, .iload 5, 2, 0), (217, .iadd, 1, 0), (218, .iastore, 1, 0), (219, .iinc 1 1, 3, 0), (222, .goto (-194), 3, 0), (225, .iconst 0, 1, 0), (226, .istore_n 1, 1, 0), (227, .iload_n 1, 1, 0), (228, .bipush 8, 2, 0), (230, .if_icmp .ge 24, 3, 0), (233, .aload_n 0, 1, 0), (234, .getfield 16, 3, 1179), (237, .iload_n 1, 1, 0), (238, .dup2, 1, 0), (239, .iaload, 1, 0), (240, .aload_n 0, 1, 0), (241, .getfield 32, 3, 1186), (244, .iload_n 1, 1, 0), (245, .iaload, 1, 0), (246, .iadd, 1, 0), (247, .iastore, 1, 0), (248, .iinc 1 1, 3, 0), (251, .goto (-24), 3, 0), (254, .return_, 1, 0)]
noncomputable def am_r174 : List (Nat × Instr × Nat × Nat) := [(0, .aload_n 0, 1, 0), (1, .getfield 157, 3, 1183), (4, .ldc2_w 167, 3, 1469), (7, .lmul, 1, 0), (8, .lstore_n 1, 1, 0), (9, .aload_n 0, 1, 0), (10, .sipush 128, 3, 0), (13, .invokevirtual 169, 3, 1454), (16, .aload_n 0, 1, 0), (17, .getfield 154, 3, 1182), (20, .bipush 56, 2, 0), (22, .if_icmp .eq 11, 3, 0), (25, .aload_n 0, 1, 0), (26, .iconst 0, 1, 0), (27, .invokevirtual 169, 3, 1454), (30, .goto (-14), 3, 0), (33, .bipush 7, 2, 0), (35, .istore_n 3, 1, 0), (36, .iload_n 3, 1, 0), (37, .ifCond .lt 20, 3, 0), (40, .aload_n 0, 1, 0), (41, .lload_n 1, 1, 0), (42, .bipush 8, 2, 0), (44, .iload_n 3, 1, 0), (45, .imul, 1, 0), (46, .lshr, 1, 0), (47, .l2i, 1, 0), (48, .invokevirtual 169, 3, 1454), (51, .iinc 3 (-1), 3, 0), (54, .goto (-18), 3, 0), (57, .iconst 0, 1, 0), (58, .istore_n 3, 1, 0), (59, .iload_n 3, 1, 0), (60, .bipush 32, 2, 0), (62, .if_icmp .ge 37, 3, 0), (65, .aload_n 0, 1, 0), (66, .getfield 35, 3, 1187), (69, .iload_n 3, 1, 0), (70, .aload_n 0, 1, 0), (71, .getfield 16, 3, 1179), (74, .iload_n 3, 1, 0), (75, .iconst 4, 1, 0), (76, .idiv, 1, 0), (77, .iaload, 1, 0), (78, .bipush 24, 2, 0), (80, .bipush 8, 2, 0), (82, .iload_n 3, 1, 0), (83, .iconst 4, 1, 0), (84, .irem, 1, 0), (85, .imul, 1, 0), (86, .isub, 1, 0), (87, .ishr, 1, 0), (88, .sipush 255, 3, 0), (91, .iand, 1, 0), (92, .iastore, 1, 0), (93, .iinc 3 1, 3, 0), (96, .goto (-37), 3, 0), (99, .return_, 1, 0)]
noncomputable def am_r175 : List (Nat × Instr × Nat × Nat) := [(0, .bipush 7, 2, 0), (2, .istore_n 3, 1, 0), (3, .iload_n 3, 1, 0), (4, .ifCond .lt 33, 3, 0), (7, .lload_n 1, 1, 0), (8, .bipush 8, 2, 0), (10, .iload_n 3, 1, 0), (11, .imul, 1, 0), (12, .lshr, 1, 0), (13, .l2i, 1, 0), (14, .sipush 255, 3, 0), (17, .iand, 1, 0), (18, .istore 4, 2, 0), (20, .iload 4, 2, 0), (22, .ifCond .eq 9, 3, 0), (25, .aload_n 0, 1, 0), (26, .iload 4, 2, 0), (28, .invokevirtual 169, 3, 1454), (31, .iinc 3 (-1), 3, 0), (34, .goto (-31), 3, 0), (37, .return_, 1, 0)]
noncomputable def am_r176 : List (Nat × Instr × Nat × Nat) := [(0, .aload_n 0, 1, 0), (1, .invokevirtual 173, 3, 1446), (4, .aload_n 0, 1, 0), (5, .lload_n 1, 1, 0), (6, .invokevirtual 176, 3, 1450), (9, .aload_n 0, 1, 0), (10, .bipush 58, 2, 0), (12, .invokevirtual 169, 3, 1454), (15, .iconst 0, 1, 0), (16, .istore 5, 2, 0), (18, .iload 5, 2, 0), (20, .aload_n 0, 1, 0), (21, .getfield 134, 3, 1204), (24, .if_icmp .ge 20, 3, 0), (27, .aload_n 0, 1, 0), (28, .aload_n 0, 1, 0), (29, .getfield 59, 3, 1203), (32, .iload 5, 2, 0), (34, .iaload, 1, 0), (35, .invokevirtual 169, 3, 1454), (38, .iinc 5 1, 3, 0), (41, .goto (-23), 3, 0), (44, .aload_n 0, 1, 0), (45, .bipush 58, 2, 0), (47, .invokevirtual 169, 3, 1454), (50, .aload_n 0, 1, 0), (51, .lload_n 3, 1, 0), (52, .invokevirtual 176, 3, 1450), (55, .aload_n 0, 1, 0), (56, .invokevirtual 179, 3, 1465), (59, .iconst 0, 1, 0), (60, .istore 5, 2, 0), (62, .iload 5, 2, 0), (64, .bipush 32, 2, 0), (66, .if_icmp .ge 23, 3, 0), (69, .aload_n 0, 1, 0), (70, .getfield 38, 3, 1188), (73, .iload 5, 2, 0), (75, .aload_n 0, 1, 0), (76, .getfield 35, 3, 1187), (79, .iload 5, 2, 0), (81, .iaload, 1, 0), (82, .iastore, 1, 0), (83, .iinc 5 1, 3, 0), (86, .goto (-24), 3, 0), (89, .return_, 1, 0)]
noncomputable def am_r177 : List (Nat × Instr × Nat × Nat) := [(0, .iload_n 2, 1, 0), (1, .bipush 36, 2, 0), (3, .iadd, 1, 0), (4, .bipush 20, 2, 0), (6, .isub, 1, 0), (7, .istore_n 3, 1, 0), (8, .aload_n 0, 1, 0), (9, .invokevirtual 173, 3, 1446), (12, .iconst 0, 1, 0), (13, .istore 4, 2, 0), (15, .iload 4, 2, 0), (17, .bipush 64, 2, 0), (19, .if_icmp .ge 34, 3, 0), (22, .aload_n 0, 1, 0), (23, .bipush 54, 2, 0), (25, .iload 4, 2, 0), (27, .bipush 32, 2, 0), (29, .if_icmp .ge 13, 3, 0), (32, .aload_n 0, 1, 0), (33, .getfield 38, 3, 1188), (36, .iload 4, 2, 0), (38, .iaload, 1, 0), (39, .goto 4, 3, 0), (42, .iconst 0, 1, 0), (43, .ixor, 1, 0), (44, .invokevirtual 169, 3, 1454), (47, .iinc 4 1, 3, 0), (50, .goto (-35), 3, 0), (53, .iconst 0, 1, 0), (54, .istore 4, 2, 0), (56, .iload 4, 2, 0), (58, .iload_n 2, 1, 0), (59, .if_icmp .ge 40, 3, 0), (62, .aload_n 0, 1, 0), (63, .iload 4, 2, 0), (65, .iconst 2, 1, 0), (66, .if_icmp .ne 10, 3, 0), (69, .iload_n 3, 1, 0), (70, .bipush 8, 2, 0), (72, .ishr, 1, 0), (73, .goto 17, 3, 0), (76, .iload 4, 2, 0), (78, .iconst 3, 1, 0), (79, .if_icmp .ne 7, 3, 0), (82, .iload_n 3, 1, 0), (83, .goto 7, 3, 0), (86, .aload_n 1, 1, 0), (87, .iload 4, 2, 0), (89, .iaload, 1, 0), (90, .invokevirtual 169, 3, 1454), (93, .iinc 4 1, 3, 0), (96, .goto (-40), 3, 0), (99, .aload_n 0, 1, 0), (100, .invokevirtual 179, 3, 1465), (103, .iconst 0, 1, 0), (104, .istore 4, 2, 0), (106, .iload 4, 2, 0), (108, .bipush 32, 2, 0), (110, .if_icmp .ge 23, 3, 0), (113, .aload_n 0, 1, 0), (114, .getfield 41, 3, 1189), (117, .iload 4, 2, 0), (119, .aload_n 0, 1, 0), (120, .getfield 35, 3, 1187), (123, .iload 4, 2, 0), (125, .iaload, 1, 0), (126, .iastore, 1, 0), (127, .iinc 4 1, 3, 0), (130, .goto (-24), 3, 0), (133, .aload_n 0, 1, 0), (134, .invokevirtual 173, 3, 1446), (137, .iconst 0, 1, 0), (138, .istore 4, 2, 0), (140, .iload 4, 2, 0), (142, .bipush 64, 2, 0), (144, .if_icmp .ge 34, 3, 0), (147, .aload_n 0, 1, 0), (148, .bipush 92, 2, 0), (150, .iload 4, 2, 0), (152, .bipush 32, 2, 0), (154, .if_icmp .ge 13, 3, 0), (157, .aload_n 0, 1, 0), (158, .getfield 38, 3, 1188), (161, .iload 4, 2, 0), (163, .iaload, 1, 0), (164, .goto 4, 3, 0), (167, .iconst 0, 1, 0), (168, .ixor, 1, 0), (169, .invokevirtual 169, 3, 1454), (172, .iinc 4 1, 3, 0), (175, .goto (-35), 3, 0), (178, .iconst 0, 1, 0), (179, .istore 4, 2, 0), (181, .iload 4, 2, 0), (183, .bipush 32, 2, 0), (185, .if_icmp .ge 20, 3, 0), (188, .aload_n 0, 1, 0), (189, .aload_n 0, 1, 0), (190, .getfield 41, 3, 1189), (193, .iload 4, 2, 0), (195, .iaload, 1, 0), (196, .invokevirtual 169, 3, 1454), (199, .iinc 4 1, 3, 0), (202, .goto (-21), 3, 0), (205, .aload_n 0, 1, 0), (206, .invokevirtual 179, 3, 1465), (209, .return_, 1, 0)]
noncomputable def am_r178 : List (Nat × Instr × Nat × Nat) := [(0, .iconst (-1), 1, 0), (1, .istore_n 2, 1, 0), (2, .iconst 0, 1, 0), (3, .istore_n 3, 1, 0), (4, .iload_n 3, 1, 0), (5, .iload_n 1, 1, 0), (6, .if_icmp .ge 51, 3, 0), (9, .iload_n 2, 1, 0), (10, .aload_n 0, 1, 0), (11, .iload_n 3, 1, 0), (12, .iaload, 1, 0), (13, .ixor, 1, 0), (14, .istore_n 2, 1, 0), (15, .iconst 0, 1, 0), (16, .istore 4, 2, 0), (18, .iload 4, 2, 0), (20, .bipush 8, 2, 0), (22, .if_icmp .ge 29, 3, 0), (25, .iload_n 2, 1, 0), (26, .iconst 1, 1, 0), (27, .iand, 1, 0), (28, .iconst 1, 1, 0), (29, .if_icmp .ne 12, 3, 0), (32, .iload_n 2, 1, 0), (33, .iconst 1, 1, 0), (34, .iushr, 1, 0), (35, .ldc 182, 2, 1482), (37, .ixor, 1, 0), (38, .goto 6, 3, 0), (41, .iload_n 2, 1, 0), (42, .iconst 1, 1, 0), (43, .iushr, 1, 0), (44, .istore_n 2, 1, 0), (45, .iinc 4 1, 3, 0), (48, .goto (-30), 3, 0), (51, .iinc 3 1, 3, 0), (54, .goto (-50), 3, 0), (57, .iload_n 2, 1, 0), (58, .iconst (-1), 1, 0), (59, .ixor, 1, 0), (60, .ldc 183, 2, 1483), (62, .ixor, 1, 0), (63, .ireturn, 1, 0)]
noncomputable def am_r179 : List (Nat × Instr × Nat × Nat) := [(0, .aload_n 0, 1, 0), (1, .iload_n 1, 1, 0), (2, .iaload, 1, 0), (3, .bipush 8, 2, 0), (5, .ishl, 1, 0), (6, .aload_n 0, 1, 0), (7, .iload_n 1, 1, 0), (8, .iconst 1, 1, 0), (9, .iadd, 1, 0), (10, .iaload, 1, 0), (11, .ior, 1, 0), (12, .ireturn, 1, 0)]
noncomputable def am_r180 : List (Nat × Instr × Nat × Nat) := [(0, .aload_n 0, 1, 0), (1, .iload_n 1, 1, 0), (2, .invokestatic 184, 3, 1546), (5, .bipush 16, 2, 0), (7, .ishl, 1, 0), (8, .aload_n 0, 1, 0), (9, .iload_n 1, 1, 0), (10, .iconst 2, 1, 0), (11, .iadd, 1, 0), (12, .invokestatic 184, 3, 1546), (15, .ior, 1, 0), (16, .ireturn, 1, 0)]
noncomputable def am_r181 : List (Nat × Instr × Nat × Nat) := [(0, .aload_n 0, 1, 0), (1, .iload_n 1, 1, 0), (2, .iload_n 2, 1, 0), (3, .bipush 8, 2, 0), (5, .ishr, 1, 0), (6, .sipush 255, 3, 0), (9, .iand, 1, 0), (10, .iastore, 1, 0), (11, .aload_n 0, 1, 0), (12, .iload_n 1, 1, 0), (13, .iconst 1, 1, 0), (14, .iadd, 1, 0), (15, .iload_n 2, 1, 0), (16, .sipush 255, 3, 0), (19, .iand, 1, 0), (20, .iastore, 1, 0), (21, .return_, 1, 0)]
noncomputable def am_r182 : List (Nat × Instr × Nat × Nat) := [(0, .aload_n 0, 1, 0), (1, .iload_n 1, 1, 0), (2, .iload_n 2, 1, 0), (3, .bipush 16, 2, 0), (5, .ishr, 1, 0), (6, .invokestatic 188, 3, 1388), (9, .aload_n 0, 1, 0), (10, .iload_n 1, 1, 0), (11, .iconst 2, 1, 0), (12, .iadd, 1, 0), (13, .iload_n 2, 1, 0), (14, .invokestatic 188, 3, 1388), (17, .return_, 1, 0)]
noncomputable def am_r183 : List (Nat × Instr × Nat × Nat) := [(0, .aload_n 0, 1, 0), (1, .iconst 0, 1, 0), (2, .putfield 137, 3, 1176), (5, .aload_n 0, 1, 0), (6, .getfield 192, 3, 1191), (9, .bipush 20, 2, 0), (11, .iadd, 1, 0), (12, .sipush 400, 3, 0), (15, .if_icmp .le 5, 3, 0), (18, .iconst (-1), 1, 0), (19, .ireturn, 1, 0), (20, .aload_n 0, 1, 0), (21, .getfield 44, 3, 1190), (24, .aload_n 0, 1, 0), (25, .getfield 192, 3, 1191), (28, .iload_n 1, 1, 0), (29, .invokestatic 195, 3, 1385), (32, .aload_n 0, 1, 0), (33, .getfield 44, 3, 1190), (36, .aload_n 0, 1, 0), (37, .getfield 192, 3, 1191), (40, .iconst 4, 1, 0), (41, .iadd, 1, 0), (42, .iload_n 2, 1, 0), (43, .invokestatic 195, 3, 1385), (46, .aload_n 0, 1, 0), (47, .getfield 44, 3, 1190), (50, .aload_n 0, 1, 0), (51, .getfield 192, 3, 1191), (54, .bipush 8, 2, 0), (56, .iadd, 1, 0), (57, .iload_n 3, 1, 0), (58, .invokestatic 195, 3, 1385), (61, .aload_n 0, 1, 0), (62, .getfield 44, 3, 1190), (65, .aload_n 0, 1, 0), (66, .getfield 192, 3, 1191), (69, .bipush 12, 2, 0), (71, .iadd, 1, 0), (72, .iload 4, 2, 0), (74, .invokestatic 195, 3, 1385), (77, .aload_n 0, 1, 0), (78, .getfield 44, 3, 1190), (81, .aload_n 0, 1, 0), (82, .getfield 192, 3, 1191), (85, .bipush 16, 2, 0), (87, .iadd, 1, 0), (88, .iload 5, 2, 0), (90, .invokestatic 195, 3, 1385), (93, .aload_n 0, 1, 0), (94, .dup, 1, 0), (95, .getfield 192, 3, 1191), (98, .bipush 20, 2, 0), (100, .iadd, 1, 0), (101, .putfield 192, 3, 1191), (104, .aload_n 0, 1, 0), (105, .getfield 192, 3, 1191), (108, .ireturn, 1, 0)]
noncomputable def am_r184 : List (Nat × Instr × Nat × Nat) := [(0, .aload_n 0, 1, 0), (1, .iconst 0, 1, 0), (2, .putfield 137, 3, 1176), (5, .iload_n 1, 1, 0), (6, .ifCond .lt 11, 3, 0), (9, .iload_n 1, 1, 0), (10, .aload_n 0, 1, 0), (11, .getfield 192, 3, 1191), (14, .if_icmp .le 5, 3, 0), (17, .iconst (-1), 1, 0), (18, .ireturn, 1, 0), (19, .aload_n 0, 1, 0), (20, .iload_n 1, 1, 0), (21, .putfield 192, 3, 1191), (24, .iload_n 1, 1, 0), (25, .ireturn, 1, 0)]
noncomputable def am_r185 : List (Nat × Instr × Nat × Nat) := [(0, .aload_n 0, 1, 0), (1, .iconst 0, 1, 0), (2, .putfield 137, 3, 1176), (5, .iload_n 1, 1, 0), (6, .i2l, 1, 0), (7, .lconst 0, 1, 0), (8, .ldc2_w 198, 3, 1399), (11, .invokestatic 200, 3, 1400), (14, .ifCond .ne 5, 3, 0), (17, .iconst (-1), 1, 0), (18, .ireturn, 1, 0), (19, .aload_n 0, 1, 0), (20, .getfield 44, 3, 1190), (23, .iconst 0, 1, 0), (24, .iload_n 1, 1, 0), (25, .invokestatic 188, 3, 1388), (28, .aload_n 0, 1, 0), (29, .getfield 44, 3, 1190), (32, .iconst 2, 1, 0), (33, .iconst 0, 1, 0), (34, .invokestatic 188, 3, 1388), (37, .aload_n 0, 1, 0), (38, .getfield 44, 3, 1190), (41, .iconst 4, 1, 0), (42, .ldc 204, 2, 1403), (44, .invokestatic 195, 3, 1385), (47, .aload_n 0, 1, 0), (48, .getfield 44, 3, 1190), (51, .bipush 8, 2, 0), (53, .iload_n 2, 1, 0), (54, .invokestatic 195, 3, 1385), (57, .aload_n 0, 1, 0), (58, .getfield 44, 3, 1190), (61, .bipush 12, 2, 0), (63, .iload_n 3, 1, 0), (64, .invokestatic 195, 3, 1385), (67, .aload_n 0, 1, 0), (68, .getfield 44, 3, 1190), (71, .bipush 16, 2, 0), (73, .iload 4, 2, 0), (75, .invokestatic 195, 3, 1385), (78, .aload_n 0, 1, 0), (79, .bipush 20, 2, 0), (81, .putfield 192, 3, 1191), (84, .bipush 20, 2, 0), (86, .ireturn, 1, 0)]
noncomputable def am_r186 : List (Nat × Instr × Nat × Nat) := [(0, .iconst 4, 1, 0), (1, .iload_n 2, 1, 0), (2, .iconst 3, 1, 0), (3, .iadd, 1, 0), (4, .iconst 4, 1, 0), (5, .idiv, 1, 0), (6, .iconst 4, 1, 0), (7, .imul, 1, 0), (8, .iadd, 1, 0), (9, .istore_n 3, 1, 0), (10, .iload_n 1, 1, 0), (11, .i2l, 1, 0), (12, .lconst 0, 1, 0), (13, .ldc2_w 152, 3, 1171), (16, .invokestatic 200, 3, 1400), (19, .ifCond .eq 33, 3, 0), (22, .aload_n 0, 1, 0), (23, .getfield 192, 3, 1191), (26, .bipush 20, 2, 0), (28, .if_icmp .lt 24, 3, 0), (31, .aload_n 0, 1, 0), (32, .getfield 192, 3, 1191), (35, .iconst 4, 1, 0), (36, .irem, 1, 0), (37, .ifCond .ne 15, 3, 0), (40, .aload_n 0, 1, 0), (41, .getfield 192, 3, 1191), (44, .iload_n 3, 1, 0), (45, .iadd, 1, 0), (46, .sipush 400, 3, 0), (49, .if_icmp .le 5, 3, 0), (52, .iconst 0, 1, 0), (53, .ireturn, 1, 0), (54, .aload_n 0, 1, 0), (55, .getfield 44, 3, 1190), (58, .aload_n 0, 1, 0), (59, .getfield 192, 3, 1191), (62, .iload_n 1, 1, 0), (63, .invokestatic 188, 3, 1388), (66, .aload_n 0, 1, 0), (67, .getfield 44, 3, 1190), (70, .aload_n 0, 1, 0), (71, .getfield 192, 3, 1191), (74, .iconst 2, 1, 0), (75, .iadd, 1, 0), (76, .iload_n 2, 1, 0), (77, .invokestatic 188, 3, 1388), (80, .iconst 4, 1, 0), (81, .istore 4, 2, 0), (83, .iload 4, 2, 0), (85, .iload_n 3, 1, 0), (86, .if_icmp .ge 22, 3, 0), (89, .aload_n 0, 1, 0), (90, .getfield 44, 3, 1190), (93, .aload_n 0, 1, 0), (94, .getfield 192, 3, 1191), (97, .iload 4, 2, 0), (99, .iadd, 1, 0), (100, .iconst 0, 1, 0), (101, .iastore, 1, 0), (102, .iinc 4 1, 3, 0), (105, .goto (-22), 3, 0), (108, .aload_n 0, 1, 0), (109, .dup, 1, 0), (110, .getfield 192, 3, 1191), (113, .iload_n 3, 1, 0), (114, .iadd, 1, 0), (115, .putfield 192, 3, 1191), (118, .aload_n 0, 1, 0), (119, .getfield 44, 3, 1190), (122, .iconst 2, 1, 0), (123, .aload_n 0, 1, 0), (124, .getfield 192, 3, 1191), (127, .bipush 20, 2, 0), (129, .isub, 1, 0), (130, .invokestatic 188, 3, 1388), (133, .iconst 1, 1, 0), (134, .ireturn, 1, 0)]
noncomputable def am_r187 : List (Nat × Instr × Nat × Nat) := [(0, .aload_n 0, 1, 0), (1, .iconst 0, 1, 0), (2, .putfield 137, 3, 1176), (5, .iload_n 2, 1, 0), (6, .i2l, 1, 0), (7, .lconst 0, 1, 0), (8, .ldc2_w 205, 3, 1408), (11, .invokestatic 200, 3, 1400), (14, .ifCond .eq 12, 3, 0), (17, .aload_n 0, 1, 0), (18, .iload_n 1, 1, 0), (19, .iload_n 2, 1, 0), (20, .invokevirtual 207, 3, 1409), (23, .ifCond .ne 5, 3, 0), (26, .iconst (-1), 1, 0), (27, .ireturn, 1, 0), (28, .aload_n 0, 1, 0), (29, .getfield 192, 3, 1191), (32, .iload_n 2, 1, 0), (33, .iconst 3, 1, 0), (34, .iadd, 1, 0), (35, .iconst 4, 1, 0), (36, .idiv, 1, 0), (37, .iconst 4, 1, 0), (38, .imul, 1, 0), (39, .isub, 1, 0), (40, .istore 4, 2, 0), (42, .iconst 0, 1, 0), (43, .istore 5, 2, 0), (45, .iload 5, 2, 0), (47, .iload_n 2, 1, 0), (48, .if_icmp .ge 34, 3, 0), (51, .aload_n 0, 1, 0), (52, .getfield 44, 3, 1190), (55, .iload 4, 2, 0), (57, .iload 5, 2, 0), (59, .iadd, 1, 0), (60, .iload_n 3, 1, 0), (61, .bipush 8, 2, 0), (63, .iload_n 2, 1, 0), (64, .iconst 1, 1, 0), (65, .isub, 1, 0), (66, .iload 5, 2, 0), (68, .isub, 1, 0), (69, .imul, 1, 0), (70, .ishr, 1, 0), (71, .sipush 255, 3, 0), (74, .iand, 1, 0), (75, .iastore, 1, 0), (76, .iinc 5 1, 3, 0), (79, .goto (-34), 3, 0), (82, .aload_n 0, 1, 0), (83, .getfield 192, 3, 1191), (86, .ireturn, 1, 0)]
noncomputable def am_r188 : List (Nat × Instr × Nat × Nat) := [(0, .bipush 7, 2, 0), (2, .istore_n 3, 1, 0), (3, .iload_n 3, 1, 0), (4, .ifCond .lt 48, 3, 0), (7, .lload_n 1, 1, 0), (8, .bipush 8, 2, 0), (10, .iload_n 3, 1, 0), (11, .imul, 1, 0), (12, .lshr, 1, 0), (13, .l2i, 1, 0), (14, .sipush 255, 3, 0), (17, .iand, 1, 0), (18, .istore 4, 2, 0), (20, .iload 4, 2, 0), (22, .ifCond .eq 24, 3, 0), (25, .aload_n 0, 1, 0), (26, .getfield 50, 3, 1198), (29, .aload_n 0, 1, 0), (30, .getfield 210, 3, 1199), (33, .iload 4, 2, 0), (35, .iastore, 1, 0), (36, .aload_n 0, 1, 0), (37, .dup, 1, 0), (38, .getfield 210, 3, 1199), (41, .iconst 1, 1, 0), (42, .iadd, 1, 0), (43, .putfield 210, 3, 1199), (46, .iinc 3 (-1), 3, 0), (49, .goto (-46), 3, 0), (52, .return_, 1, 0)]
noncomputable def am_r189 : List (Nat × Instr × Nat × Nat) := [(0, .aload_n 0, 1, 0), (1, .iconst 0, 1, 0), (2, .putfield 137, 3, 1176), (5, .aload_n 0, 1, 0), (6, .iconst 0, 1, 0), (7, .putfield 210, 3, 1199), (10, .aload_n 0, 1, 0), (11, .lload_n 2, 1, 0), (12, .invokevirtual 213, 3, 1417), (15, .aload_n 0, 1, 0), (16, .lload 4, 2, 0), (18, .invokevirtual 213, 3, 1417), (21, .aload_n 0, 1, 0), (22, .iload_n 1, 1, 0), (23, .aload_n 0, 1, 0), (24, .getfield 210, 3, 1199), (27, .invokevirtual 207, 3, 1409), (30, .ifCond .ne 5, 3, 0), (33, .iconst (-1), 1, 0), (34, .ireturn, 1, 0), (35, .aload_n 0, 1, 0), (36, .getfield 192, 3, 1191), (39, .aload_n 0, 1, 0), (40, .getfield 210, 3, 1199), (43, .iconst 3, 1, 0), (44, .iadd, 1, 0), (45, .iconst 4, 1, 0), (46, .idiv, 1, 0), (47, .iconst 4, 1, 0), (48, .imul, 1, 0), (49, .isub, 1, 0), (50, .istore 6, 2, 0), (52, .iconst 0, 1, 0), (53, .istore 7, 2, 0), (55, .iload 7, 2, 0), (57, .aload_n 0, 1, 0), (58, .getfield 210, 3, 1199), (61, .if_icmp .ge 26, 3, 0), (64, .aload_n 0, 1, 0), (65, .getfield 44, 3, 1190), (68, .iload 6, 2, 0), (70, .iload 7, 2, 0), (72, .iadd, 1, 0), (73, .aload_n 0, 1, 0), (74, .getfield 50, 3, 1198), (77, .iload 7, 2, 0), (79, .iaload, 1, 0), (80, .iastore, 1, 0), (81, .iinc 7 1, 3, 0), (84, .goto (-29), 3, 0), (87, .aload_n 0, 1, 0), (88, .getfield 192, 3, 1191), (91, .ireturn, 1, 0)]
noncomputable def am_r190 : List (Nat × Instr × Nat × Nat) := [(0, .aload_n 0, 1, 0), (1, .iconst 0, 1, 0), (2, .putfield 137, 3, 1176), (5, .aload_n 0, 1, 0), (6, .iload_n 1, 1, 0), (7, .bipush 8, 2, 0), (9, .invokevirtual 207, 3, 1409), (12, .ifCond .ne 5, 3, 0), (15, .iconst (-1), 1, 0), (16, .ireturn, 1, 0), (17, .aload_n 0, 1, 0), (18, .getfield 44, 3, 1190), (21, .aload_n 0, 1, 0), (22, .getfield 192, 3, 1191), (25, .bipush 8, 2, 0), (27, .isub, 1, 0), (28, .lload_n 2, 1, 0), (29, .bipush 32, 2, 0), (31, .lshr, 1, 0), (32, .l2i, 1, 0), (33, .invokestatic 195, 3, 1385), (36, .aload_n 0, 1, 0), (37, .getfield 44, 3, 1190), (40, .aload_n 0, 1, 0), (41, .getfield 192, 3, 1191), (44, .iconst 4, 1, 0), (45, .isub, 1, 0), (46, .lload_n 2, 1, 0), (47, .l2i, 1, 0), (48, .invokestatic 195, 3, 1385), (51, .aload_n 0, 1, 0), (52, .getfield 192, 3, 1191), (55, .ireturn, 1, 0)]
noncomputable def am_r191 : List (Nat × Instr × Nat × Nat) := [(0, .aload_n 0, 1, 0), (1, .iconst 0, 1, 0), (2, .putfield 137, 3, 1176), (5, .iload_n 3, 1, 0), (6, .i2l, 1, 0), (7, .lconst 0, 1, 0), (8, .ldc2_w 152, 3, 1171), (11, .invokestatic 200, 3, 1400), (14, .ifCond .eq 13, 3, 0), (17, .aload_n 0, 1, 0), (18, .iload_n 1, 1, 0), (19, .bipush 8, 2, 0), (21, .invokevirtual 207, 3, 1409), (24, .ifCond .ne 5, 3, 0), (27, .iconst (-1), 1, 0), (28, .ireturn, 1, 0), (29, .aload_n 0, 1, 0), (30, .getfield 44, 3, 1190), (33, .aload_n 0, 1, 0), (34, .getfield 192, 3, 1191), (37, .bipush 8, 2, 0), (39, .isub, 1, 0), (40, .iload_n 2, 1, 0), (41, .iload_n 3, 1, 0), (42, .invokestatic 216, 3, 1429), (45, .aload_n 0, 1, 0), (46, .getfield 192, 3, 1191), (49, .ireturn, 1, 0)]
noncomputable def am_r192 : List (Nat × Instr × Nat × Nat) := [(0, .aload_n 0, 1, 0), (1, .iload_n 1, 1, 0), (2, .iconst 0, 1, 0), (3, .iastore, 1, 0), (4, .aload_n 0, 1, 0), (5, .iload_n 1, 1, 0), (6, .iconst 1, 1, 0), (7, .iadd, 1, 0), (8, .iconst 1, 1, 0), (9, .iastore, 1, 0), (10, .aload_n 0, 1, 0), (11, .iload_n 1, 1, 0), (12, .iconst 2, 1, 0), (13, .iadd, 1, 0), (14, .iload_n 3, 1, 0), (15, .sipush 8466, 3, 0), (18, .ixor, 1, 0), (19, .invokestatic 188, 3, 1388), (22, .aload_n 0, 1, 0), (23, .iload_n 1, 1, 0), (24, .iconst 4, 1, 0), (25, .iadd, 1, 0), (26, .iload_n 2, 1, 0), (27, .ldc 204, 2, 1403), (29, .ixor, 1, 0), (30, .invokestatic 195, 3, 1385), (33, .return_, 1, 0)]
noncomputable def am_r193 : List (Nat × Instr × Nat × Nat) := [(0, .aload_n 0, 1, 0), (1, .iconst 0, 1, 0), (2, .putfield 210, 3, 1199), (5, .aload_n 0, 1, 0), (6, .lload_n 1, 1, 0), (7, .invokevirtual 213, 3, 1417), (10, .aload_n 0, 1, 0), (11, .getfield 210, 3, 1199), (14, .ifCond .le 7, 3, 0), (17, .iconst 1, 1, 0), (18, .goto 4, 3, 0), (21, .iconst 0, 1, 0), (22, .istore_n 3, 1, 0), (23, .iconst 0, 1, 0), (24, .istore 4, 2, 0), (26, .iload 4, 2, 0), (28, .aload_n 0, 1, 0), (29, .getfield 210, 3, 1199), (32, .if_icmp .ge 51, 3, 0), (35, .iload_n 3, 1, 0), (36, .ifCond .eq 39, 3, 0), (39, .aload_n 0, 1, 0), (40, .getfield 50, 3, 1198), (43, .iload 4, 2, 0), (45, .iaload, 1, 0), (46, .i2l, 1, 0), (47, .ldc2_w 220, 3, 1440), (50, .ldc2_w 222, 3, 1441), (53, .invokestatic 200, 3, 1400), (56, .ifCond .eq 19, 3, 0), (59, .aload_n 0, 1, 0), (60, .getfield 50, 3, 1198), (63, .iload 4, 2, 0), (65, .iaload, 1, 0), (66, .bipush 58, 2, 0), (68, .if_icmp .eq 7, 3, 0), (71, .iconst 1, 1, 0), (72, .goto 4, 3, 0), (75, .iconst 0, 1, 0), (76, .istore_n 3, 1, 0), (77, .iinc 4 1, 3, 0), (80, .goto (-54), 3, 0), (83, .iload_n 3, 1, 0), (84, .ireturn, 1, 0)]
noncomputable def am_r194 : List (Nat × Instr × Nat × Nat) := [(0, .aload_n 0, 1, 0), (1, .iconst 0, 1, 0), (2, .putfield 137, 3, 1176), (5, .aload_n 0, 1, 0), (6, .lload_n 1, 1, 0), (7, .invokevirtual 224, 3, 1436), (10, .ifCond .eq 22, 3, 0), (13, .aload_n 0, 1, 0), (14, .lload_n 3, 1, 0), (15, .invokevirtual 224, 3, 1436), (18, .ifCond .eq 14, 3, 0), (21, .aload_n 0, 1, 0), (22, .bipush 28, 2, 0), (24, .bipush 32, 2, 0), (26, .invokevirtual 207, 3, 1409), (29, .ifCond .ne 5, 3, 0), (32, .iconst (-1), 1, 0), (33, .ireturn, 1, 0), (34, .aload_n 0, 1, 0), (35, .lload_n 1, 1, 0), (36, .lload_n 3, 1, 0), (37, .invokevirtual 228, 3, 1442), (40, .aload_n 0, 1, 0), (41, .aload_n 0, 1, 0), (42, .getfield 44, 3, 1190), (45, .aload_n 0, 1, 0), (46, .getfield 192, 3, 1191), (49, .bipush 36, 2, 0), (51, .isub, 1, 0), (52, .invokevirtual 232, 3, 1470), (55, .iconst 0, 1, 0), (56, .istore 5, 2, 0), (58, .iload 5, 2, 0), (60, .bipush 32, 2, 0), (62, .if_icmp .ge 31, 3, 0), (65, .aload_n 0, 1, 0), (66, .getfield 44, 3, 1190), (69, .aload_n 0, 1, 0), (70, .getfield 192, 3, 1191), (73, .bipush 32, 2, 0), (75, .isub, 1, 0), (76, .iload 5, 2, 0), (78, .iadd, 1, 0), (79, .aload_n 0, 1, 0), (80, .getfield 35, 3, 1187), (83, .iload 5, 2, 0), (85, .iaload, 1, 0), (86, .iastore, 1, 0), (87, .iinc 5 1, 3, 0), (90, .goto (-32), 3, 0), (93, .aload_n 0, 1, 0), (94, .getfield 192, 3, 1191), (97, .ireturn, 1, 0)]
noncomputable def am_r195 : List (Nat × Instr × Nat × Nat) := [(0, .aload_n 0, 1, 0), (1, .iconst 0, 1, 0), (2, .putfield 137, 3, 1176), (5, .aload_n 0, 1, 0), (6, .ldc 236, 2, 1478), (8, .iconst 4, 1, 0), (9, .invokevirtual 207, 3, 1409), (12, .ifCond .ne 5, 3, 0), (15, .iconst (-1), 1, 0), (16, .ireturn, 1, 0), (17, .aload_n 0, 1, 0), (18, .getfield 44, 3, 1190), (21, .aload_n 0, 1, 0), (22, .getfield 192, 3, 1191), (25, .iconst 4, 1, 0), (26, .isub, 1, 0), (27, .aload_n 0, 1, 0), (28, .getfield 44, 3, 1190), (31, .aload_n 0, 1, 0), (32, .getfield 192, 3, 1191), (35, .bipush 8, 2, 0), (37, .isub, 1, 0), (38, .invokestatic 237, 3, 1479), (41, .invokestatic 195, 3, 1385), (44, .aload_n 0, 1, 0), (45, .getfield 192, 3, 1191), (48, .ireturn, 1, 0)]
noncomputable def am_r196 : List (Nat × Instr × Nat × Nat) := [(0, .aload_n 0, 1, 0), (1, .iconst 0, 1, 0), (2, .putfield 137, 3, 1176), (5, .iload_n 1, 1, 0), (6, .ifCond .lt 20, 3, 0), (9, .iload_n 1, 1, 0), (10, .aload_n 0, 1, 0), (11, .getfield 192, 3, 1191), (14, .if_icmp .ge 12, 3, 0), (17, .aload_n 0, 1, 0), (18, .getfield 44, 3, 1190), (21, .iload_n 1, 1, 0), (22, .iaload, 1, 0), (23, .goto 4, 3, 0), (26, .iconst (-1), 1, 0), (27, .ireturn, 1, 0)]
noncomputable def am_r197 : List (Nat × Instr × Nat × Nat) := [(0, .aload_n 0, 1, 0), (1, .iconst 0, 1, 0), (2, .putfield 137, 3, 1176), (5, .iload_n 1, 1, 0), (6, .ifCond .lt 23, 3, 0), (9, .iload_n 1, 1, 0), (10, .aload_n 0, 1, 0), (11, .getfield 192, 3, 1191), (14, .if_icmp .ge 15, 3, 0), (17, .iload_n 2, 1, 0), (18, .i2l, 1, 0), (19, .lconst 1, 1, 0), (20, .ldc2_w 240, 3, 1492), (23, .invokestatic 200, 3, 1400), (26, .ifCond .ne 5, 3, 0), (29, .iconst (-1), 1, 0), (30, .ireturn, 1, 0), (31, .aload_n 0, 1, 0), (32, .getfield 44, 3, 1190), (35, .iload_n 1, 1, 0), (36, .aload_n 0, 1, 0), (37, .getfield 44, 3, 1190), (40, .iload_n 1, 1, 0), (41, .iaload, 1, 0), (42, .iload_n 2, 1, 0), (43, .ixor, 1, 0), (44, .iastore, 1, 0), (45, .aload_n 0, 1, 0), (46, .getfield 44, 3, 1190), (49, .iload_n 1, 1, 0), (50, .iaload, 1, 0), (51, .ireturn, 1, 0)]
noncomputable def am_r198 : List (Nat × Instr × Nat × Nat) := [(0, .lconst 0, 1, 0), (1, .lstore_n 2, 1, 0), (2, .bipush 7, 2, 0), (4, .istore 4, 2, 0), (6, .iload 4, 2, 0), (8, .ifCond .lt 41, 3, 0), (11, .lload_n 0, 1, 0), (12, .bipush 8, 2, 0), (14, .iload 4, 2, 0), (16, .imul, 1, 0), (17, .lshr, 1, 0), (18, .ldc2_w 240, 3, 1492), (21, .land, 1, 0), (22, .lstore 5, 2, 0), (24, .lload 5, 2, 0), (26, .lconst 0, 1, 0), (27, .lcmp, 1, 0), (28, .ifCond .ne 7, 3, 0), (31, .lload_n 2, 1, 0), (32, .goto 10, 3, 0), (35, .lload_n 2, 1, 0), (36, .bipush 8, 2, 0), (38, .lshl, 1, 0), (39, .lload 5, 2, 0), (41, .lor, 1, 0), (42, .lstore_n 2, 1, 0), (43, .iinc 4 (-1), 3, 0), (46, .goto (-40), 3, 0), (49, .lload_n 2, 1, 0), (50, .lreturn, 1, 0)]
noncomputable def am_r199 : List (Nat × Instr × Nat × Nat) := [(0, .aload_n 0, 1, 0), (1, .getfield 242, 3, 1202), (4, .iconst 1, 1, 0), (5, .isub, 1, 0), (6, .istore_n 3, 1, 0), (7, .iload_n 3, 1, 0), (8, .ifCond .lt 20, 3, 0), (11, .aload_n 0, 1, 0), (12, .getfield 53, 3, 1200), (15, .iload_n 3, 1, 0), (16, .laload, 1, 0), (17, .lload_n 1, 1, 0), (18, .lcmp, 1, 0), (19, .ifCond .eq 9, 3, 0), (22, .iinc 3 (-1), 3, 0), (25, .goto (-18), 3, 0), (28, .iload_n 3, 1, 0), (29, .ireturn, 1, 0)]
noncomputable def am_r200 : List (Nat × Instr × Nat × Nat) := [(0, .aload_n 0, 1, 0), (1, .iconst 0, 1, 0), (2, .putfield 137, 3, 1176), (5, .aload_n 0, 1, 0), (6, .lload_n 1, 1, 0), (7, .invokevirtual 224, 3, 1436), (10, .ifCond .eq 11, 3, 0), (13, .aload_n 0, 1, 0), (14, .lload_n 3, 1, 0), (15, .invokevirtual 224, 3, 1436), (18, .ifCond .ne 5, 3, 0), (21, .iconst (-1), 1, 0), (22, .ireturn, 1, 0), (23, .aload_n 0, 1, 0), (24, .lload_n 1, 1, 0), (25, .invokestatic 245, 3, 1497), (28, .invokevirtual 249, 3, 1500), (31, .istore 5, 2, 0), (33, .iload 5, 2, 0), (35, .ifCond .ge 14, 3, 0), (38, .aload_n 0, 1, 0), (39, .getfield 242, 3, 1202), (42, .bipush 8, 2, 0), (44, .if_icmp .ne 5, 3, 0), (47, .iconst (-1), 1, 0), (48, .ireturn, 1, 0), (49, .iload 5, 2, 0), (51, .ifCond .ge 30, 3, 0), (54, .aload_n 0, 1, 0), (55, .getfield 242, 3, 1202), (58, .istore 5, 2, 0), (60, .aload_n 0, 1, 0), (61, .getfield 53, 3, 1200), (64, .iload 5, 2, 0), (66, .lload_n 1, 1, 0), (67, .invokestatic 245, 3, 1497), (70, .lastore, 1, 0), (71, .aload_n 0, 1, 0), (72, .dup, 1, 0), (73, .getfield 242, 3, 1202), (76, .iconst 1, 1, 0), (77, .iadd, 1, 0), (78, .putfield 242, 3, 1202), (81, .aload_n 0, 1, 0), (82, .getfield 56, 3, 1201), (85, .iload 5, 2, 0), (87, .lload_n 3, 1, 0), (88, .lastore, 1, 0), (89, .aload_n 0, 1, 0), (90, .getfield 242, 3, 1202), (93, .ireturn, 1, 0)]
noncomputable def am_r201 : List (Nat × Instr × Nat × Nat) := [(0, .aload_n 0, 1, 0), (1, .iconst 0, 1, 0), (2, .putfield 137, 3, 1176), (5, .aload_n 0, 1, 0), (6, .lload_n 1, 1, 0), (7, .invokevirtual 224, 3, 1436), (10, .ifCond .ne 5, 3, 0), (13, .iconst (-1), 1, 0), (14, .ireturn, 1, 0), (15, .aload_n 0, 1, 0), (16, .aload_n 0, 1, 0), (17, .getfield 210, 3, 1199), (20, .putfield 134, 3, 1204), (23, .iconst 0, 1, 0), (24, .istore_n 3, 1, 0), (25, .iload_n 3, 1, 0), (26, .aload_n 0, 1, 0), (27, .getfield 210, 3, 1199), (30, .if_icmp .ge 21, 3, 0), (33, .aload_n 0, 1, 0), (34, .getfield 59, 3, 1203), (37, .iload_n 3, 1, 0), (38, .aload_n 0, 1, 0), (39, .getfield 50, 3, 1198), (42, .iload_n 3, 1, 0), (43, .iaload, 1, 0), (44, .iastore, 1, 0), (45, .iinc 3 1, 3, 0), (48, .goto (-23), 3, 0), (51, .aload_n 0, 1, 0), (52, .getfield 242, 3, 1202), (55, .ireturn, 1, 0)]
noncomputable def am_r202 : List (Nat × Instr × Nat × Nat) := [(0, .aload_n 0, 1, 0), (1, .iconst 0, 1, 0), (2, .putfield 137, 3, 1176), (5, .aload_n 0, 1, 0), (6, .lload_n 1, 1, 0), (7, .putfield 253, 3, 1205), (10, .iconst 0, 1, 0), (11, .ireturn, 1, 0)]
noncomputable def am_r203 : List (Nat × Instr × Nat × Nat) := [(0, .aload_n 0, 1, 0), (1, .iconst 0, 1, 0), (2, .putfield 137, 3, 1176), (5, .iload_n 1, 1, 0), (6, .i2l, 1, 0), (7, .lconst 0, 1, 0), (8, .ldc2_w 167, 3, 1469), (11, .invokestatic 200, 3, 1400), (14, .ifCond .ne 5, 3, 0), (17, .iconst (-1), 1, 0), (18, .ireturn, 1, 0), (19, .aload_n 0, 1, 0), (20, .getfield 62, 3, 1206), (23, .istore_n 2, 1, 0), (24, .aload_n 0, 1, 0), (25, .iload_n 1, 1, 0), (26, .putfield 62, 3, 1206), (29, .iload_n 2, 1, 0), (30, .ireturn, 1, 0)]
noncomputable def am_r204 : List (Nat × Instr × Nat × Nat) := [(0, .aload_n 0, 1, 0), (1, .iconst 0, 1, 0), (2, .putfield 137, 3, 1176), (5, .iload_n 2, 1, 0), (6, .i2l, 1, 0), (7, .lconst 0, 1, 0), (8, .ldc2_w 256, 3, 1520), (11, .invokestatic 200, 3, 1400), (14, .ifCond .eq 11, 3, 0), (17, .aload_n 0, 1, 0), (18, .getfield 258, 3, 1209), (21, .iconst 4, 1, 0), (22, .if_icmp .ne 5, 3, 0), (25, .iconst (-1), 1, 0), (26, .ireturn, 1, 0), (27, .aload_n 0, 1, 0), (28, .getfield 66, 3, 1207), (31, .aload_n 0, 1, 0), (32, .getfield 258, 3, 1209), (35, .iload_n 1, 1, 0), (36, .iastore, 1, 0), (37, .aload_n 0, 1, 0), (38, .getfield 69, 3, 1208), (41, .aload_n 0, 1, 0), (42, .getfield 258, 3, 1209), (45, .iload_n 2, 1, 0), (46, .iastore, 1, 0), (47, .aload_n 0, 1, 0), (48, .dup, 1, 0), (49, .getfield 258, 3, 1209), (52, .iconst 1, 1, 0), (53, .iadd, 1, 0), (54, .putfield 258, 3, 1209), (57, .aload_n 0, 1, 0), (58, .getfield 258, 3, 1209), (61, .ireturn, 1, 0)]
noncomputable def am_r205 : List (Nat × Instr × Nat × Nat) := [(0, .iconst 0, 1, 0), (1, .istore_n 2, 1, 0), (2, .iconst 0, 1, 0), (3, .istore_n 3, 1, 0), (4, .iload_n 3, 1, 0), (5, .aload_n 0, 1, 0), (6, .getfield 258, 3, 1209), (9, .if_icmp .ge 54, 3, 0), (12, .aload_n 0, 1, 0), (13, .getfield 69, 3, 1208), (16, .iload_n 3, 1, 0), (17, .iaload, 1, 0), (18, .istore 4, 2, 0), (20, .iload_n 2, 1, 0), (21, .ifCond .ne 30, 3, 0), (24, .iload 4, 2, 0), (26, .ifCond .eq 25, 3, 0), (29, .iload_n 1, 1, 0), (30, .bipush 32, 2, 0), (32, .iload 4, 2, 0), (34, .isub, 1, 0), (35, .ishr, 1, 0), (36, .aload_n 0, 1, 0), (37, .getfield 66, 3, 1207), (40, .iload_n 3, 1, 0), (41, .iaload, 1, 0), (42, .bipush 32, 2, 0), (44, .iload 4, 2, 0), (46, .isub, 1, 0), (47, .ishr, 1, 0), (48, .if_icmp .ne 7, 3, 0), (51, .iconst 1, 1, 0), (52, .goto 4, 3, 0), (55, .iconst 0, 1, 0), (56, .istore_n 2, 1, 0), (57, .iinc 3 1, 3, 0), (60, .goto (-56), 3, 0), (63, .iload_n 2, 1, 0), (64, .ireturn, 1, 0)]
noncomputable def am_r206 : List (Nat × Instr × Nat × Nat) := [(0, .iconst 0, 1, 0), (1, .istore_n 1, 1, 0), (2, .iconst 0, 1, 0), (3, .istore_n 2, 1, 0), (4, .iload_n 2, 1, 0), (5, .bipush 8, 2, 0), (7, .if_icmp .ge 151, 3, 0), (10, .aload_n 0, 1, 0), (11, .getfield 72, 3, 1211), (14, .iload_n 2, 1, 0), (15, .baload, 1, 0), (16, .ifCond .ne 6, 3, 0), (19, .goto 133, 3, 0), (22, .aload_n 0, 1, 0), (23, .getfield 88, 3, 1216), (26, .iload_n 2, 1, 0), (27, .laload, 1, 0), (28, .aload_n 0, 1, 0), (29, .getfield 261, 3, 1210), (32, .lcmp, 1, 0), (33, .ifCond .gt 16, 3, 0), (36, .aload_n 0, 1, 0), (37, .getfield 72, 3, 1211), (40, .iload_n 2, 1, 0), (41, .iconst 0, 1, 0), (42, .bastore, 1, 0), (43, .iinc 1 1, 3, 0), (46, .goto 106, 3, 0), (49, .iconst 0, 1, 0), (50, .istore_n 3, 1, 0), (51, .iconst 0, 1, 0), (52, .istore 4, 2, 0), (54, .iload 4, 2, 0), (56, .aload_n 0, 1, 0), (57, .getfield 94, 3, 1218), (60, .iload_n 2, 1, 0), (61, .iaload, 1, 0), (62, .if_icmp .ge 78, 3, 0), (65, .aload_n 0, 1, 0), (66, .getfield 100, 3, 1220), (69, .bipush 16, 2, 0), (71, .iload_n 2, 1, 0), (72, .imul, 1, 0), (73, .iload 4, 2, 0), (75, .iadd, 1, 0), (76, .laload, 1, 0), (77, .aload_n 0, 1, 0), (78, .getfield 261, 3, 1210), (81, .lcmp, 1, 0), (82, .ifCond .le 52, 3, 0), (85, .aload_n 0, 1, 0), (86, .getfield 97, 3, 1219), (89, .bipush 16, 2, 0), (91, .iload_n 2, 1, 0), (92, .imul, 1, 0), (93, .iload_n 3, 1, 0), (94, .iadd, 1, 0), (95, .aload_n 0, 1, 0), (96, .getfield 97, 3, 1219), (99, .bipush 16, 2, 0), (101, .iload_n 2, 1, 0), (102, .imul, 1, 0), (103, .iload 4, 2, 0), (105, .iadd, 1, 0), (106, .iaload, 1, 0), (107, .iastore, 1, 0), (108, .aload_n 0, 1, 0), (109, .getfield 100, 3, 1220), (112, .bipush 16, 2, 0), (114, .iload_n 2, 1, 0), (115, .imul, 1, 0), (116, .iload_n 3, 1, 0), (117, .iadd, 1, 0), (118, .aload_n 0, 1, 0), (119, .getfield 100, 3, 1220), (122, .bipush 16, 2, 0), (124, .iload_n 2, 1, 0), (125, .imul, 1, 0), (126, .iload 4, 2, 0), (128, .iadd, 1, 0), (129, .laload, 1, 0), (130, .lastore, 1, 0), (131, .iinc 3 1, 3, 0), (134, .iinc 4 1, 3, 0), (137, .goto (-83), 3, 0), (140, .aload_n 0, 1, 0), (141, .getfield 94, 3, 1218), (144, .iload_n 2, 1, 0), (145, .iload_n 3, 1, 0), (146, .iastore, 1, 0), (147, .aload_n 0, 1, 0), (148, .iload_n 2, 1, 0), (149, .invokevirtual 264, 3, 1530), (152, .iinc 2 1, 3, 0), (155, .goto (-151), 3, 0), (158, .iload_n 1, 1, 0), (159, .ireturn, 1, 0)]
noncomputable def am_r207 : List (Nat × Instr × Nat × Nat) := [(0, .iconst 0, 1, 0), (1, .istore_n 2, 1, 0), (2, .iconst 0, 1, 0), (3, .istore_n 3, 1, 0), (4, .iload_n 3, 1, 0), (5, .aload_n 0, 1, 0), (6, .getfield 103, 3, 1221), (9, .iload_n 1, 1, 0), (10, .iaload, 1, 0), (11, .if_icmp .ge 99, 3, 0), (14, .bipush 8, 2, 0), (16, .iload_n 1, 1, 0), (17, .imul, 1, 0), (18, .iload_n 3, 1, 0), (19, .iadd, 1, 0), (20, .istore 4, 2, 0), (22, .bipush 8, 2, 0), (24, .iload_n 1, 1, 0), (25, .imul, 1, 0), (26, .iload_n 2, 1, 0), (27, .iadd, 1, 0), (28, .istore 5, 2, 0), (30, .aload_n 0, 1, 0), (31, .getfield 115, 3, 1225), (34, .iload 4, 2, 0), (36, .laload, 1, 0), (37, .aload_n 0, 1, 0), (38, .getfield 261, 3, 1210), (41, .lcmp, 1, 0), (42, .ifCond .le 62, 3, 0), (45, .aload_n 0, 1, 0), (46, .getfield 106, 3, 1222), (49, .iload 5, 2, 0), (51, .aload_n 0, 1, 0), (52, .getfield 106, 3, 1222), (55, .iload 4, 2, 0), (57, .iaload, 1, 0), (58, .iastore, 1, 0), (59, .aload_n 0, 1, 0), (60, .getfield 109, 3, 1223), (63, .iload 5, 2, 0), (65, .aload_n 0, 1, 0), (66, .getfield 109, 3, 1223), (69, .iload 4, 2, 0), (71, .iaload, 1, 0), (72, .iastore, 1, 0), (73, .aload_n 0, 1, 0), (74, .getfield 112, 3, 1224), (77, .iload 5, 2, 0), (79, .aload_n 0, 1, 0), (80, .getfield 112, 3, 1224), (83, .iload 4, 2, 0), (85, .iaload, 1, 0), (86, .iastore, 1, 0), (87, .aload_n 0, 1, 0), (88, .getfield 115, 3, 1225), (91, .iload 5, 2, 0), (93, .aload_n 0, 1, 0), (94, .getfield 115, 3, 1225), (97, .iload 4, 2, 0), (99, .laload, 1, 0), (100, .lastore, 1, 0), (101, .iinc 2 1, 3, 0), (104, .iinc 3 1, 3, 0), (107, .goto (-103), 3, 0), (110, .aload_n 0, 1, 0), (111, .getfield 103, 3, 1221), (114, .iload_n 1, 1, 0), (115, .iload_n 2, 1, 0), (116, .iastore, 1, 0), (117, .return_, 1, 0)]
noncomputable def am_r208 : List (Nat × Instr × Nat × Nat) := [(0, .aload_n 0, 1, 0), (1, .iconst 0, 1, 0), (2, .putfield 137, 3, 1176), (5, .iload_n 1, 1, 0), (6, .i2l, 1, 0), (7, .lconst 0, 1, 0), (8, .ldc2_w 267, 3, 1525), (11, .invokestatic 200, 3, 1400), (14, .ifCond .ne 5, 3, 0), (17, .iconst (-1), 1, 0), (18, .ireturn, 1, 0), (19, .aload_n 0, 1, 0), (20, .dup, 1, 0), (21, .getfield 261, 3, 1210), (24, .iload_n 1, 1, 0), (25, .i2l, 1, 0), (26, .ladd, 1, 0), (27, .putfield 261, 3, 1210), (30, .aload_n 0, 1, 0), (31, .invokevirtual 269, 3, 1526), (34, .ireturn, 1, 0)]
noncomputable def am_r209 : List (Nat × Instr × Nat × Nat) := [(0, .bipush 7, 2, 0), (2, .istore_n 3, 1, 0), (3, .iload_n 3, 1, 0), (4, .ifCond .lt 38, 3, 0), (7, .aload_n 0, 1, 0), (8, .getfield 72, 3, 1211), (11, .iload_n 3, 1, 0), (12, .baload, 1, 0), (13, .ifCond .eq 23, 3, 0), (16, .aload_n 0, 1, 0), (17, .getfield 76, 3, 1212), (20, .iload_n 3, 1, 0), (21, .iaload, 1, 0), (22, .iload_n 1, 1, 0), (23, .if_icmp .ne 13, 3, 0), (26, .aload_n 0, 1, 0), (27, .getfield 79, 3, 1213), (30, .iload_n 3, 1, 0), (31, .iaload, 1, 0), (32, .iload_n 2, 1, 0), (33, .if_icmp .eq 9, 3, 0), (36, .iinc 3 (-1), 3, 0), (39, .goto (-36), 3, 0), (42, .iload_n 3, 1, 0), (43, .ireturn, 1, 0)]
noncomputable def am_r210 : List (Nat × Instr × Nat × Nat) := [(0, .aload_n 0, 1, 0), (1, .getfield 94, 3, 1218), (4, .iload_n 1, 1, 0), (5, .iaload, 1, 0), (6, .iconst 1, 1, 0), (7, .isub, 1, 0), (8, .istore_n 3, 1, 0), (9, .iload_n 3, 1, 0), (10, .ifCond .lt 24, 3, 0), (13, .aload_n 0, 1, 0), (14, .getfield 97, 3, 1219), (17, .bipush 16, 2, 0), (19, .iload_n 1, 1, 0), (20, .imul, 1, 0), (21, .iload_n 3, 1, 0), (22, .iadd, 1, 0), (23, .iaload, 1, 0), (24, .iload_n 2, 1, 0), (25, .if_icmp .eq 9, 3, 0), (28, .iinc 3 (-1), 3, 0), (31, .goto (-22), 3, 0), (34, .iload_n 3, 1, 0), (35, .ireturn, 1, 0)]
noncomputable def am_r211 : List (Nat × Instr × Nat × Nat) := [(0, .aload_n 0, 1, 0), (1, .getfield 103, 3, 1221), (4, .iload_n 1, 1, 0), (5, .iaload, 1, 0), (6, .iconst 1, 1, 0), (7, .isub, 1, 0), (8, .istore_n 3, 1, 0), (9, .iload_n 3, 1, 0), (10, .ifCond .lt 24, 3, 0), (13, .aload_n 0, 1, 0), (14, .getfield 106, 3, 1222), (17, .bipush 8, 2, 0), (19, .iload_n 1, 1, 0), (20, .imul, 1, 0), (21, .iload_n 3, 1, 0), (22, .iadd, 1, 0), (23, .iaload, 1, 0), (24, .iload_n 2, 1, 0), (25, .if_icmp .eq 9, 3, 0), (28, .iinc 3 (-1), 3, 0), (31, .goto (-22), 3, 0), (34, .iload_n 3, 1, 0), (35, .ireturn, 1, 0)]
noncomputable def am_r212 : List (Nat × Instr × Nat × Nat) := [(0, .aload_n 0, 1, 0), (1, .getfield 103, 3, 1221), (4, .iload_n 1, 1, 0), (5, .iaload, 1, 0), (6, .iconst 1, 1, 0), (7, .isub, 1, 0), (8, .istore 4, 2, 0), (10, .iload 4, 2, 0), (12, .ifCond .lt 41, 3, 0), (15, .aload_n 0, 1, 0), (16, .getfield 109, 3, 1223), (19, .bipush 8, 2, 0), (21, .iload_n 1, 1, 0), (22, .imul, 1, 0), (23, .iload 4, 2, 0), (25, .iadd, 1, 0), (26, .iaload, 1, 0), (27, .iload_n 2, 1, 0), (28, .if_icmp .ne 19, 3, 0), (31, .aload_n 0, 1, 0), (32, .getfield 112, 3, 1224), (35, .bipush 8, 2, 0), (37, .iload_n 1, 1, 0), (38, .imul, 1, 0), (39, .iload 4, 2, 0), (41, .iadd, 1, 0), (42, .iaload, 1, 0), (43, .iload_n 3, 1, 0), (44, .if_icmp .eq 9, 3, 0), (47, .iinc 4 (-1), 3, 0), (50, .goto (-40), 3, 0), (53, .iload 4, 2, 0), (55, .ireturn, 1, 0)]
noncomputable def am_r213 : List (Nat × Instr × Nat × Nat) := [(0, .aload_n 0, 1, 0), (1, .iload_n 1, 1, 0), (2, .iload_n 2, 1, 0), (3, .invokevirtual 273, 3, 1564), (6, .istore_n 3, 1, 0), (7, .iload_n 3, 1, 0), (8, .ifCond .ge 32, 3, 0), (11, .aload_n 0, 1, 0), (12, .getfield 94, 3, 1218), (15, .iload_n 1, 1, 0), (16, .iaload, 1, 0), (17, .istore_n 3, 1, 0), (18, .aload_n 0, 1, 0), (19, .getfield 97, 3, 1219), (22, .bipush 16, 2, 0), (24, .iload_n 1, 1, 0), (25, .imul, 1, 0), (26, .iload_n 3, 1, 0), (27, .iadd, 1, 0), (28, .iload_n 2, 1, 0), (29, .iastore, 1, 0), (30, .aload_n 0, 1, 0), (31, .getfield 94, 3, 1218), (34, .iload_n 1, 1, 0), (35, .dup2, 1, 0), (36, .iaload, 1, 0), (37, .iconst 1, 1, 0), (38, .iadd, 1, 0), (39, .iastore, 1, 0), (40, .aload_n 0, 1, 0), (41, .getfield 100, 3, 1220), (44, .bipush 16, 2, 0), (46, .iload_n 1, 1, 0), (47, .imul, 1, 0), (48, .iload_n 3, 1, 0), (49, .iadd, 1, 0), (50, .aload_n 0, 1, 0), (51, .getfield 261, 3, 1210), (54, .ldc2_w 276, 3, 1713), (57, .ladd, 1, 0), (58, .lastore, 1, 0), (59, .return_, 1, 0)]
noncomputable def am_r214 : List (Nat × Instr × Nat × Nat) := [(0, .iload_n 2, 1, 0), (1, .bipush 20, 2, 0), (3, .if_icmp .lt 33, 3, 0), (6, .aload_n 1, 1, 0), (7, .iconst 0, 1, 0), (8, .iaload, 1, 0), (9, .bipush 63, 2, 0), (11, .if_icmp .gt 25, 3, 0), (14, .aload_n 1, 1, 0), (15, .iconst 4, 1, 0), (16, .invokestatic 278, 3, 1580), (19, .ldc 204, 2, 1403), (21, .if_icmp .ne 15, 3, 0), (24, .aload_n 1, 1, 0), (25, .iconst 2, 1, 0), (26, .invokestatic 184, 3, 1546), (29, .iload_n 2, 1, 0), (30, .bipush 20, 2, 0), (32, .isub, 1, 0), (33, .if_icmp .eq 5, 3, 0), (36, .iconst 0, 1, 0), (37, .ireturn, 1, 0), (38, .aload_n 0, 1, 0), (39, .iconst 0, 1, 0), (40, .putfield 281, 3, 1229), (43, .aload_n 0, 1, 0), (44, .iconst (-1), 1, 0), (45, .putfield 284, 3, 1230), (48, .aload_n 0, 1, 0), (49, .iconst (-1), 1, 0), (50, .putfield 287, 3, 1231), (53, .aload_n 0, 1, 0), (54, .iconst (-1), 1, 0), (55, .putfield 290, 3, 1232), (58, .bipush 20, 2, 0), (60, .istore_n 3, 1, 0), (61, .iload_n 3, 1, 0), (62, .iload_n 2, 1, 0), (63, .if_icmp .ge 68, 3, 0), (66, .iload_n 3, 1, 0), (67, .iconst 4, 1, 0), (68, .iadd, 1, 0), (69, .iload_n 2, 1, 0), (70, .if_icmp .le 5, 3, 0), (73, .iconst 0, 1, 0), (74, .ireturn, 1, 0), (75, .aload_n 1, 1, 0), (76, .iload_n 3, 1, 0), (77, .iconst 2, 1, 0), (78, .iadd, 1, 0), (79, .invokestatic 184, 3, 1546), (82, .istore 4, 2, 0), (84, .iconst 4, 1, 0), (85, .iload 4, 2, 0), (87, .iconst 3, 1, 0), (88, .iadd, 1, 0), (89, .iconst 4, 1, 0), (90, .idiv, 1, 0), (91, .iconst 4, 1, 0), (92, .imul, 1, 0), (93, .iadd, 1, 0), (94, .istore 5, 2, 0), (96, .iload_n 3, 1, 0), (97, .iload 5, 2, 0), (99, .iadd, 1, 0), (100, .iload_n 2, 1, 0), (101, .if_icmp .le 5, 3, 0), (104, .iconst 0, 1, 0), (105, .ireturn, 1, 0), (106, .aload_n 0, 1, 0), (107, .iload_n 3, 1, 0), (108, .putfield 290, 3, 1232), (111, .aload_n 0, 1, 0), (112, .aload_n 1, 1, 0), (113, .iload_n 3, 1, 0), (114, .invokestatic 184, 3, 1546), (117, .iload 4, 2, 0), (119, .iload_n 3, 1, 0), (120, .invokevirtual 293, 3, 1583), (123, .iload_n 3, 1, 0), (124, .iload 5, 2, 0), (126, .iadd, 1, 0), (127, .istore_n 3, 1, 0), (128, .goto (-67), 3, 0), (131, .iconst 1, 1, 0), (132, .ireturn, 1, 0)]
noncomputable def am_r215 : List (Nat × Instr × Nat × Nat) := [(0, .iload_n 1, 1, 0), (1, .ldc 236, 2, 1478), (3, .if_icmp .ne 20, 3, 0), (6, .iload_n 2, 1, 0), (7, .iconst 4, 1, 0), (8, .if_icmp .ne 15, 3, 0), (11, .aload_n 0, 1, 0), (12, .getfield 287, 3, 1231), (15, .ifCond .ge 8, 3, 0), (18, .aload_n 0, 1, 0), (19, .iload_n 3, 1, 0), (20, .putfield 287, 3, 1231), (23, .aload_n 0, 1, 0), (24, .getfield 284, 3, 1230), (27, .ifCond .lt 4, 3, 0), (30, .return_, 1, 0), (31, .iload_n 1, 1, 0), (32, .bipush 28, 2, 0), (34, .if_icmp .ne 14, 3, 0), (37, .iload_n 2, 1, 0), (38, .bipush 32, 2, 0), (40, .if_icmp .ne 8, 3, 0), (43, .aload_n 0, 1, 0), (44, .iload_n 3, 1, 0), (45, .putfield 284, 3, 1230), (48, .aload_n 0, 1, 0), (49, .getfield 118, 3, 1226), (52, .aload_n 0, 1, 0), (53, .getfield 281, 3, 1229), (56, .iload_n 1, 1, 0), (57, .iastore, 1, 0), (58, .aload_n 0, 1, 0), (59, .getfield 121, 3, 1227), (62, .aload_n 0, 1, 0), (63, .getfield 281, 3, 1229), (66, .iload_n 2, 1, 0), (67, .iastore, 1, 0), (68, .aload_n 0, 1, 0), (69, .getfield 124, 3, 1228), (72, .aload_n 0, 1, 0), (73, .getfield 281, 3, 1229), (76, .iload_n 3, 1, 0), (77, .iconst 4, 1, 0), (78, .iadd, 1, 0), (79, .iastore, 1, 0), (80, .aload_n 0, 1, 0), (81, .dup, 1, 0), (82, .getfield 281, 3, 1229), (85, .iconst 1, 1, 0), (86, .iadd, 1, 0), (87, .putfield 281, 3, 1229), (90, .return_, 1, 0)]
noncomputable def am_r216 : List (Nat × Instr × Nat × Nat) := [(0, .aload_n 0, 1, 0), (1, .getfield 121, 3, 1227), (4, .iload_n 1, 1, 0), (5, .iaload, 1, 0), (6, .bipush 8, 2, 0), (8, .if_icmp .ne 24, 3, 0), (11, .aload_n 0, 1, 0), (12, .getfield 44, 3, 1190), (15, .aload_n 0, 1, 0), (16, .getfield 124, 3, 1228), (19, .iload_n 1, 1, 0), (20, .iaload, 1, 0), (21, .iconst 1, 1, 0), (22, .iadd, 1, 0), (23, .iaload, 1, 0), (24, .iconst 1, 1, 0), (25, .if_icmp .ne 7, 3, 0), (28, .iconst 1, 1, 0), (29, .goto 4, 3, 0), (32, .iconst 0, 1, 0), (33, .ireturn, 1, 0)]
noncomputable def am_r217 : List (Nat × Instr × Nat × Nat) := [(0, .aload_n 0, 1, 0), (1, .getfield 118, 3, 1226), (4, .iload_n 1, 1, 0), (5, .iaload, 1, 0), (6, .istore_n 2, 1, 0), (7, .aload_n 0, 1, 0), (8, .getfield 121, 3, 1227), (11, .iload_n 1, 1, 0), (12, .iaload, 1, 0), (13, .istore_n 3, 1, 0), (14, .iload_n 2, 1, 0), (15, .tableswitch 132 6 25 #[93, 132, 132, 132, 132, 132, 103, 103, 132, 132, 132, 132, 114, 132, 93, 120, 132, 132, 132, 103], 93, 0), (108, .iload_n 3, 1, 0), (109, .i2l, 1, 0), (110, .lconst 1, 1, 0), (111, .ldc2_w 167, 3, 1469), (114, .invokestatic 200, 3, 1400), (117, .ireturn, 1, 0), (118, .iload_n 3, 1, 0), (119, .iconst 4, 1, 0), (120, .if_icmp .ne 7, 3, 0), (123, .iconst 1, 1, 0), (124, .goto 4, 3, 0), (127, .iconst 0, 1, 0), (128, .ireturn, 1, 0), (129, .aload_n 0, 1, 0), (130, .iload_n 1, 1, 0), (131, .invokevirtual 297, 3, 1617), (134, .ireturn, 1, 0), (135, .iload_n 3, 1, 0), (136, .bipush 8, 2, 0), (138, .if_icmp .ne 7, 3, 0), (141, .iconst 1, 1, 0), (142, .goto 4, 3, 0), (145, .iconst 0, 1, 0), (146, .ireturn, 1, 0), (147, .iconst 1, 1, 0), (148, .ireturn, 1, 0)]
noncomputable def am_r218 : List (Nat × Instr × Nat × Nat) := [(0, .iconst 0, 1, 0), (1, .istore_n 2, 1, 0), (2, .iload_n 2, 1, 0), (3, .aload_n 0, 1, 0), (4, .getfield 281, 3, 1229), (7, .if_icmp .ge 29, 3, 0), (10, .aload_n 0, 1, 0), (11, .getfield 118, 3, 1226), (14, .iload_n 2, 1, 0), (15, .iaload, 1, 0), (16, .iload_n 1, 1, 0), (17, .if_icmp .ne 13, 3, 0), (20, .aload_n 0, 1, 0), (21, .iload_n 2, 1, 0), (22, .invokevirtual 301, 3, 1613), (25, .ifCond .eq 5, 3, 0), (28, .iload_n 2, 1, 0), (29, .ireturn, 1, 0), (30, .iinc 2 1, 3, 0), (33, .goto (-31), 3, 0), (36, .iconst (-1), 1, 0), (37, .ireturn, 1, 0)]
noncomputable def am_r219 : List (Nat × Instr × Nat × Nat) := [(0, .iload_n 0, 1, 0), (1, .bipush 6, 2, 0), (3, .if_icmp .eq 75, 3, 0), (6, .iload_n 0, 1, 0), (7, .bipush 9, 2, 0), (9, .if_icmp .eq 69, 3, 0), (12, .iload_n 0, 1, 0), (13, .bipush 10, 2, 0), (15, .if_icmp .eq 63, 3, 0), (18, .iload_n 0, 1, 0), (19, .bipush 12, 2, 0), (21, .if_icmp .eq 57, 3, 0), (24, .iload_n 0, 1, 0), (25, .bipush 13, 2, 0), (27, .if_icmp .eq 51, 3, 0), (30, .iload_n 0, 1, 0), (31, .bipush 18, 2, 0), (33, .if_icmp .eq 45, 3, 0), (36, .iload_n 0, 1, 0), (37, .bipush 19, 2, 0), (39, .if_icmp .eq 39, 3, 0), (42, .iload_n 0, 1, 0), (43, .bipush 20, 2, 0), (45, .if_icmp .eq 33, 3, 0), (48, .iload_n 0, 1, 0), (49, .bipush 21, 2, 0), (51, .if_icmp .eq 27, 3, 0), (54, .iload_n 0, 1, 0), (55, .bipush 22, 2, 0), (57, .if_icmp .eq 21, 3, 0), (60, .iload_n 0, 1, 0), (61, .bipush 25, 2, 0), (63, .if_icmp .eq 15, 3, 0), (66, .iload_n 0, 1, 0), (67, .bipush 28, 2, 0), (69, .if_icmp .eq 9, 3, 0), (72, .iload_n 0, 1, 0), (73, .bipush 32, 2, 0), (75, .if_icmp .ne 7, 3, 0), (78, .iconst 1, 1, 0), (79, .goto 4, 3, 0), (82, .iconst 0, 1, 0), (83, .ireturn, 1, 0)]
noncomputable def am_r220 : List (Nat × Instr × Nat × Nat) := [(0, .aload_n 0, 1, 0), (1, .iconst 0, 1, 0), (2, .putfield 304, 3, 1234), (5, .iconst 0, 1, 0), (6, .istore_n 1, 1, 0), (7, .iload_n 1, 1, 0), (8, .aload_n 0, 1, 0), (9, .getfield 281, 3, 1229), (12, .if_icmp .ge 108, 3, 0), (15, .aload_n 0, 1, 0), (16, .getfield 118, 3, 1226), (19, .iload_n 1, 1, 0), (20, .iaload, 1, 0), (21, .istore_n 2, 1, 0), (22, .iload_n 2, 1, 0), (23, .ldc_w 307, 3, 1598), (26, .if_icmp .ge 23, 3, 0), (29, .iload_n 2, 1, 0), (30, .invokestatic 308, 3, 1599), (33, .ifCond .ne 16, 3, 0), (36, .aload_n 0, 1, 0), (37, .getfield 304, 3, 1234), (40, .bipush 8, 2, 0), (42, .if_icmp .ge 7, 3, 0), (45, .iconst 1, 1, 0), (46, .goto 4, 3, 0), (49, .iconst 0, 1, 0), (50, .istore_n 3, 1, 0), (51, .iconst 0, 1, 0), (52, .istore 4, 2, 0), (54, .iload 4, 2, 0), (56, .aload_n 0, 1, 0), (57, .getfield 304, 3, 1234), (60, .if_icmp .ge 30, 3, 0), (63, .iload_n 3, 1, 0), (64, .ifCond .eq 26, 3, 0), (67, .aload_n 0, 1, 0), (68, .getfield 127, 3, 1233), (71, .iload 4, 2, 0), (73, .iaload, 1, 0), (74, .iload_n 2, 1, 0), (75, .if_icmp .eq 7, 3, 0), (78, .iconst 1, 1, 0), (79, .goto 4, 3, 0), (82, .iconst 0, 1, 0), (83, .istore_n 3, 1, 0), (84, .iinc 4 1, 3, 0), (87, .goto (-33), 3, 0), (90, .iload_n 3, 1, 0), (91, .ifCond .eq 23, 3, 0), (94, .aload_n 0, 1, 0), (95, .getfield 127, 3, 1233), (98, .aload_n 0, 1, 0), (99, .getfield 304, 3, 1234), (102, .iload_n 2, 1, 0), (103, .iastore, 1, 0), (104, .aload_n 0, 1, 0), (105, .dup, 1, 0), (106, .getfield 304, 3, 1234), (109, .iconst 1, 1, 0), (110, .iadd, 1, 0), (111, .putfield 304, 3, 1234), (114, .iinc 1 1, 3, 0), (117, .goto (-110), 3, 0), (120, .return_, 1, 0)]
noncomputable def am_r221 : List (Nat × Instr × Nat × Nat) := [(0, .aload_n 0, 1, 0), (1, .getfield 44, 3, 1190), (4, .aload_n 0, 1, 0), (5, .getfield 124, 3, 1228), (8, .iload_n 1, 1, 0), (9, .iaload, 1, 0), (10, .iconst 4, 1, 0), (11, .iadd, 1, 0), (12, .invokestatic 278, 3, 1580), (15, .ldc 204, 2, 1403), (17, .ixor, 1, 0), (18, .ireturn, 1, 0)]
noncomputable def am_r222 : List (Nat × Instr × Nat × Nat) := [(0, .aload_n 0, 1, 0), (1, .getfield 44, 3, 1190), (4, .aload_n 0, 1, 0), (5, .getfield 124, 3, 1228), (8, .iload_n 1, 1, 0), (9, .iaload, 1, 0), (10, .iconst 2, 1, 0), (11, .iadd, 1, 0), (12, .invokestatic 184, 3, 1546), (15, .sipush 8466, 3, 0), (18, .ixor, 1, 0), (19, .ireturn, 1, 0)]
noncomputable def am_r223 : List (Nat × Instr × Nat × Nat) := [(0, .aload_n 0, 1, 0), (1, .iconst 1, 1, 0), (2, .putfield 311, 3, 1194), (5, .aload_n 0, 1, 0), (6, .iload_n 1, 1, 0), (7, .putfield 315, 3, 1195), (10, .aload_n 0, 1, 0), (11, .iload_n 2, 1, 0), (12, .putfield 318, 3, 1196), (15, .aload_n 0, 1, 0), (16, .iload_n 3, 1, 0), (17, .putfield 321, 3, 1197), (20, .aload_n 0, 1, 0), (21, .dup, 1, 0), (22, .getfield 324, 3, 1235), (25, .iconst 1, 1, 0), (26, .iadd, 1, 0), (27, .putfield 324, 3, 1235), (30, .return_, 1, 0)]
noncomputable def am_r224 : List (Nat × Instr × Nat × Nat) := [(0, .aload_n 0, 1, 0), (1, .iconst 0, 1, 0), (2, .putfield 311, 3, 1194), (5, .aload_n 0, 1, 0), (6, .iconst 0, 1, 0), (7, .putfield 327, 3, 1193), (10, .return_, 1, 0)]
noncomputable def am_r225 : List (Nat × Instr × Nat × Nat) := [(0, .aload_n 0, 1, 0), (1, .getfield 47, 3, 1192), (4, .iconst 0, 1, 0), (5, .iload_n 1, 1, 0), (6, .iload_n 2, 1, 0), (7, .invokestatic 330, 3, 1641), (10, .invokestatic 188, 3, 1388), (13, .aload_n 0, 1, 0), (14, .getfield 47, 3, 1192), (17, .iconst 2, 1, 0), (18, .iconst 0, 1, 0), (19, .invokestatic 188, 3, 1388), (22, .aload_n 0, 1, 0), (23, .getfield 47, 3, 1192), (26, .iconst 4, 1, 0), (27, .ldc 204, 2, 1403), (29, .invokestatic 195, 3, 1385), (32, .bipush 8, 2, 0), (34, .istore_n 3, 1, 0), (35, .iload_n 3, 1, 0), (36, .bipush 20, 2, 0), (38, .if_icmp .ge 21, 3, 0), (41, .aload_n 0, 1, 0), (42, .getfield 47, 3, 1192), (45, .iload_n 3, 1, 0), (46, .aload_n 0, 1, 0), (47, .getfield 44, 3, 1190), (50, .iload_n 3, 1, 0), (51, .iaload, 1, 0), (52, .iastore, 1, 0), (53, .iinc 3 1, 3, 0), (56, .goto (-21), 3, 0), (59, .aload_n 0, 1, 0), (60, .bipush 20, 2, 0), (62, .putfield 327, 3, 1193), (65, .return_, 1, 0)]
noncomputable def am_r226 : List (Nat × Instr × Nat × Nat) := [(0, .iload_n 0, 1, 0), (1, .bipush 15, 2, 0), (3, .iand, 1, 0), (4, .iload_n 1, 1, 0), (5, .iconst 1, 1, 0), (6, .iand, 1, 0), (7, .iconst 4, 1, 0), (8, .ishl, 1, 0), (9, .ior, 1, 0), (10, .iload_n 0, 1, 0), (11, .iconst 4, 1, 0), (12, .ishr, 1, 0), (13, .bipush 7, 2, 0), (15, .iand, 1, 0), (16, .iconst 5, 1, 0), (17, .ishl, 1, 0), (18, .ior, 1, 0), (19, .iload_n 1, 1, 0), (20, .iconst 1, 1, 0), (21, .ishr, 1, 0), (22, .bipush 8, 2, 0), (24, .ishl, 1, 0), (25, .ior, 1, 0), (26, .iload_n 0, 1, 0), (27, .bipush 7, 2, 0), (29, .ishr, 1, 0), (30, .bipush 31, 2, 0), (32, .iand, 1, 0), (33, .bipush 9, 2, 0), (35, .ishl, 1, 0), (36, .ior, 1, 0), (37, .ireturn, 1, 0)]
noncomputable def am_r227 : List (Nat × Instr × Nat × Nat) := [(0, .iload_n 0, 1, 0), (1, .bipush 15, 2, 0), (3, .iand, 1, 0), (4, .iload_n 0, 1, 0), (5, .iconst 5, 1, 0), (6, .ishr, 1, 0), (7, .bipush 7, 2, 0), (9, .iand, 1, 0), (10, .iconst 4, 1, 0), (11, .ishl, 1, 0), (12, .ior, 1, 0), (13, .iload_n 0, 1, 0), (14, .bipush 9, 2, 0), (16, .ishr, 1, 0), (17, .bipush 31, 2, 0), (19, .iand, 1, 0), (20, .bipush 7, 2, 0), (22, .ishl, 1, 0), (23, .ior, 1, 0), (24, .ireturn, 1, 0)]
noncomputable def am_r228 : List (Nat × Instr × Nat × Nat) := [(0, .iload_n 0, 1, 0), (1, .iconst 4, 1, 0), (2, .ishr, 1, 0), (3, .iconst 1, 1, 0), (4, .iand, 1, 0), (5, .iload_n 0, 1, 0), (6, .bipush 8, 2, 0), (8, .ishr, 1, 0), (9, .iconst 1, 1, 0), (10, .iand, 1, 0), (11, .iconst 1, 1, 0), (12, .ishl, 1, 0), (13, .ior, 1, 0), (14, .ireturn, 1, 0)]
noncomputable def am_r229 : List (Nat × Instr × Nat × Nat) := [(0, .aload_n 0, 1, 0), (1, .getfield 327, 3, 1193), (4, .iconst 4, 1, 0), (5, .iadd, 1, 0), (6, .istore_n 3, 1, 0), (7, .aload_n 0, 1, 0), (8, .getfield 47, 3, 1192), (11, .aload_n 0, 1, 0), (12, .getfield 327, 3, 1193), (15, .iload_n 1, 1, 0), (16, .invokestatic 188, 3, 1388), (19, .aload_n 0, 1, 0), (20, .getfield 47, 3, 1192), (23, .aload_n 0, 1, 0), (24, .getfield 327, 3, 1193), (27, .iconst 2, 1, 0), (28, .iadd, 1, 0), (29, .iload_n 2, 1, 0), (30, .invokestatic 188, 3, 1388), (33, .iconst 4, 1, 0), (34, .iload_n 2, 1, 0), (35, .iconst 3, 1, 0), (36, .iadd, 1, 0), (37, .iconst 4, 1, 0), (38, .idiv, 1, 0), (39, .iconst 4, 1, 0), (40, .imul, 1, 0), (41, .iadd, 1, 0), (42, .istore 4, 2, 0), (44, .iconst 4, 1, 0), (45, .istore 5, 2, 0), (47, .iload 5, 2, 0), (49, .iload 4, 2, 0), (51, .if_icmp .ge 22, 3, 0), (54, .aload_n 0, 1, 0), (55, .getfield 47, 3, 1192), (58, .aload_n 0, 1, 0), (59, .getfield 327, 3, 1193), (62, .iload 5, 2, 0), (64, .iadd, 1, 0), (65, .iconst 0, 1, 0), (66, .iastore, 1, 0), (67, .iinc 5 1, 3, 0), (70, .goto (-23), 3, 0), (73, .aload_n 0, 1, 0), (74, .dup, 1, 0), (75, .getfield 327, 3, 1193), (78, .iload 4, 2, 0), (80, .iadd, 1, 0), (81, .putfield 327, 3, 1193), (84, .aload_n 0, 1, 0), (85, .getfield 47, 3, 1192), (88, .iconst 2, 1, 0), (89, .aload_n 0, 1, 0), (90, .getfield 327, 3, 1193), (93, .bipush 20, 2, 0), (95, .isub, 1, 0), (96, .invokestatic 188, 3, 1388), (99, .iload_n 3, 1, 0), (100, .ireturn, 1, 0)]
noncomputable def am_r230 : List (Nat × Instr × Nat × Nat) := [(0, .aload_n 0, 1, 0), (1, .getfield 47, 3, 1192), (4, .aload_n 0, 1, 0), (5, .iload_n 1, 1, 0), (6, .bipush 8, 2, 0), (8, .invokevirtual 333, 3, 1648), (11, .iload_n 2, 1, 0), (12, .iload_n 3, 1, 0), (13, .invokestatic 216, 3, 1429), (16, .return_, 1, 0)]
noncomputable def am_r231 : List (Nat × Instr × Nat × Nat) := [(0, .aload_n 0, 1, 0), (1, .getfield 47, 3, 1192), (4, .aload_n 0, 1, 0), (5, .iload_n 1, 1, 0), (6, .iconst 4, 1, 0), (7, .invokevirtual 333, 3, 1648), (10, .iload_n 2, 1, 0), (11, .invokestatic 195, 3, 1385), (14, .return_, 1, 0)]
noncomputable def am_r232 : List (Nat × Instr × Nat × Nat) := [(0, .aload_n 0, 1, 0), (1, .getfield 336, 3, 1243), (4, .ifCond .lt 74, 3, 0), (7, .aload_n 0, 1, 0), (8, .aload_n 0, 1, 0), (9, .getfield 53, 3, 1200), (12, .aload_n 0, 1, 0), (13, .getfield 336, 3, 1243), (16, .laload, 1, 0), (17, .aload_n 0, 1, 0), (18, .getfield 56, 3, 1201), (21, .aload_n 0, 1, 0), (22, .getfield 336, 3, 1243), (25, .laload, 1, 0), (26, .invokevirtual 228, 3, 1442), (29, .aload_n 0, 1, 0), (30, .aload_n 0, 1, 0), (31, .getfield 47, 3, 1192), (34, .aload_n 0, 1, 0), (35, .getfield 327, 3, 1193), (38, .invokevirtual 232, 3, 1470), (41, .aload_n 0, 1, 0), (42, .bipush 28, 2, 0), (44, .bipush 32, 2, 0), (46, .invokevirtual 333, 3, 1648), (49, .istore_n 1, 1, 0), (50, .iconst 0, 1, 0), (51, .istore_n 2, 1, 0), (52, .iload_n 2, 1, 0), (53, .bipush 32, 2, 0), (55, .if_icmp .ge 23, 3, 0), (58, .aload_n 0, 1, 0), (59, .getfield 47, 3, 1192), (62, .iload_n 1, 1, 0), (63, .iload_n 2, 1, 0), (64, .iadd, 1, 0), (65, .aload_n 0, 1, 0), (66, .getfield 35, 3, 1187), (69, .iload_n 2, 1, 0), (70, .iaload, 1, 0), (71, .iastore, 1, 0), (72, .iinc 2 1, 3, 0), (75, .goto (-23), 3, 0), (78, .aload_n 0, 1, 0), (79, .getfield 287, 3, 1231), (82, .ifCond .lt 29, 3, 0), (85, .aload_n 0, 1, 0), (86, .ldc 236, 2, 1478), (88, .iconst 4, 1, 0), (89, .invokevirtual 333, 3, 1648), (92, .istore_n 1, 1, 0), (93, .aload_n 0, 1, 0), (94, .getfield 47, 3, 1192), (97, .iload_n 1, 1, 0), (98, .aload_n 0, 1, 0), (99, .getfield 47, 3, 1192), (102, .iload_n 1, 1, 0), (103, .iconst 4, 1, 0), (104, .isub, 1, 0), (105, .invokestatic 237, 3, 1479), (108, .invokestatic 195, 3, 1385), (111, .aload_n 0, 1, 0), (112, .aload_n 0, 1, 0), (113, .getfield 339, 3, 1241), (116, .aload_n 0, 1, 0), (117, .getfield 342, 3, 1242), (120, .sipush 3478, 3, 0), (123, .invokevirtual 345, 3, 1572), (126, .return_, 1, 0)]
noncomputable def am_r233 : List (Nat × Instr × Nat × Nat) := [(0, .aload_n 0, 1, 0), (1, .aload_n 0, 1, 0), (2, .getfield 44, 3, 1190), (5, .iconst 0, 1, 0), (6, .invokestatic 184, 3, 1546), (9, .invokestatic 348, 3, 1591), (12, .iconst 3, 1, 0), (13, .invokevirtual 352, 3, 1637), (16, .aload_n 0, 1, 0), (17, .bipush 9, 2, 0), (19, .iload_n 1, 1, 0), (20, .bipush 100, 2, 0), (22, .idiv, 1, 0), (23, .bipush 8, 2, 0), (25, .ishl, 1, 0), (26, .iload_n 1, 1, 0), (27, .bipush 100, 2, 0), (29, .irem, 1, 0), (30, .ior, 1, 0), (31, .invokevirtual 356, 3, 1644), (34, .iload_n 1, 1, 0), (35, .sipush 401, 3, 0), (38, .if_icmp .eq 10, 3, 0), (41, .iload_n 1, 1, 0), (42, .sipush 438, 3, 0), (45, .if_icmp .ne 84, 3, 0), (48, .aload_n 0, 1, 0), (49, .bipush 20, 2, 0), (51, .aload_n 0, 1, 0), (52, .getfield 134, 3, 1204), (55, .invokevirtual 333, 3, 1648), (58, .istore_n 2, 1, 0), (59, .iconst 0, 1, 0), (60, .istore_n 3, 1, 0), (61, .iload_n 3, 1, 0), (62, .aload_n 0, 1, 0), (63, .getfield 134, 3, 1204), (66, .if_icmp .ge 23, 3, 0), (69, .aload_n 0, 1, 0), (70, .getfield 47, 3, 1192), (73, .iload_n 2, 1, 0), (74, .iload_n 3, 1, 0), (75, .iadd, 1, 0), (76, .aload_n 0, 1, 0), (77, .getfield 59, 3, 1203), (80, .iload_n 3, 1, 0), (81, .iaload, 1, 0), (82, .iastore, 1, 0), (83, .iinc 3 1, 3, 0), (86, .goto (-25), 3, 0), (89, .aload_n 0, 1, 0), (90, .bipush 21, 2, 0), (92, .bipush 8, 2, 0), (94, .invokevirtual 333, 3, 1648), (97, .istore_n 3, 1, 0), (98, .aload_n 0, 1, 0), (99, .getfield 47, 3, 1192), (102, .iload_n 3, 1, 0), (103, .aload_n 0, 1, 0), (104, .getfield 253, 3, 1205), (107, .bipush 32, 2, 0), (109, .lshr, 1, 0), (110, .l2i, 1, 0), (111, .invokestatic 195, 3, 1385), (114, .aload_n 0, 1, 0), (115, .getfield 47, 3, 1192), (118, .iload_n 3, 1, 0), (119, .iconst 4, 1, 0), (120, .iadd, 1, 0), (121, .aload_n 0, 1, 0), (122, .getfield 253, 3, 1205), (125, .l2i, 1, 0), (126, .invokestatic 195, 3, 1385), (129, .iload_n 1, 1, 0), (130, .sipush 420, 3, 0), (133, .if_icmp .ne 50, 3, 0), (136, .aload_n 0, 1, 0), (137, .bipush 10, 2, 0), (139, .iconst 2, 1, 0), (140, .aload_n 0, 1, 0), (141, .getfield 304, 3, 1234), (144, .imul, 1, 0), (145, .invokevirtual 333, 3, 1648), (148, .istore_n 2, 1, 0), (149, .iconst 0, 1, 0), (150, .istore_n 3, 1, 0), (151, .iload_n 3, 1, 0), (152, .aload_n 0, 1, 0), (153, .getfield 304, 3, 1234), (156, .if_icmp .ge 27, 3, 0), (159, .aload_n 0, 1, 0), (160, .getfield 47, 3, 1192), (163, .iload_n 2, 1, 0), (164, .iconst 2, 1, 0), (165, .iload_n 3, 1, 0), (166, .imul, 1, 0), (167, .iadd, 1, 0), (168, .aload_n 0, 1, 0), (169, .getfield 127, 3, 1233), (172, .iload_n 3, 1, 0), (173, .iaload, 1, 0), (174, .invokestatic 188, 3, 1388), (177, .iinc 3 1, 3, 0), (180, .goto (-29), 3, 0), (183, .aload_n 0, 1, 0), (184, .dup, 1, 0), (185, .getfield 359, 3, 1239), (188, .iconst 1, 1, 0), (189, .iadd, 1, 0), (190, .putfield 359, 3, 1239), (193, .aload_n 0, 1, 0), (194, .invokevirtual 362, 3, 1652), (197, .return_, 1, 0)]
noncomputable def am_r234 : List (Nat × Instr × Nat × Nat) := [(0, .aload_n 0, 1, 0), (1, .iconst 0, 1, 0), (2, .putfield 137, 3, 1176), (5, .iload_n 2, 1, 0), (6, .i2l, 1, 0), (7, .lconst 1, 1, 0), (8, .ldc2_w 152, 3, 1171), (11, .invokestatic 200, 3, 1400), (14, .ifCond .ne 5, 3, 0), (17, .iconst (-1), 1, 0), (18, .ireturn, 1, 0), (19, .aload_n 0, 1, 0), (20, .invokevirtual 365, 3, 1538), (23, .aload_n 0, 1, 0), (24, .iload_n 1, 1, 0), (25, .putfield 339, 3, 1241), (28, .aload_n 0, 1, 0), (29, .iload_n 2, 1, 0), (30, .putfield 342, 3, 1242), (33, .aload_n 0, 1, 0), (34, .iconst (-1), 1, 0), (35, .putfield 336, 3, 1243), (38, .aload_n 0, 1, 0), (39, .invokevirtual 368, 3, 1542), (42, .ifCond .eq 16, 3, 0), (45, .aload_n 0, 1, 0), (46, .aload_n 0, 1, 0), (47, .iload_n 1, 1, 0), (48, .iload_n 2, 1, 0), (49, .invokevirtual 372, 3, 1552), (52, .invokevirtual 375, 3, 1556), (55, .goto 22, 3, 0), (58, .aload_n 0, 1, 0), (59, .aload_n 0, 1, 0), (60, .getfield 44, 3, 1190), (63, .aload_n 0, 1, 0), (64, .getfield 192, 3, 1191), (67, .invokevirtual 378, 3, 1576), (70, .ifCond .eq 7, 3, 0), (73, .aload_n 0, 1, 0), (74, .invokevirtual 382, 3, 1587), (77, .aload_n 0, 1, 0), (78, .invokevirtual 385, 3, 1722), (81, .ireturn, 1, 0)]
noncomputable def am_r235 : List (Nat × Instr × Nat × Nat) := [(0, .aload_n 0, 1, 0), (1, .iconst 0, 1, 0), (2, .putfield 192, 3, 1191), (5, .aload_n 0, 1, 0), (6, .dup, 1, 0), (7, .getfield 388, 3, 1240), (10, .aload_n 0, 1, 0), (11, .getfield 311, 3, 1194), (14, .ifCond .eq 7, 3, 0), (17, .iconst 0, 1, 0), (18, .goto 4, 3, 0), (21, .iconst 1, 1, 0), (22, .iadd, 1, 0), (23, .putfield 388, 3, 1240), (26, .aload_n 0, 1, 0), (27, .getfield 311, 3, 1194), (30, .ifCond .eq 7, 3, 0), (33, .iconst 1, 1, 0), (34, .goto 4, 3, 0), (37, .iconst 0, 1, 0), (38, .ireturn, 1, 0)]
noncomputable def am_r236 : List (Nat × Instr × Nat × Nat) := [(0, .aload_n 0, 1, 0), (1, .getfield 192, 3, 1191), (4, .iconst 4, 1, 0), (5, .if_icmp .lt 24, 3, 0), (8, .aload_n 0, 1, 0), (9, .getfield 44, 3, 1190), (12, .iconst 0, 1, 0), (13, .invokestatic 184, 3, 1546), (16, .i2l, 1, 0), (17, .ldc2_w 391, 3, 1549), (20, .ldc2_w 393, 3, 1550), (23, .invokestatic 200, 3, 1400), (26, .ifCond .ne 5, 3, 0), (29, .iconst 0, 1, 0), (30, .ireturn, 1, 0), (31, .aload_n 0, 1, 0), (32, .getfield 44, 3, 1190), (35, .iconst 2, 1, 0), (36, .invokestatic 184, 3, 1546), (39, .istore_n 1, 1, 0), (40, .aload_n 0, 1, 0), (41, .getfield 192, 3, 1191), (44, .i2l, 1, 0), (45, .ldc2_w 205, 3, 1408), (48, .iload_n 1, 1, 0), (49, .i2l, 1, 0), (50, .ladd, 1, 0), (51, .ldc2_w 395, 3, 1551), (54, .iload_n 1, 1, 0), (55, .i2l, 1, 0), (56, .ladd, 1, 0), (57, .invokestatic 200, 3, 1400), (60, .ireturn, 1, 0)]
noncomputable def am_r237 : List (Nat × Instr × Nat × Nat) := [(0, .iload_n 1, 1, 0), (1, .ifCond .ge 4, 3, 0), (4, .return_, 1, 0), (5, .aload_n 0, 1, 0), (6, .iload_n 1, 1, 0), (7, .aload_n 0, 1, 0), (8, .getfield 44, 3, 1190), (11, .iconst 0, 1, 0), (12, .invokestatic 184, 3, 1546), (15, .invokevirtual 397, 3, 1560), (18, .istore_n 2, 1, 0), (19, .iload_n 2, 1, 0), (20, .ifCond .lt 22, 3, 0), (23, .aload_n 0, 1, 0), (24, .iload_n 1, 1, 0), (25, .aload_n 0, 1, 0), (26, .getfield 109, 3, 1223), (29, .bipush 8, 2, 0), (31, .iload_n 1, 1, 0), (32, .imul, 1, 0), (33, .iload_n 2, 1, 0), (34, .iadd, 1, 0), (35, .iaload, 1, 0), (36, .invokevirtual 273, 3, 1564), (39, .ifCond .ge 4, 3, 0), (42, .return_, 1, 0), (43, .aload_n 0, 1, 0), (44, .iload_n 1, 1, 0), (45, .iconst 4, 1, 0), (46, .aload_n 0, 1, 0), (47, .getfield 44, 3, 1190), (50, .iconst 2, 1, 0), (51, .invokestatic 184, 3, 1546), (54, .aload_n 0, 1, 0), (55, .getfield 109, 3, 1223), (58, .bipush 8, 2, 0), (60, .iload_n 1, 1, 0), (61, .imul, 1, 0), (62, .iload_n 2, 1, 0), (63, .iadd, 1, 0), (64, .iaload, 1, 0), (65, .aload_n 0, 1, 0), (66, .getfield 112, 3, 1224), (69, .bipush 8, 2, 0), (71, .iload_n 1, 1, 0), (72, .imul, 1, 0), (73, .iload_n 2, 1, 0), (74, .iadd, 1, 0), (75, .iaload, 1, 0), (76, .invokevirtual 400, 3, 1568), (79, .return_, 1, 0)]
noncomputable def am_r238 : List (Nat × Instr × Nat × Nat) := [(0, .iconst 0, 1, 0), (1, .istore 6, 2, 0), (3, .iload 6, 2, 0), (5, .iload_n 3, 1, 0), (6, .if_icmp .ge 25, 3, 0), (9, .aload_n 0, 1, 0), (10, .getfield 47, 3, 1192), (13, .iload 6, 2, 0), (15, .aload_n 0, 1, 0), (16, .getfield 44, 3, 1190), (19, .iload_n 2, 1, 0), (20, .iload 6, 2, 0), (22, .iadd, 1, 0), (23, .iaload, 1, 0), (24, .iastore, 1, 0), (25, .iinc 6 1, 3, 0), (28, .goto (-25), 3, 0), (31, .aload_n 0, 1, 0), (32, .iload_n 3, 1, 0), (33, .putfield 327, 3, 1193), (36, .aload_n 0, 1, 0), (37, .dup, 1, 0), (38, .getfield 404, 3, 1237), (41, .iconst 1, 1, 0), (42, .iadd, 1, 0), (43, .putfield 404, 3, 1237), (46, .aload_n 0, 1, 0), (47, .iload 4, 2, 0), (49, .iload 5, 2, 0), (51, .aload_n 0, 1, 0), (52, .getfield 85, 3, 1215), (55, .iload_n 1, 1, 0), (56, .iaload, 1, 0), (57, .invokevirtual 345, 3, 1572), (60, .return_, 1, 0)]
noncomputable def am_r239 : List (Nat × Instr × Nat × Nat) := [(0, .aload_n 0, 1, 0), (1, .getfield 287, 3, 1231), (4, .ifCond .lt 42, 3, 0), (7, .aload_n 0, 1, 0), (8, .getfield 287, 3, 1231), (11, .aload_n 0, 1, 0), (12, .getfield 290, 3, 1232), (15, .if_icmp .ne 30, 3, 0), (18, .aload_n 0, 1, 0), (19, .getfield 44, 3, 1190), (22, .aload_n 0, 1, 0), (23, .getfield 287, 3, 1231), (26, .iconst 4, 1, 0), (27, .iadd, 1, 0), (28, .invokestatic 278, 3, 1580), (31, .aload_n 0, 1, 0), (32, .getfield 44, 3, 1190), (35, .aload_n 0, 1, 0), (36, .getfield 287, 3, 1231), (39, .invokestatic 237, 3, 1479), (42, .if_icmp .eq 4, 3, 0), (45, .return_, 1, 0), (46, .aload_n 0, 1, 0), (47, .getfield 44, 3, 1190), (50, .iconst 0, 1, 0), (51, .invokestatic 184, 3, 1546), (54, .istore_n 1, 1, 0), (55, .iload_n 1, 1, 0), (56, .invokestatic 348, 3, 1591), (59, .istore_n 2, 1, 0), (60, .aload_n 0, 1, 0), (61, .invokevirtual 407, 3, 1594), (64, .iload_n 1, 1, 0), (65, .invokestatic 410, 3, 1602), (68, .iconst 1, 1, 0), (69, .if_icmp .ne 13, 3, 0), (72, .iload_n 2, 1, 0), (73, .bipush 6, 2, 0), (75, .if_icmp .ne 7, 3, 0), (78, .aload_n 0, 1, 0), (79, .invokevirtual 413, 3, 1605), (82, .iload_n 1, 1, 0), (83, .invokestatic 410, 3, 1602), (86, .ifCond .eq 4, 3, 0), (89, .return_, 1, 0), (90, .iload_n 2, 1, 0), (91, .iconst 1, 1, 0), (92, .if_icmp .ne 10, 3, 0), (95, .aload_n 0, 1, 0), (96, .invokevirtual 416, 3, 1629), (99, .goto 40, 3, 0), (102, .iload_n 2, 1, 0), (103, .iconst 3, 1, 0), (104, .if_icmp .eq 20, 3, 0), (107, .iload_n 2, 1, 0), (108, .iconst 4, 1, 0), (109, .if_icmp .eq 15, 3, 0), (112, .iload_n 2, 1, 0), (113, .bipush 8, 2, 0), (115, .if_icmp .eq 9, 3, 0), (118, .iload_n 2, 1, 0), (119, .bipush 9, 2, 0), (121, .if_icmp .ne 11, 3, 0), (124, .aload_n 0, 1, 0), (125, .iload_n 2, 1, 0), (126, .invokevirtual 419, 3, 1660), (129, .goto 10, 3, 0), (132, .aload_n 0, 1, 0), (133, .sipush 400, 3, 0), (136, .invokevirtual 422, 3, 1633), (139, .return_, 1, 0)]
noncomputable def am_r240 : List (Nat × Instr × Nat × Nat) := [(0, .aload_n 0, 1, 0), (1, .bipush 18, 2, 0), (3, .invokevirtual 425, 3, 1609), (6, .istore_n 1, 1, 0), (7, .aload_n 0, 1, 0), (8, .bipush 19, 2, 0), (10, .invokevirtual 425, 3, 1609), (13, .istore_n 2, 1, 0), (14, .aload_n 0, 1, 0), (15, .aload_n 0, 1, 0), (16, .getfield 339, 3, 1241), (19, .aload_n 0, 1, 0), (20, .getfield 342, 3, 1242), (23, .invokevirtual 372, 3, 1552), (26, .istore_n 3, 1, 0), (27, .iload_n 1, 1, 0), (28, .ifCond .lt 31, 3, 0), (31, .iload_n 2, 1, 0), (32, .ifCond .lt 27, 3, 0), (35, .aload_n 0, 1, 0), (36, .getfield 304, 3, 1234), (39, .ifCond .gt 20, 3, 0), (42, .iload_n 3, 1, 0), (43, .ifCond .lt 16, 3, 0), (46, .aload_n 0, 1, 0), (47, .iload_n 3, 1, 0), (48, .aload_n 0, 1, 0), (49, .iload_n 1, 1, 0), (50, .invokevirtual 428, 3, 1621), (53, .invokevirtual 273, 3, 1564), (56, .ifCond .ge 4, 3, 0), (59, .return_, 1, 0), (60, .aload_n 0, 1, 0), (61, .iload_n 3, 1, 0), (62, .aload_n 0, 1, 0), (63, .getfield 124, 3, 1228), (66, .iload_n 2, 1, 0), (67, .iaload, 1, 0), (68, .aload_n 0, 1, 0), (69, .getfield 121, 3, 1227), (72, .iload_n 2, 1, 0), (73, .iaload, 1, 0), (74, .aload_n 0, 1, 0), (75, .iload_n 1, 1, 0), (76, .invokevirtual 428, 3, 1621), (79, .aload_n 0, 1, 0), (80, .iload_n 1, 1, 0), (81, .invokevirtual 431, 3, 1625), (84, .invokevirtual 400, 3, 1568), (87, .return_, 1, 0)]
noncomputable def am_r241 : List (Nat × Instr × Nat × Nat) := [(0, .aload_n 0, 1, 0), (1, .getfield 304, 3, 1234), (4, .ifCond .le 11, 3, 0), (7, .aload_n 0, 1, 0), (8, .sipush 420, 3, 0), (11, .invokevirtual 422, 3, 1633), (14, .return_, 1, 0), (15, .aload_n 0, 1, 0), (16, .iconst 1, 1, 0), (17, .iconst 2, 1, 0), (18, .invokevirtual 352, 3, 1637), (21, .aload_n 0, 1, 0), (22, .bipush 32, 2, 0), (24, .aload_n 0, 1, 0), (25, .getfield 339, 3, 1241), (28, .aload_n 0, 1, 0), (29, .getfield 342, 3, 1242), (32, .invokevirtual 434, 3, 1656), (35, .aload_n 0, 1, 0), (36, .invokevirtual 362, 3, 1652), (39, .return_, 1, 0)]
noncomputable def am_r242 : List (Nat × Instr × Nat × Nat) := [(0, .aload_n 0, 1, 0), (1, .getfield 121, 3, 1227), (4, .iload_n 1, 1, 0), (5, .iaload, 1, 0), (6, .aload_n 0, 1, 0), (7, .getfield 134, 3, 1204), (10, .if_icmp .ne 7, 3, 0), (13, .iconst 1, 1, 0), (14, .goto 4, 3, 0), (17, .iconst 0, 1, 0), (18, .istore_n 2, 1, 0), (19, .iconst 0, 1, 0), (20, .istore_n 3, 1, 0), (21, .iload_n 3, 1, 0), (22, .aload_n 0, 1, 0), (23, .getfield 134, 3, 1204), (26, .if_icmp .ge 41, 3, 0), (29, .iload_n 2, 1, 0), (30, .ifCond .eq 37, 3, 0), (33, .aload_n 0, 1, 0), (34, .getfield 44, 3, 1190), (37, .aload_n 0, 1, 0), (38, .getfield 124, 3, 1228), (41, .iload_n 1, 1, 0), (42, .iaload, 1, 0), (43, .iload_n 3, 1, 0), (44, .iadd, 1, 0), (45, .iaload, 1, 0), (46, .aload_n 0, 1, 0), (47, .getfield 59, 3, 1203), (50, .iload_n 3, 1, 0), (51, .iaload, 1, 0), (52, .if_icmp .ne 7, 3, 0), (55, .iconst 1, 1, 0), (56, .goto 4, 3, 0), (59, .iconst 0, 1, 0), (60, .istore_n 2, 1, 0), (61, .iinc 3 1, 3, 0), (64, .goto (-43), 3, 0), (67, .iload_n 2, 1, 0), (68, .ireturn, 1, 0)]
noncomputable def am_r243 : List (Nat × Instr × Nat × Nat) := [(0, .lconst 0, 1, 0), (1, .lstore_n 2, 1, 0), (2, .iconst 1, 1, 0), (3, .istore 4, 2, 0), (5, .iconst 0, 1, 0), (6, .istore 5, 2, 0), (8, .iload 5, 2, 0), (10, .aload_n 0, 1, 0), (11, .getfield 121, 3, 1227), (14, .iload_n 1, 1, 0), (15, .iaload, 1, 0), (16, .if_icmp .ge 59, 3, 0), (19, .iload 4, 2, 0), (21, .ifCond .eq 24, 3, 0), (24, .aload_n 0, 1, 0), (25, .getfield 44, 3, 1190), (28, .aload_n 0, 1, 0), (29, .getfield 124, 3, 1228), (32, .iload_n 1, 1, 0), (33, .iaload, 1, 0), (34, .iload 5, 2, 0), (36, .iadd, 1, 0), (37, .iaload, 1, 0), (38, .ifCond .eq 7, 3, 0), (41, .iconst 1, 1, 0), (42, .goto 4, 3, 0), (45, .iconst 0, 1, 0), (46, .istore 4, 2, 0), (48, .lload_n 2, 1, 0), (49, .bipush 8, 2, 0), (51, .lshl, 1, 0), (52, .aload_n 0, 1, 0), (53, .getfield 44, 3, 1190), (56, .aload_n 0, 1, 0), (57, .getfield 124, 3, 1228), (60, .iload_n 1, 1, 0), (61, .iaload, 1, 0), (62, .iload 5, 2, 0), (64, .iadd, 1, 0), (65, .iaload, 1, 0), (66, .i2l, 1, 0), (67, .lor, 1, 0), (68, .lstore_n 2, 1, 0), (69, .iinc 5 1, 3, 0), (72, .goto (-64), 3, 0), (75, .iload 4, 2, 0), (77, .ifCond .eq 11, 3, 0), (80, .aload_n 0, 1, 0), (81, .lload_n 2, 1, 0), (82, .invokevirtual 249, 3, 1500), (85, .goto 4, 3, 0), (88, .iconst (-1), 1, 0), (89, .ireturn, 1, 0)]
noncomputable def am_r244 : List (Nat × Instr × Nat × Nat) := [(0, .aload_n 0, 1, 0), (1, .aload_n 0, 1, 0), (2, .getfield 53, 3, 1200), (5, .iload_n 1, 1, 0), (6, .laload, 1, 0), (7, .aload_n 0, 1, 0), (8, .getfield 56, 3, 1201), (11, .iload_n 1, 1, 0), (12, .laload, 1, 0), (13, .invokevirtual 228, 3, 1442), (16, .aload_n 0, 1, 0), (17, .aload_n 0, 1, 0), (18, .getfield 44, 3, 1190), (21, .aload_n 0, 1, 0), (22, .getfield 284, 3, 1230), (25, .invokevirtual 232, 3, 1470), (28, .iconst 1, 1, 0), (29, .istore_n 2, 1, 0), (30, .iconst 0, 1, 0), (31, .istore_n 3, 1, 0), (32, .iload_n 3, 1, 0), (33, .bipush 32, 2, 0), (35, .if_icmp .ge 41, 3, 0), (38, .iload_n 2, 1, 0), (39, .ifCond .eq 29, 3, 0), (42, .aload_n 0, 1, 0), (43, .getfield 44, 3, 1190), (46, .aload_n 0, 1, 0), (47, .getfield 284, 3, 1230), (50, .iconst 4, 1, 0), (51, .iadd, 1, 0), (52, .iload_n 3, 1, 0), (53, .iadd, 1, 0), (54, .iaload, 1, 0), (55, .aload_n 0, 1, 0), (56, .getfield 35, 3, 1187), (59, .iload_n 3, 1, 0), (60, .iaload, 1, 0), (61, .if_icmp .ne 7, 3, 0), (64, .iconst 1, 1, 0), (65, .goto 4, 3, 0), (68, .iconst 0, 1, 0), (69, .istore_n 2, 1, 0), (70, .iinc 3 1, 3, 0), (73, .goto (-41), 3, 0), (76, .iload_n 2, 1, 0), (77, .ireturn, 1, 0)]
noncomputable def am_r245 : List (Nat × Instr × Nat × Nat) := [(0, .aload_n 0, 1, 0), (1, .getfield 284, 3, 1230), (4, .ifCond .ge 11, 3, 0), (7, .aload_n 0, 1, 0), (8, .sipush 401, 3, 0), (11, .invokevirtual 422, 3, 1633), (14, .return_, 1, 0), (15, .aload_n 0, 1, 0), (16, .bipush 6, 2, 0), (18, .invokevirtual 425, 3, 1609), (21, .istore_n 2, 1, 0), (22, .aload_n 0, 1, 0), (23, .bipush 20, 2, 0), (25, .invokevirtual 425, 3, 1609), (28, .istore_n 3, 1, 0), (29, .aload_n 0, 1, 0), (30, .bipush 21, 2, 0), (32, .invokevirtual 425, 3, 1609), (35, .istore 4, 2, 0), (37, .iload_n 2, 1, 0), (38, .ifCond .lt 12, 3, 0), (41, .iload_n 3, 1, 0), (42, .ifCond .lt 8, 3, 0), (45, .iload 4, 2, 0), (47, .ifCond .ge 11, 3, 0), (50, .aload_n 0, 1, 0), (51, .sipush 400, 3, 0), (54, .invokevirtual 422, 3, 1633), (57, .return_, 1, 0), (58, .aload_n 0, 1, 0), (59, .getfield 44, 3, 1190), (62, .aload_n 0, 1, 0), (63, .getfield 124, 3, 1228), (66, .iload 4, 2, 0), (68, .iaload, 1, 0), (69, .invokestatic 278, 3, 1580), (72, .aload_n 0, 1, 0), (73, .getfield 253, 3, 1205), (76, .bipush 32, 2, 0), (78, .lshr, 1, 0), (79, .l2i, 1, 0), (80, .if_icmp .ne 27, 3, 0), (83, .aload_n 0, 1, 0), (84, .getfield 44, 3, 1190), (87, .aload_n 0, 1, 0), (88, .getfield 124, 3, 1228), (91, .iload 4, 2, 0), (93, .iaload, 1, 0), (94, .iconst 4, 1, 0), (95, .iadd, 1, 0), (96, .invokestatic 278, 3, 1580), (99, .aload_n 0, 1, 0), (100, .getfield 253, 3, 1205), (103, .l2i, 1, 0), (104, .if_icmp .eq 11, 3, 0), (107, .aload_n 0, 1, 0), (108, .sipush 438, 3, 0), (111, .invokevirtual 422, 3, 1633), (114, .return_, 1, 0), (115, .aload_n 0, 1, 0), (116, .iload_n 2, 1, 0), (117, .invokevirtual 437, 3, 1664), (120, .istore 5, 2, 0), (122, .iload 5, 2, 0), (124, .ifCond .lt 20, 3, 0), (127, .aload_n 0, 1, 0), (128, .iload_n 3, 1, 0), (129, .invokevirtual 440, 3, 1668), (132, .ifCond .eq 12, 3, 0), (135, .aload_n 0, 1, 0), (136, .iload 5, 2, 0), (138, .invokevirtual 443, 3, 1672), (141, .ifCond .ne 11, 3, 0), (144, .aload_n 0, 1, 0), (145, .sipush 401, 3, 0), (148, .invokevirtual 422, 3, 1633), (151, .return_, 1, 0), (152, .aload_n 0, 1, 0), (153, .getfield 304, 3, 1234), (156, .ifCond .le 11, 3, 0), (159, .aload_n 0, 1, 0), (160, .sipush 420, 3, 0), (163, .invokevirtual 422, 3, 1633), (166, .return_, 1, 0), (167, .aload_n 0, 1, 0), (168, .iload 5, 2, 0), (170, .putfield 336, 3, 1243), (173, .aload_n 0, 1, 0), (174, .aload_n 0, 1, 0), (175, .getfield 339, 3, 1241), (178, .aload_n 0, 1, 0), (179, .getfield 342, 3, 1242), (182, .invokevirtual 372, 3, 1552), (185, .istore 6, 2, 0), (187, .iload_n 1, 1, 0), (188, .iconst 3, 1, 0), (189, .if_icmp .ne 12, 3, 0), (192, .aload_n 0, 1, 0), (193, .iload 6, 2, 0), (195, .invokevirtual 446, 3, 1676), (198, .goto 75, 3, 0), (201, .iload 6, 2, 0), (203, .ifCond .ge 13, 3, 0), (206, .aload_n 0, 1, 0), (207, .sipush 437, 3, 0), (210, .invokevirtual 422, 3, 1633), (213, .goto 60, 3, 0), (216, .aload_n 0, 1, 0), (217, .getfield 82, 3, 1214), (220, .iload 6, 2, 0), (222, .iaload, 1, 0), (223, .iload 5, 2, 0), (225, .if_icmp .eq 13, 3, 0), (228, .aload_n 0, 1, 0), (229, .sipush 441, 3, 0), (232, .invokevirtual 422, 3, 1633), (235, .goto 38, 3, 0), (238, .iload_n 1, 1, 0), (239, .iconst 4, 1, 0), (240, .if_icmp .ne 12, 3, 0), (243, .aload_n 0, 1, 0), (244, .iload 6, 2, 0), (246, .invokevirtual 449, 3, 1697), (249, .goto 24, 3, 0), (252, .iload_n 1, 1, 0), (253, .bipush 8, 2, 0), (255, .if_icmp .ne 12, 3, 0), (258, .aload_n 0, 1, 0), (259, .iload 6, 2, 0), (261, .invokevirtual 452, 3, 1701), (264, .goto 9, 3, 0), (267, .aload_n 0, 1, 0), (268, .iload 6, 2, 0), (270, .invokevirtual 455, 3, 1714), (273, .return_, 1, 0)]
noncomputable def am_r246 : List (Nat × Instr × Nat × Nat) := [(0, .aload_n 0, 1, 0), (1, .bipush 13, 2, 0), (3, .invokevirtual 425, 3, 1609), (6, .istore_n 1, 1, 0), (7, .iload_n 1, 1, 0), (8, .ifCond .ge 9, 3, 0), (11, .ldc2_w 458, 3, 1694), (14, .goto 21, 3, 0), (17, .aload_n 0, 1, 0), (18, .getfield 44, 3, 1190), (21, .aload_n 0, 1, 0), (22, .getfield 124, 3, 1228), (25, .iload_n 1, 1, 0), (26, .iaload, 1, 0), (27, .invokestatic 278, 3, 1580), (30, .i2l, 1, 0), (31, .ldc2_w 460, 3, 1695), (34, .land, 1, 0), (35, .lstore_n 2, 1, 0), (36, .lload_n 2, 1, 0), (37, .ldc2_w 458, 3, 1694), (40, .lcmp, 1, 0), (41, .ifCond .ge 9, 3, 0), (44, .ldc2_w 458, 3, 1694), (47, .goto 18, 3, 0), (50, .lload_n 2, 1, 0), (51, .ldc2_w 462, 3, 1696), (54, .lcmp, 1, 0), (55, .ifCond .le 9, 3, 0), (58, .ldc2_w 462, 3, 1696), (61, .goto 4, 3, 0), (64, .lload_n 2, 1, 0), (65, .lreturn, 1, 0)]
noncomputable def am_r247 : List (Nat × Instr × Nat × Nat) := [(0, .iload_n 1, 1, 0), (1, .ifCond .lt 74, 3, 0), (4, .iconst 1, 1, 0), (5, .istore_n 2, 1, 0), (6, .iconst 0, 1, 0), (7, .istore_n 3, 1, 0), (8, .iload_n 3, 1, 0), (9, .iconst 3, 1, 0), (10, .if_icmp .ge 45, 3, 0), (13, .iload_n 2, 1, 0), (14, .ifCond .eq 33, 3, 0), (17, .aload_n 0, 1, 0), (18, .getfield 91, 3, 1217), (21, .iconst 3, 1, 0), (22, .iload_n 1, 1, 0), (23, .imul, 1, 0), (24, .iload_n 3, 1, 0), (25, .iadd, 1, 0), (26, .iaload, 1, 0), (27, .aload_n 0, 1, 0), (28, .getfield 44, 3, 1190), (31, .bipush 8, 2, 0), (33, .iconst 4, 1, 0), (34, .iload_n 3, 1, 0), (35, .imul, 1, 0), (36, .iadd, 1, 0), (37, .invokestatic 278, 3, 1580), (40, .if_icmp .ne 7, 3, 0), (43, .iconst 1, 1, 0), (44, .goto 4, 3, 0), (47, .iconst 0, 1, 0), (48, .istore_n 2, 1, 0), (49, .iinc 3 1, 3, 0), (52, .goto (-44), 3, 0), (55, .iload_n 2, 1, 0), (56, .ifCond .eq 11, 3, 0), (59, .aload_n 0, 1, 0), (60, .iload_n 1, 1, 0), (61, .invokevirtual 464, 3, 1680), (64, .goto 10, 3, 0), (67, .aload_n 0, 1, 0), (68, .sipush 437, 3, 0), (71, .invokevirtual 422, 3, 1633), (74, .return_, 1, 0), (75, .aload_n 0, 1, 0), (76, .bipush 25, 2, 0), (78, .invokevirtual 425, 3, 1609), (81, .istore_n 2, 1, 0), (82, .iload_n 2, 1, 0), (83, .ifCond .ge 11, 3, 0), (86, .aload_n 0, 1, 0), (87, .sipush 400, 3, 0), (90, .invokevirtual 422, 3, 1633), (93, .return_, 1, 0), (94, .aload_n 0, 1, 0), (95, .getfield 44, 3, 1190), (98, .aload_n 0, 1, 0), (99, .getfield 124, 3, 1228), (102, .iload_n 2, 1, 0), (103, .iaload, 1, 0), (104, .iaload, 1, 0), (105, .bipush 17, 2, 0), (107, .if_icmp .eq 11, 3, 0), (110, .aload_n 0, 1, 0), (111, .sipush 442, 3, 0), (114, .invokevirtual 422, 3, 1633), (117, .return_, 1, 0), (118, .iconst 0, 1, 0), (119, .istore_n 3, 1, 0), (120, .iconst (-1), 1, 0), (121, .istore 4, 2, 0), (123, .bipush 7, 2, 0), (125, .istore 5, 2, 0), (127, .iload 5, 2, 0), (129, .ifCond .lt 60, 3, 0), (132, .iload_n 3, 1, 0), (133, .aload_n 0, 1, 0), (134, .getfield 72, 3, 1211), (137, .iload 5, 2, 0), (139, .baload, 1, 0), (140, .ifCond .eq 21, 3, 0), (143, .aload_n 0, 1, 0), (144, .getfield 82, 3, 1214), (147, .iload 5, 2, 0), (149, .iaload, 1, 0), (150, .aload_n 0, 1, 0), (151, .getfield 336, 3, 1243), (154, .if_icmp .ne 7, 3, 0), (157, .iconst 1, 1, 0), (158, .goto 4, 3, 0), (161, .iconst 0, 1, 0), (162, .iadd, 1, 0), (163, .istore_n 3, 1, 0), (164, .aload_n 0, 1, 0), (165, .getfield 72, 3, 1211), (168, .iload 5, 2, 0), (170, .baload, 1, 0), (171, .ifCond .eq 8, 3, 0), (174, .iload 4, 2, 0), (176, .goto 5, 3, 0), (179, .iload 5, 2, 0), (181, .istore 4, 2, 0), (183, .iinc 5 (-1), 3, 0), (186, .goto (-59), 3, 0), (189, .iload_n 3, 1, 0), (190, .aload_n 0, 1, 0), (191, .getfield 62, 3, 1206), (194, .if_icmp .lt 13, 3, 0), (197, .aload_n 0, 1, 0), (198, .sipush 486, 3, 0), (201, .invokevirtual 422, 3, 1633), (204, .goto 30, 3, 0), (207, .iload 4, 2, 0), (209, .ifCond .ge 13, 3, 0), (212, .aload_n 0, 1, 0), (213, .sipush 508, 3, 0), (216, .invokevirtual 422, 3, 1633), (219, .goto 15, 3, 0), (222, .aload_n 0, 1, 0), (223, .iload 4, 2, 0), (225, .invokevirtual 467, 3, 1685), (228, .aload_n 0, 1, 0), (229, .iload 4, 2, 0), (231, .invokevirtual 464, 3, 1680), (234, .return_, 1, 0)]
noncomputable def am_r248 : List (Nat × Instr × Nat × Nat) := [(0, .ldc_w 470, 3, 1689), (3, .istore_n 2, 1, 0), (4, .iconst 1, 1, 0), (5, .istore_n 3, 1, 0), (6, .iload_n 3, 1, 0), (7, .ifCond .eq 67, 3, 0), (10, .iconst 0, 1, 0), (11, .istore_n 3, 1, 0), (12, .iconst 0, 1, 0), (13, .istore 4, 2, 0), (15, .iload 4, 2, 0), (17, .bipush 8, 2, 0), (19, .if_icmp .ge 40, 3, 0), (22, .iload_n 3, 1, 0), (23, .ifCond .ne 24, 3, 0), (26, .aload_n 0, 1, 0), (27, .getfield 72, 3, 1211), (30, .iload 4, 2, 0), (32, .baload, 1, 0), (33, .ifCond .eq 18, 3, 0), (36, .aload_n 0, 1, 0), (37, .getfield 85, 3, 1215), (40, .iload 4, 2, 0), (42, .iaload, 1, 0), (43, .iload_n 2, 1, 0), (44, .if_icmp .ne 7, 3, 0), (47, .iconst 1, 1, 0), (48, .goto 4, 3, 0), (51, .iconst 0, 1, 0), (52, .istore_n 3, 1, 0), (53, .iinc 4 1, 3, 0), (56, .goto (-41), 3, 0), (59, .iload_n 2, 1, 0), (60, .iload_n 3, 1, 0), (61, .ifCond .eq 7, 3, 0), (64, .iconst 1, 1, 0), (65, .goto 4, 3, 0), (68, .iconst 0, 1, 0), (69, .iadd, 1, 0), (70, .istore_n 2, 1, 0), (71, .goto (-65), 3, 0), (74, .aload_n 0, 1, 0), (75, .getfield 72, 3, 1211), (78, .iload_n 1, 1, 0), (79, .iconst 1, 1, 0), (80, .bastore, 1, 0), (81, .aload_n 0, 1, 0), (82, .getfield 76, 3, 1212), (85, .iload_n 1, 1, 0), (86, .aload_n 0, 1, 0), (87, .getfield 339, 3, 1241), (90, .iastore, 1, 0), (91, .aload_n 0, 1, 0), (92, .getfield 79, 3, 1213), (95, .iload_n 1, 1, 0), (96, .aload_n 0, 1, 0), (97, .getfield 342, 3, 1242), (100, .iastore, 1, 0), (101, .aload_n 0, 1, 0), (102, .getfield 82, 3, 1214), (105, .iload_n 1, 1, 0), (106, .aload_n 0, 1, 0), (107, .getfield 336, 3, 1243), (110, .iastore, 1, 0), (111, .aload_n 0, 1, 0), (112, .getfield 85, 3, 1215), (115, .iload_n 1, 1, 0), (116, .iload_n 2, 1, 0), (117, .iastore, 1, 0), (118, .aload_n 0, 1, 0), (119, .getfield 88, 3, 1216), (122, .iload_n 1, 1, 0), (123, .aload_n 0, 1, 0), (124, .getfield 261, 3, 1210), (127, .aload_n 0, 1, 0), (128, .invokevirtual 471, 3, 1690), (131, .ladd, 1, 0), (132, .lastore, 1, 0), (133, .iconst 0, 1, 0), (134, .istore 4, 2, 0), (136, .iload 4, 2, 0), (138, .iconst 3, 1, 0), (139, .if_icmp .ge 34, 3, 0), (142, .aload_n 0, 1, 0), (143, .getfield 91, 3, 1217), (146, .iconst 3, 1, 0), (147, .iload_n 1, 1, 0), (148, .imul, 1, 0), (149, .iload 4, 2, 0), (151, .iadd, 1, 0), (152, .aload_n 0, 1, 0), (153, .getfield 44, 3, 1190), (156, .bipush 8, 2, 0), (158, .iconst 4, 1, 0), (159, .iload 4, 2, 0), (161, .imul, 1, 0), (162, .iadd, 1, 0), (163, .invokestatic 278, 3, 1580), (166, .iastore, 1, 0), (167, .iinc 4 1, 3, 0), (170, .goto (-34), 3, 0), (173, .aload_n 0, 1, 0), (174, .getfield 94, 3, 1218), (177, .iload_n 1, 1, 0), (178, .iconst 0, 1, 0), (179, .iastore, 1, 0), (180, .aload_n 0, 1, 0), (181, .getfield 103, 3, 1221), (184, .iload_n 1, 1, 0), (185, .iconst 0, 1, 0), (186, .iastore, 1, 0), (187, .return_, 1, 0)]
noncomputable def am_r249 : List (Nat × Instr × Nat × Nat) := [(0, .aload_n 0, 1, 0), (1, .iconst 3, 1, 0), (2, .iconst 2, 1, 0), (3, .invokevirtual 352, 3, 1637), (6, .aload_n 0, 1, 0), (7, .bipush 22, 2, 0), (9, .ldc_w 475, 3, 1684), (12, .aload_n 0, 1, 0), (13, .getfield 85, 3, 1215), (16, .iload_n 1, 1, 0), (17, .iaload, 1, 0), (18, .invokevirtual 434, 3, 1656), (21, .aload_n 0, 1, 0), (22, .bipush 13, 2, 0), (24, .aload_n 0, 1, 0), (25, .getfield 88, 3, 1216), (28, .iload_n 1, 1, 0), (29, .laload, 1, 0), (30, .aload_n 0, 1, 0), (31, .getfield 261, 3, 1210), (34, .lsub, 1, 0), (35, .l2i, 1, 0), (36, .invokevirtual 356, 3, 1644), (39, .aload_n 0, 1, 0), (40, .bipush 32, 2, 0), (42, .aload_n 0, 1, 0), (43, .getfield 339, 3, 1241), (46, .aload_n 0, 1, 0), (47, .getfield 342, 3, 1242), (50, .invokevirtual 434, 3, 1656), (53, .aload_n 0, 1, 0), (54, .invokevirtual 362, 3, 1652), (57, .return_, 1, 0)]
noncomputable def am_r250 : List (Nat × Instr × Nat × Nat) := [(0, .aload_n 0, 1, 0), (1, .bipush 13, 2, 0), (3, .invokevirtual 425, 3, 1609), (6, .istore_n 2, 1, 0), (7, .iload_n 2, 1, 0), (8, .ifCond .lt 23, 3, 0), (11, .aload_n 0, 1, 0), (12, .getfield 44, 3, 1190), (15, .aload_n 0, 1, 0), (16, .getfield 124, 3, 1228), (19, .iload_n 2, 1, 0), (20, .iaload, 1, 0), (21, .invokestatic 278, 3, 1580), (24, .ifCond .ne 7, 3, 0), (27, .iconst 1, 1, 0), (28, .goto 4, 3, 0), (31, .iconst 0, 1, 0), (32, .istore_n 3, 1, 0), (33, .iload_n 3, 1, 0), (34, .ifCond .eq 13, 3, 0), (37, .aload_n 0, 1, 0), (38, .getfield 72, 3, 1211), (41, .iload_n 1, 1, 0), (42, .iconst 0, 1, 0), (43, .bastore, 1, 0), (44, .goto 18, 3, 0), (47, .aload_n 0, 1, 0), (48, .getfield 88, 3, 1216), (51, .iload_n 1, 1, 0), (52, .aload_n 0, 1, 0), (53, .getfield 261, 3, 1210), (56, .aload_n 0, 1, 0), (57, .invokevirtual 471, 3, 1690), (60, .ladd, 1, 0), (61, .lastore, 1, 0), (62, .aload_n 0, 1, 0), (63, .iconst 4, 1, 0), (64, .iconst 2, 1, 0), (65, .invokevirtual 352, 3, 1637), (68, .aload_n 0, 1, 0), (69, .bipush 13, 2, 0), (71, .iload_n 3, 1, 0), (72, .ifCond .eq 7, 3, 0), (75, .iconst 0, 1, 0), (76, .goto 15, 3, 0), (79, .aload_n 0, 1, 0), (80, .getfield 88, 3, 1216), (83, .iload_n 1, 1, 0), (84, .laload, 1, 0), (85, .aload_n 0, 1, 0), (86, .getfield 261, 3, 1210), (89, .lsub, 1, 0), (90, .l2i, 1, 0), (91, .invokevirtual 356, 3, 1644), (94, .aload_n 0, 1, 0), (95, .invokevirtual 362, 3, 1652), (98, .return_, 1, 0)]
noncomputable def am_r251 : List (Nat × Instr × Nat × Nat) := [(0, .iconst 0, 1, 0), (1, .istore_n 2, 1, 0), (2, .iconst 0, 1, 0), (3, .istore_n 3, 1, 0), (4, .iconst 0, 1, 0), (5, .istore 4, 2, 0), (7, .iconst 0, 1, 0), (8, .istore 5, 2, 0), (10, .iload 5, 2, 0), (12, .aload_n 0, 1, 0), (13, .getfield 281, 3, 1229), (16, .if_icmp .ge 159, 3, 0), (19, .aload_n 0, 1, 0), (20, .getfield 118, 3, 1226), (23, .iload 5, 2, 0), (25, .iaload, 1, 0), (26, .bipush 18, 2, 0), (28, .if_icmp .ne 141, 3, 0), (31, .aload_n 0, 1, 0), (32, .iload 5, 2, 0), (34, .invokevirtual 301, 3, 1613), (37, .ifCond .ne 6, 3, 0), (40, .goto 129, 3, 0), (43, .iinc 2 1, 3, 0), (46, .iload 4, 2, 0), (48, .ifCond .ne 16, 3, 0), (51, .aload_n 0, 1, 0), (52, .aload_n 0, 1, 0), (53, .iload 5, 2, 0), (55, .invokevirtual 428, 3, 1621), (58, .invokevirtual 476, 3, 1705), (61, .ifCond .eq 7, 3, 0), (64, .iconst 1, 1, 0), (65, .goto 4, 3, 0), (68, .iconst 0, 1, 0), (69, .istore 4, 2, 0), (71, .aload_n 0, 1, 0), (72, .iload_n 1, 1, 0), (73, .aload_n 0, 1, 0), (74, .iload 5, 2, 0), (76, .invokevirtual 428, 3, 1621), (79, .invokevirtual 273, 3, 1564), (82, .ifCond .ge 7, 3, 0), (85, .iconst 1, 1, 0), (86, .goto 4, 3, 0), (89, .iconst 0, 1, 0), (90, .istore 6, 2, 0), (92, .iconst 0, 1, 0), (93, .istore 7, 2, 0), (95, .iload 7, 2, 0), (97, .iload 5, 2, 0), (99, .if_icmp .ge 57, 3, 0), (102, .iload 6, 2, 0), (104, .ifCond .eq 52, 3, 0), (107, .aload_n 0, 1, 0), (108, .getfield 118, 3, 1226), (111, .iload 7, 2, 0), (113, .iaload, 1, 0), (114, .bipush 18, 2, 0), (116, .if_icmp .ne 27, 3, 0), (119, .aload_n 0, 1, 0), (120, .iload 7, 2, 0), (122, .invokevirtual 301, 3, 1613), (125, .ifCond .eq 18, 3, 0), (128, .aload_n 0, 1, 0), (129, .iload 7, 2, 0), (131, .invokevirtual 428, 3, 1621), (134, .aload_n 0, 1, 0), (135, .iload 5, 2, 0), (137, .invokevirtual 428, 3, 1621), (140, .if_icmp .eq 7, 3, 0), (143, .iconst 1, 1, 0), (144, .goto 4, 3, 0), (147, .iconst 0, 1, 0), (148, .istore 6, 2, 0), (150, .iinc 7 1, 3, 0), (153, .goto (-58), 3, 0), (156, .iload_n 3, 1, 0), (157, .iload 6, 2, 0), (159, .ifCond .eq 7, 3, 0), (162, .iconst 1, 1, 0), (163, .goto 4, 3, 0), (166, .iconst 0, 1, 0), (167, .iadd, 1, 0), (168, .istore_n 3, 1, 0), (169, .iinc 5 1, 3, 0), (172, .goto (-162), 3, 0), (175, .iload_n 2, 1, 0), (176, .ifCond .ne 13, 3, 0), (179, .aload_n 0, 1, 0), (180, .sipush 400, 3, 0), (183, .invokevirtual 422, 3, 1633), (186, .goto 102, 3, 0), (189, .iload 4, 2, 0), (191, .ifCond .eq 13, 3, 0), (194, .aload_n 0, 1, 0), (195, .sipush 403, 3, 0), (198, .invokevirtual 422, 3, 1633), (201, .goto 87, 3, 0), (204, .aload_n 0, 1, 0), (205, .getfield 94, 3, 1218), (208, .iload_n 1, 1, 0), (209, .iaload, 1, 0), (210, .iload_n 3, 1, 0), (211, .iadd, 1, 0), (212, .bipush 16, 2, 0), (214, .if_icmp .le 13, 3, 0), (217, .aload_n 0, 1, 0), (218, .sipush 508, 3, 0), (221, .invokevirtual 422, 3, 1633), (224, .goto 64, 3, 0), (227, .iconst 0, 1, 0), (228, .istore 5, 2, 0), (230, .iload 5, 2, 0), (232, .aload_n 0, 1, 0), (233, .getfield 281, 3, 1229), (236, .if_icmp .ge 41, 3, 0), (239, .aload_n 0, 1, 0), (240, .getfield 118, 3, 1226), (243, .iload 5, 2, 0), (245, .iaload, 1, 0), (246, .bipush 18, 2, 0), (248, .if_icmp .ne 23, 3, 0), (251, .aload_n 0, 1, 0), (252, .iload 5, 2, 0), (254, .invokevirtual 301, 3, 1613), (257, .ifCond .eq 14, 3, 0), (260, .aload_n 0, 1, 0), (261, .iload_n 1, 1, 0), (262, .aload_n 0, 1, 0), (263, .iload 5, 2, 0), (265, .invokevirtual 428, 3, 1621), (268, .invokevirtual 479, 3, 1709), (271, .iinc 5 1, 3, 0), (274, .goto (-44), 3, 0), (277, .aload_n 0, 1, 0), (278, .bipush 8, 2, 0), (280, .iconst 2, 1, 0), (281, .invokevirtual 352, 3, 1637), (284, .aload_n 0, 1, 0), (285, .invokevirtual 362, 3, 1652), (288, .return_, 1, 0)]
noncomputable def am_r252 : List (Nat × Instr × Nat × Nat) := [(0, .aload_n 0, 1, 0), (1, .bipush 12, 2, 0), (3, .invokevirtual 425, 3, 1609), (6, .istore_n 2, 1, 0), (7, .aload_n 0, 1, 0), (8, .bipush 18, 2, 0), (10, .invokevirtual 425, 3, 1609), (13, .istore_n 3, 1, 0), (14, .iload_n 2, 1, 0), (15, .ifCond .lt 33, 3, 0), (18, .iload_n 3, 1, 0), (19, .ifCond .lt 29, 3, 0), (22, .aload_n 0, 1, 0), (23, .getfield 44, 3, 1190), (26, .aload_n 0, 1, 0), (27, .getfield 124, 3, 1228), (30, .iload_n 2, 1, 0), (31, .iaload, 1, 0), (32, .invokestatic 184, 3, 1546), (35, .i2l, 1, 0), (36, .ldc2_w 391, 3, 1549), (39, .ldc2_w 393, 3, 1550), (42, .invokestatic 200, 3, 1400), (45, .ifCond .ne 11, 3, 0), (48, .aload_n 0, 1, 0), (49, .sipush 400, 3, 0), (52, .invokevirtual 422, 3, 1633), (55, .return_, 1, 0), (56, .aload_n 0, 1, 0), (57, .getfield 44, 3, 1190), (60, .aload_n 0, 1, 0), (61, .getfield 124, 3, 1228), (64, .iload_n 2, 1, 0), (65, .iaload, 1, 0), (66, .invokestatic 184, 3, 1546), (69, .istore 4, 2, 0), (71, .aload_n 0, 1, 0), (72, .iload_n 3, 1, 0), (73, .invokevirtual 428, 3, 1621), (76, .istore 5, 2, 0), (78, .aload_n 0, 1, 0), (79, .iload_n 3, 1, 0), (80, .invokevirtual 431, 3, 1625), (83, .istore 6, 2, 0), (85, .aload_n 0, 1, 0), (86, .iload_n 1, 1, 0), (87, .iload 4, 2, 0), (89, .invokevirtual 397, 3, 1560), (92, .istore 7, 2, 0), (94, .aload_n 0, 1, 0), (95, .iload_n 1, 1, 0), (96, .iload 5, 2, 0), (98, .iload 6, 2, 0), (100, .invokevirtual 482, 3, 1718), (103, .istore 8, 2, 0), (105, .iload 7, 2, 0), (107, .iload 8, 2, 0), (109, .if_icmp .eq 11, 3, 0), (112, .aload_n 0, 1, 0), (113, .sipush 400, 3, 0), (116, .invokevirtual 422, 3, 1633), (119, .return_, 1, 0), (120, .aload_n 0, 1, 0), (121, .iload 5, 2, 0), (123, .invokevirtual 476, 3, 1705), (126, .ifCond .eq 11, 3, 0), (129, .aload_n 0, 1, 0), (130, .sipush 403, 3, 0), (133, .invokevirtual 422, 3, 1633), (136, .return_, 1, 0), (137, .iload 7, 2, 0), (139, .ifCond .ge 14, 3, 0), (142, .aload_n 0, 1, 0), (143, .getfield 103, 3, 1221), (146, .iload_n 1, 1, 0), (147, .iaload, 1, 0), (148, .bipush 8, 2, 0), (150, .if_icmp .eq 24, 3, 0), (153, .aload_n 0, 1, 0), (154, .iload_n 1, 1, 0), (155, .iload 5, 2, 0), (157, .invokevirtual 273, 3, 1564), (160, .ifCond .ge 22, 3, 0), (163, .aload_n 0, 1, 0), (164, .getfield 94, 3, 1218), (167, .iload_n 1, 1, 0), (168, .iaload, 1, 0), (169, .bipush 16, 2, 0), (171, .if_icmp .ne 11, 3, 0), (174, .aload_n 0, 1, 0), (175, .sipush 508, 3, 0), (178, .invokevirtual 422, 3, 1633), (181, .return_, 1, 0), (182, .iload 7, 2, 0), (184, .ifCond .ge 63, 3, 0), (187, .aload_n 0, 1, 0), (188, .getfield 103, 3, 1221), (191, .iload_n 1, 1, 0), (192, .iaload, 1, 0), (193, .istore 7, 2, 0), (195, .aload_n 0, 1, 0), (196, .getfield 103, 3, 1221), (199, .iload_n 1, 1, 0), (200, .dup2, 1, 0), (201, .iaload, 1, 0), (202, .iconst 1, 1, 0), (203, .iadd, 1, 0), (204, .iastore, 1, 0), (205, .aload_n 0, 1, 0), (206, .getfield 106, 3, 1222), (209, .bipush 8, 2, 0), (211, .iload_n 1, 1, 0), (212, .imul, 1, 0), (213, .iload 7, 2, 0), (215, .iadd, 1, 0), (216, .iload 4, 2, 0), (218, .iastore, 1, 0), (219, .aload_n 0, 1, 0), (220, .getfield 109, 3, 1223), (223, .bipush 8, 2, 0), (225, .iload_n 1, 1, 0), (226, .imul, 1, 0), (227, .iload 7, 2, 0), (229, .iadd, 1, 0), (230, .iload 5, 2, 0), (232, .iastore, 1, 0), (233, .aload_n 0, 1, 0), (234, .getfield 112, 3, 1224), (237, .bipush 8, 2, 0), (239, .iload_n 1, 1, 0), (240, .imul, 1, 0), (241, .iload 7, 2, 0), (243, .iadd, 1, 0), (244, .iload 6, 2, 0), (246, .iastore, 1, 0), (247, .aload_n 0, 1, 0), (248, .getfield 115, 3, 1225), (251, .bipush 8, 2, 0), (253, .iload_n 1, 1, 0), (254, .imul, 1, 0), (255, .iload 7, 2, 0), (257, .iadd, 1, 0), (258, .aload_n 0, 1, 0), (259, .getfield 261, 3, 1210), (262, .ldc2_w 458, 3, 1694), (265, .ladd, 1, 0), (266, .lastore, 1, 0), (267, .aload_n 0, 1, 0), (268, .iload_n 1, 1, 0), (269, .iload 5, 2, 0), (271, .invokevirtual 479, 3, 1709), (274, .aload_n 0, 1, 0), (275, .bipush 9, 2, 0), (277, .iconst 2, 1, 0), (278, .invokevirtual 352, 3, 1637), (281, .aload_n 0, 1, 0), (282, .invokevirtual 362, 3, 1652), (285, .return_, 1, 0)]
noncomputable def am_r253 : List (Nat × Instr × Nat × Nat) := [(0, .aload_n 0, 1, 0), (1, .iconst 0, 1, 0), (2, .putfield 137, 3, 1176), (5, .iload_n 3, 1, 0), (6, .i2l, 1, 0), (7, .lconst 1, 1, 0), (8, .ldc2_w 152, 3, 1171), (11, .invokestatic 200, 3, 1400), (14, .ifCond .ne 5, 3, 0), (17, .iconst (-1), 1, 0), (18, .ireturn, 1, 0), (19, .aload_n 0, 1, 0), (20, .invokevirtual 365, 3, 1538), (23, .bipush 7, 2, 0), (25, .istore 4, 2, 0), (27, .iload 4, 2, 0), (29, .ifCond .lt 30, 3, 0), (32, .aload_n 0, 1, 0), (33, .getfield 72, 3, 1211), (36, .iload 4, 2, 0), (38, .baload, 1, 0), (39, .ifCond .eq 14, 3, 0), (42, .aload_n 0, 1, 0), (43, .getfield 85, 3, 1215), (46, .iload 4, 2, 0), (48, .iaload, 1, 0), (49, .iload_n 1, 1, 0), (50, .if_icmp .eq 9, 3, 0), (53, .iinc 4 (-1), 3, 0), (56, .goto (-29), 3, 0), (59, .iload 4, 2, 0), (61, .ifCond .lt 21, 3, 0), (64, .aload_n 0, 1, 0), (65, .iload 4, 2, 0), (67, .iload_n 2, 1, 0), (68, .invokevirtual 273, 3, 1564), (71, .ifCond .lt 11, 3, 0), (74, .aload_n 0, 1, 0), (75, .iload 4, 2, 0), (77, .iload_n 2, 1, 0), (78, .iload_n 3, 1, 0), (79, .invokevirtual 486, 3, 1730), (82, .aload_n 0, 1, 0), (83, .invokevirtual 385, 3, 1722), (86, .ireturn, 1, 0)]
noncomputable def am_r254 : List (Nat × Instr × Nat × Nat) := [(0, .aload_n 0, 1, 0), (1, .iload_n 1, 1, 0), (2, .iload_n 2, 1, 0), (3, .iload_n 3, 1, 0), (4, .invokevirtual 482, 3, 1718), (7, .istore 4, 2, 0), (9, .iload 4, 2, 0), (11, .ifCond .lt 82, 3, 0), (14, .aload_n 0, 1, 0), (15, .getfield 47, 3, 1192), (18, .iconst 0, 1, 0), (19, .aload_n 0, 1, 0), (20, .getfield 106, 3, 1222), (23, .bipush 8, 2, 0), (25, .iload_n 1, 1, 0), (26, .imul, 1, 0), (27, .iload 4, 2, 0), (29, .iadd, 1, 0), (30, .iaload, 1, 0), (31, .invokestatic 188, 3, 1388), (34, .aload_n 0, 1, 0), (35, .getfield 47, 3, 1192), (38, .iconst 2, 1, 0), (39, .aload_n 0, 1, 0), (40, .getfield 192, 3, 1191), (43, .invokestatic 188, 3, 1388), (46, .iconst 0, 1, 0), (47, .istore 5, 2, 0), (49, .iload 5, 2, 0), (51, .aload_n 0, 1, 0), (52, .getfield 192, 3, 1191), (55, .if_icmp .ge 25, 3, 0), (58, .aload_n 0, 1, 0), (59, .getfield 47, 3, 1192), (62, .iconst 4, 1, 0), (63, .iload 5, 2, 0), (65, .iadd, 1, 0), (66, .aload_n 0, 1, 0), (67, .getfield 44, 3, 1190), (70, .iload 5, 2, 0), (72, .iaload, 1, 0), (73, .iastore, 1, 0), (74, .iinc 5 1, 3, 0), (77, .goto (-28), 3, 0), (80, .aload_n 0, 1, 0), (81, .iconst 4, 1, 0), (82, .aload_n 0, 1, 0), (83, .getfield 192, 3, 1191), (86, .iadd, 1, 0), (87, .putfield 327, 3, 1193), (90, .goto 140, 3, 0), (93, .aload_n 0, 1, 0), (94, .getfield 47, 3, 1192), (97, .iconst 0, 1, 0), (98, .bipush 7, 2, 0), (100, .iconst 1, 1, 0), (101, .invokestatic 330, 3, 1641), (104, .invokestatic 188, 3, 1388), (107, .aload_n 0, 1, 0), (108, .getfield 47, 3, 1192), (111, .iconst 2, 1, 0), (112, .iconst 0, 1, 0), (113, .invokestatic 188, 3, 1388), (116, .aload_n 0, 1, 0), (117, .getfield 47, 3, 1192), (120, .iconst 4, 1, 0), (121, .ldc 204, 2, 1403), (123, .invokestatic 195, 3, 1385), (126, .aload_n 0, 1, 0), (127, .getfield 47, 3, 1192), (130, .bipush 8, 2, 0), (132, .iconst 0, 1, 0), (133, .invokestatic 195, 3, 1385), (136, .aload_n 0, 1, 0), (137, .getfield 47, 3, 1192), (140, .bipush 12, 2, 0), (142, .iconst 0, 1, 0), (143, .invokestatic 195, 3, 1385), (146, .aload_n 0, 1, 0), (147, .getfield 47, 3, 1192), (150, .bipush 16, 2, 0), (152, .aload_n 0, 1, 0), (153, .getfield 489, 3, 1236), (156, .invokestatic 195, 3, 1385), (159, .aload_n 0, 1, 0), (160, .bipush 20, 2, 0), (162, .putfield 327, 3, 1193), (165, .aload_n 0, 1, 0), (166, .bipush 18, 2, 0), (168, .iload_n 2, 1, 0), (169, .iload_n 3, 1, 0), (170, .invokevirtual 434, 3, 1656), (173, .aload_n 0, 1, 0), (174, .bipush 19, 2, 0), (176, .aload_n 0, 1, 0), (177, .getfield 192, 3, 1191), (180, .invokevirtual 333, 3, 1648), (183, .istore 5, 2, 0), (185, .iconst 0, 1, 0), (186, .istore 6, 2, 0), (188, .iload 6, 2, 0), (190, .aload_n 0, 1, 0), (191, .getfield 192, 3, 1191), (194, .if_icmp .ge 26, 3, 0), (197, .aload_n 0, 1, 0), (198, .getfield 47, 3, 1192), (201, .iload 5, 2, 0), (203, .iload 6, 2, 0), (205, .iadd, 1, 0), (206, .aload_n 0, 1, 0), (207, .getfield 44, 3, 1190), (210, .iload 6, 2, 0), (212, .iaload, 1, 0), (213, .iastore, 1, 0), (214, .iinc 6 1, 3, 0), (217, .goto (-29), 3, 0), (220, .aload_n 0, 1, 0), (221, .dup, 1, 0), (222, .getfield 489, 3, 1236), (225, .iconst 1, 1, 0), (226, .iadd, 1, 0), (227, .putfield 489, 3, 1236), (230, .aload_n 0, 1, 0), (231, .dup, 1, 0), (232, .getfield 492, 3, 1238), (235, .iconst 1, 1, 0), (236, .iadd, 1, 0), (237, .putfield 492, 3, 1238), (240, .aload_n 0, 1, 0), (241, .aload_n 0, 1, 0), (242, .getfield 76, 3, 1212), (245, .iload_n 1, 1, 0), (246, .iaload, 1, 0), (247, .aload_n 0, 1, 0), (248, .getfield 79, 3, 1213), (251, .iload_n 1, 1, 0), (252, .iaload, 1, 0), (253, .sipush 3478, 3, 0), (256, .invokevirtual 345, 3, 1572), (259, .return_, 1, 0)]
noncomputable def am_r255 : List (Nat × Instr × Nat × Nat) := [(0, .aload_n 0, 1, 0), (1, .getfield 311, 3, 1194), (4, .ifCond .eq 54, 3, 0), (7, .aload_n 0, 1, 0), (8, .getfield 327, 3, 1193), (11, .bipush 20, 2, 0), (13, .if_icmp .lt 45, 3, 0), (16, .aload_n 0, 1, 0), (17, .getfield 47, 3, 1192), (20, .iconst 0, 1, 0), (21, .iaload, 1, 0), (22, .bipush 63, 2, 0), (24, .if_icmp .gt 34, 3, 0), (27, .aload_n 0, 1, 0), (28, .getfield 47, 3, 1192), (31, .iconst 4, 1, 0), (32, .invokestatic 278, 3, 1580), (35, .ldc 204, 2, 1403), (37, .if_icmp .ne 21, 3, 0), (40, .aload_n 0, 1, 0), (41, .getfield 47, 3, 1192), (44, .iconst 2, 1, 0), (45, .invokestatic 184, 3, 1546), (48, .aload_n 0, 1, 0), (49, .getfield 327, 3, 1193), (52, .bipush 20, 2, 0), (54, .isub, 1, 0), (55, .if_icmp .eq 5, 3, 0), (58, .iconst 0, 1, 0), (59, .ireturn, 1, 0), (60, .bipush 20, 2, 0), (62, .istore_n 1, 1, 0), (63, .iload_n 1, 1, 0), (64, .aload_n 0, 1, 0), (65, .getfield 327, 3, 1193), (68, .if_icmp .ge 37, 3, 0), (71, .iload_n 1, 1, 0), (72, .iconst 4, 1, 0), (73, .iadd, 1, 0), (74, .aload_n 0, 1, 0), (75, .getfield 327, 3, 1193), (78, .if_icmp .gt 27, 3, 0), (81, .iload_n 1, 1, 0), (82, .iconst 4, 1, 0), (83, .aload_n 0, 1, 0), (84, .getfield 47, 3, 1192), (87, .iload_n 1, 1, 0), (88, .iconst 2, 1, 0), (89, .iadd, 1, 0), (90, .invokestatic 184, 3, 1546), (93, .iconst 3, 1, 0), (94, .iadd, 1, 0), (95, .iconst 4, 1, 0), (96, .idiv, 1, 0), (97, .iconst 4, 1, 0), (98, .imul, 1, 0), (99, .iadd, 1, 0), (100, .iadd, 1, 0), (101, .istore_n 1, 1, 0), (102, .goto (-39), 3, 0), (105, .iload_n 1, 1, 0), (106, .aload_n 0, 1, 0), (107, .getfield 327, 3, 1193), (110, .if_icmp .ne 7, 3, 0), (113, .iconst 1, 1, 0), (114, .goto 4, 3, 0), (117, .iconst 0, 1, 0), (118, .ireturn, 1, 0)]
noncomputable def am_r256 : List (Nat × Instr × Nat × Nat) := [(0, .aload_n 0, 1, 0), (1, .invokevirtual 495, 3, 1739), (4, .ifCond .ne 5, 3, 0), (7, .iconst 0, 1, 0), (8, .ireturn, 1, 0), (9, .iconst 0, 1, 0), (10, .istore_n 1, 1, 0), (11, .bipush 20, 2, 0), (13, .istore_n 2, 1, 0), (14, .iload_n 2, 1, 0), (15, .aload_n 0, 1, 0), (16, .getfield 327, 3, 1193), (19, .if_icmp .ge 65, 3, 0), (22, .aload_n 0, 1, 0), (23, .getfield 118, 3, 1226), (26, .iload_n 1, 1, 0), (27, .aload_n 0, 1, 0), (28, .getfield 47, 3, 1192), (31, .iload_n 2, 1, 0), (32, .invokestatic 184, 3, 1546), (35, .iastore, 1, 0), (36, .aload_n 0, 1, 0), (37, .getfield 121, 3, 1227), (40, .iload_n 1, 1, 0), (41, .aload_n 0, 1, 0), (42, .getfield 47, 3, 1192), (45, .iload_n 2, 1, 0), (46, .iconst 2, 1, 0), (47, .iadd, 1, 0), (48, .invokestatic 184, 3, 1546), (51, .iastore, 1, 0), (52, .aload_n 0, 1, 0), (53, .getfield 124, 3, 1228), (56, .iload_n 1, 1, 0), (57, .iload_n 2, 1, 0), (58, .iconst 4, 1, 0), (59, .iadd, 1, 0), (60, .iastore, 1, 0), (61, .iload_n 2, 1, 0), (62, .iconst 4, 1, 0), (63, .aload_n 0, 1, 0), (64, .getfield 121, 3, 1227), (67, .iload_n 1, 1, 0), (68, .iaload, 1, 0), (69, .iconst 3, 1, 0), (70, .iadd, 1, 0), (71, .iconst 4, 1, 0), (72, .idiv, 1, 0), (73, .iconst 4, 1, 0), (74, .imul, 1, 0), (75, .iadd, 1, 0), (76, .iadd, 1, 0), (77, .istore_n 2, 1, 0), (78, .iinc 1 1, 3, 0), (81, .goto (-67), 3, 0), (84, .iload_n 1, 1, 0), (85, .ireturn, 1, 0)]
noncomputable def am_r257 : List (Nat × Instr × Nat × Nat) := [(0, .aload_n 0, 1, 0), (1, .iconst 0, 1, 0), (2, .putfield 137, 3, 1176), (5, .iload_n 1, 1, 0), (6, .i2l, 1, 0), (7, .lconst 0, 1, 0), (8, .ldc2_w 498, 3, 1738), (11, .invokestatic 200, 3, 1400), (14, .ifCond .ne 5, 3, 0), (17, .iconst (-1), 1, 0), (18, .ireturn, 1, 0), (19, .aload_n 0, 1, 0), (20, .getfield 311, 3, 1194), (23, .ifCond .ne 5, 3, 0), (26, .iconst 0, 1, 0), (27, .ireturn, 1, 0), (28, .iload_n 1, 1, 0), (29, .tableswitch 105 0 5 #[39, 44, 49, 54, 59, 82], 39, 0), (68, .aload_n 0, 1, 0), (69, .getfield 327, 3, 1193), (72, .ireturn, 1, 0), (73, .aload_n 0, 1, 0), (74, .getfield 315, 3, 1195), (77, .ireturn, 1, 0), (78, .aload_n 0, 1, 0), (79, .getfield 318, 3, 1196), (82, .ireturn, 1, 0), (83, .aload_n 0, 1, 0), (84, .getfield 321, 3, 1197), (87, .ireturn, 1, 0), (88, .aload_n 0, 1, 0), (89, .invokevirtual 495, 3, 1739), (92, .ifCond .eq 17, 3, 0), (95, .aload_n 0, 1, 0), (96, .getfield 47, 3, 1192), (99, .iconst 0, 1, 0), (100, .invokestatic 184, 3, 1546), (103, .invokestatic 348, 3, 1591), (106, .goto 4, 3, 0), (109, .iconst (-1), 1, 0), (110, .ireturn, 1, 0), (111, .aload_n 0, 1, 0), (112, .invokevirtual 495, 3, 1739), (115, .ifCond .eq 17, 3, 0), (118, .aload_n 0, 1, 0), (119, .getfield 47, 3, 1192), (122, .iconst 0, 1, 0), (123, .invokestatic 184, 3, 1546), (126, .invokestatic 410, 3, 1602), (129, .goto 4, 3, 0), (132, .iconst (-1), 1, 0), (133, .ireturn, 1, 0), (134, .aload_n 0, 1, 0), (135, .invokevirtual 500, 3, 1743), (138, .ireturn, 1, 0)]
noncomputable def am_r258 : List (Nat × Instr × Nat × Nat) := [(0, .aload_n 0, 1, 0), (1, .iconst 0, 1, 0), (2, .putfield 137, 3, 1176), (5, .aload_n 0, 1, 0), (6, .getfield 311, 3, 1194), (9, .ifCond .eq 24, 3, 0), (12, .iload_n 1, 1, 0), (13, .ifCond .lt 20, 3, 0), (16, .iload_n 1, 1, 0), (17, .aload_n 0, 1, 0), (18, .getfield 327, 3, 1193), (21, .if_icmp .ge 12, 3, 0), (24, .aload_n 0, 1, 0), (25, .getfield 47, 3, 1192), (28, .iload_n 1, 1, 0), (29, .iaload, 1, 0), (30, .goto 4, 3, 0), (33, .iconst (-1), 1, 0), (34, .ireturn, 1, 0)]
noncomputable def am_r259 : List (Nat × Instr × Nat × Nat) := [(0, .aload_n 0, 1, 0), (1, .iconst 0, 1, 0), (2, .putfield 137, 3, 1176), (5, .iload_n 1, 1, 0), (6, .ifCond .lt 23, 3, 0), (9, .iload_n 1, 1, 0), (10, .aload_n 0, 1, 0), (11, .invokevirtual 500, 3, 1743), (14, .if_icmp .ge 15, 3, 0), (17, .iload_n 2, 1, 0), (18, .i2l, 1, 0), (19, .lconst 0, 1, 0), (20, .ldc2_w 498, 3, 1738), (23, .invokestatic 200, 3, 1400), (26, .ifCond .ne 5, 3, 0), (29, .iconst (-1), 1, 0), (30, .ireturn, 1, 0), (31, .aload_n 0, 1, 0), (32, .getfield 124, 3, 1228), (35, .iload_n 1, 1, 0), (36, .iaload, 1, 0), (37, .istore_n 3, 1, 0), (38, .aload_n 0, 1, 0), (39, .getfield 118, 3, 1226), (42, .iload_n 1, 1, 0), (43, .iaload, 1, 0), (44, .bipush 18, 2, 0), (46, .if_icmp .eq 25, 3, 0), (49, .aload_n 0, 1, 0), (50, .getfield 118, 3, 1226), (53, .iload_n 1, 1, 0), (54, .iaload, 1, 0), (55, .bipush 22, 2, 0), (57, .if_icmp .eq 14, 3, 0), (60, .aload_n 0, 1, 0), (61, .getfield 118, 3, 1226), (64, .iload_n 1, 1, 0), (65, .iaload, 1, 0), (66, .bipush 32, 2, 0), (68, .if_icmp .ne 30, 3, 0), (71, .aload_n 0, 1, 0), (72, .getfield 121, 3, 1227), (75, .iload_n 1, 1, 0), (76, .iaload, 1, 0), (77, .bipush 8, 2, 0), (79, .if_icmp .ne 19, 3, 0), (82, .aload_n 0, 1, 0), (83, .getfield 47, 3, 1192), (86, .iload_n 3, 1, 0), (87, .iconst 1, 1, 0), (88, .iadd, 1, 0), (89, .iaload, 1, 0), (90, .iconst 1, 1, 0), (91, .if_icmp .ne 7, 3, 0), (94, .iconst 1, 1, 0), (95, .goto 4, 3, 0), (98, .iconst 0, 1, 0), (99, .istore 4, 2, 0), (101, .iload_n 2, 1, 0), (102, .tableswitch 150 0 5 #[38, 45, 52, 54, 103, 127], 38, 0), (140, .aload_n 0, 1, 0), (141, .getfield 118, 3, 1226), (144, .iload_n 1, 1, 0), (145, .iaload, 1, 0), (146, .ireturn, 1, 0), (147, .aload_n 0, 1, 0), (148, .getfield 121, 3, 1227), (151, .iload_n 1, 1, 0), (152, .iaload, 1, 0), (153, .ireturn, 1, 0), (154, .iload_n 3, 1, 0), (155, .ireturn, 1, 0), (156, .iconst 0, 1, 0), (157, .istore 5, 2, 0), (159, .iconst 0, 1, 0), (160, .istore 6, 2, 0), (162, .iload 6, 2, 0), (164, .aload_n 0, 1, 0), (165, .getfield 121, 3, 1227), (168, .iload_n 1, 1, 0), (169, .iaload, 1, 0), (170, .if_icmp .ge 32, 3, 0), (173, .iload 6, 2, 0), (175, .iconst 4, 1, 0), (176, .if_icmp .ge 26, 3, 0), (179, .iload 5, 2, 0), (181, .bipush 8, 2, 0), (183, .ishl, 1, 0), (184, .aload_n 0, 1, 0), (185, .getfield 47, 3, 1192), (188, .iload_n 3, 1, 0), (189, .iload 6, 2, 0), (191, .iadd, 1, 0), (192, .iaload, 1, 0), (193, .ior, 1, 0), (194, .istore 5, 2, 0), (196, .iinc 6 1, 3, 0), (199, .goto (-37), 3, 0), (202, .iload 5, 2, 0), (204, .ireturn, 1, 0), (205, .iload 4, 2, 0), (207, .ifCond .eq 20, 3, 0), (210, .aload_n 0, 1, 0), (211, .getfield 47, 3, 1192), (214, .iload_n 3, 1, 0), (215, .iconst 2, 1, 0), (216, .iadd, 1, 0), (217, .invokestatic 184, 3, 1546), (220, .sipush 8466, 3, 0), (223, .ixor, 1, 0), (224, .goto 4, 3, 0), (227, .iconst 0, 1, 0), (228, .ireturn, 1, 0), (229, .iload 4, 2, 0), (231, .ifCond .eq 19, 3, 0), (234, .aload_n 0, 1, 0), (235, .getfield 47, 3, 1192), (238, .iload_n 3, 1, 0), (239, .iconst 4, 1, 0), (240, .iadd, 1, 0), (241, .invokestatic 278, 3, 1580), (244, .ldc 204, 2, 1403), (246, .ixor, 1, 0), (247, .goto 4, 3, 0), (250, .iconst 0, 1, 0), (251, .ireturn, 1, 0), (252, .aload_n 0, 1, 0), (253, .getfield 118, 3, 1226), (256, .iload_n 1, 1, 0), (257, .iaload, 1, 0), (258, .bipush 9, 2, 0), (260, .if_icmp .ne 36, 3, 0), (263, .aload_n 0, 1, 0), (264, .getfield 121, 3, 1227), (267, .iload_n 1, 1, 0), (268, .iaload, 1, 0), (269, .iconst 4, 1, 0), (270, .if_icmp .ne 26, 3, 0), (273, .aload_n 0, 1, 0), (274, .getfield 47, 3, 1192), (277, .iload_n 3, 1, 0), (278, .iconst 2, 1, 0), (279, .iadd, 1, 0), (280, .iaload, 1, 0), (281, .bipush 100, 2, 0), (283, .imul, 1, 0), (284, .aload_n 0, 1, 0), (285, .getfield 47, 3, 1192), (288, .iload_n 3, 1, 0), (289, .iconst 3, 1, 0), (290, .iadd, 1, 0), (291, .iaload, 1, 0), (292, .iadd, 1, 0), (293, .goto 4, 3, 0), (296, .iconst 0, 1, 0), (297, .ireturn, 1, 0)]
noncomputable def am_r260 : List (Nat × Instr × Nat × Nat) := [(0, .iload_n 1, 1, 0), (1, .i2l, 1, 0), (2, .lconst 0, 1, 0), (3, .ldc2_w 395, 3, 1551), (6, .invokestatic 200, 3, 1400), (9, .ifCond .eq 16, 3, 0), (12, .aload_n 0, 1, 0), (13, .getfield 72, 3, 1211), (16, .iload_n 1, 1, 0), (17, .baload, 1, 0), (18, .ifCond .eq 7, 3, 0), (21, .iconst 1, 1, 0), (22, .goto 4, 3, 0), (25, .iconst 0, 1, 0), (26, .ireturn, 1, 0)]
noncomputable def am_r261 : List (Nat × Instr × Nat × Nat) := [(0, .aload_n 0, 1, 0), (1, .iconst 0, 1, 0), (2, .putfield 137, 3, 1176), (5, .aload_n 0, 1, 0), (6, .iload_n 1, 1, 0), (7, .invokevirtual 503, 3, 1759), (10, .ifCond .ne 5, 3, 0), (13, .iconst (-1), 1, 0), (14, .ireturn, 1, 0), (15, .iload_n 2, 1, 0), (16, .tableswitch 99 0 6 #[44, 51, 58, 65, 72, 85, 92], 44, 0), (60, .aload_n 0, 1, 0), (61, .getfield 76, 3, 1212), (64, .iload_n 1, 1, 0), (65, .iaload, 1, 0), (66, .ireturn, 1, 0), (67, .aload_n 0, 1, 0), (68, .getfield 79, 3, 1213), (71, .iload_n 1, 1, 0), (72, .iaload, 1, 0), (73, .ireturn, 1, 0), (74, .aload_n 0, 1, 0), (75, .getfield 82, 3, 1214), (78, .iload_n 1, 1, 0), (79, .iaload, 1, 0), (80, .ireturn, 1, 0), (81, .aload_n 0, 1, 0), (82, .getfield 85, 3, 1215), (85, .iload_n 1, 1, 0), (86, .iaload, 1, 0), (87, .ireturn, 1, 0), (88, .aload_n 0, 1, 0), (89, .getfield 88, 3, 1216), (92, .iload_n 1, 1, 0), (93, .laload, 1, 0), (94, .aload_n 0, 1, 0), (95, .getfield 261, 3, 1210), (98, .lsub, 1, 0), (99, .l2i, 1, 0), (100, .ireturn, 1, 0), (101, .aload_n 0, 1, 0), (102, .getfield 94, 3, 1218), (105, .iload_n 1, 1, 0), (106, .iaload, 1, 0), (107, .ireturn, 1, 0), (108, .aload_n 0, 1, 0), (109, .getfield 103, 3, 1221), (112, .iload_n 1, 1, 0), (113, .iaload, 1, 0), (114, .ireturn, 1, 0), (115, .iconst (-1), 1, 0), (116, .ireturn, 1, 0)]
noncomputable def am_r262 : List (Nat × Instr × Nat × Nat) := [(0, .aload_n 0, 1, 0), (1, .iconst 0, 1, 0), (2, .putfield 137, 3, 1176), (5, .aload_n 0, 1, 0), (6, .iload_n 1, 1, 0), (7, .invokevirtual 503, 3, 1759), (10, .ifCond .ne 5, 3, 0), (13, .iconst 0, 1, 0), (14, .ireturn, 1, 0), (15, .aload_n 0, 1, 0), (16, .iload_n 1, 1, 0), (17, .iload_n 2, 1, 0), (18, .invokevirtual 273, 3, 1564), (21, .istore_n 3, 1, 0), (22, .iload_n 3, 1, 0), (23, .ifCond .ge 7, 3, 0), (26, .iconst 0, 1, 0), (27, .goto 20, 3, 0), (30, .aload_n 0, 1, 0), (31, .getfield 100, 3, 1220), (34, .bipush 16, 2, 0), (36, .iload_n 1, 1, 0), (37, .imul, 1, 0), (38, .iload_n 3, 1, 0), (39, .iadd, 1, 0), (40, .laload, 1, 0), (41, .aload_n 0, 1, 0), (42, .getfield 261, 3, 1210), (45, .lsub, 1, 0), (46, .l2i, 1, 0), (47, .ireturn, 1, 0)]
noncomputable def am_r263 : List (Nat × Instr × Nat × Nat) := [(0, .aload_n 0, 1, 0), (1, .iconst 0, 1, 0), (2, .putfield 137, 3, 1176), (5, .aload_n 0, 1, 0), (6, .iload_n 1, 1, 0), (7, .invokevirtual 503, 3, 1759), (10, .ifCond .ne 5, 3, 0), (13, .iconst 0, 1, 0), (14, .ireturn, 1, 0), (15, .aload_n 0, 1, 0), (16, .iload_n 1, 1, 0), (17, .iload_n 2, 1, 0), (18, .invokevirtual 397, 3, 1560), (21, .istore_n 3, 1, 0), (22, .iload_n 3, 1, 0), (23, .ifCond .ge 7, 3, 0), (26, .iconst 0, 1, 0), (27, .goto 20, 3, 0), (30, .aload_n 0, 1, 0), (31, .getfield 115, 3, 1225), (34, .bipush 8, 2, 0), (36, .iload_n 1, 1, 0), (37, .imul, 1, 0), (38, .iload_n 3, 1, 0), (39, .iadd, 1, 0), (40, .laload, 1, 0), (41, .aload_n 0, 1, 0), (42, .getfield 261, 3, 1210), (45, .lsub, 1, 0), (46, .l2i, 1, 0), (47, .ireturn, 1, 0)]
noncomputable def am_r264 : List (Nat × Instr × Nat × Nat) := [(0, .aload_n 0, 1, 0), (1, .iconst 0, 1, 0), (2, .putfield 137, 3, 1176), (5, .iload_n 1, 1, 0), (6, .tableswitch 139 0 9 #[54, 64, 69, 104, 109, 114, 119, 124, 129, 134], 54, 0), (60, .aload_n 0, 1, 0), (61, .getfield 261, 3, 1210), (64, .ldc2_w 506, 3, 1775), (67, .land, 1, 0), (68, .l2i, 1, 0), (69, .ireturn, 1, 0), (70, .aload_n 0, 1, 0), (71, .getfield 242, 3, 1202), (74, .ireturn, 1, 0), (75, .iconst 0, 1, 0), (76, .istore_n 2, 1, 0), (77, .iconst 0, 1, 0), (78, .istore_n 3, 1, 0), (79, .iload_n 3, 1, 0), (80, .bipush 8, 2, 0), (82, .if_icmp .ge 26, 3, 0), (85, .iload_n 2, 1, 0), (86, .aload_n 0, 1, 0), (87, .getfield 72, 3, 1211), (90, .iload_n 3, 1, 0), (91, .baload, 1, 0), (92, .ifCond .eq 7, 3, 0), (95, .iconst 1, 1, 0), (96, .goto 4, 3, 0), (99, .iconst 0, 1, 0), (100, .iadd, 1, 0), (101, .istore_n 2, 1, 0), (102, .iinc 3 1, 3, 0), (105, .goto (-26), 3, 0), (108, .iload_n 2, 1, 0), (109, .ireturn, 1, 0), (110, .aload_n 0, 1, 0), (111, .getfield 192, 3, 1191), (114, .ireturn, 1, 0), (115, .aload_n 0, 1, 0), (116, .getfield 324, 3, 1235), (119, .ireturn, 1, 0), (120, .aload_n 0, 1, 0), (121, .getfield 489, 3, 1236), (124, .ireturn, 1, 0), (125, .aload_n 0, 1, 0), (126, .getfield 404, 3, 1237), (129, .ireturn, 1, 0), (130, .aload_n 0, 1, 0), (131, .getfield 492, 3, 1238), (134, .ireturn, 1, 0), (135, .aload_n 0, 1, 0), (136, .getfield 359, 3, 1239), (139, .ireturn, 1, 0), (140, .aload_n 0, 1, 0), (141, .getfield 388, 3, 1240), (144, .ireturn, 1, 0), (145, .iconst (-1), 1, 0), (146, .ireturn, 1, 0)]
noncomputable def am_r265 : List (Nat × Instr × Nat × Nat) := [(0, .iload_n 0, 1, 0), (1, .ifCond .gt 14, 3, 0), (4, .iload_n 0, 1, 0), (5, .ifCond .ne 8, 3, 0), (8, .bipush 32, 2, 0), (10, .goto 4, 3, 0), (13, .iconst 0, 1, 0), (14, .ireturn, 1, 0), (15, .bipush 31, 2, 0), (17, .istore_n 1, 1, 0), (18, .iload_n 0, 1, 0), (19, .ldc_w 264, 3, 539), (22, .if_icmp .lt 11, 3, 0), (25, .iinc 1 (-16), 3, 0), (28, .iload_n 0, 1, 0), (29, .bipush 16, 2, 0), (31, .iushr, 1, 0), (32, .istore_n 0, 1, 0), (33, .iload_n 0, 1, 0), (34, .sipush 256, 3, 0), (37, .if_icmp .lt 11, 3, 0), (40, .iinc 1 (-8), 3, 0), (43, .iload_n 0, 1, 0), (44, .bipush 8, 2, 0), (46, .iushr, 1, 0), (47, .istore_n 0, 1, 0), (48, .iload_n 0, 1, 0), (49, .bipush 16, 2, 0), (51, .if_icmp .lt 10, 3, 0), (54, .iinc 1 (-4), 3, 0), (57, .iload_n 0, 1, 0), (58, .iconst 4, 1, 0), (59, .iushr, 1, 0), (60, .istore_n 0, 1, 0), (61, .iload_n 0, 1, 0), (62, .iconst 4, 1, 0), (63, .if_icmp .lt 10, 3, 0), (66, .iinc 1 (-2), 3, 0), (69, .iload_n 0, 1, 0), (70, .iconst 2, 1, 0), (71, .iushr, 1, 0), (72, .istore_n 0, 1, 0), (73, .iload_n 1, 1, 0), (74, .iload_n 0, 1, 0), (75, .iconst 1, 1, 0), (76, .iushr, 1, 0), (77, .isub, 1, 0), (78, .ireturn, 1, 0)]
noncomputable def am_r266 : List (Nat × Instr × Nat × Nat) := [(0, .lload_n 0, 1, 0), (1, .bipush 32, 2, 0), (3, .lushr, 1, 0), (4, .l2i, 1, 0), (5, .istore_n 2, 1, 0), (6, .iload_n 2, 1, 0), (7, .ifCond .ne 14, 3, 0), (10, .bipush 32, 2, 0), (12, .lload_n 0, 1, 0), (13, .l2i, 1, 0), (14, .invokestatic 308, 3, 536), (17, .iadd, 1, 0), (18, .goto 7, 3, 0), (21, .iload_n 2, 1, 0), (22, .invokestatic 308, 3, 536), (25, .ireturn, 1, 0)]
noncomputable def am_r271 : List (Nat × Instr × Nat × Nat) := [(0, .new 7, 3, 104), (3, .dup, 1, 0), (4, .invokespecial 9, 3, 106), (7, .astore_n 1, 1, 0), (8, .new 10, 3, 1155), (11, .dup, 1, 0), (12, .invokespecial 12, 3, 1157), (15, .astore_n 2, 1, 0), (16, .iconst 0, 1, 0), (17, .istore_n 3, 1, 0), (18, .iload_n 3, 1, 0), (19, .aload_n 0, 1, 0), (20, .arraylength, 1, 0), (21, .bipush 6, 2, 0), (23, .isub, 1, 0), (24, .if_icmp .gt 1242, 3, 0), (27, .aload_n 0, 1, 0), (28, .iload_n 3, 1, 0), (29, .iaload, 1, 0), (30, .bipush 31, 2, 0), (32, .iand, 1, 0), (33, .tableswitch 1227 0 25 #[119, 182, 205, 258, 301, 404, 467, 510, 603, 616, 639, 672, 765, 818, 871, 894, 927, 950, 983, 1026, 1049, 1072, 1105, 1138, 1171, 1204], 119, 0), (152, .aload_n 1, 1, 0), (153, .aload_n 0, 1, 0), (154, .iload_n 3, 1, 0), (155, .iconst 1, 1, 0), (156, .iadd, 1, 0), (157, .iaload, 1, 0), (158, .aload_n 0, 1, 0), (159, .iload_n 3, 1, 0), (160, .iconst 2, 1, 0), (161, .iadd, 1, 0), (162, .iaload, 1, 0), (163, .aload_n 0, 1, 0), (164, .iload_n 3, 1, 0), (165, .iconst 3, 1, 0), (166, .iadd, 1, 0), (167, .iaload, 1, 0), (168, .aload_n 0, 1, 0), (169, .iload_n 3, 1, 0), (170, .iconst 4, 1, 0), (171, .iadd, 1, 0), (172, .iaload, 1, 0), (173, .aload_n 0, 1, 0), (174, .iload_n 3, 1, 0), (175, .iconst 5, 1, 0), (176, .iadd, 1, 0), (177, .iaload, 1, 0), (178, .invokevirtual 13, 3, 453), (181, .aload_n 2, 1, 0), (182, .aload_n 0, 1, 0), (183, .iload_n 3, 1, 0), (184, .iconst 1, 1, 0), (185, .iadd, 1, 0), (186, .iaload, 1, 0), (187, .aload_n 0, 1, 0), (188, .iload_n 3, 1, 0), (189, .iconst 2, 1, 0), (190, .iadd, 1, 0), (191, .iaload, 1, 0), (192, .aload_n 0, 1, 0), (193, .iload_n 3, 1, 0), (194, .iconst 3, 1, 0), (195, .iadd, 1, 0), (196, .iaload, 1, 0), (197, .aload_n 0, 1, 0), (198, .iload_n 3, 1, 0), (199, .iconst 4, 1, 0), (200, .iadd, 1, 0), (201, .iaload, 1, 0), (202, .aload_n 0, 1, 0), (203, .iload_n 3, 1, 0), (204, .iconst 5, 1, 0), (205, .iadd, 1, 0), (206, .iaload, 1, 0), (207, .invokevirtual 17, 3, 1381), (210, .if_icmp .eq 1050, 3, 0), (213, .iconst 0, 1, 0), (214, .ireturn, 1, 0), (215, .aload_n 1, 1, 0), (216, .aload_n 0, 1, 0), (217, .iload_n 3, 1, 0), (218, .iconst 1, 1, 0), (219, .iadd, 1, 0), (220, .iaload, 1, 0), (221, .invokevirtual 18, 3, 469), (224, .aload_n 2, 1, 0), (225, .aload_n 0, 1, 0), (226, .iload_n 3, 1, 0), (227, .iconst 1, 1, 0), (228, .iadd, 1, 0), (229, .iaload, 1, 0), (230, .invokevirtual 22, 3, 1391), (233, .if_icmp .eq 1027, 3, 0), (236, .iconst 0, 1, 0), (237, .ireturn, 1, 0), (238, .aload_n 1, 1, 0), (239, .aload_n 0, 1, 0), (240, .iload_n 3, 1, 0), (241, .iconst 1, 1, 0), (242, .iadd, 1, 0), (243, .iaload, 1, 0), (244, .aload_n 0, 1, 0), (245, .iload_n 3, 1, 0), (246, .iconst 2, 1, 0), (247, .iadd, 1, 0), (248, .iaload, 1, 0), (249, .aload_n 0, 1, 0), (250, .iload_n 3, 1, 0), (251, .iconst 3, 1, 0), (252, .iadd, 1, 0), (253, .iaload, 1, 0), (254, .aload_n 0, 1, 0), (255, .iload_n 3, 1, 0), (256, .iconst 4, 1, 0), (257, .iadd, 1, 0), (258, .iaload, 1, 0), (259, .invokevirtual 23, 3, 477), (262, .aload_n 2, 1, 0), (263, .aload_n 0, 1, 0), (264, .iload_n 3, 1, 0), (265, .iconst 1, 1, 0), (266, .iadd, 1, 0), (267, .iaload, 1, 0), (268, .aload_n 0, 1, 0), (269, .iload_n 3, 1, 0), (270, .iconst 2, 1, 0), (271, .iadd, 1, 0), (272, .iaload, 1, 0), (273, .aload_n 0, 1, 0), (274, .iload_n 3, 1, 0), (275, .iconst 3, 1, 0), (276, .iadd, 1, 0), (277, .iaload, 1, 0), (278, .aload_n 0, 1, 0), (279, .iload_n 3, 1, 0), (280, .iconst 4, 1, 0), (281, .iadd, 1, 0), (282, .iaload, 1, 0), (283, .invokevirtual 27, 3, 1395), (286, .if_icmp .eq 974, 3, 0), (289, .iconst 0, 1, 0), (290, .ireturn, 1, 0), (291, .aload_n 1, 1, 0), (292, .aload_n 0, 1, 0), (293, .iload_n 3, 1, 0), (294, .iconst 1, 1, 0), (295, .iadd, 1, 0), (296, .iaload, 1, 0), (297, .aload_n 0, 1, 0), (298, .iload_n 3, 1, 0), (299, .iconst 2, 1, 0), (300, .iadd, 1, 0), (301, .iaload, 1, 0), (302, .aload_n 0, 1, 0), (303, .iload_n 3, 1, 0), (304, .iconst 3, 1, 0), (305, .iadd, 1, 0), (306, .iaload, 1, 0), (307, .invokevirtual 28, 3, 488), (310, .aload_n 2, 1, 0), (311, .aload_n 0, 1, 0), (312, .iload_n 3, 1, 0), (313, .iconst 1, 1, 0), (314, .iadd, 1, 0), (315, .iaload, 1, 0), (316, .aload_n 0, 1, 0), (317, .iload_n 3, 1, 0), (318, .iconst 2, 1, 0), (319, .iadd, 1, 0), (320, .iaload, 1, 0), (321, .aload_n 0, 1, 0), (322, .iload_n 3, 1, 0), (323, .iconst 3, 1, 0), (324, .iadd, 1, 0), (325, .iaload, 1, 0), (326, .invokevirtual 32, 3, 1404), (329, .if_icmp .eq 931, 3, 0), (332, .iconst 0, 1, 0), (333, .ireturn, 1, 0), (334, .aload_n 1, 1, 0), (335, .aload_n 0, 1, 0), (336, .iload_n 3, 1, 0), (337, .iconst 1, 1, 0), (338, .iadd, 1, 0), (339, .iaload, 1, 0), (340, .aload_n 0, 1, 0), (341, .iload_n 3, 1, 0), (342, .iconst 2, 1, 0), (343, .iadd, 1, 0), (344, .iaload, 1, 0), (345, .i2l, 1, 0), (346, .bipush 32, 2, 0), (348, .lshl, 1, 0), (349, .aload_n 0, 1, 0), (350, .iload_n 3, 1, 0), (351, .iconst 3, 1, 0), (352, .iadd, 1, 0), (353, .iaload, 1, 0), (354, .i2l, 1, 0), (355, .ldc2_w 33, 3, 1776), (358, .land, 1, 0), (359, .lor, 1, 0), (360, .aload_n 0, 1, 0), (361, .iload_n 3, 1, 0), (362, .iconst 4, 1, 0), (363, .iadd, 1, 0), (364, .iaload, 1, 0), (365, .i2l, 1, 0), (366, .bipush 32, 2, 0), (368, .lshl, 1, 0), (369, .aload_n 0, 1, 0), (370, .iload_n 3, 1, 0), (371, .iconst 5, 1, 0), (372, .iadd, 1, 0), (373, .iaload, 1, 0), (374, .i2l, 1, 0), (375, .ldc2_w 33, 3, 1776), (378, .land, 1, 0), (379, .lor, 1, 0), (380, .invokevirtual 35, 3, 522), (383, .aload_n 2, 1, 0), (384, .aload_n 0, 1, 0), (385, .iload_n 3, 1, 0), (386, .iconst 1, 1, 0), (387, .iadd, 1, 0), (388, .iaload, 1, 0), (389, .aload_n 0, 1, 0), (390, .iload_n 3, 1, 0), (391, .iconst 2, 1, 0), (392, .iadd, 1, 0), (393, .iaload, 1, 0), (394, .i2l, 1, 0), (395, .bipush 32, 2, 0), (397, .lshl, 1, 0), (398, .aload_n 0, 1, 0), (399, .iload_n 3, 1, 0), (400, .iconst 3, 1, 0), (401, .iadd, 1, 0), (402, .iaload, 1, 0), (403, .i2l, 1, 0), (404, .ldc2_w 33, 3, 1776), (407, .land, 1, 0), (408, .lor, 1, 0), (409, .aload_n 0, 1, 0), (410, .iload_n 3, 1, 0), (411, .iconst 4, 1, 0), (412, .iadd, 1, 0), (413, .iaload, 1, 0), (414, .i2l, 1, 0), (415, .bipush 32, 2, 0), (417, .lshl, 1, 0), (418, .aload_n 0, 1, 0), (419, .iload_n 3, 1, 0), (420, .iconst 5, 1, 0), (421, .iadd, 1, 0), (422, .iaload, 1, 0), (423, .i2l, 1, 0), (424, .ldc2_w 33, 3, 1776), (427, .land, 1, 0), (428, .lor, 1, 0), (429, .invokevirtual 39, 3, 1413), (432, .if_icmp .eq 828, 3, 0), (435, .iconst 0, 1, 0), (436, .ireturn, 1, 0), (437, .aload_n 1, 1, 0), (438, .aload_n 0, 1, 0), (439, .iload_n 3, 1, 0), (440, .iconst 1, 1, 0), (441, .iadd, 1, 0), (442, .iaload, 1, 0), (443, .aload_n 0, 1, 0), (444, .iload_n 3, 1, 0), (445, .iconst 2, 1, 0), (446, .iadd, 1, 0), (447, .iaload, 1, 0), (448, .i2l, 1, 0), (449, .bipush 32, 2, 0), (451, .lshl, 1, 0), (452, .aload_n 0, 1, 0), (453, .iload_n 3, 1, 0), (454, .iconst 3, 1, 0), (455, .iadd, 1, 0), (456, .iaload, 1, 0), (457, .i2l, 1, 0), (458, .ldc2_w 33, 3, 1776), (461, .land, 1, 0), (462, .lor, 1, 0), (463, .invokevirtual 40, 3, 545), (466, .aload_n 2, 1, 0), (467, .aload_n 0, 1, 0), (468, .iload_n 3, 1, 0), (469, .iconst 1, 1, 0), (470, .iadd, 1, 0), (471, .iaload, 1, 0), (472, .aload_n 0, 1, 0), (473, .iload_n 3, 1, 0), (474, .iconst 2, 1, 0), (475, .iadd, 1, 0), (476, .iaload, 1, 0), (477, .i2l, 1, 0), (478, .bipush 32, 2, 0), (480, .lshl, 1, 0), (481, .aload_n 0, 1, 0), (482, .iload_n 3, 1, 0), (483, .iconst 3, 1, 0), (484, .iadd, 1, 0), (485, .iaload, 1, 0), (486, .i2l, 1, 0), (487, .ldc2_w 33, 3, 1776), (490, .land, 1, 0), (491, .lor, 1, 0), (492, .invokevirtual 44, 3, 1421), (495, .if_icmp .eq 765, 3, 0), (498, .iconst 0, 1, 0), (499, .ireturn, 1, 0), (500, .aload_n 1, 1, 0), (501, .aload_n 0, 1, 0), (502, .iload_n 3, 1, 0), (503, .iconst 1, 1, 0), (504, .iadd, 1, 0), (505, .iaload, 1, 0), (506, .aload_n 0, 1, 0), (507, .iload_n 3, 1, 0), (508, .iconst 2, 1, 0), (509, .iadd, 1, 0), (510, .iaload, 1, 0), (511, .aload_n 0, 1, 0), (512, .iload_n 3, 1, 0), (513, .iconst 3, 1, 0), (514, .iadd, 1, 0), (515, .iaload, 1, 0), (516, .invokevirtual 45, 3, 549), (519, .aload_n 2, 1, 0), (520, .aload_n 0, 1, 0), (521, .iload_n 3, 1, 0), (522, .iconst 1, 1, 0), (523, .iadd, 1, 0), (524, .iaload, 1, 0), (525, .aload_n 0, 1, 0), (526, .iload_n 3, 1, 0), (527, .iconst 2, 1, 0), (528, .iadd, 1, 0), (529, .iaload, 1, 0), (530, .aload_n 0, 1, 0), (531, .iload_n 3, 1, 0), (532, .iconst 3, 1, 0), (533, .iadd, 1, 0), (534, .iaload, 1, 0), (535, .invokevirtual 48, 3, 1425), (538, .if_icmp .eq 722, 3, 0), (541, .iconst 0, 1, 0), (542, .ireturn, 1, 0), (543, .aload_n 1, 1, 0), (544, .aload_n 0, 1, 0), (545, .iload_n 3, 1, 0), (546, .iconst 1, 1, 0), (547, .iadd, 1, 0), (548, .iaload, 1, 0), (549, .i2l, 1, 0), (550, .bipush 32, 2, 0), (552, .lshl, 1, 0), (553, .aload_n 0, 1, 0), (554, .iload_n 3, 1, 0), (555, .iconst 2, 1, 0), (556, .iadd, 1, 0), (557, .iaload, 1, 0), (558, .i2l, 1, 0), (559, .ldc2_w 33, 3, 1776), (562, .land, 1, 0), (563, .lor, 1, 0), (564, .aload_n 0, 1, 0), (565, .iload_n 3, 1, 0), (566, .iconst 3, 1, 0), (567, .iadd, 1, 0), (568, .iaload, 1, 0), (569, .i2l, 1, 0), (570, .bipush 32, 2, 0), (572, .lshl, 1, 0), (573, .aload_n 0, 1, 0), (574, .iload_n 3, 1, 0), (575, .iconst 4, 1, 0), (576, .iadd, 1, 0), (577, .iaload, 1, 0), (578, .i2l, 1, 0), (579, .ldc2_w 33, 3, 1776), (582, .land, 1, 0), (583, .lor, 1, 0), (584, .invokevirtual 49, 3, 559), (587, .aload_n 2, 1, 0), (588, .aload_n 0, 1, 0), (589, .iload_n 3, 1, 0), (590, .iconst 1, 1, 0), (591, .iadd, 1, 0), (592, .iaload, 1, 0), (593, .i2l, 1, 0), (594, .bipush 32, 2, 0), (596, .lshl, 1, 0), (597, .aload_n 0, 1, 0), (598, .iload_n 3, 1, 0), (599, .iconst 2, 1, 0), (600, .iadd, 1, 0), (601, .iaload, 1, 0), (602, .i2l, 1, 0), (603, .ldc2_w 33, 3, 1776), (606, .land, 1, 0), (607, .lor, 1, 0), (608, .aload_n 0, 1, 0), (609, .iload_n 3, 1, 0), (610, .iconst 3, 1, 0), (611, .iadd, 1, 0), (612, .iaload, 1, 0), (613, .i2l, 1, 0), (614, .bipush 32, 2, 0), (616, .lshl, 1, 0), (617, .aload_n 0, 1, 0), (618, .iload_n 3, 1, 0), (619, .iconst 4, 1, 0), (620, .iadd, 1, 0), (621, .iaload, 1, 0), (622, .i2l, 1, 0), (623, .ldc2_w 33, 3, 1776), (626, .land, 1, 0), (627, .lor, 1, 0), (628, .invokevirtual 53, 3, 1432), (631, .if_icmp .eq 629, 3, 0), (634, .iconst 0, 1, 0), (635, .ireturn, 1, 0), (636, .aload_n 1, 1, 0), (637, .invokevirtual 54, 3, 635), (640, .aload_n 2, 1, 0), (641, .invokevirtual 58, 3, 1474), (644, .if_icmp .eq 616, 3, 0), (647, .iconst 0, 1, 0), (648, .ireturn, 1, 0), (649, .aload_n 1, 1, 0), (650, .aload_n 0, 1, 0), (651, .iload_n 3, 1, 0), (652, .iconst 1, 1, 0), (653, .iadd, 1, 0), (654, .iaload, 1, 0), (655, .invokevirtual 59, 3, 652), (658, .aload_n 2, 1, 0), (659, .aload_n 0, 1, 0), (660, .iload_n 3, 1, 0), (661, .iconst 1, 1, 0), (662, .iadd, 1, 0), (663, .iaload, 1, 0), (664, .invokevirtual 62, 3, 1484), (667, .if_icmp .eq 593, 3, 0), (670, .iconst 0, 1, 0), (671, .ireturn, 1, 0), (672, .aload_n 1, 1, 0), (673, .aload_n 0, 1, 0), (674, .iload_n 3, 1, 0), (675, .iconst 1, 1, 0), (676, .iadd, 1, 0), (677, .iaload, 1, 0), (678, .aload_n 0, 1, 0), (679, .iload_n 3, 1, 0), (680, .iconst 2, 1, 0), (681, .iadd, 1, 0), (682, .iaload, 1, 0), (683, .invokevirtual 63, 3, 657), (686, .aload_n 2, 1, 0), (687, .aload_n 0, 1, 0), (688, .iload_n 3, 1, 0), (689, .iconst 1, 1, 0), (690, .iadd, 1, 0), (691, .iaload, 1, 0), (692, .aload_n 0, 1, 0), (693, .iload_n 3, 1, 0), (694, .iconst 2, 1, 0), (695, .iadd, 1, 0), (696, .iaload, 1, 0), (697, .invokevirtual 67, 3, 1488), (700, .if_icmp .eq 560, 3, 0), (703, .iconst 0, 1, 0), (704, .ireturn, 1, 0), (705, .aload_n 1, 1, 0), (706, .aload_n 0, 1, 0), (707, .iload_n 3, 1, 0), (708, .iconst 1, 1, 0), (709, .iadd, 1, 0), (710, .iaload, 1, 0), (711, .i2l, 1, 0), (712, .bipush 32, 2, 0), (714, .lshl, 1, 0), (715, .aload_n 0, 1, 0), (716, .iload_n 3, 1, 0), (717, .iconst 2, 1, 0), (718, .iadd, 1, 0), (719, .iaload, 1, 0), (720, .i2l, 1, 0), (721, .ldc2_w 33, 3, 1776), (724, .land, 1, 0), (725, .lor, 1, 0), (726, .aload_n 0, 1, 0), (727, .iload_n 3, 1, 0), (728, .iconst 3, 1, 0), (729, .iadd, 1, 0), (730, .iaload, 1, 0), (731, .i2l, 1, 0), (732, .bipush 32, 2, 0), (734, .lshl, 1, 0), (735, .aload_n 0, 1, 0), (736, .iload_n 3, 1, 0), (737, .iconst 4, 1, 0), (738, .iadd, 1, 0), (739, .iaload, 1, 0), (740, .i2l, 1, 0), (741, .ldc2_w 33, 3, 1776), (744, .land, 1, 0), (745, .lor, 1, 0), (746, .invokevirtual 68, 3, 662), (749, .aload_n 2, 1, 0), (750, .aload_n 0, 1, 0), (751, .iload_n 3, 1, 0), (752, .iconst 1, 1, 0), (753, .iadd, 1, 0), (754, .iaload, 1, 0), (755, .i2l, 1, 0), (756, .bipush 32, 2, 0), (758, .lshl, 1, 0), (759, .aload_n 0, 1, 0), (760, .iload_n 3, 1, 0), (761, .iconst 2, 1, 0), (762, .iadd, 1, 0), (763, .iaload, 1, 0), (764, .i2l, 1, 0), (765, .ldc2_w 33, 3, 1776), (768, .land, 1, 0), (769, .lor, 1, 0), (770, .aload_n 0, 1, 0), (771, .iload_n 3, 1, 0), (772, .iconst 3, 1, 0), (773, .iadd, 1, 0), (774, .iaload, 1, 0), (775, .i2l, 1, 0), (776, .bipush 32, 2, 0), (778, .lshl, 1, 0), (779, .aload_n 0, 1, 0), (780, .iload_n 3, 1, 0), (781, .iconst 4, 1, 0), (782, .iadd, 1, 0), (783, .iaload, 1, 0), (784, .i2l, 1, 0), (785, .ldc2_w 33, 3, 1776), (788, .land, 1, 0), (789, .lor, 1, 0), (790, .invokevirtual 71, 3, 1493), (793, .if_icmp .eq 467, 3, 0), (796, .iconst 0, 1, 0), (797, .ireturn, 1, 0), (798, .aload_n 1, 1, 0), (799, .aload_n 0, 1, 0), (800, .iload_n 3, 1, 0), (801, .iconst 1, 1, 0), (802, .iadd, 1, 0), (803, .iaload, 1, 0), (804, .i2l, 1, 0), (805, .bipush 32, 2, 0), (807, .lshl, 1, 0), (808, .aload_n 0, 1, 0), (809, .iload_n 3, 1, 0), (810, .iconst 2, 1, 0), (811, .iadd, 1, 0), (812, .iaload, 1, 0), (813, .i2l, 1, 0), (814, .ldc2_w 33, 3, 1776), (817, .land, 1, 0), (818, .lor, 1, 0), (819, .invokevirtual 72, 3, 674), (822, .aload_n 2, 1, 0), (823, .aload_n 0, 1, 0), (824, .iload_n 3, 1, 0), (825, .iconst 1, 1, 0), (826, .iadd, 1, 0), (827, .iaload, 1, 0), (828, .i2l, 1, 0), (829, .bipush 32, 2, 0), (831, .lshl, 1, 0), (832, .aload_n 0, 1, 0), (833, .iload_n 3, 1, 0), (834, .iconst 2, 1, 0), (835, .iadd, 1, 0), (836, .iaload, 1, 0), (837, .i2l, 1, 0), (838, .ldc2_w 33, 3, 1776), (841, .land, 1, 0), (842, .lor, 1, 0), (843, .invokevirtual 76, 3, 1504), (846, .if_icmp .eq 414, 3, 0), (849, .iconst 0, 1, 0), (850, .ireturn, 1, 0), (851, .aload_n 1, 1, 0), (852, .aload_n 0, 1, 0), (853, .iload_n 3, 1, 0), (854, .iconst 1, 1, 0), (855, .iadd, 1, 0), (856, .iaload, 1, 0), (857, .i2l, 1, 0), (858, .bipush 32, 2, 0), (860, .lshl, 1, 0), (861, .aload_n 0, 1, 0), (862, .iload_n 3, 1, 0), (863, .iconst 2, 1, 0), (864, .iadd, 1, 0), (865, .iaload, 1, 0), (866, .i2l, 1, 0), (867, .ldc2_w 33, 3, 1776), (870, .land, 1, 0), (871, .lor, 1, 0), (872, .invokevirtual 77, 3, 686), (875, .aload_n 2, 1, 0), (876, .aload_n 0, 1, 0), (877, .iload_n 3, 1, 0), (878, .iconst 1, 1, 0), (879, .iadd, 1, 0), (880, .iaload, 1, 0), (881, .i2l, 1, 0), (882, .bipush 32, 2, 0), (884, .lshl, 1, 0), (885, .aload_n 0, 1, 0), (886, .iload_n 3, 1, 0), (887, .iconst 2, 1, 0), (888, .iadd, 1, 0), (889, .iaload, 1, 0), (890, .i2l, 1, 0), (891, .ldc2_w 33, 3, 1776), (894, .land, 1, 0), (895, .lor, 1, 0), (896, .invokevirtual 80, 3, 1508), (899, .if_icmp .eq 361, 3, 0), (902, .iconst 0, 1, 0), (903, .ireturn, 1, 0), (904, .aload_n 1, 1, 0), (905, .aload_n 0, 1, 0), (906, .iload_n 3, 1, 0), (907, .iconst 1, 1, 0), (908, .iadd, 1, 0), (909, .iaload, 1, 0), (910, .invokevirtual 81, 3, 694), (913, .aload_n 2, 1, 0), (914, .aload_n 0, 1, 0), (915, .iload_n 3, 1, 0), (916, .iconst 1, 1, 0), (917, .iadd, 1, 0), (918, .iaload, 1, 0), (919, .invokevirtual 84, 3, 1512), (922, .if_icmp .eq 338, 3, 0), (925, .iconst 0, 1, 0), (926, .ireturn, 1, 0), (927, .aload_n 1, 1, 0), (928, .aload_n 0, 1, 0), (929, .iload_n 3, 1, 0), (930, .iconst 1, 1, 0), (931, .iadd, 1, 0), (932, .iaload, 1, 0), (933, .aload_n 0, 1, 0), (934, .iload_n 3, 1, 0), (935, .iconst 2, 1, 0), (936, .iadd, 1, 0), (937, .iaload, 1, 0), (938, .invokevirtual 85, 3, 706), (941, .aload_n 2, 1, 0), (942, .aload_n 0, 1, 0), (943, .iload_n 3, 1, 0), (944, .iconst 1, 1, 0), (945, .iadd, 1, 0), (946, .iaload, 1, 0), (947, .aload_n 0, 1, 0), (948, .iload_n 3, 1, 0), (949, .iconst 2, 1, 0), (950, .iadd, 1, 0), (951, .iaload, 1, 0), (952, .invokevirtual 88, 3, 1516), (955, .if_icmp .eq 305, 3, 0), (958, .iconst 0, 1, 0), (959, .ireturn, 1, 0), (960, .aload_n 1, 1, 0), (961, .aload_n 0, 1, 0), (962, .iload_n 3, 1, 0), (963, .iconst 1, 1, 0), (964, .iadd, 1, 0), (965, .iaload, 1, 0), (966, .invokevirtual 89, 3, 714), (969, .aload_n 2, 1, 0), (970, .aload_n 0, 1, 0), (971, .iload_n 3, 1, 0), (972, .iconst 1, 1, 0), (973, .iadd, 1, 0), (974, .iaload, 1, 0), (975, .invokevirtual 92, 3, 1521), (978, .if_icmp .eq 282, 3, 0), (981, .iconst 0, 1, 0), (982, .ireturn, 1, 0), (983, .aload_n 1, 1, 0), (984, .aload_n 0, 1, 0), (985, .iload_n 3, 1, 0), (986, .iconst 1, 1, 0), (987, .iadd, 1, 0), (988, .iaload, 1, 0), (989, .aload_n 0, 1, 0), (990, .iload_n 3, 1, 0), (991, .iconst 2, 1, 0), (992, .iadd, 1, 0), (993, .iaload, 1, 0), (994, .invokevirtual 93, 3, 730), (997, .aload_n 2, 1, 0), (998, .aload_n 0, 1, 0), (999, .iload_n 3, 1, 0), (1000, .iconst 1, 1, 0), (1001, .iadd, 1, 0), (1002, .iaload, 1, 0), (1003, .aload_n 0, 1, 0), (1004, .iload_n 3, 1, 0), (1005, .iconst 2, 1, 0), (1006, .iadd, 1, 0), (1007, .iaload, 1, 0), (1008, .invokevirtual 96, 3, 1534), (1011, .if_icmp .eq 249, 3, 0), (1014, .iconst 0, 1, 0), (1015, .ireturn, 1, 0), (1016, .aload_n 1, 1, 0), (1017, .aload_n 0, 1, 0), (1018, .iload_n 3, 1, 0), (1019, .iconst 1, 1, 0), (1020, .iadd, 1, 0), (1021, .iaload, 1, 0), (1022, .aload_n 0, 1, 0), (1023, .iload_n 3, 1, 0), (1024, .iconst 2, 1, 0), (1025, .iadd, 1, 0), (1026, .iaload, 1, 0), (1027, .aload_n 0, 1, 0), (1028, .iload_n 3, 1, 0), (1029, .iconst 3, 1, 0), (1030, .iadd, 1, 0), (1031, .iaload, 1, 0), (1032, .invokevirtual 97, 3, 1041), (1035, .aload_n 2, 1, 0), (1036, .aload_n 0, 1, 0), (1037, .iload_n 3, 1, 0), (1038, .iconst 1, 1, 0), (1039, .iadd, 1, 0), (1040, .iaload, 1, 0), (1041, .aload_n 0, 1, 0), (1042, .iload_n 3, 1, 0), (1043, .iconst 2, 1, 0), (1044, .iadd, 1, 0), (1045, .iaload, 1, 0), (1046, .aload_n 0, 1, 0), (1047, .iload_n 3, 1, 0), (1048, .iconst 3, 1, 0), (1049, .iadd, 1, 0), (1050, .iaload, 1, 0), (1051, .invokevirtual 100, 3, 1726), (1054, .if_icmp .eq 206, 3, 0), (1057, .iconst 0, 1, 0), (1058, .ireturn, 1, 0), (1059, .aload_n 1, 1, 0), (1060, .aload_n 0, 1, 0), (1061, .iload_n 3, 1, 0), (1062, .iconst 1, 1, 0), (1063, .iadd, 1, 0), (1064, .iaload, 1, 0), (1065, .invokevirtual 101, 3, 1072), (1068, .aload_n 2, 1, 0), (1069, .aload_n 0, 1, 0), (1070, .iload_n 3, 1, 0), (1071, .iconst 1, 1, 0), (1072, .iadd, 1, 0), (1073, .iaload, 1, 0), (1074, .invokevirtual 104, 3, 1734), (1077, .if_icmp .eq 183, 3, 0), (1080, .iconst 0, 1, 0), (1081, .ireturn, 1, 0), (1082, .aload_n 1, 1, 0), (1083, .aload_n 0, 1, 0), (1084, .iload_n 3, 1, 0), (1085, .iconst 1, 1, 0), (1086, .iadd, 1, 0), (1087, .iaload, 1, 0), (1088, .invokevirtual 105, 3, 1091), (1091, .aload_n 2, 1, 0), (1092, .aload_n 0, 1, 0), (1093, .iload_n 3, 1, 0), (1094, .iconst 1, 1, 0), (1095, .iadd, 1, 0), (1096, .iaload, 1, 0), (1097, .invokevirtual 108, 3, 1747), (1100, .if_icmp .eq 160, 3, 0), (1103, .iconst 0, 1, 0), (1104, .ireturn, 1, 0), (1105, .aload_n 1, 1, 0), (1106, .aload_n 0, 1, 0), (1107, .iload_n 3, 1, 0), (1108, .iconst 1, 1, 0), (1109, .iadd, 1, 0), (1110, .iaload, 1, 0), (1111, .aload_n 0, 1, 0), (1112, .iload_n 3, 1, 0), (1113, .iconst 2, 1, 0), (1114, .iadd, 1, 0), (1115, .iaload, 1, 0), (1116, .invokevirtual 109, 3, 1096), (1119, .aload_n 2, 1, 0), (1120, .aload_n 0, 1, 0), (1121, .iload_n 3, 1, 0), (1122, .iconst 1, 1, 0), (1123, .iadd, 1, 0), (1124, .iaload, 1, 0), (1125, .aload_n 0, 1, 0), (1126, .iload_n 3, 1, 0), (1127, .iconst 2, 1, 0), (1128, .iadd, 1, 0), (1129, .iaload, 1, 0), (1130, .invokevirtual 112, 3, 1751), (1133, .if_icmp .eq 127, 3, 0), (1136, .iconst 0, 1, 0), (1137, .ireturn, 1, 0), (1138, .aload_n 1, 1, 0), (1139, .aload_n 0, 1, 0), (1140, .iload_n 3, 1, 0), (1141, .iconst 1, 1, 0), (1142, .iadd, 1, 0), (1143, .iaload, 1, 0), (1144, .aload_n 0, 1, 0), (1145, .iload_n 3, 1, 0), (1146, .iconst 2, 1, 0), (1147, .iadd, 1, 0), (1148, .iaload, 1, 0), (1149, .invokevirtual 113, 3, 1118), (1152, .aload_n 2, 1, 0), (1153, .aload_n 0, 1, 0), (1154, .iload_n 3, 1, 0), (1155, .iconst 1, 1, 0), (1156, .iadd, 1, 0), (1157, .iaload, 1, 0), (1158, .aload_n 0, 1, 0), (1159, .iload_n 3, 1, 0), (1160, .iconst 2, 1, 0), (1161, .iadd, 1, 0), (1162, .iaload, 1, 0), (1163, .invokevirtual 116, 3, 1755), (1166, .if_icmp .eq 94, 3, 0), (1169, .iconst 0, 1, 0), (1170, .ireturn, 1, 0), (1171, .aload_n 1, 1, 0), (1172, .aload_n 0, 1, 0), (1173, .iload_n 3, 1, 0), (1174, .iconst 1, 1, 0), (1175, .iadd, 1, 0), (1176, .iaload, 1, 0), (1177, .aload_n 0, 1, 0), (1178, .iload_n 3, 1, 0), (1179, .iconst 2, 1, 0), (1180, .iadd, 1, 0), (1181, .iaload, 1, 0), (1182, .invokevirtual 117, 3, 1132), (1185, .aload_n 2, 1, 0), (1186, .aload_n 0, 1, 0), (1187, .iload_n 3, 1, 0), (1188, .iconst 1, 1, 0), (1189, .iadd, 1, 0), (1190, .iaload, 1, 0), (1191, .aload_n 0, 1, 0), (1192, .iload_n 3, 1, 0), (1193, .iconst 2, 1, 0), (1194, .iadd, 1, 0), (1195, .iaload, 1, 0), (1196, .invokevirtual 120, 3, 1763), (1199, .if_icmp .eq 61, 3, 0), (1202, .iconst 0, 1, 0), (1203, .ireturn, 1, 0), (1204, .aload_n 1, 1, 0), (1205, .aload_n 0, 1, 0), (1206, .iload_n 3, 1, 0), (1207, .iconst 1, 1, 0), (1208, .iadd, 1, 0), (1209, .iaload, 1, 0), (1210, .aload_n 0, 1, 0), (1211, .iload_n 3, 1, 0), (1212, .iconst 2, 1, 0), (1213, .iadd, 1, 0), (1214, .iaload, 1, 0), (1215, .invokevirtual 121, 3, 1140), (1218, .aload_n 2, 1, 0), (1219, .aload_n 0, 1, 0), (1220, .iload_n 3, 1, 0), (1221, .iconst 1, 1, 0), (1222, .iadd, 1, 0), (1223, .iaload, 1, 0), (1224, .aload_n 0, 1, 0), (1225, .iload_n 3, 1, 0), (1226, .iconst 2, 1, 0), (1227, .iadd, 1, 0), (1228, .iaload, 1, 0), (1229, .invokevirtual 124, 3, 1767), (1232, .if_icmp .eq 28, 3, 0), (1235, .iconst 0, 1, 0), (1236, .ireturn, 1, 0), (1237, .aload_n 1, 1, 0), (1238, .aload_n 0, 1, 0), (1239, .iload_n 3, 1, 0), (1240, .iconst 1, 1, 0), (1241, .iadd, 1, 0), (1242, .iaload, 1, 0), (1243, .invokevirtual 125, 3, 1148), (1246, .aload_n 2, 1, 0), (1247, .aload_n 0, 1, 0), (1248, .iload_n 3, 1, 0), (1249, .iconst 1, 1, 0), (1250, .iadd, 1, 0), (1251, .iaload, 1, 0), (1252, .invokevirtual 128, 3, 1771), (1255, .if_icmp .eq 5, 3, 0), (1258, .iconst 0, 1, 0), (1259, .ireturn, 1, 0), (1260, .iinc 3 6, 3, 0), (1263, .goto (-1245), 3, 0), (1266, .iconst 1, 1, 0), (1267, .ireturn, 1, 0)]
noncomputable def am_rows : List (List (Nat × Instr × Nat × Nat)) := [[], am_r1, am_r2, am_r3, am_r4, am_r5, am_r6, am_r7, am_r8, am_r9, am_r10, am_r11, am_r12, am_r13, am_r14, am_r15, am_r16, am_r17, am_r18, am_r19, am_r20, am_r21, am_r22, am_r23, am_r24, am_r25, am_r26, am_r27, am_r28, am_r29, am_r30, am_r31, am_r32, am_r33, am_r34, am_r35, am_r36, am_r37, am_r38, am_r39, am_r40, am_r41, am_r42, am_r43, am_r44, am_r45, am_r46, am_r47, am_r48, am_r49, am_r50, am_r51, am_r52, am_r53, am_r54, am_r55, am_r56, am_r57, am_r58, am_r59, am_r60, am_r61, am_r62, am_r63, am_r64, am_r65, am_r66, am_r67, am_r68, am_r69, am_r70, am_r71, am_r72, am_r73, am_r74, am_r75, am_r76, am_r77, am_r78, am_r79, am_r80, am_r81, am_r82, am_r83, am_r84, am_r85, am_r86, am_r87, am_r88, am_r89, am_r90, am_r91, am_r92, am_r93, am_r94, am_r95, am_r96, am_r97, am_r98, am_r99, am_r100, am_r101, am_r102, am_r103, am_r104, am_r105, am_r106, am_r107, am_r108, am_r109, am_r110, am_r111, am_r112, am_r113, am_r114, am_r115, am_r116, am_r117, am_r118, am_r119, am_r120, am_r121, am_r122, am_r123, am_r124, am_r125, am_r126, am_r127, am_r128, am_r129, am_r130, am_r131, am_r132, am_r133, am_r134, am_r135, am_r136, am_r137, am_r138, am_r139, am_r140, am_r141, am_r142, am_r143, am_r144, am_r145, am_r146, am_r147, am_r148, am_r149, am_r150, am_r151, am_r152, am_r153, am_r154, am_r155, am_r156, am_r157, am_r158, am_r159, am_r160, am_r161, am_r162, am_r163, am_r164, am_r165, am_r166, am_r167, am_r168, am_r169, am_r170, am_r171, am_r172, am_r173, am_r174, am_r175, am_r176, am_r177, am_r178, am_r179, am_r180, am_r181, am_r182, am_r183, am_r184, am_r185, am_r186, am_r187, am_r188, am_r189, am_r190, am_r191, am_r192, am_r193, am_r194, am_r195, am_r196, am_r197, am_r198, am_r199, am_r200, am_r201, am_r202, am_r203, am_r204, am_r205, am_r206, am_r207, am_r208, am_r209, am_r210, am_r211, am_r212, am_r213, am_r214, am_r215, am_r216, am_r217, am_r218, am_r219, am_r220, am_r221, am_r222, am_r223, am_r224, am_r225, am_r226, am_r227, am_r228, am_r229, am_r230, am_r231, am_r232, am_r233, am_r234, am_r235, am_r236, am_r237, am_r238, am_r239, am_r240, am_r241, am_r242, am_r243, am_r244, am_r245, am_r246, am_r247, am_r248, am_r249, am_r250, am_r251, am_r252, am_r253, am_r254, am_r255, am_r256, am_r257, am_r258, am_r259, am_r260, am_r261, am_r262, am_r263, am_r264, am_r265, am_r266, am_r81, am_r81, am_r81, am_r81, am_r271]
noncomputable def am_hints : List (Nat × Nat × Nat × Nat) := [(0, 0, 0, 0), (231, 96, 230, 0), (930, 96, 928, 929), (934, 96, 932, 933), (907, 96, 905, 906), (1015, 96, 1013, 1014), (729, 96, 727, 728), (786, 96, 785, 8), (782, 96, 780, 781), (971, 96, 969, 970), (976, 96, 974, 975), (1139, 96, 1137, 1138), (766, 96, 764, 765), (992, 96, 990, 991), (996, 96, 994, 995), (1001, 96, 999, 1000), (1147, 96, 1145, 1146), (1053, 96, 1051, 1052), (770, 96, 768, 769), (774, 96, 772, 773), (1130, 96, 1128, 1129), (224, 95, 223, 0), (938, 95, 936, 937), (721, 95, 719, 720), (725, 95, 723, 724), (912, 95, 910, 911), (1125, 95, 1123, 1124), (746, 95, 744, 745), (926, 95, 924, 925), (917, 95, 915, 916), (921, 95, 919, 920), (208, 94, 207, 0), (713, 94, 711, 712), (967, 94, 965, 966), (312, 98, 311, 0), (800, 98, 798, 799), (808, 98, 807, 9), (811, 98, 810, 0), (867, 98, 865, 866), (1084, 98, 1082, 1083), (1090, 98, 1088, 1089), (841, 98, 839, 840), (837, 98, 835, 836), (832, 98, 830, 831), (824, 98, 822, 823), (828, 98, 826, 827), (984, 98, 982, 983), (988, 98, 986, 987), (1029, 98, 1027, 1028), (820, 98, 818, 819), (849, 98, 847, 848), (962, 98, 960, 961), (856, 98, 855, 0), (852, 98, 851, 0), (1107, 98, 1105, 1106), (1111, 98, 1110, 24), (1117, 98, 1116, 25), (168, 92, 167, 0), (500, 92, 499, 0), (647, 92, 646, 0), (1004, 92, 1003, 0), (495, 92, 493, 494), (484, 92, 482, 483), (509, 92, 508, 0), (517, 92, 516, 1), (505, 92, 503, 504), (543, 92, 541, 542), (557, 92, 555, 556), (1024, 92, 1022, 1023), (1070, 92, 1068, 1069), (610, 92, 608, 609), (643, 92, 641, 642), (304, 97, 303, 0), (380, 97, 378, 379), (1103, 97, 1101, 1102), (741, 97, 739, 740), (790, 97, 788, 789), (1039, 97, 1037, 1038), (794, 97, 792, 793), (1066, 97, 1064, 1065), (1079, 97, 1077, 1078), (116, 88, 115, 0), (460, 88, 458, 459), (464, 88, 462, 463), (629, 88, 627, 628), (513, 88, 511, 512), (476, 88, 474, 475), (468, 88, 466, 467), (521, 88, 519, 520), (623, 88, 621, 622), (595, 88, 593, 594), (133, 90, 132, 0), (573, 90, 571, 572), (614, 90, 612, 613), (618, 90, 617, 4), (895, 90, 893, 894), (634, 90, 632, 633), (372, 99, 371, 0), (737, 99, 735, 736), (1048, 99, 1046, 1047), (1057, 99, 1056, 22), (1062, 99, 1061, 23), (755, 99, 754, 0), (750, 99, 749, 5), (762, 99, 761, 6), (1034, 99, 1033, 21), (778, 99, 777, 7), (845, 99, 844, 10), (863, 99, 862, 0), (860, 99, 859, 11), (881, 99, 880, 12), (899, 99, 898, 13), (903, 99, 902, 14), (942, 99, 941, 15), (954, 99, 953, 16), (958, 99, 957, 17), (980, 99, 979, 18), (1009, 99, 1008, 19), (1020, 99, 1019, 20), (139, 91, 138, 0), (581, 91, 579, 580), (599, 91, 598, 2), (603, 91, 602, 3), (181, 93, 180, 0), (528, 93, 527, 0), (532, 93, 531, 0), (565, 93, 564, 0), (685, 93, 683, 684), (669, 93, 667, 668), (673, 93, 671, 672), (877, 93, 875, 876), (888, 93, 886, 887), (569, 93, 567, 568), (681, 93, 679, 680), (872, 93, 870, 871), (693, 93, 691, 692), (701, 93, 699, 700), (705, 93, 703, 704), (108, 87, 107, 0), (456, 87, 454, 455), (472, 87, 470, 471), (480, 87, 478, 479), (491, 87, 489, 490), (525, 87, 523, 524), (548, 87, 546, 547), (552, 87, 550, 551), (562, 87, 560, 561), (638, 87, 636, 637), (655, 87, 653, 654), (660, 87, 658, 659), (665, 87, 663, 664), (677, 87, 675, 676), (689, 87, 687, 688), (697, 87, 695, 696), (709, 87, 707, 708), (717, 87, 715, 716), (733, 87, 731, 732), (1044, 87, 1042, 1043), (1075, 87, 1073, 1074), (1094, 87, 1092, 1093), (1099, 87, 1097, 1098), (1121, 87, 1119, 1120), (1135, 87, 1133, 1134), (1143, 87, 1141, 1142), (1151, 87, 1149, 1150), (1159, 100, 1158, 0), (1402, 100, 1401, 0), (1164, 100, 1163, 26), (1170, 100, 1169, 27), (1175, 100, 1174, 28), (1449, 100, 1448, 33), (1460, 100, 1459, 0), (1457, 100, 1456, 35), (1464, 100, 1463, 36), (1468, 100, 1467, 37), (1453, 100, 1452, 34), (1445, 100, 1444, 32), (1473, 100, 1472, 38), (1481, 100, 1480, 0), (1548, 100, 1547, 0), (1582, 100, 1581, 0), (1390, 100, 1389, 0), (1387, 100, 1386, 0), (1384, 100, 1382, 1383), (1394, 100, 1392, 1393), (1398, 100, 1396, 1397), (1412, 100, 1411, 29), (1407, 100, 1405, 1406), (1420, 100, 1419, 30), (1416, 100, 1414, 1415), (1424, 100, 1422, 1423), (1428, 100, 1426, 1427), (1431, 100, 1430, 0), (1439, 100, 1438, 31), (1435, 100, 1433, 1434), (1477, 100, 1475, 1476), (1487, 100, 1485, 1486), (1491, 100, 1489, 1490), (1499, 100, 1498, 0), (1503, 100, 1502, 39), (1496, 100, 1494, 1495), (1507, 100, 1505, 1506), (1511, 100, 1509, 1510), (1515, 100, 1513, 1514), (1519, 100, 1517, 1518), (1708, 100, 1707, 77), (1529, 100, 1528, 40), (1533, 100, 1532, 41), (1524, 100, 1522, 1523), (1555, 100, 1554, 44), (1567, 100, 1566, 47), (1563, 100, 1562, 46), (1721, 100, 1720, 80), (1712, 100, 1711, 78), (1579, 100, 1578, 50), (1586, 100, 1585, 51), (1620, 100, 1619, 57), (1616, 100, 1615, 56), (1612, 100, 1611, 55), (1601, 100, 1600, 0), (1597, 100, 1596, 53), (1624, 100, 1623, 58), (1628, 100, 1627, 59), (1575, 100, 1574, 49), (1541, 100, 1540, 42), (1640, 100, 1639, 62), (1643, 100, 1642, 0), (1593, 100, 1592, 0), (1604, 100, 1603, 0), (1651, 100, 1650, 64), (1659, 100, 1658, 66), (1647, 100, 1646, 63), (1655, 100, 1654, 65), (1636, 100, 1635, 61), (1537, 100, 1535, 1536), (1725, 100, 1724, 81), (1545, 100, 1544, 43), (1559, 100, 1558, 45), (1571, 100, 1570, 48), (1590, 100, 1589, 52), (1608, 100, 1607, 54), (1632, 100, 1631, 60), (1671, 100, 1670, 69), (1667, 100, 1666, 68), (1675, 100, 1674, 70), (1663, 100, 1662, 67), (1693, 100, 1692, 74), (1679, 100, 1678, 71), (1688, 100, 1687, 73), (1683, 100, 1682, 72), (1700, 100, 1699, 75), (1704, 100, 1703, 76), (1717, 100, 1716, 79), (1729, 100, 1727, 1728), (1733, 100, 1732, 82), (1742, 100, 1741, 83), (1746, 100, 1745, 84), (1737, 100, 1735, 1736), (1750, 100, 1748, 1749), (1754, 100, 1752, 1753), (1762, 100, 1761, 85), (1758, 100, 1756, 1757), (1766, 100, 1764, 1765), (1770, 100, 1768, 1769), (1774, 100, 1772, 1773), (538, 102, 537, 0), (535, 101, 534, 0), (116, 88, 115, 0), (116, 88, 115, 0), (116, 88, 115, 0), (116, 88, 115, 0), (0, 86, 0, 0)]
end
section
/-! ===== the check of the tables' rows ===== -/
def am_p (pcs : Nat → Nat) (k : Nat) (ri rr : Instr) (len n : Nat) : Bool := decide (ri = rr) && (decide (len = n) && decide (pcs (k + 1) = pcs k + n))
theorem am_p_ok {pcs : Nat → Nat} {k : Nat} {ri rr : Instr} {len n : Nat} (h : am_p pcs k ri rr len n = true) : ri = rr ∧ len = n ∧ pcs (k + 1) = pcs k + n := by simpa [am_p] using h
def am_wd (i : Nat) (w : Cond) : Bool := decide (lw_tbl[i]? = some w) && goodWord w
theorem am_wd_ok {i : Nat} {w : Cond} (h : am_wd i w = true) : w ∈ am_tbl := by
  rw [am_wd, Bool.and_eq_true, decide_eq_true_eq] at h
  exact List.mem_filter.mpr ⟨List.mem_of_getElem? h.1, h.2⟩
def am_wn (i : Nat) (w : Cond) : Bool := decide (lw_tbl[i]? = some w)
theorem am_wn_ok {i : Nat} {w : Cond} (h : am_wn i w = true) : w ∈ lw_tbl := List.mem_of_getElem? (of_decide_eq_true h)
def am_fok (q : Nat) (own : String) (idx hint : Nat) (kd : Nat → Bool) (fd : FieldType → Bool) (fin : Bool → Bool) : Bool := match am_cl[q / 100]? with
  | some (Cn, T, N) => decide (q / 100 < 50) && (decide (q % 100 < N) && (decide ((T (q % 100)).1 = Cn) && (kd ((am_fk.getD (q / 100) []).getD (q % 100) 0) && (am_wd hint (.fieldLink own idx Cn (T (q % 100)).2.1 (T (q % 100)).2.2.1) && ((match parseFieldDescriptor (T (q % 100)).2.2.1 with
    | some ty => fd ty
    | none => false) && (fin (T (q % 100)).2.2.2 && (!(T (q % 100)).2.2.2 || decide (Cn = own))))))))
  | none => false
def am_jt (pcs : Nat → Nat) (k : Nat) (off t : Int) : Bool := decide ((pcs k : Int) + off = (pcs t.toNat : Nat))
def am_tswb (pcs : Nat → Nat) (k : Nat) : Int → List Int → List (Int × Int) → Bool
  | _, [], [] => true
  | v, o :: os, (a, t) :: ps => decide (a = v) && (am_jt pcs k o t && am_tswb pcs k (v + 1) os ps)
  | _, _, _ => false
theorem am_tswb_ok {pcs : Nat → Nat} {k : Nat} : ∀ (v : Int) (os : List Int) (ps : List (Int × Int)), am_tswb pcs k v os ps = true → am_tsw pcs k v os ps
  | _, [], [], _ => trivial
  | _, [], _ :: _, h => by simp [am_tswb] at h
  | _, _ :: _, [], h => by simp [am_tswb] at h
  | v, o :: os, (a, t) :: ps, h => by
    simp only [am_tswb, am_jt, Bool.and_eq_true, decide_eq_true_eq] at h
    exact ⟨h.1, h.2.1, am_tswb_ok (v + 1) os ps h.2.2⟩
def am_lswb (pcs : Nat → Nat) (k : Nat) : List (Int × Int) → List (Int × Int) → Bool
  | [], [] => true
  | (b, o) :: os, (a, t) :: ps => decide (a = b) && (decide (-2147483648 ≤ a) && (decide (a < 2147483648) && (am_jt pcs k o t && am_lswb pcs k os ps)))
  | _, _ => false
theorem am_lswb_ok {pcs : Nat → Nat} {k : Nat} : ∀ (os ps : List (Int × Int)), am_lswb pcs k os ps = true → am_lsw pcs k os ps
  | [], [], _ => trivial
  | [], _ :: _, h => by simp [am_lswb] at h
  | _ :: _, [], h => by simp [am_lswb] at h
  | (b, o) :: os, (a, t) :: ps, h => by
    simp only [am_lswb, am_jt, Bool.and_eq_true, decide_eq_true_eq] at h
    exact ⟨h.1, h.2.1, h.2.2.1, h.2.2.2.1, am_lswb_ok os ps h.2.2.2.2⟩
def am_isref (ty : FieldType) : Bool := match ty with
  | .object _ => true
  | .array _ => true
  | _ => false
def am_NM : Nat := 271
/-- it is no constructor -/
noncomputable def am_vi (q : Nat) : Bool := decide (¬ (am_y q).name = "<init>")
/-- a call of the method q: its depth and its locals fit -/
noncomputable def am_fit (fr lo q : Nat) : Bool := decide (0 < q ∧ q < am_NM) && (decide (am_fr q + 1 ≤ fr) && decide (8 + (am_nl q + 11) + am_lo q ≤ lo))
noncomputable def am_ck (own : String) (nL fr lo : Nat) (ini : Bool) (rt : Option FieldType) (pcs : Nat → Nat) (k : Nat) (ri : Instr) (len hint : Nat) (ai : Instr) : Bool := match ai with
  | .iadd => am_p pcs k ri (.iadd) len 1
  | .isub => am_p pcs k ri (.isub) len 1
  | .imul => am_p pcs k ri (.imul) len 1
  | .idiv => am_p pcs k ri (.idiv) len 1
  | .irem => am_p pcs k ri (.irem) len 1
  | .iand => am_p pcs k ri (.iand) len 1
  | .ior => am_p pcs k ri (.ior) len 1
  | .ixor => am_p pcs k ri (.ixor) len 1
  | .ishl => am_p pcs k ri (.ishl) len 1
  | .ishr => am_p pcs k ri (.ishr) len 1
  | .iushr => am_p pcs k ri (.iushr) len 1
  | .ladd => am_p pcs k ri (.ladd) len 1
  | .lsub => am_p pcs k ri (.lsub) len 1
  | .lmul => am_p pcs k ri (.lmul) len 1
  | .ldiv => am_p pcs k ri (.ldiv) len 1
  | .land => am_p pcs k ri (.land) len 1
  | .lor => am_p pcs k ri (.lor) len 1
  | .lshl => am_p pcs k ri (.lshl) len 1
  | .lshr => am_p pcs k ri (.lshr) len 1
  | .lushr => am_p pcs k ri (.lushr) len 1
  | .lcmp => am_p pcs k ri (.lcmp) len 1
  | .i2l => am_p pcs k ri (.i2l) len 1
  | .i2b => am_p pcs k ri (.i2b) len 1
  | .l2i => am_p pcs k ri (.l2i) len 1
  | .dup => am_p pcs k ri (.dup) len 1
  | .dup2 => am_p pcs k ri (.dup2) len 1
  | .pop => am_p pcs k ri (.pop) len 1
  | .iaload => am_p pcs k ri (.iaload) len 1
  | .baload => am_p pcs k ri (.baload) len 1
  | .laload => am_p pcs k ri (.laload) len 1
  | .aaload => am_p pcs k ri (.aaload) len 1
  | .iastore => am_p pcs k ri (.iastore) len 1
  | .bastore => am_p pcs k ri (.bastore) len 1
  | .lastore => am_p pcs k ri (.lastore) len 1
  | .aastore => am_p pcs k ri (.aastore) len 1
  | .arraylength => am_p pcs k ri (.arraylength) len 1
  | .aconst_null => am_p pcs k ri (.aconst_null) len 1
  | .caload => am_p pcs k ri (.baload) len 1
  | .castore => am_p pcs k ri (.bastore) len 1
  | .iconst n => (am_p pcs k ri (.iconst n) len 1 || ((am_p pcs k ri (.bipush n) len 2 && decide ((Int8.ofInt n).toInt32 = Int32.ofInt n)) || ((am_p pcs k ri (.sipush n) len 3 && decide ((Int16.ofInt n).toInt32 = Int32.ofInt n)) || (match ri with
    | .ldc idx => am_p pcs k ri (.ldc idx) len 2 && am_wd hint (.constant own idx (Int32.ofInt n))
    | .ldc_w idx => am_p pcs k ri (.ldc_w idx) len 3 && am_wd hint (.constant own idx (Int32.ofInt n))
    | _ => false))))
  | .goto_w n => (match ri with
    | .lconst a => am_p pcs k ri (.lconst a) len 1 && decide (Int64.ofNat (a : Nat) = Int64.ofInt n)
    | .ldc2_w idx => am_p pcs k ri (.ldc2_w idx) len 3 && am_wd hint (.constantLong own idx (Int64.ofInt n))
    | _ => false)
  | .iload j => (am_p pcs k ri (.iload j) len 2 || (match ri with
    | .iload_n a => am_p pcs k ri (.iload_n a) len 1 && decide ((a : Nat) = j)
    | _ => false))
  | .istore j => (decide (j < nL) && (am_p pcs k ri (.istore j) len 2 || (match ri with
    | .istore_n a => am_p pcs k ri (.istore_n a) len 1 && decide ((a : Nat) = j)
    | _ => false)))
  | .lload j => (am_p pcs k ri (.lload j) len 2 || (match ri with
    | .lload_n a => am_p pcs k ri (.lload_n a) len 1 && decide ((a : Nat) = j)
    | _ => false))
  | .lstore j => (decide (j + 1 < nL) && (am_p pcs k ri (.lstore j) len 2 || (match ri with
    | .lstore_n a => am_p pcs k ri (.lstore_n a) len 1 && decide ((a : Nat) = j)
    | _ => false)))
  | .aload j => (am_p pcs k ri (.aload j) len 2 || (match ri with
    | .aload_n a => am_p pcs k ri (.aload_n a) len 1 && decide ((a : Nat) = j)
    | _ => false))
  | .astore j => (decide (j < nL) && (am_p pcs k ri (.astore j) len 2 || (match ri with
    | .astore_n a => am_p pcs k ri (.astore_n a) len 1 && decide ((a : Nat) = j)
    | _ => false)))
  | .iinc j n => (decide (j < nL) && am_p pcs k ri (.iinc j n) len 3)
  | .goto t => (match ri with
    | .goto off => decide (len = 3) && am_jt pcs k off t
    | _ => false)
  | .ifnull t => (match ri with
    | .ifnull off => am_p pcs k ri (.ifnull off) len 3 && am_jt pcs k off t
    | _ => false)
  | .ifnonnull t => (match ri with
    | .ifnonnull off => am_p pcs k ri (.ifnonnull off) len 3 && am_jt pcs k off t
    | _ => false)
  | .ifCond c t => (match ri with
    | .ifCond c2 off => decide (c2 = c) && (am_p pcs k ri (.ifCond c2 off) len 3 && am_jt pcs k off t)
    | _ => false)
  | .if_icmp c t => (match ri with
    | .if_icmp c2 off => decide (c2 = c) && (am_p pcs k ri (.if_icmp c2 off) len 3 && am_jt pcs k off t)
    | _ => false)
  | .lookupswitch d ps => (match ri with
    | .tableswitch dd lo hi offs => decide (-2147483648 ≤ lo) && (decide (hi + 1 = lo + offs.toList.length) && (decide (hi < 2147483648) && (am_tswb pcs k lo offs.toList ps.toList && am_jt pcs k dd d)))
    | .lookupswitch dd qs => (qs.toList.zip (qs.toList.drop 1)).all (fun (a, next) => a.1 < next.1) && (am_lswb pcs k qs.toList ps.toList && am_jt pcs k dd d)
    | _ => false)
  | .getfield q => (match ri with
    | .getfield idx => am_p pcs k ri (.getfield idx) len 3 && am_fok q own idx hint (fun a => decide (¬ a = 1) && decide (¬ a = 2)) (fun _ => true) (fun _ => true)
    | _ => false)
  | .fload q => (match ri with
    | .getfield idx => am_p pcs k ri (.getfield idx) len 3 && am_fok q own idx hint (fun a => decide (a = 1)) (fun _ => true) (fun _ => true)
    | _ => false)
  | .dload q => (match ri with
    | .getfield idx => am_p pcs k ri (.getfield idx) len 3 && am_fok q own idx hint (fun a => decide (a = 2)) (fun _ => true) (fun _ => true)
    | _ => false)
  | .putfield q => (match ri with
    | .putfield idx => am_p pcs k ri (.putfield idx) len 3 && am_fok q own idx hint (fun a => decide (¬ a = 1) && decide (¬ a = 2)) (fun ty => decide (ty = .int)) (fun f => !f || ini)
    | _ => false)
  | .putstatic q => (match ri with
    | .putfield idx => am_p pcs k ri (.putfield idx) len 3 && am_fok q own idx hint (fun a => decide (¬ a = 1) && decide (¬ a = 2)) (fun ty => decide (ty = .boolean)) (fun f => !f || ini)
    | _ => false)
  | .fstore q => (match ri with
    | .putfield idx => am_p pcs k ri (.putfield idx) len 3 && am_fok q own idx hint (fun a => decide (a = 1)) (fun ty => decide (ty = .long)) (fun f => !f || ini)
    | _ => false)
  | .dstore q => (match ri with
    | .putfield idx => am_p pcs k ri (.putfield idx) len 3 && am_fok q own idx hint (fun a => decide (a = 2)) am_isref (fun f => !f || ini)
    | _ => false)
  | .getstatic j => (match ri with
    | .getstatic idx => am_p pcs k ri (.getstatic idx) len 3 && (decide (j < 3) && am_wd hint (.fieldLink own idx (am_sf j).1 (am_sf j).2 "[I"))
    | _ => false)
  | .new q => (match ri with
    | .new idx => am_p pcs k ri (.new idx) len 3 && (decide (q / 100 < 50) && (match am_cl[q / 100]? with
      | some (Cn, _, N) => decide (N = q % 100) && am_wd hint (.classLink own idx Cn)
      | none => false))
    | _ => false)
  | .anewarray t => (match ri with
    | .newarray at0 => am_p pcs k ri (.newarray at0) len 2 && (decide (at0 = .int) && decide (t = 50) || (decide (at0 = .long) && decide (t = 51) || (decide (at0 = .byte) && decide (t = 52) || decide (at0 = .boolean) && decide (t = 53))))
    | .anewarray idx => am_p pcs k ri (.anewarray idx) len 3 && (decide (t = 54) && am_wd hint (.classLink own idx RX0))
    | _ => false)
  | .invokevirtual q => (match ri with
    | .invokevirtual idx => am_p pcs k ri (.invokevirtual idx) len 3 && (am_fit fr lo q && (am_wd hint (.methodLink own idx (am_y q)) && (decide (am_rc q < 50) && am_vi q)))
    | _ => false)
  | .invokestatic q => (match ri with
    | .invokestatic idx => am_p pcs k ri (.invokestatic idx) len 3 && (am_fit fr lo q && (am_wd hint (.methodLink own idx (am_y q)) && decide (am_rc q = 99)))
    | _ => false)
  | .invokespecial q => (match ri with
    | .invokespecial idx => am_p pcs k ri (.invokespecial idx) len 3 && (am_fit fr lo q && ((am_wd hint (.methodLink own idx (am_y q)) || am_wn hint (.methodLinkNest own idx (am_y q) "RelayHouse")) && (decide (am_rc q < 50) && (decide ((am_y q).name = "<init>") && decide (am_rt q = none)))))
    | _ => false)
  | .monitorexit => (match ri with
    | .invokespecial idx => am_p pcs k ri (.invokespecial idx) len 3 && (decide (1 ≤ fr) && (decide (20 ≤ lo) && am_wd hint (.methodLink own idx Lib.objectInit)))
    | _ => false)
  | .invokeinterface a b => (match ri with
    | .invokestatic idx => am_p pcs k ri (.invokestatic idx) len 3 && (decide (1 ≤ fr) && (decide (23 ≤ lo) && (decide (a = 0) && am_wd hint (.methodLink own idx Lib.Math.max.name) || (decide (a = 1) && am_wd hint (.methodLink own idx Lib.Math.min.name) || (decide (a = 2) && am_wd hint (.methodLink own idx Lib.MathLoose.max_long.x) || decide (a = 3) && am_wd hint (.methodLink own idx Lib.MathLoose.min_long.x))))))
    | _ => false)
  | .invokedynamic a => (match ri with
    | .invokestatic idx => am_p pcs k ri (.invokestatic idx) len 3 && (decide (1 ≤ fr) && (decide (8 + (nativeFrameWords "java/lang/System" "arraycopy" 5 + 11) ≤ lo) && (am_wd hint (.methodLink own idx arraycopyName) && (decide (a = 0) || decide (a = 1)))))
    | _ => false)
  | .ireturn => (decide (ri = .ireturn) && (decide (len = 1) && (decide (rt = some .int) || decide (rt = some .boolean))))
  | .lreturn => (decide (ri = .lreturn) && (decide (len = 1) && decide (rt = some .long)))
  | .areturn => (decide (ri = .areturn) && (decide (len = 1) && (match rt with
    | some (.object _) => true
    | _ => false)))
  | .return_ => (decide (ri = .return_) && (decide (len = 1) && decide (rt = none)))
  | _ => false
end
section
/-! ===== from the check to the law of every instruction ===== -/
theorem am_clok0 : ∀ w ∈ u_ws RX0 TX0 16, w ∈ am_tbl := by decide +kernel
theorem am_clok1 : ∀ w ∈ u_ws RX1 TX1 2, w ∈ am_tbl := by decide +kernel
theorem am_clok2 : ∀ w ∈ u_ws RX2 TX2 3, w ∈ am_tbl := by decide +kernel
theorem am_clok3 : ∀ w ∈ u_ws RX3 TX3 10, w ∈ am_tbl := by decide +kernel
theorem am_clok4 : ∀ w ∈ u_ws RX4 TX4 2, w ∈ am_tbl := by decide +kernel
theorem am_clok5 : ∀ w ∈ u_ws RX5 TX5 7, w ∈ am_tbl := by decide +kernel
theorem am_clok6 : ∀ w ∈ u_ws RX6 TX6 2, w ∈ am_tbl := by decide +kernel
theorem am_clok7 : ∀ w ∈ u_ws RX7 TX7 4, w ∈ am_tbl := by decide +kernel
theorem am_clok8 : ∀ w ∈ u_ws RX8 TX8 15, w ∈ am_tbl := by decide +kernel
theorem am_clok9 : ∀ w ∈ u_ws RX9 TX9 2, w ∈ am_tbl := by decide +kernel
theorem am_clok10 : ∀ w ∈ u_ws RX10 TX10 6, w ∈ am_tbl := by decide +kernel
theorem am_clok11 : ∀ w ∈ u_ws RX11 TX11 8, w ∈ am_tbl := by decide +kernel
theorem am_clok12 : ∀ w ∈ u_ws RX12 TX12 68, w ∈ am_tbl := by decide +kernel
/-- what the tables say of a class of the worlds -/
def am_kls (ci : Nat) (Cn : String) (T : u_T) (N : Nat) : Prop := (∀ w ∈ u_ws Cn T N, w ∈ am_tbl) ∧ ∃ ty : Nat → FieldType, (∀ k, k < N → parseFieldDescriptor (T k).2.2.1 = some (ty k)) ∧ (∀ a, a < N → ∀ b, b < N → a ≠ b → (T a).2.1 ≠ (T b).2.1) ∧ (∀ k, k < N → defaultValue (ty k) = am_dv ((am_fk.getD ci []).getD k 0)) ∧ Cond.instantiable Cn N ∈ am_tbl ∧ Cond.initialized Cn ∈ am_tbl
set_option maxRecDepth 20000 in
theorem am_kls_ok {ci : Nat} {Cn : String} {T : u_T} {N : Nat} (h : am_cl[ci]? = some (Cn, T, N)) : am_kls ci Cn T N := by
  match ci, h with
  | 0, h =>
    cases h
    exact ⟨am_clok0, tyX0, tyX0_ok, nmX0, by decide +kernel, by decide +kernel, by decide +kernel⟩
  | 1, h =>
    cases h
    exact ⟨am_clok1, tyX1, tyX1_ok, nmX1, by decide +kernel, by decide +kernel, by decide +kernel⟩
  | 2, h =>
    cases h
    exact ⟨am_clok2, tyX2, tyX2_ok, nmX2, by decide +kernel, by decide +kernel, by decide +kernel⟩
  | 3, h =>
    cases h
    exact ⟨am_clok3, tyX3, tyX3_ok, nmX3, by decide +kernel, by decide +kernel, by decide +kernel⟩
  | 4, h =>
    cases h
    exact ⟨am_clok4, tyX4, tyX4_ok, nmX4, by decide +kernel, by decide +kernel, by decide +kernel⟩
  | 5, h =>
    cases h
    exact ⟨am_clok5, tyX5, tyX5_ok, nmX5, by decide +kernel, by decide +kernel, by decide +kernel⟩
  | 6, h =>
    cases h
    exact ⟨am_clok6, tyX6, tyX6_ok, nmX6, by decide +kernel, by decide +kernel, by decide +kernel⟩
  | 7, h =>
    cases h
    exact ⟨am_clok7, tyX7, tyX7_ok, nmX7, by decide +kernel, by decide +kernel, by decide +kernel⟩
  | 8, h =>
    cases h
    exact ⟨am_clok8, tyX8, tyX8_ok, nmX8, by decide +kernel, by decide +kernel, by decide +kernel⟩
  | 9, h =>
    cases h
    exact ⟨am_clok9, tyX9, tyX9_ok, nmX9, by decide +kernel, by decide +kernel, by decide +kernel⟩
  | 10, h =>
    cases h
    exact ⟨am_clok10, tyX10, tyX10_ok, nmX10, by decide +kernel, by decide +kernel, by decide +kernel⟩
  | 11, h =>
    cases h
    exact ⟨am_clok11, tyX11, tyX11_ok, nmX11, by decide +kernel, by decide +kernel, by decide +kernel⟩
  | 12, h =>
    cases h
    exact ⟨am_clok12, tyX12, tyX12_ok, nmX12, by decide +kernel, by decide +kernel, by decide +kernel⟩
  | n + 13, h => simp [am_cl] at h
def am_words : List Cond := [.instanceMethod Lib.objectInit, .code Lib.objectInit ⟨#[0xb1]⟩ 1 none, .initialized "java/lang/Math", .static Lib.Math.max.name, .code Lib.Math.max.name Lib.Math.max.code 2 (some .int), .static Lib.Math.min.name, .code Lib.Math.min.name Lib.Math.min.code 2 (some .int), .static Lib.MathLoose.max_long.x, .code Lib.MathLoose.max_long.x Lib.MathLoose.max_long.code 4 (some .long), .static Lib.MathLoose.min_long.x, .code Lib.MathLoose.min_long.x Lib.MathLoose.min_long.code 4 (some .long), .native arraycopyName, .static arraycopyName, .initialized "java/lang/System", .arrayClass .int, .arrayClass .long, .arrayClass .byte, .arrayClass .boolean]
theorem am_words_in : ∀ w ∈ am_words, w ∈ am_tbl := by decide +kernel
theorem am_words_good : am_tbl.all goodWord = true := List.all_eq_true.mpr (fun w hw => (List.mem_filter.mp hw).2)
theorem am_wi (i : Nat) {w : Cond} (h : am_words[i]? = some w) : w ∈ am_tbl := am_words_in w (List.mem_of_getElem? h)
/-- what the tables say of a method that is called -/
def am_ok2 (q : Nat) : Prop := Cond.code (am_y q) (am_cc q) (am_nl q) (am_rt q) ∈ am_tbl ∧ Cond.initialized (am_y q).cls ∈ am_tbl ∧ ((am_y q).cls ≠ "java/lang/invoke/MethodHandle" ∧ (am_y q).cls ≠ "java/lang/invoke/VarHandle") ∧ plainName (am_y q).cls = true ∧ ∃ n, (parseMethodDescriptor (am_y q).desc).map (fun d => d.parameters.length) = some n ∧
  (am_rc q < 50 → am_na q = n + 1 ∧ Cond.instanceMethod (am_y q) ∈ am_tbl ∧ (am_vi q = true → Cond.selects (am_y q).cls (am_y q) (am_y q) ∈ am_tbl) ∧ ∃ T N, am_cl[am_rc q]? = some ((am_y q).cls, T, N)) ∧ (am_rc q = 99 → am_na q = n ∧ Cond.static (am_y q) ∈ am_tbl)
theorem am_fok_ok {q : Nat} {own : String} {idx hint : Nat} {kd : Nat → Bool} {fd : FieldType → Bool} {fin : Bool → Bool} (h : am_fok q own idx hint kd fd fin = true) : ∃ Cn T N, am_cl[q / 100]? = some (Cn, T, N) ∧ q / 100 < 50 ∧ q % 100 < N ∧ (T (q % 100)).1 = Cn ∧ kd ((am_fk.getD (q / 100) []).getD (q % 100) 0) = true ∧ Cond.fieldLink own idx Cn (T (q % 100)).2.1 (T (q % 100)).2.2.1 ∈ am_tbl ∧ (∃ ty, parseFieldDescriptor (T (q % 100)).2.2.1 = some ty ∧ fd ty = true) ∧ fin (T (q % 100)).2.2.2 = true ∧ ((T (q % 100)).2.2.2 = true → Cn = own) := by
  unfold am_fok at h
  split at h
  · rename_i Cn T N hcl
    simp only [Bool.and_eq_true, decide_eq_true_eq] at h
    obtain ⟨h1, h2, h3, h4, h5, h6, h7, h8⟩ := h
    refine ⟨Cn, T, N, hcl, h1, h2, h3, h4, am_wd_ok h5, ?_, h7, fun z => ?_⟩
    · split at h6
      · rename_i ty hty
        exact ⟨ty, hty, h6⟩
      · cases h6
    · rw [z] at h8
      simpa using h8
  · cases h
theorem am_refn {ty : FieldType} (h : am_isref ty = true) : (∀ r : Option Nat, narrow ty (va_rf r) = va_rf r) ∧ ∀ r : Option Nat, fits ty (va_rf r) = true := by
  cases ty <;> first | (simp [am_isref] at h; done) | exact ⟨fun r => by cases r <;> rfl, fun r => by cases r <;> rfl⟩
theorem am_fit_ok {fr lo q : Nat} (h : am_fit fr lo q = true) : (0 < q ∧ q < am_NM) ∧ am_fr q + 1 ≤ fr ∧ 8 + (am_nl q + 11) + am_lo q ≤ lo := by
  rw [am_fit, Bool.and_eq_true, Bool.and_eq_true, decide_eq_true_eq, decide_eq_true_eq, decide_eq_true_eq] at h
  exact h
section AMX
variable {p : Program} {l : Launch} {e : Env} {R : Room} {s : State} {m : MethodId} {args : Array Value} {below : List Frame} {meth : Method} {c : Code} {Qm : State → Prop} {cc : ByteArray} {nL : Nat} {own : String} {Ts : List Cond} {D : va_G} {a0 : Nat → Nat} {cA : Nat → ClassId} {base : Nat} {L0 : Nat → Nat} {X0 : Nat → Nat → Int32} {n0 z0 : Nat} {pcs : Nat → Nat} {rc na mcT msT : Nat → Nat} {cN cZ : Nat} {C : am_C} {Z : am_Q} {k : Nat} {ls : List (Option Value)} {st : List Value} {h : am_H}
variable {fr lo : Nat} {ini : Bool} {rt : Option FieldType} {ri : Instr} {len hint : Nat}
set_option maxHeartbeats 4000000 in
theorem am_close (F : am_F p s m args c cc nL own Ts D a0 cA base L0 X0) (h4n : 4 ≤ n0) (hcN : cN = n0 + R.cells) (hcZ : cZ = z0 + R.slots) (hfr : R.frames = fr) (hlo : R.locals = lo) (hini : ini = true → meth.name = "<init>")
    (hC : ∀ q as h Q, (0 < q ∧ q < am_NM) → C q as h Q → am_Met l D cA base L0 X0 (am_y q) (am_cc q) (am_nl q) (am_rt q) (am_fr q) (am_lo q) (am_mc q) (am_ms q) as h Q) (hK2 : ∀ q, (0 < q ∧ q < am_NM) → am_ok2 q)
    (ai : Instr) (hret : (ai = .ireturn ∨ ai = .lreturn ∨ ai = .areturn ∨ ai = .return_) → am_step am_rc am_na am_mc am_ms cN cZ C Z (am_J p l e R s m args below meth c Qm nL D a0 cA base L0 X0 n0 z0 pcs) k ls st h ai → (am_J p l e R s m args below meth c Qm nL D a0 cA base L0 X0 n0 z0 pcs) k ls st h)
    (hd : decode cc (pcs k) = .ok (ri, len)) (hb : am_ck own nL fr lo ini rt pcs k ri len hint ai = true) (hs : am_step am_rc am_na am_mc am_ms cN cZ C Z (am_J p l e R s m args below meth c Qm nL D a0 cA base L0 X0 n0 z0 pcs) k ls st h ai) : (am_J p l e R s m args below meth c Qm nL D a0 cA base L0 X0 n0 z0 pcs) k ls st h := by
  subst hfr hlo
  cases ai with
  | aaload =>
    obtain ⟨rfl, rfl, hn⟩ := am_p_ok hb
    exact aj_aaload F hd hn hs
  | aastore =>
    obtain ⟨rfl, rfl, hn⟩ := am_p_ok hb
    exact aj_aastore F hd hn hs
  | aconst_null =>
    obtain ⟨rfl, rfl, hn⟩ := am_p_ok hb
    exact aj_null F hd hn hs
  | aload j =>
    simp only [am_ck, Bool.or_eq_true, Bool.and_eq_true, decide_eq_true_eq] at hb
    rcases hb with hb | hb
    · obtain ⟨rfl, rfl, hn⟩ := am_p_ok hb
      exact aj_aload F hd hn hs
    · split at hb
      · simp only [Bool.and_eq_true, decide_eq_true_eq] at hb
        obtain ⟨-, rfl, hn⟩ := am_p_ok hb.1
        exact aj_aloadn F hb.2 hd hn hs
      · cases hb
  | aload_n _ => cases hb
  | anewarray t =>
    simp only [am_ck] at hb
    split at hb
    · simp only [Bool.and_eq_true, Bool.or_eq_true, decide_eq_true_eq] at hb
      obtain ⟨h1, h2⟩ := hb
      obtain ⟨-, rfl, hn⟩ := am_p_ok h1
      rcases h2 with ⟨rfl, rfl⟩ | ⟨rfl, rfl⟩ | ⟨rfl, rfl⟩ | ⟨rfl, rfl⟩
      · exact aj_newa (ty := .int) (j := 0) F rfl (by decide) rfl (Or.inl ⟨rfl, rfl⟩) (am_wi 14 rfl) hcN hcZ hd hn hs
      · exact aj_newa (ty := .long) (j := 1) F rfl (by decide) rfl (Or.inr (Or.inl ⟨rfl, rfl⟩)) (am_wi 15 rfl) hcN hcZ hd hn hs
      · exact aj_newa (ty := .byte) (j := 2) F rfl (by decide) rfl (Or.inr (Or.inr (Or.inl ⟨rfl, rfl⟩))) (am_wi 16 rfl) hcN hcZ hd hn hs
      · exact aj_newa (ty := .boolean) (j := 3) F rfl (by decide) rfl (Or.inr (Or.inr (Or.inr ⟨rfl, rfl⟩))) (am_wi 17 rfl) hcN hcZ hd hn hs
    · simp only [Bool.and_eq_true, decide_eq_true_eq] at hb
      obtain ⟨h1, rfl, h3⟩ := hb
      obtain ⟨-, rfl, hn⟩ := am_p_ok h1
      exact aj_newq F (am_wd_ok h3) hcN hcZ hd hn hs
    · cases hb
  | areturn =>
    exact hret (Or.inr (Or.inr (Or.inl rfl))) hs
  | arraylength =>
    obtain ⟨rfl, rfl, hn⟩ := am_p_ok hb
    exact aj_arraylength F h4n hd hn hs
  | astore j =>
    simp only [am_ck, Bool.or_eq_true, Bool.and_eq_true, decide_eq_true_eq] at hb
    obtain ⟨hj, hb⟩ := hb
    rcases hb with hb | hb
    · obtain ⟨rfl, rfl, hn⟩ := am_p_ok hb
      exact aj_astore F hj hd hn hs
    · split at hb
      · simp only [Bool.and_eq_true, decide_eq_true_eq] at hb
        obtain ⟨-, rfl, hn⟩ := am_p_ok hb.1
        exact aj_astoren F hb.2 hj hd hn hs
      · cases hb
  | astore_n _ => cases hb
  | athrow => cases hb
  | baload =>
    obtain ⟨rfl, rfl, hn⟩ := am_p_ok hb
    exact aj_baload F hd hn hs
  | bastore =>
    obtain ⟨rfl, rfl, hn⟩ := am_p_ok hb
    exact aj_bastore F hd hn hs
  | bipush _ => cases hb
  | caload =>
    obtain ⟨rfl, rfl, hn⟩ := am_p_ok hb
    exact aj_caload F hd hn hs
  | castore =>
    obtain ⟨rfl, rfl, hn⟩ := am_p_ok hb
    exact aj_castore F hd hn hs
  | checkcast _ => cases hb
  | d2f => cases hb
  | d2i => cases hb
  | d2l => cases hb
  | dadd => cases hb
  | daload => cases hb
  | dastore => cases hb
  | dcmp _ => cases hb
  | dconst _ => cases hb
  | ddiv => cases hb
  | dload q =>
    simp only [am_ck] at hb
    split at hb
    · rw [Bool.and_eq_true] at hb
      obtain ⟨-, rfl, hn⟩ := am_p_ok hb.1
      obtain ⟨Cn, T, N, h1, h2, h3, h4, h5, h6, -, -, -⟩ := am_fok_ok hb.2
      exact aj_getR F h1 h2 h3 h4 (am_kls_ok h1).1 (by simpa using h5) h6 hd hn hs
    · cases hb
  | dload_n _ => cases hb
  | dmul => cases hb
  | dneg => cases hb
  | drem => cases hb
  | dreturn => cases hb
  | dstore q =>
    simp only [am_ck] at hb
    split at hb
    · rw [Bool.and_eq_true] at hb
      obtain ⟨-, rfl, hn⟩ := am_p_ok hb.1
      obtain ⟨Cn, T, N, h1, h2, h3, h4, h5, h6, ⟨ty, h7, h8⟩, h9, h10⟩ := am_fok_ok hb.2
      obtain ⟨k1, ty0, k2, k3, -⟩ := am_kls_ok h1
      have hty : ty0 (q % 100) = ty := Option.some.inj ((k2 _ h3).symm.trans h7)
      cases hf : (T (q % 100)).2.2.2
      · exact aj_putR F h1 h2 h3 h4 k1 (am_refn h8).1 (am_refn h8).2 ty0 k2 k3 hty hf (by simpa using h5) h6 hd hn hs
      · exact aj_putRF F h1 h2 h3 h4 k1 (am_refn h8).1 (am_refn h8).2 ty0 k2 k3 hty hf (hini (by rw [hf] at h9; simpa using h9)) (h10 hf) (by simpa using h5) h6 hd hn hs
    · cases hb
  | dstore_n _ => cases hb
  | dsub => cases hb
  | dup =>
    obtain ⟨rfl, rfl, hn⟩ := am_p_ok hb
    exact aj_dup F hd hn hs
  | dup_x1 => cases hb
  | dup_x2 => cases hb
  | dup2 =>
    obtain ⟨rfl, rfl, hn⟩ := am_p_ok hb
    exact aj_dup2 F hd hn hs
  | dup2_x1 => cases hb
  | dup2_x2 => cases hb
  | f2d => cases hb
  | f2i => cases hb
  | f2l => cases hb
  | fadd => cases hb
  | faload => cases hb
  | fastore => cases hb
  | fcmp _ => cases hb
  | fconst _ => cases hb
  | fdiv => cases hb
  | fload q =>
    simp only [am_ck] at hb
    split at hb
    · rw [Bool.and_eq_true] at hb
      obtain ⟨-, rfl, hn⟩ := am_p_ok hb.1
      obtain ⟨Cn, T, N, h1, h2, h3, h4, h5, h6, -, -, -⟩ := am_fok_ok hb.2
      exact aj_getL F h1 h2 h3 h4 (am_kls_ok h1).1 (by simpa using h5) h6 hd hn hs
    · cases hb
  | fload_n _ => cases hb
  | fmul => cases hb
  | fneg => cases hb
  | frem => cases hb
  | freturn => cases hb
  | fstore q =>
    simp only [am_ck] at hb
    split at hb
    · rw [Bool.and_eq_true] at hb
      obtain ⟨-, rfl, hn⟩ := am_p_ok hb.1
      obtain ⟨Cn, T, N, h1, h2, h3, h4, h5, h6, ⟨ty, h7, h8⟩, h9, h10⟩ := am_fok_ok hb.2
      obtain ⟨k1, ty0, k2, k3, -⟩ := am_kls_ok h1
      have hty : ty0 (q % 100) = ty := Option.some.inj ((k2 _ h3).symm.trans h7)
      have h8 : ty = .long := by simpa using h8
      subst h8
      cases hf : (T (q % 100)).2.2.2
      · exact aj_putL F h1 h2 h3 h4 k1 ty0 k2 k3 hty hf (by simpa using h5) h6 hd hn hs
      · exact aj_putLF F h1 h2 h3 h4 k1 ty0 k2 k3 hty hf (hini (by rw [hf] at h9; simpa using h9)) (h10 hf) (by simpa using h5) h6 hd hn hs
    · cases hb
  | fstore_n _ => cases hb
  | fsub => cases hb
  | getfield q =>
    simp only [am_ck] at hb
    split at hb
    · rw [Bool.and_eq_true] at hb
      obtain ⟨-, rfl, hn⟩ := am_p_ok hb.1
      obtain ⟨Cn, T, N, h1, h2, h3, h4, h5, h6, -, -, -⟩ := am_fok_ok hb.2
      rw [Bool.and_eq_true] at h5
      exact aj_getI F h1 h2 h3 h4 (am_kls_ok h1).1 (by simpa using h5.1) (by simpa using h5.2) h6 hd hn hs
    · cases hb
  | getstatic j =>
    simp only [am_ck] at hb
    split at hb
    · simp only [Bool.and_eq_true, decide_eq_true_eq] at hb
      obtain ⟨h1, h2, h3⟩ := hb
      obtain ⟨-, rfl, hn⟩ := am_p_ok h1
      exact aj_gets F h4n h2 (am_wd_ok h3) hd hn hs
    · cases hb
  | goto t =>
    simp only [am_ck] at hb
    split at hb
    · simp only [am_jt, Bool.and_eq_true, decide_eq_true_eq] at hb
      obtain ⟨rfl, h2⟩ := hb
      exact aj_goto F hd h2 hs
    · cases hb
  | goto_w n =>
    simp only [am_ck] at hb
    split at hb
    · simp only [Bool.and_eq_true, decide_eq_true_eq] at hb
      obtain ⟨-, rfl, hn⟩ := am_p_ok hb.1
      exact aj_lconst F hb.2 hd hn hs
    · rw [Bool.and_eq_true] at hb
      obtain ⟨-, rfl, hn⟩ := am_p_ok hb.1
      exact aj_ldc2 F (am_wd_ok hb.2) hd hn hs
    · cases hb
  | i2b =>
    obtain ⟨rfl, rfl, hn⟩ := am_p_ok hb
    exact aj_i2b F hd hn hs
  | i2c => cases hb
  | i2d => cases hb
  | i2f => cases hb
  | i2l =>
    obtain ⟨rfl, rfl, hn⟩ := am_p_ok hb
    exact aj_i2l F hd hn hs
  | i2s => cases hb
  | iadd =>
    obtain ⟨rfl, rfl, hn⟩ := am_p_ok hb
    exact aj_iadd F hd hn hs
  | iaload =>
    obtain ⟨rfl, rfl, hn⟩ := am_p_ok hb
    exact aj_iaload F h4n hd hn hs
  | iand =>
    obtain ⟨rfl, rfl, hn⟩ := am_p_ok hb
    exact aj_iand F hd hn hs
  | iastore =>
    obtain ⟨rfl, rfl, hn⟩ := am_p_ok hb
    exact aj_iastore F hd hn hs
  | iconst n =>
    simp only [am_ck, Bool.or_eq_true, Bool.and_eq_true, decide_eq_true_eq] at hb
    rcases hb with hb | ⟨hb, h2⟩ | ⟨hb, h2⟩ | hb
    · obtain ⟨rfl, rfl, hn⟩ := am_p_ok hb
      exact aj_iconst F hd hn hs
    · obtain ⟨rfl, rfl, hn⟩ := am_p_ok hb
      exact aj_bipush F h2 hd hn hs
    · obtain ⟨rfl, rfl, hn⟩ := am_p_ok hb
      exact aj_sipush F h2 hd hn hs
    · split at hb
      · rw [Bool.and_eq_true] at hb
        obtain ⟨-, rfl, hn⟩ := am_p_ok hb.1
        exact aj_ldc F (am_wd_ok hb.2) hd hn hs
      · rw [Bool.and_eq_true] at hb
        obtain ⟨-, rfl, hn⟩ := am_p_ok hb.1
        exact aj_ldcw F (am_wd_ok hb.2) hd hn hs
      · cases hb
  | idiv =>
    obtain ⟨rfl, rfl, hn⟩ := am_p_ok hb
    exact aj_idiv F hd hn hs
  | if_acmp _ _ => cases hb
  | if_icmp c9 t =>
    simp only [am_ck] at hb
    split at hb
    · simp only [am_jt, Bool.and_eq_true, decide_eq_true_eq] at hb
      obtain ⟨rfl, h1, h2⟩ := hb
      obtain ⟨-, rfl, hn⟩ := am_p_ok h1
      rename_i c8 off
      cases c8
      · exact aj_icmp_eq F hd hn h2 hs
      · exact aj_icmp_ne F hd hn h2 hs
      · exact aj_icmp_lt F hd hn h2 hs
      · exact aj_icmp_ge F hd hn h2 hs
      · exact aj_icmp_gt F hd hn h2 hs
      · exact aj_icmp_le F hd hn h2 hs
    · cases hb
  | ifCond c9 t =>
    simp only [am_ck] at hb
    split at hb
    · simp only [am_jt, Bool.and_eq_true, decide_eq_true_eq] at hb
      obtain ⟨rfl, h1, h2⟩ := hb
      obtain ⟨-, rfl, hn⟩ := am_p_ok h1
      rename_i c8 off
      cases c8
      · exact aj_if_eq F hd hn h2 hs
      · exact aj_if_ne F hd hn h2 hs
      · exact aj_if_lt F hd hn h2 hs
      · exact aj_if_ge F hd hn h2 hs
      · exact aj_if_gt F hd hn h2 hs
      · exact aj_if_le F hd hn h2 hs
    · cases hb
  | ifnonnull t =>
    simp only [am_ck] at hb
    split at hb
    · simp only [am_jt, Bool.and_eq_true, decide_eq_true_eq] at hb
      obtain ⟨-, rfl, hn⟩ := am_p_ok hb.1
      exact aj_ifnonnull F hd hn hb.2 hs
    · cases hb
  | ifnull t =>
    simp only [am_ck] at hb
    split at hb
    · simp only [am_jt, Bool.and_eq_true, decide_eq_true_eq] at hb
      obtain ⟨-, rfl, hn⟩ := am_p_ok hb.1
      exact aj_ifnull F hd hn hb.2 hs
    · cases hb
  | iinc j n =>
    simp only [am_ck, Bool.or_eq_true, Bool.and_eq_true, decide_eq_true_eq] at hb
    obtain ⟨rfl, rfl, hn⟩ := am_p_ok hb.2
    exact aj_iinc F hb.1 hd hn hs
  | iload j =>
    simp only [am_ck, Bool.or_eq_true, Bool.and_eq_true, decide_eq_true_eq] at hb
    rcases hb with hb | hb
    · obtain ⟨rfl, rfl, hn⟩ := am_p_ok hb
      exact aj_iload F hd hn hs
    · split at hb
      · simp only [Bool.and_eq_true, decide_eq_true_eq] at hb
        obtain ⟨-, rfl, hn⟩ := am_p_ok hb.1
        exact aj_iloadn F hb.2 hd hn hs
      · cases hb
  | iload_n _ => cases hb
  | imul =>
    obtain ⟨rfl, rfl, hn⟩ := am_p_ok hb
    exact aj_imul F hd hn hs
  | ineg => cases hb
  | instanceof _ => cases hb
  | invokedynamic a =>
    simp only [am_ck] at hb
    split at hb
    · simp only [Bool.and_eq_true, Bool.or_eq_true, decide_eq_true_eq] at hb
      obtain ⟨h1, h2, h3, h4, h5⟩ := hb
      obtain ⟨-, rfl, hn⟩ := am_p_ok h1
      rcases h5 with rfl | rfl
      · exact aj_copyb F h2 h3 (am_wd_ok h4) (am_wi 11 rfl) (am_wi 12 rfl) (am_wi 13 rfl) hd hn hs
      · exact aj_copyi F h4n h2 h3 (am_wd_ok h4) (am_wi 11 rfl) (am_wi 12 rfl) (am_wi 13 rfl) hd hn hs
    · cases hb
  | invokeinterface a b =>
    simp only [am_ck] at hb
    split at hb
    · simp only [Bool.and_eq_true, Bool.or_eq_true, decide_eq_true_eq] at hb
      obtain ⟨h1, h2, h3, h4⟩ := hb
      obtain ⟨-, rfl, hn⟩ := am_p_ok h1
      rcases h4 with ⟨rfl, h4⟩ | ⟨rfl, h4⟩ | ⟨rfl, h4⟩ | ⟨rfl, h4⟩
      · exact aj_mm0 F h2 h3 (am_wd_ok h4) (am_wi 3 rfl) (am_wi 2 rfl) (am_wi 4 rfl) hd hn hs
      · exact aj_mm1 F h2 h3 (am_wd_ok h4) (am_wi 5 rfl) (am_wi 2 rfl) (am_wi 6 rfl) hd hn hs
      · exact aj_mm2 F h2 h3 (am_wd_ok h4) (am_wi 7 rfl) (am_wi 2 rfl) (am_wi 8 rfl) hd hn hs
      · exact aj_mm3 F h2 h3 (am_wd_ok h4) (am_wi 9 rfl) (am_wi 2 rfl) (am_wi 10 rfl) hd hn hs
    · cases hb
  | invokespecial q =>
    simp only [am_ck] at hb
    split at hb
    · simp only [Bool.and_eq_true, Bool.or_eq_true, decide_eq_true_eq] at hb
      obtain ⟨h1, h2, h3, h4, h5, h6⟩ := hb
      obtain ⟨-, rfl, hn⟩ := am_p_ok h1
      obtain ⟨g1, g2, g3⟩ := am_fit_ok h2
      obtain ⟨c1, c2, c3, -, n, c4, c5, -⟩ := hK2 q g1
      obtain ⟨d1, d2, -, -⟩ := c5 h4
      rw [h6] at c1
      have hC2 : ∀ as h Q, C q as h Q → am_Met l D cA base L0 X0 (am_y q) (am_cc q) (am_nl q) none (am_fr q) (am_lo q) (am_mc q) (am_ms q) as h Q := fun as h Q hq => by have := hC q as h Q g1 hq; rw [h6] at this; exact this
      rcases h3 with h3 | h3
      · exact aj_callI F h4n hC2 am_words_good c1 c2 ⟨c3.1, c3.2, c4⟩ hcN hcZ rfl rfl ⟨g2, g3⟩ d1 h5 (am_wd_ok h3) d2 hd hn hs
      · exact aj_callIN F h4n hC2 am_words_good c1 c2 ⟨c3.1, c3.2, c4⟩ hcN hcZ rfl rfl ⟨g2, g3⟩ d1 h5 (am_wn_ok h3) d2 hd hn hs
    · cases hb
  | invokestatic q =>
    simp only [am_ck] at hb
    split at hb
    · simp only [Bool.and_eq_true, decide_eq_true_eq] at hb
      obtain ⟨h1, h2, h3, h4⟩ := hb
      obtain ⟨-, rfl, hn⟩ := am_p_ok h1
      obtain ⟨g1, g2, g3⟩ := am_fit_ok h2
      obtain ⟨c1, c2, c3, -, n, c4, -, c5⟩ := hK2 q g1
      obtain ⟨d1, d2⟩ := c5 h4
      exact aj_callS F h4n (fun as h Q hq => hC q as h Q g1 hq) am_words_good c1 c2 ⟨c3.1, c3.2, c4⟩ hcN hcZ rfl rfl ⟨g2, g3⟩ d1 (am_wd_ok h3) d2 hd hn hs
    · cases hb
  | invokevirtual q =>
    simp only [am_ck] at hb
    split at hb
    · simp only [Bool.and_eq_true, decide_eq_true_eq] at hb
      obtain ⟨h1, h2, h3, h4, hv⟩ := hb
      obtain ⟨-, rfl, hn⟩ := am_p_ok h1
      obtain ⟨g1, g2, g3⟩ := am_fit_ok h2
      obtain ⟨c1, c2, c3, -, n, c4, c5, -⟩ := hK2 q g1
      obtain ⟨d1, d2, d3, T, N, d4⟩ := c5 h4
      have d3 := d3 hv
      exact aj_callV F h4n (fun as h Q hq => hC q as h Q g1 hq) am_words_good c1 c2 ⟨c3.1, c3.2, c4⟩ hcN hcZ rfl rfl ⟨g2, g3⟩ d1 h4 d4 (am_wd_ok h3) d2 d3 hd hn hs
    · cases hb
  | ior =>
    obtain ⟨rfl, rfl, hn⟩ := am_p_ok hb
    exact aj_ior F hd hn hs
  | irem =>
    obtain ⟨rfl, rfl, hn⟩ := am_p_ok hb
    exact aj_irem F hd hn hs
  | ireturn =>
    exact hret (Or.inl rfl) hs
  | ishl =>
    obtain ⟨rfl, rfl, hn⟩ := am_p_ok hb
    exact aj_ishl F hd hn hs
  | ishr =>
    obtain ⟨rfl, rfl, hn⟩ := am_p_ok hb
    exact aj_ishr F hd hn hs
  | istore j =>
    simp only [am_ck, Bool.or_eq_true, Bool.and_eq_true, decide_eq_true_eq] at hb
    obtain ⟨hj, hb⟩ := hb
    rcases hb with hb | hb
    · obtain ⟨rfl, rfl, hn⟩ := am_p_ok hb
      exact aj_istore F hj hd hn hs
    · split at hb
      · simp only [Bool.and_eq_true, decide_eq_true_eq] at hb
        obtain ⟨-, rfl, hn⟩ := am_p_ok hb.1
        exact aj_istoren F hb.2 hj hd hn hs
      · cases hb
  | istore_n _ => cases hb
  | isub =>
    obtain ⟨rfl, rfl, hn⟩ := am_p_ok hb
    exact aj_isub F hd hn hs
  | iushr =>
    obtain ⟨rfl, rfl, hn⟩ := am_p_ok hb
    exact aj_iushr F hd hn hs
  | ixor =>
    obtain ⟨rfl, rfl, hn⟩ := am_p_ok hb
    exact aj_ixor F hd hn hs
  | jsr _ => cases hb
  | jsr_w _ => cases hb
  | l2d => cases hb
  | l2f => cases hb
  | l2i =>
    obtain ⟨rfl, rfl, hn⟩ := am_p_ok hb
    exact aj_l2i F hd hn hs
  | ladd =>
    obtain ⟨rfl, rfl, hn⟩ := am_p_ok hb
    exact aj_ladd F hd hn hs
  | laload =>
    obtain ⟨rfl, rfl, hn⟩ := am_p_ok hb
    exact aj_laload F hd hn hs
  | land =>
    obtain ⟨rfl, rfl, hn⟩ := am_p_ok hb
    exact aj_land F hd hn hs
  | lastore =>
    obtain ⟨rfl, rfl, hn⟩ := am_p_ok hb
    exact aj_lastore F hd hn hs
  | lcmp =>
    obtain ⟨rfl, rfl, hn⟩ := am_p_ok hb
    exact aj_lcmp F hd hn hs
  | lconst _ => cases hb
  | ldc _ => cases hb
  | ldc_w _ => cases hb
  | ldc2_w _ => cases hb
  | ldiv =>
    obtain ⟨rfl, rfl, hn⟩ := am_p_ok hb
    exact aj_ldiv F hd hn hs
  | lload j =>
    simp only [am_ck, Bool.or_eq_true, Bool.and_eq_true, decide_eq_true_eq] at hb
    rcases hb with hb | hb
    · obtain ⟨rfl, rfl, hn⟩ := am_p_ok hb
      exact aj_lload F hd hn hs
    · split at hb
      · simp only [Bool.and_eq_true, decide_eq_true_eq] at hb
        obtain ⟨-, rfl, hn⟩ := am_p_ok hb.1
        exact aj_lloadn F hb.2 hd hn hs
      · cases hb
  | lload_n _ => cases hb
  | lmul =>
    obtain ⟨rfl, rfl, hn⟩ := am_p_ok hb
    exact aj_lmul F hd hn hs
  | lneg => cases hb
  | lookupswitch d ps =>
    simp only [am_ck] at hb
    split at hb
    · simp only [am_jt, Bool.and_eq_true, decide_eq_true_eq] at hb
      obtain ⟨h1, h2, h3, h4, h5⟩ := hb
      exact aj_tsw F h1 h2 h3 (am_tswb_ok _ _ _ h4) h5 hd hs
    · rw [Bool.and_eq_true, Bool.and_eq_true] at hb
      obtain ⟨h1, h4, h5⟩ := hb
      exact aj_lsw F h1 (am_lswb_ok _ _ h4) (of_decide_eq_true h5) hd hs
    · cases hb
  | lor =>
    obtain ⟨rfl, rfl, hn⟩ := am_p_ok hb
    exact aj_lor F hd hn hs
  | lrem => cases hb
  | lreturn =>
    exact hret (Or.inr (Or.inl rfl)) hs
  | lshl =>
    obtain ⟨rfl, rfl, hn⟩ := am_p_ok hb
    exact aj_lshl F hd hn hs
  | lshr =>
    obtain ⟨rfl, rfl, hn⟩ := am_p_ok hb
    exact aj_lshr F hd hn hs
  | lstore j =>
    simp only [am_ck, Bool.or_eq_true, Bool.and_eq_true, decide_eq_true_eq] at hb
    obtain ⟨hj, hb⟩ := hb
    rcases hb with hb | hb
    · obtain ⟨rfl, rfl, hn⟩ := am_p_ok hb
      exact aj_lstore F hj hd hn hs
    · split at hb
      · simp only [Bool.and_eq_true, decide_eq_true_eq] at hb
        obtain ⟨-, rfl, hn⟩ := am_p_ok hb.1
        exact aj_lstoren F hb.2 hj hd hn hs
      · cases hb
  | lstore_n _ => cases hb
  | lsub =>
    obtain ⟨rfl, rfl, hn⟩ := am_p_ok hb
    exact aj_lsub F hd hn hs
  | lushr =>
    obtain ⟨rfl, rfl, hn⟩ := am_p_ok hb
    exact aj_lushr F hd hn hs
  | lxor => cases hb
  | monitorenter => cases hb
  | monitorexit =>
    simp only [am_ck] at hb
    split at hb
    · simp only [Bool.and_eq_true, decide_eq_true_eq] at hb
      obtain ⟨h1, h2, h3, h4⟩ := hb
      obtain ⟨-, rfl, hn⟩ := am_p_ok h1
      exact aj_objInit F h2 h3 (am_wd_ok h4) (am_wi 0 rfl) (am_wi 1 rfl) hd hn hs
    · cases hb
  | multianewarray _ _ => cases hb
  | new q =>
    simp only [am_ck] at hb
    split at hb
    · simp only [Bool.and_eq_true, decide_eq_true_eq] at hb
      obtain ⟨h1, h2, h3⟩ := hb
      obtain ⟨-, rfl, hn⟩ := am_p_ok h1
      split at h3
      · rename_i Cn T N hcl
        simp only [Bool.and_eq_true, decide_eq_true_eq] at h3
        obtain ⟨rfl, h4⟩ := h3
        obtain ⟨k1, ty0, k2, k3, k4, k5, k6⟩ := am_kls_ok hcl
        exact aj_new F h2 hcl ty0 k2 k4 k1 (am_wd_ok h4) k5 k6 hcN hcZ hd hn hs
      · cases h3
    · cases hb
  | newarray _ => cases hb
  | nop => cases hb
  | pop =>
    obtain ⟨rfl, rfl, hn⟩ := am_p_ok hb
    exact aj_pop F hd hn hs
  | pop2 => cases hb
  | putfield q =>
    simp only [am_ck] at hb
    split at hb
    · rw [Bool.and_eq_true] at hb
      obtain ⟨-, rfl, hn⟩ := am_p_ok hb.1
      obtain ⟨Cn, T, N, h1, h2, h3, h4, h5, h6, ⟨ty, h7, h8⟩, h9, h10⟩ := am_fok_ok hb.2
      obtain ⟨k1, ty0, k2, k3, -⟩ := am_kls_ok h1
      have hty : ty0 (q % 100) = ty := Option.some.inj ((k2 _ h3).symm.trans h7)
      rw [Bool.and_eq_true] at h5
      have h8 : ty = .int := by simpa using h8
      subst h8
      cases hf : (T (q % 100)).2.2.2
      · exact aj_putI F h1 h2 h3 h4 k1 ty0 k2 k3 hty hf (by simpa using h5.1) (by simpa using h5.2) h6 hd hn hs
      · exact aj_putIF F h1 h2 h3 h4 k1 ty0 k2 k3 hty hf (hini (by rw [hf] at h9; simpa using h9)) (h10 hf) (by simpa using h5.1) (by simpa using h5.2) h6 hd hn hs
    · cases hb
  | putstatic q =>
    simp only [am_ck] at hb
    split at hb
    · rw [Bool.and_eq_true] at hb
      obtain ⟨-, rfl, hn⟩ := am_p_ok hb.1
      obtain ⟨Cn, T, N, h1, h2, h3, h4, h5, h6, ⟨ty, h7, h8⟩, h9, h10⟩ := am_fok_ok hb.2
      obtain ⟨k1, ty0, k2, k3, -⟩ := am_kls_ok h1
      have hty : ty0 (q % 100) = ty := Option.some.inj ((k2 _ h3).symm.trans h7)
      rw [Bool.and_eq_true] at h5
      have h8 : ty = .boolean := by simpa using h8
      subst h8
      cases hf : (T (q % 100)).2.2.2
      · exact aj_putZ F h1 h2 h3 h4 k1 ty0 k2 k3 hty hf (by simpa using h5.1) (by simpa using h5.2) h6 hd hn hs
      · exact aj_putZF F h1 h2 h3 h4 k1 ty0 k2 k3 hty hf (hini (by rw [hf] at h9; simpa using h9)) (h10 hf) (by simpa using h5.1) (by simpa using h5.2) h6 hd hn hs
    · cases hb
  | ret _ => cases hb
  | return_ =>
    exact hret (Or.inr (Or.inr (Or.inr rfl))) hs
  | saload => cases hb
  | sastore => cases hb
  | sipush _ => cases hb
  | swap => cases hb
  | tableswitch _ _ _ _ => cases hb
end AMX
end
section
/-! ===== the check of all methods ===== -/
noncomputable def am_pc (q : Nat) (k : Nat) : Nat := ((am_rows.getD q []).getD k (0, .nop, 0, 0)).1
noncomputable def am_row (own : String) (cc : ByteArray) (nL fr lo : Nat) (ini : Bool) (rt : Option FieldType) (pcs : Nat → Nat) : Nat → List (Nat × Instr × Nat × Nat) → List Instr → Bool
  | _, [], [] => true
  | k, (pc, ri, len, hint) :: rs, ai :: cs => decide (pcs k = pc) && (decide (decode cc pc = .ok (ri, len)) && (am_ck own nL fr lo ini rt pcs k ri len hint ai && am_row own cc nL fr lo ini rt pcs (k + 1) rs cs))
  | _, _, _ => false
noncomputable def am_vb (q : Nat) : Bool := decide (am_pc q 0 = 0) && am_row (am_y q).cls (am_cc q) (am_nl q) (am_fr q) (am_lo q) (decide ((am_y q).name = "<init>")) (am_rt q) (am_pc q) 0 (am_rows.getD q []) (am_cs q)
noncomputable def am_o2 (q : Nat) : Bool := match am_hints.getD q (0, 0, 0, 0) with
  | (hc, hi, ha, hs) => am_wd hc (.code (am_y q) (am_cc q) (am_nl q) (am_rt q)) && (am_wd hi (.initialized (am_y q).cls) && (decide ((am_y q).cls ≠ "java/lang/invoke/MethodHandle" ∧ (am_y q).cls ≠ "java/lang/invoke/VarHandle") && (plainName (am_y q).cls && (match (parseMethodDescriptor (am_y q).desc).map (fun d => d.parameters.length) with
    | none => false
    | some n => if am_rc q < 50 then decide (am_na q = n + 1) && (am_wd ha (.instanceMethod (am_y q)) && ((!am_vi q || am_wd hs (.selects (am_y q).cls (am_y q) (am_y q))) && (match am_cl[am_rc q]? with
        | some (Cn, _, _) => decide (Cn = (am_y q).cls)
        | none => false)))
      else decide (am_rc q = 99) && (decide (am_na q = n) && am_wd ha (.static (am_y q)))))))
theorem am_o2_ok {q : Nat} (h : am_o2 q = true) : am_ok2 q := by
  unfold am_o2 at h
  split at h
  rename_i hc hi ha hs _
  simp only [Bool.and_eq_true, decide_eq_true_eq] at h
  obtain ⟨h1, h2, h3, h4, h5⟩ := h
  refine ⟨am_wd_ok h1, am_wd_ok h2, h3, h4, ?_⟩
  split at h5
  · cases h5
  · rename_i n hn
    refine ⟨n, hn, fun hr => ?_, fun hr => ?_⟩
    · rw [if_pos hr] at h5
      simp only [Bool.and_eq_true, decide_eq_true_eq] at h5
      obtain ⟨g1, g2, g3, g4⟩ := h5
      refine ⟨g1, am_wd_ok g2, fun hv => ?_, ?_⟩
      · rw [hv] at g3
        exact am_wd_ok (by simpa using g3)
      · split at g4
        · rename_i Cn T N hcl
          have g4 : Cn = (am_y q).cls := by simpa using g4
          exact ⟨T, N, by rw [hcl, g4]⟩
        · cases g4
    · rw [if_neg (by omega)] at h5
      simp only [Bool.and_eq_true, decide_eq_true_eq] at h5
      exact ⟨h5.2.1, am_wd_ok h5.2.2⟩
end
section
theorem am_va0 : ∀ q, q < 17 → am_vb (0 + q) = true := by decide +kernel
theorem am_vo0 : ∀ q, q < 17 → am_o2 (0 + q + 1) = true := by decide +kernel
theorem am_va1 : ∀ q, q < 17 → am_vb (17 + q) = true := by decide +kernel
theorem am_vo1 : ∀ q, q < 17 → am_o2 (17 + q + 1) = true := by decide +kernel
theorem am_va2 : ∀ q, q < 17 → am_vb (34 + q) = true := by decide +kernel
theorem am_vo2 : ∀ q, q < 17 → am_o2 (34 + q + 1) = true := by decide +kernel
theorem am_va3 : ∀ q, q < 17 → am_vb (51 + q) = true := by decide +kernel
theorem am_vo3 : ∀ q, q < 17 → am_o2 (51 + q + 1) = true := by decide +kernel
end
section
theorem am_va4 : ∀ q, q < 17 → am_vb (68 + q) = true := by decide +kernel
theorem am_vo4 : ∀ q, q < 17 → am_o2 (68 + q + 1) = true := by decide +kernel
theorem am_va5 : ∀ q, q < 17 → am_vb (85 + q) = true := by decide +kernel
theorem am_vo5 : ∀ q, q < 17 → am_o2 (85 + q + 1) = true := by decide +kernel
theorem am_va6 : ∀ q, q < 17 → am_vb (102 + q) = true := by decide +kernel
theorem am_vo6 : ∀ q, q < 17 → am_o2 (102 + q + 1) = true := by decide +kernel
theorem am_va7 : ∀ q, q < 17 → am_vb (119 + q) = true := by decide +kernel
theorem am_vo7 : ∀ q, q < 17 → am_o2 (119 + q + 1) = true := by decide +kernel
end
section
theorem am_va8 : ∀ q, q < 17 → am_vb (136 + q) = true := by decide +kernel
theorem am_vo8 : ∀ q, q < 17 → am_o2 (136 + q + 1) = true := by decide +kernel
theorem am_va9 : ∀ q, q < 17 → am_vb (153 + q) = true := by decide +kernel
theorem am_vo9 : ∀ q, q < 17 → am_o2 (153 + q + 1) = true := by decide +kernel
theorem am_va10 : ∀ q, q < 17 → am_vb (170 + q) = true := by decide +kernel
theorem am_vo10 : ∀ q, q < 17 → am_o2 (170 + q + 1) = true := by decide +kernel
theorem am_va11 : ∀ q, q < 17 → am_vb (187 + q) = true := by decide +kernel
theorem am_vo11 : ∀ q, q < 17 → am_o2 (187 + q + 1) = true := by decide +kernel
end
section
theorem am_va12 : ∀ q, q < 17 → am_vb (204 + q) = true := by decide +kernel
theorem am_vo12 : ∀ q, q < 17 → am_o2 (204 + q + 1) = true := by decide +kernel
end
section
theorem am_va13 : ∀ q, q < 17 → am_vb (221 + q) = true := by decide +kernel
theorem am_vo13 : ∀ q, q < 17 → am_o2 (221 + q + 1) = true := by decide +kernel
end
section
theorem am_t238 : am_vb 238 = true := by decide +kernel
theorem am_t239 : am_vb 239 = true := by decide +kernel
theorem am_t240 : am_vb 240 = true := by decide +kernel
theorem am_t241 : am_vb 241 = true := by decide +kernel
theorem am_t242 : am_vb 242 = true := by decide +kernel
theorem am_t243 : am_vb 243 = true := by decide +kernel
theorem am_t244 : am_vb 244 = true := by decide +kernel
theorem am_t245 : am_vb 245 = true := by decide +kernel
theorem am_t246 : am_vb 246 = true := by decide +kernel
theorem am_t247 : am_vb 247 = true := by decide +kernel
theorem am_t248 : am_vb 248 = true := by decide +kernel
theorem am_t249 : am_vb 249 = true := by decide +kernel
theorem am_t250 : am_vb 250 = true := by decide +kernel
theorem am_t251 : am_vb 251 = true := by decide +kernel
theorem am_t252 : am_vb 252 = true := by decide +kernel
theorem am_t253 : am_vb 253 = true := by decide +kernel
theorem am_t254 : am_vb 254 = true := by decide +kernel
end
