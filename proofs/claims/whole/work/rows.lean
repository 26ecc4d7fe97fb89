section
-- ===== PART A: goes FIRST, ahead of the names: the tables' words, and 'selects' of the private methods out of them =====
/-- a private method of a class that the tables say can be made, by its rows of tables_1 -/
def lw_okq (q : MethodName × Nat) : Prop := (q.1.cls ≠ "java/lang/invoke/MethodHandle" ∧ q.1.cls ≠ "java/lang/invoke/VarHandle") ∧ Cond.instantiable q.1.cls q.2 ∈ tables_1 ∧ Cond.privateMethod q.1 ∈ tables_1 ∧ Cond.instanceMethod q.1 ∈ tables_1
theorem lw_p0 : lw_okq (⟨"RelayHouse$Pen", "open", "(II)V"⟩, 2) := ⟨⟨by decide +kernel, by decide +kernel⟩, List.mem_of_getElem? (i := 79) (by decide +kernel), List.mem_of_getElem? (i := 421) (by decide +kernel), List.mem_of_getElem? (i := 422) (by decide +kernel)⟩
theorem lw_p1 : lw_okq (⟨"RelayHouse$Pen", "close", "(I)V"⟩, 2) := ⟨⟨by decide +kernel, by decide +kernel⟩, List.mem_of_getElem? (i := 79) (by decide +kernel), List.mem_of_getElem? (i := 429) (by decide +kernel), List.mem_of_getElem? (i := 430) (by decide +kernel)⟩
theorem lw_p2 : lw_okq (⟨"RelayHouse$Sha", "spread", "()V"⟩, 2) := ⟨⟨by decide +kernel, by decide +kernel⟩, List.mem_of_getElem? (i := 50) (by decide +kernel), List.mem_of_getElem? (i := 511) (by decide +kernel), List.mem_of_getElem? (i := 512) (by decide +kernel)⟩
theorem lw_p3 : lw_okq (⟨"RelayHouse$Sha", "stir", "()V"⟩, 2) := ⟨⟨by decide +kernel, by decide +kernel⟩, List.mem_of_getElem? (i := 50) (by decide +kernel), List.mem_of_getElem? (i := 515) (by decide +kernel), List.mem_of_getElem? (i := 516) (by decide +kernel)⟩
theorem lw_p4 : lw_okq (⟨"RelayHouse$Seal", "startWithKey", "(I)V"⟩, 4) := ⟨⟨by decide +kernel, by decide +kernel⟩, List.mem_of_getElem? (i := 44) (by decide +kernel), List.mem_of_getElem? (i := 530) (by decide +kernel), List.mem_of_getElem? (i := 531) (by decide +kernel)⟩
theorem lw_p5 : lw_okq (⟨"RelayHouse$Server", "isChannelData", "()Z"⟩, 15) := ⟨⟨by decide +kernel, by decide +kernel⟩, List.mem_of_getElem? (i := 283) (by decide +kernel), List.mem_of_getElem? (i := 662) (by decide +kernel), List.mem_of_getElem? (i := 663) (by decide +kernel)⟩
theorem lw_p6 : lw_okq (⟨"RelayHouse$Server", "relayChannelData", "()V"⟩, 15) := ⟨⟨by decide +kernel, by decide +kernel⟩, List.mem_of_getElem? (i := 283) (by decide +kernel), List.mem_of_getElem? (i := 674) (by decide +kernel), List.mem_of_getElem? (i := 675) (by decide +kernel)⟩
theorem lw_p7 : lw_okq (⟨"RelayHouse$Server", "relay", "(LRelayHouse$Allocation;IIII)V"⟩, 15) := ⟨⟨by decide +kernel, by decide +kernel⟩, List.mem_of_getElem? (i := 283) (by decide +kernel), List.mem_of_getElem? (i := 690) (by decide +kernel), List.mem_of_getElem? (i := 691) (by decide +kernel)⟩
theorem lw_p8 : lw_okq (⟨"RelayHouse$Allocation", "permissionOf", "(I)I"⟩, 16) := ⟨⟨by decide +kernel, by decide +kernel⟩, List.mem_of_getElem? (i := 142) (by decide +kernel), List.mem_of_getElem? (i := 698) (by decide +kernel), List.mem_of_getElem? (i := 699) (by decide +kernel)⟩
theorem lw_p9 : lw_okq (⟨"RelayHouse$Letter", "readAttributes", "()Z"⟩, 10) := ⟨⟨by decide +kernel, by decide +kernel⟩, List.mem_of_getElem? (i := 223) (by decide +kernel), List.mem_of_getElem? (i := 720) (by decide +kernel), List.mem_of_getElem? (i := 721) (by decide +kernel)⟩
theorem lw_p10 : lw_okq (⟨"RelayHouse$Server", "answer", "(I)V"⟩, 15) := ⟨⟨by decide +kernel, by decide +kernel⟩, List.mem_of_getElem? (i := 283) (by decide +kernel), List.mem_of_getElem? (i := 757) (by decide +kernel), List.mem_of_getElem? (i := 758) (by decide +kernel)⟩
theorem lw_p11 : lw_okq (⟨"RelayHouse$Server", "accessError", "(I)I"⟩, 15) := ⟨⟨by decide +kernel, by decide +kernel⟩, List.mem_of_getElem? (i := 283) (by decide +kernel), List.mem_of_getElem? (i := 772) (by decide +kernel), List.mem_of_getElem? (i := 773) (by decide +kernel)⟩
theorem lw_p12 : lw_okq (⟨"RelayHouse$Server", "isWordAt", "(IJ)Z"⟩, 15) := ⟨⟨by decide +kernel, by decide +kernel⟩, List.mem_of_getElem? (i := 283) (by decide +kernel), List.mem_of_getElem? (i := 793) (by decide +kernel), List.mem_of_getElem? (i := 794) (by decide +kernel)⟩
theorem lw_p13 : lw_okq (⟨"RelayHouse$Server", "perform", "(I)I"⟩, 15) := ⟨⟨by decide +kernel, by decide +kernel⟩, List.mem_of_getElem? (i := 283) (by decide +kernel), List.mem_of_getElem? (i := 811) (by decide +kernel), List.mem_of_getElem? (i := 812) (by decide +kernel)⟩
theorem lw_p14 : lw_okq (⟨"RelayHouse$Server", "allocate", "()I"⟩, 15) := ⟨⟨by decide +kernel, by decide +kernel⟩, List.mem_of_getElem? (i := 283) (by decide +kernel), List.mem_of_getElem? (i := 815) (by decide +kernel), List.mem_of_getElem? (i := 816) (by decide +kernel)⟩
theorem lw_p15 : lw_okq (⟨"RelayHouse$Server", "lifetime", "()J"⟩, 15) := ⟨⟨by decide +kernel, by decide +kernel⟩, List.mem_of_getElem? (i := 283) (by decide +kernel), List.mem_of_getElem? (i := 854) (by decide +kernel), List.mem_of_getElem? (i := 855) (by decide +kernel)⟩
def lw_privs_1 : List (MethodName × Nat) := [(⟨"RelayHouse$Pen", "open", "(II)V"⟩, 2), (⟨"RelayHouse$Pen", "close", "(I)V"⟩, 2), (⟨"RelayHouse$Sha", "spread", "()V"⟩, 2), (⟨"RelayHouse$Sha", "stir", "()V"⟩, 2), (⟨"RelayHouse$Seal", "startWithKey", "(I)V"⟩, 4), (⟨"RelayHouse$Server", "isChannelData", "()Z"⟩, 15), (⟨"RelayHouse$Server", "relayChannelData", "()V"⟩, 15), (⟨"RelayHouse$Server", "relay", "(LRelayHouse$Allocation;IIII)V"⟩, 15), (⟨"RelayHouse$Allocation", "permissionOf", "(I)I"⟩, 16), (⟨"RelayHouse$Letter", "readAttributes", "()Z"⟩, 10), (⟨"RelayHouse$Server", "answer", "(I)V"⟩, 15), (⟨"RelayHouse$Server", "accessError", "(I)I"⟩, 15), (⟨"RelayHouse$Server", "isWordAt", "(IJ)Z"⟩, 15), (⟨"RelayHouse$Server", "perform", "(I)I"⟩, 15), (⟨"RelayHouse$Server", "allocate", "()I"⟩, 15), (⟨"RelayHouse$Server", "lifetime", "()J"⟩, 15)]
theorem lw_r1 : ∀ q ∈ lw_privs_1, lw_okq q := List.forall_mem_cons.mpr ⟨lw_p0, List.forall_mem_cons.mpr ⟨lw_p1, List.forall_mem_cons.mpr ⟨lw_p2, List.forall_mem_cons.mpr ⟨lw_p3, List.forall_mem_cons.mpr ⟨lw_p4, List.forall_mem_cons.mpr ⟨lw_p5, List.forall_mem_cons.mpr ⟨lw_p6, List.forall_mem_cons.mpr ⟨lw_p7, List.forall_mem_cons.mpr ⟨lw_p8, List.forall_mem_cons.mpr ⟨lw_p9, List.forall_mem_cons.mpr ⟨lw_p10, List.forall_mem_cons.mpr ⟨lw_p11, List.forall_mem_cons.mpr ⟨lw_p12, List.forall_mem_cons.mpr ⟨lw_p13, List.forall_mem_cons.mpr ⟨lw_p14, List.forall_mem_cons.mpr ⟨lw_p15, fun _ h => absurd h List.not_mem_nil⟩⟩⟩⟩⟩⟩⟩⟩⟩⟩⟩⟩⟩⟩⟩⟩
theorem lw_p16 : lw_okq (⟨"RelayHouse$Server", "refresh", "(LRelayHouse$Allocation;)I"⟩, 15) := ⟨⟨by decide +kernel, by decide +kernel⟩, List.mem_of_getElem? (i := 283) (by decide +kernel), List.mem_of_getElem? (i := 866) (by decide +kernel), List.mem_of_getElem? (i := 867) (by decide +kernel)⟩
theorem lw_p17 : lw_okq (⟨"RelayHouse$Server", "permitPeers", "(LRelayHouse$Allocation;)I"⟩, 15) := ⟨⟨by decide +kernel, by decide +kernel⟩, List.mem_of_getElem? (i := 283) (by decide +kernel), List.mem_of_getElem? (i := 870) (by decide +kernel), List.mem_of_getElem? (i := 871) (by decide +kernel)⟩
theorem lw_p18 : lw_okq (⟨"RelayHouse$Server", "bindChannel", "(LRelayHouse$Allocation;)I"⟩, 15) := ⟨⟨by decide +kernel, by decide +kernel⟩, List.mem_of_getElem? (i := 283) (by decide +kernel), List.mem_of_getElem? (i := 892) (by decide +kernel), List.mem_of_getElem? (i := 893) (by decide +kernel)⟩
theorem lw_p19 : lw_okq (⟨"RelayHouse$Server", "writeTold", "(I)V"⟩, 15) := ⟨⟨by decide +kernel, by decide +kernel⟩, List.mem_of_getElem? (i := 283) (by decide +kernel), List.mem_of_getElem? (i := 921) (by decide +kernel), List.mem_of_getElem? (i := 922) (by decide +kernel)⟩
theorem lw_p20 : lw_okq (⟨"RelayHouse$Server", "writeError", "(I)V"⟩, 15) := ⟨⟨by decide +kernel, by decide +kernel⟩, List.mem_of_getElem? (i := 283) (by decide +kernel), List.mem_of_getElem? (i := 932) (by decide +kernel), List.mem_of_getElem? (i := 933) (by decide +kernel)⟩
theorem lw_p21 : lw_okq (⟨"RelayHouse$Server", "relaySend", "()V"⟩, 15) := ⟨⟨by decide +kernel, by decide +kernel⟩, List.mem_of_getElem? (i := 283) (by decide +kernel), List.mem_of_getElem? (i := 946) (by decide +kernel), List.mem_of_getElem? (i := 947) (by decide +kernel)⟩
theorem lw_p22 : lw_okq (⟨"RelayHouse$Server", "writeChannelData", "(I)V"⟩, 15) := ⟨⟨by decide +kernel, by decide +kernel⟩, List.mem_of_getElem? (i := 283) (by decide +kernel), List.mem_of_getElem? (i := 969) (by decide +kernel), List.mem_of_getElem? (i := 970) (by decide +kernel)⟩
theorem lw_p23 : lw_okq (⟨"RelayHouse$Server", "writeIndication", "(II)V"⟩, 15) := ⟨⟨by decide +kernel, by decide +kernel⟩, List.mem_of_getElem? (i := 283) (by decide +kernel), List.mem_of_getElem? (i := 974) (by decide +kernel), List.mem_of_getElem? (i := 975) (by decide +kernel)⟩
theorem lw_p24 : lw_okq (⟨"RelayHouse$Letter", "isAddress", "(I)Z"⟩, 10) := ⟨⟨by decide +kernel, by decide +kernel⟩, List.mem_of_getElem? (i := 223) (by decide +kernel), List.mem_of_getElem? (i := 1023) (by decide +kernel), List.mem_of_getElem? (i := 1024) (by decide +kernel)⟩
theorem lw_p25 : lw_okq (⟨"RelayHouse$Letter", "errorOf", "(I)I"⟩, 10) := ⟨⟨by decide +kernel, by decide +kernel⟩, List.mem_of_getElem? (i := 223) (by decide +kernel), List.mem_of_getElem? (i := 1029) (by decide +kernel), List.mem_of_getElem? (i := 1030) (by decide +kernel)⟩
theorem lw_p26 : lw_okq (⟨"RelayHouseModel", "fraction", "(II)I"⟩, 68) := ⟨⟨by decide +kernel, by decide +kernel⟩, List.mem_of_getElem? (i := 1070) (by decide +kernel), List.mem_of_getElem? (i := 1076) (by decide +kernel), List.mem_of_getElem? (i := 1077) (by decide +kernel)⟩
theorem lw_p27 : lw_okq (⟨"RelayHouseModel", "times", "(J)V"⟩, 68) := ⟨⟨by decide +kernel, by decide +kernel⟩, List.mem_of_getElem? (i := 1070) (by decide +kernel), List.mem_of_getElem? (i := 1082) (by decide +kernel), List.mem_of_getElem? (i := 1083) (by decide +kernel)⟩
theorem lw_p28 : lw_okq (⟨"RelayHouseModel", "isAbove", "(II)Z"⟩, 68) := ⟨⟨by decide +kernel, by decide +kernel⟩, List.mem_of_getElem? (i := 1070) (by decide +kernel), List.mem_of_getElem? (i := 1087) (by decide +kernel), List.mem_of_getElem? (i := 1088) (by decide +kernel)⟩
theorem lw_p29 : lw_okq (⟨"RelayHouseModel", "begins", "(II)Z"⟩, 68) := ⟨⟨by decide +kernel, by decide +kernel⟩, List.mem_of_getElem? (i := 1070) (by decide +kernel), List.mem_of_getElem? (i := 1324) (by decide +kernel), List.mem_of_getElem? (i := 1325) (by decide +kernel)⟩
theorem lw_p30 : lw_okq (⟨"RelayHouseModel", "addLetters", "(J)V"⟩, 68) := ⟨⟨by decide +kernel, by decide +kernel⟩, List.mem_of_getElem? (i := 1070) (by decide +kernel), List.mem_of_getElem? (i := 1332) (by decide +kernel), List.mem_of_getElem? (i := 1333) (by decide +kernel)⟩
theorem lw_p31 : lw_okq (⟨"RelayHouseModel", "isName", "(J)Z"⟩, 68) := ⟨⟨by decide +kernel, by decide +kernel⟩, List.mem_of_getElem? (i := 1070) (by decide +kernel), List.mem_of_getElem? (i := 1351) (by decide +kernel), List.mem_of_getElem? (i := 1352) (by decide +kernel)⟩
def lw_privs_2 : List (MethodName × Nat) := [(⟨"RelayHouse$Server", "refresh", "(LRelayHouse$Allocation;)I"⟩, 15), (⟨"RelayHouse$Server", "permitPeers", "(LRelayHouse$Allocation;)I"⟩, 15), (⟨"RelayHouse$Server", "bindChannel", "(LRelayHouse$Allocation;)I"⟩, 15), (⟨"RelayHouse$Server", "writeTold", "(I)V"⟩, 15), (⟨"RelayHouse$Server", "writeError", "(I)V"⟩, 15), (⟨"RelayHouse$Server", "relaySend", "()V"⟩, 15), (⟨"RelayHouse$Server", "writeChannelData", "(I)V"⟩, 15), (⟨"RelayHouse$Server", "writeIndication", "(II)V"⟩, 15), (⟨"RelayHouse$Letter", "isAddress", "(I)Z"⟩, 10), (⟨"RelayHouse$Letter", "errorOf", "(I)I"⟩, 10), (⟨"RelayHouseModel", "fraction", "(II)I"⟩, 68), (⟨"RelayHouseModel", "times", "(J)V"⟩, 68), (⟨"RelayHouseModel", "isAbove", "(II)Z"⟩, 68), (⟨"RelayHouseModel", "begins", "(II)Z"⟩, 68), (⟨"RelayHouseModel", "addLetters", "(J)V"⟩, 68), (⟨"RelayHouseModel", "isName", "(J)Z"⟩, 68)]
theorem lw_r2 : ∀ q ∈ lw_privs_2, lw_okq q := List.forall_mem_cons.mpr ⟨lw_p16, List.forall_mem_cons.mpr ⟨lw_p17, List.forall_mem_cons.mpr ⟨lw_p18, List.forall_mem_cons.mpr ⟨lw_p19, List.forall_mem_cons.mpr ⟨lw_p20, List.forall_mem_cons.mpr ⟨lw_p21, List.forall_mem_cons.mpr ⟨lw_p22, List.forall_mem_cons.mpr ⟨lw_p23, List.forall_mem_cons.mpr ⟨lw_p24, List.forall_mem_cons.mpr ⟨lw_p25, List.forall_mem_cons.mpr ⟨lw_p26, List.forall_mem_cons.mpr ⟨lw_p27, List.forall_mem_cons.mpr ⟨lw_p28, List.forall_mem_cons.mpr ⟨lw_p29, List.forall_mem_cons.mpr ⟨lw_p30, List.forall_mem_cons.mpr ⟨lw_p31, fun _ h => absurd h List.not_mem_nil⟩⟩⟩⟩⟩⟩⟩⟩⟩⟩⟩⟩⟩⟩⟩⟩
theorem lw_p32 : lw_okq (⟨"RelayHouseModel", "makeKey", "(JJ)V"⟩, 68) := ⟨⟨by decide +kernel, by decide +kernel⟩, List.mem_of_getElem? (i := 1070) (by decide +kernel), List.mem_of_getElem? (i := 1357) (by decide +kernel), List.mem_of_getElem? (i := 1358) (by decide +kernel)⟩
theorem lw_p33 : lw_okq (⟨"RelayHouseModel", "hashBegin", "()V"⟩, 68) := ⟨⟨by decide +kernel, by decide +kernel⟩, List.mem_of_getElem? (i := 1070) (by decide +kernel), List.mem_of_getElem? (i := 1361) (by decide +kernel), List.mem_of_getElem? (i := 1362) (by decide +kernel)⟩
theorem lw_p34 : lw_okq (⟨"RelayHouseModel", "hashLong", "(J)V"⟩, 68) := ⟨⟨by decide +kernel, by decide +kernel⟩, List.mem_of_getElem? (i := 1070) (by decide +kernel), List.mem_of_getElem? (i := 1365) (by decide +kernel), List.mem_of_getElem? (i := 1366) (by decide +kernel)⟩
theorem lw_p35 : lw_okq (⟨"RelayHouseModel", "hash", "(I)V"⟩, 68) := ⟨⟨by decide +kernel, by decide +kernel⟩, List.mem_of_getElem? (i := 1070) (by decide +kernel), List.mem_of_getElem? (i := 1369) (by decide +kernel), List.mem_of_getElem? (i := 1370) (by decide +kernel)⟩
theorem lw_p36 : lw_okq (⟨"RelayHouseModel", "rounds", "()V"⟩, 68) := ⟨⟨by decide +kernel, by decide +kernel⟩, List.mem_of_getElem? (i := 1070) (by decide +kernel), List.mem_of_getElem? (i := 1376) (by decide +kernel), List.mem_of_getElem? (i := 1377) (by decide +kernel)⟩
theorem lw_p37 : lw_okq (⟨"RelayHouseModel", "hashEnd", "()V"⟩, 68) := ⟨⟨by decide +kernel, by decide +kernel⟩, List.mem_of_getElem? (i := 1070) (by decide +kernel), List.mem_of_getElem? (i := 1380) (by decide +kernel), List.mem_of_getElem? (i := 1381) (by decide +kernel)⟩
theorem lw_p38 : lw_okq (⟨"RelayHouseModel", "authenticate", "([II)V"⟩, 68) := ⟨⟨by decide +kernel, by decide +kernel⟩, List.mem_of_getElem? (i := 1070) (by decide +kernel), List.mem_of_getElem? (i := 1385) (by decide +kernel), List.mem_of_getElem? (i := 1386) (by decide +kernel)⟩
theorem lw_p39 : lw_okq (⟨"RelayHouseModel", "userOf", "(J)I"⟩, 68) := ⟨⟨by decide +kernel, by decide +kernel⟩, List.mem_of_getElem? (i := 1070) (by decide +kernel), List.mem_of_getElem? (i := 1415) (by decide +kernel), List.mem_of_getElem? (i := 1416) (by decide +kernel)⟩
theorem lw_p40 : lw_okq (⟨"RelayHouseModel", "sweep", "()I"⟩, 68) := ⟨⟨by decide +kernel, by decide +kernel⟩, List.mem_of_getElem? (i := 1070) (by decide +kernel), List.mem_of_getElem? (i := 1441) (by decide +kernel), List.mem_of_getElem? (i := 1442) (by decide +kernel)⟩
theorem lw_p41 : lw_okq (⟨"RelayHouseModel", "sweepChannels", "(I)V"⟩, 68) := ⟨⟨by decide +kernel, by decide +kernel⟩, List.mem_of_getElem? (i := 1070) (by decide +kernel), List.mem_of_getElem? (i := 1445) (by decide +kernel), List.mem_of_getElem? (i := 1446) (by decide +kernel)⟩
theorem lw_p42 : lw_okq (⟨"RelayHouseModel", "none", "()V"⟩, 68) := ⟨⟨by decide +kernel, by decide +kernel⟩, List.mem_of_getElem? (i := 1070) (by decide +kernel), List.mem_of_getElem? (i := 1453) (by decide +kernel), List.mem_of_getElem? (i := 1454) (by decide +kernel)⟩
theorem lw_p43 : lw_okq (⟨"RelayHouseModel", "isChannelData", "()Z"⟩, 68) := ⟨⟨by decide +kernel, by decide +kernel⟩, List.mem_of_getElem? (i := 1070) (by decide +kernel), List.mem_of_getElem? (i := 1457) (by decide +kernel), List.mem_of_getElem? (i := 1458) (by decide +kernel)⟩
theorem lw_p44 : lw_okq (⟨"RelayHouseModel", "allocationOf", "(II)I"⟩, 68) := ⟨⟨by decide +kernel, by decide +kernel⟩, List.mem_of_getElem? (i := 1070) (by decide +kernel), List.mem_of_getElem? (i := 1467) (by decide +kernel), List.mem_of_getElem? (i := 1468) (by decide +kernel)⟩
theorem lw_p45 : lw_okq (⟨"RelayHouseModel", "relay", "(I)V"⟩, 68) := ⟨⟨by decide +kernel, by decide +kernel⟩, List.mem_of_getElem? (i := 1070) (by decide +kernel), List.mem_of_getElem? (i := 1471) (by decide +kernel), List.mem_of_getElem? (i := 1472) (by decide +kernel)⟩
theorem lw_p46 : lw_okq (⟨"RelayHouseModel", "channelOf", "(II)I"⟩, 68) := ⟨⟨by decide +kernel, by decide +kernel⟩, List.mem_of_getElem? (i := 1070) (by decide +kernel), List.mem_of_getElem? (i := 1475) (by decide +kernel), List.mem_of_getElem? (i := 1476) (by decide +kernel)⟩
theorem lw_p47 : lw_okq (⟨"RelayHouseModel", "permissionOf", "(II)I"⟩, 68) := ⟨⟨by decide +kernel, by decide +kernel⟩, List.mem_of_getElem? (i := 1070) (by decide +kernel), List.mem_of_getElem? (i := 1479) (by decide +kernel), List.mem_of_getElem? (i := 1480) (by decide +kernel)⟩
def lw_privs_3 : List (MethodName × Nat) := [(⟨"RelayHouseModel", "makeKey", "(JJ)V"⟩, 68), (⟨"RelayHouseModel", "hashBegin", "()V"⟩, 68), (⟨"RelayHouseModel", "hashLong", "(J)V"⟩, 68), (⟨"RelayHouseModel", "hash", "(I)V"⟩, 68), (⟨"RelayHouseModel", "rounds", "()V"⟩, 68), (⟨"RelayHouseModel", "hashEnd", "()V"⟩, 68), (⟨"RelayHouseModel", "authenticate", "([II)V"⟩, 68), (⟨"RelayHouseModel", "userOf", "(J)I"⟩, 68), (⟨"RelayHouseModel", "sweep", "()I"⟩, 68), (⟨"RelayHouseModel", "sweepChannels", "(I)V"⟩, 68), (⟨"RelayHouseModel", "none", "()V"⟩, 68), (⟨"RelayHouseModel", "isChannelData", "()Z"⟩, 68), (⟨"RelayHouseModel", "allocationOf", "(II)I"⟩, 68), (⟨"RelayHouseModel", "relay", "(I)V"⟩, 68), (⟨"RelayHouseModel", "channelOf", "(II)I"⟩, 68), (⟨"RelayHouseModel", "permissionOf", "(II)I"⟩, 68)]
theorem lw_r3 : ∀ q ∈ lw_privs_3, lw_okq q := List.forall_mem_cons.mpr ⟨lw_p32, List.forall_mem_cons.mpr ⟨lw_p33, List.forall_mem_cons.mpr ⟨lw_p34, List.forall_mem_cons.mpr ⟨lw_p35, List.forall_mem_cons.mpr ⟨lw_p36, List.forall_mem_cons.mpr ⟨lw_p37, List.forall_mem_cons.mpr ⟨lw_p38, List.forall_mem_cons.mpr ⟨lw_p39, List.forall_mem_cons.mpr ⟨lw_p40, List.forall_mem_cons.mpr ⟨lw_p41, List.forall_mem_cons.mpr ⟨lw_p42, List.forall_mem_cons.mpr ⟨lw_p43, List.forall_mem_cons.mpr ⟨lw_p44, List.forall_mem_cons.mpr ⟨lw_p45, List.forall_mem_cons.mpr ⟨lw_p46, List.forall_mem_cons.mpr ⟨lw_p47, fun _ h => absurd h List.not_mem_nil⟩⟩⟩⟩⟩⟩⟩⟩⟩⟩⟩⟩⟩⟩⟩⟩
theorem lw_p48 : lw_okq (⟨"RelayHouseModel", "sendsOn", "(IIIII)V"⟩, 68) := ⟨⟨by decide +kernel, by decide +kernel⟩, List.mem_of_getElem? (i := 1070) (by decide +kernel), List.mem_of_getElem? (i := 1483) (by decide +kernel), List.mem_of_getElem? (i := 1484) (by decide +kernel)⟩
theorem lw_p49 : lw_okq (⟨"RelayHouseModel", "goes", "(III)V"⟩, 68) := ⟨⟨by decide +kernel, by decide +kernel⟩, List.mem_of_getElem? (i := 1070) (by decide +kernel), List.mem_of_getElem? (i := 1487) (by decide +kernel), List.mem_of_getElem? (i := 1488) (by decide +kernel)⟩
theorem lw_p50 : lw_okq (⟨"RelayHouseModel", "isMessage", "([II)Z"⟩, 68) := ⟨⟨by decide +kernel, by decide +kernel⟩, List.mem_of_getElem? (i := 1070) (by decide +kernel), List.mem_of_getElem? (i := 1491) (by decide +kernel), List.mem_of_getElem? (i := 1492) (by decide +kernel)⟩
theorem lw_p51 : lw_okq (⟨"RelayHouseModel", "take", "(III)V"⟩, 68) := ⟨⟨by decide +kernel, by decide +kernel⟩, List.mem_of_getElem? (i := 1070) (by decide +kernel), List.mem_of_getElem? (i := 1498) (by decide +kernel), List.mem_of_getElem? (i := 1499) (by decide +kernel)⟩
theorem lw_p52 : lw_okq (⟨"RelayHouseModel", "comes", "()V"⟩, 68) := ⟨⟨by decide +kernel, by decide +kernel⟩, List.mem_of_getElem? (i := 1070) (by decide +kernel), List.mem_of_getElem? (i := 1502) (by decide +kernel), List.mem_of_getElem? (i := 1503) (by decide +kernel)⟩
theorem lw_p53 : lw_okq (⟨"RelayHouseModel", "findStrange", "()V"⟩, 68) := ⟨⟨by decide +kernel, by decide +kernel⟩, List.mem_of_getElem? (i := 1070) (by decide +kernel), List.mem_of_getElem? (i := 1509) (by decide +kernel), List.mem_of_getElem? (i := 1510) (by decide +kernel)⟩
theorem lw_p54 : lw_okq (⟨"RelayHouseModel", "sends", "()V"⟩, 68) := ⟨⟨by decide +kernel, by decide +kernel⟩, List.mem_of_getElem? (i := 1070) (by decide +kernel), List.mem_of_getElem? (i := 1520) (by decide +kernel), List.mem_of_getElem? (i := 1521) (by decide +kernel)⟩
theorem lw_p55 : lw_okq (⟨"RelayHouseModel", "first", "(I)I"⟩, 68) := ⟨⟨by decide +kernel, by decide +kernel⟩, List.mem_of_getElem? (i := 1070) (by decide +kernel), List.mem_of_getElem? (i := 1524) (by decide +kernel), List.mem_of_getElem? (i := 1525) (by decide +kernel)⟩
theorem lw_p56 : lw_okq (⟨"RelayHouseModel", "counts", "(I)Z"⟩, 68) := ⟨⟨by decide +kernel, by decide +kernel⟩, List.mem_of_getElem? (i := 1070) (by decide +kernel), List.mem_of_getElem? (i := 1528) (by decide +kernel), List.mem_of_getElem? (i := 1529) (by decide +kernel)⟩
theorem lw_p57 : lw_okq (⟨"RelayHouseModel", "isAddress", "(I)Z"⟩, 68) := ⟨⟨by decide +kernel, by decide +kernel⟩, List.mem_of_getElem? (i := 1070) (by decide +kernel), List.mem_of_getElem? (i := 1532) (by decide +kernel), List.mem_of_getElem? (i := 1533) (by decide +kernel)⟩
theorem lw_p58 : lw_okq (⟨"RelayHouseModel", "ipOf", "(I)I"⟩, 68) := ⟨⟨by decide +kernel, by decide +kernel⟩, List.mem_of_getElem? (i := 1070) (by decide +kernel), List.mem_of_getElem? (i := 1536) (by decide +kernel), List.mem_of_getElem? (i := 1537) (by decide +kernel)⟩
theorem lw_p59 : lw_okq (⟨"RelayHouseModel", "portOf", "(I)I"⟩, 68) := ⟨⟨by decide +kernel, by decide +kernel⟩, List.mem_of_getElem? (i := 1070) (by decide +kernel), List.mem_of_getElem? (i := 1540) (by decide +kernel), List.mem_of_getElem? (i := 1541) (by decide +kernel)⟩
theorem lw_p60 : lw_okq (⟨"RelayHouseModel", "binds", "()V"⟩, 68) := ⟨⟨by decide +kernel, by decide +kernel⟩, List.mem_of_getElem? (i := 1070) (by decide +kernel), List.mem_of_getElem? (i := 1544) (by decide +kernel), List.mem_of_getElem? (i := 1545) (by decide +kernel)⟩
theorem lw_p61 : lw_okq (⟨"RelayHouseModel", "error", "(I)V"⟩, 68) := ⟨⟨by decide +kernel, by decide +kernel⟩, List.mem_of_getElem? (i := 1070) (by decide +kernel), List.mem_of_getElem? (i := 1548) (by decide +kernel), List.mem_of_getElem? (i := 1549) (by decide +kernel)⟩
theorem lw_p62 : lw_okq (⟨"RelayHouseModel", "answers", "(II)V"⟩, 68) := ⟨⟨by decide +kernel, by decide +kernel⟩, List.mem_of_getElem? (i := 1070) (by decide +kernel), List.mem_of_getElem? (i := 1552) (by decide +kernel), List.mem_of_getElem? (i := 1553) (by decide +kernel)⟩
theorem lw_p63 : lw_okq (⟨"RelayHouseModel", "addFour", "(II)V"⟩, 68) := ⟨⟨by decide +kernel, by decide +kernel⟩, List.mem_of_getElem? (i := 1070) (by decide +kernel), List.mem_of_getElem? (i := 1559) (by decide +kernel), List.mem_of_getElem? (i := 1560) (by decide +kernel)⟩
def lw_privs_4 : List (MethodName × Nat) := [(⟨"RelayHouseModel", "sendsOn", "(IIIII)V"⟩, 68), (⟨"RelayHouseModel", "goes", "(III)V"⟩, 68), (⟨"RelayHouseModel", "isMessage", "([II)Z"⟩, 68), (⟨"RelayHouseModel", "take", "(III)V"⟩, 68), (⟨"RelayHouseModel", "comes", "()V"⟩, 68), (⟨"RelayHouseModel", "findStrange", "()V"⟩, 68), (⟨"RelayHouseModel", "sends", "()V"⟩, 68), (⟨"RelayHouseModel", "first", "(I)I"⟩, 68), (⟨"RelayHouseModel", "counts", "(I)Z"⟩, 68), (⟨"RelayHouseModel", "isAddress", "(I)Z"⟩, 68), (⟨"RelayHouseModel", "ipOf", "(I)I"⟩, 68), (⟨"RelayHouseModel", "portOf", "(I)I"⟩, 68), (⟨"RelayHouseModel", "binds", "()V"⟩, 68), (⟨"RelayHouseModel", "error", "(I)V"⟩, 68), (⟨"RelayHouseModel", "answers", "(II)V"⟩, 68), (⟨"RelayHouseModel", "addFour", "(II)V"⟩, 68)]
theorem lw_r4 : ∀ q ∈ lw_privs_4, lw_okq q := List.forall_mem_cons.mpr ⟨lw_p48, List.forall_mem_cons.mpr ⟨lw_p49, List.forall_mem_cons.mpr ⟨lw_p50, List.forall_mem_cons.mpr ⟨lw_p51, List.forall_mem_cons.mpr ⟨lw_p52, List.forall_mem_cons.mpr ⟨lw_p53, List.forall_mem_cons.mpr ⟨lw_p54, List.forall_mem_cons.mpr ⟨lw_p55, List.forall_mem_cons.mpr ⟨lw_p56, List.forall_mem_cons.mpr ⟨lw_p57, List.forall_mem_cons.mpr ⟨lw_p58, List.forall_mem_cons.mpr ⟨lw_p59, List.forall_mem_cons.mpr ⟨lw_p60, List.forall_mem_cons.mpr ⟨lw_p61, List.forall_mem_cons.mpr ⟨lw_p62, List.forall_mem_cons.mpr ⟨lw_p63, fun _ h => absurd h List.not_mem_nil⟩⟩⟩⟩⟩⟩⟩⟩⟩⟩⟩⟩⟩⟩⟩⟩
theorem lw_p64 : lw_okq (⟨"RelayHouseModel", "adds", "(II)I"⟩, 68) := ⟨⟨by decide +kernel, by decide +kernel⟩, List.mem_of_getElem? (i := 1070) (by decide +kernel), List.mem_of_getElem? (i := 1563) (by decide +kernel), List.mem_of_getElem? (i := 1564) (by decide +kernel)⟩
theorem lw_p65 : lw_okq (⟨"RelayHouseModel", "answered", "()V"⟩, 68) := ⟨⟨by decide +kernel, by decide +kernel⟩, List.mem_of_getElem? (i := 1070) (by decide +kernel), List.mem_of_getElem? (i := 1567) (by decide +kernel), List.mem_of_getElem? (i := 1568) (by decide +kernel)⟩
theorem lw_p66 : lw_okq (⟨"RelayHouseModel", "addAddress", "(III)V"⟩, 68) := ⟨⟨by decide +kernel, by decide +kernel⟩, List.mem_of_getElem? (i := 1070) (by decide +kernel), List.mem_of_getElem? (i := 1571) (by decide +kernel), List.mem_of_getElem? (i := 1572) (by decide +kernel)⟩
theorem lw_p67 : lw_okq (⟨"RelayHouseModel", "asked", "(I)V"⟩, 68) := ⟨⟨by decide +kernel, by decide +kernel⟩, List.mem_of_getElem? (i := 1070) (by decide +kernel), List.mem_of_getElem? (i := 1575) (by decide +kernel), List.mem_of_getElem? (i := 1576) (by decide +kernel)⟩
theorem lw_p68 : lw_okq (⟨"RelayHouseModel", "userAt", "(I)I"⟩, 68) := ⟨⟨by decide +kernel, by decide +kernel⟩, List.mem_of_getElem? (i := 1070) (by decide +kernel), List.mem_of_getElem? (i := 1579) (by decide +kernel), List.mem_of_getElem? (i := 1580) (by decide +kernel)⟩
theorem lw_p69 : lw_okq (⟨"RelayHouseModel", "isRealm", "(I)Z"⟩, 68) := ⟨⟨by decide +kernel, by decide +kernel⟩, List.mem_of_getElem? (i := 1070) (by decide +kernel), List.mem_of_getElem? (i := 1583) (by decide +kernel), List.mem_of_getElem? (i := 1584) (by decide +kernel)⟩
theorem lw_p70 : lw_okq (⟨"RelayHouseModel", "isSigned", "(I)Z"⟩, 68) := ⟨⟨by decide +kernel, by decide +kernel⟩, List.mem_of_getElem? (i := 1070) (by decide +kernel), List.mem_of_getElem? (i := 1587) (by decide +kernel), List.mem_of_getElem? (i := 1588) (by decide +kernel)⟩
theorem lw_p71 : lw_okq (⟨"RelayHouseModel", "allocate", "(I)V"⟩, 68) := ⟨⟨by decide +kernel, by decide +kernel⟩, List.mem_of_getElem? (i := 1070) (by decide +kernel), List.mem_of_getElem? (i := 1591) (by decide +kernel), List.mem_of_getElem? (i := 1592) (by decide +kernel)⟩
theorem lw_p72 : lw_okq (⟨"RelayHouseModel", "granted", "(I)V"⟩, 68) := ⟨⟨by decide +kernel, by decide +kernel⟩, List.mem_of_getElem? (i := 1070) (by decide +kernel), List.mem_of_getElem? (i := 1595) (by decide +kernel), List.mem_of_getElem? (i := 1596) (by decide +kernel)⟩
theorem lw_p73 : lw_okq (⟨"RelayHouseModel", "make", "(I)V"⟩, 68) := ⟨⟨by decide +kernel, by decide +kernel⟩, List.mem_of_getElem? (i := 1070) (by decide +kernel), List.mem_of_getElem? (i := 1600) (by decide +kernel), List.mem_of_getElem? (i := 1601) (by decide +kernel)⟩
theorem lw_p74 : lw_okq (⟨"RelayHouseModel", "lifetime", "()J"⟩, 68) := ⟨⟨by decide +kernel, by decide +kernel⟩, List.mem_of_getElem? (i := 1070) (by decide +kernel), List.mem_of_getElem? (i := 1605) (by decide +kernel), List.mem_of_getElem? (i := 1606) (by decide +kernel)⟩
theorem lw_p75 : lw_okq (⟨"RelayHouseModel", "refresh", "(I)V"⟩, 68) := ⟨⟨by decide +kernel, by decide +kernel⟩, List.mem_of_getElem? (i := 1070) (by decide +kernel), List.mem_of_getElem? (i := 1612) (by decide +kernel), List.mem_of_getElem? (i := 1613) (by decide +kernel)⟩
theorem lw_p76 : lw_okq (⟨"RelayHouseModel", "permits", "(I)V"⟩, 68) := ⟨⟨by decide +kernel, by decide +kernel⟩, List.mem_of_getElem? (i := 1070) (by decide +kernel), List.mem_of_getElem? (i := 1616) (by decide +kernel), List.mem_of_getElem? (i := 1617) (by decide +kernel)⟩
theorem lw_p77 : lw_okq (⟨"RelayHouseModel", "isForbidden", "(I)Z"⟩, 68) := ⟨⟨by decide +kernel, by decide +kernel⟩, List.mem_of_getElem? (i := 1070) (by decide +kernel), List.mem_of_getElem? (i := 1620) (by decide +kernel), List.mem_of_getElem? (i := 1621) (by decide +kernel)⟩
theorem lw_p78 : lw_okq (⟨"RelayHouseModel", "permit", "(II)V"⟩, 68) := ⟨⟨by decide +kernel, by decide +kernel⟩, List.mem_of_getElem? (i := 1070) (by decide +kernel), List.mem_of_getElem? (i := 1624) (by decide +kernel), List.mem_of_getElem? (i := 1625) (by decide +kernel)⟩
theorem lw_p79 : lw_okq (⟨"RelayHouseModel", "bindsChannel", "(I)V"⟩, 68) := ⟨⟨by decide +kernel, by decide +kernel⟩, List.mem_of_getElem? (i := 1070) (by decide +kernel), List.mem_of_getElem? (i := 1629) (by decide +kernel), List.mem_of_getElem? (i := 1630) (by decide +kernel)⟩
def lw_privs_5 : List (MethodName × Nat) := [(⟨"RelayHouseModel", "adds", "(II)I"⟩, 68), (⟨"RelayHouseModel", "answered", "()V"⟩, 68), (⟨"RelayHouseModel", "addAddress", "(III)V"⟩, 68), (⟨"RelayHouseModel", "asked", "(I)V"⟩, 68), (⟨"RelayHouseModel", "userAt", "(I)I"⟩, 68), (⟨"RelayHouseModel", "isRealm", "(I)Z"⟩, 68), (⟨"RelayHouseModel", "isSigned", "(I)Z"⟩, 68), (⟨"RelayHouseModel", "allocate", "(I)V"⟩, 68), (⟨"RelayHouseModel", "granted", "(I)V"⟩, 68), (⟨"RelayHouseModel", "make", "(I)V"⟩, 68), (⟨"RelayHouseModel", "lifetime", "()J"⟩, 68), (⟨"RelayHouseModel", "refresh", "(I)V"⟩, 68), (⟨"RelayHouseModel", "permits", "(I)V"⟩, 68), (⟨"RelayHouseModel", "isForbidden", "(I)Z"⟩, 68), (⟨"RelayHouseModel", "permit", "(II)V"⟩, 68), (⟨"RelayHouseModel", "bindsChannel", "(I)V"⟩, 68)]
theorem lw_r5 : ∀ q ∈ lw_privs_5, lw_okq q := List.forall_mem_cons.mpr ⟨lw_p64, List.forall_mem_cons.mpr ⟨lw_p65, List.forall_mem_cons.mpr ⟨lw_p66, List.forall_mem_cons.mpr ⟨lw_p67, List.forall_mem_cons.mpr ⟨lw_p68, List.forall_mem_cons.mpr ⟨lw_p69, List.forall_mem_cons.mpr ⟨lw_p70, List.forall_mem_cons.mpr ⟨lw_p71, List.forall_mem_cons.mpr ⟨lw_p72, List.forall_mem_cons.mpr ⟨lw_p73, List.forall_mem_cons.mpr ⟨lw_p74, List.forall_mem_cons.mpr ⟨lw_p75, List.forall_mem_cons.mpr ⟨lw_p76, List.forall_mem_cons.mpr ⟨lw_p77, List.forall_mem_cons.mpr ⟨lw_p78, List.forall_mem_cons.mpr ⟨lw_p79, fun _ h => absurd h List.not_mem_nil⟩⟩⟩⟩⟩⟩⟩⟩⟩⟩⟩⟩⟩⟩⟩⟩
theorem lw_p80 : lw_okq (⟨"RelayHouseModel", "channelTo", "(III)I"⟩, 68) := ⟨⟨by decide +kernel, by decide +kernel⟩, List.mem_of_getElem? (i := 1070) (by decide +kernel), List.mem_of_getElem? (i := 1633) (by decide +kernel), List.mem_of_getElem? (i := 1634) (by decide +kernel)⟩
theorem lw_p81 : lw_okq (⟨"RelayHouseModel", "over", "()I"⟩, 68) := ⟨⟨by decide +kernel, by decide +kernel⟩, List.mem_of_getElem? (i := 1070) (by decide +kernel), List.mem_of_getElem? (i := 1637) (by decide +kernel), List.mem_of_getElem? (i := 1638) (by decide +kernel)⟩
theorem lw_p82 : lw_okq (⟨"RelayHouseModel", "brings", "(III)V"⟩, 68) := ⟨⟨by decide +kernel, by decide +kernel⟩, List.mem_of_getElem? (i := 1070) (by decide +kernel), List.mem_of_getElem? (i := 1645) (by decide +kernel), List.mem_of_getElem? (i := 1646) (by decide +kernel)⟩
theorem lw_p83 : lw_okq (⟨"RelayHouseModel", "isSentMessage", "()Z"⟩, 68) := ⟨⟨by decide +kernel, by decide +kernel⟩, List.mem_of_getElem? (i := 1070) (by decide +kernel), List.mem_of_getElem? (i := 1654) (by decide +kernel), List.mem_of_getElem? (i := 1655) (by decide +kernel)⟩
theorem lw_p84 : lw_okq (⟨"RelayHouseModel", "sentAttributes", "()I"⟩, 68) := ⟨⟨by decide +kernel, by decide +kernel⟩, List.mem_of_getElem? (i := 1070) (by decide +kernel), List.mem_of_getElem? (i := 1658) (by decide +kernel), List.mem_of_getElem? (i := 1659) (by decide +kernel)⟩
theorem lw_p85 : lw_okq (⟨"RelayHouseModel", "isAllocation", "(I)Z"⟩, 68) := ⟨⟨by decide +kernel, by decide +kernel⟩, List.mem_of_getElem? (i := 1070) (by decide +kernel), List.mem_of_getElem? (i := 1674) (by decide +kernel), List.mem_of_getElem? (i := 1675) (by decide +kernel)⟩
def lw_privs_6 : List (MethodName × Nat) := [(⟨"RelayHouseModel", "channelTo", "(III)I"⟩, 68), (⟨"RelayHouseModel", "over", "()I"⟩, 68), (⟨"RelayHouseModel", "brings", "(III)V"⟩, 68), (⟨"RelayHouseModel", "isSentMessage", "()Z"⟩, 68), (⟨"RelayHouseModel", "sentAttributes", "()I"⟩, 68), (⟨"RelayHouseModel", "isAllocation", "(I)Z"⟩, 68)]
theorem lw_r6 : ∀ q ∈ lw_privs_6, lw_okq q := List.forall_mem_cons.mpr ⟨lw_p80, List.forall_mem_cons.mpr ⟨lw_p81, List.forall_mem_cons.mpr ⟨lw_p82, List.forall_mem_cons.mpr ⟨lw_p83, List.forall_mem_cons.mpr ⟨lw_p84, List.forall_mem_cons.mpr ⟨lw_p85, fun _ h => absurd h List.not_mem_nil⟩⟩⟩⟩⟩⟩
def lw_privs : List (MethodName × Nat) := lw_privs_1 ++ (lw_privs_2 ++ (lw_privs_3 ++ (lw_privs_4 ++ (lw_privs_5 ++ (lw_privs_6)))))
def lw_tbl : List Cond := k2_sels lw_privs ++ tables_1
theorem lw_privs_ok : ∀ q ∈ lw_privs, lw_okq q := by
  show ∀ q ∈ lw_privs_1 ++ (lw_privs_2 ++ (lw_privs_3 ++ (lw_privs_4 ++ (lw_privs_5 ++ (lw_privs_6))))), lw_okq q
  exact List.forall_mem_append.mpr ⟨lw_r1, List.forall_mem_append.mpr ⟨lw_r2, List.forall_mem_append.mpr ⟨lw_r3, List.forall_mem_append.mpr ⟨lw_r4, List.forall_mem_append.mpr ⟨lw_r5, lw_r6⟩⟩⟩⟩⟩
end
section
def RX0 : String := "RelayHouse$Allocation"
def TX0 : u_T := fun k => match k with
  | 0 => ("RelayHouse$Allocation", "there", "Z", false)
  | 1 => ("RelayHouse$Allocation", "clientIp", "I", false)
  | 2 => ("RelayHouse$Allocation", "clientPort", "I", false)
  | 3 => ("RelayHouse$Allocation", "user", "I", false)
  | 4 => ("RelayHouse$Allocation", "relayed", "I", false)
  | 5 => ("RelayHouse$Allocation", "till", "J", false)
  | 6 => ("RelayHouse$Allocation", "idTop", "J", false)
  | 7 => ("RelayHouse$Allocation", "idRest", "I", false)
  | 8 => ("RelayHouse$Allocation", "permittedIps", "[I", true)
  | 9 => ("RelayHouse$Allocation", "permittedTill", "[J", true)
  | 10 => ("RelayHouse$Allocation", "permissions", "I", false)
  | 11 => ("RelayHouse$Allocation", "numbers", "[I", true)
  | 12 => ("RelayHouse$Allocation", "boundIps", "[I", true)
  | 13 => ("RelayHouse$Allocation", "boundPorts", "[I", true)
  | 14 => ("RelayHouse$Allocation", "boundTill", "[J", true)
  | _ => ("RelayHouse$Allocation", "channels", "I", false)
def tyX0 : Nat → FieldType := fun k => match k with
  | 0 => .boolean
  | 1 => .int
  | 2 => .int
  | 3 => .int
  | 4 => .int
  | 5 => .long
  | 6 => .long
  | 7 => .int
  | 8 => .array .int
  | 9 => .array .long
  | 10 => .int
  | 11 => .array .int
  | 12 => .array .int
  | 13 => .array .int
  | 14 => .array .long
  | _ => .int
abbrev wsX00 : List Cond := u_ws RX0 TX0 16
theorem nmX0 : ∀ a, a < 16 → ∀ b, b < 16 → a ≠ b → (TX0 a).2.1 ≠ (TX0 b).2.1 := by decide +kernel
theorem tyX0_ok : ∀ k, k < 16 → parseFieldDescriptor (TX0 k).2.2.1 = some (tyX0 k) := by decide +kernel
abbrev cX0_init : ByteArray := prog_2_method_1_code
def yX0_init : MethodName := ⟨RX0, "<init>", "()V"⟩
abbrev cX0_begin : ByteArray := prog_2_method_2_code
def yX0_begin : MethodName := ⟨RX0, "begin", "(IIII)V"⟩
abbrev cX0_setId : ByteArray := prog_2_method_3_code
def yX0_setId : MethodName := ⟨RX0, "setId", "(JI)V"⟩
abbrev cX0_isMadeBy : ByteArray := prog_2_method_4_code
def yX0_isMadeBy : MethodName := ⟨RX0, "isMadeBy", "(JI)Z"⟩
abbrev cX0_left : ByteArray := prog_2_method_5_code
def yX0_left : MethodName := ⟨RX0, "left", "(J)I"⟩
abbrev cX0_dropPast : ByteArray := prog_2_method_6_code
def yX0_dropPast : MethodName := ⟨RX0, "dropPast", "(J)V"⟩
abbrev cX0_permissionOf : ByteArray := prog_2_method_7_code
def yX0_permissionOf : MethodName := ⟨RX0, "permissionOf", "(I)I"⟩
abbrev cX0_permits : ByteArray := prog_2_method_8_code
def yX0_permits : MethodName := ⟨RX0, "permits", "(I)Z"⟩
abbrev cX0_hasRoomToPermit : ByteArray := prog_2_method_9_code
def yX0_hasRoomToPermit : MethodName := ⟨RX0, "hasRoomToPermit", "([II)Z"⟩
abbrev cX0_permit : ByteArray := prog_2_method_10_code
def yX0_permit : MethodName := ⟨RX0, "permit", "(IJ)V"⟩
abbrev cX0_permissionLeft : ByteArray := prog_2_method_11_code
def yX0_permissionLeft : MethodName := ⟨RX0, "permissionLeft", "(IJ)I"⟩
abbrev cX0_channelOf : ByteArray := prog_2_method_12_code
def yX0_channelOf : MethodName := ⟨RX0, "channelOf", "(I)I"⟩
abbrev cX0_channelTo : ByteArray := prog_2_method_13_code
def yX0_channelTo : MethodName := ⟨RX0, "channelTo", "(II)I"⟩
abbrev cX0_hasRoomToBind : ByteArray := prog_2_method_14_code
def yX0_hasRoomToBind : MethodName := ⟨RX0, "hasRoomToBind", "(II)Z"⟩
abbrev cX0_bind : ByteArray := prog_2_method_15_code
def yX0_bind : MethodName := ⟨RX0, "bind", "(IIIJ)V"⟩
abbrev cX0_channelLeft : ByteArray := prog_2_method_16_code
def yX0_channelLeft : MethodName := ⟨RX0, "channelLeft", "(IJ)I"⟩
abbrev cX0_numberOf : ByteArray := prog_2_method_17_code
def yX0_numberOf : MethodName := ⟨RX0, "numberOf", "(I)I"⟩
abbrev cX0_boundIp : ByteArray := prog_2_method_18_code
def yX0_boundIp : MethodName := ⟨RX0, "boundIp", "(I)I"⟩
abbrev cX0_boundPort : ByteArray := prog_2_method_19_code
def yX0_boundPort : MethodName := ⟨RX0, "boundPort", "(I)I"⟩
abbrev cX0_tell : ByteArray := prog_2_method_20_code
def yX0_tell : MethodName := ⟨RX0, "tell", "(IJ)I"⟩
def RX1 : String := "RelayHouse$Book"
def TX1 : u_T := fun k => match k with
  | 0 => ("RelayHouse$Book", "allocations", "[LRelayHouse$Allocation;", true)
  | _ => ("RelayHouse$Book", "now", "J", false)
def tyX1 : Nat → FieldType := fun k => match k with
  | 0 => .array (.object "RelayHouse$Allocation")
  | _ => .long
abbrev wsX10 : List Cond := u_ws RX1 TX1 2
theorem nmX1 : ∀ a, a < 2 → ∀ b, b < 2 → a ≠ b → (TX1 a).2.1 ≠ (TX1 b).2.1 := by decide +kernel
theorem tyX1_ok : ∀ k, k < 2 → parseFieldDescriptor (TX1 k).2.2.1 = some (tyX1 k) := by decide +kernel
abbrev cX1_init : ByteArray := prog_3_method_1_code
def yX1_init : MethodName := ⟨RX1, "<init>", "()V"⟩
abbrev cX1_now : ByteArray := prog_3_method_2_code
def yX1_now : MethodName := ⟨RX1, "now", "()J"⟩
abbrev cX1_pass : ByteArray := prog_3_method_3_code
def yX1_pass : MethodName := ⟨RX1, "pass", "(I)I"⟩
abbrev cX1_size : ByteArray := prog_3_method_4_code
def yX1_size : MethodName := ⟨RX1, "size", "()I"⟩
abbrev cX1_sizeOf : ByteArray := prog_3_method_5_code
def yX1_sizeOf : MethodName := ⟨RX1, "sizeOf", "(I)I"⟩
abbrev cX1_at : ByteArray := prog_3_method_6_code
def yX1_at : MethodName := ⟨RX1, "at", "(I)LRelayHouse$Allocation;"⟩
abbrev cX1_ofClient : ByteArray := prog_3_method_7_code
def yX1_ofClient : MethodName := ⟨RX1, "ofClient", "(II)LRelayHouse$Allocation;"⟩
abbrev cX1_ofPort : ByteArray := prog_3_method_8_code
def yX1_ofPort : MethodName := ⟨RX1, "ofPort", "(I)LRelayHouse$Allocation;"⟩
abbrev cX1_firstFree : ByteArray := prog_3_method_9_code
def yX1_firstFree : MethodName := ⟨RX1, "firstFree", "()LRelayHouse$Allocation;"⟩
abbrev cX1_firstFreePort : ByteArray := prog_3_method_10_code
def yX1_firstFreePort : MethodName := ⟨RX1, "firstFreePort", "()I"⟩
def RX2 : String := "RelayHouse$Fence"
def TX2 : u_T := fun k => match k with
  | 0 => ("RelayHouse$Fence", "ips", "[I", true)
  | 1 => ("RelayHouse$Fence", "masks", "[I", true)
  | _ => ("RelayHouse$Fence", "size", "I", false)
def tyX2 : Nat → FieldType := fun k => match k with
  | 0 => .array .int
  | 1 => .array .int
  | _ => .int
abbrev wsX20 : List Cond := u_ws RX2 TX2 3
theorem nmX2 : ∀ a, a < 3 → ∀ b, b < 3 → a ≠ b → (TX2 a).2.1 ≠ (TX2 b).2.1 := by decide +kernel
theorem tyX2_ok : ∀ k, k < 3 → parseFieldDescriptor (TX2 k).2.2.1 = some (tyX2 k) := by decide +kernel
abbrev cX2_init : ByteArray := prog_4_method_1_code
def yX2_init : MethodName := ⟨RX2, "<init>", "()V"⟩
abbrev cX2_raise : ByteArray := prog_4_method_2_code
def yX2_raise : MethodName := ⟨RX2, "raise", "(II)I"⟩
abbrev cX2_bars : ByteArray := prog_4_method_3_code
def yX2_bars : MethodName := ⟨RX2, "bars", "(I)Z"⟩
def RX3 : String := "RelayHouse$Letter"
def TX3 : u_T := fun k => match k with
  | 0 => ("RelayHouse$Letter", "row", "LRelayHouse$Row;", true)
  | 1 => ("RelayHouse$Letter", "kinds", "[I", true)
  | 2 => ("RelayHouse$Letter", "sizes", "[I", true)
  | 3 => ("RelayHouse$Letter", "starts", "[I", true)
  | 4 => ("RelayHouse$Letter", "sound", "[Z", true)
  | 5 => ("RelayHouse$Letter", "whole", "Z", false)
  | 6 => ("RelayHouse$Letter", "size", "I", false)
  | 7 => ("RelayHouse$Letter", "integrity", "I", false)
  | 8 => ("RelayHouse$Letter", "finger", "I", false)
  | _ => ("RelayHouse$Letter", "counting", "I", false)
def tyX3 : Nat → FieldType := fun k => match k with
  | 0 => .object "RelayHouse$Row"
  | 1 => .array .int
  | 2 => .array .int
  | 3 => .array .int
  | 4 => .array .boolean
  | 5 => .boolean
  | 6 => .int
  | 7 => .int
  | 8 => .int
  | _ => .int
abbrev wsX30 : List Cond := u_ws RX3 TX3 10
theorem nmX3 : ∀ a, a < 10 → ∀ b, b < 10 → a ≠ b → (TX3 a).2.1 ≠ (TX3 b).2.1 := by decide +kernel
theorem tyX3_ok : ∀ k, k < 10 → parseFieldDescriptor (TX3 k).2.2.1 = some (tyX3 k) := by decide +kernel
abbrev cX3_init : ByteArray := prog_5_method_1_code
def yX3_init : MethodName := ⟨RX3, "<init>", "(LRelayHouse$Row;)V"⟩
abbrev cX3_read : ByteArray := prog_5_method_2_code
def yX3_read : MethodName := ⟨RX3, "read", "()Z"⟩
abbrev cX3_readAttributes : ByteArray := prog_5_method_3_code
def yX3_readAttributes : MethodName := ⟨RX3, "readAttributes", "()Z"⟩
abbrev cX3_isSound : ByteArray := prog_5_method_4_code
def yX3_isSound : MethodName := ⟨RX3, "isSound", "(III)Z"⟩
abbrev cX3_find : ByteArray := prog_5_method_5_code
def yX3_find : MethodName := ⟨RX3, "find", "(I)I"⟩
abbrev cX3_isWhole : ByteArray := prog_5_method_6_code
def yX3_isWhole : MethodName := ⟨RX3, "isWhole", "()Z"⟩
abbrev cX3_size : ByteArray := prog_5_method_7_code
def yX3_size : MethodName := ⟨RX3, "size", "()I"⟩
abbrev cX3_method : ByteArray := prog_5_method_8_code
def yX3_method : MethodName := ⟨RX3, "method", "()I"⟩
abbrev cX3_rank : ByteArray := prog_5_method_9_code
def yX3_rank : MethodName := ⟨RX3, "rank", "()I"⟩
abbrev cX3_sizeOf : ByteArray := prog_5_method_10_code
def yX3_sizeOf : MethodName := ⟨RX3, "sizeOf", "(I)I"⟩
abbrev cX3_startOf : ByteArray := prog_5_method_11_code
def yX3_startOf : MethodName := ⟨RX3, "startOf", "(I)I"⟩
abbrev cX3_valueOf : ByteArray := prog_5_method_12_code
def yX3_valueOf : MethodName := ⟨RX3, "valueOf", "(I)J"⟩
abbrev cX3_ipOf : ByteArray := prog_5_method_13_code
def yX3_ipOf : MethodName := ⟨RX3, "ipOf", "(I)I"⟩
abbrev cX3_portOf : ByteArray := prog_5_method_14_code
def yX3_portOf : MethodName := ⟨RX3, "portOf", "(I)I"⟩
abbrev cX3_hasFingerprint : ByteArray := prog_5_method_15_code
def yX3_hasFingerprint : MethodName := ⟨RX3, "hasFingerprint", "()Z"⟩
abbrev cX3_isFingerprintWrong : ByteArray := prog_5_method_16_code
def yX3_isFingerprintWrong : MethodName := ⟨RX3, "isFingerprintWrong", "()Z"⟩
abbrev cX3_strangeKinds : ByteArray := prog_5_method_17_code
def yX3_strangeKinds : MethodName := ⟨RX3, "strangeKinds", "([I)I"⟩
abbrev cX3_peerIps : ByteArray := prog_5_method_18_code
def yX3_peerIps : MethodName := ⟨RX3, "peerIps", "([I)I"⟩
abbrev cX3_isAmong : ByteArray := prog_5_method_19_code
def yX3_isAmong : MethodName := ⟨RX3, "isAmong", "([III)Z"⟩
abbrev cX3_isStrange : ByteArray := prog_5_method_20_code
def yX3_isStrange : MethodName := ⟨RX3, "isStrange", "(I)Z"⟩
abbrev cX3_tell : ByteArray := prog_5_method_21_code
def yX3_tell : MethodName := ⟨RX3, "tell", "(II)I"⟩
abbrev cX3_isAddress : ByteArray := prog_5_method_22_code
def yX3_isAddress : MethodName := ⟨RX3, "isAddress", "(I)Z"⟩
abbrev cX3_errorOf : ByteArray := prog_5_method_23_code
def yX3_errorOf : MethodName := ⟨RX3, "errorOf", "(I)I"⟩
def RX4 : String := "RelayHouse$Pen"
def TX4 : u_T := fun k => match k with
  | 0 => ("RelayHouse$Pen", "row", "LRelayHouse$Row;", true)
  | _ => ("RelayHouse$Pen", "seal", "LRelayHouse$Seal;", true)
def tyX4 : Nat → FieldType := fun k => match k with
  | 0 => .object "RelayHouse$Row"
  | _ => .object "RelayHouse$Seal"
abbrev wsX40 : List Cond := u_ws RX4 TX4 2
theorem nmX4 : ∀ a, a < 2 → ∀ b, b < 2 → a ≠ b → (TX4 a).2.1 ≠ (TX4 b).2.1 := by decide +kernel
theorem tyX4_ok : ∀ k, k < 2 → parseFieldDescriptor (TX4 k).2.2.1 = some (tyX4 k) := by decide +kernel
abbrev cX4_init : ByteArray := prog_6_method_1_code
def yX4_init : MethodName := ⟨RX4, "<init>", "(LRelayHouse$Row;LRelayHouse$Seal;)V"⟩
abbrev cX4_padded : ByteArray := prog_6_method_2_code
def yX4_padded : MethodName := ⟨RX4, "padded", "(I)I"⟩
abbrev cX4_fingerprint : ByteArray := prog_6_method_3_code
def yX4_fingerprint : MethodName := ⟨RX4, "fingerprint", "(LRelayHouse$Row;I)I"⟩
abbrev cX4_typeOf : ByteArray := prog_6_method_4_code
def yX4_typeOf : MethodName := ⟨RX4, "typeOf", "(II)I"⟩
abbrev cX4_takes : ByteArray := prog_6_method_5_code
def yX4_takes : MethodName := ⟨RX4, "takes", "(II)Z"⟩
abbrev cX4_openLetter : ByteArray := prog_6_method_6_code
def yX4_openLetter : MethodName := ⟨RX4, "openLetter", "(IIII)V"⟩
abbrev cX4_open : ByteArray := prog_6_method_7_code
def yX4_open : MethodName := ⟨RX4, "open", "(II)V"⟩
abbrev cX4_close : ByteArray := prog_6_method_8_code
def yX4_close : MethodName := ⟨RX4, "close", "(I)V"⟩
abbrev cX4_addValue : ByteArray := prog_6_method_9_code
def yX4_addValue : MethodName := ⟨RX4, "addValue", "(IJI)V"⟩
abbrev cX4_addWords : ByteArray := prog_6_method_10_code
def yX4_addWords : MethodName := ⟨RX4, "addWords", "(IJJ)V"⟩
abbrev cX4_addAddress : ByteArray := prog_6_method_11_code
def yX4_addAddress : MethodName := ⟨RX4, "addAddress", "(III)V"⟩
abbrev cX4_addKinds : ByteArray := prog_6_method_12_code
def yX4_addKinds : MethodName := ⟨RX4, "addKinds", "([II)V"⟩
abbrev cX4_addData : ByteArray := prog_6_method_13_code
def yX4_addData : MethodName := ⟨RX4, "addData", "(LRelayHouse$Row;)V"⟩
abbrev cX4_addIntegrity : ByteArray := prog_6_method_14_code
def yX4_addIntegrity : MethodName := ⟨RX4, "addIntegrity", "()V"⟩
abbrev cX4_addFingerprint : ByteArray := prog_6_method_15_code
def yX4_addFingerprint : MethodName := ⟨RX4, "addFingerprint", "()V"⟩
def RX5 : String := "RelayHouse$Post"
def TX5 : u_T := fun k => match k with
  | 0 => ("RelayHouse$Post", "row", "LRelayHouse$Row;", true)
  | 1 => ("RelayHouse$Post", "letter", "LRelayHouse$Letter;", true)
  | 2 => ("RelayHouse$Post", "tallies", "[I", true)
  | 3 => ("RelayHouse$Post", "there", "Z", false)
  | 4 => ("RelayHouse$Post", "ip", "I", false)
  | 5 => ("RelayHouse$Post", "port", "I", false)
  | _ => ("RelayHouse$Post", "from", "I", false)
def tyX5 : Nat → FieldType := fun k => match k with
  | 0 => .object "RelayHouse$Row"
  | 1 => .object "RelayHouse$Letter"
  | 2 => .array .int
  | 3 => .boolean
  | 4 => .int
  | 5 => .int
  | _ => .int
abbrev wsX50 : List Cond := u_ws RX5 TX5 7
theorem nmX5 : ∀ a, a < 7 → ∀ b, b < 7 → a ≠ b → (TX5 a).2.1 ≠ (TX5 b).2.1 := by decide +kernel
theorem tyX5_ok : ∀ k, k < 7 → parseFieldDescriptor (TX5 k).2.2.1 = some (tyX5 k) := by decide +kernel
abbrev cX5_init : ByteArray := prog_7_method_1_code
def yX5_init : MethodName := ⟨RX5, "<init>", "()V"⟩
abbrev cX5_row : ByteArray := prog_7_method_2_code
def yX5_row : MethodName := ⟨RX5, "row", "()LRelayHouse$Row;"⟩
abbrev cX5_letter : ByteArray := prog_7_method_3_code
def yX5_letter : MethodName := ⟨RX5, "letter", "()LRelayHouse$Letter;"⟩
abbrev cX5_clear : ByteArray := prog_7_method_4_code
def yX5_clear : MethodName := ⟨RX5, "clear", "()V"⟩
abbrev cX5_open : ByteArray := prog_7_method_5_code
def yX5_open : MethodName := ⟨RX5, "open", "(III)V"⟩
abbrev cX5_close : ByteArray := prog_7_method_6_code
def yX5_close : MethodName := ⟨RX5, "close", "()I"⟩
abbrev cX5_note : ByteArray := prog_7_method_7_code
def yX5_note : MethodName := ⟨RX5, "note", "(I)V"⟩
abbrev cX5_tally : ByteArray := prog_7_method_8_code
def yX5_tally : MethodName := ⟨RX5, "tally", "(I)I"⟩
abbrev cX5_tell : ByteArray := prog_7_method_9_code
def yX5_tell : MethodName := ⟨RX5, "tell", "(I)I"⟩
def RX6 : String := "RelayHouse$Row"
def TX6 : u_T := fun k => match k with
  | 0 => ("RelayHouse$Row", "bytes", "[B", true)
  | _ => ("RelayHouse$Row", "size", "I", false)
def tyX6 : Nat → FieldType := fun k => match k with
  | 0 => .array .byte
  | _ => .int
abbrev wsX60 : List Cond := u_ws RX6 TX6 2
theorem nmX6 : ∀ a, a < 2 → ∀ b, b < 2 → a ≠ b → (TX6 a).2.1 ≠ (TX6 b).2.1 := by decide +kernel
theorem tyX6_ok : ∀ k, k < 2 → parseFieldDescriptor (TX6 k).2.2.1 = some (tyX6 k) := by decide +kernel
abbrev cX6_init : ByteArray := prog_8_method_1_code
def yX6_init : MethodName := ⟨RX6, "<init>", "(I)V"⟩
abbrev cX6_size : ByteArray := prog_8_method_2_code
def yX6_size : MethodName := ⟨RX6, "size", "()I"⟩
abbrev cX6_most : ByteArray := prog_8_method_3_code
def yX6_most : MethodName := ⟨RX6, "most", "()I"⟩
abbrev cX6_at : ByteArray := prog_8_method_4_code
def yX6_at : MethodName := ⟨RX6, "at", "(I)I"⟩
abbrev cX6_set : ByteArray := prog_8_method_5_code
def yX6_set : MethodName := ⟨RX6, "set", "(II)V"⟩
abbrev cX6_cut : ByteArray := prog_8_method_6_code
def yX6_cut : MethodName := ⟨RX6, "cut", "(I)V"⟩
abbrev cX6_addNumber : ByteArray := prog_8_method_7_code
def yX6_addNumber : MethodName := ⟨RX6, "addNumber", "(JI)V"⟩
abbrev cX6_addZeros : ByteArray := prog_8_method_8_code
def yX6_addZeros : MethodName := ⟨RX6, "addZeros", "(I)V"⟩
abbrev cX6_addFrom : ByteArray := prog_8_method_9_code
def yX6_addFrom : MethodName := ⟨RX6, "addFrom", "(LRelayHouse$Row;II)V"⟩
abbrev cX6_numberAt : ByteArray := prog_8_method_10_code
def yX6_numberAt : MethodName := ⟨RX6, "numberAt", "(II)J"⟩
def RX7 : String := "RelayHouse$Seal"
def TX7 : u_T := fun k => match k with
  | 0 => ("RelayHouse$Seal", "sha", "LRelayHouse$Sha;", true)
  | 1 => ("RelayHouse$Seal", "text", "LRelayHouse$Row;", true)
  | 2 => ("RelayHouse$Seal", "key", "LRelayHouse$Row;", true)
  | _ => ("RelayHouse$Seal", "mac", "LRelayHouse$Row;", true)
def tyX7 : Nat → FieldType := fun k => match k with
  | 0 => .object "RelayHouse$Sha"
  | 1 => .object "RelayHouse$Row"
  | 2 => .object "RelayHouse$Row"
  | _ => .object "RelayHouse$Row"
abbrev wsX70 : List Cond := u_ws RX7 TX7 4
theorem nmX7 : ∀ a, a < 4 → ∀ b, b < 4 → a ≠ b → (TX7 a).2.1 ≠ (TX7 b).2.1 := by decide +kernel
theorem tyX7_ok : ∀ k, k < 4 → parseFieldDescriptor (TX7 k).2.2.1 = some (tyX7 k) := by decide +kernel
abbrev cX7_init : ByteArray := prog_9_method_1_code
def yX7_init : MethodName := ⟨RX7, "<init>", "()V"⟩
abbrev cX7_setKey : ByteArray := prog_9_method_2_code
def yX7_setKey : MethodName := ⟨RX7, "setKey", "(JJJ)V"⟩
abbrev cX7_make : ByteArray := prog_9_method_3_code
def yX7_make : MethodName := ⟨RX7, "make", "(LRelayHouse$Row;I)V"⟩
abbrev cX7_startWithKey : ByteArray := prog_9_method_4_code
def yX7_startWithKey : MethodName := ⟨RX7, "startWithKey", "(I)V"⟩
abbrev cX7_standsAt : ByteArray := prog_9_method_5_code
def yX7_standsAt : MethodName := ⟨RX7, "standsAt", "(LRelayHouse$Row;I)Z"⟩
abbrev cX7_write : ByteArray := prog_9_method_6_code
def yX7_write : MethodName := ⟨RX7, "write", "(LRelayHouse$Row;)V"⟩
def RX8 : String := "RelayHouse$Server"
def TX8 : u_T := fun k => match k with
  | 0 => ("RelayHouse$Server", "tape", "LRelayHouse$Row;", true)
  | 1 => ("RelayHouse$Server", "users", "LRelayHouse$Users;", true)
  | 2 => ("RelayHouse$Server", "fence", "LRelayHouse$Fence;", true)
  | 3 => ("RelayHouse$Server", "book", "LRelayHouse$Book;", true)
  | 4 => ("RelayHouse$Server", "post", "LRelayHouse$Post;", true)
  | 5 => ("RelayHouse$Server", "seal", "LRelayHouse$Seal;", true)
  | 6 => ("RelayHouse$Server", "letter", "LRelayHouse$Letter;", true)
  | 7 => ("RelayHouse$Server", "pen", "LRelayHouse$Pen;", true)
  | 8 => ("RelayHouse$Server", "strange", "[I", true)
  | 9 => ("RelayHouse$Server", "told", "[I", true)
  | 10 => ("RelayHouse$Server", "strangeOnes", "I", false)
  | 11 => ("RelayHouse$Server", "clientIp", "I", false)
  | 12 => ("RelayHouse$Server", "clientPort", "I", false)
  | 13 => ("RelayHouse$Server", "own", "LRelayHouse$Allocation;", false)
  | _ => ("RelayHouse$Server", "signer", "I", false)
def tyX8 : Nat → FieldType := fun k => match k with
  | 0 => .object "RelayHouse$Row"
  | 1 => .object "RelayHouse$Users"
  | 2 => .object "RelayHouse$Fence"
  | 3 => .object "RelayHouse$Book"
  | 4 => .object "RelayHouse$Post"
  | 5 => .object "RelayHouse$Seal"
  | 6 => .object "RelayHouse$Letter"
  | 7 => .object "RelayHouse$Pen"
  | 8 => .array .int
  | 9 => .array .int
  | 10 => .int
  | 11 => .int
  | 12 => .int
  | 13 => .object "RelayHouse$Allocation"
  | _ => .int
abbrev wsX80 : List Cond := u_ws RX8 TX8 15
theorem nmX8 : ∀ a, a < 15 → ∀ b, b < 15 → a ≠ b → (TX8 a).2.1 ≠ (TX8 b).2.1 := by decide +kernel
theorem tyX8_ok : ∀ k, k < 15 → parseFieldDescriptor (TX8 k).2.2.1 = some (tyX8 k) := by decide +kernel
abbrev cX8_init : ByteArray := prog_10_method_1_code
def yX8_init : MethodName := ⟨RX8, "<init>", "(LRelayHouse$Row;LRelayHouse$Users;LRelayHouse$Fence;LRelayHouse$Book;LRelayHouse$Post;LRelayHouse$Seal;)V"⟩
abbrev cX8_fromClient : ByteArray := prog_10_method_2_code
def yX8_fromClient : MethodName := ⟨RX8, "fromClient", "(II)I"⟩
abbrev cX8_fromPeer : ByteArray := prog_10_method_3_code
def yX8_fromPeer : MethodName := ⟨RX8, "fromPeer", "(III)I"⟩
abbrev cX8_writeChannelData : ByteArray := prog_10_method_4_code
def yX8_writeChannelData : MethodName := ⟨RX8, "writeChannelData", "(I)V"⟩
abbrev cX8_writeIndication : ByteArray := prog_10_method_5_code
def yX8_writeIndication : MethodName := ⟨RX8, "writeIndication", "(II)V"⟩
abbrev cX8_isChannelNumber : ByteArray := prog_10_method_6_code
def yX8_isChannelNumber : MethodName := ⟨RX8, "isChannelNumber", "(J)Z"⟩
abbrev cX8_isChannelData : ByteArray := prog_10_method_7_code
def yX8_isChannelData : MethodName := ⟨RX8, "isChannelData", "()Z"⟩
abbrev cX8_relayChannelData : ByteArray := prog_10_method_8_code
def yX8_relayChannelData : MethodName := ⟨RX8, "relayChannelData", "()V"⟩
abbrev cX8_relaySend : ByteArray := prog_10_method_9_code
def yX8_relaySend : MethodName := ⟨RX8, "relaySend", "()V"⟩
abbrev cX8_relay : ByteArray := prog_10_method_10_code
def yX8_relay : MethodName := ⟨RX8, "relay", "(LRelayHouse$Allocation;IIII)V"⟩
abbrev cX8_answer : ByteArray := prog_10_method_11_code
def yX8_answer : MethodName := ⟨RX8, "answer", "(I)V"⟩
abbrev cX8_needsUser : ByteArray := prog_10_method_12_code
def yX8_needsUser : MethodName := ⟨RX8, "needsUser", "(I)Z"⟩
abbrev cX8_accessError : ByteArray := prog_10_method_13_code
def yX8_accessError : MethodName := ⟨RX8, "accessError", "(I)I"⟩
abbrev cX8_isWordAt : ByteArray := prog_10_method_14_code
def yX8_isWordAt : MethodName := ⟨RX8, "isWordAt", "(IJ)Z"⟩
abbrev cX8_perform : ByteArray := prog_10_method_15_code
def yX8_perform : MethodName := ⟨RX8, "perform", "(I)I"⟩
abbrev cX8_allocate : ByteArray := prog_10_method_16_code
def yX8_allocate : MethodName := ⟨RX8, "allocate", "()I"⟩
abbrev cX8_lifetime : ByteArray := prog_10_method_17_code
def yX8_lifetime : MethodName := ⟨RX8, "lifetime", "()J"⟩
abbrev cX8_refresh : ByteArray := prog_10_method_18_code
def yX8_refresh : MethodName := ⟨RX8, "refresh", "(LRelayHouse$Allocation;)I"⟩
abbrev cX8_permitPeers : ByteArray := prog_10_method_19_code
def yX8_permitPeers : MethodName := ⟨RX8, "permitPeers", "(LRelayHouse$Allocation;)I"⟩
abbrev cX8_bindChannel : ByteArray := prog_10_method_20_code
def yX8_bindChannel : MethodName := ⟨RX8, "bindChannel", "(LRelayHouse$Allocation;)I"⟩
abbrev cX8_writeTold : ByteArray := prog_10_method_21_code
def yX8_writeTold : MethodName := ⟨RX8, "writeTold", "(I)V"⟩
abbrev cX8_writeError : ByteArray := prog_10_method_22_code
def yX8_writeError : MethodName := ⟨RX8, "writeError", "(I)V"⟩
def RX9 : String := "RelayHouse$Sha"
def TX9 : u_T := fun k => match k with
  | 0 => ("RelayHouse$Sha", "state", "[I", true)
  | _ => ("RelayHouse$Sha", "words", "[I", true)
def tyX9 : Nat → FieldType := fun k => match k with
  | 0 => .array .int
  | _ => .array .int
abbrev wsX90 : List Cond := u_ws RX9 TX9 2
theorem nmX9 : ∀ a, a < 2 → ∀ b, b < 2 → a ≠ b → (TX9 a).2.1 ≠ (TX9 b).2.1 := by decide +kernel
theorem tyX9_ok : ∀ k, k < 2 → parseFieldDescriptor (TX9 k).2.2.1 = some (tyX9 k) := by decide +kernel
abbrev cX9_init : ByteArray := prog_11_method_1_code
def yX9_init : MethodName := ⟨RX9, "<init>", "()V"⟩
abbrev cX9_digest : ByteArray := prog_11_method_2_code
def yX9_digest : MethodName := ⟨RX9, "digest", "(LRelayHouse$Row;LRelayHouse$Row;)V"⟩
abbrev cX9_spread : ByteArray := prog_11_method_3_code
def yX9_spread : MethodName := ⟨RX9, "spread", "()V"⟩
abbrev cX9_stir : ByteArray := prog_11_method_4_code
def yX9_stir : MethodName := ⟨RX9, "stir", "()V"⟩
def RX10 : String := "RelayHouse$Users"
def TX10 : u_T := fun k => match k with
  | 0 => ("RelayHouse$Users", "names", "[J", true)
  | 1 => ("RelayHouse$Users", "passwords", "[J", true)
  | 2 => ("RelayHouse$Users", "size", "I", false)
  | 3 => ("RelayHouse$Users", "realm", "J", false)
  | 4 => ("RelayHouse$Users", "nonce", "J", false)
  | _ => ("RelayHouse$Users", "share", "I", false)
def tyX10 : Nat → FieldType := fun k => match k with
  | 0 => .array .long
  | 1 => .array .long
  | 2 => .int
  | 3 => .long
  | 4 => .long
  | _ => .int
abbrev wsX100 : List Cond := u_ws RX10 TX10 6
theorem nmX10 : ∀ a, a < 6 → ∀ b, b < 6 → a ≠ b → (TX10 a).2.1 ≠ (TX10 b).2.1 := by decide +kernel
theorem tyX10_ok : ∀ k, k < 6 → parseFieldDescriptor (TX10 k).2.2.1 = some (tyX10 k) := by decide +kernel
abbrev cX10_init : ByteArray := prog_12_method_1_code
def yX10_init : MethodName := ⟨RX10, "<init>", "()V"⟩
abbrev cX10_packed : ByteArray := prog_12_method_2_code
def yX10_packed : MethodName := ⟨RX10, "packed", "(J)J"⟩
abbrev cX10_sizeOf : ByteArray := prog_12_method_3_code
def yX10_sizeOf : MethodName := ⟨RX10, "sizeOf", "(J)I"⟩
abbrev cX10_isWord : ByteArray := prog_12_method_4_code
def yX10_isWord : MethodName := ⟨RX10, "isWord", "(J)Z"⟩
abbrev cX10_size : ByteArray := prog_12_method_5_code
def yX10_size : MethodName := ⟨RX10, "size", "()I"⟩
abbrev cX10_enter : ByteArray := prog_12_method_6_code
def yX10_enter : MethodName := ⟨RX10, "enter", "(JJ)I"⟩
abbrev cX10_find : ByteArray := prog_12_method_7_code
def yX10_find : MethodName := ⟨RX10, "find", "(J)I"⟩
abbrev cX10_nameOf : ByteArray := prog_12_method_8_code
def yX10_nameOf : MethodName := ⟨RX10, "nameOf", "(I)J"⟩
abbrev cX10_passwordOf : ByteArray := prog_12_method_9_code
def yX10_passwordOf : MethodName := ⟨RX10, "passwordOf", "(I)J"⟩
abbrev cX10_realmWord : ByteArray := prog_12_method_10_code
def yX10_realmWord : MethodName := ⟨RX10, "realmWord", "()J"⟩
abbrev cX10_setRealm : ByteArray := prog_12_method_11_code
def yX10_setRealm : MethodName := ⟨RX10, "setRealm", "(J)V"⟩
abbrev cX10_nonceNow : ByteArray := prog_12_method_12_code
def yX10_nonceNow : MethodName := ⟨RX10, "nonceNow", "()J"⟩
abbrev cX10_setNonce : ByteArray := prog_12_method_13_code
def yX10_setNonce : MethodName := ⟨RX10, "setNonce", "(J)V"⟩
abbrev cX10_share : ByteArray := prog_12_method_14_code
def yX10_share : MethodName := ⟨RX10, "share", "()I"⟩
abbrev cX10_setShare : ByteArray := prog_12_method_15_code
def yX10_setShare : MethodName := ⟨RX10, "setShare", "(I)V"⟩
def RX11 : String := "RelayHouse"
def TX11 : u_T := fun k => match k with
  | 0 => ("RelayHouse", "tape", "LRelayHouse$Row;", true)
  | 1 => ("RelayHouse", "seal", "LRelayHouse$Seal;", true)
  | 2 => ("RelayHouse", "desk", "LRelayHouse$Pen;", true)
  | 3 => ("RelayHouse", "users", "LRelayHouse$Users;", true)
  | 4 => ("RelayHouse", "fence", "LRelayHouse$Fence;", true)
  | 5 => ("RelayHouse", "book", "LRelayHouse$Book;", true)
  | 6 => ("RelayHouse", "post", "LRelayHouse$Post;", true)
  | _ => ("RelayHouse", "server", "LRelayHouse$Server;", true)
def tyX11 : Nat → FieldType := fun k => match k with
  | 0 => .object "RelayHouse$Row"
  | 1 => .object "RelayHouse$Seal"
  | 2 => .object "RelayHouse$Pen"
  | 3 => .object "RelayHouse$Users"
  | 4 => .object "RelayHouse$Fence"
  | 5 => .object "RelayHouse$Book"
  | 6 => .object "RelayHouse$Post"
  | _ => .object "RelayHouse$Server"
abbrev wsX110 : List Cond := u_ws RX11 TX11 8
theorem nmX11 : ∀ a, a < 8 → ∀ b, b < 8 → a ≠ b → (TX11 a).2.1 ≠ (TX11 b).2.1 := by decide +kernel
theorem tyX11_ok : ∀ k, k < 8 → parseFieldDescriptor (TX11 k).2.2.1 = some (tyX11 k) := by decide +kernel
abbrev cX11_init : ByteArray := prog_1_method_1_code
def yX11_init : MethodName := ⟨RX11, "<init>", "()V"⟩
abbrev cX11_feed : ByteArray := prog_1_method_2_code
def yX11_feed : MethodName := ⟨RX11, "feed", "(IIIII)I"⟩
abbrev cX11_end : ByteArray := prog_1_method_3_code
def yX11_end : MethodName := ⟨RX11, "end", "(I)I"⟩
abbrev cX11_message : ByteArray := prog_1_method_4_code
def yX11_message : MethodName := ⟨RX11, "message", "(IIII)I"⟩
abbrev cX11_number : ByteArray := prog_1_method_5_code
def yX11_number : MethodName := ⟨RX11, "number", "(III)I"⟩
abbrev cX11_text : ByteArray := prog_1_method_6_code
def yX11_text : MethodName := ⟨RX11, "text", "(IJJ)I"⟩
abbrev cX11_nonce : ByteArray := prog_1_method_7_code
def yX11_nonce : MethodName := ⟨RX11, "nonce", "(IJ)I"⟩
abbrev cX11_address : ByteArray := prog_1_method_8_code
def yX11_address : MethodName := ⟨RX11, "address", "(III)I"⟩
abbrev cX11_sign : ByteArray := prog_1_method_9_code
def yX11_sign : MethodName := ⟨RX11, "sign", "(JJ)I"⟩
abbrev cX11_finger : ByteArray := prog_1_method_10_code
def yX11_finger : MethodName := ⟨RX11, "finger", "()I"⟩
abbrev cX11_tape : ByteArray := prog_1_method_11_code
def yX11_tape : MethodName := ⟨RX11, "tape", "(I)I"⟩
abbrev cX11_alter : ByteArray := prog_1_method_12_code
def yX11_alter : MethodName := ⟨RX11, "alter", "(II)I"⟩
abbrev cX11_user : ByteArray := prog_1_method_13_code
def yX11_user : MethodName := ⟨RX11, "user", "(JJ)I"⟩
abbrev cX11_realm : ByteArray := prog_1_method_14_code
def yX11_realm : MethodName := ⟨RX11, "realm", "(J)I"⟩
abbrev cX11_fresh : ByteArray := prog_1_method_15_code
def yX11_fresh : MethodName := ⟨RX11, "fresh", "(J)I"⟩
abbrev cX11_part : ByteArray := prog_1_method_16_code
def yX11_part : MethodName := ⟨RX11, "part", "(I)I"⟩
abbrev cX11_forbid : ByteArray := prog_1_method_17_code
def yX11_forbid : MethodName := ⟨RX11, "forbid", "(II)I"⟩
abbrev cX11_tick : ByteArray := prog_1_method_18_code
def yX11_tick : MethodName := ⟨RX11, "tick", "(I)I"⟩
abbrev cX11_datagram : ByteArray := prog_1_method_19_code
def yX11_datagram : MethodName := ⟨RX11, "datagram", "(II)I"⟩
abbrev cX11_peer : ByteArray := prog_1_method_20_code
def yX11_peer : MethodName := ⟨RX11, "peer", "(III)I"⟩
abbrev cX11_sent : ByteArray := prog_1_method_21_code
def yX11_sent : MethodName := ⟨RX11, "sent", "(I)I"⟩
abbrev cX11_octet : ByteArray := prog_1_method_22_code
def yX11_octet : MethodName := ⟨RX11, "octet", "(I)I"⟩
abbrev cX11_attribute : ByteArray := prog_1_method_23_code
def yX11_attribute : MethodName := ⟨RX11, "attribute", "(II)I"⟩
abbrev cX11_allocation : ByteArray := prog_1_method_24_code
def yX11_allocation : MethodName := ⟨RX11, "allocation", "(II)I"⟩
abbrev cX11_permission : ByteArray := prog_1_method_25_code
def yX11_permission : MethodName := ⟨RX11, "permission", "(II)I"⟩
abbrev cX11_channel : ByteArray := prog_1_method_26_code
def yX11_channel : MethodName := ⟨RX11, "channel", "(II)I"⟩
abbrev cX11_count : ByteArray := prog_1_method_27_code
def yX11_count : MethodName := ⟨RX11, "count", "(I)I"⟩
def RX12 : String := "RelayHouseModel"
def TX12 : u_T := fun k => match k with
  | 0 => ("RelayHouseModel", "thrown", "I", false)
  | 1 => ("RelayHouseModel", "constants", "[I", true)
  | 2 => ("RelayHouseModel", "beginning", "[I", true)
  | 3 => ("RelayHouseModel", "state", "[I", true)
  | 4 => ("RelayHouseModel", "words", "[I", true)
  | 5 => ("RelayHouseModel", "block", "[I", true)
  | 6 => ("RelayHouseModel", "filled", "I", false)
  | 7 => ("RelayHouseModel", "hashed", "J", false)
  | 8 => ("RelayHouseModel", "places", "[J", true)
  | 9 => ("RelayHouseModel", "spare", "[J", true)
  | 10 => ("RelayHouseModel", "row", "[I", true)
  | 11 => ("RelayHouseModel", "digest", "[I", true)
  | 12 => ("RelayHouseModel", "key", "[I", true)
  | 13 => ("RelayHouseModel", "inner", "[I", true)
  | 14 => ("RelayHouseModel", "tape", "[I", true)
  | 15 => ("RelayHouseModel", "taped", "I", false)
  | 16 => ("RelayHouseModel", "sent", "[I", true)
  | 17 => ("RelayHouseModel", "sentSize", "I", false)
  | 18 => ("RelayHouseModel", "hasSent", "Z", false)
  | 19 => ("RelayHouseModel", "sentIp", "I", false)
  | 20 => ("RelayHouseModel", "sentTo", "I", false)
  | 21 => ("RelayHouseModel", "sentFrom", "I", false)
  | 22 => ("RelayHouseModel", "letters", "[I", true)
  | 23 => ("RelayHouseModel", "letterMany", "I", false)
  | 24 => ("RelayHouseModel", "names", "[J", true)
  | 25 => ("RelayHouseModel", "passwords", "[J", true)
  | 26 => ("RelayHouseModel", "users", "I", false)
  | 27 => ("RelayHouseModel", "realm", "[I", true)
  | 28 => ("RelayHouseModel", "realmSize", "I", false)
  | 29 => ("RelayHouseModel", "fresh", "J", false)
  | 30 => ("RelayHouseModel", "part", "I", false)
  | 31 => ("RelayHouseModel", "forbidden", "[I", true)
  | 32 => ("RelayHouseModel", "forbiddenBits", "[I", true)
  | 33 => ("RelayHouseModel", "forbids", "I", false)
  | 34 => ("RelayHouseModel", "time", "J", false)
  | 35 => ("RelayHouseModel", "aIs", "[Z", true)
  | 36 => ("RelayHouseModel", "aIp", "[I", true)
  | 37 => ("RelayHouseModel", "aClient", "[I", true)
  | 38 => ("RelayHouseModel", "aUser", "[I", true)
  | 39 => ("RelayHouseModel", "aPort", "[I", true)
  | 40 => ("RelayHouseModel", "aTill", "[J", true)
  | 41 => ("RelayHouseModel", "aId", "[I", true)
  | 42 => ("RelayHouseModel", "pMany", "[I", true)
  | 43 => ("RelayHouseModel", "pIp", "[I", true)
  | 44 => ("RelayHouseModel", "pTill", "[J", true)
  | 45 => ("RelayHouseModel", "cMany", "[I", true)
  | 46 => ("RelayHouseModel", "cNumber", "[I", true)
  | 47 => ("RelayHouseModel", "cIp", "[I", true)
  | 48 => ("RelayHouseModel", "cPort", "[I", true)
  | 49 => ("RelayHouseModel", "cTill", "[J", true)
  | 50 => ("RelayHouseModel", "tKind", "[I", true)
  | 51 => ("RelayHouseModel", "tSize", "[I", true)
  | 52 => ("RelayHouseModel", "tAt", "[I", true)
  | 53 => ("RelayHouseModel", "attributes", "I", false)
  | 54 => ("RelayHouseModel", "integrity", "I", false)
  | 55 => ("RelayHouseModel", "fingerprint", "I", false)
  | 56 => ("RelayHouseModel", "lastStart", "I", false)
  | 57 => ("RelayHouseModel", "strange", "[I", true)
  | 58 => ("RelayHouseModel", "stranges", "I", false)
  | 59 => ("RelayHouseModel", "datagrams", "I", false)
  | 60 => ("RelayHouseModel", "indications", "I", false)
  | 61 => ("RelayHouseModel", "toPeers", "I", false)
  | 62 => ("RelayHouseModel", "toClients", "I", false)
  | 63 => ("RelayHouseModel", "errors", "I", false)
  | 64 => ("RelayHouseModel", "idle", "I", false)
  | 65 => ("RelayHouseModel", "fromIp", "I", false)
  | 66 => ("RelayHouseModel", "fromPort", "I", false)
  | _ => ("RelayHouseModel", "signer", "I", false)
def tyX12 : Nat → FieldType := fun k => match k with
  | 0 => .int
  | 1 => .array .int
  | 2 => .array .int
  | 3 => .array .int
  | 4 => .array .int
  | 5 => .array .int
  | 6 => .int
  | 7 => .long
  | 8 => .array .long
  | 9 => .array .long
  | 10 => .array .int
  | 11 => .array .int
  | 12 => .array .int
  | 13 => .array .int
  | 14 => .array .int
  | 15 => .int
  | 16 => .array .int
  | 17 => .int
  | 18 => .boolean
  | 19 => .int
  | 20 => .int
  | 21 => .int
  | 22 => .array .int
  | 23 => .int
  | 24 => .array .long
  | 25 => .array .long
  | 26 => .int
  | 27 => .array .int
  | 28 => .int
  | 29 => .long
  | 30 => .int
  | 31 => .array .int
  | 32 => .array .int
  | 33 => .int
  | 34 => .long
  | 35 => .array .boolean
  | 36 => .array .int
  | 37 => .array .int
  | 38 => .array .int
  | 39 => .array .int
  | 40 => .array .long
  | 41 => .array .int
  | 42 => .array .int
  | 43 => .array .int
  | 44 => .array .long
  | 45 => .array .int
  | 46 => .array .int
  | 47 => .array .int
  | 48 => .array .int
  | 49 => .array .long
  | 50 => .array .int
  | 51 => .array .int
  | 52 => .array .int
  | 53 => .int
  | 54 => .int
  | 55 => .int
  | 56 => .int
  | 57 => .array .int
  | 58 => .int
  | 59 => .int
  | 60 => .int
  | 61 => .int
  | 62 => .int
  | 63 => .int
  | 64 => .int
  | 65 => .int
  | 66 => .int
  | _ => .int
abbrev wsX120 : List Cond := u_ws RX12 TX12 68
theorem nmX12 : ∀ a, a < 68 → ∀ b, b < 68 → a ≠ b → (TX12 a).2.1 ≠ (TX12 b).2.1 := by decide +kernel
theorem tyX12_ok : ∀ k, k < 68 → parseFieldDescriptor (TX12 k).2.2.1 = some (tyX12 k) := by decide +kernel
abbrev cX12_init : ByteArray := prog_14_method_1_code
def yX12_init : MethodName := ⟨RX12, "<init>", "()V"⟩
abbrev cX12_in : ByteArray := prog_14_method_3_code
def yX12_in : MethodName := ⟨RX12, "in", "(JJJ)Z"⟩
abbrev cX12_fraction : ByteArray := prog_14_method_4_code
def yX12_fraction : MethodName := ⟨RX12, "fraction", "(II)I"⟩
abbrev cX12_times : ByteArray := prog_14_method_5_code
def yX12_times : MethodName := ⟨RX12, "times", "(J)V"⟩
abbrev cX12_isAbove : ByteArray := prog_14_method_6_code
def yX12_isAbove : MethodName := ⟨RX12, "isAbove", "(II)Z"⟩
abbrev cX12_hashBegin : ByteArray := prog_14_method_7_code
def yX12_hashBegin : MethodName := ⟨RX12, "hashBegin", "()V"⟩
abbrev cX12_right : ByteArray := prog_14_method_8_code
def yX12_right : MethodName := ⟨RX12, "right", "(II)I"⟩
abbrev cX12_hash : ByteArray := prog_14_method_9_code
def yX12_hash : MethodName := ⟨RX12, "hash", "(I)V"⟩
abbrev cX12_rounds : ByteArray := prog_14_method_10_code
def yX12_rounds : MethodName := ⟨RX12, "rounds", "()V"⟩
abbrev cX12_hashEnd : ByteArray := prog_14_method_11_code
def yX12_hashEnd : MethodName := ⟨RX12, "hashEnd", "()V"⟩
abbrev cX12_hashLong : ByteArray := prog_14_method_12_code
def yX12_hashLong : MethodName := ⟨RX12, "hashLong", "(J)V"⟩
abbrev cX12_makeKey : ByteArray := prog_14_method_13_code
def yX12_makeKey : MethodName := ⟨RX12, "makeKey", "(JJ)V"⟩
abbrev cX12_authenticate : ByteArray := prog_14_method_14_code
def yX12_authenticate : MethodName := ⟨RX12, "authenticate", "([II)V"⟩
abbrev cX12_print : ByteArray := prog_14_method_15_code
def yX12_print : MethodName := ⟨RX12, "print", "([II)I"⟩
abbrev cX12_two : ByteArray := prog_14_method_16_code
def yX12_two : MethodName := ⟨RX12, "two", "([II)I"⟩
abbrev cX12_four : ByteArray := prog_14_method_17_code
def yX12_four : MethodName := ⟨RX12, "four", "([II)I"⟩
abbrev cX12_putTwo : ByteArray := prog_14_method_18_code
def yX12_putTwo : MethodName := ⟨RX12, "putTwo", "([III)V"⟩
abbrev cX12_putFour : ByteArray := prog_14_method_19_code
def yX12_putFour : MethodName := ⟨RX12, "putFour", "([III)V"⟩
abbrev cX12_feed : ByteArray := prog_14_method_20_code
def yX12_feed : MethodName := ⟨RX12, "feed", "(IIIII)I"⟩
abbrev cX12_end : ByteArray := prog_14_method_21_code
def yX12_end : MethodName := ⟨RX12, "end", "(I)I"⟩
abbrev cX12_message : ByteArray := prog_14_method_22_code
def yX12_message : MethodName := ⟨RX12, "message", "(IIII)I"⟩
abbrev cX12_begins : ByteArray := prog_14_method_23_code
def yX12_begins : MethodName := ⟨RX12, "begins", "(II)Z"⟩
abbrev cX12_number : ByteArray := prog_14_method_24_code
def yX12_number : MethodName := ⟨RX12, "number", "(III)I"⟩
abbrev cX12_addLetters : ByteArray := prog_14_method_25_code
def yX12_addLetters : MethodName := ⟨RX12, "addLetters", "(J)V"⟩
abbrev cX12_text : ByteArray := prog_14_method_26_code
def yX12_text : MethodName := ⟨RX12, "text", "(IJJ)I"⟩
abbrev cX12_nonce : ByteArray := prog_14_method_27_code
def yX12_nonce : MethodName := ⟨RX12, "nonce", "(IJ)I"⟩
abbrev cX12_address : ByteArray := prog_14_method_28_code
def yX12_address : MethodName := ⟨RX12, "address", "(III)I"⟩
abbrev cX12_putAddress : ByteArray := prog_14_method_29_code
def yX12_putAddress : MethodName := ⟨RX12, "putAddress", "([IIII)V"⟩
abbrev cX12_isName : ByteArray := prog_14_method_30_code
def yX12_isName : MethodName := ⟨RX12, "isName", "(J)Z"⟩
abbrev cX12_sign : ByteArray := prog_14_method_31_code
def yX12_sign : MethodName := ⟨RX12, "sign", "(JJ)I"⟩
abbrev cX12_finger : ByteArray := prog_14_method_32_code
def yX12_finger : MethodName := ⟨RX12, "finger", "()I"⟩
abbrev cX12_tape : ByteArray := prog_14_method_33_code
def yX12_tape : MethodName := ⟨RX12, "tape", "(I)I"⟩
abbrev cX12_alter : ByteArray := prog_14_method_34_code
def yX12_alter : MethodName := ⟨RX12, "alter", "(II)I"⟩
abbrev cX12_packed : ByteArray := prog_14_method_35_code
def yX12_packed : MethodName := ⟨RX12, "packed", "(J)J"⟩
abbrev cX12_userOf : ByteArray := prog_14_method_36_code
def yX12_userOf : MethodName := ⟨RX12, "userOf", "(J)I"⟩
abbrev cX12_user : ByteArray := prog_14_method_37_code
def yX12_user : MethodName := ⟨RX12, "user", "(JJ)I"⟩
abbrev cX12_realm : ByteArray := prog_14_method_38_code
def yX12_realm : MethodName := ⟨RX12, "realm", "(J)I"⟩
abbrev cX12_fresh : ByteArray := prog_14_method_39_code
def yX12_fresh : MethodName := ⟨RX12, "fresh", "(J)I"⟩
abbrev cX12_part : ByteArray := prog_14_method_40_code
def yX12_part : MethodName := ⟨RX12, "part", "(I)I"⟩
abbrev cX12_forbid : ByteArray := prog_14_method_41_code
def yX12_forbid : MethodName := ⟨RX12, "forbid", "(II)I"⟩
abbrev cX12_isForbidden : ByteArray := prog_14_method_42_code
def yX12_isForbidden : MethodName := ⟨RX12, "isForbidden", "(I)Z"⟩
abbrev cX12_sweep : ByteArray := prog_14_method_43_code
def yX12_sweep : MethodName := ⟨RX12, "sweep", "()I"⟩
abbrev cX12_sweepChannels : ByteArray := prog_14_method_44_code
def yX12_sweepChannels : MethodName := ⟨RX12, "sweepChannels", "(I)V"⟩
abbrev cX12_tick : ByteArray := prog_14_method_45_code
def yX12_tick : MethodName := ⟨RX12, "tick", "(I)I"⟩
abbrev cX12_allocationOf : ByteArray := prog_14_method_46_code
def yX12_allocationOf : MethodName := ⟨RX12, "allocationOf", "(II)I"⟩
abbrev cX12_permissionOf : ByteArray := prog_14_method_47_code
def yX12_permissionOf : MethodName := ⟨RX12, "permissionOf", "(II)I"⟩
abbrev cX12_channelOf : ByteArray := prog_14_method_48_code
def yX12_channelOf : MethodName := ⟨RX12, "channelOf", "(II)I"⟩
abbrev cX12_channelTo : ByteArray := prog_14_method_49_code
def yX12_channelTo : MethodName := ⟨RX12, "channelTo", "(III)I"⟩
abbrev cX12_permit : ByteArray := prog_14_method_50_code
def yX12_permit : MethodName := ⟨RX12, "permit", "(II)V"⟩
abbrev cX12_isMessage : ByteArray := prog_14_method_51_code
def yX12_isMessage : MethodName := ⟨RX12, "isMessage", "([II)Z"⟩
abbrev cX12_take : ByteArray := prog_14_method_52_code
def yX12_take : MethodName := ⟨RX12, "take", "(III)V"⟩
abbrev cX12_isAddress : ByteArray := prog_14_method_53_code
def yX12_isAddress : MethodName := ⟨RX12, "isAddress", "(I)Z"⟩
abbrev cX12_counts : ByteArray := prog_14_method_54_code
def yX12_counts : MethodName := ⟨RX12, "counts", "(I)Z"⟩
abbrev cX12_first : ByteArray := prog_14_method_55_code
def yX12_first : MethodName := ⟨RX12, "first", "(I)I"⟩
abbrev cX12_isKnown : ByteArray := prog_14_method_56_code
def yX12_isKnown : MethodName := ⟨RX12, "isKnown", "(I)Z"⟩
abbrev cX12_findStrange : ByteArray := prog_14_method_57_code
def yX12_findStrange : MethodName := ⟨RX12, "findStrange", "()V"⟩
abbrev cX12_ipOf : ByteArray := prog_14_method_58_code
def yX12_ipOf : MethodName := ⟨RX12, "ipOf", "(I)I"⟩
abbrev cX12_portOf : ByteArray := prog_14_method_59_code
def yX12_portOf : MethodName := ⟨RX12, "portOf", "(I)I"⟩
abbrev cX12_goes : ByteArray := prog_14_method_60_code
def yX12_goes : MethodName := ⟨RX12, "goes", "(III)V"⟩
abbrev cX12_none : ByteArray := prog_14_method_61_code
def yX12_none : MethodName := ⟨RX12, "none", "()V"⟩
abbrev cX12_answers : ByteArray := prog_14_method_62_code
def yX12_answers : MethodName := ⟨RX12, "answers", "(II)V"⟩
abbrev cX12_typeOf : ByteArray := prog_14_method_63_code
def yX12_typeOf : MethodName := ⟨RX12, "typeOf", "(II)I"⟩
abbrev cX12_methodOf : ByteArray := prog_14_method_64_code
def yX12_methodOf : MethodName := ⟨RX12, "methodOf", "(I)I"⟩
abbrev cX12_sortOf : ByteArray := prog_14_method_65_code
def yX12_sortOf : MethodName := ⟨RX12, "sortOf", "(I)I"⟩
abbrev cX12_adds : ByteArray := prog_14_method_66_code
def yX12_adds : MethodName := ⟨RX12, "adds", "(II)I"⟩
abbrev cX12_addAddress : ByteArray := prog_14_method_67_code
def yX12_addAddress : MethodName := ⟨RX12, "addAddress", "(III)V"⟩
abbrev cX12_addFour : ByteArray := prog_14_method_68_code
def yX12_addFour : MethodName := ⟨RX12, "addFour", "(II)V"⟩
abbrev cX12_answered : ByteArray := prog_14_method_69_code
def yX12_answered : MethodName := ⟨RX12, "answered", "()V"⟩
abbrev cX12_error : ByteArray := prog_14_method_70_code
def yX12_error : MethodName := ⟨RX12, "error", "(I)V"⟩
abbrev cX12_datagram : ByteArray := prog_14_method_71_code
def yX12_datagram : MethodName := ⟨RX12, "datagram", "(II)I"⟩
abbrev cX12_over : ByteArray := prog_14_method_72_code
def yX12_over : MethodName := ⟨RX12, "over", "()I"⟩
abbrev cX12_isChannelData : ByteArray := prog_14_method_73_code
def yX12_isChannelData : MethodName := ⟨RX12, "isChannelData", "()Z"⟩
abbrev cX12_relay : ByteArray := prog_14_method_74_code
def yX12_relay : MethodName := ⟨RX12, "relay", "(I)V"⟩
abbrev cX12_sendsOn : ByteArray := prog_14_method_75_code
def yX12_sendsOn : MethodName := ⟨RX12, "sendsOn", "(IIIII)V"⟩
abbrev cX12_comes : ByteArray := prog_14_method_76_code
def yX12_comes : MethodName := ⟨RX12, "comes", "()V"⟩
abbrev cX12_sends : ByteArray := prog_14_method_77_code
def yX12_sends : MethodName := ⟨RX12, "sends", "()V"⟩
abbrev cX12_binds : ByteArray := prog_14_method_78_code
def yX12_binds : MethodName := ⟨RX12, "binds", "()V"⟩
abbrev cX12_isRealm : ByteArray := prog_14_method_79_code
def yX12_isRealm : MethodName := ⟨RX12, "isRealm", "(I)Z"⟩
abbrev cX12_userAt : ByteArray := prog_14_method_80_code
def yX12_userAt : MethodName := ⟨RX12, "userAt", "(I)I"⟩
abbrev cX12_isSigned : ByteArray := prog_14_method_81_code
def yX12_isSigned : MethodName := ⟨RX12, "isSigned", "(I)Z"⟩
abbrev cX12_asked : ByteArray := prog_14_method_82_code
def yX12_asked : MethodName := ⟨RX12, "asked", "(I)V"⟩
abbrev cX12_lifetime : ByteArray := prog_14_method_83_code
def yX12_lifetime : MethodName := ⟨RX12, "lifetime", "()J"⟩
abbrev cX12_allocate : ByteArray := prog_14_method_84_code
def yX12_allocate : MethodName := ⟨RX12, "allocate", "(I)V"⟩
abbrev cX12_make : ByteArray := prog_14_method_85_code
def yX12_make : MethodName := ⟨RX12, "make", "(I)V"⟩
abbrev cX12_granted : ByteArray := prog_14_method_86_code
def yX12_granted : MethodName := ⟨RX12, "granted", "(I)V"⟩
abbrev cX12_refresh : ByteArray := prog_14_method_87_code
def yX12_refresh : MethodName := ⟨RX12, "refresh", "(I)V"⟩
abbrev cX12_permits : ByteArray := prog_14_method_88_code
def yX12_permits : MethodName := ⟨RX12, "permits", "(I)V"⟩
abbrev cX12_bindsChannel : ByteArray := prog_14_method_89_code
def yX12_bindsChannel : MethodName := ⟨RX12, "bindsChannel", "(I)V"⟩
abbrev cX12_peer : ByteArray := prog_14_method_90_code
def yX12_peer : MethodName := ⟨RX12, "peer", "(III)I"⟩
abbrev cX12_brings : ByteArray := prog_14_method_91_code
def yX12_brings : MethodName := ⟨RX12, "brings", "(III)V"⟩
abbrev cX12_isSentMessage : ByteArray := prog_14_method_92_code
def yX12_isSentMessage : MethodName := ⟨RX12, "isSentMessage", "()Z"⟩
abbrev cX12_sentAttributes : ByteArray := prog_14_method_93_code
def yX12_sentAttributes : MethodName := ⟨RX12, "sentAttributes", "()I"⟩
abbrev cX12_sent : ByteArray := prog_14_method_94_code
def yX12_sent : MethodName := ⟨RX12, "sent", "(I)I"⟩
abbrev cX12_octet : ByteArray := prog_14_method_95_code
def yX12_octet : MethodName := ⟨RX12, "octet", "(I)I"⟩
abbrev cX12_attribute : ByteArray := prog_14_method_96_code
def yX12_attribute : MethodName := ⟨RX12, "attribute", "(II)I"⟩
abbrev cX12_isAllocation : ByteArray := prog_14_method_97_code
def yX12_isAllocation : MethodName := ⟨RX12, "isAllocation", "(I)Z"⟩
abbrev cX12_allocation : ByteArray := prog_14_method_98_code
def yX12_allocation : MethodName := ⟨RX12, "allocation", "(II)I"⟩
abbrev cX12_permission : ByteArray := prog_14_method_99_code
def yX12_permission : MethodName := ⟨RX12, "permission", "(II)I"⟩
abbrev cX12_channel : ByteArray := prog_14_method_100_code
def yX12_channel : MethodName := ⟨RX12, "channel", "(II)I"⟩
abbrev cX12_count : ByteArray := prog_14_method_101_code
def yX12_count : MethodName := ⟨RX12, "count", "(I)I"⟩
def RJ6 : String := "java/lang/Integer"
abbrev cJ6_numberOfLeadingZeros_0f7a4 : ByteArray := prog_15_method_47_code
def yJ6_numberOfLeadingZeros_0f7a4 : MethodName := ⟨RJ6, "numberOfLeadingZeros", "(I)I"⟩
def RJ13 : String := "java/lang/Long"
abbrev cJ13_numberOfLeadingZeros_95d88 : ByteArray := prog_16_method_48_code
def yJ13_numberOfLeadingZeros_95d88 : MethodName := ⟨RJ13, "numberOfLeadingZeros", "(J)I"⟩
def RJ9 : String := "java/lang/Math"
abbrev cJ9_max_7cf53 : ByteArray := prog_17_method_65_code
def yJ9_max_7cf53 : MethodName := ⟨RJ9, "max", "(II)I"⟩
abbrev cJ9_max_f86c9 : ByteArray := prog_17_method_66_code
def yJ9_max_f86c9 : MethodName := ⟨RJ9, "max", "(JJ)J"⟩
abbrev cJ9_min_7cf53 : ByteArray := prog_17_method_69_code
def yJ9_min_7cf53 : MethodName := ⟨RJ9, "min", "(II)I"⟩
abbrev cJ9_min_f86c9 : ByteArray := prog_17_method_70_code
def yJ9_min_f86c9 : MethodName := ⟨RJ9, "min", "(JJ)J"⟩
def RJ10 : String := "java/lang/System"
def RL : String := "RelayHouseLaw"
abbrev cL_law : ByteArray := code
def yL_law : MethodName := ⟨RL, "law", "([I)Z"⟩
end
section
/-! ===== THE SMALL MACHINE: cells have places 0, 1, 2 ..; what is held lies in three tables (ints, longs, references by place), by place and slot; a shape list says what a place is: (class, fields) or (50 int[], 51 long[], 52 byte[], 53 boolean[], 54 references; length). The places 0 .. 3 are arrays that nobody writes (three static ones, the script). Instructions are carried by Instr, with operands of my own. ===== -/
abbrev am_H : Type := List (Nat × Nat) × (Nat → Nat → Int32) × (Nat → Nat → Int64) × (Nat → Nat → Option Nat)
def am_u {α : Type} (f : Nat → Nat → α) (p k : Nat) (v : α) : Nat → Nat → α := va_up f p (va_up (f p) k v)
def am_sl (sh : List (Nat × Nat)) : Nat := (sh.map (fun q => q.2)).sum
/-- a local's store: a long ahead of it is broken -/
def am_k (ls : List (Option Value)) (i : Nat) : List (Option Value) := match i with
  | 0 => ls
  | j + 1 => match ls[j]? with
    | some (some v) => if v.category = 2 then ls.set j none else ls
    | _ => ls
def am_set1 (ls : List (Option Value)) (i : Nat) (v : Value) : List (Option Value) := (am_k ls i).set i (some v)
def am_set2 (ls : List (Option Value)) (i : Nat) (v : Value) : List (Option Value) := ((am_k ls i).set i (some v)).set (i + 1) none
def am_slots : List Value → List (Option Value)
  | [] => []
  | v :: l => if v.category = 2 then some v :: none :: am_slots l else some v :: am_slots l
def am_ent (as : List Value) (n : Nat) : List (Option Value) := am_slots as ++ List.replicate (n - (am_slots as).length) none
def am_nth : List Instr → Nat → Instr
  | [], _ => .nop
  | a :: _, 0 => a
  | _ :: l, k + 1 => am_nth l k
def am_cat (st : List Value) : Nat := (st.map fun v => v.category).sum
/-- a switch's target -/
def am_sw (d : Int) (x : Int32) : List (Int × Int) → Int
  | [] => d
  | (a, t) :: l => if x = Int32.ofInt a then t else am_sw d x l
def am_cond (c : Jvm.ClassFile.Cond) (x y : Int32) : Prop := match c with
  | .eq => x = y
  | .ne => ¬ x = y
  | .lt => x < y
  | .ge => y ≤ x
  | .gt => y < x
  | .le => x ≤ y
abbrev am_X : Type := Nat → List (Option Value) → List Value → am_H → Prop
abbrev am_Q : Type := Option Value → am_H → Prop
abbrev am_C : Type := Nat → List Value → am_H → am_Q → Prop
/-- the receiver's class (99: none), how many arguments (the receiver with them) -/
def am_step (rc na : Nat → Nat) (C : am_C) (Z : am_Q) (X : am_X) (k : Nat) (ls : List (Option Value)) (st : List Value) (h : am_H) : Instr → Prop
  | .iconst n => X (k + 1) ls (.int (Int32.ofInt n) :: st) h
  | .goto_w n => X (k + 1) ls (.long (Int64.ofInt n) :: st) h
  | .aconst_null => X (k + 1) ls (.null :: st) h
  | .iload j => ∃ x, ls[j]? = some (some (.int x)) ∧ X (k + 1) ls (.int x :: st) h
  | .lload j => ∃ x, ls[j]? = some (some (.long x)) ∧ X (k + 1) ls (.long x :: st) h
  | .aload j => (∃ x, ls[j]? = some (some (.ref x)) ∧ X (k + 1) ls (.ref x :: st) h) ∨ (ls[j]? = some (some .null) ∧ X (k + 1) ls (.null :: st) h)
  | .istore j => ∃ x st', st = .int x :: st' ∧ X (k + 1) (am_set1 ls j (.int x)) st' h
  | .lstore j => ∃ x st', st = .long x :: st' ∧ X (k + 1) (am_set2 ls j (.long x)) st' h
  | .astore j => ∃ x st', st = .ref x :: st' ∧ X (k + 1) (am_set1 ls j (.ref x)) st' h
  | .iinc j n => ∃ x, ls[j]? = some (some (.int x)) ∧ X (k + 1) (am_set1 ls j (.int (x + Int32.ofInt n))) st h
  | .iadd => ∃ x y st', st = .int y :: .int x :: st' ∧ X (k + 1) ls (.int (x + y) :: st') h
  | .isub => ∃ x y st', st = .int y :: .int x :: st' ∧ X (k + 1) ls (.int (x - y) :: st') h
  | .imul => ∃ x y st', st = .int y :: .int x :: st' ∧ X (k + 1) ls (.int (x * y) :: st') h
  | .idiv => ∃ x y st', st = .int y :: .int x :: st' ∧ ¬ y = 0 ∧ X (k + 1) ls (.int (x / y) :: st') h
  | .irem => ∃ x y st', st = .int y :: .int x :: st' ∧ ¬ y = 0 ∧ X (k + 1) ls (.int (x - x / y * y) :: st') h
  | .iand => ∃ x y st', st = .int y :: .int x :: st' ∧ X (k + 1) ls (.int (x &&& y) :: st') h
  | .ior => ∃ x y st', st = .int y :: .int x :: st' ∧ X (k + 1) ls (.int (x ||| y) :: st') h
  | .ixor => ∃ x y st', st = .int y :: .int x :: st' ∧ X (k + 1) ls (.int (x ^^^ y) :: st') h
  | .ishl => ∃ x y st', st = .int y :: .int x :: st' ∧ X (k + 1) ls (.int (x <<< (y &&& 31)) :: st') h
  | .ishr => ∃ x y st', st = .int y :: .int x :: st' ∧ X (k + 1) ls (.int (x >>> (y &&& 31)) :: st') h
  | .iushr => ∃ x y st', st = .int y :: .int x :: st' ∧ X (k + 1) ls (.int (x.toUInt32 >>> (y.toUInt32 &&& Int32.toUInt32 31)).toInt32 :: st') h
  | .ladd => ∃ x y st', st = .long y :: .long x :: st' ∧ X (k + 1) ls (.long (x + y) :: st') h
  | .lsub => ∃ x y st', st = .long y :: .long x :: st' ∧ X (k + 1) ls (.long (x - y) :: st') h
  | .lmul => ∃ x y st', st = .long y :: .long x :: st' ∧ X (k + 1) ls (.long (x * y) :: st') h
  | .ldiv => ∃ x y st', st = .long y :: .long x :: st' ∧ ¬ y = 0 ∧ X (k + 1) ls (.long (x / y) :: st') h
  | .land => ∃ x y st', st = .long y :: .long x :: st' ∧ X (k + 1) ls (.long (x &&& y) :: st') h
  | .lor => ∃ x y st', st = .long y :: .long x :: st' ∧ X (k + 1) ls (.long (x ||| y) :: st') h
  | .lshl => ∃ x y st', st = .int y :: .long x :: st' ∧ X (k + 1) ls (.long (x <<< (y.toInt64 &&& 63)) :: st') h
  | .lshr => ∃ x y st', st = .int y :: .long x :: st' ∧ X (k + 1) ls (.long (x >>> (y.toInt64 &&& 63)) :: st') h
  | .lushr => ∃ x y st', st = .int y :: .long x :: st' ∧ X (k + 1) ls (.long (x.toUInt64 >>> (y.toInt64.toUInt64 &&& Int64.toUInt64 63)).toInt64 :: st') h
  | .lcmp => ∃ x y st', st = .long y :: .long x :: st' ∧ X (k + 1) ls (.int (lg_cmp x y) :: st') h
  | .i2l => ∃ x st', st = .int x :: st' ∧ X (k + 1) ls (.long x.toInt64 :: st') h
  | .i2b => ∃ x st', st = .int x :: st' ∧ X (k + 1) ls (.int x.toInt8.toInt32 :: st') h
  | .l2i => ∃ x st', st = .long x :: st' ∧ X (k + 1) ls (.int x.toInt32 :: st') h
  | .dup => ∃ v st', st = v :: st' ∧ v.category = 1 ∧ X (k + 1) ls (v :: v :: st') h
  | .dup2 => ∃ v w st', st = v :: w :: st' ∧ v.category = 1 ∧ w.category = 1 ∧ X (k + 1) ls (v :: w :: v :: w :: st') h
  | .pop => ∃ v st', st = v :: st' ∧ v.category = 1 ∧ X (k + 1) ls st' h
  | .goto t => X t.toNat ls st h
  | .ifCond c t => ∃ x st', st = .int x :: st' ∧ (am_cond c x 0 → X t.toNat ls st' h) ∧ (¬ am_cond c x 0 → X (k + 1) ls st' h)
  | .if_icmp c t => ∃ x y st', st = .int y :: .int x :: st' ∧ (am_cond c x y → X t.toNat ls st' h) ∧ (¬ am_cond c x y → X (k + 1) ls st' h)
  | .ifnull t => (∃ x st', st = .ref x :: st' ∧ X (k + 1) ls st' h) ∨ ∃ st', st = .null :: st' ∧ X t.toNat ls st' h
  | .ifnonnull t => (∃ x st', st = .ref x :: st' ∧ X t.toNat ls st' h) ∨ ∃ st', st = .null :: st' ∧ X (k + 1) ls st' h
  | .lookupswitch d ps => ∃ x st', st = .int x :: st' ∧ X (am_sw d x ps.toList).toNat ls st' h
  -- fields: 100 * class + slot; ints (booleans too), longs, references
  | .getfield q => ∃ p n st', st = .ref p :: st' ∧ h.1[p]? = some (q / 100, n) ∧ X (k + 1) ls (.int (h.2.1 p (q % 100)) :: st') h
  | .fload q => ∃ p n st', st = .ref p :: st' ∧ h.1[p]? = some (q / 100, n) ∧ X (k + 1) ls (.long (h.2.2.1 p (q % 100)) :: st') h
  | .dload q => ∃ p n st', st = .ref p :: st' ∧ h.1[p]? = some (q / 100, n) ∧ X (k + 1) ls (va_rf (h.2.2.2 p (q % 100)) :: st') h
  | .putfield q => ∃ p n x st', st = .int x :: .ref p :: st' ∧ h.1[p]? = some (q / 100, n) ∧ X (k + 1) ls st' (h.1, am_u h.2.1 p (q % 100) x, h.2.2)
  | .putstatic q => ∃ p n x st', st = .int x :: .ref p :: st' ∧ (x = 0 ∨ x = 1) ∧ h.1[p]? = some (q / 100, n) ∧ X (k + 1) ls st' (h.1, am_u h.2.1 p (q % 100) x, h.2.2)
  | .fstore q => ∃ p n x st', st = .long x :: .ref p :: st' ∧ h.1[p]? = some (q / 100, n) ∧ X (k + 1) ls st' (h.1, h.2.1, am_u h.2.2.1 p (q % 100) x, h.2.2.2)
  | .dstore q => ∃ p n r st', st = va_rf r :: .ref p :: st' ∧ h.1[p]? = some (q / 100, n) ∧ X (k + 1) ls st' (h.1, h.2.1, h.2.2.1, am_u h.2.2.2 p (q % 100) r)
  | .iaload => ∃ p n i st', st = .int i :: .ref p :: st' ∧ h.1[p]? = some (50, n) ∧ vp_in i n ∧ X (k + 1) ls (.int (h.2.1 p i.toNatClampNeg) :: st') h
  | .baload => ∃ p n i st', st = .int i :: .ref p :: st' ∧ h.1[p]? = some (52, n) ∧ vp_in i n ∧ X (k + 1) ls (.int (h.2.1 p i.toNatClampNeg) :: st') h
  | .caload => ∃ p n i st', st = .int i :: .ref p :: st' ∧ h.1[p]? = some (53, n) ∧ vp_in i n ∧ X (k + 1) ls (.int (h.2.1 p i.toNatClampNeg) :: st') h
  | .laload => ∃ p n i st', st = .int i :: .ref p :: st' ∧ h.1[p]? = some (51, n) ∧ vp_in i n ∧ X (k + 1) ls (.long (h.2.2.1 p i.toNatClampNeg) :: st') h
  | .aaload => ∃ p n i st', st = .int i :: .ref p :: st' ∧ h.1[p]? = some (54, n) ∧ vp_in i n ∧ X (k + 1) ls (va_rf (h.2.2.2 p i.toNatClampNeg) :: st') h
  | .iastore => ∃ p n i x st', st = .int x :: .int i :: .ref p :: st' ∧ 4 ≤ p ∧ h.1[p]? = some (50, n) ∧ vp_in i n ∧ X (k + 1) ls st' (h.1, am_u h.2.1 p i.toNatClampNeg x, h.2.2)
  | .bastore => ∃ p n i x st', st = .int x :: .int i :: .ref p :: st' ∧ h.1[p]? = some (52, n) ∧ vp_in i n ∧ X (k + 1) ls st' (h.1, am_u h.2.1 p i.toNatClampNeg (vp_nar .byte x), h.2.2)
  | .castore => ∃ p n i x st', st = .int x :: .int i :: .ref p :: st' ∧ h.1[p]? = some (53, n) ∧ vp_in i n ∧ X (k + 1) ls st' (h.1, am_u h.2.1 p i.toNatClampNeg (vp_nar .boolean x), h.2.2)
  | .lastore => ∃ p n i x st', st = .long x :: .int i :: .ref p :: st' ∧ h.1[p]? = some (51, n) ∧ vp_in i n ∧ X (k + 1) ls st' (h.1, h.2.1, am_u h.2.2.1 p i.toNatClampNeg x, h.2.2.2)
  | .aastore => ∃ p n i r m st', st = .ref r :: .int i :: .ref p :: st' ∧ h.1[p]? = some (54, n) ∧ h.1[r]? = some (0, m) ∧ vp_in i n ∧ X (k + 1) ls st' (h.1, h.2.1, h.2.2.1, am_u h.2.2.2 p i.toNatClampNeg (some r))
  | .arraylength => ∃ p t n st', st = .ref p :: st' ∧ h.1[p]? = some (t, n) ∧ 50 ≤ t ∧ t ≤ 54 ∧ X (k + 1) ls (.int (Int32.ofNat n) :: st') h
  | .getstatic j => X (k + 1) ls (.ref j :: st) h
  -- new cells: 100 * class + fields
  | .new q => X (k + 1) ls (.ref h.1.length :: st) (h.1 ++ [(q / 100, q % 100)], va_up h.2.1 h.1.length (fun _ => 0), va_up h.2.2.1 h.1.length (fun _ => 0), va_up h.2.2.2 h.1.length (fun _ => none))
  | .anewarray t => ∃ i st', st = .int i :: st' ∧ ¬ i < 0 ∧ i.toNatClampNeg ≤ 1000000 ∧ X (k + 1) ls (.ref h.1.length :: st') (h.1 ++ [(t, i.toNatClampNeg)], va_up h.2.1 h.1.length (fun _ => 0), va_up h.2.2.1 h.1.length (fun _ => 0), va_up h.2.2.2 h.1.length (fun _ => none))
  -- calls
  | .invokevirtual q => ∃ as p n st', st = as.reverse ++ .ref p :: st' ∧ as.length + 1 = na q ∧ am_cat st' ≤ 8 ∧ h.1[p]? = some (rc q, n) ∧ C q (.ref p :: as) h (fun r h' => X (k + 1) ls (r.toList ++ st') h')
  | .invokestatic q => ∃ as st', st = as.reverse ++ st' ∧ as.length = na q ∧ am_cat st' ≤ 8 ∧ C q as h (fun r h' => X (k + 1) ls (r.toList ++ st') h')
  | .invokespecial q => ∃ as p n st', st = as.reverse ++ .ref p :: st' ∧ as.length + 1 = na q ∧ am_cat st' ≤ 8 ∧ h.1[p]? = some (rc q, n) ∧ C q (.ref p :: as) h (fun r h' => X (k + 1) ls (r.toList ++ st') h')
  | .monitorexit => ∃ p st', st = .ref p :: st' ∧ am_cat st' ≤ 8 ∧ X (k + 1) ls st' h
  | .invokeinterface 0 _ => ∃ x y st', st = .int y :: .int x :: st' ∧ am_cat st' ≤ 8 ∧ X (k + 1) ls (.int (if x < y then y else x) :: st') h
  | .invokeinterface 1 _ => ∃ x y st', st = .int y :: .int x :: st' ∧ am_cat st' ≤ 8 ∧ X (k + 1) ls (.int (if y < x then y else x) :: st') h
  | .invokeinterface 2 _ => ∃ x y st', st = .long y :: .long x :: st' ∧ am_cat st' ≤ 8 ∧ X (k + 1) ls (.long (if y < x then x else y) :: st') h
  | .invokeinterface 3 _ => ∃ x y st', st = .long y :: .long x :: st' ∧ am_cat st' ≤ 8 ∧ X (k + 1) ls (.long (if y < x then y else x) :: st') h
  -- System.arraycopy, of bytes, of ints out of one of the places 0 .. 3
  | .invokedynamic 0 => ∃ a b n0 n1 sp dp n st', st = .int n :: .int dp :: .ref b :: .int sp :: .ref a :: st' ∧ am_cat st' ≤ 8 ∧ h.1[a]? = some (52, n0) ∧ h.1[b]? = some (52, n1) ∧ ¬ sp < 0 ∧ ¬ dp < 0 ∧ ¬ n < 0 ∧ sp.toNatClampNeg + n.toNatClampNeg ≤ n0 ∧ dp.toNatClampNeg + n.toNatClampNeg ≤ n1 ∧ (∀ i, i < n.toNatClampNeg → fits .byte (.int (h.2.1 a (sp.toNatClampNeg + i))) = true) ∧ X (k + 1) ls st' (h.1, va_up h.2.1 b (va_cpy (h.2.1 a) (h.2.1 b) sp.toNatClampNeg dp.toNatClampNeg n.toNatClampNeg), h.2.2)
  | .invokedynamic 1 => ∃ a b n0 n1 sp dp n st', st = .int n :: .int dp :: .ref b :: .int sp :: .ref a :: st' ∧ am_cat st' ≤ 8 ∧ a < 4 ∧ 4 ≤ b ∧ h.1[a]? = some (50, n0) ∧ h.1[b]? = some (50, n1) ∧ ¬ sp < 0 ∧ ¬ dp < 0 ∧ ¬ n < 0 ∧ sp.toNatClampNeg + n.toNatClampNeg ≤ n0 ∧ dp.toNatClampNeg + n.toNatClampNeg ≤ n1 ∧ X (k + 1) ls st' (h.1, va_up h.2.1 b (va_cpy (h.2.1 a) (h.2.1 b) sp.toNatClampNeg dp.toNatClampNeg n.toNatClampNeg), h.2.2)
  | .ireturn => ∃ x, st = [.int x] ∧ Z (some (.int x)) h
  | .lreturn => ∃ x, st = [.long x] ∧ Z (some (.long x)) h
  | .areturn => ∃ r, st = [va_rf r] ∧ Z (some (va_rf r)) h
  | .return_ => st = [] ∧ Z none h
  | _ => False
/-- from here the method comes to its end, with Z: the least such -/
def am_WP (rc na : Nat → Nat) (cs : List Instr) (C : am_C) (Z : am_Q) (k : Nat) (ls : List (Option Value)) (st : List Value) (h : am_H) : Prop :=
  ∀ X : am_X, (∀ k ls st h, am_step rc na C Z X k ls st h (am_nth cs k) → X k ls st h) → X k ls st h
end
section
/-! ===== my tables of the classes: kinds of fields (0 int, 1 long, 2 reference, 3 boolean), the statics ===== -/
def am_cl : List vw_C := [(RX0, TX0, 16), (RX1, TX1, 2), (RX2, TX2, 3), (RX3, TX3, 10), (RX4, TX4, 2), (RX5, TX5, 7), (RX6, TX6, 2), (RX7, TX7, 4), (RX8, TX8, 15), (RX9, TX9, 2), (RX10, TX10, 6), (RX11, TX11, 8), (RX12, TX12, 68)]
def am_fk : List (List Nat) := [[3, 0, 0, 0, 0, 1, 1, 0, 2, 2, 0, 2, 2, 2, 2, 0], [2, 1], [2, 2, 0], [2, 2, 2, 2, 2, 3, 0, 0, 0, 0], [2, 2], [2, 2, 2, 3, 0, 0, 0], [2, 0], [2, 2, 2, 2], [2, 2, 2, 2, 2, 2, 2, 2, 2, 2, 0, 0, 0, 2, 0], [2, 2], [2, 2, 0, 1, 1, 0], [2, 2, 2, 2, 2, 2, 2, 2], [0, 2, 2, 2, 2, 2, 0, 1, 2, 2, 2, 2, 2, 2, 2, 0, 2, 0, 3, 0, 0, 0, 2, 0, 2, 2, 0, 2, 0, 1, 0, 2, 2, 0, 1, 2, 2, 2, 2, 2, 2, 2, 2, 2, 2, 2, 2, 2, 2, 2, 2, 2, 2, 0, 0, 0, 0, 2, 0, 0, 0, 0, 0, 0, 0, 0, 0, 0]]
def am_sf : Nat → String × String := fun j => match j with
  | 0 => ("RelayHouse$Sha", "FIRST")
  | 1 => ("RelayHouse$Sha", "ROUNDS")
  | _ => ("RelayHouse$Pen", "NIBBLES")
end
section
/-! ===== the small machine and the great one: what a place is there ===== -/
def am_vv (ad : Nat → Nat) (v : Value) : Value := match v with
  | .ref a => .ref (ad a)
  | v => v
theorem am_vv_cat (ad : Nat → Nat) (v : Value) : (am_vv ad v).category = v.category := by cases v <;> rfl
theorem am_cat_map (ad : Nat → Nat) (st : List Value) : ((st.map (am_vv ad)).map fun v => v.category).sum = am_cat st := by
  unfold am_cat
  rw [List.map_map]
  congr 1
  apply List.map_congr_left
  intro v _
  exact am_vv_cat ad v
theorem am_vv_rf (ad : Nat → Nat) (r : Option Nat) : am_vv ad (va_rf r) = va_rf (r.map ad) := by cases r <;> rfl
def am_fv (ad : Nat → Nat) (h : am_H) (p t j : Nat) : Value := match (am_fk.getD t []).getD j 0 with
  | 1 => .long (h.2.2.1 p j)
  | 2 => va_rf ((h.2.2.2 p j).map ad)
  | _ => .int (h.2.1 p j)
def am_el (ad : Nat → Nat) (cA : Nat → ClassId) (h : am_H) (p : Nat) : va_E := match h.1[p]? with
  | none => .inr (0, [])
  | some (t, n) =>
    if t < 50 then .inr (t, (List.range n).map (am_fv ad h p t))
    else if t = 51 then .inl (cA 51, n, .inr (.inl (h.2.2.1 p)))
    else if t = 54 then .inl (cA 54, n, .inr (.inr (.inr (.inr (fun i => (h.2.2.2 p i).map ad)))))
    else .inl (cA t, n, .inl (h.2.1 p))
def am_ws (ad : Nat → Nat) (cA : Nat → ClassId) (h : am_H) : va_W := (List.range (h.1.length - 4)).map (fun j => (ad (j + 4), am_el ad cA h (j + 4)))
theorem am_ws_at {ad : Nat → Nat} {cA : Nat → ClassId} {h : am_H} {p : Nat} (h4 : 4 ≤ p) (hp : p < h.1.length) : (am_ws ad cA h)[p - 4]? = some (ad p, am_el ad cA h p) := by
  unfold am_ws
  rw [List.getElem?_map, List.getElem?_range (by omega)]
  have : p - 4 + 4 = p := by omega
  simp [this]
theorem am_ws_set {ad : Nat → Nat} {cA : Nat → ClassId} {h h' : am_H} {p : Nat} {e : va_E} (h4 : 4 ≤ p) (hp : p < h.1.length) (hl : h'.1 = h.1) (he : am_el ad cA h' p = e) (ho : ∀ q, q ≠ p → am_el ad cA h' q = am_el ad cA h q) :
    (am_ws ad cA h).set (p - 4) (ad p, e) = am_ws ad cA h' := by
  unfold am_ws
  apply List.ext_getElem?
  intro i
  rw [List.getElem?_set]
  by_cases hi : p - 4 = i
  · subst hi
    have h1 : p - 4 + 4 = p := by omega
    have h2 : p - 4 < h.1.length - 4 := by omega
    rw [if_pos rfl, if_pos (by simp; omega), List.getElem?_map, hl, List.getElem?_range h2]
    simp [h1, he]
  · rw [if_neg hi, List.getElem?_map, List.getElem?_map, hl]
    by_cases hlt : i < h.1.length - 4
    · rw [List.getElem?_range hlt]
      simp [ho (i + 4) (by omega)]
    · rw [List.getElem?_eq_none (by simp; omega)]
      rfl
theorem am_ws_push {ad : Nat → Nat} {cA : Nat → ClassId} {h h' : am_H} {e : va_E} {q : Nat × Nat} (h4 : 4 ≤ h.1.length) (hl : h'.1 = h.1 ++ [q]) (he : am_el ad cA h' h.1.length = e) (ho : ∀ j, j < h.1.length → am_el ad cA h' j = am_el ad cA h j) :
    am_ws ad cA h ++ [(ad h.1.length, e)] = am_ws ad cA h' := by
  unfold am_ws
  have e1 : h'.1.length - 4 = (h.1.length - 4) + 1 := by rw [hl]; simp; omega
  rw [e1, List.range_succ, List.map_append]
  congr 1
  · apply List.map_congr_left
    intro j hj
    rw [List.mem_range] at hj
    rw [ho (j + 4) (by omega)]
  · have h1 : h.1.length - 4 + 4 = h.1.length := by omega
    simp [h1, he]
def am_tys (cA : Nat → ClassId) : List (ClassId × FieldType) := [(cA 50, .int), (cA 51, .long), (cA 52, .byte), (cA 53, .boolean), (cA 54, .object RX0)]
/-- the heap holds what the small machine's tables hold -/
def am_rel (D : va_G) (ad : Nat → Nat) (cA : Nat → ClassId) (base : Nat) (L0 : Nat → Nat) (X0 : Nat → Nat → Int32) (h : am_H) (H : Heap) : Prop :=
  va_P D am_cl (am_ws ad cA h) H ∧ va_D (fun q => base ≤ q) (am_ws ad cA h) ∧ 4 ≤ h.1.length ∧ (∀ j : Nat, j < 4 → h.1[j]? = some (50, L0 j) ∧ h.2.1 j = X0 j) ∧ (∀ (p : Nat) (q : Nat × Nat), h.1[p]? = some q → q.1 < 50 → ∃ Cn T, am_cl[q.1]? = some (Cn, T, q.2))
def am_loc (ad : Nat → Nat) (ls : List (Option Value)) (nL : Nat) (lr : Array Slot) : Prop := lr.size = nL ∧ lv_wf lr ∧ ls.length = nL ∧ ∀ (j : Nat) (v : Value), ls[j]? = some (some v) → lr[j]? = some (.val (am_vv ad v))
/-- no reference but to a place that is there -/
def am_okv (n : Nat) (v : Value) : Prop := match v with
  | .ref a => a < n
  | _ => True
def am_wf (ls : List (Option Value)) (st : List Value) (h : am_H) : Prop := (∀ v, some v ∈ ls → am_okv h.1.length v) ∧ (∀ v ∈ st, am_okv h.1.length v) ∧ (∀ p k q, h.2.2.2 p k = some q → q < h.1.length)
theorem am_vv_to {ad ad' : Nat → Nat} {n : Nat} {v : Value} (hv : am_okv n v) (ha : ∀ j, j < n → ad' j = ad j) : am_vv ad' v = am_vv ad v := by
  cases v <;> first | rfl | exact congrArg Value.ref (ha _ hv)
theorem am_okv_le {n n' : Nat} {v : Value} (hv : am_okv n v) (hn : n ≤ n') : am_okv n' v := by
  cases v <;> first | trivial | exact Nat.lt_of_lt_of_le hv hn
/-- what is the same all along: the machine, the method's code, the tables' words, the array classes, the arrays that nobody writes -/
def am_env (D : va_G) (a0 : Nat → Nat) (cA : Nat → ClassId) (base : Nat) (L0 : Nat → Nat) (X0 : Nat → Nat → Int32) (U : State) : Prop :=
  va_K D am_cl (am_tys cA) U ∧ (∀ j, j < 4 → va_X (a0 j) (L0 j) (X0 j) U U.heap ∧ a0 j < base) ∧ base ≤ U.heap.size ∧
  (∀ j, j < 3 → va_Z (am_sf j).1 (am_sf j).2 "[I" (.ref (a0 j)) (fun q => base ≤ q) U U.heap) ∧
  (∀ j, j < 5 → U.vm.findClass ("[" ++ (((am_tys cA).getD j (0, .int)).2).toString) = some ((am_tys cA).getD j (0, .int)).1)
def am_F (p : Program) (s : State) (m : MethodId) (args : Array Value) (c : Code) (cc : ByteArray) (nL : Nat) (own : String) (Ts : List Cond) (D : va_G) (a0 : Nat → Nat) (cA : Nat → ClassId) (base : Nat) (L0 : Nat → Nat) (X0 : Nat → Nat → Int32) : Prop :=
  p.tables.exec = Jvm.exec ∧ c.code = cc ∧ c.maxLocals = nL ∧ s.vm.findClass own = some m.cls ∧ (∀ w ∈ Ts, w.before args s = true) ∧ (∀ w ∈ lw_tbl, w ∈ Ts) ∧ am_env D a0 cA base L0 X0 s
/-- at an instruction of a method: any heap that holds the tables, any locals that hold what is known: the great machine comes to Qm -/
def am_J (p : Program) (l : Launch) (e : Env) (R : Room) (s : State) (m : MethodId) (args : Array Value) (below : List Frame) (meth : Method) (c : Code) (Qm : State → Prop) (nL : Nat) (D : va_G) (a0 : Nat → Nat) (cA : Nat → ClassId) (base : Nat) (L0 : Nat → Nat) (X0 : Nat → Nat → Int32) (n0 z0 : Nat) (pcs : Nat → Nat) : am_X :=
  fun k ls st h => ∀ (ad : Nat → Nat) (H : Heap) (locs : List Loc) (lr : Array Slot) (cells slots : Nat), (∀ j, j < n0 → ad j = a0 j) → am_wf ls st h → am_rel D ad cA base L0 X0 h H → va_S (fun q => base ≤ q) s.heap H locs → am_loc ad ls nL lr → cells + n0 = h.1.length → slots + z0 = am_sl h.1 →
    W p l e R s m args below meth c H locs cells slots Qm (F0 m (pcs k) lr (st.map (am_vv ad)))
theorem am_lt {α : Type} {l : List α} {p : Nat} {q : α} (h : l[p]? = some q) : p < l.length := (List.getElem?_eq_some_iff.mp h).1
theorem am_el_obj {ad : Nat → Nat} {cA : Nat → ClassId} {h : am_H} {p t n : Nat} (hp : h.1[p]? = some (t, n)) (ht : t < 50) : am_el ad cA h p = .inr (t, (List.range n).map (am_fv ad h p t)) := by
  unfold am_el
  rw [hp]
  simp [ht]
theorem am_el_arr {ad : Nat → Nat} {cA : Nat → ClassId} {h : am_H} {p t n : Nat} (hp : h.1[p]? = some (t, n)) (ht : ¬ t < 50) (h1 : ¬ t = 51) (h2 : ¬ t = 54) : am_el ad cA h p = .inl (cA t, n, .inl (h.2.1 p)) := by
  unfold am_el
  rw [hp]
  simp [ht, h1, h2]
theorem am_el_51 {ad : Nat → Nat} {cA : Nat → ClassId} {h : am_H} {p n : Nat} (hp : h.1[p]? = some (51, n)) : am_el ad cA h p = .inl (cA 51, n, .inr (.inl (h.2.2.1 p))) := by
  unfold am_el
  rw [hp]
  simp
theorem am_el_54 {ad : Nat → Nat} {cA : Nat → ClassId} {h : am_H} {p n : Nat} (hp : h.1[p]? = some (54, n)) : am_el ad cA h p = .inl (cA 54, n, .inr (.inr (.inr (.inr (fun i => (h.2.2.2 p i).map ad))))) := by
  unfold am_el
  rw [hp]
  simp
end
section
section AMB
variable {p : Program} {l : Launch} {e : Env} {R : Room} {s : State} {m : MethodId} {args : Array Value} {below : List Frame} {meth : Method} {c : Code} {Qm : State → Prop} {cc : ByteArray} {nL : Nat} {own : String} {Ts : List Cond} {D : va_G} {a0 : Nat → Nat} {cA : Nat → ClassId} {base : Nat} {L0 : Nat → Nat} {X0 : Nat → Nat → Int32} {n0 z0 : Nat} {pcs : Nat → Nat} {rc na : Nat → Nat} {C : am_C} {Z : am_Q} {k : Nat} {ls : List (Option Value)} {st : List Value} {h : am_H}
theorem am_wfl {ls : List (Option Value)} {st : List Value} {h : am_H} {j : Nat} {v : Value} (hw : am_wf ls st h) (hj : ls[j]? = some (some v)) : am_wf ls (v :: st) h := by
  refine ⟨hw.1, fun w hm => ?_, hw.2.2⟩
  rcases List.mem_cons.mp hm with rfl | hm
  · exact hw.1 w (List.mem_of_getElem? hj)
  · exact hw.2.1 w hm
theorem am_wfs {ls : List (Option Value)} {st st2 : List Value} {h : am_H} (hw : am_wf ls st h) (hm : ∀ v ∈ st2, v ∈ st) : am_wf ls st2 h := ⟨hw.1, fun w q => hw.2.1 w (hm w q), hw.2.2⟩
theorem aj_iadd (F : am_F p s m args c cc nL own Ts D a0 cA base L0 X0) (hd : decode cc (pcs k) = .ok (.iadd, 1)) (hn : pcs (k + 1) = pcs k + 1) (hs : am_step rc na C Z (am_J p l e R s m args below meth c Qm nL D a0 cA base L0 X0 n0 z0 pcs) k ls st h (.iadd)) : (am_J p l e R s m args below meth c Qm nL D a0 cA base L0 X0 n0 z0 pcs) k ls st h := by
  obtain ⟨x, y, st1, rfl, hX⟩ := hs
  intro ad H locs lr cells slots hag hwf hR hS hL hc hz
  have hw := hX ad H locs lr cells slots hag ⟨hwf.1, by simpa [am_okv] using hwf.2.1, hwf.2.2⟩ hR hS hL hc hz
  rw [hn] at hw
  exact lv_iadd F.1 F.2.1 hd hw
theorem aj_isub (F : am_F p s m args c cc nL own Ts D a0 cA base L0 X0) (hd : decode cc (pcs k) = .ok (.isub, 1)) (hn : pcs (k + 1) = pcs k + 1) (hs : am_step rc na C Z (am_J p l e R s m args below meth c Qm nL D a0 cA base L0 X0 n0 z0 pcs) k ls st h (.isub)) : (am_J p l e R s m args below meth c Qm nL D a0 cA base L0 X0 n0 z0 pcs) k ls st h := by
  obtain ⟨x, y, st1, rfl, hX⟩ := hs
  intro ad H locs lr cells slots hag hwf hR hS hL hc hz
  have hw := hX ad H locs lr cells slots hag ⟨hwf.1, by simpa [am_okv] using hwf.2.1, hwf.2.2⟩ hR hS hL hc hz
  rw [hn] at hw
  exact lv_isub F.1 F.2.1 hd hw
theorem aj_imul (F : am_F p s m args c cc nL own Ts D a0 cA base L0 X0) (hd : decode cc (pcs k) = .ok (.imul, 1)) (hn : pcs (k + 1) = pcs k + 1) (hs : am_step rc na C Z (am_J p l e R s m args below meth c Qm nL D a0 cA base L0 X0 n0 z0 pcs) k ls st h (.imul)) : (am_J p l e R s m args below meth c Qm nL D a0 cA base L0 X0 n0 z0 pcs) k ls st h := by
  obtain ⟨x, y, st1, rfl, hX⟩ := hs
  intro ad H locs lr cells slots hag hwf hR hS hL hc hz
  have hw := hX ad H locs lr cells slots hag ⟨hwf.1, by simpa [am_okv] using hwf.2.1, hwf.2.2⟩ hR hS hL hc hz
  rw [hn] at hw
  exact lv_imul F.1 F.2.1 hd hw
theorem aj_iand (F : am_F p s m args c cc nL own Ts D a0 cA base L0 X0) (hd : decode cc (pcs k) = .ok (.iand, 1)) (hn : pcs (k + 1) = pcs k + 1) (hs : am_step rc na C Z (am_J p l e R s m args below meth c Qm nL D a0 cA base L0 X0 n0 z0 pcs) k ls st h (.iand)) : (am_J p l e R s m args below meth c Qm nL D a0 cA base L0 X0 n0 z0 pcs) k ls st h := by
  obtain ⟨x, y, st1, rfl, hX⟩ := hs
  intro ad H locs lr cells slots hag hwf hR hS hL hc hz
  have hw := hX ad H locs lr cells slots hag ⟨hwf.1, by simpa [am_okv] using hwf.2.1, hwf.2.2⟩ hR hS hL hc hz
  rw [hn] at hw
  exact lv_iand F.1 F.2.1 hd hw
theorem aj_ior (F : am_F p s m args c cc nL own Ts D a0 cA base L0 X0) (hd : decode cc (pcs k) = .ok (.ior, 1)) (hn : pcs (k + 1) = pcs k + 1) (hs : am_step rc na C Z (am_J p l e R s m args below meth c Qm nL D a0 cA base L0 X0 n0 z0 pcs) k ls st h (.ior)) : (am_J p l e R s m args below meth c Qm nL D a0 cA base L0 X0 n0 z0 pcs) k ls st h := by
  obtain ⟨x, y, st1, rfl, hX⟩ := hs
  intro ad H locs lr cells slots hag hwf hR hS hL hc hz
  have hw := hX ad H locs lr cells slots hag ⟨hwf.1, by simpa [am_okv] using hwf.2.1, hwf.2.2⟩ hR hS hL hc hz
  rw [hn] at hw
  exact lv_ior F.1 F.2.1 hd hw
theorem aj_ixor (F : am_F p s m args c cc nL own Ts D a0 cA base L0 X0) (hd : decode cc (pcs k) = .ok (.ixor, 1)) (hn : pcs (k + 1) = pcs k + 1) (hs : am_step rc na C Z (am_J p l e R s m args below meth c Qm nL D a0 cA base L0 X0 n0 z0 pcs) k ls st h (.ixor)) : (am_J p l e R s m args below meth c Qm nL D a0 cA base L0 X0 n0 z0 pcs) k ls st h := by
  obtain ⟨x, y, st1, rfl, hX⟩ := hs
  intro ad H locs lr cells slots hag hwf hR hS hL hc hz
  have hw := hX ad H locs lr cells slots hag ⟨hwf.1, by simpa [am_okv] using hwf.2.1, hwf.2.2⟩ hR hS hL hc hz
  rw [hn] at hw
  exact lv_ixor F.1 F.2.1 hd hw
theorem aj_ishl (F : am_F p s m args c cc nL own Ts D a0 cA base L0 X0) (hd : decode cc (pcs k) = .ok (.ishl, 1)) (hn : pcs (k + 1) = pcs k + 1) (hs : am_step rc na C Z (am_J p l e R s m args below meth c Qm nL D a0 cA base L0 X0 n0 z0 pcs) k ls st h (.ishl)) : (am_J p l e R s m args below meth c Qm nL D a0 cA base L0 X0 n0 z0 pcs) k ls st h := by
  obtain ⟨x, y, st1, rfl, hX⟩ := hs
  intro ad H locs lr cells slots hag hwf hR hS hL hc hz
  have hw := hX ad H locs lr cells slots hag ⟨hwf.1, by simpa [am_okv] using hwf.2.1, hwf.2.2⟩ hR hS hL hc hz
  rw [hn] at hw
  exact lv_ishl F.1 F.2.1 hd hw
theorem aj_ishr (F : am_F p s m args c cc nL own Ts D a0 cA base L0 X0) (hd : decode cc (pcs k) = .ok (.ishr, 1)) (hn : pcs (k + 1) = pcs k + 1) (hs : am_step rc na C Z (am_J p l e R s m args below meth c Qm nL D a0 cA base L0 X0 n0 z0 pcs) k ls st h (.ishr)) : (am_J p l e R s m args below meth c Qm nL D a0 cA base L0 X0 n0 z0 pcs) k ls st h := by
  obtain ⟨x, y, st1, rfl, hX⟩ := hs
  intro ad H locs lr cells slots hag hwf hR hS hL hc hz
  have hw := hX ad H locs lr cells slots hag ⟨hwf.1, by simpa [am_okv] using hwf.2.1, hwf.2.2⟩ hR hS hL hc hz
  rw [hn] at hw
  exact lv_ishr F.1 F.2.1 hd hw
theorem aj_ladd (F : am_F p s m args c cc nL own Ts D a0 cA base L0 X0) (hd : decode cc (pcs k) = .ok (.ladd, 1)) (hn : pcs (k + 1) = pcs k + 1) (hs : am_step rc na C Z (am_J p l e R s m args below meth c Qm nL D a0 cA base L0 X0 n0 z0 pcs) k ls st h (.ladd)) : (am_J p l e R s m args below meth c Qm nL D a0 cA base L0 X0 n0 z0 pcs) k ls st h := by
  obtain ⟨x, y, st1, rfl, hX⟩ := hs
  intro ad H locs lr cells slots hag hwf hR hS hL hc hz
  have hw := hX ad H locs lr cells slots hag ⟨hwf.1, by simpa [am_okv] using hwf.2.1, hwf.2.2⟩ hR hS hL hc hz
  rw [hn] at hw
  exact lv_ladd F.1 F.2.1 hd hw
theorem aj_lsub (F : am_F p s m args c cc nL own Ts D a0 cA base L0 X0) (hd : decode cc (pcs k) = .ok (.lsub, 1)) (hn : pcs (k + 1) = pcs k + 1) (hs : am_step rc na C Z (am_J p l e R s m args below meth c Qm nL D a0 cA base L0 X0 n0 z0 pcs) k ls st h (.lsub)) : (am_J p l e R s m args below meth c Qm nL D a0 cA base L0 X0 n0 z0 pcs) k ls st h := by
  obtain ⟨x, y, st1, rfl, hX⟩ := hs
  intro ad H locs lr cells slots hag hwf hR hS hL hc hz
  have hw := hX ad H locs lr cells slots hag ⟨hwf.1, by simpa [am_okv] using hwf.2.1, hwf.2.2⟩ hR hS hL hc hz
  rw [hn] at hw
  exact lv_lsub F.1 F.2.1 hd hw
theorem aj_lmul (F : am_F p s m args c cc nL own Ts D a0 cA base L0 X0) (hd : decode cc (pcs k) = .ok (.lmul, 1)) (hn : pcs (k + 1) = pcs k + 1) (hs : am_step rc na C Z (am_J p l e R s m args below meth c Qm nL D a0 cA base L0 X0 n0 z0 pcs) k ls st h (.lmul)) : (am_J p l e R s m args below meth c Qm nL D a0 cA base L0 X0 n0 z0 pcs) k ls st h := by
  obtain ⟨x, y, st1, rfl, hX⟩ := hs
  intro ad H locs lr cells slots hag hwf hR hS hL hc hz
  have hw := hX ad H locs lr cells slots hag ⟨hwf.1, by simpa [am_okv] using hwf.2.1, hwf.2.2⟩ hR hS hL hc hz
  rw [hn] at hw
  exact lv_lmul F.1 F.2.1 hd hw
theorem aj_land (F : am_F p s m args c cc nL own Ts D a0 cA base L0 X0) (hd : decode cc (pcs k) = .ok (.land, 1)) (hn : pcs (k + 1) = pcs k + 1) (hs : am_step rc na C Z (am_J p l e R s m args below meth c Qm nL D a0 cA base L0 X0 n0 z0 pcs) k ls st h (.land)) : (am_J p l e R s m args below meth c Qm nL D a0 cA base L0 X0 n0 z0 pcs) k ls st h := by
  obtain ⟨x, y, st1, rfl, hX⟩ := hs
  intro ad H locs lr cells slots hag hwf hR hS hL hc hz
  have hw := hX ad H locs lr cells slots hag ⟨hwf.1, by simpa [am_okv] using hwf.2.1, hwf.2.2⟩ hR hS hL hc hz
  rw [hn] at hw
  exact lv_land F.1 F.2.1 hd hw
theorem aj_lor (F : am_F p s m args c cc nL own Ts D a0 cA base L0 X0) (hd : decode cc (pcs k) = .ok (.lor, 1)) (hn : pcs (k + 1) = pcs k + 1) (hs : am_step rc na C Z (am_J p l e R s m args below meth c Qm nL D a0 cA base L0 X0 n0 z0 pcs) k ls st h (.lor)) : (am_J p l e R s m args below meth c Qm nL D a0 cA base L0 X0 n0 z0 pcs) k ls st h := by
  obtain ⟨x, y, st1, rfl, hX⟩ := hs
  intro ad H locs lr cells slots hag hwf hR hS hL hc hz
  have hw := hX ad H locs lr cells slots hag ⟨hwf.1, by simpa [am_okv] using hwf.2.1, hwf.2.2⟩ hR hS hL hc hz
  rw [hn] at hw
  exact lv_lor F.1 F.2.1 hd hw
theorem aj_iushr (F : am_F p s m args c cc nL own Ts D a0 cA base L0 X0) (hd : decode cc (pcs k) = .ok (.iushr, 1)) (hn : pcs (k + 1) = pcs k + 1) (hs : am_step rc na C Z (am_J p l e R s m args below meth c Qm nL D a0 cA base L0 X0 n0 z0 pcs) k ls st h (.iushr)) : (am_J p l e R s m args below meth c Qm nL D a0 cA base L0 X0 n0 z0 pcs) k ls st h := by
  obtain ⟨x, y, st1, rfl, hX⟩ := hs
  intro ad H locs lr cells slots hag hwf hR hS hL hc hz
  have hw := hX ad H locs lr cells slots hag ⟨hwf.1, by simpa [am_okv] using hwf.2.1, hwf.2.2⟩ hR hS hL hc hz
  rw [hn] at hw
  exact lv_iushr F.1 F.2.1 hd rfl hw
theorem aj_lushr (F : am_F p s m args c cc nL own Ts D a0 cA base L0 X0) (hd : decode cc (pcs k) = .ok (.lushr, 1)) (hn : pcs (k + 1) = pcs k + 1) (hs : am_step rc na C Z (am_J p l e R s m args below meth c Qm nL D a0 cA base L0 X0 n0 z0 pcs) k ls st h (.lushr)) : (am_J p l e R s m args below meth c Qm nL D a0 cA base L0 X0 n0 z0 pcs) k ls st h := by
  obtain ⟨x, y, st1, rfl, hX⟩ := hs
  intro ad H locs lr cells slots hag hwf hR hS hL hc hz
  have hw := hX ad H locs lr cells slots hag ⟨hwf.1, by simpa [am_okv] using hwf.2.1, hwf.2.2⟩ hR hS hL hc hz
  rw [hn] at hw
  exact lv_lushr F.1 F.2.1 hd rfl hw
theorem aj_lshl (F : am_F p s m args c cc nL own Ts D a0 cA base L0 X0) (hd : decode cc (pcs k) = .ok (.lshl, 1)) (hn : pcs (k + 1) = pcs k + 1) (hs : am_step rc na C Z (am_J p l e R s m args below meth c Qm nL D a0 cA base L0 X0 n0 z0 pcs) k ls st h (.lshl)) : (am_J p l e R s m args below meth c Qm nL D a0 cA base L0 X0 n0 z0 pcs) k ls st h := by
  obtain ⟨x, y, st1, rfl, hX⟩ := hs
  intro ad H locs lr cells slots hag hwf hR hS hL hc hz
  have hw := hX ad H locs lr cells slots hag ⟨hwf.1, by simpa [am_okv] using hwf.2.1, hwf.2.2⟩ hR hS hL hc hz
  rw [hn] at hw
  exact lv_lshl F.1 F.2.1 hd rfl hw
theorem aj_lshr (F : am_F p s m args c cc nL own Ts D a0 cA base L0 X0) (hd : decode cc (pcs k) = .ok (.lshr, 1)) (hn : pcs (k + 1) = pcs k + 1) (hs : am_step rc na C Z (am_J p l e R s m args below meth c Qm nL D a0 cA base L0 X0 n0 z0 pcs) k ls st h (.lshr)) : (am_J p l e R s m args below meth c Qm nL D a0 cA base L0 X0 n0 z0 pcs) k ls st h := by
  obtain ⟨x, y, st1, rfl, hX⟩ := hs
  intro ad H locs lr cells slots hag hwf hR hS hL hc hz
  have hw := hX ad H locs lr cells slots hag ⟨hwf.1, by simpa [am_okv] using hwf.2.1, hwf.2.2⟩ hR hS hL hc hz
  rw [hn] at hw
  exact lv_lshr F.1 F.2.1 hd rfl hw
theorem aj_idiv (F : am_F p s m args c cc nL own Ts D a0 cA base L0 X0) (hd : decode cc (pcs k) = .ok (.idiv, 1)) (hn : pcs (k + 1) = pcs k + 1) (hs : am_step rc na C Z (am_J p l e R s m args below meth c Qm nL D a0 cA base L0 X0 n0 z0 pcs) k ls st h (.idiv)) : (am_J p l e R s m args below meth c Qm nL D a0 cA base L0 X0 n0 z0 pcs) k ls st h := by
  obtain ⟨x, y, st1, rfl, hne, hX⟩ := hs
  intro ad H locs lr cells slots hag hwf hR hS hL hc hz
  have hw := hX ad H locs lr cells slots hag ⟨hwf.1, by simpa [am_okv] using hwf.2.1, hwf.2.2⟩ hR hS hL hc hz
  rw [hn] at hw
  exact lv_idiv F.1 F.2.1 hd hne hw
theorem aj_irem (F : am_F p s m args c cc nL own Ts D a0 cA base L0 X0) (hd : decode cc (pcs k) = .ok (.irem, 1)) (hn : pcs (k + 1) = pcs k + 1) (hs : am_step rc na C Z (am_J p l e R s m args below meth c Qm nL D a0 cA base L0 X0 n0 z0 pcs) k ls st h (.irem)) : (am_J p l e R s m args below meth c Qm nL D a0 cA base L0 X0 n0 z0 pcs) k ls st h := by
  obtain ⟨x, y, st1, rfl, hne, hX⟩ := hs
  intro ad H locs lr cells slots hag hwf hR hS hL hc hz
  have hw := hX ad H locs lr cells slots hag ⟨hwf.1, by simpa [am_okv] using hwf.2.1, hwf.2.2⟩ hR hS hL hc hz
  rw [hn] at hw
  exact lv_irem F.1 F.2.1 hd hne hw
theorem aj_ldiv (F : am_F p s m args c cc nL own Ts D a0 cA base L0 X0) (hd : decode cc (pcs k) = .ok (.ldiv, 1)) (hn : pcs (k + 1) = pcs k + 1) (hs : am_step rc na C Z (am_J p l e R s m args below meth c Qm nL D a0 cA base L0 X0 n0 z0 pcs) k ls st h (.ldiv)) : (am_J p l e R s m args below meth c Qm nL D a0 cA base L0 X0 n0 z0 pcs) k ls st h := by
  obtain ⟨x, y, st1, rfl, hne, hX⟩ := hs
  intro ad H locs lr cells slots hag hwf hR hS hL hc hz
  have hw := hX ad H locs lr cells slots hag ⟨hwf.1, by simpa [am_okv] using hwf.2.1, hwf.2.2⟩ hR hS hL hc hz
  rw [hn] at hw
  exact lv_ldiv F.1 F.2.1 hd hne hw
theorem aj_lcmp (F : am_F p s m args c cc nL own Ts D a0 cA base L0 X0) (hd : decode cc (pcs k) = .ok (.lcmp, 1)) (hn : pcs (k + 1) = pcs k + 1) (hs : am_step rc na C Z (am_J p l e R s m args below meth c Qm nL D a0 cA base L0 X0 n0 z0 pcs) k ls st h (.lcmp)) : (am_J p l e R s m args below meth c Qm nL D a0 cA base L0 X0 n0 z0 pcs) k ls st h := by
  obtain ⟨x, y, st1, rfl, hX⟩ := hs
  intro ad H locs lr cells slots hag hwf hR hS hL hc hz
  have hw := hX ad H locs lr cells slots hag ⟨hwf.1, by simpa [am_okv] using hwf.2.1, hwf.2.2⟩ hR hS hL hc hz
  rw [hn] at hw
  exact W.lcmp F.1 F.2.1 hd hw
theorem aj_i2l (F : am_F p s m args c cc nL own Ts D a0 cA base L0 X0) (hd : decode cc (pcs k) = .ok (.i2l, 1)) (hn : pcs (k + 1) = pcs k + 1) (hs : am_step rc na C Z (am_J p l e R s m args below meth c Qm nL D a0 cA base L0 X0 n0 z0 pcs) k ls st h (.i2l)) : (am_J p l e R s m args below meth c Qm nL D a0 cA base L0 X0 n0 z0 pcs) k ls st h := by
  obtain ⟨x, st1, rfl, hX⟩ := hs
  intro ad H locs lr cells slots hag hwf hR hS hL hc hz
  have hw := hX ad H locs lr cells slots hag ⟨hwf.1, by simpa [am_okv] using hwf.2.1, hwf.2.2⟩ hR hS hL hc hz
  rw [hn] at hw
  exact lv_i2l F.1 F.2.1 hd rfl hw
theorem aj_l2i (F : am_F p s m args c cc nL own Ts D a0 cA base L0 X0) (hd : decode cc (pcs k) = .ok (.l2i, 1)) (hn : pcs (k + 1) = pcs k + 1) (hs : am_step rc na C Z (am_J p l e R s m args below meth c Qm nL D a0 cA base L0 X0 n0 z0 pcs) k ls st h (.l2i)) : (am_J p l e R s m args below meth c Qm nL D a0 cA base L0 X0 n0 z0 pcs) k ls st h := by
  obtain ⟨x, st1, rfl, hX⟩ := hs
  intro ad H locs lr cells slots hag hwf hR hS hL hc hz
  have hw := hX ad H locs lr cells slots hag ⟨hwf.1, by simpa [am_okv] using hwf.2.1, hwf.2.2⟩ hR hS hL hc hz
  rw [hn] at hw
  exact lv_l2i F.1 F.2.1 hd rfl hw
theorem aj_i2b (F : am_F p s m args c cc nL own Ts D a0 cA base L0 X0) (hd : decode cc (pcs k) = .ok (.i2b, 1)) (hn : pcs (k + 1) = pcs k + 1) (hs : am_step rc na C Z (am_J p l e R s m args below meth c Qm nL D a0 cA base L0 X0 n0 z0 pcs) k ls st h (.i2b)) : (am_J p l e R s m args below meth c Qm nL D a0 cA base L0 X0 n0 z0 pcs) k ls st h := by
  obtain ⟨x, st1, rfl, hX⟩ := hs
  intro ad H locs lr cells slots hag hwf hR hS hL hc hz
  have hw := hX ad H locs lr cells slots hag ⟨hwf.1, by simpa [am_okv] using hwf.2.1, hwf.2.2⟩ hR hS hL hc hz
  rw [hn] at hw
  exact lv_i2b F.1 F.2.1 hd rfl hw
theorem aj_dup (F : am_F p s m args c cc nL own Ts D a0 cA base L0 X0) (hd : decode cc (pcs k) = .ok (.dup, 1)) (hn : pcs (k + 1) = pcs k + 1) (hs : am_step rc na C Z (am_J p l e R s m args below meth c Qm nL D a0 cA base L0 X0 n0 z0 pcs) k ls st h (.dup)) : (am_J p l e R s m args below meth c Qm nL D a0 cA base L0 X0 n0 z0 pcs) k ls st h := by
  obtain ⟨v, st1, rfl, hv, hX⟩ := hs
  intro ad H locs lr cells slots hag hwf hR hS hL hc hz
  have hw := hX ad H locs lr cells slots hag (am_wfs hwf (fun w q => by rcases List.mem_cons.mp q with rfl | q; exact List.mem_cons_self; exact q)) hR hS hL hc hz
  rw [hn] at hw
  exact lv_dup F.1 F.2.1 hd (by rw [am_vv_cat]; exact hv) hw
theorem aj_dup2 (F : am_F p s m args c cc nL own Ts D a0 cA base L0 X0) (hd : decode cc (pcs k) = .ok (.dup2, 1)) (hn : pcs (k + 1) = pcs k + 1) (hs : am_step rc na C Z (am_J p l e R s m args below meth c Qm nL D a0 cA base L0 X0 n0 z0 pcs) k ls st h (.dup2)) : (am_J p l e R s m args below meth c Qm nL D a0 cA base L0 X0 n0 z0 pcs) k ls st h := by
  obtain ⟨v, w, st1, rfl, hv, hv2, hX⟩ := hs
  intro ad H locs lr cells slots hag hwf hR hS hL hc hz
  have hw := hX ad H locs lr cells slots hag (am_wfs hwf (fun x q => by simp only [List.mem_cons] at q ⊢; rcases q with q | q | q | q | q <;> simp [q])) hR hS hL hc hz
  rw [hn] at hw
  exact lv_dup2_11 F.1 F.2.1 hd (by rw [am_vv_cat]; exact hv) (by rw [am_vv_cat]; exact hv2) hw
theorem aj_pop (F : am_F p s m args c cc nL own Ts D a0 cA base L0 X0) (hd : decode cc (pcs k) = .ok (.pop, 1)) (hn : pcs (k + 1) = pcs k + 1) (hs : am_step rc na C Z (am_J p l e R s m args below meth c Qm nL D a0 cA base L0 X0 n0 z0 pcs) k ls st h (.pop)) : (am_J p l e R s m args below meth c Qm nL D a0 cA base L0 X0 n0 z0 pcs) k ls st h := by
  obtain ⟨v, st1, rfl, hv, hX⟩ := hs
  intro ad H locs lr cells slots hag hwf hR hS hL hc hz
  have hw := hX ad H locs lr cells slots hag (am_wfs hwf (fun x q => List.mem_cons_of_mem _ q)) hR hS hL hc hz
  rw [hn] at hw
  exact lv_pop F.1 F.2.1 hd (by rw [am_vv_cat]; exact hv) hw
theorem aj_iconst (F : am_F p s m args c cc nL own Ts D a0 cA base L0 X0) {n : Int} (hd : decode cc (pcs k) = .ok (.iconst n, 1)) (hn : pcs (k + 1) = pcs k + 1) (hs : am_step rc na C Z (am_J p l e R s m args below meth c Qm nL D a0 cA base L0 X0 n0 z0 pcs) k ls st h (.iconst n)) : (am_J p l e R s m args below meth c Qm nL D a0 cA base L0 X0 n0 z0 pcs) k ls st h := by
  have hX := hs
  intro ad H locs lr cells slots hag hwf hR hS hL hc hz
  have hw := hX ad H locs lr cells slots hag ⟨hwf.1, by simpa [am_okv] using hwf.2.1, hwf.2.2⟩ hR hS hL hc hz
  rw [hn] at hw
  exact lv_iconst F.1 F.2.1 hd rfl hw
theorem aj_bipush (F : am_F p s m args c cc nL own Ts D a0 cA base L0 X0) {n : Int} (hv : (Int8.ofInt n).toInt32 = Int32.ofInt n) (hd : decode cc (pcs k) = .ok (.bipush n, 2)) (hn : pcs (k + 1) = pcs k + 2) (hs : am_step rc na C Z (am_J p l e R s m args below meth c Qm nL D a0 cA base L0 X0 n0 z0 pcs) k ls st h (.iconst n)) : (am_J p l e R s m args below meth c Qm nL D a0 cA base L0 X0 n0 z0 pcs) k ls st h := by
  have hX := hs
  intro ad H locs lr cells slots hag hwf hR hS hL hc hz
  have hw := hX ad H locs lr cells slots hag ⟨hwf.1, by simpa [am_okv] using hwf.2.1, hwf.2.2⟩ hR hS hL hc hz
  rw [hn] at hw
  exact lv_bipush F.1 F.2.1 hd hv hw
theorem aj_sipush (F : am_F p s m args c cc nL own Ts D a0 cA base L0 X0) {n : Int} (hv : (Int16.ofInt n).toInt32 = Int32.ofInt n) (hd : decode cc (pcs k) = .ok (.sipush n, 3)) (hn : pcs (k + 1) = pcs k + 3) (hs : am_step rc na C Z (am_J p l e R s m args below meth c Qm nL D a0 cA base L0 X0 n0 z0 pcs) k ls st h (.iconst n)) : (am_J p l e R s m args below meth c Qm nL D a0 cA base L0 X0 n0 z0 pcs) k ls st h := by
  have hX := hs
  intro ad H locs lr cells slots hag hwf hR hS hL hc hz
  have hw := hX ad H locs lr cells slots hag ⟨hwf.1, by simpa [am_okv] using hwf.2.1, hwf.2.2⟩ hR hS hL hc hz
  rw [hn] at hw
  exact lv_sipush F.1 F.2.1 hd hv hw
theorem aj_ldc (F : am_F p s m args c cc nL own Ts D a0 cA base L0 X0) {n : Int} {q : Nat} (hv : Cond.constant own q (Int32.ofInt n) ∈ lw_tbl) (hd : decode cc (pcs k) = .ok (.ldc q, 2)) (hn : pcs (k + 1) = pcs k + 2) (hs : am_step rc na C Z (am_J p l e R s m args below meth c Qm nL D a0 cA base L0 X0 n0 z0 pcs) k ls st h (.iconst n)) : (am_J p l e R s m args below meth c Qm nL D a0 cA base L0 X0 n0 z0 pcs) k ls st h := by
  have hX := hs
  intro ad H locs lr cells slots hag hwf hR hS hL hc hz
  have hw := hX ad H locs lr cells slots hag ⟨hwf.1, by simpa [am_okv] using hwf.2.1, hwf.2.2⟩ hR hS hL hc hz
  rw [hn] at hw
  exact lv_ldc F.1 F.2.1 F.2.2.2.1 (F.2.2.2.2.1 _ (F.2.2.2.2.2.1 _ hv)) hd hw
theorem aj_ldcw (F : am_F p s m args c cc nL own Ts D a0 cA base L0 X0) {n : Int} {q : Nat} (hv : Cond.constant own q (Int32.ofInt n) ∈ lw_tbl) (hd : decode cc (pcs k) = .ok (.ldc_w q, 3)) (hn : pcs (k + 1) = pcs k + 3) (hs : am_step rc na C Z (am_J p l e R s m args below meth c Qm nL D a0 cA base L0 X0 n0 z0 pcs) k ls st h (.iconst n)) : (am_J p l e R s m args below meth c Qm nL D a0 cA base L0 X0 n0 z0 pcs) k ls st h := by
  have hX := hs
  intro ad H locs lr cells slots hag hwf hR hS hL hc hz
  have hw := hX ad H locs lr cells slots hag ⟨hwf.1, by simpa [am_okv] using hwf.2.1, hwf.2.2⟩ hR hS hL hc hz
  rw [hn] at hw
  exact lv_ldcw F.1 F.2.1 F.2.2.2.1 (F.2.2.2.2.1 _ (F.2.2.2.2.2.1 _ hv)) hd hw
theorem aj_lconst (F : am_F p s m args c cc nL own Ts D a0 cA base L0 X0) {n : Int} {a : Fin 2} (hv : Int64.ofNat (a : Nat) = Int64.ofInt n) (hd : decode cc (pcs k) = .ok (.lconst a, 1)) (hn : pcs (k + 1) = pcs k + 1) (hs : am_step rc na C Z (am_J p l e R s m args below meth c Qm nL D a0 cA base L0 X0 n0 z0 pcs) k ls st h (.goto_w n)) : (am_J p l e R s m args below meth c Qm nL D a0 cA base L0 X0 n0 z0 pcs) k ls st h := by
  have hX := hs
  intro ad H locs lr cells slots hag hwf hR hS hL hc hz
  have hw := hX ad H locs lr cells slots hag ⟨hwf.1, by simpa [am_okv] using hwf.2.1, hwf.2.2⟩ hR hS hL hc hz
  rw [hn] at hw
  exact lv_lconst F.1 F.2.1 hd hv hw
theorem aj_ldc2 (F : am_F p s m args c cc nL own Ts D a0 cA base L0 X0) {n : Int} {q : Nat} (hv : Cond.constantLong own q (Int64.ofInt n) ∈ lw_tbl) (hd : decode cc (pcs k) = .ok (.ldc2_w q, 3)) (hn : pcs (k + 1) = pcs k + 3) (hs : am_step rc na C Z (am_J p l e R s m args below meth c Qm nL D a0 cA base L0 X0 n0 z0 pcs) k ls st h (.goto_w n)) : (am_J p l e R s m args below meth c Qm nL D a0 cA base L0 X0 n0 z0 pcs) k ls st h := by
  have hX := hs
  intro ad H locs lr cells slots hag hwf hR hS hL hc hz
  have hw := hX ad H locs lr cells slots hag ⟨hwf.1, by simpa [am_okv] using hwf.2.1, hwf.2.2⟩ hR hS hL hc hz
  rw [hn] at hw
  exact lv_ldc2 F.1 F.2.1 F.2.2.2.1 (F.2.2.2.2.1 _ (F.2.2.2.2.2.1 _ hv)) hd hw
theorem aj_null (F : am_F p s m args c cc nL own Ts D a0 cA base L0 X0) (hd : decode cc (pcs k) = .ok (.aconst_null, 1)) (hn : pcs (k + 1) = pcs k + 1) (hs : am_step rc na C Z (am_J p l e R s m args below meth c Qm nL D a0 cA base L0 X0 n0 z0 pcs) k ls st h (.aconst_null)) : (am_J p l e R s m args below meth c Qm nL D a0 cA base L0 X0 n0 z0 pcs) k ls st h := by
  have hX := hs
  intro ad H locs lr cells slots hag hwf hR hS hL hc hz
  have hw := hX ad H locs lr cells slots hag ⟨hwf.1, by simpa [am_okv] using hwf.2.1, hwf.2.2⟩ hR hS hL hc hz
  rw [hn] at hw
  exact lv_null F.1 F.2.1 hd hw
theorem aj_iload (F : am_F p s m args c cc nL own Ts D a0 cA base L0 X0) {j : Nat} (hd : decode cc (pcs k) = .ok (.iload j, 2)) (hn : pcs (k + 1) = pcs k + 2) (hs : am_step rc na C Z (am_J p l e R s m args below meth c Qm nL D a0 cA base L0 X0 n0 z0 pcs) k ls st h (.iload j)) : (am_J p l e R s m args below meth c Qm nL D a0 cA base L0 X0 n0 z0 pcs) k ls st h := by
  obtain ⟨x, hj, hX⟩ := hs
  intro ad H locs lr cells slots hag hwf hR hS hL hc hz
  have hw := hX ad H locs lr cells slots hag ⟨hwf.1, by simpa [am_okv] using hwf.2.1, hwf.2.2⟩ hR hS hL hc hz
  rw [hn] at hw
  exact lv_iload F.1 F.2.1 hd (hL.2.2.2 j _ hj) hw
theorem aj_iloadn (F : am_F p s m args c cc nL own Ts D a0 cA base L0 X0) {j : Nat} {a : Fin 4} (ha : (a : Nat) = j) (hd : decode cc (pcs k) = .ok (.iload_n a, 1)) (hn : pcs (k + 1) = pcs k + 1) (hs : am_step rc na C Z (am_J p l e R s m args below meth c Qm nL D a0 cA base L0 X0 n0 z0 pcs) k ls st h (.iload j)) : (am_J p l e R s m args below meth c Qm nL D a0 cA base L0 X0 n0 z0 pcs) k ls st h := by
  obtain ⟨x, hj, hX⟩ := hs
  intro ad H locs lr cells slots hag hwf hR hS hL hc hz
  have hw := hX ad H locs lr cells slots hag ⟨hwf.1, by simpa [am_okv] using hwf.2.1, hwf.2.2⟩ hR hS hL hc hz
  rw [hn] at hw
  exact lv_iload_n F.1 F.2.1 hd ha (hL.2.2.2 j _ hj) hw
theorem aj_lload (F : am_F p s m args c cc nL own Ts D a0 cA base L0 X0) {j : Nat} (hd : decode cc (pcs k) = .ok (.lload j, 2)) (hn : pcs (k + 1) = pcs k + 2) (hs : am_step rc na C Z (am_J p l e R s m args below meth c Qm nL D a0 cA base L0 X0 n0 z0 pcs) k ls st h (.lload j)) : (am_J p l e R s m args below meth c Qm nL D a0 cA base L0 X0 n0 z0 pcs) k ls st h := by
  obtain ⟨x, hj, hX⟩ := hs
  intro ad H locs lr cells slots hag hwf hR hS hL hc hz
  have hw := hX ad H locs lr cells slots hag ⟨hwf.1, by simpa [am_okv] using hwf.2.1, hwf.2.2⟩ hR hS hL hc hz
  rw [hn] at hw
  exact lv_lload F.1 F.2.1 hd (hL.2.2.2 j _ hj) hw
theorem aj_lloadn (F : am_F p s m args c cc nL own Ts D a0 cA base L0 X0) {j : Nat} {a : Fin 4} (ha : (a : Nat) = j) (hd : decode cc (pcs k) = .ok (.lload_n a, 1)) (hn : pcs (k + 1) = pcs k + 1) (hs : am_step rc na C Z (am_J p l e R s m args below meth c Qm nL D a0 cA base L0 X0 n0 z0 pcs) k ls st h (.lload j)) : (am_J p l e R s m args below meth c Qm nL D a0 cA base L0 X0 n0 z0 pcs) k ls st h := by
  obtain ⟨x, hj, hX⟩ := hs
  intro ad H locs lr cells slots hag hwf hR hS hL hc hz
  have hw := hX ad H locs lr cells slots hag ⟨hwf.1, by simpa [am_okv] using hwf.2.1, hwf.2.2⟩ hR hS hL hc hz
  rw [hn] at hw
  exact lv_lload_n F.1 F.2.1 hd ha (hL.2.2.2 j _ hj) hw
theorem aj_aload (F : am_F p s m args c cc nL own Ts D a0 cA base L0 X0) {j : Nat} (hd : decode cc (pcs k) = .ok (.aload j, 2)) (hn : pcs (k + 1) = pcs k + 2) (hs : am_step rc na C Z (am_J p l e R s m args below meth c Qm nL D a0 cA base L0 X0 n0 z0 pcs) k ls st h (.aload j)) : (am_J p l e R s m args below meth c Qm nL D a0 cA base L0 X0 n0 z0 pcs) k ls st h := by
  rcases hs with ⟨x, hj, hX⟩ | ⟨hj, hX⟩
  · intro ad H locs lr cells slots hag hwf hR hS hL hc hz
    have hw := hX ad H locs lr cells slots hag (am_wfl hwf hj) hR hS hL hc hz
    rw [hn] at hw
    exact lv_aload F.1 F.2.1 hd (hL.2.2.2 j _ hj) hw
  · intro ad H locs lr cells slots hag hwf hR hS hL hc hz
    have hw := hX ad H locs lr cells slots hag (am_wfl hwf hj) hR hS hL hc hz
    rw [hn] at hw
    exact lv_aloadN F.1 F.2.1 hd (hL.2.2.2 j _ hj) hw
theorem aj_aloadn (F : am_F p s m args c cc nL own Ts D a0 cA base L0 X0) {j : Nat} {a : Fin 4} (ha : (a : Nat) = j) (hd : decode cc (pcs k) = .ok (.aload_n a, 1)) (hn : pcs (k + 1) = pcs k + 1) (hs : am_step rc na C Z (am_J p l e R s m args below meth c Qm nL D a0 cA base L0 X0 n0 z0 pcs) k ls st h (.aload j)) : (am_J p l e R s m args below meth c Qm nL D a0 cA base L0 X0 n0 z0 pcs) k ls st h := by
  rcases hs with ⟨x, hj, hX⟩ | ⟨hj, hX⟩
  · intro ad H locs lr cells slots hag hwf hR hS hL hc hz
    have hw := hX ad H locs lr cells slots hag (am_wfl hwf hj) hR hS hL hc hz
    rw [hn] at hw
    exact lv_aload_n F.1 F.2.1 hd ha (hL.2.2.2 j _ hj) hw
  · intro ad H locs lr cells slots hag hwf hR hS hL hc hz
    have hw := hX ad H locs lr cells slots hag (am_wfl hwf hj) hR hS hL hc hz
    rw [hn] at hw
    exact lv_aload_nN F.1 F.2.1 hd ha (hL.2.2.2 j _ hj) hw
theorem am_len_k (ls : List (Option Value)) (i : Nat) : (am_k ls i).length = ls.length := by
  unfold am_k
  split
  · rfl
  · split
    · split <;> simp
    · rfl
theorem am_len1 (ls : List (Option Value)) (i : Nat) (v : Value) : (am_set1 ls i v).length = ls.length := by simp [am_set1, am_len_k]
theorem am_len2 (ls : List (Option Value)) (i : Nat) (v : Value) : (am_set2 ls i v).length = ls.length := by simp [am_set2, am_len_k]
/-- what is behind am_k was there before, and is no long just ahead of i -/
theorem am_k_at {ls : List (Option Value)} {i j : Nat} {v : Value} (h : (am_k ls i)[j]? = some (some v)) : ls[j]? = some (some v) ∧ ¬ (j + 1 = i ∧ v.category = 2) := by
  unfold am_k at h
  split at h
  · exact ⟨h, by omega⟩
  · rename_i q
    split at h
    · rename_i w hw
      by_cases hc : w.category = 2
      · rw [if_pos hc, List.getElem?_set] at h
        by_cases hq : q = j
        · subst hq
          rw [if_pos rfl] at h
          split at h <;> simp at h
        · rw [if_neg hq] at h
          exact ⟨h, by omega⟩
      · rw [if_neg hc] at h
        refine ⟨h, fun z => ?_⟩
        have : q = j := by omega
        subst this
        rw [h] at hw
        cases hw
        exact hc z.2
    · rename_i hw
      refine ⟨h, fun z => ?_⟩
      have : q = j := by omega
      subst this
      exact hw v h
def am_ll (ad : Nat → Nat) (ls : List (Option Value)) : List (Nat × Value) := (List.range ls.length).filterMap (fun j => match ls[j]? with
  | some (some v) => some (j, am_vv ad v)
  | _ => none)
theorem am_ll_mem {ad : Nat → Nat} {ls : List (Option Value)} {j : Nat} {v : Value} (h : ls[j]? = some (some v)) : (j, am_vv ad v) ∈ am_ll ad ls := by
  unfold am_ll
  rw [List.mem_filterMap]
  exact ⟨j, List.mem_range.mpr (am_lt h), by rw [h]⟩
theorem am_ll_has {ad : Nat → Nat} {ls : List (Option Value)} {nL : Nat} {lr : Array Slot} (hL : am_loc ad ls nL lr) : lv_has lr nL (am_ll ad ls) := by
  refine ⟨hL.1, hL.2.1, fun q hq => ?_⟩
  unfold am_ll at hq
  rw [List.mem_filterMap] at hq
  obtain ⟨j, -, hj⟩ := hq
  split at hj
  · rename_i v hv
    cases hj
    exact hL.2.2.2 j v hv
  · cases hj
theorem am_mem_k {ls : List (Option Value)} {i : Nat} {v : Value} (hv : some v ∈ am_k ls i) : some v ∈ ls := by
  obtain ⟨j, hj⟩ := List.getElem?_of_mem hv
  exact List.mem_of_getElem? (am_k_at hj).1
theorem am_mem_set {α : Type} {l : List α} {i : Nat} {a b : α} (hb : b ∈ l.set i a) : b = a ∨ b ∈ l := by
  obtain ⟨j, hj⟩ := List.getElem?_of_mem hb
  rw [List.getElem?_set] at hj
  by_cases hi : i = j
  · rw [if_pos hi] at hj
    split at hj
    · exact Or.inl (Option.some.inj hj).symm
    · cases hj
  · rw [if_neg hi] at hj
    exact Or.inr (List.mem_of_getElem? hj)
theorem am_wf1 {ls : List (Option Value)} {st : List Value} {h : am_H} {i : Nat} {v : Value} (h1 : ∀ v, some v ∈ ls → am_okv h.1.length v) (h2 : am_okv h.1.length v ∧ ∀ v ∈ st, am_okv h.1.length v) (h3 : ∀ p k q, h.2.2.2 p k = some q → q < h.1.length) : am_wf (am_set1 ls i v) st h := by
  refine ⟨fun w hw => ?_, h2.2, h3⟩
  rcases am_mem_set hw with e | hw
  · cases e
    exact h2.1
  · exact h1 w (am_mem_k hw)
theorem am_wf2 {ls : List (Option Value)} {st : List Value} {h : am_H} {i : Nat} {v : Value} (h1 : ∀ v, some v ∈ ls → am_okv h.1.length v) (h2 : am_okv h.1.length v ∧ ∀ v ∈ st, am_okv h.1.length v) (h3 : ∀ p k q, h.2.2.2 p k = some q → q < h.1.length) : am_wf (am_set2 ls i v) st h := by
  refine ⟨fun w hw => ?_, h2.2, h3⟩
  rcases am_mem_set hw with e | hw
  · cases e
  rcases am_mem_set hw with e | hw
  · cases e
    exact h2.1
  · exact h1 w (am_mem_k hw)
theorem am_loc1 {ad : Nat → Nat} {ls : List (Option Value)} {nL i : Nat} {lr lr' : Array Slot} {v : Value} (hL : am_loc ad ls nL lr) (h : lv_has lr' nL ((i, am_vv ad v) :: (am_ll ad ls).filter (fun q => !(q.1 == i) && !(q.1 + 1 == i && q.2.category == 2)))) : am_loc ad (am_set1 ls i v) nL lr' := by
  refine ⟨h.1, h.2.1, by rw [am_len1]; exact hL.2.2.1, fun j w hj => ?_⟩
  unfold am_set1 at hj
  rw [List.getElem?_set] at hj
  by_cases hi : i = j
  · subst hi
    rw [if_pos rfl] at hj
    split at hj
    · cases hj
      exact h.2.2 (i, am_vv ad v) List.mem_cons_self
    · cases hj
  · rw [if_neg hi] at hj
    obtain ⟨h1, h2⟩ := am_k_at hj
    refine h.2.2 (j, am_vv ad w) (List.mem_cons_of_mem _ (List.mem_filter.mpr ⟨am_ll_mem h1, ?_⟩))
    simp only [Bool.and_eq_true, Bool.not_eq_true', beq_eq_false_iff_ne, ne_eq, Bool.and_eq_false_iff, am_vv_cat]
    refine ⟨fun z => hi z.symm, ?_⟩
    by_cases hji : j + 1 = i
    · exact Or.inr (fun z => h2 ⟨hji, z⟩)
    · exact Or.inl hji
theorem am_loc2 {ad : Nat → Nat} {ls : List (Option Value)} {nL i : Nat} {lr lr' : Array Slot} {v : Value} (hL : am_loc ad ls nL lr) (h : lv_has lr' nL ((i, am_vv ad v) :: (am_ll ad ls).filter (fun q => !(q.1 == i) && (!(q.1 == i + 1) && !(q.1 + 1 == i && q.2.category == 2))))) : am_loc ad (am_set2 ls i v) nL lr' := by
  refine ⟨h.1, h.2.1, by rw [am_len2]; exact hL.2.2.1, fun j w hj => ?_⟩
  unfold am_set2 at hj
  rw [List.getElem?_set] at hj
  by_cases hi1 : i + 1 = j
  · rw [if_pos hi1] at hj
    split at hj <;> cases hj
  · rw [if_neg hi1, List.getElem?_set] at hj
    by_cases hi : i = j
    · subst hi
      rw [if_pos rfl] at hj
      split at hj
      · cases hj
        exact h.2.2 (i, am_vv ad v) List.mem_cons_self
      · cases hj
    · rw [if_neg hi] at hj
      obtain ⟨h1, h2⟩ := am_k_at hj
      refine h.2.2 (j, am_vv ad w) (List.mem_cons_of_mem _ (List.mem_filter.mpr ⟨am_ll_mem h1, ?_⟩))
      simp only [Bool.and_eq_true, Bool.not_eq_true', beq_eq_false_iff_ne, ne_eq, Bool.and_eq_false_iff, am_vv_cat]
      refine ⟨fun z => hi z.symm, fun z => hi1 z.symm, ?_⟩
      by_cases hji : j + 1 = i
      · exact Or.inr (fun z => h2 ⟨hji, z⟩)
      · exact Or.inl hji
theorem aj_istore (F : am_F p s m args c cc nL own Ts D a0 cA base L0 X0) {j : Nat} (hj : j < nL) (hd : decode cc (pcs k) = .ok (.istore j, 2)) (hn : pcs (k + 1) = pcs k + 2) (hs : am_step rc na C Z (am_J p l e R s m args below meth c Qm nL D a0 cA base L0 X0 n0 z0 pcs) k ls st h (.istore j)) : (am_J p l e R s m args below meth c Qm nL D a0 cA base L0 X0 n0 z0 pcs) k ls st h := by
  obtain ⟨x, st1, rfl, hX⟩ := hs
  intro ad H locs lr cells slots hag hwf hR hS hL hc hz
  refine lv_istore F.1 F.2.1 hd (am_ll_has hL) hj rfl (fun lr2 hl2 => ?_)
  have hw := hX ad H locs lr2 cells slots hag (am_wf1 hwf.1 (by simpa [am_okv] using hwf.2.1) hwf.2.2) hR hS (am_loc1 hL hl2) hc hz
  rw [hn] at hw
  exact hw
theorem aj_istoren (F : am_F p s m args c cc nL own Ts D a0 cA base L0 X0) {j : Nat} {a : Fin 4} (ha : (a : Nat) = j) (hj : j < nL) (hd : decode cc (pcs k) = .ok (.istore_n a, 1)) (hn : pcs (k + 1) = pcs k + 1) (hs : am_step rc na C Z (am_J p l e R s m args below meth c Qm nL D a0 cA base L0 X0 n0 z0 pcs) k ls st h (.istore j)) : (am_J p l e R s m args below meth c Qm nL D a0 cA base L0 X0 n0 z0 pcs) k ls st h := by
  obtain ⟨x, st1, rfl, hX⟩ := hs
  intro ad H locs lr cells slots hag hwf hR hS hL hc hz
  refine lv_istore_n F.1 F.2.1 hd ha (am_ll_has hL) hj rfl (fun lr2 hl2 => ?_)
  have hw := hX ad H locs lr2 cells slots hag (am_wf1 hwf.1 (by simpa [am_okv] using hwf.2.1) hwf.2.2) hR hS (am_loc1 hL hl2) hc hz
  rw [hn] at hw
  exact hw
theorem aj_astore (F : am_F p s m args c cc nL own Ts D a0 cA base L0 X0) {j : Nat} (hj : j < nL) (hd : decode cc (pcs k) = .ok (.astore j, 2)) (hn : pcs (k + 1) = pcs k + 2) (hs : am_step rc na C Z (am_J p l e R s m args below meth c Qm nL D a0 cA base L0 X0 n0 z0 pcs) k ls st h (.astore j)) : (am_J p l e R s m args below meth c Qm nL D a0 cA base L0 X0 n0 z0 pcs) k ls st h := by
  obtain ⟨x, st1, rfl, hX⟩ := hs
  intro ad H locs lr cells slots hag hwf hR hS hL hc hz
  refine lv_astore F.1 F.2.1 hd (am_ll_has hL) hj rfl (fun lr2 hl2 => ?_)
  have hw := hX ad H locs lr2 cells slots hag (am_wf1 hwf.1 (by simpa [am_okv] using hwf.2.1) hwf.2.2) hR hS (am_loc1 hL hl2) hc hz
  rw [hn] at hw
  exact hw
theorem aj_astoren (F : am_F p s m args c cc nL own Ts D a0 cA base L0 X0) {j : Nat} {a : Fin 4} (ha : (a : Nat) = j) (hj : j < nL) (hd : decode cc (pcs k) = .ok (.astore_n a, 1)) (hn : pcs (k + 1) = pcs k + 1) (hs : am_step rc na C Z (am_J p l e R s m args below meth c Qm nL D a0 cA base L0 X0 n0 z0 pcs) k ls st h (.astore j)) : (am_J p l e R s m args below meth c Qm nL D a0 cA base L0 X0 n0 z0 pcs) k ls st h := by
  obtain ⟨x, st1, rfl, hX⟩ := hs
  intro ad H locs lr cells slots hag hwf hR hS hL hc hz
  refine lv_astore_n F.1 F.2.1 hd ha (am_ll_has hL) hj rfl (fun lr2 hl2 => ?_)
  have hw := hX ad H locs lr2 cells slots hag (am_wf1 hwf.1 (by simpa [am_okv] using hwf.2.1) hwf.2.2) hR hS (am_loc1 hL hl2) hc hz
  rw [hn] at hw
  exact hw
theorem aj_lstore (F : am_F p s m args c cc nL own Ts D a0 cA base L0 X0) {j : Nat} (hj : j + 1 < nL) (hd : decode cc (pcs k) = .ok (.lstore j, 2)) (hn : pcs (k + 1) = pcs k + 2) (hs : am_step rc na C Z (am_J p l e R s m args below meth c Qm nL D a0 cA base L0 X0 n0 z0 pcs) k ls st h (.lstore j)) : (am_J p l e R s m args below meth c Qm nL D a0 cA base L0 X0 n0 z0 pcs) k ls st h := by
  obtain ⟨x, st1, rfl, hX⟩ := hs
  intro ad H locs lr cells slots hag hwf hR hS hL hc hz
  refine lv_lstore F.1 F.2.1 hd (am_ll_has hL) hj rfl (fun lr2 hl2 => ?_)
  have hw := hX ad H locs lr2 cells slots hag (am_wf2 hwf.1 (by simpa [am_okv] using hwf.2.1) hwf.2.2) hR hS (am_loc2 hL hl2) hc hz
  rw [hn] at hw
  exact hw
theorem aj_lstoren (F : am_F p s m args c cc nL own Ts D a0 cA base L0 X0) {j : Nat} {a : Fin 4} (ha : (a : Nat) = j) (hj : j + 1 < nL) (hd : decode cc (pcs k) = .ok (.lstore_n a, 1)) (hn : pcs (k + 1) = pcs k + 1) (hs : am_step rc na C Z (am_J p l e R s m args below meth c Qm nL D a0 cA base L0 X0 n0 z0 pcs) k ls st h (.lstore j)) : (am_J p l e R s m args below meth c Qm nL D a0 cA base L0 X0 n0 z0 pcs) k ls st h := by
  obtain ⟨x, st1, rfl, hX⟩ := hs
  intro ad H locs lr cells slots hag hwf hR hS hL hc hz
  refine lv_lstore_n F.1 F.2.1 hd ha (am_ll_has hL) hj rfl (fun lr2 hl2 => ?_)
  have hw := hX ad H locs lr2 cells slots hag (am_wf2 hwf.1 (by simpa [am_okv] using hwf.2.1) hwf.2.2) hR hS (am_loc2 hL hl2) hc hz
  rw [hn] at hw
  exact hw
theorem aj_iinc (F : am_F p s m args c cc nL own Ts D a0 cA base L0 X0) {j : Nat} {n : Int} (hj : j < nL) (hd : decode cc (pcs k) = .ok (.iinc j n, 3)) (hn : pcs (k + 1) = pcs k + 3) (hs : am_step rc na C Z (am_J p l e R s m args below meth c Qm nL D a0 cA base L0 X0 n0 z0 pcs) k ls st h (.iinc j n)) : (am_J p l e R s m args below meth c Qm nL D a0 cA base L0 X0 n0 z0 pcs) k ls st h := by
  obtain ⟨x, hx, hX⟩ := hs
  intro ad H locs lr cells slots hag hwf hR hS hL hc hz
  obtain ⟨q, hq⟩ := List.getElem?_of_mem (am_ll_mem (ad := ad) hx)
  refine lv_iinc (k := q) F.1 F.2.1 hd (am_ll_has hL) hq rfl hj rfl (fun lr2 hl2 => ?_)
  have hw := hX ad H locs lr2 cells slots hag (am_wf1 hwf.1 ⟨trivial, hwf.2.1⟩ hwf.2.2) hR hS (am_loc1 hL hl2) hc hz
  rw [hn] at hw
  exact hw
theorem aj_goto (F : am_F p s m args c cc nL own Ts D a0 cA base L0 X0) {t off : Int} (hd : decode cc (pcs k) = .ok (.goto off, 3)) (hn : (pcs k : Int) + off = (pcs t.toNat : Nat)) (hs : am_step rc na C Z (am_J p l e R s m args below meth c Qm nL D a0 cA base L0 X0 n0 z0 pcs) k ls st h (.goto t)) : (am_J p l e R s m args below meth c Qm nL D a0 cA base L0 X0 n0 z0 pcs) k ls st h := by
  have hX := hs
  intro ad H locs lr cells slots hag hwf hR hS hL hc hz
  exact lv_goto F.1 F.2.1 hd hn (hX ad H locs lr cells slots hag ⟨hwf.1, by simpa [am_okv] using hwf.2.1, hwf.2.2⟩ hR hS hL hc hz)
theorem aj_if_eq (F : am_F p s m args c cc nL own Ts D a0 cA base L0 X0) {t off : Int} (hd : decode cc (pcs k) = .ok (.ifCond .eq off, 3)) (hn : pcs (k + 1) = pcs k + 3) (ht : (pcs k : Int) + off = (pcs t.toNat : Nat)) (hs : am_step rc na C Z (am_J p l e R s m args below meth c Qm nL D a0 cA base L0 X0 n0 z0 pcs) k ls st h (.ifCond .eq t)) : (am_J p l e R s m args below meth c Qm nL D a0 cA base L0 X0 n0 z0 pcs) k ls st h := by
  obtain ⟨x, st1, rfl, hX, hY⟩ := hs
  intro ad H locs lr cells slots hag hwf hR hS hL hc hz
  refine lv_if_eq F.1 F.2.1 hd ht (fun q => hX q ad H locs lr cells slots hag ⟨hwf.1, by simpa [am_okv] using hwf.2.1, hwf.2.2⟩ hR hS hL hc hz) (fun q => ?_)
  have hw := hY q ad H locs lr cells slots hag ⟨hwf.1, by simpa [am_okv] using hwf.2.1, hwf.2.2⟩ hR hS hL hc hz
  rw [hn] at hw
  exact hw
theorem aj_icmp_eq (F : am_F p s m args c cc nL own Ts D a0 cA base L0 X0) {t off : Int} (hd : decode cc (pcs k) = .ok (.if_icmp .eq off, 3)) (hn : pcs (k + 1) = pcs k + 3) (ht : (pcs k : Int) + off = (pcs t.toNat : Nat)) (hs : am_step rc na C Z (am_J p l e R s m args below meth c Qm nL D a0 cA base L0 X0 n0 z0 pcs) k ls st h (.if_icmp .eq t)) : (am_J p l e R s m args below meth c Qm nL D a0 cA base L0 X0 n0 z0 pcs) k ls st h := by
  obtain ⟨x, y, st1, rfl, hX, hY⟩ := hs
  intro ad H locs lr cells slots hag hwf hR hS hL hc hz
  refine lv_icmp_eq F.1 F.2.1 hd ht (fun q => hX q ad H locs lr cells slots hag ⟨hwf.1, by simpa [am_okv] using hwf.2.1, hwf.2.2⟩ hR hS hL hc hz) (fun q => ?_)
  have hw := hY q ad H locs lr cells slots hag ⟨hwf.1, by simpa [am_okv] using hwf.2.1, hwf.2.2⟩ hR hS hL hc hz
  rw [hn] at hw
  exact hw
theorem aj_if_ne (F : am_F p s m args c cc nL own Ts D a0 cA base L0 X0) {t off : Int} (hd : decode cc (pcs k) = .ok (.ifCond .ne off, 3)) (hn : pcs (k + 1) = pcs k + 3) (ht : (pcs k : Int) + off = (pcs t.toNat : Nat)) (hs : am_step rc na C Z (am_J p l e R s m args below meth c Qm nL D a0 cA base L0 X0 n0 z0 pcs) k ls st h (.ifCond .ne t)) : (am_J p l e R s m args below meth c Qm nL D a0 cA base L0 X0 n0 z0 pcs) k ls st h := by
  obtain ⟨x, st1, rfl, hX, hY⟩ := hs
  intro ad H locs lr cells slots hag hwf hR hS hL hc hz
  refine lv_if_ne F.1 F.2.1 hd ht (fun q => hX q ad H locs lr cells slots hag ⟨hwf.1, by simpa [am_okv] using hwf.2.1, hwf.2.2⟩ hR hS hL hc hz) (fun q => ?_)
  have hw := hY (fun hq => hq q) ad H locs lr cells slots hag ⟨hwf.1, by simpa [am_okv] using hwf.2.1, hwf.2.2⟩ hR hS hL hc hz
  rw [hn] at hw
  exact hw
theorem aj_icmp_ne (F : am_F p s m args c cc nL own Ts D a0 cA base L0 X0) {t off : Int} (hd : decode cc (pcs k) = .ok (.if_icmp .ne off, 3)) (hn : pcs (k + 1) = pcs k + 3) (ht : (pcs k : Int) + off = (pcs t.toNat : Nat)) (hs : am_step rc na C Z (am_J p l e R s m args below meth c Qm nL D a0 cA base L0 X0 n0 z0 pcs) k ls st h (.if_icmp .ne t)) : (am_J p l e R s m args below meth c Qm nL D a0 cA base L0 X0 n0 z0 pcs) k ls st h := by
  obtain ⟨x, y, st1, rfl, hX, hY⟩ := hs
  intro ad H locs lr cells slots hag hwf hR hS hL hc hz
  refine lv_icmp_ne F.1 F.2.1 hd ht (fun q => hX q ad H locs lr cells slots hag ⟨hwf.1, by simpa [am_okv] using hwf.2.1, hwf.2.2⟩ hR hS hL hc hz) (fun q => ?_)
  have hw := hY (fun hq => hq q) ad H locs lr cells slots hag ⟨hwf.1, by simpa [am_okv] using hwf.2.1, hwf.2.2⟩ hR hS hL hc hz
  rw [hn] at hw
  exact hw
theorem aj_if_lt (F : am_F p s m args c cc nL own Ts D a0 cA base L0 X0) {t off : Int} (hd : decode cc (pcs k) = .ok (.ifCond .lt off, 3)) (hn : pcs (k + 1) = pcs k + 3) (ht : (pcs k : Int) + off = (pcs t.toNat : Nat)) (hs : am_step rc na C Z (am_J p l e R s m args below meth c Qm nL D a0 cA base L0 X0 n0 z0 pcs) k ls st h (.ifCond .lt t)) : (am_J p l e R s m args below meth c Qm nL D a0 cA base L0 X0 n0 z0 pcs) k ls st h := by
  obtain ⟨x, st1, rfl, hX, hY⟩ := hs
  intro ad H locs lr cells slots hag hwf hR hS hL hc hz
  refine lv_if_lt F.1 F.2.1 hd ht (fun q => hX q ad H locs lr cells slots hag ⟨hwf.1, by simpa [am_okv] using hwf.2.1, hwf.2.2⟩ hR hS hL hc hz) (fun q => ?_)
  have hw := hY q ad H locs lr cells slots hag ⟨hwf.1, by simpa [am_okv] using hwf.2.1, hwf.2.2⟩ hR hS hL hc hz
  rw [hn] at hw
  exact hw
theorem aj_icmp_lt (F : am_F p s m args c cc nL own Ts D a0 cA base L0 X0) {t off : Int} (hd : decode cc (pcs k) = .ok (.if_icmp .lt off, 3)) (hn : pcs (k + 1) = pcs k + 3) (ht : (pcs k : Int) + off = (pcs t.toNat : Nat)) (hs : am_step rc na C Z (am_J p l e R s m args below meth c Qm nL D a0 cA base L0 X0 n0 z0 pcs) k ls st h (.if_icmp .lt t)) : (am_J p l e R s m args below meth c Qm nL D a0 cA base L0 X0 n0 z0 pcs) k ls st h := by
  obtain ⟨x, y, st1, rfl, hX, hY⟩ := hs
  intro ad H locs lr cells slots hag hwf hR hS hL hc hz
  refine lv_icmp_lt F.1 F.2.1 hd ht (fun q => hX q ad H locs lr cells slots hag ⟨hwf.1, by simpa [am_okv] using hwf.2.1, hwf.2.2⟩ hR hS hL hc hz) (fun q => ?_)
  have hw := hY q ad H locs lr cells slots hag ⟨hwf.1, by simpa [am_okv] using hwf.2.1, hwf.2.2⟩ hR hS hL hc hz
  rw [hn] at hw
  exact hw
theorem aj_if_ge (F : am_F p s m args c cc nL own Ts D a0 cA base L0 X0) {t off : Int} (hd : decode cc (pcs k) = .ok (.ifCond .ge off, 3)) (hn : pcs (k + 1) = pcs k + 3) (ht : (pcs k : Int) + off = (pcs t.toNat : Nat)) (hs : am_step rc na C Z (am_J p l e R s m args below meth c Qm nL D a0 cA base L0 X0 n0 z0 pcs) k ls st h (.ifCond .ge t)) : (am_J p l e R s m args below meth c Qm nL D a0 cA base L0 X0 n0 z0 pcs) k ls st h := by
  obtain ⟨x, st1, rfl, hX, hY⟩ := hs
  intro ad H locs lr cells slots hag hwf hR hS hL hc hz
  refine lv_if_ge F.1 F.2.1 hd ht (fun q => hX q ad H locs lr cells slots hag ⟨hwf.1, by simpa [am_okv] using hwf.2.1, hwf.2.2⟩ hR hS hL hc hz) (fun q => ?_)
  have hw := hY q ad H locs lr cells slots hag ⟨hwf.1, by simpa [am_okv] using hwf.2.1, hwf.2.2⟩ hR hS hL hc hz
  rw [hn] at hw
  exact hw
theorem aj_icmp_ge (F : am_F p s m args c cc nL own Ts D a0 cA base L0 X0) {t off : Int} (hd : decode cc (pcs k) = .ok (.if_icmp .ge off, 3)) (hn : pcs (k + 1) = pcs k + 3) (ht : (pcs k : Int) + off = (pcs t.toNat : Nat)) (hs : am_step rc na C Z (am_J p l e R s m args below meth c Qm nL D a0 cA base L0 X0 n0 z0 pcs) k ls st h (.if_icmp .ge t)) : (am_J p l e R s m args below meth c Qm nL D a0 cA base L0 X0 n0 z0 pcs) k ls st h := by
  obtain ⟨x, y, st1, rfl, hX, hY⟩ := hs
  intro ad H locs lr cells slots hag hwf hR hS hL hc hz
  refine lv_icmp_ge F.1 F.2.1 hd ht (fun q => hX q ad H locs lr cells slots hag ⟨hwf.1, by simpa [am_okv] using hwf.2.1, hwf.2.2⟩ hR hS hL hc hz) (fun q => ?_)
  have hw := hY q ad H locs lr cells slots hag ⟨hwf.1, by simpa [am_okv] using hwf.2.1, hwf.2.2⟩ hR hS hL hc hz
  rw [hn] at hw
  exact hw
theorem aj_if_gt (F : am_F p s m args c cc nL own Ts D a0 cA base L0 X0) {t off : Int} (hd : decode cc (pcs k) = .ok (.ifCond .gt off, 3)) (hn : pcs (k + 1) = pcs k + 3) (ht : (pcs k : Int) + off = (pcs t.toNat : Nat)) (hs : am_step rc na C Z (am_J p l e R s m args below meth c Qm nL D a0 cA base L0 X0 n0 z0 pcs) k ls st h (.ifCond .gt t)) : (am_J p l e R s m args below meth c Qm nL D a0 cA base L0 X0 n0 z0 pcs) k ls st h := by
  obtain ⟨x, st1, rfl, hX, hY⟩ := hs
  intro ad H locs lr cells slots hag hwf hR hS hL hc hz
  refine lv_if_gt F.1 F.2.1 hd ht (fun q => hX q ad H locs lr cells slots hag ⟨hwf.1, by simpa [am_okv] using hwf.2.1, hwf.2.2⟩ hR hS hL hc hz) (fun q => ?_)
  have hw := hY q ad H locs lr cells slots hag ⟨hwf.1, by simpa [am_okv] using hwf.2.1, hwf.2.2⟩ hR hS hL hc hz
  rw [hn] at hw
  exact hw
theorem aj_icmp_gt (F : am_F p s m args c cc nL own Ts D a0 cA base L0 X0) {t off : Int} (hd : decode cc (pcs k) = .ok (.if_icmp .gt off, 3)) (hn : pcs (k + 1) = pcs k + 3) (ht : (pcs k : Int) + off = (pcs t.toNat : Nat)) (hs : am_step rc na C Z (am_J p l e R s m args below meth c Qm nL D a0 cA base L0 X0 n0 z0 pcs) k ls st h (.if_icmp .gt t)) : (am_J p l e R s m args below meth c Qm nL D a0 cA base L0 X0 n0 z0 pcs) k ls st h := by
  obtain ⟨x, y, st1, rfl, hX, hY⟩ := hs
  intro ad H locs lr cells slots hag hwf hR hS hL hc hz
  refine lv_icmp_gt F.1 F.2.1 hd ht (fun q => hX q ad H locs lr cells slots hag ⟨hwf.1, by simpa [am_okv] using hwf.2.1, hwf.2.2⟩ hR hS hL hc hz) (fun q => ?_)
  have hw := hY q ad H locs lr cells slots hag ⟨hwf.1, by simpa [am_okv] using hwf.2.1, hwf.2.2⟩ hR hS hL hc hz
  rw [hn] at hw
  exact hw
theorem aj_if_le (F : am_F p s m args c cc nL own Ts D a0 cA base L0 X0) {t off : Int} (hd : decode cc (pcs k) = .ok (.ifCond .le off, 3)) (hn : pcs (k + 1) = pcs k + 3) (ht : (pcs k : Int) + off = (pcs t.toNat : Nat)) (hs : am_step rc na C Z (am_J p l e R s m args below meth c Qm nL D a0 cA base L0 X0 n0 z0 pcs) k ls st h (.ifCond .le t)) : (am_J p l e R s m args below meth c Qm nL D a0 cA base L0 X0 n0 z0 pcs) k ls st h := by
  obtain ⟨x, st1, rfl, hX, hY⟩ := hs
  intro ad H locs lr cells slots hag hwf hR hS hL hc hz
  refine lv_if_le F.1 F.2.1 hd ht (fun q => hX q ad H locs lr cells slots hag ⟨hwf.1, by simpa [am_okv] using hwf.2.1, hwf.2.2⟩ hR hS hL hc hz) (fun q => ?_)
  have hw := hY q ad H locs lr cells slots hag ⟨hwf.1, by simpa [am_okv] using hwf.2.1, hwf.2.2⟩ hR hS hL hc hz
  rw [hn] at hw
  exact hw
theorem aj_icmp_le (F : am_F p s m args c cc nL own Ts D a0 cA base L0 X0) {t off : Int} (hd : decode cc (pcs k) = .ok (.if_icmp .le off, 3)) (hn : pcs (k + 1) = pcs k + 3) (ht : (pcs k : Int) + off = (pcs t.toNat : Nat)) (hs : am_step rc na C Z (am_J p l e R s m args below meth c Qm nL D a0 cA base L0 X0 n0 z0 pcs) k ls st h (.if_icmp .le t)) : (am_J p l e R s m args below meth c Qm nL D a0 cA base L0 X0 n0 z0 pcs) k ls st h := by
  obtain ⟨x, y, st1, rfl, hX, hY⟩ := hs
  intro ad H locs lr cells slots hag hwf hR hS hL hc hz
  refine lv_icmp_le F.1 F.2.1 hd ht (fun q => hX q ad H locs lr cells slots hag ⟨hwf.1, by simpa [am_okv] using hwf.2.1, hwf.2.2⟩ hR hS hL hc hz) (fun q => ?_)
  have hw := hY q ad H locs lr cells slots hag ⟨hwf.1, by simpa [am_okv] using hwf.2.1, hwf.2.2⟩ hR hS hL hc hz
  rw [hn] at hw
  exact hw
theorem aj_ifnull (F : am_F p s m args c cc nL own Ts D a0 cA base L0 X0) {t off : Int} (hd : decode cc (pcs k) = .ok (.ifnull off, 3)) (hn : pcs (k + 1) = pcs k + 3) (ht : (pcs k : Int) + off = (pcs t.toNat : Nat)) (hs : am_step rc na C Z (am_J p l e R s m args below meth c Qm nL D a0 cA base L0 X0 n0 z0 pcs) k ls st h (.ifnull t)) : (am_J p l e R s m args below meth c Qm nL D a0 cA base L0 X0 n0 z0 pcs) k ls st h := by
  rcases hs with ⟨x, st1, rfl, hX⟩ | ⟨st1, rfl, hX⟩
  · intro ad H locs lr cells slots hag hwf hR hS hL hc hz
    have hw := hX ad H locs lr cells slots hag (am_wfs hwf (fun x q => List.mem_cons_of_mem _ q)) hR hS hL hc hz
    rw [hn] at hw
    exact lv_ifnull F.1 F.2.1 hd hw
  · intro ad H locs lr cells slots hag hwf hR hS hL hc hz
    exact lv_ifnullN F.1 F.2.1 hd ht (hX ad H locs lr cells slots hag (am_wfs hwf (fun x q => List.mem_cons_of_mem _ q)) hR hS hL hc hz)
theorem aj_ifnonnull (F : am_F p s m args c cc nL own Ts D a0 cA base L0 X0) {t off : Int} (hd : decode cc (pcs k) = .ok (.ifnonnull off, 3)) (hn : pcs (k + 1) = pcs k + 3) (ht : (pcs k : Int) + off = (pcs t.toNat : Nat)) (hs : am_step rc na C Z (am_J p l e R s m args below meth c Qm nL D a0 cA base L0 X0 n0 z0 pcs) k ls st h (.ifnonnull t)) : (am_J p l e R s m args below meth c Qm nL D a0 cA base L0 X0 n0 z0 pcs) k ls st h := by
  rcases hs with ⟨x, st1, rfl, hX⟩ | ⟨st1, rfl, hX⟩
  · intro ad H locs lr cells slots hag hwf hR hS hL hc hz
    exact lv_ifnonnull F.1 F.2.1 hd ht (hX ad H locs lr cells slots hag (am_wfs hwf (fun x q => List.mem_cons_of_mem _ q)) hR hS hL hc hz)
  · intro ad H locs lr cells slots hag hwf hR hS hL hc hz
    have hw := hX ad H locs lr cells slots hag (am_wfs hwf (fun x q => List.mem_cons_of_mem _ q)) hR hS hL hc hz
    rw [hn] at hw
    exact lv_ifnonnullN F.1 F.2.1 hd hw
end AMB
end
section
section AMC
variable {p : Program} {l : Launch} {e : Env} {R : Room} {s : State} {m : MethodId} {args : Array Value} {below : List Frame} {meth : Method} {c : Code} {Qm : State → Prop} {cc : ByteArray} {nL : Nat} {own : String} {Ts : List Cond} {D : va_G} {a0 : Nat → Nat} {cA : Nat → ClassId} {base : Nat} {L0 : Nat → Nat} {X0 : Nat → Nat → Int32} {n0 z0 : Nat} {pcs : Nat → Nat} {rc na : Nat → Nat} {C : am_C} {Z : am_Q} {k : Nat} {ls : List (Option Value)} {st : List Value} {h : am_H}
variable {ad : Nat → Nat} {H : Heap}
theorem am_tl {n : Nat} {v : Value} {st : List Value} (hw : ∀ w ∈ v :: st, am_okv n w) : ∀ w ∈ st, am_okv n w := fun w q => hw w (List.mem_cons_of_mem _ q)
theorem am_okc {n : Nat} {v : Value} {st : List Value} (hv : am_okv n v) (hw : ∀ w ∈ st, am_okv n w) : ∀ w ∈ v :: st, am_okv n w := fun w q => by
  rcases List.mem_cons.mp q with rfl | q
  · exact hv
  · exact hw w q
theorem am_okr {n : Nat} {r : Option Nat} (hr : ∀ q, r = some q → q < n) : am_okv n (va_rf r) := by
  cases r with
  | none => trivial
  | some q => exact hr q rfl
theorem am_okrf {n : Nat} {r : Option Nat} {st : List Value} (hw : ∀ w ∈ st, am_okv n w) (hr : ∀ q, r = some q → q < n) : ∀ w ∈ va_rf r :: st, am_okv n w := am_okc (am_okr hr) hw
theorem am_wfR {ls : List (Option Value)} {st : List Value} {h : am_H} {p1 j : Nat} {r : Option Nat} {w : Value} (hwf : am_wf ls (va_rf r :: w :: st) h) : am_wf ls st (h.1, h.2.1, h.2.2.1, am_u h.2.2.2 p1 j r) := by
  refine ⟨hwf.1, am_tl (am_tl hwf.2.1), fun a b q hq => ?_⟩
  have hq : am_u h.2.2.2 p1 j r a b = some q := hq
  unfold am_u va_up at hq
  split at hq
  · dsimp only at hq
    split at hq
    · subst hq
      exact hwf.2.1 (.ref q) List.mem_cons_self
    · exact hwf.2.2 p1 b q hq
  · exact hwf.2.2 a b q hq
theorem am_pl (hR : am_rel D ad cA base L0 X0 h H) {p t n : Nat} (hp : h.1[p]? = some (t, n)) (ht : ¬ t = 50) : 4 ≤ p := by
  rcases Nat.lt_or_ge p 4 with q | q
  · have := (hR.2.2.2.1 p q).1
    rw [hp] at this
    cases this
    exact absurd rfl ht
  · exact q
theorem am_fsl {p t n j : Nat} (hj : j < n) : ((List.range n).map (am_fv ad h p t))[j]? = some (am_fv ad h p t j) := by
  rw [List.getElem?_map, List.getElem?_range hj]
  rfl
/-- the same shapes, one cell other: the relation behind a store -/
theorem am_rel_set {h' : am_H} {H1 : Heap} (hR : am_rel D ad cA base L0 X0 h H) {p : Nat} {e1 : va_E} (h4 : 4 ≤ p) (hp : p < h.1.length) (hl : h'.1 = h.1) (he : am_el ad cA h' p = e1) (ho : ∀ q, q ≠ p → am_el ad cA h' q = am_el ad cA h q) (hI : ∀ j, j < 4 → h'.2.1 j = h.2.1 j)
    (hP : va_P D am_cl ((am_ws ad cA h).set (p - 4) (ad p, e1)) H1) (hD : va_D (fun q => base ≤ q) ((am_ws ad cA h).set (p - 4) (ad p, e1))) : am_rel D ad cA base L0 X0 h' H1 := by
  rw [am_ws_set h4 hp hl he ho] at hP hD
  obtain ⟨-, -, h3, h5, h6⟩ := hR
  refine ⟨hP, hD, by rw [hl]; exact h3, fun j hj => ?_, by rw [hl]; exact h6⟩
  rw [hl, hI j hj]
  exact h5 j hj
theorem am_el_oI {h : am_H} {I' : Nat → Nat → Int32} {q : Nat} (hq : I' q = h.2.1 q) : am_el ad cA (h.1, I', h.2.2) q = am_el ad cA h q := by
  unfold am_el
  cases hs : h.1[q]? with
  | none => simp
  | some x =>
    obtain ⟨t, n⟩ := x
    have hfv : am_fv ad (h.1, I', h.2.2) q t = am_fv ad h q t := by
      funext j
      unfold am_fv
      simp [hq]
    simp [hfv, hq]
theorem am_el_oL {h : am_H} {I' : Nat → Nat → Int64} {q : Nat} (hq : I' q = h.2.2.1 q) : am_el ad cA (h.1, h.2.1, I', h.2.2.2) q = am_el ad cA h q := by
  unfold am_el
  cases hs : h.1[q]? with
  | none => simp
  | some x =>
    obtain ⟨t, n⟩ := x
    have hfv : am_fv ad (h.1, h.2.1, I', h.2.2.2) q t = am_fv ad h q t := by
      funext j
      unfold am_fv
      simp [hq]
    simp [hfv, hq]
theorem am_el_oR {h : am_H} {I' : Nat → Nat → Option Nat} {q : Nat} (hq : I' q = h.2.2.2 q) : am_el ad cA (h.1, h.2.1, h.2.2.1, I') q = am_el ad cA h q := by
  unfold am_el
  cases hs : h.1[q]? with
  | none => simp
  | some x =>
    obtain ⟨t, n⟩ := x
    have hfv : am_fv ad (h.1, h.2.1, h.2.2.1, I') q t = am_fv ad h q t := by
      funext j
      unfold am_fv
      simp [hq]
    simp [hfv, hq]
theorem am_up_ne {α : Type} {f : Nat → α} {k j : Nat} {v : α} (hj : j ≠ k) : va_up f k v j = f j := by simp [va_up, hj]
theorem am_up_eq {α : Type} {f : Nat → α} {k : Nat} {v : α} : va_up f k v k = v := by simp [va_up]
theorem am_u_ne {α : Type} {f : Nat → Nat → α} {p k q : Nat} {v : α} (hq : q ≠ p) : am_u f p k v q = f q := by simp [am_u, va_up, hq]
theorem am_u_at {α : Type} {f : Nat → Nat → α} {p k : Nat} {v : α} : am_u f p k v p = va_up (f p) k v := by simp [am_u, va_up]
theorem am_list_set {n j : Nat} {f g : Nat → Value} (hj : j < n) (hg : ∀ i, i ≠ j → g i = f i) : ((List.range n).map f).set j (g j) = (List.range n).map g := by
  apply List.ext_getElem?
  intro i
  rw [List.getElem?_set]
  by_cases hi : j = i
  · subst hi
    rw [if_pos rfl, if_pos (by simpa using hj), List.getElem?_map, List.getElem?_range hj]
    rfl
  · rw [if_neg hi, List.getElem?_map, List.getElem?_map]
    by_cases hlt : i < n
    · rw [List.getElem?_range hlt]
      simp [hg i (fun z => hi z.symm)]
    · rw [List.getElem?_eq_none (by simp; omega)]
      rfl
theorem aj_getI (F : am_F p s m args c cc nL own Ts D a0 cA base L0 X0) {q idx : Nat} {Cn : String} {T : u_T} {N : Nat} (hcl : am_cl[q / 100]? = some (Cn, T, N)) (hq : q / 100 < 50) (hk : q % 100 < N) (hT : (T (q % 100)).1 = Cn) (hin : ∀ w ∈ u_ws Cn T N, w ∈ lw_tbl) (hkd : ¬ (am_fk.getD (q / 100) []).getD (q % 100) 0 = 1) (hkd2 : ¬ (am_fk.getD (q / 100) []).getD (q % 100) 0 = 2) (hlk : .fieldLink own idx Cn (T (q % 100)).2.1 (T (q % 100)).2.2.1 ∈ lw_tbl) (hd : decode cc (pcs k) = .ok (.getfield idx, 3)) (hn : pcs (k + 1) = pcs k + 3) (hs : am_step rc na C Z (am_J p l e R s m args below meth c Qm nL D a0 cA base L0 X0 n0 z0 pcs) k ls st h (.getfield q)) : (am_J p l e R s m args below meth c Qm nL D a0 cA base L0 X0 n0 z0 pcs) k ls st h := by
  obtain ⟨p1, n, st1, rfl, hp, hX⟩ := hs
  intro ad H locs lr cells slots hag hwf hR hS hL hc hz
  have hw := hX ad H locs lr cells slots hag ⟨hwf.1, am_okc trivial (am_tl hwf.2.1), hwf.2.2⟩ hR hS hL hc hz
  rw [hn] at hw
  obtain ⟨C2, T2, h2⟩ := hR.2.2.2.2 p1 _ hp hq
  have hCT : (C2, T2, n) = (Cn, T, N) := Option.some.inj (h2.symm.trans hcl)
  cases hCT
  have hw' := am_ws_at (ad := ad) (cA := cA) (am_pl hR hp (by omega)) (am_lt hp)
  rw [am_el_obj hp hq] at hw'
  refine va_get (D := D) (v := .int (h.2.1 p1 (q % 100))) F.1 F.2.1 F.2.2.2.2.1 (fun w hw => F.2.2.2.2.2.1 w (hin w hw)) F.2.2.2.1 F.2.2.2.2.2.2.1 hR.1 (p1 - 4) hw' hcl (q % 100) hk (F.2.2.2.2.1 _ (F.2.2.2.2.2.1 _ hlk)) (fun x hx => by rw [hT] at hx; exact hx) ?_ hd hw
  rw [am_fsl hk]
  unfold am_fv
  split
  · exact absurd (by assumption) hkd
  · exact absurd (by assumption) hkd2
  · rfl
theorem aj_getIN (F : am_F p s m args c cc nL own Ts D a0 cA base L0 X0) {q idx : Nat} {Cn : String} {T : u_T} {N : Nat} (hcl : am_cl[q / 100]? = some (Cn, T, N)) (hq : q / 100 < 50) (hk : q % 100 < N) (hT : (T (q % 100)).1 = Cn) (hin : ∀ w ∈ u_ws Cn T N, w ∈ lw_tbl) {host : String} (hkd : ¬ (am_fk.getD (q / 100) []).getD (q % 100) 0 = 1) (hkd2 : ¬ (am_fk.getD (q / 100) []).getD (q % 100) 0 = 2) (hlk : .fieldLinkNest own idx Cn (T (q % 100)).2.1 (T (q % 100)).2.2.1 host ∈ lw_tbl) (hd : decode cc (pcs k) = .ok (.getfield idx, 3)) (hn : pcs (k + 1) = pcs k + 3) (hs : am_step rc na C Z (am_J p l e R s m args below meth c Qm nL D a0 cA base L0 X0 n0 z0 pcs) k ls st h (.getfield q)) : (am_J p l e R s m args below meth c Qm nL D a0 cA base L0 X0 n0 z0 pcs) k ls st h := by
  obtain ⟨p1, n, st1, rfl, hp, hX⟩ := hs
  intro ad H locs lr cells slots hag hwf hR hS hL hc hz
  have hw := hX ad H locs lr cells slots hag ⟨hwf.1, am_okc trivial (am_tl hwf.2.1), hwf.2.2⟩ hR hS hL hc hz
  rw [hn] at hw
  obtain ⟨C2, T2, h2⟩ := hR.2.2.2.2 p1 _ hp hq
  have hCT : (C2, T2, n) = (Cn, T, N) := Option.some.inj (h2.symm.trans hcl)
  cases hCT
  have hw' := am_ws_at (ad := ad) (cA := cA) (am_pl hR hp (by omega)) (am_lt hp)
  rw [am_el_obj hp hq] at hw'
  refine va_getN (D := D) (v := .int (h.2.1 p1 (q % 100))) F.1 F.2.1 F.2.2.2.2.1 (fun w hw => F.2.2.2.2.2.1 w (hin w hw)) F.2.2.2.1 F.2.2.2.2.2.2.1 hR.1 (p1 - 4) hw' hcl (q % 100) hk (F.2.2.2.2.1 _ (F.2.2.2.2.2.1 _ hlk)) (fun x hx => by rw [hT] at hx; exact hx) ?_ hd hw
  rw [am_fsl hk]
  unfold am_fv
  split
  · exact absurd (by assumption) hkd
  · exact absurd (by assumption) hkd2
  · rfl
theorem aj_getL (F : am_F p s m args c cc nL own Ts D a0 cA base L0 X0) {q idx : Nat} {Cn : String} {T : u_T} {N : Nat} (hcl : am_cl[q / 100]? = some (Cn, T, N)) (hq : q / 100 < 50) (hk : q % 100 < N) (hT : (T (q % 100)).1 = Cn) (hin : ∀ w ∈ u_ws Cn T N, w ∈ lw_tbl) (hkd : (am_fk.getD (q / 100) []).getD (q % 100) 0 = 1) (hlk : .fieldLink own idx Cn (T (q % 100)).2.1 (T (q % 100)).2.2.1 ∈ lw_tbl) (hd : decode cc (pcs k) = .ok (.getfield idx, 3)) (hn : pcs (k + 1) = pcs k + 3) (hs : am_step rc na C Z (am_J p l e R s m args below meth c Qm nL D a0 cA base L0 X0 n0 z0 pcs) k ls st h (.fload q)) : (am_J p l e R s m args below meth c Qm nL D a0 cA base L0 X0 n0 z0 pcs) k ls st h := by
  obtain ⟨p1, n, st1, rfl, hp, hX⟩ := hs
  intro ad H locs lr cells slots hag hwf hR hS hL hc hz
  have hw := hX ad H locs lr cells slots hag ⟨hwf.1, am_okc trivial (am_tl hwf.2.1), hwf.2.2⟩ hR hS hL hc hz
  rw [hn] at hw
  obtain ⟨C2, T2, h2⟩ := hR.2.2.2.2 p1 _ hp hq
  have hCT : (C2, T2, n) = (Cn, T, N) := Option.some.inj (h2.symm.trans hcl)
  cases hCT
  have hw' := am_ws_at (ad := ad) (cA := cA) (am_pl hR hp (by omega)) (am_lt hp)
  rw [am_el_obj hp hq] at hw'
  refine va_get (D := D) (v := .long (h.2.2.1 p1 (q % 100))) F.1 F.2.1 F.2.2.2.2.1 (fun w hw => F.2.2.2.2.2.1 w (hin w hw)) F.2.2.2.1 F.2.2.2.2.2.2.1 hR.1 (p1 - 4) hw' hcl (q % 100) hk (F.2.2.2.2.1 _ (F.2.2.2.2.2.1 _ hlk)) (fun x hx => by rw [hT] at hx; exact hx) ?_ hd hw
  rw [am_fsl hk]
  unfold am_fv
  simp only [hkd]
theorem aj_getLN (F : am_F p s m args c cc nL own Ts D a0 cA base L0 X0) {q idx : Nat} {Cn : String} {T : u_T} {N : Nat} (hcl : am_cl[q / 100]? = some (Cn, T, N)) (hq : q / 100 < 50) (hk : q % 100 < N) (hT : (T (q % 100)).1 = Cn) (hin : ∀ w ∈ u_ws Cn T N, w ∈ lw_tbl) {host : String} (hkd : (am_fk.getD (q / 100) []).getD (q % 100) 0 = 1) (hlk : .fieldLinkNest own idx Cn (T (q % 100)).2.1 (T (q % 100)).2.2.1 host ∈ lw_tbl) (hd : decode cc (pcs k) = .ok (.getfield idx, 3)) (hn : pcs (k + 1) = pcs k + 3) (hs : am_step rc na C Z (am_J p l e R s m args below meth c Qm nL D a0 cA base L0 X0 n0 z0 pcs) k ls st h (.fload q)) : (am_J p l e R s m args below meth c Qm nL D a0 cA base L0 X0 n0 z0 pcs) k ls st h := by
  obtain ⟨p1, n, st1, rfl, hp, hX⟩ := hs
  intro ad H locs lr cells slots hag hwf hR hS hL hc hz
  have hw := hX ad H locs lr cells slots hag ⟨hwf.1, am_okc trivial (am_tl hwf.2.1), hwf.2.2⟩ hR hS hL hc hz
  rw [hn] at hw
  obtain ⟨C2, T2, h2⟩ := hR.2.2.2.2 p1 _ hp hq
  have hCT : (C2, T2, n) = (Cn, T, N) := Option.some.inj (h2.symm.trans hcl)
  cases hCT
  have hw' := am_ws_at (ad := ad) (cA := cA) (am_pl hR hp (by omega)) (am_lt hp)
  rw [am_el_obj hp hq] at hw'
  refine va_getN (D := D) (v := .long (h.2.2.1 p1 (q % 100))) F.1 F.2.1 F.2.2.2.2.1 (fun w hw => F.2.2.2.2.2.1 w (hin w hw)) F.2.2.2.1 F.2.2.2.2.2.2.1 hR.1 (p1 - 4) hw' hcl (q % 100) hk (F.2.2.2.2.1 _ (F.2.2.2.2.2.1 _ hlk)) (fun x hx => by rw [hT] at hx; exact hx) ?_ hd hw
  rw [am_fsl hk]
  unfold am_fv
  simp only [hkd]
theorem aj_getR (F : am_F p s m args c cc nL own Ts D a0 cA base L0 X0) {q idx : Nat} {Cn : String} {T : u_T} {N : Nat} (hcl : am_cl[q / 100]? = some (Cn, T, N)) (hq : q / 100 < 50) (hk : q % 100 < N) (hT : (T (q % 100)).1 = Cn) (hin : ∀ w ∈ u_ws Cn T N, w ∈ lw_tbl) (hkd : (am_fk.getD (q / 100) []).getD (q % 100) 0 = 2) (hlk : .fieldLink own idx Cn (T (q % 100)).2.1 (T (q % 100)).2.2.1 ∈ lw_tbl) (hd : decode cc (pcs k) = .ok (.getfield idx, 3)) (hn : pcs (k + 1) = pcs k + 3) (hs : am_step rc na C Z (am_J p l e R s m args below meth c Qm nL D a0 cA base L0 X0 n0 z0 pcs) k ls st h (.dload q)) : (am_J p l e R s m args below meth c Qm nL D a0 cA base L0 X0 n0 z0 pcs) k ls st h := by
  obtain ⟨p1, n, st1, rfl, hp, hX⟩ := hs
  intro ad H locs lr cells slots hag hwf hR hS hL hc hz
  have hw := hX ad H locs lr cells slots hag ⟨hwf.1, am_okrf (am_tl hwf.2.1) (hwf.2.2 p1 (q % 100)), hwf.2.2⟩ hR hS hL hc hz
  rw [hn] at hw
  obtain ⟨C2, T2, h2⟩ := hR.2.2.2.2 p1 _ hp hq
  have hCT : (C2, T2, n) = (Cn, T, N) := Option.some.inj (h2.symm.trans hcl)
  cases hCT
  have hw' := am_ws_at (ad := ad) (cA := cA) (am_pl hR hp (by omega)) (am_lt hp)
  rw [am_el_obj hp hq] at hw'
  refine va_get (D := D) (v := am_vv ad (va_rf (h.2.2.2 p1 (q % 100)))) F.1 F.2.1 F.2.2.2.2.1 (fun w hw => F.2.2.2.2.2.1 w (hin w hw)) F.2.2.2.1 F.2.2.2.2.2.2.1 hR.1 (p1 - 4) hw' hcl (q % 100) hk (F.2.2.2.2.1 _ (F.2.2.2.2.2.1 _ hlk)) (fun x hx => by rw [hT] at hx; exact hx) ?_ hd hw
  rw [am_fsl hk]
  unfold am_fv
  simp only [hkd, am_vv_rf]
theorem aj_getRN (F : am_F p s m args c cc nL own Ts D a0 cA base L0 X0) {q idx : Nat} {Cn : String} {T : u_T} {N : Nat} (hcl : am_cl[q / 100]? = some (Cn, T, N)) (hq : q / 100 < 50) (hk : q % 100 < N) (hT : (T (q % 100)).1 = Cn) (hin : ∀ w ∈ u_ws Cn T N, w ∈ lw_tbl) {host : String} (hkd : (am_fk.getD (q / 100) []).getD (q % 100) 0 = 2) (hlk : .fieldLinkNest own idx Cn (T (q % 100)).2.1 (T (q % 100)).2.2.1 host ∈ lw_tbl) (hd : decode cc (pcs k) = .ok (.getfield idx, 3)) (hn : pcs (k + 1) = pcs k + 3) (hs : am_step rc na C Z (am_J p l e R s m args below meth c Qm nL D a0 cA base L0 X0 n0 z0 pcs) k ls st h (.dload q)) : (am_J p l e R s m args below meth c Qm nL D a0 cA base L0 X0 n0 z0 pcs) k ls st h := by
  obtain ⟨p1, n, st1, rfl, hp, hX⟩ := hs
  intro ad H locs lr cells slots hag hwf hR hS hL hc hz
  have hw := hX ad H locs lr cells slots hag ⟨hwf.1, am_okrf (am_tl hwf.2.1) (hwf.2.2 p1 (q % 100)), hwf.2.2⟩ hR hS hL hc hz
  rw [hn] at hw
  obtain ⟨C2, T2, h2⟩ := hR.2.2.2.2 p1 _ hp hq
  have hCT : (C2, T2, n) = (Cn, T, N) := Option.some.inj (h2.symm.trans hcl)
  cases hCT
  have hw' := am_ws_at (ad := ad) (cA := cA) (am_pl hR hp (by omega)) (am_lt hp)
  rw [am_el_obj hp hq] at hw'
  refine va_getN (D := D) (v := am_vv ad (va_rf (h.2.2.2 p1 (q % 100)))) F.1 F.2.1 F.2.2.2.2.1 (fun w hw => F.2.2.2.2.2.1 w (hin w hw)) F.2.2.2.1 F.2.2.2.2.2.2.1 hR.1 (p1 - 4) hw' hcl (q % 100) hk (F.2.2.2.2.1 _ (F.2.2.2.2.2.1 _ hlk)) (fun x hx => by rw [hT] at hx; exact hx) ?_ hd hw
  rw [am_fsl hk]
  unfold am_fv
  simp only [hkd, am_vv_rf]
theorem aj_putI (F : am_F p s m args c cc nL own Ts D a0 cA base L0 X0) {q idx : Nat} {Cn : String} {T : u_T} {N : Nat} (hcl : am_cl[q / 100]? = some (Cn, T, N)) (hq : q / 100 < 50) (hk : q % 100 < N) (hT : (T (q % 100)).1 = Cn) (hin : ∀ w ∈ u_ws Cn T N, w ∈ lw_tbl) (ty0 : Nat → FieldType) (hty : ∀ k, k < N → parseFieldDescriptor (T k).2.2.1 = some (ty0 k)) (hnm : ∀ a, a < N → ∀ b, b < N → a ≠ b → (T a).2.1 ≠ (T b).2.1) (htk : ty0 (q % 100) = .int) (hfin : (T (q % 100)).2.2.2 = false) (hkd : ¬ (am_fk.getD (q / 100) []).getD (q % 100) 0 = 1) (hkd2 : ¬ (am_fk.getD (q / 100) []).getD (q % 100) 0 = 2) (hlk : .fieldLink own idx Cn (T (q % 100)).2.1 (T (q % 100)).2.2.1 ∈ lw_tbl) (hd : decode cc (pcs k) = .ok (.putfield idx, 3)) (hn : pcs (k + 1) = pcs k + 3) (hs : am_step rc na C Z (am_J p l e R s m args below meth c Qm nL D a0 cA base L0 X0 n0 z0 pcs) k ls st h (.putfield q)) : (am_J p l e R s m args below meth c Qm nL D a0 cA base L0 X0 n0 z0 pcs) k ls st h := by
  obtain ⟨p1, n, x, st1, rfl, hp, hX⟩ := hs
  intro ad H locs lr cells slots hag hwf hR hS hL hc hz
  obtain ⟨C2, T2, h2⟩ := hR.2.2.2.2 p1 _ hp hq
  have hCT : (C2, T2, n) = (Cn, T, N) := Option.some.inj (h2.symm.trans hcl)
  cases hCT
  have h4 := am_pl hR hp (by omega)
  have hw' := am_ws_at (ad := ad) (cA := cA) h4 (am_lt hp)
  rw [am_el_obj hp hq] at hw'
  skip
  refine va_put (D := D) (v := .int x) (ty := .int) F.1 F.2.1 F.2.2.2.2.1 (fun w hw => F.2.2.2.2.2.1 w (hin w hw)) ty0 hty hnm F.2.2.2.1 F.2.2.2.2.2.2.1 hR.1 hR.2.1 hS (p1 - 4) hw' hcl (q % 100) hk (F.2.2.2.2.1 _ (F.2.2.2.2.2.1 _ hlk)) (fun x hx => by rw [hT] at hx; exact hx) hfin (by rw [hty _ hk, htk]) rfl rfl (by simpa using hk) hd (fun H1 locs1 hP1 hD1 hS1 => ?_)
  have hw := hX ad H1 locs1 lr cells slots hag ⟨hwf.1, am_tl (am_tl hwf.2.1), hwf.2.2⟩ (am_rel_set (p := p1) hR h4 (am_lt hp) rfl ?_ (fun z hz => am_el_oI (am_u_ne hz)) (fun j hj => am_u_ne (by have := am_pl hR hp (by omega); omega)) hP1 hD1) hS1 hL hc hz
  · rw [hn] at hw
    exact hw
  · rw [am_el_obj (h := (h.1, am_u h.2.1 p1 (q % 100) x, h.2.2)) hp hq]
    have hval : .int x = am_fv ad (h.1, am_u h.2.1 p1 (q % 100) x, h.2.2) p1 (q / 100) (q % 100) := by
      unfold am_fv
      dsimp only; rw [am_u_at, am_up_eq]; split
      · exact absurd (by assumption) hkd
      · exact absurd (by assumption) hkd2
      · rfl
    rw [hval]
    congr 2
    refine (am_list_set hk (fun i hi => ?_)).symm
    unfold am_fv
    simp only [am_u_at, am_up_ne hi]
theorem aj_putIF (F : am_F p s m args c cc nL own Ts D a0 cA base L0 X0) {q idx : Nat} {Cn : String} {T : u_T} {N : Nat} (hcl : am_cl[q / 100]? = some (Cn, T, N)) (hq : q / 100 < 50) (hk : q % 100 < N) (hT : (T (q % 100)).1 = Cn) (hin : ∀ w ∈ u_ws Cn T N, w ∈ lw_tbl) (ty0 : Nat → FieldType) (hty : ∀ k, k < N → parseFieldDescriptor (T k).2.2.1 = some (ty0 k)) (hnm : ∀ a, a < N → ∀ b, b < N → a ≠ b → (T a).2.1 ≠ (T b).2.1) (htk : ty0 (q % 100) = .int) (hfin : (T (q % 100)).2.2.2 = true) (hini : meth.name = "<init>") (hown : Cn = own) (hkd : ¬ (am_fk.getD (q / 100) []).getD (q % 100) 0 = 1) (hkd2 : ¬ (am_fk.getD (q / 100) []).getD (q % 100) 0 = 2) (hlk : .fieldLink own idx Cn (T (q % 100)).2.1 (T (q % 100)).2.2.1 ∈ lw_tbl) (hd : decode cc (pcs k) = .ok (.putfield idx, 3)) (hn : pcs (k + 1) = pcs k + 3) (hs : am_step rc na C Z (am_J p l e R s m args below meth c Qm nL D a0 cA base L0 X0 n0 z0 pcs) k ls st h (.putfield q)) : (am_J p l e R s m args below meth c Qm nL D a0 cA base L0 X0 n0 z0 pcs) k ls st h := by
  obtain ⟨p1, n, x, st1, rfl, hp, hX⟩ := hs
  intro ad H locs lr cells slots hag hwf hR hS hL hc hz
  obtain ⟨C2, T2, h2⟩ := hR.2.2.2.2 p1 _ hp hq
  have hCT : (C2, T2, n) = (Cn, T, N) := Option.some.inj (h2.symm.trans hcl)
  cases hCT
  have h4 := am_pl hR hp (by omega)
  have hw' := am_ws_at (ad := ad) (cA := cA) h4 (am_lt hp)
  rw [am_el_obj hp hq] at hw'
  skip
  refine va_putF (D := D) (v := .int x) (ty := .int) F.1 F.2.1 F.2.2.2.2.1 (fun w hw => F.2.2.2.2.2.1 w (hin w hw)) ty0 hty hnm F.2.2.2.1 F.2.2.2.2.2.2.1 hR.1 hR.2.1 hS (p1 - 4) hw' hcl (q % 100) hk (F.2.2.2.2.1 _ (F.2.2.2.2.2.1 _ hlk)) (fun x hx => by rw [hT] at hx; exact hx) hfin hini (by rw [hT]; exact hown) (by rw [hty _ hk, htk]) rfl rfl (by simpa using hk) hd (fun H1 locs1 hP1 hD1 hS1 => ?_)
  have hw := hX ad H1 locs1 lr cells slots hag ⟨hwf.1, am_tl (am_tl hwf.2.1), hwf.2.2⟩ (am_rel_set (p := p1) hR h4 (am_lt hp) rfl ?_ (fun z hz => am_el_oI (am_u_ne hz)) (fun j hj => am_u_ne (by have := am_pl hR hp (by omega); omega)) hP1 hD1) hS1 hL hc hz
  · rw [hn] at hw
    exact hw
  · rw [am_el_obj (h := (h.1, am_u h.2.1 p1 (q % 100) x, h.2.2)) hp hq]
    have hval : .int x = am_fv ad (h.1, am_u h.2.1 p1 (q % 100) x, h.2.2) p1 (q / 100) (q % 100) := by
      unfold am_fv
      dsimp only; rw [am_u_at, am_up_eq]; split
      · exact absurd (by assumption) hkd
      · exact absurd (by assumption) hkd2
      · rfl
    rw [hval]
    congr 2
    refine (am_list_set hk (fun i hi => ?_)).symm
    unfold am_fv
    simp only [am_u_at, am_up_ne hi]
theorem aj_putIN (F : am_F p s m args c cc nL own Ts D a0 cA base L0 X0) {q idx : Nat} {Cn : String} {T : u_T} {N : Nat} (hcl : am_cl[q / 100]? = some (Cn, T, N)) (hq : q / 100 < 50) (hk : q % 100 < N) (hT : (T (q % 100)).1 = Cn) (hin : ∀ w ∈ u_ws Cn T N, w ∈ lw_tbl) {host : String} (ty0 : Nat → FieldType) (hty : ∀ k, k < N → parseFieldDescriptor (T k).2.2.1 = some (ty0 k)) (hnm : ∀ a, a < N → ∀ b, b < N → a ≠ b → (T a).2.1 ≠ (T b).2.1) (htk : ty0 (q % 100) = .int) (hfin : (T (q % 100)).2.2.2 = false) (hkd : ¬ (am_fk.getD (q / 100) []).getD (q % 100) 0 = 1) (hkd2 : ¬ (am_fk.getD (q / 100) []).getD (q % 100) 0 = 2) (hlk : .fieldLinkNest own idx Cn (T (q % 100)).2.1 (T (q % 100)).2.2.1 host ∈ lw_tbl) (hd : decode cc (pcs k) = .ok (.putfield idx, 3)) (hn : pcs (k + 1) = pcs k + 3) (hs : am_step rc na C Z (am_J p l e R s m args below meth c Qm nL D a0 cA base L0 X0 n0 z0 pcs) k ls st h (.putfield q)) : (am_J p l e R s m args below meth c Qm nL D a0 cA base L0 X0 n0 z0 pcs) k ls st h := by
  obtain ⟨p1, n, x, st1, rfl, hp, hX⟩ := hs
  intro ad H locs lr cells slots hag hwf hR hS hL hc hz
  obtain ⟨C2, T2, h2⟩ := hR.2.2.2.2 p1 _ hp hq
  have hCT : (C2, T2, n) = (Cn, T, N) := Option.some.inj (h2.symm.trans hcl)
  cases hCT
  have h4 := am_pl hR hp (by omega)
  have hw' := am_ws_at (ad := ad) (cA := cA) h4 (am_lt hp)
  rw [am_el_obj hp hq] at hw'
  skip
  refine va_putN (D := D) (v := .int x) (ty := .int) F.1 F.2.1 F.2.2.2.2.1 (fun w hw => F.2.2.2.2.2.1 w (hin w hw)) ty0 hty hnm F.2.2.2.1 F.2.2.2.2.2.2.1 hR.1 hR.2.1 hS (p1 - 4) hw' hcl (q % 100) hk (F.2.2.2.2.1 _ (F.2.2.2.2.2.1 _ hlk)) (fun x hx => by rw [hT] at hx; exact hx) hfin (by rw [hty _ hk, htk]) rfl rfl (by simpa using hk) hd (fun H1 locs1 hP1 hD1 hS1 => ?_)
  have hw := hX ad H1 locs1 lr cells slots hag ⟨hwf.1, am_tl (am_tl hwf.2.1), hwf.2.2⟩ (am_rel_set (p := p1) hR h4 (am_lt hp) rfl ?_ (fun z hz => am_el_oI (am_u_ne hz)) (fun j hj => am_u_ne (by have := am_pl hR hp (by omega); omega)) hP1 hD1) hS1 hL hc hz
  · rw [hn] at hw
    exact hw
  · rw [am_el_obj (h := (h.1, am_u h.2.1 p1 (q % 100) x, h.2.2)) hp hq]
    have hval : .int x = am_fv ad (h.1, am_u h.2.1 p1 (q % 100) x, h.2.2) p1 (q / 100) (q % 100) := by
      unfold am_fv
      dsimp only; rw [am_u_at, am_up_eq]; split
      · exact absurd (by assumption) hkd
      · exact absurd (by assumption) hkd2
      · rfl
    rw [hval]
    congr 2
    refine (am_list_set hk (fun i hi => ?_)).symm
    unfold am_fv
    simp only [am_u_at, am_up_ne hi]
theorem aj_putZ (F : am_F p s m args c cc nL own Ts D a0 cA base L0 X0) {q idx : Nat} {Cn : String} {T : u_T} {N : Nat} (hcl : am_cl[q / 100]? = some (Cn, T, N)) (hq : q / 100 < 50) (hk : q % 100 < N) (hT : (T (q % 100)).1 = Cn) (hin : ∀ w ∈ u_ws Cn T N, w ∈ lw_tbl) (ty0 : Nat → FieldType) (hty : ∀ k, k < N → parseFieldDescriptor (T k).2.2.1 = some (ty0 k)) (hnm : ∀ a, a < N → ∀ b, b < N → a ≠ b → (T a).2.1 ≠ (T b).2.1) (htk : ty0 (q % 100) = .boolean) (hfin : (T (q % 100)).2.2.2 = false) (hkd : ¬ (am_fk.getD (q / 100) []).getD (q % 100) 0 = 1) (hkd2 : ¬ (am_fk.getD (q / 100) []).getD (q % 100) 0 = 2) (hlk : .fieldLink own idx Cn (T (q % 100)).2.1 (T (q % 100)).2.2.1 ∈ lw_tbl) (hd : decode cc (pcs k) = .ok (.putfield idx, 3)) (hn : pcs (k + 1) = pcs k + 3) (hs : am_step rc na C Z (am_J p l e R s m args below meth c Qm nL D a0 cA base L0 X0 n0 z0 pcs) k ls st h (.putstatic q)) : (am_J p l e R s m args below meth c Qm nL D a0 cA base L0 X0 n0 z0 pcs) k ls st h := by
  obtain ⟨p1, n, x, st1, rfl, hx01, hp, hX⟩ := hs
  intro ad H locs lr cells slots hag hwf hR hS hL hc hz
  obtain ⟨C2, T2, h2⟩ := hR.2.2.2.2 p1 _ hp hq
  have hCT : (C2, T2, n) = (Cn, T, N) := Option.some.inj (h2.symm.trans hcl)
  cases hCT
  have h4 := am_pl hR hp (by omega)
  have hw' := am_ws_at (ad := ad) (cA := cA) h4 (am_lt hp)
  rw [am_el_obj hp hq] at hw'
  skip
  refine va_put (D := D) (v := .int x) (ty := .boolean) F.1 F.2.1 F.2.2.2.2.1 (fun w hw => F.2.2.2.2.2.1 w (hin w hw)) ty0 hty hnm F.2.2.2.1 F.2.2.2.2.2.2.1 hR.1 hR.2.1 hS (p1 - 4) hw' hcl (q % 100) hk (F.2.2.2.2.1 _ (F.2.2.2.2.2.1 _ hlk)) (fun x hx => by rw [hT] at hx; exact hx) hfin (by rw [hty _ hk, htk]) (by rcases hx01 with rfl | rfl <;> rfl) (by rcases hx01 with rfl | rfl <;> rfl) (by simpa using hk) hd (fun H1 locs1 hP1 hD1 hS1 => ?_)
  have hw := hX ad H1 locs1 lr cells slots hag ⟨hwf.1, am_tl (am_tl hwf.2.1), hwf.2.2⟩ (am_rel_set (p := p1) hR h4 (am_lt hp) rfl ?_ (fun z hz => am_el_oI (am_u_ne hz)) (fun j hj => am_u_ne (by have := am_pl hR hp (by omega); omega)) hP1 hD1) hS1 hL hc hz
  · rw [hn] at hw
    exact hw
  · rw [am_el_obj (h := (h.1, am_u h.2.1 p1 (q % 100) x, h.2.2)) hp hq]
    have hval : .int x = am_fv ad (h.1, am_u h.2.1 p1 (q % 100) x, h.2.2) p1 (q / 100) (q % 100) := by
      unfold am_fv
      dsimp only; rw [am_u_at, am_up_eq]; split
      · exact absurd (by assumption) hkd
      · exact absurd (by assumption) hkd2
      · rfl
    rw [hval]
    congr 2
    refine (am_list_set hk (fun i hi => ?_)).symm
    unfold am_fv
    simp only [am_u_at, am_up_ne hi]
theorem aj_putZF (F : am_F p s m args c cc nL own Ts D a0 cA base L0 X0) {q idx : Nat} {Cn : String} {T : u_T} {N : Nat} (hcl : am_cl[q / 100]? = some (Cn, T, N)) (hq : q / 100 < 50) (hk : q % 100 < N) (hT : (T (q % 100)).1 = Cn) (hin : ∀ w ∈ u_ws Cn T N, w ∈ lw_tbl) (ty0 : Nat → FieldType) (hty : ∀ k, k < N → parseFieldDescriptor (T k).2.2.1 = some (ty0 k)) (hnm : ∀ a, a < N → ∀ b, b < N → a ≠ b → (T a).2.1 ≠ (T b).2.1) (htk : ty0 (q % 100) = .boolean) (hfin : (T (q % 100)).2.2.2 = true) (hini : meth.name = "<init>") (hown : Cn = own) (hkd : ¬ (am_fk.getD (q / 100) []).getD (q % 100) 0 = 1) (hkd2 : ¬ (am_fk.getD (q / 100) []).getD (q % 100) 0 = 2) (hlk : .fieldLink own idx Cn (T (q % 100)).2.1 (T (q % 100)).2.2.1 ∈ lw_tbl) (hd : decode cc (pcs k) = .ok (.putfield idx, 3)) (hn : pcs (k + 1) = pcs k + 3) (hs : am_step rc na C Z (am_J p l e R s m args below meth c Qm nL D a0 cA base L0 X0 n0 z0 pcs) k ls st h (.putstatic q)) : (am_J p l e R s m args below meth c Qm nL D a0 cA base L0 X0 n0 z0 pcs) k ls st h := by
  obtain ⟨p1, n, x, st1, rfl, hx01, hp, hX⟩ := hs
  intro ad H locs lr cells slots hag hwf hR hS hL hc hz
  obtain ⟨C2, T2, h2⟩ := hR.2.2.2.2 p1 _ hp hq
  have hCT : (C2, T2, n) = (Cn, T, N) := Option.some.inj (h2.symm.trans hcl)
  cases hCT
  have h4 := am_pl hR hp (by omega)
  have hw' := am_ws_at (ad := ad) (cA := cA) h4 (am_lt hp)
  rw [am_el_obj hp hq] at hw'
  skip
  refine va_putF (D := D) (v := .int x) (ty := .boolean) F.1 F.2.1 F.2.2.2.2.1 (fun w hw => F.2.2.2.2.2.1 w (hin w hw)) ty0 hty hnm F.2.2.2.1 F.2.2.2.2.2.2.1 hR.1 hR.2.1 hS (p1 - 4) hw' hcl (q % 100) hk (F.2.2.2.2.1 _ (F.2.2.2.2.2.1 _ hlk)) (fun x hx => by rw [hT] at hx; exact hx) hfin hini (by rw [hT]; exact hown) (by rw [hty _ hk, htk]) (by rcases hx01 with rfl | rfl <;> rfl) (by rcases hx01 with rfl | rfl <;> rfl) (by simpa using hk) hd (fun H1 locs1 hP1 hD1 hS1 => ?_)
  have hw := hX ad H1 locs1 lr cells slots hag ⟨hwf.1, am_tl (am_tl hwf.2.1), hwf.2.2⟩ (am_rel_set (p := p1) hR h4 (am_lt hp) rfl ?_ (fun z hz => am_el_oI (am_u_ne hz)) (fun j hj => am_u_ne (by have := am_pl hR hp (by omega); omega)) hP1 hD1) hS1 hL hc hz
  · rw [hn] at hw
    exact hw
  · rw [am_el_obj (h := (h.1, am_u h.2.1 p1 (q % 100) x, h.2.2)) hp hq]
    have hval : .int x = am_fv ad (h.1, am_u h.2.1 p1 (q % 100) x, h.2.2) p1 (q / 100) (q % 100) := by
      unfold am_fv
      dsimp only; rw [am_u_at, am_up_eq]; split
      · exact absurd (by assumption) hkd
      · exact absurd (by assumption) hkd2
      · rfl
    rw [hval]
    congr 2
    refine (am_list_set hk (fun i hi => ?_)).symm
    unfold am_fv
    simp only [am_u_at, am_up_ne hi]
theorem aj_putZN (F : am_F p s m args c cc nL own Ts D a0 cA base L0 X0) {q idx : Nat} {Cn : String} {T : u_T} {N : Nat} (hcl : am_cl[q / 100]? = some (Cn, T, N)) (hq : q / 100 < 50) (hk : q % 100 < N) (hT : (T (q % 100)).1 = Cn) (hin : ∀ w ∈ u_ws Cn T N, w ∈ lw_tbl) {host : String} (ty0 : Nat → FieldType) (hty : ∀ k, k < N → parseFieldDescriptor (T k).2.2.1 = some (ty0 k)) (hnm : ∀ a, a < N → ∀ b, b < N → a ≠ b → (T a).2.1 ≠ (T b).2.1) (htk : ty0 (q % 100) = .boolean) (hfin : (T (q % 100)).2.2.2 = false) (hkd : ¬ (am_fk.getD (q / 100) []).getD (q % 100) 0 = 1) (hkd2 : ¬ (am_fk.getD (q / 100) []).getD (q % 100) 0 = 2) (hlk : .fieldLinkNest own idx Cn (T (q % 100)).2.1 (T (q % 100)).2.2.1 host ∈ lw_tbl) (hd : decode cc (pcs k) = .ok (.putfield idx, 3)) (hn : pcs (k + 1) = pcs k + 3) (hs : am_step rc na C Z (am_J p l e R s m args below meth c Qm nL D a0 cA base L0 X0 n0 z0 pcs) k ls st h (.putstatic q)) : (am_J p l e R s m args below meth c Qm nL D a0 cA base L0 X0 n0 z0 pcs) k ls st h := by
  obtain ⟨p1, n, x, st1, rfl, hx01, hp, hX⟩ := hs
  intro ad H locs lr cells slots hag hwf hR hS hL hc hz
  obtain ⟨C2, T2, h2⟩ := hR.2.2.2.2 p1 _ hp hq
  have hCT : (C2, T2, n) = (Cn, T, N) := Option.some.inj (h2.symm.trans hcl)
  cases hCT
  have h4 := am_pl hR hp (by omega)
  have hw' := am_ws_at (ad := ad) (cA := cA) h4 (am_lt hp)
  rw [am_el_obj hp hq] at hw'
  skip
  refine va_putN (D := D) (v := .int x) (ty := .boolean) F.1 F.2.1 F.2.2.2.2.1 (fun w hw => F.2.2.2.2.2.1 w (hin w hw)) ty0 hty hnm F.2.2.2.1 F.2.2.2.2.2.2.1 hR.1 hR.2.1 hS (p1 - 4) hw' hcl (q % 100) hk (F.2.2.2.2.1 _ (F.2.2.2.2.2.1 _ hlk)) (fun x hx => by rw [hT] at hx; exact hx) hfin (by rw [hty _ hk, htk]) (by rcases hx01 with rfl | rfl <;> rfl) (by rcases hx01 with rfl | rfl <;> rfl) (by simpa using hk) hd (fun H1 locs1 hP1 hD1 hS1 => ?_)
  have hw := hX ad H1 locs1 lr cells slots hag ⟨hwf.1, am_tl (am_tl hwf.2.1), hwf.2.2⟩ (am_rel_set (p := p1) hR h4 (am_lt hp) rfl ?_ (fun z hz => am_el_oI (am_u_ne hz)) (fun j hj => am_u_ne (by have := am_pl hR hp (by omega); omega)) hP1 hD1) hS1 hL hc hz
  · rw [hn] at hw
    exact hw
  · rw [am_el_obj (h := (h.1, am_u h.2.1 p1 (q % 100) x, h.2.2)) hp hq]
    have hval : .int x = am_fv ad (h.1, am_u h.2.1 p1 (q % 100) x, h.2.2) p1 (q / 100) (q % 100) := by
      unfold am_fv
      dsimp only; rw [am_u_at, am_up_eq]; split
      · exact absurd (by assumption) hkd
      · exact absurd (by assumption) hkd2
      · rfl
    rw [hval]
    congr 2
    refine (am_list_set hk (fun i hi => ?_)).symm
    unfold am_fv
    simp only [am_u_at, am_up_ne hi]
theorem aj_putL (F : am_F p s m args c cc nL own Ts D a0 cA base L0 X0) {q idx : Nat} {Cn : String} {T : u_T} {N : Nat} (hcl : am_cl[q / 100]? = some (Cn, T, N)) (hq : q / 100 < 50) (hk : q % 100 < N) (hT : (T (q % 100)).1 = Cn) (hin : ∀ w ∈ u_ws Cn T N, w ∈ lw_tbl) (ty0 : Nat → FieldType) (hty : ∀ k, k < N → parseFieldDescriptor (T k).2.2.1 = some (ty0 k)) (hnm : ∀ a, a < N → ∀ b, b < N → a ≠ b → (T a).2.1 ≠ (T b).2.1) (htk : ty0 (q % 100) = .long) (hfin : (T (q % 100)).2.2.2 = false) (hkd : (am_fk.getD (q / 100) []).getD (q % 100) 0 = 1) (hlk : .fieldLink own idx Cn (T (q % 100)).2.1 (T (q % 100)).2.2.1 ∈ lw_tbl) (hd : decode cc (pcs k) = .ok (.putfield idx, 3)) (hn : pcs (k + 1) = pcs k + 3) (hs : am_step rc na C Z (am_J p l e R s m args below meth c Qm nL D a0 cA base L0 X0 n0 z0 pcs) k ls st h (.fstore q)) : (am_J p l e R s m args below meth c Qm nL D a0 cA base L0 X0 n0 z0 pcs) k ls st h := by
  obtain ⟨p1, n, x, st1, rfl, hp, hX⟩ := hs
  intro ad H locs lr cells slots hag hwf hR hS hL hc hz
  obtain ⟨C2, T2, h2⟩ := hR.2.2.2.2 p1 _ hp hq
  have hCT : (C2, T2, n) = (Cn, T, N) := Option.some.inj (h2.symm.trans hcl)
  cases hCT
  have h4 := am_pl hR hp (by omega)
  have hw' := am_ws_at (ad := ad) (cA := cA) h4 (am_lt hp)
  rw [am_el_obj hp hq] at hw'
  skip
  refine va_put (D := D) (v := .long x) (ty := .long) F.1 F.2.1 F.2.2.2.2.1 (fun w hw => F.2.2.2.2.2.1 w (hin w hw)) ty0 hty hnm F.2.2.2.1 F.2.2.2.2.2.2.1 hR.1 hR.2.1 hS (p1 - 4) hw' hcl (q % 100) hk (F.2.2.2.2.1 _ (F.2.2.2.2.2.1 _ hlk)) (fun x hx => by rw [hT] at hx; exact hx) hfin (by rw [hty _ hk, htk]) rfl rfl (by simpa using hk) hd (fun H1 locs1 hP1 hD1 hS1 => ?_)
  have hw := hX ad H1 locs1 lr cells slots hag ⟨hwf.1, am_tl (am_tl hwf.2.1), hwf.2.2⟩ (am_rel_set (p := p1) hR h4 (am_lt hp) rfl ?_ (fun z hz => am_el_oL (am_u_ne hz)) (fun j hj => rfl) hP1 hD1) hS1 hL hc hz
  · rw [hn] at hw
    exact hw
  · rw [am_el_obj (h := (h.1, h.2.1, am_u h.2.2.1 p1 (q % 100) x, h.2.2.2)) hp hq]
    have hval : .long x = am_fv ad (h.1, h.2.1, am_u h.2.2.1 p1 (q % 100) x, h.2.2.2) p1 (q / 100) (q % 100) := by
      unfold am_fv
      dsimp only; simp only [hkd]; rw [am_u_at, am_up_eq]
    rw [hval]
    congr 2
    refine (am_list_set hk (fun i hi => ?_)).symm
    unfold am_fv
    simp only [am_u_at, am_up_ne hi]
theorem aj_putLF (F : am_F p s m args c cc nL own Ts D a0 cA base L0 X0) {q idx : Nat} {Cn : String} {T : u_T} {N : Nat} (hcl : am_cl[q / 100]? = some (Cn, T, N)) (hq : q / 100 < 50) (hk : q % 100 < N) (hT : (T (q % 100)).1 = Cn) (hin : ∀ w ∈ u_ws Cn T N, w ∈ lw_tbl) (ty0 : Nat → FieldType) (hty : ∀ k, k < N → parseFieldDescriptor (T k).2.2.1 = some (ty0 k)) (hnm : ∀ a, a < N → ∀ b, b < N → a ≠ b → (T a).2.1 ≠ (T b).2.1) (htk : ty0 (q % 100) = .long) (hfin : (T (q % 100)).2.2.2 = true) (hini : meth.name = "<init>") (hown : Cn = own) (hkd : (am_fk.getD (q / 100) []).getD (q % 100) 0 = 1) (hlk : .fieldLink own idx Cn (T (q % 100)).2.1 (T (q % 100)).2.2.1 ∈ lw_tbl) (hd : decode cc (pcs k) = .ok (.putfield idx, 3)) (hn : pcs (k + 1) = pcs k + 3) (hs : am_step rc na C Z (am_J p l e R s m args below meth c Qm nL D a0 cA base L0 X0 n0 z0 pcs) k ls st h (.fstore q)) : (am_J p l e R s m args below meth c Qm nL D a0 cA base L0 X0 n0 z0 pcs) k ls st h := by
  obtain ⟨p1, n, x, st1, rfl, hp, hX⟩ := hs
  intro ad H locs lr cells slots hag hwf hR hS hL hc hz
  obtain ⟨C2, T2, h2⟩ := hR.2.2.2.2 p1 _ hp hq
  have hCT : (C2, T2, n) = (Cn, T, N) := Option.some.inj (h2.symm.trans hcl)
  cases hCT
  have h4 := am_pl hR hp (by omega)
  have hw' := am_ws_at (ad := ad) (cA := cA) h4 (am_lt hp)
  rw [am_el_obj hp hq] at hw'
  skip
  refine va_putF (D := D) (v := .long x) (ty := .long) F.1 F.2.1 F.2.2.2.2.1 (fun w hw => F.2.2.2.2.2.1 w (hin w hw)) ty0 hty hnm F.2.2.2.1 F.2.2.2.2.2.2.1 hR.1 hR.2.1 hS (p1 - 4) hw' hcl (q % 100) hk (F.2.2.2.2.1 _ (F.2.2.2.2.2.1 _ hlk)) (fun x hx => by rw [hT] at hx; exact hx) hfin hini (by rw [hT]; exact hown) (by rw [hty _ hk, htk]) rfl rfl (by simpa using hk) hd (fun H1 locs1 hP1 hD1 hS1 => ?_)
  have hw := hX ad H1 locs1 lr cells slots hag ⟨hwf.1, am_tl (am_tl hwf.2.1), hwf.2.2⟩ (am_rel_set (p := p1) hR h4 (am_lt hp) rfl ?_ (fun z hz => am_el_oL (am_u_ne hz)) (fun j hj => rfl) hP1 hD1) hS1 hL hc hz
  · rw [hn] at hw
    exact hw
  · rw [am_el_obj (h := (h.1, h.2.1, am_u h.2.2.1 p1 (q % 100) x, h.2.2.2)) hp hq]
    have hval : .long x = am_fv ad (h.1, h.2.1, am_u h.2.2.1 p1 (q % 100) x, h.2.2.2) p1 (q / 100) (q % 100) := by
      unfold am_fv
      dsimp only; simp only [hkd]; rw [am_u_at, am_up_eq]
    rw [hval]
    congr 2
    refine (am_list_set hk (fun i hi => ?_)).symm
    unfold am_fv
    simp only [am_u_at, am_up_ne hi]
theorem aj_putLN (F : am_F p s m args c cc nL own Ts D a0 cA base L0 X0) {q idx : Nat} {Cn : String} {T : u_T} {N : Nat} (hcl : am_cl[q / 100]? = some (Cn, T, N)) (hq : q / 100 < 50) (hk : q % 100 < N) (hT : (T (q % 100)).1 = Cn) (hin : ∀ w ∈ u_ws Cn T N, w ∈ lw_tbl) {host : String} (ty0 : Nat → FieldType) (hty : ∀ k, k < N → parseFieldDescriptor (T k).2.2.1 = some (ty0 k)) (hnm : ∀ a, a < N → ∀ b, b < N → a ≠ b → (T a).2.1 ≠ (T b).2.1) (htk : ty0 (q % 100) = .long) (hfin : (T (q % 100)).2.2.2 = false) (hkd : (am_fk.getD (q / 100) []).getD (q % 100) 0 = 1) (hlk : .fieldLinkNest own idx Cn (T (q % 100)).2.1 (T (q % 100)).2.2.1 host ∈ lw_tbl) (hd : decode cc (pcs k) = .ok (.putfield idx, 3)) (hn : pcs (k + 1) = pcs k + 3) (hs : am_step rc na C Z (am_J p l e R s m args below meth c Qm nL D a0 cA base L0 X0 n0 z0 pcs) k ls st h (.fstore q)) : (am_J p l e R s m args below meth c Qm nL D a0 cA base L0 X0 n0 z0 pcs) k ls st h := by
  obtain ⟨p1, n, x, st1, rfl, hp, hX⟩ := hs
  intro ad H locs lr cells slots hag hwf hR hS hL hc hz
  obtain ⟨C2, T2, h2⟩ := hR.2.2.2.2 p1 _ hp hq
  have hCT : (C2, T2, n) = (Cn, T, N) := Option.some.inj (h2.symm.trans hcl)
  cases hCT
  have h4 := am_pl hR hp (by omega)
  have hw' := am_ws_at (ad := ad) (cA := cA) h4 (am_lt hp)
  rw [am_el_obj hp hq] at hw'
  skip
  refine va_putN (D := D) (v := .long x) (ty := .long) F.1 F.2.1 F.2.2.2.2.1 (fun w hw => F.2.2.2.2.2.1 w (hin w hw)) ty0 hty hnm F.2.2.2.1 F.2.2.2.2.2.2.1 hR.1 hR.2.1 hS (p1 - 4) hw' hcl (q % 100) hk (F.2.2.2.2.1 _ (F.2.2.2.2.2.1 _ hlk)) (fun x hx => by rw [hT] at hx; exact hx) hfin (by rw [hty _ hk, htk]) rfl rfl (by simpa using hk) hd (fun H1 locs1 hP1 hD1 hS1 => ?_)
  have hw := hX ad H1 locs1 lr cells slots hag ⟨hwf.1, am_tl (am_tl hwf.2.1), hwf.2.2⟩ (am_rel_set (p := p1) hR h4 (am_lt hp) rfl ?_ (fun z hz => am_el_oL (am_u_ne hz)) (fun j hj => rfl) hP1 hD1) hS1 hL hc hz
  · rw [hn] at hw
    exact hw
  · rw [am_el_obj (h := (h.1, h.2.1, am_u h.2.2.1 p1 (q % 100) x, h.2.2.2)) hp hq]
    have hval : .long x = am_fv ad (h.1, h.2.1, am_u h.2.2.1 p1 (q % 100) x, h.2.2.2) p1 (q / 100) (q % 100) := by
      unfold am_fv
      dsimp only; simp only [hkd]; rw [am_u_at, am_up_eq]
    rw [hval]
    congr 2
    refine (am_list_set hk (fun i hi => ?_)).symm
    unfold am_fv
    simp only [am_u_at, am_up_ne hi]
theorem aj_putR (F : am_F p s m args c cc nL own Ts D a0 cA base L0 X0) {q idx : Nat} {Cn : String} {T : u_T} {N : Nat} (hcl : am_cl[q / 100]? = some (Cn, T, N)) (hq : q / 100 < 50) (hk : q % 100 < N) (hT : (T (q % 100)).1 = Cn) (hin : ∀ w ∈ u_ws Cn T N, w ∈ lw_tbl) {ty : FieldType} (hnr : ∀ r : Option Nat, narrow ty (va_rf r) = va_rf r) (hfr : ∀ r : Option Nat, fits ty (va_rf r) = true) (ty0 : Nat → FieldType) (hty : ∀ k, k < N → parseFieldDescriptor (T k).2.2.1 = some (ty0 k)) (hnm : ∀ a, a < N → ∀ b, b < N → a ≠ b → (T a).2.1 ≠ (T b).2.1) (htk : ty0 (q % 100) = ty) (hfin : (T (q % 100)).2.2.2 = false) (hkd : (am_fk.getD (q / 100) []).getD (q % 100) 0 = 2) (hlk : .fieldLink own idx Cn (T (q % 100)).2.1 (T (q % 100)).2.2.1 ∈ lw_tbl) (hd : decode cc (pcs k) = .ok (.putfield idx, 3)) (hn : pcs (k + 1) = pcs k + 3) (hs : am_step rc na C Z (am_J p l e R s m args below meth c Qm nL D a0 cA base L0 X0 n0 z0 pcs) k ls st h (.dstore q)) : (am_J p l e R s m args below meth c Qm nL D a0 cA base L0 X0 n0 z0 pcs) k ls st h := by
  obtain ⟨p1, n, r, st1, rfl, hp, hX⟩ := hs
  intro ad H locs lr cells slots hag hwf hR hS hL hc hz
  obtain ⟨C2, T2, h2⟩ := hR.2.2.2.2 p1 _ hp hq
  have hCT : (C2, T2, n) = (Cn, T, N) := Option.some.inj (h2.symm.trans hcl)
  cases hCT
  have h4 := am_pl hR hp (by omega)
  have hw' := am_ws_at (ad := ad) (cA := cA) h4 (am_lt hp)
  rw [am_el_obj hp hq] at hw'
  simp only [List.map_cons, am_vv_rf]
  refine va_put (D := D) (v := va_rf (r.map ad)) (ty := ty) F.1 F.2.1 F.2.2.2.2.1 (fun w hw => F.2.2.2.2.2.1 w (hin w hw)) ty0 hty hnm F.2.2.2.1 F.2.2.2.2.2.2.1 hR.1 hR.2.1 hS (p1 - 4) hw' hcl (q % 100) hk (F.2.2.2.2.1 _ (F.2.2.2.2.2.1 _ hlk)) (fun x hx => by rw [hT] at hx; exact hx) hfin (by rw [hty _ hk, htk]) (hnr _) (hfr _) (by simpa using hk) hd (fun H1 locs1 hP1 hD1 hS1 => ?_)
  have hw := hX ad H1 locs1 lr cells slots hag (am_wfR hwf) (am_rel_set (p := p1) hR h4 (am_lt hp) rfl ?_ (fun z hz => am_el_oR (am_u_ne hz)) (fun j hj => rfl) hP1 hD1) hS1 hL hc hz
  · rw [hn] at hw
    exact hw
  · rw [am_el_obj (h := (h.1, h.2.1, h.2.2.1, am_u h.2.2.2 p1 (q % 100) r)) hp hq]
    have hval : va_rf (r.map ad) = am_fv ad (h.1, h.2.1, h.2.2.1, am_u h.2.2.2 p1 (q % 100) r) p1 (q / 100) (q % 100) := by
      unfold am_fv
      dsimp only; simp only [hkd]; rw [am_u_at, am_up_eq]
    rw [hval]
    congr 2
    refine (am_list_set hk (fun i hi => ?_)).symm
    unfold am_fv
    simp only [am_u_at, am_up_ne hi]
theorem aj_putRF (F : am_F p s m args c cc nL own Ts D a0 cA base L0 X0) {q idx : Nat} {Cn : String} {T : u_T} {N : Nat} (hcl : am_cl[q / 100]? = some (Cn, T, N)) (hq : q / 100 < 50) (hk : q % 100 < N) (hT : (T (q % 100)).1 = Cn) (hin : ∀ w ∈ u_ws Cn T N, w ∈ lw_tbl) {ty : FieldType} (hnr : ∀ r : Option Nat, narrow ty (va_rf r) = va_rf r) (hfr : ∀ r : Option Nat, fits ty (va_rf r) = true) (ty0 : Nat → FieldType) (hty : ∀ k, k < N → parseFieldDescriptor (T k).2.2.1 = some (ty0 k)) (hnm : ∀ a, a < N → ∀ b, b < N → a ≠ b → (T a).2.1 ≠ (T b).2.1) (htk : ty0 (q % 100) = ty) (hfin : (T (q % 100)).2.2.2 = true) (hini : meth.name = "<init>") (hown : Cn = own) (hkd : (am_fk.getD (q / 100) []).getD (q % 100) 0 = 2) (hlk : .fieldLink own idx Cn (T (q % 100)).2.1 (T (q % 100)).2.2.1 ∈ lw_tbl) (hd : decode cc (pcs k) = .ok (.putfield idx, 3)) (hn : pcs (k + 1) = pcs k + 3) (hs : am_step rc na C Z (am_J p l e R s m args below meth c Qm nL D a0 cA base L0 X0 n0 z0 pcs) k ls st h (.dstore q)) : (am_J p l e R s m args below meth c Qm nL D a0 cA base L0 X0 n0 z0 pcs) k ls st h := by
  obtain ⟨p1, n, r, st1, rfl, hp, hX⟩ := hs
  intro ad H locs lr cells slots hag hwf hR hS hL hc hz
  obtain ⟨C2, T2, h2⟩ := hR.2.2.2.2 p1 _ hp hq
  have hCT : (C2, T2, n) = (Cn, T, N) := Option.some.inj (h2.symm.trans hcl)
  cases hCT
  have h4 := am_pl hR hp (by omega)
  have hw' := am_ws_at (ad := ad) (cA := cA) h4 (am_lt hp)
  rw [am_el_obj hp hq] at hw'
  simp only [List.map_cons, am_vv_rf]
  refine va_putF (D := D) (v := va_rf (r.map ad)) (ty := ty) F.1 F.2.1 F.2.2.2.2.1 (fun w hw => F.2.2.2.2.2.1 w (hin w hw)) ty0 hty hnm F.2.2.2.1 F.2.2.2.2.2.2.1 hR.1 hR.2.1 hS (p1 - 4) hw' hcl (q % 100) hk (F.2.2.2.2.1 _ (F.2.2.2.2.2.1 _ hlk)) (fun x hx => by rw [hT] at hx; exact hx) hfin hini (by rw [hT]; exact hown) (by rw [hty _ hk, htk]) (hnr _) (hfr _) (by simpa using hk) hd (fun H1 locs1 hP1 hD1 hS1 => ?_)
  have hw := hX ad H1 locs1 lr cells slots hag (am_wfR hwf) (am_rel_set (p := p1) hR h4 (am_lt hp) rfl ?_ (fun z hz => am_el_oR (am_u_ne hz)) (fun j hj => rfl) hP1 hD1) hS1 hL hc hz
  · rw [hn] at hw
    exact hw
  · rw [am_el_obj (h := (h.1, h.2.1, h.2.2.1, am_u h.2.2.2 p1 (q % 100) r)) hp hq]
    have hval : va_rf (r.map ad) = am_fv ad (h.1, h.2.1, h.2.2.1, am_u h.2.2.2 p1 (q % 100) r) p1 (q / 100) (q % 100) := by
      unfold am_fv
      dsimp only; simp only [hkd]; rw [am_u_at, am_up_eq]
    rw [hval]
    congr 2
    refine (am_list_set hk (fun i hi => ?_)).symm
    unfold am_fv
    simp only [am_u_at, am_up_ne hi]
theorem aj_putRN (F : am_F p s m args c cc nL own Ts D a0 cA base L0 X0) {q idx : Nat} {Cn : String} {T : u_T} {N : Nat} (hcl : am_cl[q / 100]? = some (Cn, T, N)) (hq : q / 100 < 50) (hk : q % 100 < N) (hT : (T (q % 100)).1 = Cn) (hin : ∀ w ∈ u_ws Cn T N, w ∈ lw_tbl) {host : String} {ty : FieldType} (hnr : ∀ r : Option Nat, narrow ty (va_rf r) = va_rf r) (hfr : ∀ r : Option Nat, fits ty (va_rf r) = true) (ty0 : Nat → FieldType) (hty : ∀ k, k < N → parseFieldDescriptor (T k).2.2.1 = some (ty0 k)) (hnm : ∀ a, a < N → ∀ b, b < N → a ≠ b → (T a).2.1 ≠ (T b).2.1) (htk : ty0 (q % 100) = ty) (hfin : (T (q % 100)).2.2.2 = false) (hkd : (am_fk.getD (q / 100) []).getD (q % 100) 0 = 2) (hlk : .fieldLinkNest own idx Cn (T (q % 100)).2.1 (T (q % 100)).2.2.1 host ∈ lw_tbl) (hd : decode cc (pcs k) = .ok (.putfield idx, 3)) (hn : pcs (k + 1) = pcs k + 3) (hs : am_step rc na C Z (am_J p l e R s m args below meth c Qm nL D a0 cA base L0 X0 n0 z0 pcs) k ls st h (.dstore q)) : (am_J p l e R s m args below meth c Qm nL D a0 cA base L0 X0 n0 z0 pcs) k ls st h := by
  obtain ⟨p1, n, r, st1, rfl, hp, hX⟩ := hs
  intro ad H locs lr cells slots hag hwf hR hS hL hc hz
  obtain ⟨C2, T2, h2⟩ := hR.2.2.2.2 p1 _ hp hq
  have hCT : (C2, T2, n) = (Cn, T, N) := Option.some.inj (h2.symm.trans hcl)
  cases hCT
  have h4 := am_pl hR hp (by omega)
  have hw' := am_ws_at (ad := ad) (cA := cA) h4 (am_lt hp)
  rw [am_el_obj hp hq] at hw'
  simp only [List.map_cons, am_vv_rf]
  refine va_putN (D := D) (v := va_rf (r.map ad)) (ty := ty) F.1 F.2.1 F.2.2.2.2.1 (fun w hw => F.2.2.2.2.2.1 w (hin w hw)) ty0 hty hnm F.2.2.2.1 F.2.2.2.2.2.2.1 hR.1 hR.2.1 hS (p1 - 4) hw' hcl (q % 100) hk (F.2.2.2.2.1 _ (F.2.2.2.2.2.1 _ hlk)) (fun x hx => by rw [hT] at hx; exact hx) hfin (by rw [hty _ hk, htk]) (hnr _) (hfr _) (by simpa using hk) hd (fun H1 locs1 hP1 hD1 hS1 => ?_)
  have hw := hX ad H1 locs1 lr cells slots hag (am_wfR hwf) (am_rel_set (p := p1) hR h4 (am_lt hp) rfl ?_ (fun z hz => am_el_oR (am_u_ne hz)) (fun j hj => rfl) hP1 hD1) hS1 hL hc hz
  · rw [hn] at hw
    exact hw
  · rw [am_el_obj (h := (h.1, h.2.1, h.2.2.1, am_u h.2.2.2 p1 (q % 100) r)) hp hq]
    have hval : va_rf (r.map ad) = am_fv ad (h.1, h.2.1, h.2.2.1, am_u h.2.2.2 p1 (q % 100) r) p1 (q / 100) (q % 100) := by
      unfold am_fv
      dsimp only; simp only [hkd]; rw [am_u_at, am_up_eq]
    rw [hval]
    congr 2
    refine (am_list_set hk (fun i hi => ?_)).symm
    unfold am_fv
    simp only [am_u_at, am_up_ne hi]
end AMC
end
section
section AMD
variable {p : Program} {l : Launch} {e : Env} {R : Room} {s : State} {m : MethodId} {args : Array Value} {below : List Frame} {meth : Method} {c : Code} {Qm : State → Prop} {cc : ByteArray} {nL : Nat} {own : String} {Ts : List Cond} {D : va_G} {a0 : Nat → Nat} {cA : Nat → ClassId} {base : Nat} {L0 : Nat → Nat} {X0 : Nat → Nat → Int32} {n0 z0 : Nat} {pcs : Nat → Nat} {rc na : Nat → Nat} {C : am_C} {Z : am_Q} {k : Nat} {ls : List (Option Value)} {st : List Value} {h : am_H}
variable {ad : Nat → Nat} {H : Heap}
theorem am_wfA {ls : List (Option Value)} {st : List Value} {h : am_H} {p1 j r : Nat} {w w2 : Value} (hwf : am_wf ls (.ref r :: w :: w2 :: st) h) : am_wf ls st (h.1, h.2.1, h.2.2.1, am_u h.2.2.2 p1 j (some r)) :=
  am_wfR (r := some r) (w := w) ⟨hwf.1, am_okc (hwf.2.1 _ List.mem_cons_self) (am_okc (hwf.2.1 w (List.mem_cons_of_mem _ List.mem_cons_self)) (am_tl (am_tl (am_tl hwf.2.1)))), hwf.2.2⟩
theorem aj_iaload (F : am_F p s m args c cc nL own Ts D a0 cA base L0 X0) (h4n : 4 ≤ n0) (hd : decode cc (pcs k) = .ok (.iaload, 1)) (hn : pcs (k + 1) = pcs k + 1) (hs : am_step rc na C Z (am_J p l e R s m args below meth c Qm nL D a0 cA base L0 X0 n0 z0 pcs) k ls st h .iaload) : (am_J p l e R s m args below meth c Qm nL D a0 cA base L0 X0 n0 z0 pcs) k ls st h := by
  obtain ⟨p1, n, i, st1, rfl, hp, hi, hX⟩ := hs
  intro ad H locs lr cells slots hag hwf hR hS hL hc hz
  have hw := hX ad H locs lr cells slots hag ⟨hwf.1, am_okc trivial (am_tl (am_tl hwf.2.1)), hwf.2.2⟩ hR hS hL hc hz
  rw [hn] at hw
  rcases Nat.lt_or_ge p1 4 with q | q
  · obtain ⟨e1, e2⟩ := hR.2.2.2.1 p1 q
    rw [hp] at e1
    cases e1
    obtain ⟨x1, x2⟩ := F.2.2.2.2.2.2.2.1 p1 q
    rw [e2] at hw
    have e3 : ad p1 = a0 p1 := hag p1 (by omega)
    show W p l e R s m args below meth c H locs cells slots Qm (F0 m (pcs k) lr (.int i :: .ref (ad p1) :: st1.map (am_vv ad)))
    rw [e3]
    exact va_sld F.1 F.2.1 x1 (Nat.lt_of_lt_of_le x2 F.2.2.2.2.2.2.2.2.1) (by omega) hS hi hd hw
  · have hw' := am_ws_at (ad := ad) (cA := cA) q (am_lt hp)
    rw [am_el_arr hp (by omega) (by omega) (by omega)] at hw'
    exact va_iald F.1 F.2.1 F.2.2.2.2.2.2.1 hR.1 (p1 - 4) 0 hw' rfl hi hd hw
theorem aj_baload (F : am_F p s m args c cc nL own Ts D a0 cA base L0 X0) (hd : decode cc (pcs k) = .ok (.baload, 1)) (hn : pcs (k + 1) = pcs k + 1) (hs : am_step rc na C Z (am_J p l e R s m args below meth c Qm nL D a0 cA base L0 X0 n0 z0 pcs) k ls st h .baload) : (am_J p l e R s m args below meth c Qm nL D a0 cA base L0 X0 n0 z0 pcs) k ls st h := by
  obtain ⟨p1, n, i, st1, rfl, hp, hi, hX⟩ := hs
  intro ad H locs lr cells slots hag hwf hR hS hL hc hz
  have hw := hX ad H locs lr cells slots hag ⟨hwf.1, am_okc trivial (am_tl (am_tl hwf.2.1)), hwf.2.2⟩ hR hS hL hc hz
  rw [hn] at hw
  have hw' := am_ws_at (ad := ad) (cA := cA) (am_pl hR hp (by omega)) (am_lt hp)
  rw [am_el_arr hp (by omega) (by omega) (by omega)] at hw'
  exact va_bald F.1 F.2.1 F.2.2.2.2.2.2.1 hR.1 (p1 - 4) 2 hw' rfl hi hd hw
theorem aj_caload (F : am_F p s m args c cc nL own Ts D a0 cA base L0 X0) (hd : decode cc (pcs k) = .ok (.baload, 1)) (hn : pcs (k + 1) = pcs k + 1) (hs : am_step rc na C Z (am_J p l e R s m args below meth c Qm nL D a0 cA base L0 X0 n0 z0 pcs) k ls st h .caload) : (am_J p l e R s m args below meth c Qm nL D a0 cA base L0 X0 n0 z0 pcs) k ls st h := by
  obtain ⟨p1, n, i, st1, rfl, hp, hi, hX⟩ := hs
  intro ad H locs lr cells slots hag hwf hR hS hL hc hz
  have hw := hX ad H locs lr cells slots hag ⟨hwf.1, am_okc trivial (am_tl (am_tl hwf.2.1)), hwf.2.2⟩ hR hS hL hc hz
  rw [hn] at hw
  have hw' := am_ws_at (ad := ad) (cA := cA) (am_pl hR hp (by omega)) (am_lt hp)
  rw [am_el_arr hp (by omega) (by omega) (by omega)] at hw'
  exact va_zald F.1 F.2.1 F.2.2.2.2.2.2.1 hR.1 (p1 - 4) 3 hw' rfl hi hd hw
theorem aj_laload (F : am_F p s m args c cc nL own Ts D a0 cA base L0 X0) (hd : decode cc (pcs k) = .ok (.laload, 1)) (hn : pcs (k + 1) = pcs k + 1) (hs : am_step rc na C Z (am_J p l e R s m args below meth c Qm nL D a0 cA base L0 X0 n0 z0 pcs) k ls st h .laload) : (am_J p l e R s m args below meth c Qm nL D a0 cA base L0 X0 n0 z0 pcs) k ls st h := by
  obtain ⟨p1, n, i, st1, rfl, hp, hi, hX⟩ := hs
  intro ad H locs lr cells slots hag hwf hR hS hL hc hz
  have hw := hX ad H locs lr cells slots hag ⟨hwf.1, am_okc trivial (am_tl (am_tl hwf.2.1)), hwf.2.2⟩ hR hS hL hc hz
  rw [hn] at hw
  have hw' := am_ws_at (ad := ad) (cA := cA) (am_pl hR hp (by omega)) (am_lt hp)
  rw [am_el_51 hp] at hw'
  exact va_lald F.1 F.2.1 F.2.2.2.2.2.2.1 hR.1 (p1 - 4) 1 hw' rfl hi hd hw
theorem aj_aaload (F : am_F p s m args c cc nL own Ts D a0 cA base L0 X0) (hd : decode cc (pcs k) = .ok (.aaload, 1)) (hn : pcs (k + 1) = pcs k + 1) (hs : am_step rc na C Z (am_J p l e R s m args below meth c Qm nL D a0 cA base L0 X0 n0 z0 pcs) k ls st h .aaload) : (am_J p l e R s m args below meth c Qm nL D a0 cA base L0 X0 n0 z0 pcs) k ls st h := by
  obtain ⟨p1, n, i, st1, rfl, hp, hi, hX⟩ := hs
  intro ad H locs lr cells slots hag hwf hR hS hL hc hz
  have hw := hX ad H locs lr cells slots hag ⟨hwf.1, am_okrf (am_tl (am_tl hwf.2.1)) (hwf.2.2 p1 i.toNatClampNeg), hwf.2.2⟩ hR hS hL hc hz
  rw [hn] at hw
  have hw' := am_ws_at (ad := ad) (cA := cA) (am_pl hR hp (by omega)) (am_lt hp)
  rw [am_el_54 hp] at hw'
  simp only [List.map_cons, am_vv_rf] at hw
  exact va_aldq F.1 F.2.1 F.2.2.2.2.2.2.1 hR.1 (p1 - 4) 4 hw' rfl hi hd hw
theorem aj_iastore (F : am_F p s m args c cc nL own Ts D a0 cA base L0 X0) (hd : decode cc (pcs k) = .ok (.iastore, 1)) (hn : pcs (k + 1) = pcs k + 1) (hs : am_step rc na C Z (am_J p l e R s m args below meth c Qm nL D a0 cA base L0 X0 n0 z0 pcs) k ls st h .iastore) : (am_J p l e R s m args below meth c Qm nL D a0 cA base L0 X0 n0 z0 pcs) k ls st h := by
  obtain ⟨p1, n, i, x, st1, rfl, h4, hp, hi, hX⟩ := hs
  intro ad H locs lr cells slots hag hwf hR hS hL hc hz
  have h4 : @LE.le Nat instLENat 4 p1 := h4
  have hw' := am_ws_at (ad := ad) (cA := cA) h4 (am_lt hp)
  rw [am_el_arr hp (by omega) (by omega) (by omega)] at hw'
  refine va_iast F.1 F.2.1 F.2.2.2.2.2.2.1 hR.1 hR.2.1 hS (p1 - 4) 0 hw' rfl hi hd (fun H1 locs1 hP1 hD1 hS1 => ?_)
  have hw := hX ad H1 locs1 lr cells slots hag ⟨hwf.1, am_tl (am_tl (am_tl hwf.2.1)), hwf.2.2⟩ (am_rel_set (p := p1) hR h4 (am_lt hp) rfl ?_ (fun z hz => am_el_oI (am_u_ne hz)) (fun j hj => am_u_ne (by omega)) hP1 hD1) hS1 hL hc hz
  · rw [hn] at hw
    exact hw
  · rw [am_el_arr (h := (h.1, am_u h.2.1 p1 i.toNatClampNeg x, h.2.2)) hp (by omega) (by omega) (by omega)]
    dsimp only
    rw [am_u_at]
    rfl
theorem aj_bastore (F : am_F p s m args c cc nL own Ts D a0 cA base L0 X0) (hd : decode cc (pcs k) = .ok (.bastore, 1)) (hn : pcs (k + 1) = pcs k + 1) (hs : am_step rc na C Z (am_J p l e R s m args below meth c Qm nL D a0 cA base L0 X0 n0 z0 pcs) k ls st h .bastore) : (am_J p l e R s m args below meth c Qm nL D a0 cA base L0 X0 n0 z0 pcs) k ls st h := by
  obtain ⟨p1, n, i, x, st1, rfl, hp, hi, hX⟩ := hs
  intro ad H locs lr cells slots hag hwf hR hS hL hc hz
  have h4 := am_pl hR hp (by omega)
  have hw' := am_ws_at (ad := ad) (cA := cA) h4 (am_lt hp)
  rw [am_el_arr hp (by omega) (by omega) (by omega)] at hw'
  refine va_bast F.1 F.2.1 F.2.2.2.2.2.2.1 hR.1 hR.2.1 hS (p1 - 4) 2 hw' rfl hi hd (fun H1 locs1 hP1 hD1 hS1 => ?_)
  have hw := hX ad H1 locs1 lr cells slots hag ⟨hwf.1, am_tl (am_tl (am_tl hwf.2.1)), hwf.2.2⟩ (am_rel_set (p := p1) hR h4 (am_lt hp) rfl ?_ (fun z hz => am_el_oI (am_u_ne hz)) (fun j hj => am_u_ne (by omega)) hP1 hD1) hS1 hL hc hz
  · rw [hn] at hw
    exact hw
  · rw [am_el_arr (h := (h.1, am_u h.2.1 p1 i.toNatClampNeg (vp_nar .byte x), h.2.2)) hp (by omega) (by omega) (by omega)]
    dsimp only
    rw [am_u_at]
    rfl
theorem aj_castore (F : am_F p s m args c cc nL own Ts D a0 cA base L0 X0) (hd : decode cc (pcs k) = .ok (.bastore, 1)) (hn : pcs (k + 1) = pcs k + 1) (hs : am_step rc na C Z (am_J p l e R s m args below meth c Qm nL D a0 cA base L0 X0 n0 z0 pcs) k ls st h .castore) : (am_J p l e R s m args below meth c Qm nL D a0 cA base L0 X0 n0 z0 pcs) k ls st h := by
  obtain ⟨p1, n, i, x, st1, rfl, hp, hi, hX⟩ := hs
  intro ad H locs lr cells slots hag hwf hR hS hL hc hz
  have h4 := am_pl hR hp (by omega)
  have hw' := am_ws_at (ad := ad) (cA := cA) h4 (am_lt hp)
  rw [am_el_arr hp (by omega) (by omega) (by omega)] at hw'
  refine va_zast F.1 F.2.1 F.2.2.2.2.2.2.1 hR.1 hR.2.1 hS (p1 - 4) 3 hw' rfl hi hd (fun H1 locs1 hP1 hD1 hS1 => ?_)
  have hw := hX ad H1 locs1 lr cells slots hag ⟨hwf.1, am_tl (am_tl (am_tl hwf.2.1)), hwf.2.2⟩ (am_rel_set (p := p1) hR h4 (am_lt hp) rfl ?_ (fun z hz => am_el_oI (am_u_ne hz)) (fun j hj => am_u_ne (by omega)) hP1 hD1) hS1 hL hc hz
  · rw [hn] at hw
    exact hw
  · rw [am_el_arr (h := (h.1, am_u h.2.1 p1 i.toNatClampNeg (vp_nar .boolean x), h.2.2)) hp (by omega) (by omega) (by omega)]
    dsimp only
    rw [am_u_at]
    rfl
theorem aj_lastore (F : am_F p s m args c cc nL own Ts D a0 cA base L0 X0) (hd : decode cc (pcs k) = .ok (.lastore, 1)) (hn : pcs (k + 1) = pcs k + 1) (hs : am_step rc na C Z (am_J p l e R s m args below meth c Qm nL D a0 cA base L0 X0 n0 z0 pcs) k ls st h .lastore) : (am_J p l e R s m args below meth c Qm nL D a0 cA base L0 X0 n0 z0 pcs) k ls st h := by
  obtain ⟨p1, n, i, x, st1, rfl, hp, hi, hX⟩ := hs
  intro ad H locs lr cells slots hag hwf hR hS hL hc hz
  have h4 := am_pl hR hp (by omega)
  have hw' := am_ws_at (ad := ad) (cA := cA) h4 (am_lt hp)
  rw [am_el_51 hp] at hw'
  refine va_last F.1 F.2.1 F.2.2.2.2.2.2.1 hR.1 hR.2.1 hS (p1 - 4) 1 hw' rfl hi hd (fun H1 locs1 hP1 hD1 hS1 => ?_)
  have hw := hX ad H1 locs1 lr cells slots hag ⟨hwf.1, am_tl (am_tl (am_tl hwf.2.1)), hwf.2.2⟩ (am_rel_set (p := p1) hR h4 (am_lt hp) rfl ?_ (fun z hz => am_el_oL (am_u_ne hz)) (fun j hj => rfl) hP1 hD1) hS1 hL hc hz
  · rw [hn] at hw
    exact hw
  · rw [am_el_51 (h := (h.1, h.2.1, am_u h.2.2.1 p1 i.toNatClampNeg x, h.2.2.2)) hp]
    dsimp only
    rw [am_u_at]
    rfl
theorem aj_aastore (F : am_F p s m args c cc nL own Ts D a0 cA base L0 X0) (hd : decode cc (pcs k) = .ok (.aastore, 1)) (hn : pcs (k + 1) = pcs k + 1) (hs : am_step rc na C Z (am_J p l e R s m args below meth c Qm nL D a0 cA base L0 X0 n0 z0 pcs) k ls st h .aastore) : (am_J p l e R s m args below meth c Qm nL D a0 cA base L0 X0 n0 z0 pcs) k ls st h := by
  obtain ⟨p1, n, i, r, m1, st1, rfl, hp, hr, hi, hX⟩ := hs
  intro ad H locs lr cells slots hag hwf hR hS hL hc hz
  have h4 := am_pl hR hp (by omega)
  have h5 := am_pl hR hr (by omega)
  have hw' := am_ws_at (ad := ad) (cA := cA) h4 (am_lt hp)
  rw [am_el_54 hp] at hw'
  have hw2 := am_ws_at (ad := ad) (cA := cA) h5 (am_lt hr)
  rw [am_el_obj hr (by omega)] at hw2
  refine va_astq (r := (RX0, TX0, 16)) F.1 F.2.1 F.2.2.2.2.2.2.1 hR.1 hR.2.1 hS (p1 - 4) 4 (r - 4) 0 hw' rfl hw2 rfl hi hd (fun H1 locs1 hP1 hD1 hS1 => ?_)
  have hw := hX ad H1 locs1 lr cells slots hag (am_wfA hwf) (am_rel_set (p := p1) hR h4 (am_lt hp) rfl ?_ (fun z hz => am_el_oR (am_u_ne hz)) (fun j hj => rfl) hP1 hD1) hS1 hL hc hz
  · rw [hn] at hw
    exact hw
  · rw [am_el_54 (h := (h.1, h.2.1, h.2.2.1, am_u h.2.2.2 p1 i.toNatClampNeg (some r))) hp]
    dsimp only
    rw [am_u_at]
    congr 7
    funext j
    unfold va_up
    split <;> rfl
theorem aj_arraylength (F : am_F p s m args c cc nL own Ts D a0 cA base L0 X0) (h4n : 4 ≤ n0) (hd : decode cc (pcs k) = .ok (.arraylength, 1)) (hn : pcs (k + 1) = pcs k + 1) (hs : am_step rc na C Z (am_J p l e R s m args below meth c Qm nL D a0 cA base L0 X0 n0 z0 pcs) k ls st h .arraylength) : (am_J p l e R s m args below meth c Qm nL D a0 cA base L0 X0 n0 z0 pcs) k ls st h := by
  obtain ⟨p1, t, n, st1, rfl, hp, ht, ht2, hX⟩ := hs
  intro ad H locs lr cells slots hag hwf hR hS hL hc hz
  have hw := hX ad H locs lr cells slots hag ⟨hwf.1, am_okc trivial (am_tl hwf.2.1), hwf.2.2⟩ hR hS hL hc hz
  rw [hn] at hw
  rcases Nat.lt_or_ge p1 4 with q | q
  · obtain ⟨e1, e2⟩ := hR.2.2.2.1 p1 q
    rw [hp] at e1
    cases e1
    obtain ⟨x1, x2⟩ := F.2.2.2.2.2.2.2.1 p1 q
    have e3 : ad p1 = a0 p1 := hag p1 (by omega)
    show W p l e R s m args below meth c H locs cells slots Qm (F0 m (pcs k) lr (.ref (ad p1) :: st1.map (am_vv ad)))
    rw [e3]
    exact va_slen F.1 F.2.1 x1 (Nat.lt_of_lt_of_le x2 F.2.2.2.2.2.2.2.2.1) (by omega) hS hd hw
  · have hw' := am_ws_at (ad := ad) (cA := cA) q (am_lt hp)
    by_cases h51 : t = 51
    · subst h51
      rw [am_el_51 hp] at hw'
      exact va_alen F.1 F.2.1 F.2.2.2.2.2.2.1 hR.1 (p1 - 4) 1 hw' (ty := .long) rfl rfl hd hw
    · by_cases h54 : t = 54
      · subst h54
        rw [am_el_54 hp] at hw'
        exact va_alen F.1 F.2.1 F.2.2.2.2.2.2.1 hR.1 (p1 - 4) 4 hw' (ty := .object RX0) rfl rfl hd hw
      · rw [am_el_arr hp (by omega) h51 h54] at hw'
        have h3 : t = 50 ∨ t = 52 ∨ t = 53 := by omega
        rcases h3 with rfl | rfl | rfl
        · exact va_alen F.1 F.2.1 F.2.2.2.2.2.2.1 hR.1 (p1 - 4) 0 hw' (ty := .int) rfl rfl hd hw
        · exact va_alen F.1 F.2.1 F.2.2.2.2.2.2.1 hR.1 (p1 - 4) 2 hw' (ty := .byte) rfl rfl hd hw
        · exact va_alen F.1 F.2.1 F.2.2.2.2.2.2.1 hR.1 (p1 - 4) 3 hw' (ty := .boolean) rfl rfl hd hw
theorem aj_gets (F : am_F p s m args c cc nL own Ts D a0 cA base L0 X0) (h4n : 4 ≤ n0) {j idx : Nat} (hj : j < 3) (hlk : .fieldLink own idx (am_sf j).1 (am_sf j).2 "[I" ∈ lw_tbl) (hd : decode cc (pcs k) = .ok (.getstatic idx, 3)) (hn : pcs (k + 1) = pcs k + 3) (hs : am_step rc na C Z (am_J p l e R s m args below meth c Qm nL D a0 cA base L0 X0 n0 z0 pcs) k ls st h (.getstatic j)) : (am_J p l e R s m args below meth c Qm nL D a0 cA base L0 X0 n0 z0 pcs) k ls st h := by
  have hX := hs
  intro ad H locs lr cells slots hag hwf hR hS hL hc hz
  have hw := hX ad H locs lr cells slots hag ⟨hwf.1, am_okc (show j < h.1.length by have := hR.2.2.1; omega) hwf.2.1, hwf.2.2⟩ hR hS hL hc hz
  rw [hn] at hw
  have e3 : ad j = a0 j := hag j (by omega)
  have hw2 : W p l e R s m args below meth c H locs cells slots Qm (F0 m (pcs k + 3) lr (.ref (ad j) :: st.map (am_vv ad))) := hw
  rw [e3] at hw2
  exact va_gets F.1 F.2.1 (F.2.2.2.2.2.2.2.2.2.1 j hj) hS F.2.2.2.1 (F.2.2.2.2.1 _ (F.2.2.2.2.2.1 _ hlk)) (fun x hx => hx) hd hw2
theorem aj_getsN (F : am_F p s m args c cc nL own Ts D a0 cA base L0 X0) (h4n : 4 ≤ n0) {j idx : Nat} {host : String} (hj : j < 3) (hlk : .fieldLinkNest own idx (am_sf j).1 (am_sf j).2 "[I" host ∈ lw_tbl) (hd : decode cc (pcs k) = .ok (.getstatic idx, 3)) (hn : pcs (k + 1) = pcs k + 3) (hs : am_step rc na C Z (am_J p l e R s m args below meth c Qm nL D a0 cA base L0 X0 n0 z0 pcs) k ls st h (.getstatic j)) : (am_J p l e R s m args below meth c Qm nL D a0 cA base L0 X0 n0 z0 pcs) k ls st h := by
  have hX := hs
  intro ad H locs lr cells slots hag hwf hR hS hL hc hz
  have hw := hX ad H locs lr cells slots hag ⟨hwf.1, am_okc (show j < h.1.length by have := hR.2.2.1; omega) hwf.2.1, hwf.2.2⟩ hR hS hL hc hz
  rw [hn] at hw
  have e3 : ad j = a0 j := hag j (by omega)
  have hw2 : W p l e R s m args below meth c H locs cells slots Qm (F0 m (pcs k + 3) lr (.ref (ad j) :: st.map (am_vv ad))) := hw
  rw [e3] at hw2
  exact va_getsN F.1 F.2.1 (F.2.2.2.2.2.2.2.2.2.1 j hj) hS F.2.2.2.1 (F.2.2.2.2.1 _ (F.2.2.2.2.2.1 _ hlk)) (fun x hx => hx) hd hw2
def am_dv (kd : Nat) : Value := match kd with
  | 1 => .long 0
  | 2 => .null
  | _ => .int 0
theorem am_el_new {h h' : am_H} {q0 : Nat × Nat} (hl : h'.1 = h.1 ++ [q0]) {j : Nat} (hj : j < h.1.length) (hI : h'.2.1 j = h.2.1 j) (hLo : h'.2.2.1 j = h.2.2.1 j) (hRr : h'.2.2.2 j = h.2.2.2 j) {ad ad' : Nat → Nat} (ha : ∀ i, i < h.1.length → ad' i = ad i) (hw : ∀ p k q, h.2.2.2 p k = some q → q < h.1.length) : am_el ad' cA h' j = am_el ad cA h j := by
  have hm : ∀ k, (h.2.2.2 j k).map ad' = (h.2.2.2 j k).map ad := by
    intro k
    cases hq : h.2.2.2 j k with
    | none => rfl
    | some q => exact congrArg some (ha q (hw j k q hq))
  unfold am_el
  rw [hl, List.getElem?_append_left hj]
  cases hs : h.1[j]? with
  | none => simp
  | some x =>
    obtain ⟨t, n⟩ := x
    have hfv : am_fv ad' h' j t = am_fv ad h j t := by
      funext i
      unfold am_fv
      simp [hI, hLo, hRr, hm]
    simp [hfv, hI, hLo, hRr, hm]
theorem am_ws_new {h : am_H} {ad ad' : Nat → Nat} (ha : ∀ i, i < h.1.length → ad' i = ad i) (hw : ∀ p k q, h.2.2.2 p k = some q → q < h.1.length) : am_ws ad' cA h = am_ws ad cA h := by
  unfold am_ws
  apply List.map_congr_left
  intro j hj
  rw [List.mem_range] at hj
  rw [ha _ (by omega)]
  congr 1
  have hm : ∀ k, (h.2.2.2 (j + 4) k).map ad' = (h.2.2.2 (j + 4) k).map ad := by
    intro k
    cases hq : h.2.2.2 (j + 4) k with
    | none => rfl
    | some q => exact congrArg some (ha q (hw (j + 4) k q hq))
  unfold am_el
  cases hs : h.1[j + 4]? with
  | none => simp
  | some x =>
    obtain ⟨t, n⟩ := x
    have hfv : am_fv ad' h (j + 4) t = am_fv ad h (j + 4) t := by
      funext i
      unfold am_fv
      simp [hm]
    simp [hfv, hm]
theorem am_st_new {st : List Value} {n : Nat} {ad ad' : Nat → Nat} (ha : ∀ i, i < n → ad' i = ad i) (hw : ∀ v ∈ st, am_okv n v) : st.map (am_vv ad') = st.map (am_vv ad) := by
  apply List.map_congr_left
  intro v hv
  exact am_vv_to (hw v hv) ha
theorem am_loc_new {ls : List (Option Value)} {n : Nat} {lr : Array Slot} {ad ad' : Nat → Nat} (ha : ∀ i, i < n → ad' i = ad i) (hw : ∀ v, some v ∈ ls → am_okv n v) (hL : am_loc ad ls nL lr) : am_loc ad' ls nL lr :=
  ⟨hL.1, hL.2.1, hL.2.2.1, fun j v hj => by rw [am_vv_to (hw v (List.mem_of_getElem? hj)) ha]; exact hL.2.2.2 j v hj⟩
/-- a new cell behind all others -/
def am_nh (h : am_H) (q : Nat × Nat) : am_H := (h.1 ++ [q], va_up h.2.1 h.1.length (fun _ => 0), va_up h.2.2.1 h.1.length (fun _ => 0), va_up h.2.2.2 h.1.length (fun _ => none))
theorem am_nh_wf {ls : List (Option Value)} {st : List Value} {h : am_H} {q : Nat × Nat} (hwf : am_wf ls st h) : am_wf ls (.ref h.1.length :: st) (am_nh h q) := by
  have hlen : (am_nh h q).1.length = h.1.length + 1 := by simp [am_nh]
  refine ⟨fun v hv => am_okv_le (hwf.1 v hv) (by omega), am_okc (by show h.1.length < _; omega) (fun v hv => am_okv_le (hwf.2.1 v hv) (by omega)), fun a b r hr => ?_⟩
  have hr : va_up h.2.2.2 h.1.length (fun _ => none) a b = some r := hr
  rw [hlen]
  unfold va_up at hr
  split at hr
  · cases hr
  · have := hwf.2.2 a b r hr
    omega
theorem am_nh_rel {h : am_H} {q0 : Nat × Nat} {q : Nat} {e1 : va_E} {H H1 : Heap} (hw : ∀ p k q, h.2.2.2 p k = some q → q < h.1.length) (hR : am_rel D ad cA base L0 X0 h H) (hcl : q0.1 < 50 → ∃ Cn T, am_cl[q0.1]? = some (Cn, T, q0.2)) (he : am_el (va_up ad h.1.length q) cA (am_nh h q0) h.1.length = e1)
    (hP : va_P D am_cl (am_ws ad cA h ++ [(q, e1)]) H1) (hD : va_D (fun q => base ≤ q) (am_ws ad cA h ++ [(q, e1)])) : am_rel D (va_up ad h.1.length q) cA base L0 X0 (am_nh h q0) H1 := by
  have h4 := hR.2.2.1
  have ha : ∀ i, i < h.1.length → va_up ad h.1.length q i = ad i := fun i hi => am_up_ne (by omega)
  have e2 : am_ws ad cA h ++ [(q, e1)] = am_ws (va_up ad h.1.length q) cA (am_nh h q0) := by
    have := am_ws_push (ad := va_up ad h.1.length q) (cA := cA) (h := h) (h' := am_nh h q0) (q := q0) h4 rfl he (fun j hj => by
      exact am_el_new (h := h) (h' := am_nh h q0) (ad := va_up ad h.1.length q) (ad' := va_up ad h.1.length q) rfl hj (am_up_ne (by omega)) (am_up_ne (by omega)) (am_up_ne (by omega)) (fun _ _ => rfl) hw)
    rw [am_up_eq, am_ws_new ha hw] at this
    exact this
  rw [e2] at hP hD
  refine ⟨hP, hD, by show 4 ≤ (h.1 ++ [q0]).length; simp; omega, fun j hj => ?_, fun a b hb hb5 => ?_⟩
  · obtain ⟨r1, r2⟩ := hR.2.2.2.1 j hj
    refine ⟨?_, ?_⟩
    · show (h.1 ++ [q0])[j]? = _
      rw [List.getElem?_append_left (by omega)]
      exact r1
    · show va_up h.2.1 h.1.length (fun _ => 0) j = _
      rw [am_up_ne (by omega)]
      exact r2
  · have hb : (h.1 ++ [q0])[a]? = some b := hb
    by_cases hlt : a < h.1.length
    · rw [List.getElem?_append_left hlt] at hb
      exact hR.2.2.2.2 a b hb hb5
    · rw [List.getElem?_append_right (by omega)] at hb
      have hz : a - h.1.length < 1 := (List.getElem?_eq_some_iff.mp hb).1
      rw [show a - h.1.length = 0 by omega] at hb
      cases hb
      exact hcl hb5
theorem aj_new (F : am_F p s m args c cc nL own Ts D a0 cA base L0 X0) {q idx : Nat} {Cn : String} {T : u_T} (hq : q / 100 < 50) (hcl : am_cl[q / 100]? = some (Cn, T, q % 100)) (ty : Nat → FieldType) (hty : ∀ k, k < q % 100 → parseFieldDescriptor (T k).2.2.1 = some (ty k)) (hdf : ∀ k, k < q % 100 → defaultValue (ty k) = am_dv ((am_fk.getD (q / 100) []).getD k 0)) (hin : ∀ w ∈ u_ws Cn T (q % 100), w ∈ lw_tbl) (hlk : .classLink own idx Cn ∈ lw_tbl) (hit : .instantiable Cn (q % 100) ∈ lw_tbl) (hii : .initialized Cn ∈ lw_tbl) (hroom : h.1.length + 1 ≤ n0 + R.cells ∧ am_sl h.1 + q % 100 ≤ z0 + R.slots) (hd : decode cc (pcs k) = .ok (.new idx, 3)) (hn : pcs (k + 1) = pcs k + 3) (hs : am_step rc na C Z (am_J p l e R s m args below meth c Qm nL D a0 cA base L0 X0 n0 z0 pcs) k ls st h (.new q)) : (am_J p l e R s m args below meth c Qm nL D a0 cA base L0 X0 n0 z0 pcs) k ls st h := by
  have hX := hs
  intro ad H locs lr cells slots hag hwf hR hS hL hc hz
  have W0 : ∀ w, w ∈ lw_tbl → w.before args s = true := fun w hw => F.2.2.2.2.1 _ (F.2.2.2.2.2.1 _ hw)
  refine va_new (fs := (List.range (q % 100)).map (fun k => am_dv ((am_fk.getD (q / 100) []).getD k 0))) F.1 F.2.1 F.2.2.2.2.1 (fun w hw => F.2.2.2.2.2.1 w (hin w hw)) ty hty F.2.2.2.1 (W0 _ hlk) (W0 _ hit) (W0 _ hii) F.2.2.2.2.2.2.1 hR.1 hR.2.1 hS (fun q2 h2 => Nat.le_trans F.2.2.2.2.2.2.2.2.1 h2) hcl (fun j hj => ?_) (by omega) (by omega) hd (fun q1 H1 hP1 hD1 hS1 => ?_)
  · unfold vp_V
    rw [hdf j hj, List.getD_eq_getElem?_getD (l := List.map _ _), List.getElem?_map, List.getElem?_range hj]
    rfl
  have he : am_el (va_up ad h.1.length q1) cA (am_nh h (q / 100, q % 100)) h.1.length = .inr (q / 100, (List.range (q % 100)).map (fun k => am_dv ((am_fk.getD (q / 100) []).getD k 0))) := by
    rw [am_el_obj (h := am_nh h (q / 100, q % 100)) (t := q / 100) (n := q % 100) (by show (h.1 ++ [_])[h.1.length]? = _; simp) hq]
    congr 2
    apply List.map_congr_left
    intro j _
    unfold am_fv am_nh
    simp only [am_up_eq]
    generalize (am_fk.getD (q / 100) []).getD j 0 = kd
    match kd with
    | 0 => rfl
    | 1 => rfl
    | 2 => rfl
    | _ + 3 => rfl
  have ha : ∀ i, i < h.1.length → va_up ad h.1.length q1 i = ad i := fun i hi => am_up_ne (by omega)
  have hlen : (am_nh h (q / 100, q % 100)).1.length = h.1.length + 1 := by simp [am_nh]
  have hsl : am_sl (am_nh h (q / 100, q % 100)).1 = am_sl h.1 + (q % 100) := by simp [am_nh, am_sl]
  have hw := hX (va_up ad h.1.length q1) H1 locs lr (cells + 1) (slots + (q % 100)) (fun j hj => by rw [ha j (by omega)]; exact hag j hj) (am_nh_wf hwf) (am_nh_rel hwf.2.2 hR (fun _ => ⟨_, _, hcl⟩) he hP1 hD1) hS1 (am_loc_new ha hwf.1 hL) (by show cells + 1 + n0 = (am_nh h (q / 100, q % 100)).1.length; rw [hlen]; omega) (by show slots + (q % 100) + z0 = am_sl (am_nh h (q / 100, q % 100)).1; rw [hsl]; omega)
  rw [hn] at hw
  have e9 : List.map (am_vv (va_up ad h.1.length q1)) (.ref h.1.length :: st) = .ref q1 :: st.map (am_vv ad) := by
    rw [List.map_cons, am_st_new ha hwf.2.1]
    show Value.ref (va_up ad h.1.length q1 h.1.length) :: _ = _
    rw [am_up_eq]
  rw [e9] at hw
  exact hw
theorem aj_newa (F : am_F p s m args c cc nL own Ts D a0 cA base L0 X0) {t : Nat} {at0 : ArrayType} {ty : FieldType} {j : Nat} (hty : newarray.typeOf at0 = ty) (hj : j < 5) (htj : (am_tys cA).getD j (0, .int) = (cA t, ty)) (ht : t = 50 ∧ ty = .int ∨ t = 51 ∧ ty = .long ∨ t = 52 ∧ ty = .byte ∨ t = 53 ∧ ty = .boolean) (harr : .arrayClass ty ∈ lw_tbl) (hroom : ∀ i st1, st = .int i :: st1 → h.1.length + 1 ≤ n0 + R.cells ∧ am_sl h.1 + i.toNatClampNeg ≤ z0 + R.slots) (hd : decode cc (pcs k) = .ok (.newarray at0, 2)) (hn : pcs (k + 1) = pcs k + 2) (hs : am_step rc na C Z (am_J p l e R s m args below meth c Qm nL D a0 cA base L0 X0 n0 z0 pcs) k ls st h (.anewarray t)) : (am_J p l e R s m args below meth c Qm nL D a0 cA base L0 X0 n0 z0 pcs) k ls st h := by
  obtain ⟨i, st1, rfl, hi, hi2, hX⟩ := hs
  obtain ⟨hr1, hr2⟩ := hroom i st1 rfl
  intro ad H locs lr cells slots hag hwf hR hS hL hc hz
  subst hty
  refine va_newaK F.1 F.2.1 (F.2.2.2.2.1 _ (F.2.2.2.2.2.1 _ harr)) rfl hd rfl hi rfl (by rcases ht with ⟨-, e⟩ | ⟨-, e⟩ | ⟨-, e⟩ | ⟨-, e⟩ <;> rw [e] <;> simp [componentBytes] <;> omega) (by omega) (by omega) rfl (fun H1 cA1 e1 z1 o1 hAr hNm => ?_)
  have hcA : cA1 = cA t := by
    have h5 := F.2.2.2.2.2.2.2.2.2.2 j hj
    rw [htj] at h5
    exact Option.some.inj (hNm.symm.trans h5)
  subst hcA
  obtain ⟨q1, hq1⟩ : ∃ q1, q1 = H.size := ⟨_, rfl⟩
  rw [← hq1] at e1 z1 o1 ⊢
  have hkp : ∀ (k : Nat) (x : Nat × va_E), (am_ws ad cA h)[k]? = some x → H1[x.1]? = H[x.1]? := fun k x hx => o1 x.1 (by rw [hq1]; exact (hR.1 k x hx).lt)
  have hS1 : va_S (fun q => base ≤ q) s.heap H1 locs := ⟨Nat.le_trans hS.1 (by omega), fun x h1 h2 => (o1 x (by rw [hq1]; exact Nat.lt_of_lt_of_le h1 hS.1)).trans (hS.2.1 x h1 h2), hS.2.2⟩
  have hD1 : ∀ e : va_E, va_D (fun q => base ≤ q) (am_ws ad cA h ++ [(q1, e)]) := fun e => hR.2.1.push hR.1 hq1 (by show base ≤ q1; rw [hq1]; exact Nat.le_trans F.2.2.2.2.2.2.2.2.1 hS.1)
  have hw9 : ∀ e7 : va_E, va_at D am_cl (q1, e7) H1 → am_el (va_up ad h.1.length q1) cA (am_nh h (t, i.toNatClampNeg)) h.1.length = e7 → W p l e R s m args below meth c H1 locs (cells + 1) (slots + i.toNatClampNeg) Qm (F0 m (pcs k + 2) lr (.ref q1 :: st1.map (am_vv ad))) := by
    intro e0 hat he
    have hP1 : va_P D am_cl (am_ws ad cA h ++ [(q1, e0)]) H1 := (hR.1.kept hkp).app (fun k x hx => by
      have hz : k < 1 := (List.getElem?_eq_some_iff.mp hx).1
      rw [show k = 0 by omega] at hx
      cases hx
      exact hat)
    have hD1 := hD1 e0
    have ha : ∀ i, i < h.1.length → va_up ad h.1.length q1 i = ad i := fun i hi => am_up_ne (by omega)
    have hlen : (am_nh h (t, i.toNatClampNeg)).1.length = h.1.length + 1 := by simp [am_nh]
    have hsl : am_sl (am_nh h (t, i.toNatClampNeg)).1 = am_sl h.1 + i.toNatClampNeg := by simp [am_nh, am_sl]
    have hw := hX (va_up ad h.1.length q1) H1 locs lr (cells + 1) (slots + i.toNatClampNeg) (fun j hj => by rw [ha j (by omega)]; exact hag j hj) (am_nh_wf ⟨hwf.1, am_tl hwf.2.1, hwf.2.2⟩) (am_nh_rel hwf.2.2 hR (fun h9 => by rcases ht with ⟨e, -⟩ | ⟨e, -⟩ | ⟨e, -⟩ | ⟨e, -⟩ <;> (have h9 : t < 50 := h9; omega)) he hP1 hD1) hS1 (am_loc_new ha hwf.1 hL) (by show cells + 1 + n0 = (am_nh h (t, i.toNatClampNeg)).1.length; rw [hlen]; omega) (by show slots + i.toNatClampNeg + z0 = am_sl (am_nh h (t, i.toNatClampNeg)).1; rw [hsl]; omega)
    rw [hn] at hw
    have e9 : List.map (am_vv (va_up ad h.1.length q1)) (.ref h.1.length :: st1) = .ref q1 :: st1.map (am_vv ad) := by
      rw [List.map_cons, am_st_new ha (am_tl hwf.2.1)]
      show Value.ref (va_up ad h.1.length q1 h.1.length) :: _ = _
      rw [am_up_eq]
    rw [e9] at hw
    exact hw
  have hsh : (am_nh h (t, i.toNatClampNeg)).1[h.1.length]? = some (t, i.toNatClampNeg) := by show (h.1 ++ [_])[h.1.length]? = _; simp
  rcases ht with ⟨rfl, e⟩ | ⟨rfl, e⟩ | ⟨rfl, e⟩ | ⟨rfl, e⟩
  · refine hw9 (.inl (cA 50, i.toNatClampNeg, .inl (fun _ => 0))) ?_ ?_
    · rw [e] at e1; exact e1
    · rw [am_el_arr hsh (by omega) (by omega) (by omega)]; unfold am_nh; simp only [am_up_eq]
  · refine hw9 (.inl (cA 51, i.toNatClampNeg, .inr (.inl (fun _ => 0)))) ?_ ?_
    · rw [e] at e1; exact e1
    · rw [am_el_51 hsh]; unfold am_nh; simp only [am_up_eq]
  · refine hw9 (.inl (cA 52, i.toNatClampNeg, .inl (fun _ => 0))) ?_ ?_
    · rw [e] at e1; exact e1
    · rw [am_el_arr hsh (by omega) (by omega) (by omega)]; unfold am_nh; simp only [am_up_eq]
  · refine hw9 (.inl (cA 53, i.toNatClampNeg, .inl (fun _ => 0))) ?_ ?_
    · rw [e] at e1; exact e1
    · rw [am_el_arr hsh (by omega) (by omega) (by omega)]; unfold am_nh; simp only [am_up_eq]
end AMD
end
section
section AME
variable {p : Program} {l : Launch} {e : Env} {R : Room} {s : State} {m : MethodId} {args : Array Value} {below : List Frame} {meth : Method} {c : Code} {Qm : State → Prop} {cc : ByteArray} {nL : Nat} {own : String} {Ts : List Cond} {D : va_G} {a0 : Nat → Nat} {cA : Nat → ClassId} {base : Nat} {L0 : Nat → Nat} {X0 : Nat → Nat → Int32} {n0 z0 : Nat} {pcs : Nat → Nat} {rc na : Nat → Nat} {C : am_C} {Z : am_Q} {k : Nat} {ls : List (Option Value)} {st : List Value} {h : am_H}
variable {ad : Nat → Nat} {H : Heap}
theorem aj_newq (F : am_F p s m args c cc nL own Ts D a0 cA base L0 X0) {idx : Nat} (hlk : .classLink own idx RX0 ∈ lw_tbl) (hao : .arrayOver (.object RX0) ∈ lw_tbl) (hroom : ∀ i st1, st = .int i :: st1 → h.1.length + 1 ≤ n0 + R.cells ∧ am_sl h.1 + i.toNatClampNeg ≤ z0 + R.slots) (hd : decode cc (pcs k) = .ok (.anewarray idx, 3)) (hn : pcs (k + 1) = pcs k + 3) (hs : am_step rc na C Z (am_J p l e R s m args below meth c Qm nL D a0 cA base L0 X0 n0 z0 pcs) k ls st h (.anewarray 54)) : (am_J p l e R s m args below meth c Qm nL D a0 cA base L0 X0 n0 z0 pcs) k ls st h := by
  obtain ⟨i, st1, rfl, hi, hi2, hX⟩ := hs
  obtain ⟨hr1, hr2⟩ := hroom i st1 rfl
  intro ad H locs lr cells slots hag hwf hR hS hL hc hz
  have W0 : ∀ w, w ∈ lw_tbl → w.before args s = true := fun w hw => F.2.2.2.2.1 _ (F.2.2.2.2.2.1 _ hw)
  refine va_newq F.1 F.2.1 F.2.2.2.1 (W0 _ hlk) (va_AO.of (W0 _ hao)) F.2.2.2.2.2.2.1 hR.1 hR.2.1 hS (fun q2 h2 => Nat.le_trans F.2.2.2.2.2.2.2.2.1 h2) hi rfl (by omega) (by omega) (by omega) hd (fun q1 cA1 H1 hK1 hP1 hD1 hS1 => ?_)
  have hcA : cA1 = cA 54 := by
    have h5 := F.2.2.2.2.2.2.2.2.2.2 4 (by omega)
    have h6 := (hK1.2 5 (cA1, .object RX0) rfl).2
    obtain ⟨kA, comp, -, -, -, h7⟩ := h6
    exact Option.some.inj (h7.symm.trans h5)
  subst hcA
  have he : am_el (va_up ad h.1.length q1) cA (am_nh h (54, i.toNatClampNeg)) h.1.length = .inl (cA 54, i.toNatClampNeg, .inr (.inr (.inr (.inr (fun _ => none))))) := by
    rw [am_el_54 (h := am_nh h (54, i.toNatClampNeg)) (n := i.toNatClampNeg) (by show (h.1 ++ [_])[h.1.length]? = _; simp)]
    unfold am_nh
    simp only [am_up_eq]
    rfl
  have ha : ∀ i, i < h.1.length → va_up ad h.1.length q1 i = ad i := fun i hi => am_up_ne (by omega)
  have hlen : (am_nh h (54, i.toNatClampNeg)).1.length = h.1.length + 1 := by simp [am_nh]
  have hsl : am_sl (am_nh h (54, i.toNatClampNeg)).1 = am_sl h.1 + i.toNatClampNeg := by simp [am_nh, am_sl]
  have hw := hX (va_up ad h.1.length q1) H1 locs lr (cells + 1) (slots + i.toNatClampNeg) (fun j hj => by rw [ha j (by omega)]; exact hag j hj) (am_nh_wf ⟨hwf.1, am_tl hwf.2.1, hwf.2.2⟩) (am_nh_rel hwf.2.2 hR (fun h9 => absurd (show (54 : Nat) < 50 from h9) (by decide)) he hP1 hD1) hS1 (am_loc_new ha hwf.1 hL) (by show cells + 1 + n0 = (am_nh h (54, i.toNatClampNeg)).1.length; rw [hlen]; omega) (by show slots + i.toNatClampNeg + z0 = am_sl (am_nh h (54, i.toNatClampNeg)).1; rw [hsl]; omega)
  rw [hn] at hw
  have e9 : List.map (am_vv (va_up ad h.1.length q1)) (.ref h.1.length :: st1) = .ref q1 :: st1.map (am_vv ad) := by
    rw [List.map_cons, am_st_new ha (am_tl hwf.2.1)]
    show Value.ref (va_up ad h.1.length q1 h.1.length) :: _ = _
    rw [am_up_eq]
  rw [e9] at hw
  exact hw
def am_tsw (pcs : Nat → Nat) (k : Nat) : Int → List Int → List (Int × Int) → Prop
  | _, [], [] => True
  | v, o :: os, (a, t) :: ps => a = v ∧ (pcs k : Int) + o = (pcs t.toNat : Nat) ∧ am_tsw pcs k (v + 1) os ps
  | _, _, _ => False
theorem am_i32 {x : Int32} {a : Int} (h1 : -2147483648 ≤ a) (h2 : a < 2147483648) : x = Int32.ofInt a ↔ x.toInt = a := by
  constructor
  · rintro rfl
    rw [Int32.toInt_ofInt]
    have hsz : Int32.size = 4294967296 := rfl
    exact Int.bmod_eq_of_le (by omega) (by omega)
  · intro h
    rw [← h, Int32.ofInt_toInt]
theorem am_tsw_at {pcs : Nat → Nat} {k : Nat} {d : Int} {x : Int32} : ∀ (os : List Int) (ps : List (Int × Int)) (v : Int), am_tsw pcs k v os ps → -2147483648 ≤ v → v + os.length ≤ 2147483648 →
    (x.toInt < v ∨ v + os.length ≤ x.toInt → am_sw d x ps = d) ∧ (v ≤ x.toInt → x.toInt < v + os.length → ∃ o, os[(x.toInt - v).toNat]? = some o ∧ (pcs k : Int) + o = (pcs (am_sw d x ps).toNat : Nat))
  | [], [], v, _, _, _ => ⟨fun _ => rfl, fun h1 h2 => by simp at h2; omega⟩
  | [], _ :: _, v, h, _, _ => by simp [am_tsw] at h
  | _ :: _, [], v, h, _, _ => by simp [am_tsw] at h
  | o :: os, (a, t) :: ps, v, h, h1, h2 => by
    obtain ⟨rfl, h4, h5⟩ := h
    simp only [List.length_cons] at h2 ⊢
    obtain ⟨g1, g2⟩ := am_tsw_at (d := d) (x := x) os ps (a + 1) h5 (by omega) (by omega)
    unfold am_sw
    refine ⟨fun hx => ?_, fun hx hy => ?_⟩
    · rw [if_neg (by rw [am_i32 (by omega) (by omega)]; omega)]
      exact g1 (by omega)
    · by_cases hxa : x.toInt = a
      · rw [if_pos (by rw [am_i32 (by omega) (by omega)]; omega)]
        exact ⟨o, by rw [hxa]; simp, h4⟩
      · rw [if_neg (by rw [am_i32 (by omega) (by omega)]; omega)]
        obtain ⟨o2, e1, e2⟩ := g2 (by omega) (by omega)
        refine ⟨o2, ?_, e2⟩
        rw [show (x.toInt - a).toNat = (x.toInt - (a + 1)).toNat + 1 by omega, List.getElem?_cons_succ]
        exact e1
theorem aj_tsw (F : am_F p s m args c cc nL own Ts D a0 cA base L0 X0) {d dd lo hi : Int} {offs : Array Int} {ps : Array (Int × Int)} {len : Nat} (h1 : -2147483648 ≤ lo) (h2 : hi + 1 = lo + offs.toList.length) (h3 : hi < 2147483648) (hsw : am_tsw pcs k lo offs.toList ps.toList) (hdd : (pcs k : Int) + dd = (pcs d.toNat : Nat)) (hd : decode cc (pcs k) = .ok (.tableswitch dd lo hi offs, len)) (hs : am_step rc na C Z (am_J p l e R s m args below meth c Qm nL D a0 cA base L0 X0 n0 z0 pcs) k ls st h (.lookupswitch d ps)) : (am_J p l e R s m args below meth c Qm nL D a0 cA base L0 X0 n0 z0 pcs) k ls st h := by
  obtain ⟨x, st1, rfl, hX⟩ := hs
  intro ad H locs lr cells slots hag hwf hR hS hL hc hz
  have hw := hX ad H locs lr cells slots hag ⟨hwf.1, am_tl hwf.2.1, hwf.2.2⟩ hR hS hL hc hz
  obtain ⟨g1, g2⟩ := am_tsw_at (d := d) (x := x) offs.toList ps.toList lo hsw h1 (by omega)
  by_cases hx : x.toInt < lo ∨ hi < x.toInt
  · rw [g1 (by omega)] at hw
    exact lv_tableOut F.1 F.2.1 hd hx hdd hw
  · obtain ⟨o, e1, e2⟩ := g2 (by omega) (by omega)
    exact lv_tableIn F.1 F.2.1 hd (by omega) (by omega) (by rw [← Array.getElem?_toList]; exact e1) e2 hw
def am_lsw (pcs : Nat → Nat) (k : Nat) : List (Int × Int) → List (Int × Int) → Prop
  | [], [] => True
  | (b, o) :: os, (a, t) :: ps => a = b ∧ -2147483648 ≤ a ∧ a < 2147483648 ∧ (pcs k : Int) + o = (pcs t.toNat : Nat) ∧ am_lsw pcs k os ps
  | _, _ => False
theorem am_lsw_at {pcs : Nat → Nat} {k : Nat} {d dd : Int} {x : Int32} (hdd : (pcs k : Int) + dd = (pcs d.toNat : Nat)) : ∀ (os ps : List (Int × Int)), am_lsw pcs k os ps → (pcs k : Int) + Op.lookupswitch.offset os dd x.toInt = (pcs (am_sw d x ps).toNat : Nat)
  | [], [], _ => hdd
  | [], _ :: _, h => by simp [am_lsw] at h
  | _ :: _, [], h => by simp [am_lsw] at h
  | (b, o) :: os, (a, t) :: ps, h => by
    obtain ⟨rfl, h1, h2, h4, h5⟩ := h
    unfold am_sw
    rw [Op.lookupswitch.offset_cons]
    by_cases hxa : x.toInt = a
    · rw [if_pos hxa.symm, if_pos ((am_i32 h1 h2).mpr hxa)]
      exact h4
    · rw [if_neg (fun z => hxa z.symm), if_neg (fun z => hxa ((am_i32 h1 h2).mp z))]
      exact am_lsw_at hdd os ps h5
theorem aj_lsw (F : am_F p s m args c cc nL own Ts D a0 cA base L0 X0) {d dd : Int} {qs : Array (Int × Int)} {ps : Array (Int × Int)} {len : Nat} (hp : (qs.toList.zip (qs.toList.drop 1)).all (fun (a, next) => a.1 < next.1) = true) (hsw : am_lsw pcs k qs.toList ps.toList) (hdd : (pcs k : Int) + dd = (pcs d.toNat : Nat)) (hd : decode cc (pcs k) = .ok (.lookupswitch dd qs, len)) (hs : am_step rc na C Z (am_J p l e R s m args below meth c Qm nL D a0 cA base L0 X0 n0 z0 pcs) k ls st h (.lookupswitch d ps)) : (am_J p l e R s m args below meth c Qm nL D a0 cA base L0 X0 n0 z0 pcs) k ls st h := by
  obtain ⟨x, st1, rfl, hX⟩ := hs
  intro ad H locs lr cells slots hag hwf hR hS hL hc hz
  have hw := hX ad H locs lr cells slots hag ⟨hwf.1, am_tl hwf.2.1, hwf.2.2⟩ hR hS hL hc hz
  exact lv_lookup F.1 F.2.1 hd hp rfl (am_lsw_at hdd qs.toList ps.toList hsw) hw
theorem aj_mm0 (F : am_F p s m args c cc nL own Ts D a0 cA base L0 X0) {idx a : Nat} (hcells : h.1.length ≤ n0 + R.cells ∧ am_sl h.1 ≤ z0 + R.slots) (hfr : 1 ≤ R.frames) (hlo : 23 ≤ R.locals) (hlk : .methodLink own idx Lib.Math.max.name ∈ lw_tbl) (hst : .static Lib.Math.max.name ∈ lw_tbl) (hii : .initialized "java/lang/Math" ∈ lw_tbl) (hco : .code Lib.Math.max.name Lib.Math.max.code 2 (some .int) ∈ lw_tbl) (hd : decode cc (pcs k) = .ok (.invokestatic idx, 3)) (hn : pcs (k + 1) = pcs k + 3) (hs : am_step rc na C Z (am_J p l e R s m args below meth c Qm nL D a0 cA base L0 X0 n0 z0 pcs) k ls st h (.invokeinterface 0 a)) : (am_J p l e R s m args below meth c Qm nL D a0 cA base L0 X0 n0 z0 pcs) k ls st h := by
  obtain ⟨x, y, st1, rfl, hct, hX⟩ := hs
  intro ad H locs lr cells slots hag hwf hR hS hL hc hz
  have hw := hX ad H locs lr cells slots hag ⟨hwf.1, am_okc trivial (am_tl (am_tl hwf.2.1)), hwf.2.2⟩ hR hS hL hc hz
  rw [hn] at hw
  have W0 : ∀ w, w ∈ lw_tbl → w.before args s = true := fun w hw => F.2.2.2.2.1 _ (F.2.2.2.2.2.1 _ hw)
  exact va_mmax F.1 F.2.1 (by rw [F.2.2.1]; exact hL.1.symm) F.2.2.2.1 (W0 _ hlk) (W0 _ hst) (W0 _ hii) (W0 _ hco) hfr (by rw [am_cat_map]; omega) (by omega) (by omega) hd hw
theorem aj_mm1 (F : am_F p s m args c cc nL own Ts D a0 cA base L0 X0) {idx a : Nat} (hcells : h.1.length ≤ n0 + R.cells ∧ am_sl h.1 ≤ z0 + R.slots) (hfr : 1 ≤ R.frames) (hlo : 23 ≤ R.locals) (hlk : .methodLink own idx Lib.Math.min.name ∈ lw_tbl) (hst : .static Lib.Math.min.name ∈ lw_tbl) (hii : .initialized "java/lang/Math" ∈ lw_tbl) (hco : .code Lib.Math.min.name Lib.Math.min.code 2 (some .int) ∈ lw_tbl) (hd : decode cc (pcs k) = .ok (.invokestatic idx, 3)) (hn : pcs (k + 1) = pcs k + 3) (hs : am_step rc na C Z (am_J p l e R s m args below meth c Qm nL D a0 cA base L0 X0 n0 z0 pcs) k ls st h (.invokeinterface 1 a)) : (am_J p l e R s m args below meth c Qm nL D a0 cA base L0 X0 n0 z0 pcs) k ls st h := by
  obtain ⟨x, y, st1, rfl, hct, hX⟩ := hs
  intro ad H locs lr cells slots hag hwf hR hS hL hc hz
  have hw := hX ad H locs lr cells slots hag ⟨hwf.1, am_okc trivial (am_tl (am_tl hwf.2.1)), hwf.2.2⟩ hR hS hL hc hz
  rw [hn] at hw
  have W0 : ∀ w, w ∈ lw_tbl → w.before args s = true := fun w hw => F.2.2.2.2.1 _ (F.2.2.2.2.2.1 _ hw)
  exact va_mmin F.1 F.2.1 (by rw [F.2.2.1]; exact hL.1.symm) F.2.2.2.1 (W0 _ hlk) (W0 _ hst) (W0 _ hii) (W0 _ hco) hfr (by rw [am_cat_map]; omega) (by omega) (by omega) hd hw
theorem aj_mm2 (F : am_F p s m args c cc nL own Ts D a0 cA base L0 X0) {idx a : Nat} (hcells : h.1.length ≤ n0 + R.cells ∧ am_sl h.1 ≤ z0 + R.slots) (hfr : 1 ≤ R.frames) (hlo : 23 ≤ R.locals) (hlk : .methodLink own idx Lib.MathLoose.max_long.x ∈ lw_tbl) (hst : .static Lib.MathLoose.max_long.x ∈ lw_tbl) (hii : .initialized "java/lang/Math" ∈ lw_tbl) (hco : .code Lib.MathLoose.max_long.x Lib.MathLoose.max_long.code 4 (some .long) ∈ lw_tbl) (hd : decode cc (pcs k) = .ok (.invokestatic idx, 3)) (hn : pcs (k + 1) = pcs k + 3) (hs : am_step rc na C Z (am_J p l e R s m args below meth c Qm nL D a0 cA base L0 X0 n0 z0 pcs) k ls st h (.invokeinterface 2 a)) : (am_J p l e R s m args below meth c Qm nL D a0 cA base L0 X0 n0 z0 pcs) k ls st h := by
  obtain ⟨x, y, st1, rfl, hct, hX⟩ := hs
  intro ad H locs lr cells slots hag hwf hR hS hL hc hz
  have hw := hX ad H locs lr cells slots hag ⟨hwf.1, am_okc trivial (am_tl (am_tl hwf.2.1)), hwf.2.2⟩ hR hS hL hc hz
  rw [hn] at hw
  have W0 : ∀ w, w ∈ lw_tbl → w.before args s = true := fun w hw => F.2.2.2.2.1 _ (F.2.2.2.2.2.1 _ hw)
  exact va_mmax_long F.1 F.2.1 (by rw [F.2.2.1]; exact hL.1.symm) F.2.2.2.1 (W0 _ hlk) (W0 _ hst) (W0 _ hii) (W0 _ hco) hfr (by rw [am_cat_map]; omega) (by omega) (by omega) hd hw
theorem aj_mm3 (F : am_F p s m args c cc nL own Ts D a0 cA base L0 X0) {idx a : Nat} (hcells : h.1.length ≤ n0 + R.cells ∧ am_sl h.1 ≤ z0 + R.slots) (hfr : 1 ≤ R.frames) (hlo : 23 ≤ R.locals) (hlk : .methodLink own idx Lib.MathLoose.min_long.x ∈ lw_tbl) (hst : .static Lib.MathLoose.min_long.x ∈ lw_tbl) (hii : .initialized "java/lang/Math" ∈ lw_tbl) (hco : .code Lib.MathLoose.min_long.x Lib.MathLoose.min_long.code 4 (some .long) ∈ lw_tbl) (hd : decode cc (pcs k) = .ok (.invokestatic idx, 3)) (hn : pcs (k + 1) = pcs k + 3) (hs : am_step rc na C Z (am_J p l e R s m args below meth c Qm nL D a0 cA base L0 X0 n0 z0 pcs) k ls st h (.invokeinterface 3 a)) : (am_J p l e R s m args below meth c Qm nL D a0 cA base L0 X0 n0 z0 pcs) k ls st h := by
  obtain ⟨x, y, st1, rfl, hct, hX⟩ := hs
  intro ad H locs lr cells slots hag hwf hR hS hL hc hz
  have hw := hX ad H locs lr cells slots hag ⟨hwf.1, am_okc trivial (am_tl (am_tl hwf.2.1)), hwf.2.2⟩ hR hS hL hc hz
  rw [hn] at hw
  have W0 : ∀ w, w ∈ lw_tbl → w.before args s = true := fun w hw => F.2.2.2.2.1 _ (F.2.2.2.2.2.1 _ hw)
  exact va_mmin_long F.1 F.2.1 (by rw [F.2.2.1]; exact hL.1.symm) F.2.2.2.1 (W0 _ hlk) (W0 _ hst) (W0 _ hii) (W0 _ hco) hfr (by rw [am_cat_map]; omega) (by omega) (by omega) hd hw
theorem aj_objInit (F : am_F p s m args c cc nL own Ts D a0 cA base L0 X0) {idx : Nat} (hfr : 1 ≤ R.frames) (hlo : 20 ≤ R.locals) (hlk : .methodLink own idx Lib.objectInit ∈ lw_tbl) (hst : .instanceMethod Lib.objectInit ∈ lw_tbl) (hco : .code Lib.objectInit ⟨#[0xb1]⟩ 1 none ∈ lw_tbl) (hd : decode cc (pcs k) = .ok (.invokespecial idx, 3)) (hn : pcs (k + 1) = pcs k + 3) (hs : am_step rc na C Z (am_J p l e R s m args below meth c Qm nL D a0 cA base L0 X0 n0 z0 pcs) k ls st h .monitorexit) : (am_J p l e R s m args below meth c Qm nL D a0 cA base L0 X0 n0 z0 pcs) k ls st h := by
  obtain ⟨p1, st1, rfl, hct, hX⟩ := hs
  intro ad H locs lr cells slots hag hwf hR hS hL hc hz
  have hw := hX ad H locs lr cells slots hag ⟨hwf.1, am_tl hwf.2.1, hwf.2.2⟩ hR hS hL hc hz
  rw [hn] at hw
  have W0 : ∀ w, w ∈ lw_tbl → w.before args s = true := fun w hw => F.2.2.2.2.1 _ (F.2.2.2.2.2.1 _ hw)
  exact W.objInit F.1 F.2.1 F.2.2.2.1 (W0 _ hlk) (W0 _ hst) (W0 _ hco) rfl (by rw [F.2.2.1]; exact hL.1) rfl hd hfr (by show 2 * 0 + _ + 12 ≤ _; rw [am_cat_map]; omega) hw
theorem aj_copyb (F : am_F p s m args c cc nL own Ts D a0 cA base L0 X0) {idx : Nat} (hfr : 1 ≤ R.frames) (hlo : 8 + (nativeFrameWords "java/lang/System" "arraycopy" 5 + 11) ≤ R.locals) (hlk : .methodLink own idx arraycopyName ∈ lw_tbl) (hna : .native arraycopyName ∈ lw_tbl) (hst : .static arraycopyName ∈ lw_tbl) (hii : .initialized "java/lang/System" ∈ lw_tbl) (hd : decode cc (pcs k) = .ok (.invokestatic idx, 3)) (hn : pcs (k + 1) = pcs k + 3) (hs : am_step rc na C Z (am_J p l e R s m args below meth c Qm nL D a0 cA base L0 X0 n0 z0 pcs) k ls st h (.invokedynamic 0)) : (am_J p l e R s m args below meth c Qm nL D a0 cA base L0 X0 n0 z0 pcs) k ls st h := by
  obtain ⟨a, b, n1, n2, sp, dp, n, st1, rfl, hct, ha, hb, i1, i2, i3, i4, i5, hfit, hX⟩ := hs
  intro ad H locs lr cells slots hag hwf hR hS hL hc hz
  have W0 : ∀ w, w ∈ lw_tbl → w.before args s = true := fun w hw => F.2.2.2.2.1 _ (F.2.2.2.2.2.1 _ hw)
  have h4 := am_pl hR ha (by omega)
  have h5 := am_pl hR hb (by omega)
  have wa := am_ws_at (ad := ad) (cA := cA) h4 (am_lt ha)
  rw [am_el_arr ha (by omega) (by omega) (by omega)] at wa
  have wb := am_ws_at (ad := ad) (cA := cA) h5 (am_lt hb)
  rw [am_el_arr hb (by omega) (by omega) (by omega)] at wb
  refine va_copyi (ty := .byte) F.1 F.2.1 (by rw [F.2.2.1]; exact hL.1.symm) F.2.2.2.1 (W0 _ hlk) (W0 _ hna) (W0 _ hst) (W0 _ hii) F.2.2.2.2.2.2.1 hR.1 hR.2.1 hS (a - 4) (b - 4) 2 2 wa wb rfl rfl rfl i1 i2 i3 i4 i5 hfit hfr (by rw [am_cat_map]; omega) hd (fun H1 locs1 hP1 hD1 hS1 => ?_)
  have hw := hX ad H1 locs1 lr cells slots hag ⟨hwf.1, am_tl (am_tl (am_tl (am_tl (am_tl hwf.2.1)))), hwf.2.2⟩ (am_rel_set (p := b) hR h5 (am_lt hb) rfl ?_ (fun z hz => am_el_oI (am_up_ne hz)) (fun j hj => am_up_ne (by omega)) hP1 hD1) hS1 hL hc hz
  · rw [hn] at hw
    exact hw
  · rw [am_el_arr (h := (h.1, va_up h.2.1 b _, h.2.2)) hb (by omega) (by omega) (by omega)]
    dsimp only
    rw [am_up_eq]
theorem aj_copyi (F : am_F p s m args c cc nL own Ts D a0 cA base L0 X0) (h4n : 4 ≤ n0) {idx : Nat} (hfr : 1 ≤ R.frames) (hlo : 8 + (nativeFrameWords "java/lang/System" "arraycopy" 5 + 11) ≤ R.locals) (hlk : .methodLink own idx arraycopyName ∈ lw_tbl) (hna : .native arraycopyName ∈ lw_tbl) (hst : .static arraycopyName ∈ lw_tbl) (hii : .initialized "java/lang/System" ∈ lw_tbl) (hd : decode cc (pcs k) = .ok (.invokestatic idx, 3)) (hn : pcs (k + 1) = pcs k + 3) (hs : am_step rc na C Z (am_J p l e R s m args below meth c Qm nL D a0 cA base L0 X0 n0 z0 pcs) k ls st h (.invokedynamic 1)) : (am_J p l e R s m args below meth c Qm nL D a0 cA base L0 X0 n0 z0 pcs) k ls st h := by
  obtain ⟨a, b, n1, n2, sp, dp, n, st1, rfl, hct, ha4, hb4, ha, hb, i1, i2, i3, i4, i5, hX⟩ := hs
  intro ad H locs lr cells slots hag hwf hR hS hL hc hz
  have W0 : ∀ w, w ∈ lw_tbl → w.before args s = true := fun w hw => F.2.2.2.2.1 _ (F.2.2.2.2.2.1 _ hw)
  have ha4 : @LT.lt Nat instLTNat a 4 := ha4
  have h5 : @LE.le Nat instLENat 4 b := hb4
  have wb := am_ws_at (ad := ad) (cA := cA) h5 (am_lt hb)
  rw [am_el_arr hb (by omega) (by omega) (by omega)] at wb
  obtain ⟨e1, e2⟩ := hR.2.2.2.1 a ha4
  rw [ha] at e1
  cases e1
  obtain ⟨x1, x2⟩ := F.2.2.2.2.2.2.2.1 a ha4
  have e3 : ad a = a0 a := hag a (by omega)
  show W p l e R s m args below meth c H locs cells slots Qm (F0 m (pcs k) lr (.int n :: .int dp :: .ref (ad b) :: .int sp :: .ref (ad a) :: st1.map (am_vv ad)))
  rw [e3]
  refine va_copyx F.1 F.2.1 (by rw [F.2.2.1]; exact hL.1.symm) F.2.2.2.1 (W0 _ hlk) (W0 _ hna) (W0 _ hst) (W0 _ hii) F.2.2.2.2.2.2.1 hR.1 hR.2.1 hS x1 (Nat.lt_of_lt_of_le x2 F.2.2.2.2.2.2.2.2.1) (by omega) (b - 4) 0 wb rfl i1 i2 i3 i4 i5 hfr (by rw [am_cat_map]; omega) hd (fun H1 locs1 hP1 hD1 hS1 => ?_)
  have hw := hX ad H1 locs1 lr cells slots hag ⟨hwf.1, am_tl (am_tl (am_tl (am_tl (am_tl hwf.2.1)))), hwf.2.2⟩ (am_rel_set (p := b) hR h5 (am_lt hb) rfl ?_ (fun z hz => am_el_oI (am_up_ne hz)) (fun j hj => am_up_ne (by omega)) hP1 hD1) hS1 hL hc hz
  · rw [hn] at hw
    exact hw
  · rw [am_el_arr (h := (h.1, va_up h.2.1 b _, h.2.2)) hb (by omega) (by omega) (by omega)]
    dsimp only
    rw [am_up_eq, e2]
end AME
end
section
/-! ===== calls, returns; a method's contract out of the small machine's ===== -/
theorem am_env_to {D : va_G} {a0 a1 : Nat → Nat} {cA : Nat → ClassId} {base : Nat} {L0 : Nat → Nat} {X0 : Nat → Nat → Int32} {u U : State} (hvm : u.vm.Alike U.vm) (hb : base ≤ U.heap.size) (hk : ∀ a : Nat, a < u.heap.size → ¬ base ≤ a → U.heap[a]? = u.heap[a]?) (ha : ∀ j, j < 4 → a1 j = a0 j) (E : am_env D a0 cA base L0 X0 u) : am_env D a1 cA base L0 X0 U := by
  obtain ⟨e1, e2, e3, e4, e5⟩ := E
  refine ⟨va_K.moved hvm e1, fun j hj => ?_, hb, fun j hj => ?_, fun j hj => ?_⟩
  · obtain ⟨x1, x2⟩ := e2 j hj
    rw [ha j hj]
    exact ⟨(x1.moved hvm).kept (hk _ (Nat.lt_of_lt_of_le x2 e3) (by omega)), x2⟩
  · rw [ha j (by omega)]
    exact (va_Z.moved hvm (e4 j hj)).kept (fun a h1 h2 => hk a h1 h2)
  · rw [hvm.findClass]
    exact e5 j hj
def am_rm (fr lo mc ms : Nat) : Room := { frames := fr, cells := mc, slots := ms, locals := lo }
def am_Pc (D : va_G) (ad : Nat → Nat) (cA : Nat → ClassId) (base : Nat) (L0 : Nat → Nat) (X0 : Nat → Nat → Int32) (as : List Value) (h : am_H) : Array Value → State → Prop := va_Pc (as.map (am_vv ad)) (fun U => am_wf [] as h ∧ am_rel D ad cA base L0 X0 h U.heap ∧ am_env D ad cA base L0 X0 U)
def am_Qc (D : va_G) (ad : Nat → Nat) (cA : Nat → ClassId) (base : Nat) (L0 : Nat → Nat) (X0 : Nat → Nat → Int32) (mc ms : Nat) (h : am_H) (Q : am_Q) : Array Value → State → Outcome → State → Prop := fun _ st oc t =>
  (∃ (r : Option Value) (h' : am_H) (ad' : Nat → Nat), oc = .returned (r.map (am_vv ad')) ∧ (∀ j, j < h.1.length → ad' j = ad j) ∧ am_wf [] r.toList h' ∧ am_rel D ad' cA base L0 X0 h' t.heap ∧ (h'.1.length = h.1.length + mc ∧ am_sl h'.1 = am_sl h.1 + ms) ∧ Q r h') ∧ va_F (fun a => base ≤ a) st t
/-- the contract of a method, out of which a call of it is made -/
def am_Met (l : Launch) (D : va_G) (cA : Nat → ClassId) (base : Nat) (L0 : Nat → Nat) (X0 : Nat → Nat → Int32) (y : MethodName) (cc : ByteArray) (nL : Nat) (rt : Option FieldType) (fr lo mc ms : Nat) (as : List Value) (h : am_H) (Q : am_Q) : Prop :=
  ∀ ad : Nat → Nat, Met l y (Cond.code y cc nL rt :: lw_tbl) (am_rm fr lo mc ms) (am_Pc D ad cA base L0 X0 as h) (am_Qc D ad cA base L0 X0 mc ms h Q) mc ms (fun a => base ≤ a)
theorem am_blind {D : va_G} {ad : Nat → Nat} {cA : Nat → ClassId} {base : Nat} {L0 : Nat → Nat} {X0 : Nat → Nat → Int32} {as : List Value} {h : am_H} : FrameBlind (am_Pc D ad cA base L0 X0 as h) := by
  intro a U g mk q
  obtain ⟨q1, q2, q3, q4⟩ := q
  exact ⟨q1, q2, q3, am_env_to (u := U) (U := U.calling g mk a) (Vm.Alike.refl U.vm) q4.2.2.1 (fun _ _ _ => rfl) (fun _ _ => rfl) q4⟩
section AMF
variable {p : Program} {l : Launch} {e : Env} {R : Room} {s : State} {m : MethodId} {args : Array Value} {below : List Frame} {meth : Method} {c : Code} {Qm : State → Prop} {cc : ByteArray} {nL : Nat} {own : String} {Ts : List Cond} {D : va_G} {a0 : Nat → Nat} {cA : Nat → ClassId} {base : Nat} {L0 : Nat → Nat} {X0 : Nat → Nat → Int32} {n0 z0 : Nat} {pcs : Nat → Nat} {rc na : Nat → Nat} {C : am_C} {Z : am_Q} {k : Nat} {ls : List (Option Value)} {st : List Value} {h : am_H}
variable {ad : Nat → Nat} {H : Heap} {locs : List Loc} {lr : Array Slot} {cells slots : Nat}
/-- behind a call -/
theorem am_ret {mc ms : Nat} {g0 : List Value} {st1 : List Value} {as : Array Value} {Q : am_Q} (hr : va_Run p l e R s m args below meth c H locs cells slots mc ms (F0 m (pcs k) lr g0) (st1.map (am_vv ad)) (am_Qc D ad cA base L0 X0 mc ms h Q as) (fun a => base ≤ a))
    (hn : pcs (k + 1) = pcs k + 3) (hS : va_S (fun q => base ≤ q) s.heap H locs) (hag : ∀ j, j < n0 → ad j = a0 j) (hwf : am_wf ls st1 h) (hL : am_loc ad ls nL lr) (hc : cells + n0 = h.1.length) (hz : slots + z0 = am_sl h.1)
    (hX : ∀ r h', Q r h' → (am_J p l e R s m args below meth c Qm nL D a0 cA base L0 X0 n0 z0 pcs) (k + 1) ls (r.toList ++ st1) h') : W p l e R s m args below meth c H locs cells slots Qm (F0 m (pcs k) lr g0) := by
  intro T hT X
  obtain ⟨v, st₀, t, T', L, h0, X', hLl, e1, e2, ⟨⟨r, h', ad', hv, ha, hw', hR', ⟨hl1, hl2⟩, hq⟩, hz1, hk1⟩, stp⟩ := hr T hT X
  cases hv
  rw [h0] at hz1 hk1
  have hS1 : va_S (fun q => base ≤ q) s.heap T'.heap (locs ++ L) := ⟨Nat.le_trans hS.1 (by rw [e1]; exact hz1), fun q h1 h2 => by rw [e1, hk1 q (Nat.lt_of_lt_of_le h1 hS.1) h2]; exact hS.2.1 q h1 h2, fun q hq => by
      rcases List.mem_append.mp hq with h | h
      · exact hS.2.2 q h
      · exact hLl q h⟩
  have hwn : am_wf ls (r.toList ++ st1) h' := ⟨fun v hv => am_okv_le (hwf.1 v hv) (by omega), fun v hv => by
      rcases List.mem_append.mp hv with q | q
      · exact hw'.2.1 v q
      · exact am_okv_le (hwf.2.1 v q) (by omega), hw'.2.2⟩
  have hw := hX r h' hq ad' T'.heap (locs ++ L) lr (cells + mc) (slots + ms) (fun j hj => by rw [ha j (by omega)]; exact hag j hj) hwn (by rw [e1]; exact hR') hS1 (am_loc_new ha hwf.1 hL) (by omega) (by omega)
  rw [hn, List.map_append, am_st_new ha hwf.2.1] at hw
  have e9 : r.toList.map (am_vv ad') = (r.map (am_vv ad')).toList := by cases r <;> rfl
  rw [e9] at hw
  obtain ⟨t2, a1, b1⟩ := hw T' rfl X'
  exact ⟨t2, stp t2 a1, b1⟩
/-- what a callee's contract asks of the state at the call -/
theorem am_prec (F : am_F p s m args c cc nL own Ts D a0 cA base L0 X0) {as : List Value} {st1 : List Value} (hag : ∀ j, j < n0 → ad j = a0 j) (h4n : 4 ≤ n0) (hwf : am_wf ls (as.reverse ++ st1) h) (hR : am_rel D ad cA base L0 X0 h H) (hS : va_S (fun q => base ≤ q) s.heap H locs) : ∀ U : State, U.heap = H → s.WarmedH U.vm → am_Pc D ad cA base L0 X0 as h (as.map (am_vv ad)).toArray U := by
  intro U hU hW
  refine ⟨rfl, ⟨fun v hv => by simp at hv, fun v hv => hwf.2.1 v (List.mem_append_left _ (List.mem_reverse.mpr hv)), hwf.2.2⟩, by rw [hU]; exact hR, am_env_to hW.alike (by rw [hU]; exact Nat.le_trans F.2.2.2.2.2.2.2.2.1 hS.1) (fun a h1 h2 => by rw [hU]; exact hS.2.1 a h1 h2) (fun j hj => hag j (by omega)) F.2.2.2.2.2.2⟩
theorem am_good {y : MethodName} {c1 : ByteArray} {nl : Nat} {rt : Option FieldType} (hg : lw_tbl.all goodWord = true) (hT : ∀ w ∈ lw_tbl, w ∈ Ts) (hc : Cond.code y c1 nl rt ∈ lw_tbl) : GoodIn Ts (Cond.code y c1 nl rt :: lw_tbl) := by
  intro w hw
  rcases List.mem_cons.mp hw with rfl | hw
  · exact ⟨hT _ hc, good_of_word (List.all_eq_true.mp hg _ hc)⟩
  · exact ⟨hT _ hw, good_of_word (List.all_eq_true.mp hg _ hw)⟩
-- calls below
theorem aj_callV (F : am_F p s m args c cc nL own Ts D a0 cA base L0 X0) (h4n : 4 ≤ n0) {q idx : Nat} {y : MethodName} {c1 : ByteArray} {nl fr lo mc ms n : Nat} {rt : Option FieldType} (hC : ∀ as h Q, C q as h Q → am_Met l D cA base L0 X0 y c1 nl rt fr lo mc ms as h Q) (hg : lw_tbl.all goodWord = true) (hco : .code y c1 nl rt ∈ lw_tbl) (hii : .initialized y.cls ∈ lw_tbl) (hds : y.cls ≠ "java/lang/invoke/MethodHandle" ∧ y.cls ≠ "java/lang/invoke/VarHandle" ∧ (parseMethodDescriptor y.desc).map (fun d => d.parameters.length) = some n) (hroom : h.1.length + mc ≤ n0 + R.cells ∧ am_sl h.1 + ms ≤ z0 + R.slots) (hfl : fr + 1 ≤ R.frames ∧ 8 + (nl + 11) + lo ≤ R.locals) {T : u_T} {N : Nat} (hna : na q = n + 1) (hrq : rc q < 50) (hrc : am_cl[rc q]? = some (y.cls, T, N)) (hlk : .methodLink own idx y ∈ lw_tbl) (hin : .instanceMethod y ∈ lw_tbl) (hse : .selects y.cls y y ∈ lw_tbl) (hd : decode cc (pcs k) = .ok (.invokevirtual idx, 3)) (hn : pcs (k + 1) = pcs k + 3) (hs : am_step rc na C Z (am_J p l e R s m args below meth c Qm nL D a0 cA base L0 X0 n0 z0 pcs) k ls st h (.invokevirtual q)) : (am_J p l e R s m args below meth c Qm nL D a0 cA base L0 X0 n0 z0 pcs) k ls st h := by
  obtain ⟨as, p1, n1, st1, rfl, hlen, hct, hp, hX⟩ := hs
  intro ad H locs lr cells slots hag hwf hR hS hL hc hz
  have W0 : ∀ w, w ∈ lw_tbl → w.before args s = true := fun w hw => F.2.2.2.2.1 _ (F.2.2.2.2.2.1 _ hw)
  have hM := hC _ _ _ hX ad
  have hw1 := am_ws_at (ad := ad) (cA := cA) (am_pl hR hp (by omega)) (am_lt hp)
  rw [am_el_obj hp hrq] at hw1
  have hwf2 : am_wf ls ((.ref p1 :: as).reverse ++ st1) h := by
    have e : (Value.ref p1 :: as).reverse ++ st1 = as.reverse ++ .ref p1 :: st1 := by simp
    rw [e]
    exact hwf
  have hwf3 : am_wf ls st1 h := ⟨hwf.1, fun v hv => hwf.2.1 v (List.mem_append_right _ (List.mem_cons_of_mem _ hv)), hwf.2.2⟩
  refine am_ret (as := (Value.ref (ad p1) :: as.map (am_vv ad)).toArray) (va_runV (As := as.map (am_vv ad)) (rest := st1.map (am_vv ad)) ⟨F.1, F.2.1, F.2.2.1, F.2.2.2.1, F.2.2.2.2.1⟩ hM ⟨callB_of n F.2.2.2.2.1 (am_good hg F.2.2.2.2.2.1 hco) rfl rfl rfl (W0 _ hii) (W0 _ hlk) hds hfl, W0 _ hin, W0 _ hse⟩ ⟨am_blind, va_recv F.2.2.2.2.2.2.1 hR.1 hrc hw1, am_prec F hag h4n hwf2 hR hS⟩ rfl (by rw [List.length_map]; omega) hL.1 (by simp [am_vv]) (by show 2 * 0 + _ ≤ 8; rw [am_cat_map]; omega) hd ⟨by omega, by omega⟩) hn hS hag hwf3 hL hc hz (fun r h' hq => hq)
theorem aj_callS (F : am_F p s m args c cc nL own Ts D a0 cA base L0 X0) (h4n : 4 ≤ n0) {q idx : Nat} {y : MethodName} {c1 : ByteArray} {nl fr lo mc ms n : Nat} {rt : Option FieldType} (hC : ∀ as h Q, C q as h Q → am_Met l D cA base L0 X0 y c1 nl rt fr lo mc ms as h Q) (hg : lw_tbl.all goodWord = true) (hco : .code y c1 nl rt ∈ lw_tbl) (hii : .initialized y.cls ∈ lw_tbl) (hds : y.cls ≠ "java/lang/invoke/MethodHandle" ∧ y.cls ≠ "java/lang/invoke/VarHandle" ∧ (parseMethodDescriptor y.desc).map (fun d => d.parameters.length) = some n) (hroom : h.1.length + mc ≤ n0 + R.cells ∧ am_sl h.1 + ms ≤ z0 + R.slots) (hfl : fr + 1 ≤ R.frames ∧ 8 + (nl + 11) + lo ≤ R.locals) (hna : na q = n) (hlk : .methodLink own idx y ∈ lw_tbl) (hst : .static y ∈ lw_tbl) (hd : decode cc (pcs k) = .ok (.invokestatic idx, 3)) (hn : pcs (k + 1) = pcs k + 3) (hs : am_step rc na C Z (am_J p l e R s m args below meth c Qm nL D a0 cA base L0 X0 n0 z0 pcs) k ls st h (.invokestatic q)) : (am_J p l e R s m args below meth c Qm nL D a0 cA base L0 X0 n0 z0 pcs) k ls st h := by
  obtain ⟨as, st1, rfl, hlen, hct, hX⟩ := hs
  intro ad H locs lr cells slots hag hwf hR hS hL hc hz
  have W0 : ∀ w, w ∈ lw_tbl → w.before args s = true := fun w hw => F.2.2.2.2.1 _ (F.2.2.2.2.2.1 _ hw)
  have hM := hC _ _ _ hX ad
  have hwf3 : am_wf ls st1 h := ⟨hwf.1, fun v hv => hwf.2.1 v (List.mem_append_right _ hv), hwf.2.2⟩
  refine am_ret (as := (as.map (am_vv ad)).toArray) (va_runS (As := as.map (am_vv ad)) (rest := st1.map (am_vv ad)) ⟨F.1, F.2.1, F.2.2.1, F.2.2.2.1, F.2.2.2.2.1⟩ hM ⟨callB_of n F.2.2.2.2.1 (am_good hg F.2.2.2.2.2.1 hco) rfl rfl rfl (W0 _ hii) (W0 _ hlk) hds hfl, W0 _ hst⟩ ⟨am_blind, am_prec F hag h4n hwf hR hS⟩ rfl (by rw [List.length_map]; omega) hL.1 (by simp) (by show 2 * 0 + _ ≤ 8; rw [am_cat_map]; omega) hd ⟨by omega, by omega⟩) hn hS hag hwf3 hL hc hz (fun r h' hq => hq)
theorem aj_callI (F : am_F p s m args c cc nL own Ts D a0 cA base L0 X0) (h4n : 4 ≤ n0) {q idx : Nat} {y : MethodName} {c1 : ByteArray} {nl fr lo mc ms n : Nat} (hC : ∀ as h Q, C q as h Q → am_Met l D cA base L0 X0 y c1 nl none fr lo mc ms as h Q) (hg : lw_tbl.all goodWord = true) (hco : .code y c1 nl none ∈ lw_tbl) (hii : .initialized y.cls ∈ lw_tbl) (hds : y.cls ≠ "java/lang/invoke/MethodHandle" ∧ y.cls ≠ "java/lang/invoke/VarHandle" ∧ (parseMethodDescriptor y.desc).map (fun d => d.parameters.length) = some n) (hroom : h.1.length + mc ≤ n0 + R.cells ∧ am_sl h.1 + ms ≤ z0 + R.slots) (hfl : fr + 1 ≤ R.frames ∧ 8 + (nl + 11) + lo ≤ R.locals) (hna : na q = n + 1) (hy : y.name = "<init>") (hlk : .methodLink own idx y ∈ lw_tbl) (hin : .instanceMethod y ∈ lw_tbl) (hd : decode cc (pcs k) = .ok (.invokespecial idx, 3)) (hn : pcs (k + 1) = pcs k + 3) (hs : am_step rc na C Z (am_J p l e R s m args below meth c Qm nL D a0 cA base L0 X0 n0 z0 pcs) k ls st h (.invokespecial q)) : (am_J p l e R s m args below meth c Qm nL D a0 cA base L0 X0 n0 z0 pcs) k ls st h := by
  obtain ⟨as, p1, n1, st1, rfl, hlen, hct, hp, hX⟩ := hs
  intro ad H locs lr cells slots hag hwf hR hS hL hc hz
  have W0 : ∀ w, w ∈ lw_tbl → w.before args s = true := fun w hw => F.2.2.2.2.1 _ (F.2.2.2.2.2.1 _ hw)
  have hM := hC _ _ _ hX ad
  have hwf2 : am_wf ls ((.ref p1 :: as).reverse ++ st1) h := by
    have e : (Value.ref p1 :: as).reverse ++ st1 = as.reverse ++ .ref p1 :: st1 := by simp
    rw [e]
    exact hwf
  have hwf3 : am_wf ls st1 h := ⟨hwf.1, fun v hv => hwf.2.1 v (List.mem_append_right _ (List.mem_cons_of_mem _ hv)), hwf.2.2⟩
  refine am_ret (as := (Value.ref (ad p1) :: as.map (am_vv ad)).toArray) (va_runI (As := as.map (am_vv ad)) (rest := st1.map (am_vv ad)) ⟨F.1, F.2.1, F.2.2.1, F.2.2.2.1, F.2.2.2.2.1⟩ hM ⟨callB_of n F.2.2.2.2.1 (am_good hg F.2.2.2.2.2.1 hco) rfl rfl rfl (W0 _ hii) (W0 _ hlk) hds hfl, hy, W0 _ hin⟩ ⟨am_blind, am_prec F hag h4n hwf2 hR hS⟩ rfl (by rw [List.length_map]; omega) hL.1 (by simp [am_vv]) (by show 2 * 0 + _ ≤ 8; rw [am_cat_map]; omega) hd ⟨by omega, by omega⟩) hn hS hag hwf3 hL hc hz (fun r h' hq => hq)
theorem aj_callVN (F : am_F p s m args c cc nL own Ts D a0 cA base L0 X0) (h4n : 4 ≤ n0) {q idx : Nat} {y : MethodName} {c1 : ByteArray} {nl fr lo mc ms n : Nat} {rt : Option FieldType} (hC : ∀ as h Q, C q as h Q → am_Met l D cA base L0 X0 y c1 nl rt fr lo mc ms as h Q) (hg : lw_tbl.all goodWord = true) (hco : .code y c1 nl rt ∈ lw_tbl) (hii : .initialized y.cls ∈ lw_tbl) (hds : y.cls ≠ "java/lang/invoke/MethodHandle" ∧ y.cls ≠ "java/lang/invoke/VarHandle" ∧ (parseMethodDescriptor y.desc).map (fun d => d.parameters.length) = some n) (hroom : h.1.length + mc ≤ n0 + R.cells ∧ am_sl h.1 + ms ≤ z0 + R.slots) (hfl : fr + 1 ≤ R.frames ∧ 8 + (nl + 11) + lo ≤ R.locals) {host : String} {T : u_T} {N : Nat} (hna : na q = n + 1) (hrq : rc q < 50) (hrc : am_cl[rc q]? = some (y.cls, T, N)) (hlk : .methodLinkNest own idx y host ∈ lw_tbl) (hin : .instanceMethod y ∈ lw_tbl) (hse : .selects y.cls y y ∈ lw_tbl) (hd : decode cc (pcs k) = .ok (.invokevirtual idx, 3)) (hn : pcs (k + 1) = pcs k + 3) (hs : am_step rc na C Z (am_J p l e R s m args below meth c Qm nL D a0 cA base L0 X0 n0 z0 pcs) k ls st h (.invokevirtual q)) : (am_J p l e R s m args below meth c Qm nL D a0 cA base L0 X0 n0 z0 pcs) k ls st h := by
  obtain ⟨as, p1, n1, st1, rfl, hlen, hct, hp, hX⟩ := hs
  intro ad H locs lr cells slots hag hwf hR hS hL hc hz
  have W0 : ∀ w, w ∈ lw_tbl → w.before args s = true := fun w hw => F.2.2.2.2.1 _ (F.2.2.2.2.2.1 _ hw)
  have hM := hC _ _ _ hX ad
  have hw1 := am_ws_at (ad := ad) (cA := cA) (am_pl hR hp (by omega)) (am_lt hp)
  rw [am_el_obj hp hrq] at hw1
  have hwf2 : am_wf ls ((.ref p1 :: as).reverse ++ st1) h := by
    have e : (Value.ref p1 :: as).reverse ++ st1 = as.reverse ++ .ref p1 :: st1 := by simp
    rw [e]
    exact hwf
  have hwf3 : am_wf ls st1 h := ⟨hwf.1, fun v hv => hwf.2.1 v (List.mem_append_right _ (List.mem_cons_of_mem _ hv)), hwf.2.2⟩
  refine am_ret (as := (Value.ref (ad p1) :: as.map (am_vv ad)).toArray) (va_runVN (As := as.map (am_vv ad)) (rest := st1.map (am_vv ad)) ⟨F.1, F.2.1, F.2.2.1, F.2.2.2.1, F.2.2.2.2.1⟩ hM ⟨va_cnB n F.2.2.2.2.1 (am_good hg F.2.2.2.2.2.1 hco) rfl rfl rfl (va_tabs rfl rfl (W0 _ hlk)) (W0 _ hii) hds hfl, W0 _ hin, W0 _ hse⟩ ⟨am_blind, va_recv F.2.2.2.2.2.2.1 hR.1 hrc hw1, am_prec F hag h4n hwf2 hR hS⟩ rfl (by rw [List.length_map]; omega) hL.1 (by simp [am_vv]) (by show 2 * 0 + _ ≤ 8; rw [am_cat_map]; omega) hd ⟨by omega, by omega⟩) hn hS hag hwf3 hL hc hz (fun r h' hq => hq)
theorem aj_callSN (F : am_F p s m args c cc nL own Ts D a0 cA base L0 X0) (h4n : 4 ≤ n0) {q idx : Nat} {y : MethodName} {c1 : ByteArray} {nl fr lo mc ms n : Nat} {rt : Option FieldType} (hC : ∀ as h Q, C q as h Q → am_Met l D cA base L0 X0 y c1 nl rt fr lo mc ms as h Q) (hg : lw_tbl.all goodWord = true) (hco : .code y c1 nl rt ∈ lw_tbl) (hii : .initialized y.cls ∈ lw_tbl) (hds : y.cls ≠ "java/lang/invoke/MethodHandle" ∧ y.cls ≠ "java/lang/invoke/VarHandle" ∧ (parseMethodDescriptor y.desc).map (fun d => d.parameters.length) = some n) (hroom : h.1.length + mc ≤ n0 + R.cells ∧ am_sl h.1 + ms ≤ z0 + R.slots) (hfl : fr + 1 ≤ R.frames ∧ 8 + (nl + 11) + lo ≤ R.locals) {host : String} (hna : na q = n) (hlk : .methodLinkNest own idx y host ∈ lw_tbl) (hst : .static y ∈ lw_tbl) (hd : decode cc (pcs k) = .ok (.invokestatic idx, 3)) (hn : pcs (k + 1) = pcs k + 3) (hs : am_step rc na C Z (am_J p l e R s m args below meth c Qm nL D a0 cA base L0 X0 n0 z0 pcs) k ls st h (.invokestatic q)) : (am_J p l e R s m args below meth c Qm nL D a0 cA base L0 X0 n0 z0 pcs) k ls st h := by
  obtain ⟨as, st1, rfl, hlen, hct, hX⟩ := hs
  intro ad H locs lr cells slots hag hwf hR hS hL hc hz
  have W0 : ∀ w, w ∈ lw_tbl → w.before args s = true := fun w hw => F.2.2.2.2.1 _ (F.2.2.2.2.2.1 _ hw)
  have hM := hC _ _ _ hX ad
  have hwf3 : am_wf ls st1 h := ⟨hwf.1, fun v hv => hwf.2.1 v (List.mem_append_right _ hv), hwf.2.2⟩
  refine am_ret (as := (as.map (am_vv ad)).toArray) (va_runSN (As := as.map (am_vv ad)) (rest := st1.map (am_vv ad)) ⟨F.1, F.2.1, F.2.2.1, F.2.2.2.1, F.2.2.2.2.1⟩ hM ⟨va_cnB n F.2.2.2.2.1 (am_good hg F.2.2.2.2.2.1 hco) rfl rfl rfl (va_tabs rfl rfl (W0 _ hlk)) (W0 _ hii) hds hfl, W0 _ hst, trivial⟩ ⟨am_blind, am_prec F hag h4n hwf hR hS⟩ rfl (by rw [List.length_map]; omega) hL.1 (by simp) (by show 2 * 0 + _ ≤ 8; rw [am_cat_map]; omega) hd ⟨by omega, by omega⟩) hn hS hag hwf3 hL hc hz (fun r h' hq => hq)
theorem aj_callIN (F : am_F p s m args c cc nL own Ts D a0 cA base L0 X0) (h4n : 4 ≤ n0) {q idx : Nat} {y : MethodName} {c1 : ByteArray} {nl fr lo mc ms n : Nat} (hC : ∀ as h Q, C q as h Q → am_Met l D cA base L0 X0 y c1 nl none fr lo mc ms as h Q) (hg : lw_tbl.all goodWord = true) (hco : .code y c1 nl none ∈ lw_tbl) (hii : .initialized y.cls ∈ lw_tbl) (hds : y.cls ≠ "java/lang/invoke/MethodHandle" ∧ y.cls ≠ "java/lang/invoke/VarHandle" ∧ (parseMethodDescriptor y.desc).map (fun d => d.parameters.length) = some n) (hroom : h.1.length + mc ≤ n0 + R.cells ∧ am_sl h.1 + ms ≤ z0 + R.slots) (hfl : fr + 1 ≤ R.frames ∧ 8 + (nl + 11) + lo ≤ R.locals) {host : String} (hna : na q = n + 1) (hy : y.name = "<init>") (hlk : .methodLinkNest own idx y host ∈ lw_tbl) (hin : .instanceMethod y ∈ lw_tbl) (hd : decode cc (pcs k) = .ok (.invokespecial idx, 3)) (hn : pcs (k + 1) = pcs k + 3) (hs : am_step rc na C Z (am_J p l e R s m args below meth c Qm nL D a0 cA base L0 X0 n0 z0 pcs) k ls st h (.invokespecial q)) : (am_J p l e R s m args below meth c Qm nL D a0 cA base L0 X0 n0 z0 pcs) k ls st h := by
  obtain ⟨as, p1, n1, st1, rfl, hlen, hct, hp, hX⟩ := hs
  intro ad H locs lr cells slots hag hwf hR hS hL hc hz
  have W0 : ∀ w, w ∈ lw_tbl → w.before args s = true := fun w hw => F.2.2.2.2.1 _ (F.2.2.2.2.2.1 _ hw)
  have hM := hC _ _ _ hX ad
  have hwf2 : am_wf ls ((.ref p1 :: as).reverse ++ st1) h := by
    have e : (Value.ref p1 :: as).reverse ++ st1 = as.reverse ++ .ref p1 :: st1 := by simp
    rw [e]
    exact hwf
  have hwf3 : am_wf ls st1 h := ⟨hwf.1, fun v hv => hwf.2.1 v (List.mem_append_right _ (List.mem_cons_of_mem _ hv)), hwf.2.2⟩
  refine am_ret (as := (Value.ref (ad p1) :: as.map (am_vv ad)).toArray) (va_runIN (As := as.map (am_vv ad)) (rest := st1.map (am_vv ad)) ⟨F.1, F.2.1, F.2.2.1, F.2.2.2.1, F.2.2.2.2.1⟩ hM ⟨va_cnB n F.2.2.2.2.1 (am_good hg F.2.2.2.2.2.1 hco) rfl rfl rfl (va_tabs rfl rfl (W0 _ hlk)) (W0 _ hii) hds hfl, hy, W0 _ hin⟩ ⟨am_blind, am_prec F hag h4n hwf2 hR hS⟩ rfl (by rw [List.length_map]; omega) hL.1 (by simp [am_vv]) (by show 2 * 0 + _ ≤ 8; rw [am_cat_map]; omega) hd ⟨by omega, by omega⟩) hn hS hag hwf3 hL hc hz (fun r h' hq => hq)
/-- a method's end, in the small machine's words -/
def am_Z (rt : Option FieldType) (mc ms n0 z0 : Nat) (Q : am_Q) : am_Q := fun r h' => (h'.1.length = n0 + mc ∧ am_sl h'.1 = z0 + ms) ∧ (rt = some .boolean → r = some (.int 0) ∨ r = some (.int 1)) ∧ Q r h'
end AMF
section AMR
variable {p : Program} {l : Launch} {e : Env} {R : Room} {s : State} {m : MethodId} {args : Array Value} {below : List Frame} {meth : Method} {c : Code} {cc : ByteArray} {nL : Nat} {own : String} {Ts : List Cond} {D : va_G} {a0 : Nat → Nat} {cA : Nat → ClassId} {base : Nat} {L0 : Nat → Nat} {X0 : Nat → Nat → Int32} {pcs : Nat → Nat} {rc na : Nat → Nat} {C : am_C} {k : Nat} {ls : List (Option Value)} {st : List Value} {h h0 : am_H} {rt : Option FieldType} {mc ms : Nat} {Q : am_Q}
theorem am_end {ad : Nat → Nat} {H : Heap} {locs : List Loc} {r : Option Value} {h1 : am_H} (hag : ∀ j, j < h0.1.length → ad j = a0 j) (hw : ∀ v ∈ r.toList, am_okv h1.1.length v) (hw2 : ∀ p k q, h1.2.2.2 p k = some q → q < h1.1.length) (hR : am_rel D ad cA base L0 X0 h1 H) (hS : va_S (fun q => base ≤ q) s.heap H locs) (hZ : am_Z rt mc ms h0.1.length (am_sl h0.1) Q r h1) : ∀ t : State, t.heap = H → s.WarmedH t.vm → am_Qc D a0 cA base L0 X0 mc ms h0 Q args s (.returned (r.map (am_vv ad))) t := by
  intro t ht _
  exact ⟨⟨r, h1, ad, rfl, hag, ⟨fun v hv => by simp at hv, hw, hw2⟩, by rw [ht]; exact hR, hZ.1, hZ.2.2⟩, hS.F ht⟩
theorem aj_ireturn (F : am_F p s m args c cc nL own Ts D a0 cA base L0 X0) (hlocks : meth.locks = false) (hr : meth.sig.returnType = some .int) (hd : decode cc (pcs k) = .ok (.ireturn, 1)) (hs : am_step rc na C (am_Z rt mc ms h0.1.length (am_sl h0.1) Q) (am_J p l e R s m args below meth c (MQ below (am_Qc D a0 cA base L0 X0 mc ms h0 Q) args s mc ms (fun a => base ≤ a)) nL D a0 cA base L0 X0 h0.1.length (am_sl h0.1) pcs) k ls st h .ireturn) : (am_J p l e R s m args below meth c (MQ below (am_Qc D a0 cA base L0 X0 mc ms h0 Q) args s mc ms (fun a => base ≤ a)) nL D a0 cA base L0 X0 h0.1.length (am_sl h0.1) pcs) k ls st h := by
  obtain ⟨x, rfl, hZ⟩ := hs
  intro ad H locs lr cells slots hag hwf hR hS hL hc hz
  obtain rfl : cells = mc := by have := hZ.1.1; omega
  obtain rfl : slots = ms := by have := hZ.1.2; omega
  exact W.zret (ty := .int) F.1 F.2.1 hr rfl (am_end hag (by simp [am_okv]) hwf.2.2 hR hS hZ) hS.2.2 hd
theorem aj_zreturn (F : am_F p s m args c cc nL own Ts D a0 cA base L0 X0) (hlocks : meth.locks = false) (hr : meth.sig.returnType = some .boolean) (hrt : rt = some .boolean) (hd : decode cc (pcs k) = .ok (.ireturn, 1)) (hs : am_step rc na C (am_Z rt mc ms h0.1.length (am_sl h0.1) Q) (am_J p l e R s m args below meth c (MQ below (am_Qc D a0 cA base L0 X0 mc ms h0 Q) args s mc ms (fun a => base ≤ a)) nL D a0 cA base L0 X0 h0.1.length (am_sl h0.1) pcs) k ls st h .ireturn) : (am_J p l e R s m args below meth c (MQ below (am_Qc D a0 cA base L0 X0 mc ms h0 Q) args s mc ms (fun a => base ≤ a)) nL D a0 cA base L0 X0 h0.1.length (am_sl h0.1) pcs) k ls st h := by
  obtain ⟨x, rfl, hZ⟩ := hs
  intro ad H locs lr cells slots hag hwf hR hS hL hc hz
  obtain rfl : cells = mc := by have := hZ.1.1; omega
  obtain rfl : slots = ms := by have := hZ.1.2; omega
  exact W.zret (ty := .boolean) F.1 F.2.1 hr (by rcases hZ.2.1 hrt with q | q <;> cases q <;> rfl) (am_end hag (by simp [am_okv]) hwf.2.2 hR hS hZ) hS.2.2 hd
theorem aj_lreturn (F : am_F p s m args c cc nL own Ts D a0 cA base L0 X0) (hlocks : meth.locks = false) (hr : meth.sig.returnType = some .long) (hd : decode cc (pcs k) = .ok (.lreturn, 1)) (hs : am_step rc na C (am_Z rt mc ms h0.1.length (am_sl h0.1) Q) (am_J p l e R s m args below meth c (MQ below (am_Qc D a0 cA base L0 X0 mc ms h0 Q) args s mc ms (fun a => base ≤ a)) nL D a0 cA base L0 X0 h0.1.length (am_sl h0.1) pcs) k ls st h .lreturn) : (am_J p l e R s m args below meth c (MQ below (am_Qc D a0 cA base L0 X0 mc ms h0 Q) args s mc ms (fun a => base ≤ a)) nL D a0 cA base L0 X0 h0.1.length (am_sl h0.1) pcs) k ls st h := by
  obtain ⟨x, rfl, hZ⟩ := hs
  intro ad H locs lr cells slots hag hwf hR hS hL hc hz
  obtain rfl : cells = mc := by have := hZ.1.1; omega
  obtain rfl : slots = ms := by have := hZ.1.2; omega
  exact W.lret F.1 F.2.1 hr (am_end hag (by simp [am_okv]) hwf.2.2 hR hS hZ) hS.2.2 hd
theorem aj_return (F : am_F p s m args c cc nL own Ts D a0 cA base L0 X0) (hlocks : meth.locks = false) (hr : meth.sig.returnType = none) (hd : decode cc (pcs k) = .ok (.return_, 1)) (hs : am_step rc na C (am_Z rt mc ms h0.1.length (am_sl h0.1) Q) (am_J p l e R s m args below meth c (MQ below (am_Qc D a0 cA base L0 X0 mc ms h0 Q) args s mc ms (fun a => base ≤ a)) nL D a0 cA base L0 X0 h0.1.length (am_sl h0.1) pcs) k ls st h .return_) : (am_J p l e R s m args below meth c (MQ below (am_Qc D a0 cA base L0 X0 mc ms h0 Q) args s mc ms (fun a => base ≤ a)) nL D a0 cA base L0 X0 h0.1.length (am_sl h0.1) pcs) k ls st h := by
  obtain ⟨rfl, hZ⟩ := hs
  intro ad H locs lr cells slots hag hwf hR hS hL hc hz
  obtain rfl : cells = mc := by have := hZ.1.1; omega
  obtain rfl : slots = ms := by have := hZ.1.2; omega
  exact W.vret F.1 F.2.1 hr (am_end (r := none) hag (by simp) hwf.2.2 hR hS hZ) hS.2.2 hd
theorem aj_areturn (F : am_F p s m args c cc nL own Ts D a0 cA base L0 X0) (hlocks : meth.locks = false) {ty : String} (hr : meth.sig.returnType = some (.object ty)) (hd : decode cc (pcs k) = .ok (.areturn, 1)) (hs : am_step rc na C (am_Z rt mc ms h0.1.length (am_sl h0.1) Q) (am_J p l e R s m args below meth c (MQ below (am_Qc D a0 cA base L0 X0 mc ms h0 Q) args s mc ms (fun a => base ≤ a)) nL D a0 cA base L0 X0 h0.1.length (am_sl h0.1) pcs) k ls st h .areturn) : (am_J p l e R s m args below meth c (MQ below (am_Qc D a0 cA base L0 X0 mc ms h0 Q) args s mc ms (fun a => base ≤ a)) nL D a0 cA base L0 X0 h0.1.length (am_sl h0.1) pcs) k ls st h := by
  obtain ⟨r, rfl, hZ⟩ := hs
  intro ad H locs lr cells slots hag hwf hR hS hL hc hz
  obtain rfl : cells = mc := by have := hZ.1.1; omega
  obtain rfl : slots = ms := by have := hZ.1.2; omega
  exact W.aret F.1 F.2.1 hr (Or.inl ⟨_, rfl⟩) (by rw [am_vv_rf]; cases r <;> simp [va_rf]) (am_end hag (by simpa using hwf.2.1) hwf.2.2 hR hS hZ) hS.2.2 hd
end AMR
end
