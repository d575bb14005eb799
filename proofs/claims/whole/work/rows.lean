section
-- ===== PART A: goes FIRST, ahead of the names: the tables' words, and 'selects' of the private methods out of them =====
/-- a private method of a class that the tables say can be made, by its rows of tables_1 -/
def lw_okq (q : MethodName × Nat) : Prop := (q.1.cls ≠ "java/lang/invoke/MethodHandle" ∧ q.1.cls ≠ "java/lang/invoke/VarHandle") ∧ Cond.instantiable q.1.cls q.2 ∈ tables_1 ∧ Cond.privateMethod q.1 ∈ tables_1 ∧ Cond.instanceMethod q.1 ∈ tables_1
theorem lw_p0 : lw_okq (⟨"ShareMonitor$Worker", "obstacleTo", "(LShareMonitor$UserProcess;LShareMonitor$Op;)I"⟩, 2) := ⟨⟨by decide +kernel, by decide +kernel⟩, List.mem_of_getElem? (i := 337) (by decide +kernel), List.mem_of_getElem? (i := 407) (by decide +kernel), List.mem_of_getElem? (i := 408) (by decide +kernel)⟩
theorem lw_p1 : lw_okq (⟨"ShareMonitor$Worker", "mustWait", "(LShareMonitor$UserProcess;LShareMonitor$Op;)Z"⟩, 2) := ⟨⟨by decide +kernel, by decide +kernel⟩, List.mem_of_getElem? (i := 337) (by decide +kernel), List.mem_of_getElem? (i := 411) (by decide +kernel), List.mem_of_getElem? (i := 412) (by decide +kernel)⟩
theorem lw_p2 : lw_okq (⟨"ShareMonitor$Worker", "perform", "(LShareMonitor$UserProcess;LShareMonitor$Op;)I"⟩, 2) := ⟨⟨by decide +kernel, by decide +kernel⟩, List.mem_of_getElem? (i := 337) (by decide +kernel), List.mem_of_getElem? (i := 441) (by decide +kernel), List.mem_of_getElem? (i := 442) (by decide +kernel)⟩
theorem lw_p3 : lw_okq (⟨"ShareMonitor$Worker", "shuffle", "(LShareMonitor$UserProcess;LShareMonitor$Op;I)I"⟩, 2) := ⟨⟨by decide +kernel, by decide +kernel⟩, List.mem_of_getElem? (i := 337) (by decide +kernel), List.mem_of_getElem? (i := 449) (by decide +kernel), List.mem_of_getElem? (i := 450) (by decide +kernel)⟩
theorem lw_p4 : lw_okq (⟨"ShareMonitor$Worker", "shuffleSeveral", "(LShareMonitor$UserProcess;LShareMonitor$Op;I)V"⟩, 2) := ⟨⟨by decide +kernel, by decide +kernel⟩, List.mem_of_getElem? (i := 337) (by decide +kernel), List.mem_of_getElem? (i := 469) (by decide +kernel), List.mem_of_getElem? (i := 470) (by decide +kernel)⟩
theorem lw_p5 : lw_okq (⟨"ShareMonitor$Worker", "compute", "(LShareMonitor$UserProcess;LShareMonitor$Op;)I"⟩, 2) := ⟨⟨by decide +kernel, by decide +kernel⟩, List.mem_of_getElem? (i := 337) (by decide +kernel), List.mem_of_getElem? (i := 477) (by decide +kernel), List.mem_of_getElem? (i := 478) (by decide +kernel)⟩
theorem lw_p6 : lw_okq (⟨"ShareMonitor$Worker", "follow", "(LShareMonitor$UserProcess;LShareMonitor$Op;I)I"⟩, 2) := ⟨⟨by decide +kernel, by decide +kernel⟩, List.mem_of_getElem? (i := 337) (by decide +kernel), List.mem_of_getElem? (i := 496) (by decide +kernel), List.mem_of_getElem? (i := 497) (by decide +kernel)⟩
theorem lw_p7 : lw_okq (⟨"ShareMonitor$Worker", "useMemory", "(LShareMonitor$UserProcess;LShareMonitor$Op;)I"⟩, 2) := ⟨⟨by decide +kernel, by decide +kernel⟩, List.mem_of_getElem? (i := 337) (by decide +kernel), List.mem_of_getElem? (i := 500) (by decide +kernel), List.mem_of_getElem? (i := 501) (by decide +kernel)⟩
theorem lw_p8 : lw_okq (⟨"ShareMonitor$Memory", "cut", "(III)V"⟩, 3) := ⟨⟨by decide +kernel, by decide +kernel⟩, List.mem_of_getElem? (i := 114) (by decide +kernel), List.mem_of_getElem? (i := 512) (by decide +kernel), List.mem_of_getElem? (i := 513) (by decide +kernel)⟩
theorem lw_p9 : lw_okq (⟨"java/lang/Throwable", "fillInStackTrace", "(I)Ljava/lang/Throwable;"⟩, 6) := ⟨⟨by decide +kernel, by decide +kernel⟩, List.mem_of_getElem? (i := 562) (by decide +kernel), List.mem_of_getElem? (i := 560) (by decide +kernel), List.mem_of_getElem? (i := 561) (by decide +kernel)⟩
theorem lw_p10 : lw_okq (⟨"ShareMonitor$Worker", "release", "(LShareMonitor$UserProcess;I)I"⟩, 2) := ⟨⟨by decide +kernel, by decide +kernel⟩, List.mem_of_getElem? (i := 337) (by decide +kernel), List.mem_of_getElem? (i := 851) (by decide +kernel), List.mem_of_getElem? (i := 852) (by decide +kernel)⟩
theorem lw_p11 : lw_okq (⟨"ShareMonitor$Worker", "give", "(LShareMonitor$UserProcess;ILShareMonitor$UserProcess;)I"⟩, 2) := ⟨⟨by decide +kernel, by decide +kernel⟩, List.mem_of_getElem? (i := 337) (by decide +kernel), List.mem_of_getElem? (i := 866) (by decide +kernel), List.mem_of_getElem? (i := 867) (by decide +kernel)⟩
theorem lw_p12 : lw_okq (⟨"ShareMonitor$Worker", "talk", "(LShareMonitor$UserProcess;LShareMonitor$Op;)I"⟩, 2) := ⟨⟨by decide +kernel, by decide +kernel⟩, List.mem_of_getElem? (i := 337) (by decide +kernel), List.mem_of_getElem? (i := 874) (by decide +kernel), List.mem_of_getElem? (i := 875) (by decide +kernel)⟩
theorem lw_p13 : lw_okq (⟨"ShareMonitor$Worker", "send", "(LShareMonitor$UserProcess;ILShareMonitor$UserProcess;)I"⟩, 2) := ⟨⟨by decide +kernel, by decide +kernel⟩, List.mem_of_getElem? (i := 337) (by decide +kernel), List.mem_of_getElem? (i := 878) (by decide +kernel), List.mem_of_getElem? (i := 879) (by decide +kernel)⟩
theorem lw_p14 : lw_okq (⟨"ShareMonitor$Worker", "useChildren", "(LShareMonitor$UserProcess;LShareMonitor$Op;I)I"⟩, 2) := ⟨⟨by decide +kernel, by decide +kernel⟩, List.mem_of_getElem? (i := 337) (by decide +kernel), List.mem_of_getElem? (i := 898) (by decide +kernel), List.mem_of_getElem? (i := 899) (by decide +kernel)⟩
theorem lw_p15 : lw_okq (⟨"ShareMonitor$Worker", "spawn", "(LShareMonitor$UserProcess;I)I"⟩, 2) := ⟨⟨by decide +kernel, by decide +kernel⟩, List.mem_of_getElem? (i := 337) (by decide +kernel), List.mem_of_getElem? (i := 902) (by decide +kernel), List.mem_of_getElem? (i := 903) (by decide +kernel)⟩
def lw_privs_1 : List (MethodName × Nat) := [(⟨"ShareMonitor$Worker", "obstacleTo", "(LShareMonitor$UserProcess;LShareMonitor$Op;)I"⟩, 2), (⟨"ShareMonitor$Worker", "mustWait", "(LShareMonitor$UserProcess;LShareMonitor$Op;)Z"⟩, 2), (⟨"ShareMonitor$Worker", "perform", "(LShareMonitor$UserProcess;LShareMonitor$Op;)I"⟩, 2), (⟨"ShareMonitor$Worker", "shuffle", "(LShareMonitor$UserProcess;LShareMonitor$Op;I)I"⟩, 2), (⟨"ShareMonitor$Worker", "shuffleSeveral", "(LShareMonitor$UserProcess;LShareMonitor$Op;I)V"⟩, 2), (⟨"ShareMonitor$Worker", "compute", "(LShareMonitor$UserProcess;LShareMonitor$Op;)I"⟩, 2), (⟨"ShareMonitor$Worker", "follow", "(LShareMonitor$UserProcess;LShareMonitor$Op;I)I"⟩, 2), (⟨"ShareMonitor$Worker", "useMemory", "(LShareMonitor$UserProcess;LShareMonitor$Op;)I"⟩, 2), (⟨"ShareMonitor$Memory", "cut", "(III)V"⟩, 3), (⟨"java/lang/Throwable", "fillInStackTrace", "(I)Ljava/lang/Throwable;"⟩, 6), (⟨"ShareMonitor$Worker", "release", "(LShareMonitor$UserProcess;I)I"⟩, 2), (⟨"ShareMonitor$Worker", "give", "(LShareMonitor$UserProcess;ILShareMonitor$UserProcess;)I"⟩, 2), (⟨"ShareMonitor$Worker", "talk", "(LShareMonitor$UserProcess;LShareMonitor$Op;)I"⟩, 2), (⟨"ShareMonitor$Worker", "send", "(LShareMonitor$UserProcess;ILShareMonitor$UserProcess;)I"⟩, 2), (⟨"ShareMonitor$Worker", "useChildren", "(LShareMonitor$UserProcess;LShareMonitor$Op;I)I"⟩, 2), (⟨"ShareMonitor$Worker", "spawn", "(LShareMonitor$UserProcess;I)I"⟩, 2)]
theorem lw_r1 : ∀ q ∈ lw_privs_1, lw_okq q := List.forall_mem_cons.mpr ⟨lw_p0, List.forall_mem_cons.mpr ⟨lw_p1, List.forall_mem_cons.mpr ⟨lw_p2, List.forall_mem_cons.mpr ⟨lw_p3, List.forall_mem_cons.mpr ⟨lw_p4, List.forall_mem_cons.mpr ⟨lw_p5, List.forall_mem_cons.mpr ⟨lw_p6, List.forall_mem_cons.mpr ⟨lw_p7, List.forall_mem_cons.mpr ⟨lw_p8, List.forall_mem_cons.mpr ⟨lw_p9, List.forall_mem_cons.mpr ⟨lw_p10, List.forall_mem_cons.mpr ⟨lw_p11, List.forall_mem_cons.mpr ⟨lw_p12, List.forall_mem_cons.mpr ⟨lw_p13, List.forall_mem_cons.mpr ⟨lw_p14, List.forall_mem_cons.mpr ⟨lw_p15, fun _ h => absurd h List.not_mem_nil⟩⟩⟩⟩⟩⟩⟩⟩⟩⟩⟩⟩⟩⟩⟩⟩
theorem lw_p16 : lw_okq (⟨"ShareMonitor$Worker", "collect", "(LShareMonitor$UserProcess;LShareMonitor$UserProcess;)V"⟩, 2) := ⟨⟨by decide +kernel, by decide +kernel⟩, List.mem_of_getElem? (i := 337) (by decide +kernel), List.mem_of_getElem? (i := 914) (by decide +kernel), List.mem_of_getElem? (i := 915) (by decide +kernel)⟩
theorem lw_p17 : lw_okq (⟨"ShareMonitor$Worker", "takeTurn", "(LShareMonitor$UserProcess;LShareMonitor$Op;)I"⟩, 2) := ⟨⟨by decide +kernel, by decide +kernel⟩, List.mem_of_getElem? (i := 337) (by decide +kernel), List.mem_of_getElem? (i := 933) (by decide +kernel), List.mem_of_getElem? (i := 934) (by decide +kernel)⟩
theorem lw_p18 : lw_okq (⟨"ShareMonitor$Worker", "useSemaphore", "(LShareMonitor$UserProcess;LShareMonitor$Op;I)I"⟩, 2) := ⟨⟨by decide +kernel, by decide +kernel⟩, List.mem_of_getElem? (i := 337) (by decide +kernel), List.mem_of_getElem? (i := 947) (by decide +kernel), List.mem_of_getElem? (i := 948) (by decide +kernel)⟩
theorem lw_p19 : lw_okq (⟨"ShareMonitor$Worker", "settle", "(LShareMonitor$UserProcess;I)V"⟩, 2) := ⟨⟨by decide +kernel, by decide +kernel⟩, List.mem_of_getElem? (i := 337) (by decide +kernel), List.mem_of_getElem? (i := 967) (by decide +kernel), List.mem_of_getElem? (i := 968) (by decide +kernel)⟩
theorem lw_p20 : lw_okq (⟨"ShareMonitor$Reader", "findWord", "()Z"⟩, 11) := ⟨⟨by decide +kernel, by decide +kernel⟩, List.mem_of_getElem? (i := 59) (by decide +kernel), List.mem_of_getElem? (i := 1041) (by decide +kernel), List.mem_of_getElem? (i := 1042) (by decide +kernel)⟩
theorem lw_p21 : lw_okq (⟨"ShareMonitor$Reader", "placeBehindBlanks", "(I)I"⟩, 11) := ⟨⟨by decide +kernel, by decide +kernel⟩, List.mem_of_getElem? (i := 59) (by decide +kernel), List.mem_of_getElem? (i := 1045) (by decide +kernel), List.mem_of_getElem? (i := 1046) (by decide +kernel)⟩
theorem lw_p22 : lw_okq (⟨"ShareMonitor$Reader", "readWord", "(LShareMonitor$Program;)V"⟩, 11) := ⟨⟨by decide +kernel, by decide +kernel⟩, List.mem_of_getElem? (i := 59) (by decide +kernel), List.mem_of_getElem? (i := 1056) (by decide +kernel), List.mem_of_getElem? (i := 1057) (by decide +kernel)⟩
theorem lw_p23 : lw_okq (⟨"ShareMonitor$Reader", "numberHere", "()J"⟩, 11) := ⟨⟨by decide +kernel, by decide +kernel⟩, List.mem_of_getElem? (i := 59) (by decide +kernel), List.mem_of_getElem? (i := 1060) (by decide +kernel), List.mem_of_getElem? (i := 1061) (by decide +kernel)⟩
theorem lw_p24 : lw_okq (⟨"ShareMonitor$Reader", "addInstruction", "(LShareMonitor$Program;LShareMonitor$Op;I)V"⟩, 11) := ⟨⟨by decide +kernel, by decide +kernel⟩, List.mem_of_getElem? (i := 59) (by decide +kernel), List.mem_of_getElem? (i := 1073) (by decide +kernel), List.mem_of_getElem? (i := 1074) (by decide +kernel)⟩
theorem lw_p25 : lw_okq (⟨"ShareMonitor$Reader", "blame", "(II)V"⟩, 11) := ⟨⟨by decide +kernel, by decide +kernel⟩, List.mem_of_getElem? (i := 59) (by decide +kernel), List.mem_of_getElem? (i := 1077) (by decide +kernel), List.mem_of_getElem? (i := 1078) (by decide +kernel)⟩
theorem lw_p26 : lw_okq (⟨"ShareMonitor$Reader", "readName", "(I)V"⟩, 11) := ⟨⟨by decide +kernel, by decide +kernel⟩, List.mem_of_getElem? (i := 59) (by decide +kernel), List.mem_of_getElem? (i := 1127) (by decide +kernel), List.mem_of_getElem? (i := 1128) (by decide +kernel)⟩
theorem lw_p27 : lw_okq (⟨"ShareMonitor$Reader", "isName", "(II)Z"⟩, 11) := ⟨⟨by decide +kernel, by decide +kernel⟩, List.mem_of_getElem? (i := 59) (by decide +kernel), List.mem_of_getElem? (i := 1131) (by decide +kernel), List.mem_of_getElem? (i := 1132) (by decide +kernel)⟩
theorem lw_p28 : lw_okq (⟨"ShareMonitor$Reader", "addLabel", "(I)V"⟩, 11) := ⟨⟨by decide +kernel, by decide +kernel⟩, List.mem_of_getElem? (i := 59) (by decide +kernel), List.mem_of_getElem? (i := 1138) (by decide +kernel), List.mem_of_getElem? (i := 1139) (by decide +kernel)⟩
theorem lw_p29 : lw_okq (⟨"ShareMonitor$Reader", "targetOf", "(II)I"⟩, 11) := ⟨⟨by decide +kernel, by decide +kernel⟩, List.mem_of_getElem? (i := 59) (by decide +kernel), List.mem_of_getElem? (i := 1142) (by decide +kernel), List.mem_of_getElem? (i := 1143) (by decide +kernel)⟩
theorem lw_p30 : lw_okq (⟨"ShareMonitor$Reader", "findTargets", "(LShareMonitor$Program;)V"⟩, 11) := ⟨⟨by decide +kernel, by decide +kernel⟩, List.mem_of_getElem? (i := 59) (by decide +kernel), List.mem_of_getElem? (i := 1151) (by decide +kernel), List.mem_of_getElem? (i := 1152) (by decide +kernel)⟩
theorem lw_p31 : lw_okq (⟨"ShareMonitorModel", "free", "()I"⟩, 53) := ⟨⟨by decide +kernel, by decide +kernel⟩, List.mem_of_getElem? (i := 1326) (by decide +kernel), List.mem_of_getElem? (i := 1548) (by decide +kernel), List.mem_of_getElem? (i := 1549) (by decide +kernel)⟩
def lw_privs_2 : List (MethodName × Nat) := [(⟨"ShareMonitor$Worker", "collect", "(LShareMonitor$UserProcess;LShareMonitor$UserProcess;)V"⟩, 2), (⟨"ShareMonitor$Worker", "takeTurn", "(LShareMonitor$UserProcess;LShareMonitor$Op;)I"⟩, 2), (⟨"ShareMonitor$Worker", "useSemaphore", "(LShareMonitor$UserProcess;LShareMonitor$Op;I)I"⟩, 2), (⟨"ShareMonitor$Worker", "settle", "(LShareMonitor$UserProcess;I)V"⟩, 2), (⟨"ShareMonitor$Reader", "findWord", "()Z"⟩, 11), (⟨"ShareMonitor$Reader", "placeBehindBlanks", "(I)I"⟩, 11), (⟨"ShareMonitor$Reader", "readWord", "(LShareMonitor$Program;)V"⟩, 11), (⟨"ShareMonitor$Reader", "numberHere", "()J"⟩, 11), (⟨"ShareMonitor$Reader", "addInstruction", "(LShareMonitor$Program;LShareMonitor$Op;I)V"⟩, 11), (⟨"ShareMonitor$Reader", "blame", "(II)V"⟩, 11), (⟨"ShareMonitor$Reader", "readName", "(I)V"⟩, 11), (⟨"ShareMonitor$Reader", "isName", "(II)Z"⟩, 11), (⟨"ShareMonitor$Reader", "addLabel", "(I)V"⟩, 11), (⟨"ShareMonitor$Reader", "targetOf", "(II)I"⟩, 11), (⟨"ShareMonitor$Reader", "findTargets", "(LShareMonitor$Program;)V"⟩, 11), (⟨"ShareMonitorModel", "free", "()I"⟩, 53)]
theorem lw_r2 : ∀ q ∈ lw_privs_2, lw_okq q := List.forall_mem_cons.mpr ⟨lw_p16, List.forall_mem_cons.mpr ⟨lw_p17, List.forall_mem_cons.mpr ⟨lw_p18, List.forall_mem_cons.mpr ⟨lw_p19, List.forall_mem_cons.mpr ⟨lw_p20, List.forall_mem_cons.mpr ⟨lw_p21, List.forall_mem_cons.mpr ⟨lw_p22, List.forall_mem_cons.mpr ⟨lw_p23, List.forall_mem_cons.mpr ⟨lw_p24, List.forall_mem_cons.mpr ⟨lw_p25, List.forall_mem_cons.mpr ⟨lw_p26, List.forall_mem_cons.mpr ⟨lw_p27, List.forall_mem_cons.mpr ⟨lw_p28, List.forall_mem_cons.mpr ⟨lw_p29, List.forall_mem_cons.mpr ⟨lw_p30, List.forall_mem_cons.mpr ⟨lw_p31, fun _ h => absurd h List.not_mem_nil⟩⟩⟩⟩⟩⟩⟩⟩⟩⟩⟩⟩⟩⟩⟩⟩
theorem lw_p32 : lw_okq (⟨"ShareMonitorModel", "readAll", "(I)V"⟩, 53) := ⟨⟨by decide +kernel, by decide +kernel⟩, List.mem_of_getElem? (i := 1326) (by decide +kernel), List.mem_of_getElem? (i := 1552) (by decide +kernel), List.mem_of_getElem? (i := 1553) (by decide +kernel)⟩
theorem lw_p33 : lw_okq (⟨"ShareMonitorModel", "takeWord", "()V"⟩, 53) := ⟨⟨by decide +kernel, by decide +kernel⟩, List.mem_of_getElem? (i := 1326) (by decide +kernel), List.mem_of_getElem? (i := 1556) (by decide +kernel), List.mem_of_getElem? (i := 1557) (by decide +kernel)⟩
theorem lw_p34 : lw_okq (⟨"ShareMonitorModel", "byteOf", "(I)I"⟩, 53) := ⟨⟨by decide +kernel, by decide +kernel⟩, List.mem_of_getElem? (i := 1326) (by decide +kernel), List.mem_of_getElem? (i := 1560) (by decide +kernel), List.mem_of_getElem? (i := 1561) (by decide +kernel)⟩
theorem lw_p35 : lw_okq (⟨"ShareMonitorModel", "readWord", "(I)V"⟩, 53) := ⟨⟨by decide +kernel, by decide +kernel⟩, List.mem_of_getElem? (i := 1326) (by decide +kernel), List.mem_of_getElem? (i := 1567) (by decide +kernel), List.mem_of_getElem? (i := 1568) (by decide +kernel)⟩
theorem lw_p36 : lw_okq (⟨"ShareMonitorModel", "operation", "(II)I"⟩, 53) := ⟨⟨by decide +kernel, by decide +kernel⟩, List.mem_of_getElem? (i := 1326) (by decide +kernel), List.mem_of_getElem? (i := 1571) (by decide +kernel), List.mem_of_getElem? (i := 1572) (by decide +kernel)⟩
theorem lw_p37 : lw_okq (⟨"ShareMonitorModel", "readLabel", "(I)V"⟩, 53) := ⟨⟨by decide +kernel, by decide +kernel⟩, List.mem_of_getElem? (i := 1326) (by decide +kernel), List.mem_of_getElem? (i := 1575) (by decide +kernel), List.mem_of_getElem? (i := 1576) (by decide +kernel)⟩
theorem lw_p38 : lw_okq (⟨"ShareMonitorModel", "isName", "(II)Z"⟩, 53) := ⟨⟨by decide +kernel, by decide +kernel⟩, List.mem_of_getElem? (i := 1326) (by decide +kernel), List.mem_of_getElem? (i := 1579) (by decide +kernel), List.mem_of_getElem? (i := 1580) (by decide +kernel)⟩
theorem lw_p39 : lw_okq (⟨"ShareMonitorModel", "flaw", "(II)V"⟩, 53) := ⟨⟨by decide +kernel, by decide +kernel⟩, List.mem_of_getElem? (i := 1326) (by decide +kernel), List.mem_of_getElem? (i := 1589) (by decide +kernel), List.mem_of_getElem? (i := 1590) (by decide +kernel)⟩
theorem lw_p40 : lw_okq (⟨"ShareMonitorModel", "labelOf", "(II)I"⟩, 53) := ⟨⟨by decide +kernel, by decide +kernel⟩, List.mem_of_getElem? (i := 1326) (by decide +kernel), List.mem_of_getElem? (i := 1593) (by decide +kernel), List.mem_of_getElem? (i := 1594) (by decide +kernel)⟩
theorem lw_p41 : lw_okq (⟨"ShareMonitorModel", "isNumber", "()Z"⟩, 53) := ⟨⟨by decide +kernel, by decide +kernel⟩, List.mem_of_getElem? (i := 1326) (by decide +kernel), List.mem_of_getElem? (i := 1597) (by decide +kernel), List.mem_of_getElem? (i := 1598) (by decide +kernel)⟩
theorem lw_p42 : lw_okq (⟨"ShareMonitorModel", "valueOfWord", "()J"⟩, 53) := ⟨⟨by decide +kernel, by decide +kernel⟩, List.mem_of_getElem? (i := 1326) (by decide +kernel), List.mem_of_getElem? (i := 1601) (by decide +kernel), List.mem_of_getElem? (i := 1602) (by decide +kernel)⟩
theorem lw_p43 : lw_okq (⟨"ShareMonitorModel", "put", "(III)V"⟩, 53) := ⟨⟨by decide +kernel, by decide +kernel⟩, List.mem_of_getElem? (i := 1326) (by decide +kernel), List.mem_of_getElem? (i := 1610) (by decide +kernel), List.mem_of_getElem? (i := 1611) (by decide +kernel)⟩
theorem lw_p44 : lw_okq (⟨"ShareMonitorModel", "start", "(IIII)I"⟩, 53) := ⟨⟨by decide +kernel, by decide +kernel⟩, List.mem_of_getElem? (i := 1326) (by decide +kernel), List.mem_of_getElem? (i := 1614) (by decide +kernel), List.mem_of_getElem? (i := 1615) (by decide +kernel)⟩
theorem lw_p45 : lw_okq (⟨"ShareMonitorModel", "wake", "(I)V"⟩, 53) := ⟨⟨by decide +kernel, by decide +kernel⟩, List.mem_of_getElem? (i := 1326) (by decide +kernel), List.mem_of_getElem? (i := 1618) (by decide +kernel), List.mem_of_getElem? (i := 1619) (by decide +kernel)⟩
theorem lw_p46 : lw_okq (⟨"ShareMonitorModel", "joinRow", "(I)V"⟩, 53) := ⟨⟨by decide +kernel, by decide +kernel⟩, List.mem_of_getElem? (i := 1326) (by decide +kernel), List.mem_of_getElem? (i := 1622) (by decide +kernel), List.mem_of_getElem? (i := 1623) (by decide +kernel)⟩
theorem lw_p47 : lw_okq (⟨"ShareMonitorModel", "turn", "()I"⟩, 53) := ⟨⟨by decide +kernel, by decide +kernel⟩, List.mem_of_getElem? (i := 1326) (by decide +kernel), List.mem_of_getElem? (i := 1634) (by decide +kernel), List.mem_of_getElem? (i := 1635) (by decide +kernel)⟩
def lw_privs_3 : List (MethodName × Nat) := [(⟨"ShareMonitorModel", "readAll", "(I)V"⟩, 53), (⟨"ShareMonitorModel", "takeWord", "()V"⟩, 53), (⟨"ShareMonitorModel", "byteOf", "(I)I"⟩, 53), (⟨"ShareMonitorModel", "readWord", "(I)V"⟩, 53), (⟨"ShareMonitorModel", "operation", "(II)I"⟩, 53), (⟨"ShareMonitorModel", "readLabel", "(I)V"⟩, 53), (⟨"ShareMonitorModel", "isName", "(II)Z"⟩, 53), (⟨"ShareMonitorModel", "flaw", "(II)V"⟩, 53), (⟨"ShareMonitorModel", "labelOf", "(II)I"⟩, 53), (⟨"ShareMonitorModel", "isNumber", "()Z"⟩, 53), (⟨"ShareMonitorModel", "valueOfWord", "()J"⟩, 53), (⟨"ShareMonitorModel", "put", "(III)V"⟩, 53), (⟨"ShareMonitorModel", "start", "(IIII)I"⟩, 53), (⟨"ShareMonitorModel", "wake", "(I)V"⟩, 53), (⟨"ShareMonitorModel", "joinRow", "(I)V"⟩, 53), (⟨"ShareMonitorModel", "turn", "()I"⟩, 53)]
theorem lw_r3 : ∀ q ∈ lw_privs_3, lw_okq q := List.forall_mem_cons.mpr ⟨lw_p32, List.forall_mem_cons.mpr ⟨lw_p33, List.forall_mem_cons.mpr ⟨lw_p34, List.forall_mem_cons.mpr ⟨lw_p35, List.forall_mem_cons.mpr ⟨lw_p36, List.forall_mem_cons.mpr ⟨lw_p37, List.forall_mem_cons.mpr ⟨lw_p38, List.forall_mem_cons.mpr ⟨lw_p39, List.forall_mem_cons.mpr ⟨lw_p40, List.forall_mem_cons.mpr ⟨lw_p41, List.forall_mem_cons.mpr ⟨lw_p42, List.forall_mem_cons.mpr ⟨lw_p43, List.forall_mem_cons.mpr ⟨lw_p44, List.forall_mem_cons.mpr ⟨lw_p45, List.forall_mem_cons.mpr ⟨lw_p46, List.forall_mem_cons.mpr ⟨lw_p47, fun _ h => absurd h List.not_mem_nil⟩⟩⟩⟩⟩⟩⟩⟩⟩⟩⟩⟩⟩⟩⟩⟩
theorem lw_p48 : lw_okq (⟨"ShareMonitorModel", "wakeSleepers", "()V"⟩, 53) := ⟨⟨by decide +kernel, by decide +kernel⟩, List.mem_of_getElem? (i := 1326) (by decide +kernel), List.mem_of_getElem? (i := 1638) (by decide +kernel), List.mem_of_getElem? (i := 1639) (by decide +kernel)⟩
theorem lw_p49 : lw_okq (⟨"ShareMonitorModel", "act", "(I)V"⟩, 53) := ⟨⟨by decide +kernel, by decide +kernel⟩, List.mem_of_getElem? (i := 1326) (by decide +kernel), List.mem_of_getElem? (i := 1642) (by decide +kernel), List.mem_of_getElem? (i := 1643) (by decide +kernel)⟩
theorem lw_p50 : lw_okq (⟨"ShareMonitorModel", "finish", "(II)V"⟩, 53) := ⟨⟨by decide +kernel, by decide +kernel⟩, List.mem_of_getElem? (i := 1326) (by decide +kernel), List.mem_of_getElem? (i := 1646) (by decide +kernel), List.mem_of_getElem? (i := 1647) (by decide +kernel)⟩
theorem lw_p51 : lw_okq (⟨"ShareMonitorModel", "leaveRow", "(I)V"⟩, 53) := ⟨⟨by decide +kernel, by decide +kernel⟩, List.mem_of_getElem? (i := 1326) (by decide +kernel), List.mem_of_getElem? (i := 1650) (by decide +kernel), List.mem_of_getElem? (i := 1651) (by decide +kernel)⟩
theorem lw_p52 : lw_okq (⟨"ShareMonitorModel", "leaveSemaphore", "(I)V"⟩, 53) := ⟨⟨by decide +kernel, by decide +kernel⟩, List.mem_of_getElem? (i := 1326) (by decide +kernel), List.mem_of_getElem? (i := 1654) (by decide +kernel), List.mem_of_getElem? (i := 1655) (by decide +kernel)⟩
theorem lw_p53 : lw_okq (⟨"ShareMonitorModel", "joinBlocks", "()V"⟩, 53) := ⟨⟨by decide +kernel, by decide +kernel⟩, List.mem_of_getElem? (i := 1326) (by decide +kernel), List.mem_of_getElem? (i := 1658) (by decide +kernel), List.mem_of_getElem? (i := 1659) (by decide +kernel)⟩
theorem lw_p54 : lw_okq (⟨"ShareMonitorModel", "release", "(I)V"⟩, 53) := ⟨⟨by decide +kernel, by decide +kernel⟩, List.mem_of_getElem? (i := 1326) (by decide +kernel), List.mem_of_getElem? (i := 1662) (by decide +kernel), List.mem_of_getElem? (i := 1663) (by decide +kernel)⟩
theorem lw_p55 : lw_okq (⟨"ShareMonitorModel", "sweep", "()V"⟩, 53) := ⟨⟨by decide +kernel, by decide +kernel⟩, List.mem_of_getElem? (i := 1326) (by decide +kernel), List.mem_of_getElem? (i := 1666) (by decide +kernel), List.mem_of_getElem? (i := 1667) (by decide +kernel)⟩
theorem lw_p56 : lw_okq (⟨"ShareMonitorModel", "fits", "(II)Z"⟩, 53) := ⟨⟨by decide +kernel, by decide +kernel⟩, List.mem_of_getElem? (i := 1326) (by decide +kernel), List.mem_of_getElem? (i := 1670) (by decide +kernel), List.mem_of_getElem? (i := 1671) (by decide +kernel)⟩
theorem lw_p57 : lw_okq (⟨"ShareMonitorModel", "result", "(III)V"⟩, 53) := ⟨⟨by decide +kernel, by decide +kernel⟩, List.mem_of_getElem? (i := 1326) (by decide +kernel), List.mem_of_getElem? (i := 1674) (by decide +kernel), List.mem_of_getElem? (i := 1675) (by decide +kernel)⟩
theorem lw_p58 : lw_okq (⟨"ShareMonitorModel", "push", "(II)V"⟩, 53) := ⟨⟨by decide +kernel, by decide +kernel⟩, List.mem_of_getElem? (i := 1326) (by decide +kernel), List.mem_of_getElem? (i := 1678) (by decide +kernel), List.mem_of_getElem? (i := 1679) (by decide +kernel)⟩
theorem lw_p59 : lw_okq (⟨"ShareMonitorModel", "done", "(I)V"⟩, 53) := ⟨⟨by decide +kernel, by decide +kernel⟩, List.mem_of_getElem? (i := 1326) (by decide +kernel), List.mem_of_getElem? (i := 1682) (by decide +kernel), List.mem_of_getElem? (i := 1683) (by decide +kernel)⟩
theorem lw_p60 : lw_okq (⟨"ShareMonitorModel", "plain", "(II)V"⟩, 53) := ⟨⟨by decide +kernel, by decide +kernel⟩, List.mem_of_getElem? (i := 1326) (by decide +kernel), List.mem_of_getElem? (i := 1686) (by decide +kernel), List.mem_of_getElem? (i := 1687) (by decide +kernel)⟩
theorem lw_p61 : lw_okq (⟨"ShareMonitorModel", "top", "(II)I"⟩, 53) := ⟨⟨by decide +kernel, by decide +kernel⟩, List.mem_of_getElem? (i := 1326) (by decide +kernel), List.mem_of_getElem? (i := 1690) (by decide +kernel), List.mem_of_getElem? (i := 1691) (by decide +kernel)⟩
theorem lw_p62 : lw_okq (⟨"ShareMonitorModel", "setTop", "(III)V"⟩, 53) := ⟨⟨by decide +kernel, by decide +kernel⟩, List.mem_of_getElem? (i := 1326) (by decide +kernel), List.mem_of_getElem? (i := 1694) (by decide +kernel), List.mem_of_getElem? (i := 1695) (by decide +kernel)⟩
theorem lw_p63 : lw_okq (⟨"ShareMonitorModel", "memory", "(II)V"⟩, 53) := ⟨⟨by decide +kernel, by decide +kernel⟩, List.mem_of_getElem? (i := 1326) (by decide +kernel), List.mem_of_getElem? (i := 1701) (by decide +kernel), List.mem_of_getElem? (i := 1702) (by decide +kernel)⟩
def lw_privs_4 : List (MethodName × Nat) := [(⟨"ShareMonitorModel", "wakeSleepers", "()V"⟩, 53), (⟨"ShareMonitorModel", "act", "(I)V"⟩, 53), (⟨"ShareMonitorModel", "finish", "(II)V"⟩, 53), (⟨"ShareMonitorModel", "leaveRow", "(I)V"⟩, 53), (⟨"ShareMonitorModel", "leaveSemaphore", "(I)V"⟩, 53), (⟨"ShareMonitorModel", "joinBlocks", "()V"⟩, 53), (⟨"ShareMonitorModel", "release", "(I)V"⟩, 53), (⟨"ShareMonitorModel", "sweep", "()V"⟩, 53), (⟨"ShareMonitorModel", "fits", "(II)Z"⟩, 53), (⟨"ShareMonitorModel", "result", "(III)V"⟩, 53), (⟨"ShareMonitorModel", "push", "(II)V"⟩, 53), (⟨"ShareMonitorModel", "done", "(I)V"⟩, 53), (⟨"ShareMonitorModel", "plain", "(II)V"⟩, 53), (⟨"ShareMonitorModel", "top", "(II)I"⟩, 53), (⟨"ShareMonitorModel", "setTop", "(III)V"⟩, 53), (⟨"ShareMonitorModel", "memory", "(II)V"⟩, 53)]
theorem lw_r4 : ∀ q ∈ lw_privs_4, lw_okq q := List.forall_mem_cons.mpr ⟨lw_p48, List.forall_mem_cons.mpr ⟨lw_p49, List.forall_mem_cons.mpr ⟨lw_p50, List.forall_mem_cons.mpr ⟨lw_p51, List.forall_mem_cons.mpr ⟨lw_p52, List.forall_mem_cons.mpr ⟨lw_p53, List.forall_mem_cons.mpr ⟨lw_p54, List.forall_mem_cons.mpr ⟨lw_p55, List.forall_mem_cons.mpr ⟨lw_p56, List.forall_mem_cons.mpr ⟨lw_p57, List.forall_mem_cons.mpr ⟨lw_p58, List.forall_mem_cons.mpr ⟨lw_p59, List.forall_mem_cons.mpr ⟨lw_p60, List.forall_mem_cons.mpr ⟨lw_p61, List.forall_mem_cons.mpr ⟨lw_p62, List.forall_mem_cons.mpr ⟨lw_p63, fun _ h => absurd h List.not_mem_nil⟩⟩⟩⟩⟩⟩⟩⟩⟩⟩⟩⟩⟩⟩⟩⟩
theorem lw_p64 : lw_okq (⟨"ShareMonitorModel", "holds", "(II)Z"⟩, 53) := ⟨⟨by decide +kernel, by decide +kernel⟩, List.mem_of_getElem? (i := 1326) (by decide +kernel), List.mem_of_getElem? (i := 1705) (by decide +kernel), List.mem_of_getElem? (i := 1706) (by decide +kernel)⟩
theorem lw_p65 : lw_okq (⟨"ShareMonitorModel", "allocate", "(II)I"⟩, 53) := ⟨⟨by decide +kernel, by decide +kernel⟩, List.mem_of_getElem? (i := 1326) (by decide +kernel), List.mem_of_getElem? (i := 1709) (by decide +kernel), List.mem_of_getElem? (i := 1710) (by decide +kernel)⟩
theorem lw_p66 : lw_okq (⟨"ShareMonitorModel", "blockFrom", "(II)I"⟩, 53) := ⟨⟨by decide +kernel, by decide +kernel⟩, List.mem_of_getElem? (i := 1326) (by decide +kernel), List.mem_of_getElem? (i := 1713) (by decide +kernel), List.mem_of_getElem? (i := 1714) (by decide +kernel)⟩
theorem lw_p67 : lw_okq (⟨"ShareMonitorModel", "isAlive", "(I)Z"⟩, 53) := ⟨⟨by decide +kernel, by decide +kernel⟩, List.mem_of_getElem? (i := 1326) (by decide +kernel), List.mem_of_getElem? (i := 1717) (by decide +kernel), List.mem_of_getElem? (i := 1718) (by decide +kernel)⟩
theorem lw_p68 : lw_okq (⟨"ShareMonitorModel", "isProcess", "(I)Z"⟩, 53) := ⟨⟨by decide +kernel, by decide +kernel⟩, List.mem_of_getElem? (i := 1326) (by decide +kernel), List.mem_of_getElem? (i := 1721) (by decide +kernel), List.mem_of_getElem? (i := 1722) (by decide +kernel)⟩
theorem lw_p69 : lw_okq (⟨"ShareMonitorModel", "others", "(III)V"⟩, 53) := ⟨⟨by decide +kernel, by decide +kernel⟩, List.mem_of_getElem? (i := 1326) (by decide +kernel), List.mem_of_getElem? (i := 1725) (by decide +kernel), List.mem_of_getElem? (i := 1726) (by decide +kernel)⟩
theorem lw_p70 : lw_okq (⟨"ShareMonitorModel", "spawn", "(II)V"⟩, 53) := ⟨⟨by decide +kernel, by decide +kernel⟩, List.mem_of_getElem? (i := 1326) (by decide +kernel), List.mem_of_getElem? (i := 1729) (by decide +kernel), List.mem_of_getElem? (i := 1730) (by decide +kernel)⟩
theorem lw_p71 : lw_okq (⟨"ShareMonitorModel", "deliver", "(III)I"⟩, 53) := ⟨⟨by decide +kernel, by decide +kernel⟩, List.mem_of_getElem? (i := 1326) (by decide +kernel), List.mem_of_getElem? (i := 1733) (by decide +kernel), List.mem_of_getElem? (i := 1734) (by decide +kernel)⟩
theorem lw_p72 : lw_okq (⟨"ShareMonitorModel", "receive", "(I)V"⟩, 53) := ⟨⟨by decide +kernel, by decide +kernel⟩, List.mem_of_getElem? (i := 1326) (by decide +kernel), List.mem_of_getElem? (i := 1737) (by decide +kernel), List.mem_of_getElem? (i := 1738) (by decide +kernel)⟩
theorem lw_p73 : lw_okq (⟨"ShareMonitorModel", "waitFor", "(III)V"⟩, 53) := ⟨⟨by decide +kernel, by decide +kernel⟩, List.mem_of_getElem? (i := 1326) (by decide +kernel), List.mem_of_getElem? (i := 1741) (by decide +kernel), List.mem_of_getElem? (i := 1742) (by decide +kernel)⟩
theorem lw_p74 : lw_okq (⟨"ShareMonitorModel", "await", "(I)V"⟩, 53) := ⟨⟨by decide +kernel, by decide +kernel⟩, List.mem_of_getElem? (i := 1326) (by decide +kernel), List.mem_of_getElem? (i := 1745) (by decide +kernel), List.mem_of_getElem? (i := 1746) (by decide +kernel)⟩
theorem lw_p75 : lw_okq (⟨"ShareMonitorModel", "isChild", "(II)Z"⟩, 53) := ⟨⟨by decide +kernel, by decide +kernel⟩, List.mem_of_getElem? (i := 1326) (by decide +kernel), List.mem_of_getElem? (i := 1749) (by decide +kernel), List.mem_of_getElem? (i := 1750) (by decide +kernel)⟩
theorem lw_p76 : lw_okq (⟨"ShareMonitorModel", "shares", "(III)V"⟩, 53) := ⟨⟨by decide +kernel, by decide +kernel⟩, List.mem_of_getElem? (i := 1326) (by decide +kernel), List.mem_of_getElem? (i := 1753) (by decide +kernel), List.mem_of_getElem? (i := 1754) (by decide +kernel)⟩
theorem lw_p77 : lw_okq (⟨"ShareMonitorModel", "toEnd", "(I)V"⟩, 53) := ⟨⟨by decide +kernel, by decide +kernel⟩, List.mem_of_getElem? (i := 1326) (by decide +kernel), List.mem_of_getElem? (i := 1757) (by decide +kernel), List.mem_of_getElem? (i := 1758) (by decide +kernel)⟩
theorem lw_p78 : lw_okq (⟨"ShareMonitorModel", "semaphore", "(III)V"⟩, 53) := ⟨⟨by decide +kernel, by decide +kernel⟩, List.mem_of_getElem? (i := 1326) (by decide +kernel), List.mem_of_getElem? (i := 1762) (by decide +kernel), List.mem_of_getElem? (i := 1763) (by decide +kernel)⟩
theorem lw_p79 : lw_okq (⟨"ShareMonitorModel", "held", "(I)I"⟩, 53) := ⟨⟨by decide +kernel, by decide +kernel⟩, List.mem_of_getElem? (i := 1326) (by decide +kernel), List.mem_of_getElem? (i := 1795) (by decide +kernel), List.mem_of_getElem? (i := 1796) (by decide +kernel)⟩
def lw_privs_5 : List (MethodName × Nat) := [(⟨"ShareMonitorModel", "holds", "(II)Z"⟩, 53), (⟨"ShareMonitorModel", "allocate", "(II)I"⟩, 53), (⟨"ShareMonitorModel", "blockFrom", "(II)I"⟩, 53), (⟨"ShareMonitorModel", "isAlive", "(I)Z"⟩, 53), (⟨"ShareMonitorModel", "isProcess", "(I)Z"⟩, 53), (⟨"ShareMonitorModel", "others", "(III)V"⟩, 53), (⟨"ShareMonitorModel", "spawn", "(II)V"⟩, 53), (⟨"ShareMonitorModel", "deliver", "(III)I"⟩, 53), (⟨"ShareMonitorModel", "receive", "(I)V"⟩, 53), (⟨"ShareMonitorModel", "waitFor", "(III)V"⟩, 53), (⟨"ShareMonitorModel", "await", "(I)V"⟩, 53), (⟨"ShareMonitorModel", "isChild", "(II)Z"⟩, 53), (⟨"ShareMonitorModel", "shares", "(III)V"⟩, 53), (⟨"ShareMonitorModel", "toEnd", "(I)V"⟩, 53), (⟨"ShareMonitorModel", "semaphore", "(III)V"⟩, 53), (⟨"ShareMonitorModel", "held", "(I)I"⟩, 53)]
theorem lw_r5 : ∀ q ∈ lw_privs_5, lw_okq q := List.forall_mem_cons.mpr ⟨lw_p64, List.forall_mem_cons.mpr ⟨lw_p65, List.forall_mem_cons.mpr ⟨lw_p66, List.forall_mem_cons.mpr ⟨lw_p67, List.forall_mem_cons.mpr ⟨lw_p68, List.forall_mem_cons.mpr ⟨lw_p69, List.forall_mem_cons.mpr ⟨lw_p70, List.forall_mem_cons.mpr ⟨lw_p71, List.forall_mem_cons.mpr ⟨lw_p72, List.forall_mem_cons.mpr ⟨lw_p73, List.forall_mem_cons.mpr ⟨lw_p74, List.forall_mem_cons.mpr ⟨lw_p75, List.forall_mem_cons.mpr ⟨lw_p76, List.forall_mem_cons.mpr ⟨lw_p77, List.forall_mem_cons.mpr ⟨lw_p78, List.forall_mem_cons.mpr ⟨lw_p79, fun _ h => absurd h List.not_mem_nil⟩⟩⟩⟩⟩⟩⟩⟩⟩⟩⟩⟩⟩⟩⟩⟩
theorem lw_p80 : lw_okq (⟨"ShareMonitorModel", "processes", "(II)I"⟩, 53) := ⟨⟨by decide +kernel, by decide +kernel⟩, List.mem_of_getElem? (i := 1326) (by decide +kernel), List.mem_of_getElem? (i := 1831) (by decide +kernel), List.mem_of_getElem? (i := 1832) (by decide +kernel)⟩
def lw_privs_6 : List (MethodName × Nat) := [(⟨"ShareMonitorModel", "processes", "(II)I"⟩, 53)]
theorem lw_r6 : ∀ q ∈ lw_privs_6, lw_okq q := List.forall_mem_cons.mpr ⟨lw_p80, fun _ h => absurd h List.not_mem_nil⟩
def lw_privs : List (MethodName × Nat) := lw_privs_1 ++ (lw_privs_2 ++ (lw_privs_3 ++ (lw_privs_4 ++ (lw_privs_5 ++ (lw_privs_6)))))
def lw_tbl : List Cond := k2_sels lw_privs ++ tables_1
theorem lw_privs_ok : ∀ q ∈ lw_privs, lw_okq q := by
  show ∀ q ∈ lw_privs_1 ++ (lw_privs_2 ++ (lw_privs_3 ++ (lw_privs_4 ++ (lw_privs_5 ++ (lw_privs_6))))), lw_okq q
  exact List.forall_mem_append.mpr ⟨lw_r1, List.forall_mem_append.mpr ⟨lw_r2, List.forall_mem_append.mpr ⟨lw_r3, List.forall_mem_append.mpr ⟨lw_r4, List.forall_mem_append.mpr ⟨lw_r5, lw_r6⟩⟩⟩⟩⟩
end
section
def RX0 : String := "ShareMonitor$1"
def TX0 : u_T := fun k => match k with
  | _ => ("", "", "", false)
def tyX0 : Nat → FieldType := fun k => match k with
  | _ => .int
theorem nmX0 : ∀ a, a < 0 → ∀ b, b < 0 → a ≠ b → (TX0 a).2.1 ≠ (TX0 b).2.1 := by decide +kernel
theorem tyX0_ok : ∀ k, k < 0 → parseFieldDescriptor (TX0 k).2.2.1 = some (tyX0 k) := by decide +kernel
def RX1 : String := "ShareMonitor$Box"
def TX1 : u_T := fun k => match k with
  | 0 => ("ShareMonitor$Box", "numbers", "[I", true)
  | 1 => ("ShareMonitor$Box", "senders", "[I", true)
  | _ => ("ShareMonitor$Box", "size", "I", false)
def tyX1 : Nat → FieldType := fun k => match k with
  | 0 => .array .int
  | 1 => .array .int
  | _ => .int
theorem nmX1 : ∀ a, a < 3 → ∀ b, b < 3 → a ≠ b → (TX1 a).2.1 ≠ (TX1 b).2.1 := by decide +kernel
theorem tyX1_ok : ∀ k, k < 3 → parseFieldDescriptor (TX1 k).2.2.1 = some (tyX1 k) := by decide +kernel
abbrev cX1_init : ByteArray := prog_3_method_1_code
def yX1_init : MethodName := ⟨RX1, "<init>", "()V"⟩
abbrev cX1_put : ByteArray := prog_3_method_2_code
def yX1_put : MethodName := ⟨RX1, "put", "(II)Z"⟩
abbrev cX1_dropFirst : ByteArray := prog_3_method_3_code
def yX1_dropFirst : MethodName := ⟨RX1, "dropFirst", "()V"⟩
def RX2 : String := "ShareMonitor$Desk"
def TX2 : u_T := fun k => match k with
  | 0 => ("ShareMonitor$Desk", "processes", "[LShareMonitor$UserProcess;", true)
  | 1 => ("ShareMonitor$Desk", "programs", "[LShareMonitor$Program;", true)
  | 2 => ("ShareMonitor$Desk", "rows", "[LShareMonitor$Row;", true)
  | 3 => ("ShareMonitor$Desk", "values", "[I", true)
  | 4 => ("ShareMonitor$Desk", "queues", "[LShareMonitor$Row;", true)
  | 5 => ("ShareMonitor$Desk", "memory", "LShareMonitor$Memory;", true)
  | 6 => ("ShareMonitor$Desk", "console", "[I", true)
  | 7 => ("ShareMonitor$Desk", "shown", "I", false)
  | 8 => ("ShareMonitor$Desk", "lost", "I", false)
  | 9 => ("ShareMonitor$Desk", "clock", "I", false)
  | _ => ("ShareMonitor$Desk", "soonest", "I", false)
def tyX2 : Nat → FieldType := fun k => match k with
  | 0 => .array (.object "ShareMonitor$UserProcess")
  | 1 => .array (.object "ShareMonitor$Program")
  | 2 => .array (.object "ShareMonitor$Row")
  | 3 => .array .int
  | 4 => .array (.object "ShareMonitor$Row")
  | 5 => .object "ShareMonitor$Memory"
  | 6 => .array .int
  | 7 => .int
  | 8 => .int
  | 9 => .int
  | _ => .int
theorem nmX2 : ∀ a, a < 11 → ∀ b, b < 11 → a ≠ b → (TX2 a).2.1 ≠ (TX2 b).2.1 := by decide +kernel
theorem tyX2_ok : ∀ k, k < 11 → parseFieldDescriptor (TX2 k).2.2.1 = some (tyX2 k) := by decide +kernel
abbrev cX2_init : ByteArray := prog_4_method_1_code
def yX2_init : MethodName := ⟨RX2, "<init>", "()V"⟩
abbrev cX2_find : ByteArray := prog_4_method_2_code
def yX2_find : MethodName := ⟨RX2, "find", "(I)LShareMonitor$UserProcess;"⟩
abbrev cX2_findChild : ByteArray := prog_4_method_3_code
def yX2_findChild : MethodName := ⟨RX2, "findChild", "(LShareMonitor$UserProcess;I)LShareMonitor$UserProcess;"⟩
abbrev cX2_leastFree : ByteArray := prog_4_method_4_code
def yX2_leastFree : MethodName := ⟨RX2, "leastFree", "()LShareMonitor$UserProcess;"⟩
abbrev cX2_spareProgram : ByteArray := prog_4_method_5_code
def yX2_spareProgram : MethodName := ⟨RX2, "spareProgram", "()LShareMonitor$Program;"⟩
abbrev cX2_admit : ByteArray := prog_4_method_6_code
def yX2_admit : MethodName := ⟨RX2, "admit", "(LShareMonitor$UserProcess;LShareMonitor$Program;I)V"⟩
abbrev cX2_makeReady : ByteArray := prog_4_method_7_code
def yX2_makeReady : MethodName := ⟨RX2, "makeReady", "(LShareMonitor$UserProcess;)V"⟩
abbrev cX2_putLast : ByteArray := prog_4_method_8_code
def yX2_putLast : MethodName := ⟨RX2, "putLast", "(LShareMonitor$UserProcess;I)V"⟩
abbrev cX2_suspend : ByteArray := prog_4_method_9_code
def yX2_suspend : MethodName := ⟨RX2, "suspend", "(LShareMonitor$UserProcess;II)V"⟩
abbrev cX2_deliver : ByteArray := prog_4_method_10_code
def yX2_deliver : MethodName := ⟨RX2, "deliver", "(LShareMonitor$UserProcess;II)Z"⟩
abbrev cX2_show : ByteArray := prog_4_method_11_code
def yX2_show : MethodName := ⟨RX2, "show", "(I)V"⟩
abbrev cX2_finish : ByteArray := prog_4_method_12_code
def yX2_finish : MethodName := ⟨RX2, "finish", "(LShareMonitor$UserProcess;I)V"⟩
abbrev cX2_putToSleep : ByteArray := prog_4_method_13_code
def yX2_putToSleep : MethodName := ⟨RX2, "putToSleep", "(LShareMonitor$UserProcess;I)V"⟩
abbrev cX2_wakeSleepers : ByteArray := prog_4_method_14_code
def yX2_wakeSleepers : MethodName := ⟨RX2, "wakeSleepers", "()V"⟩
abbrev cX2_firstReady : ByteArray := prog_4_method_15_code
def yX2_firstReady : MethodName := ⟨RX2, "firstReady", "()LShareMonitor$UserProcess;"⟩
abbrev cX2_countFrom : ByteArray := prog_4_method_16_code
def yX2_countFrom : MethodName := ⟨RX2, "countFrom", "(II)I"⟩
abbrev cX2_programsInUse : ByteArray := prog_4_method_17_code
def yX2_programsInUse : MethodName := ⟨RX2, "programsInUse", "()I"⟩
abbrev cX2_instructionsInUse : ByteArray := prog_4_method_18_code
def yX2_instructionsInUse : MethodName := ⟨RX2, "instructionsInUse", "()I"⟩
def RX3 : String := "ShareMonitor$Memory"
def TX3 : u_T := fun k => match k with
  | 0 => ("ShareMonitor$Memory", "cells", "[I", true)
  | 1 => ("ShareMonitor$Memory", "holders", "[I", true)
  | _ => ("ShareMonitor$Memory", "sizes", "[I", true)
def tyX3 : Nat → FieldType := fun k => match k with
  | 0 => .array .int
  | 1 => .array .int
  | _ => .array .int
theorem nmX3 : ∀ a, a < 3 → ∀ b, b < 3 → a ≠ b → (TX3 a).2.1 ≠ (TX3 b).2.1 := by decide +kernel
theorem tyX3_ok : ∀ k, k < 3 → parseFieldDescriptor (TX3 k).2.2.1 = some (tyX3 k) := by decide +kernel
abbrev cX3_init : ByteArray := prog_5_method_1_code
def yX3_init : MethodName := ⟨RX3, "<init>", "()V"⟩
abbrev cX3_take : ByteArray := prog_5_method_2_code
def yX3_take : MethodName := ⟨RX3, "take", "(II)I"⟩
abbrev cX3_cut : ByteArray := prog_5_method_3_code
def yX3_cut : MethodName := ⟨RX3, "cut", "(III)V"⟩
abbrev cX3_holds : ByteArray := prog_5_method_4_code
def yX3_holds : MethodName := ⟨RX3, "holds", "(II)Z"⟩
abbrev cX3_holdsFrom : ByteArray := prog_5_method_5_code
def yX3_holdsFrom : MethodName := ⟨RX3, "holdsFrom", "(II)Z"⟩
abbrev cX3_hand : ByteArray := prog_5_method_6_code
def yX3_hand : MethodName := ⟨RX3, "hand", "(II)V"⟩
abbrev cX3_regain : ByteArray := prog_5_method_7_code
def yX3_regain : MethodName := ⟨RX3, "regain", "(II)V"⟩
abbrev cX3_cellsOf : ByteArray := prog_5_method_8_code
def yX3_cellsOf : MethodName := ⟨RX3, "cellsOf", "(I)I"⟩
abbrev cX3_blocks : ByteArray := prog_5_method_9_code
def yX3_blocks : MethodName := ⟨RX3, "blocks", "()I"⟩
abbrev cX3_addressOf : ByteArray := prog_5_method_10_code
def yX3_addressOf : MethodName := ⟨RX3, "addressOf", "(I)I"⟩
def RX4 : String := "ShareMonitor$Op"
def TX4 : u_T := fun k => match k with
  | _ => ("", "", "", false)
def tyX4 : Nat → FieldType := fun k => match k with
  | _ => .int
theorem nmX4 : ∀ a, a < 0 → ∀ b, b < 0 → a ≠ b → (TX4 a).2.1 ≠ (TX4 b).2.1 := by decide +kernel
theorem tyX4_ok : ∀ k, k < 0 → parseFieldDescriptor (TX4 k).2.2.1 = some (tyX4 k) := by decide +kernel
abbrev cX4_written : ByteArray := prog_6_method_4_code
def yX4_written : MethodName := ⟨RX4, "written", "(LShareMonitor$Tape;II)LShareMonitor$Op;"⟩
abbrev cX4_hasName : ByteArray := prog_6_method_5_code
def yX4_hasName : MethodName := ⟨RX4, "hasName", "()Z"⟩
def RX5 : String := "ShareMonitor$Program"
def TX5 : u_T := fun k => match k with
  | 0 => ("ShareMonitor$Program", "ops", "[LShareMonitor$Op;", true)
  | 1 => ("ShareMonitor$Program", "numbers", "[I", true)
  | 2 => ("ShareMonitor$Program", "size", "I", false)
  | _ => ("ShareMonitor$Program", "users", "I", false)
def tyX5 : Nat → FieldType := fun k => match k with
  | 0 => .array (.object "ShareMonitor$Op")
  | 1 => .array .int
  | 2 => .int
  | _ => .int
theorem nmX5 : ∀ a, a < 4 → ∀ b, b < 4 → a ≠ b → (TX5 a).2.1 ≠ (TX5 b).2.1 := by decide +kernel
theorem tyX5_ok : ∀ k, k < 4 → parseFieldDescriptor (TX5 k).2.2.1 = some (tyX5 k) := by decide +kernel
abbrev cX5_init : ByteArray := prog_7_method_1_code
def yX5_init : MethodName := ⟨RX5, "<init>", "()V"⟩
def RX6 : String := "ShareMonitor$Reader"
def TX6 : u_T := fun k => match k with
  | 0 => ("ShareMonitor$Reader", "tape", "LShareMonitor$Tape;", true)
  | 1 => ("ShareMonitor$Reader", "labelPlaces", "[I", true)
  | 2 => ("ShareMonitor$Reader", "labelSizes", "[I", true)
  | 3 => ("ShareMonitor$Reader", "labelTargets", "[I", true)
  | 4 => ("ShareMonitor$Reader", "labels", "I", false)
  | 5 => ("ShareMonitor$Reader", "namePlaces", "[I", true)
  | 6 => ("ShareMonitor$Reader", "nameSizes", "[I", true)
  | 7 => ("ShareMonitor$Reader", "start", "I", false)
  | 8 => ("ShareMonitor$Reader", "stop", "I", false)
  | 9 => ("ShareMonitor$Reader", "fault", "I", false)
  | _ => ("ShareMonitor$Reader", "faultPlace", "I", false)
def tyX6 : Nat → FieldType := fun k => match k with
  | 0 => .object "ShareMonitor$Tape"
  | 1 => .array .int
  | 2 => .array .int
  | 3 => .array .int
  | 4 => .int
  | 5 => .array .int
  | 6 => .array .int
  | 7 => .int
  | 8 => .int
  | 9 => .int
  | _ => .int
theorem nmX6 : ∀ a, a < 11 → ∀ b, b < 11 → a ≠ b → (TX6 a).2.1 ≠ (TX6 b).2.1 := by decide +kernel
theorem tyX6_ok : ∀ k, k < 11 → parseFieldDescriptor (TX6 k).2.2.1 = some (tyX6 k) := by decide +kernel
abbrev cX6_init : ByteArray := prog_8_method_1_code
def yX6_init : MethodName := ⟨RX6, "<init>", "(LShareMonitor$Tape;)V"⟩
abbrev cX6_read : ByteArray := prog_8_method_2_code
def yX6_read : MethodName := ⟨RX6, "read", "(LShareMonitor$Program;)V"⟩
abbrev cX6_blame : ByteArray := prog_8_method_3_code
def yX6_blame : MethodName := ⟨RX6, "blame", "(II)V"⟩
abbrev cX6_findWord : ByteArray := prog_8_method_4_code
def yX6_findWord : MethodName := ⟨RX6, "findWord", "()Z"⟩
abbrev cX6_placeBehindBlanks : ByteArray := prog_8_method_5_code
def yX6_placeBehindBlanks : MethodName := ⟨RX6, "placeBehindBlanks", "(I)I"⟩
abbrev cX6_readWord : ByteArray := prog_8_method_6_code
def yX6_readWord : MethodName := ⟨RX6, "readWord", "(LShareMonitor$Program;)V"⟩
abbrev cX6_addInstruction : ByteArray := prog_8_method_7_code
def yX6_addInstruction : MethodName := ⟨RX6, "addInstruction", "(LShareMonitor$Program;LShareMonitor$Op;I)V"⟩
abbrev cX6_readName : ByteArray := prog_8_method_8_code
def yX6_readName : MethodName := ⟨RX6, "readName", "(I)V"⟩
abbrev cX6_addLabel : ByteArray := prog_8_method_9_code
def yX6_addLabel : MethodName := ⟨RX6, "addLabel", "(I)V"⟩
abbrev cX6_targetOf : ByteArray := prog_8_method_10_code
def yX6_targetOf : MethodName := ⟨RX6, "targetOf", "(II)I"⟩
abbrev cX6_findTargets : ByteArray := prog_8_method_11_code
def yX6_findTargets : MethodName := ⟨RX6, "findTargets", "(LShareMonitor$Program;)V"⟩
abbrev cX6_numberHere : ByteArray := prog_8_method_12_code
def yX6_numberHere : MethodName := ⟨RX6, "numberHere", "()J"⟩
abbrev cX6_isName : ByteArray := prog_8_method_13_code
def yX6_isName : MethodName := ⟨RX6, "isName", "(II)Z"⟩
abbrev cX6_isBlank : ByteArray := prog_8_method_14_code
def yX6_isBlank : MethodName := ⟨RX6, "isBlank", "(I)Z"⟩
abbrev cX6_isLetter : ByteArray := prog_8_method_15_code
def yX6_isLetter : MethodName := ⟨RX6, "isLetter", "(I)Z"⟩
abbrev cX6_isDigit : ByteArray := prog_8_method_16_code
def yX6_isDigit : MethodName := ⟨RX6, "isDigit", "(I)Z"⟩
def RX7 : String := "ShareMonitor$Row"
def TX7 : u_T := fun k => match k with
  | 0 => ("ShareMonitor$Row", "members", "[I", true)
  | _ => ("ShareMonitor$Row", "size", "I", false)
def tyX7 : Nat → FieldType := fun k => match k with
  | 0 => .array .int
  | _ => .int
theorem nmX7 : ∀ a, a < 2 → ∀ b, b < 2 → a ≠ b → (TX7 a).2.1 ≠ (TX7 b).2.1 := by decide +kernel
theorem tyX7_ok : ∀ k, k < 2 → parseFieldDescriptor (TX7 k).2.2.1 = some (tyX7 k) := by decide +kernel
abbrev cX7_init : ByteArray := prog_9_method_1_code
def yX7_init : MethodName := ⟨RX7, "<init>", "()V"⟩
abbrev cX7_join : ByteArray := prog_9_method_2_code
def yX7_join : MethodName := ⟨RX7, "join", "(I)V"⟩
abbrev cX7_leave : ByteArray := prog_9_method_3_code
def yX7_leave : MethodName := ⟨RX7, "leave", "(I)V"⟩
abbrev cX7_first : ByteArray := prog_9_method_4_code
def yX7_first : MethodName := ⟨RX7, "first", "()I"⟩
def RX8 : String := "ShareMonitor$Tape"
def TX8 : u_T := fun k => match k with
  | 0 => ("ShareMonitor$Tape", "bytes", "[B", true)
  | _ => ("ShareMonitor$Tape", "length", "I", false)
def tyX8 : Nat → FieldType := fun k => match k with
  | 0 => .array .byte
  | _ => .int
theorem nmX8 : ∀ a, a < 2 → ∀ b, b < 2 → a ≠ b → (TX8 a).2.1 ≠ (TX8 b).2.1 := by decide +kernel
theorem tyX8_ok : ∀ k, k < 2 → parseFieldDescriptor (TX8 k).2.2.1 = some (tyX8 k) := by decide +kernel
abbrev cX8_init : ByteArray := prog_10_method_1_code
def yX8_init : MethodName := ⟨RX8, "<init>", "()V"⟩
abbrev cX8_append : ByteArray := prog_10_method_2_code
def yX8_append : MethodName := ⟨RX8, "append", "(I)V"⟩
abbrev cX8_at : ByteArray := prog_10_method_3_code
def yX8_at : MethodName := ⟨RX8, "at", "(I)I"⟩
abbrev cX8_says : ByteArray := prog_10_method_4_code
def yX8_says : MethodName := ⟨RX8, "says", "(Ljava/lang/String;II)Z"⟩
abbrev cX8_repeats : ByteArray := prog_10_method_5_code
def yX8_repeats : MethodName := ⟨RX8, "repeats", "(III)Z"⟩
def RX9 : String := "ShareMonitor$UserProcess"
def TX9 : u_T := fun k => match k with
  | 0 => ("ShareMonitor$UserProcess", "number", "I", true)
  | 1 => ("ShareMonitor$UserProcess", "numbers", "[I", true)
  | 2 => ("ShareMonitor$UserProcess", "returns", "[I", true)
  | 3 => ("ShareMonitor$UserProcess", "box", "LShareMonitor$Box;", true)
  | 4 => ("ShareMonitor$UserProcess", "keys", "LShareMonitor$Box;", true)
  | 5 => ("ShareMonitor$UserProcess", "depth", "I", false)
  | 6 => ("ShareMonitor$UserProcess", "returnDepth", "I", false)
  | 7 => ("ShareMonitor$UserProcess", "status", "I", false)
  | 8 => ("ShareMonitor$UserProcess", "code", "I", false)
  | 9 => ("ShareMonitor$UserProcess", "level", "I", false)
  | 10 => ("ShareMonitor$UserProcess", "parent", "I", false)
  | 11 => ("ShareMonitor$UserProcess", "program", "LShareMonitor$Program;", false)
  | 12 => ("ShareMonitor$UserProcess", "next", "I", false)
  | 13 => ("ShareMonitor$UserProcess", "done", "I", false)
  | 14 => ("ShareMonitor$UserProcess", "streak", "I", false)
  | _ => ("ShareMonitor$UserProcess", "awaited", "I", false)
def tyX9 : Nat → FieldType := fun k => match k with
  | 0 => .int
  | 1 => .array .int
  | 2 => .array .int
  | 3 => .object "ShareMonitor$Box"
  | 4 => .object "ShareMonitor$Box"
  | 5 => .int
  | 6 => .int
  | 7 => .int
  | 8 => .int
  | 9 => .int
  | 10 => .int
  | 11 => .object "ShareMonitor$Program"
  | 12 => .int
  | 13 => .int
  | 14 => .int
  | _ => .int
theorem nmX9 : ∀ a, a < 16 → ∀ b, b < 16 → a ≠ b → (TX9 a).2.1 ≠ (TX9 b).2.1 := by decide +kernel
theorem tyX9_ok : ∀ k, k < 16 → parseFieldDescriptor (TX9 k).2.2.1 = some (tyX9 k) := by decide +kernel
abbrev cX9_init : ByteArray := prog_11_method_1_code
def yX9_init : MethodName := ⟨RX9, "<init>", "(I)V"⟩
abbrev cX9_isAlive : ByteArray := prog_11_method_2_code
def yX9_isAlive : MethodName := ⟨RX9, "isAlive", "()Z"⟩
abbrev cX9_nextOp : ByteArray := prog_11_method_3_code
def yX9_nextOp : MethodName := ⟨RX9, "nextOp", "()LShareMonitor$Op;"⟩
abbrev cX9_nextNumber : ByteArray := prog_11_method_4_code
def yX9_nextNumber : MethodName := ⟨RX9, "nextNumber", "()I"⟩
abbrev cX9_push : ByteArray := prog_11_method_5_code
def yX9_push : MethodName := ⟨RX9, "push", "(I)V"⟩
abbrev cX9_pop : ByteArray := prog_11_method_6_code
def yX9_pop : MethodName := ⟨RX9, "pop", "()I"⟩
abbrev cX9_top : ByteArray := prog_11_method_7_code
def yX9_top : MethodName := ⟨RX9, "top", "()I"⟩
abbrev cX9_empty : ByteArray := prog_11_method_8_code
def yX9_empty : MethodName := ⟨RX9, "empty", "()V"⟩
abbrev cX9_vanish : ByteArray := prog_11_method_9_code
def yX9_vanish : MethodName := ⟨RX9, "vanish", "()V"⟩
def RX10 : String := "ShareMonitor$Worker"
def TX10 : u_T := fun k => match k with
  | 0 => ("ShareMonitor$Worker", "desk", "LShareMonitor$Desk;", true)
  | _ => ("ShareMonitor$Worker", "quantum", "I", false)
def tyX10 : Nat → FieldType := fun k => match k with
  | 0 => .object "ShareMonitor$Desk"
  | _ => .int
theorem nmX10 : ∀ a, a < 2 → ∀ b, b < 2 → a ≠ b → (TX10 a).2.1 ≠ (TX10 b).2.1 := by decide +kernel
theorem tyX10_ok : ∀ k, k < 2 → parseFieldDescriptor (TX10 k).2.2.1 = some (tyX10 k) := by decide +kernel
abbrev cX10_init : ByteArray := prog_12_method_1_code
def yX10_init : MethodName := ⟨RX10, "<init>", "(LShareMonitor$Desk;)V"⟩
abbrev cX10_advance : ByteArray := prog_12_method_2_code
def yX10_advance : MethodName := ⟨RX10, "advance", "()I"⟩
abbrev cX10_settle : ByteArray := prog_12_method_3_code
def yX10_settle : MethodName := ⟨RX10, "settle", "(LShareMonitor$UserProcess;I)V"⟩
abbrev cX10_obstacleTo : ByteArray := prog_12_method_4_code
def yX10_obstacleTo : MethodName := ⟨RX10, "obstacleTo", "(LShareMonitor$UserProcess;LShareMonitor$Op;)I"⟩
abbrev cX10_mustWait : ByteArray := prog_12_method_5_code
def yX10_mustWait : MethodName := ⟨RX10, "mustWait", "(LShareMonitor$UserProcess;LShareMonitor$Op;)Z"⟩
abbrev cX10_perform : ByteArray := prog_12_method_6_code
def yX10_perform : MethodName := ⟨RX10, "perform", "(LShareMonitor$UserProcess;LShareMonitor$Op;)I"⟩
abbrev cX10_shuffle : ByteArray := prog_12_method_7_code
def yX10_shuffle : MethodName := ⟨RX10, "shuffle", "(LShareMonitor$UserProcess;LShareMonitor$Op;I)I"⟩
abbrev cX10_shuffleSeveral : ByteArray := prog_12_method_8_code
def yX10_shuffleSeveral : MethodName := ⟨RX10, "shuffleSeveral", "(LShareMonitor$UserProcess;LShareMonitor$Op;I)V"⟩
abbrev cX10_compute : ByteArray := prog_12_method_9_code
def yX10_compute : MethodName := ⟨RX10, "compute", "(LShareMonitor$UserProcess;LShareMonitor$Op;)I"⟩
abbrev cX10_resultOf : ByteArray := prog_12_method_10_code
def yX10_resultOf : MethodName := ⟨RX10, "resultOf", "(LShareMonitor$Op;II)I"⟩
abbrev cX10_follow : ByteArray := prog_12_method_11_code
def yX10_follow : MethodName := ⟨RX10, "follow", "(LShareMonitor$UserProcess;LShareMonitor$Op;I)I"⟩
abbrev cX10_useMemory : ByteArray := prog_12_method_12_code
def yX10_useMemory : MethodName := ⟨RX10, "useMemory", "(LShareMonitor$UserProcess;LShareMonitor$Op;)I"⟩
abbrev cX10_release : ByteArray := prog_12_method_13_code
def yX10_release : MethodName := ⟨RX10, "release", "(LShareMonitor$UserProcess;I)I"⟩
abbrev cX10_give : ByteArray := prog_12_method_14_code
def yX10_give : MethodName := ⟨RX10, "give", "(LShareMonitor$UserProcess;ILShareMonitor$UserProcess;)I"⟩
abbrev cX10_talk : ByteArray := prog_12_method_15_code
def yX10_talk : MethodName := ⟨RX10, "talk", "(LShareMonitor$UserProcess;LShareMonitor$Op;)I"⟩
abbrev cX10_send : ByteArray := prog_12_method_16_code
def yX10_send : MethodName := ⟨RX10, "send", "(LShareMonitor$UserProcess;ILShareMonitor$UserProcess;)I"⟩
abbrev cX10_useChildren : ByteArray := prog_12_method_17_code
def yX10_useChildren : MethodName := ⟨RX10, "useChildren", "(LShareMonitor$UserProcess;LShareMonitor$Op;I)I"⟩
abbrev cX10_spawn : ByteArray := prog_12_method_18_code
def yX10_spawn : MethodName := ⟨RX10, "spawn", "(LShareMonitor$UserProcess;I)I"⟩
abbrev cX10_collect : ByteArray := prog_12_method_19_code
def yX10_collect : MethodName := ⟨RX10, "collect", "(LShareMonitor$UserProcess;LShareMonitor$UserProcess;)V"⟩
abbrev cX10_takeTurn : ByteArray := prog_12_method_20_code
def yX10_takeTurn : MethodName := ⟨RX10, "takeTurn", "(LShareMonitor$UserProcess;LShareMonitor$Op;)I"⟩
abbrev cX10_useSemaphore : ByteArray := prog_12_method_21_code
def yX10_useSemaphore : MethodName := ⟨RX10, "useSemaphore", "(LShareMonitor$UserProcess;LShareMonitor$Op;I)I"⟩
def RX11 : String := "ShareMonitor"
def TX11 : u_T := fun k => match k with
  | 0 => ("ShareMonitor", "tape", "LShareMonitor$Tape;", true)
  | 1 => ("ShareMonitor", "reader", "LShareMonitor$Reader;", true)
  | 2 => ("ShareMonitor", "desk", "LShareMonitor$Desk;", true)
  | _ => ("ShareMonitor", "worker", "LShareMonitor$Worker;", true)
def tyX11 : Nat → FieldType := fun k => match k with
  | 0 => .object "ShareMonitor$Tape"
  | 1 => .object "ShareMonitor$Reader"
  | 2 => .object "ShareMonitor$Desk"
  | _ => .object "ShareMonitor$Worker"
theorem nmX11 : ∀ a, a < 4 → ∀ b, b < 4 → a ≠ b → (TX11 a).2.1 ≠ (TX11 b).2.1 := by decide +kernel
theorem tyX11_ok : ∀ k, k < 4 → parseFieldDescriptor (TX11 k).2.2.1 = some (tyX11 k) := by decide +kernel
abbrev cX11_init : ByteArray := prog_1_method_1_code
def yX11_init : MethodName := ⟨RX11, "<init>", "()V"⟩
abbrev cX11_feed : ByteArray := prog_1_method_2_code
def yX11_feed : MethodName := ⟨RX11, "feed", "(IIIII)I"⟩
abbrev cX11_end : ByteArray := prog_1_method_3_code
def yX11_end : MethodName := ⟨RX11, "end", "(I)V"⟩
abbrev cX11_load : ByteArray := prog_1_method_4_code
def yX11_load : MethodName := ⟨RX11, "load", "(I)I"⟩
abbrev cX11_fault : ByteArray := prog_1_method_5_code
def yX11_fault : MethodName := ⟨RX11, "fault", "()I"⟩
abbrev cX11_tick : ByteArray := prog_1_method_6_code
def yX11_tick : MethodName := ⟨RX11, "tick", "()I"⟩
abbrev cX11_run : ByteArray := prog_1_method_7_code
def yX11_run : MethodName := ⟨RX11, "run", "(I)I"⟩
abbrev cX11_quantum : ByteArray := prog_1_method_8_code
def yX11_quantum : MethodName := ⟨RX11, "quantum", "(I)I"⟩
abbrev cX11_kill : ByteArray := prog_1_method_9_code
def yX11_kill : MethodName := ⟨RX11, "kill", "(I)Z"⟩
abbrev cX11_reap : ByteArray := prog_1_method_10_code
def yX11_reap : MethodName := ⟨RX11, "reap", "(I)I"⟩
abbrev cX11_key : ByteArray := prog_1_method_11_code
def yX11_key : MethodName := ⟨RX11, "key", "(II)Z"⟩
abbrev cX11_post : ByteArray := prog_1_method_12_code
def yX11_post : MethodName := ⟨RX11, "post", "(II)Z"⟩
abbrev cX11_state : ByteArray := prog_1_method_13_code
def yX11_state : MethodName := ⟨RX11, "state", "(II)I"⟩
abbrev cX11_stack : ByteArray := prog_1_method_14_code
def yX11_stack : MethodName := ⟨RX11, "stack", "(II)I"⟩
abbrev cX11_message : ByteArray := prog_1_method_15_code
def yX11_message : MethodName := ⟨RX11, "message", "(IIZ)I"⟩
abbrev cX11_ready : ByteArray := prog_1_method_16_code
def yX11_ready : MethodName := ⟨RX11, "ready", "(II)I"⟩
abbrev cX11_cell : ByteArray := prog_1_method_17_code
def yX11_cell : MethodName := ⟨RX11, "cell", "(I)I"⟩
abbrev cX11_block : ByteArray := prog_1_method_18_code
def yX11_block : MethodName := ⟨RX11, "block", "(II)I"⟩
abbrev cX11_semaphore : ByteArray := prog_1_method_19_code
def yX11_semaphore : MethodName := ⟨RX11, "semaphore", "(II)I"⟩
abbrev cX11_out : ByteArray := prog_1_method_20_code
def yX11_out : MethodName := ⟨RX11, "out", "(I)I"⟩
abbrev cX11_count : ByteArray := prog_1_method_21_code
def yX11_count : MethodName := ⟨RX11, "count", "(I)I"⟩
def RX12 : String := "ShareMonitorModel"
def TX12 : u_T := fun k => match k with
  | 0 => ("ShareMonitorModel", "words", "[J", true)
  | 1 => ("ShareMonitorModel", "needs", "[I", true)
  | 2 => ("ShareMonitorModel", "code", "I", false)
  | 3 => ("ShareMonitorModel", "tape", "[B", true)
  | 4 => ("ShareMonitorModel", "size", "I", false)
  | 5 => ("ShareMonitorModel", "fault", "I", false)
  | 6 => ("ShareMonitorModel", "place", "I", false)
  | 7 => ("ShareMonitorModel", "ops", "[I", true)
  | 8 => ("ShareMonitorModel", "numbers", "[I", true)
  | 9 => ("ShareMonitorModel", "lengths", "[I", true)
  | 10 => ("ShareMonitorModel", "isProgram", "[Z", true)
  | 11 => ("ShareMonitorModel", "labelAt", "[I", true)
  | 12 => ("ShareMonitorModel", "labelSize", "[I", true)
  | 13 => ("ShareMonitorModel", "labelTo", "[I", true)
  | 14 => ("ShareMonitorModel", "labels", "I", false)
  | 15 => ("ShareMonitorModel", "nameAt", "[I", true)
  | 16 => ("ShareMonitorModel", "nameSize", "[I", true)
  | 17 => ("ShareMonitorModel", "wordAt", "I", false)
  | 18 => ("ShareMonitorModel", "wordEnd", "I", false)
  | 19 => ("ShareMonitorModel", "status", "[I", true)
  | 20 => ("ShareMonitorModel", "codes", "[I", true)
  | 21 => ("ShareMonitorModel", "level", "[I", true)
  | 22 => ("ShareMonitorModel", "parent", "[I", true)
  | 23 => ("ShareMonitorModel", "program", "[I", true)
  | 24 => ("ShareMonitorModel", "next", "[I", true)
  | 25 => ("ShareMonitorModel", "deep", "[I", true)
  | 26 => ("ShareMonitorModel", "stack", "[I", true)
  | 27 => ("ShareMonitorModel", "called", "[I", true)
  | 28 => ("ShareMonitorModel", "returns", "[I", true)
  | 29 => ("ShareMonitorModel", "boxed", "[I", true)
  | 30 => ("ShareMonitorModel", "boxNumber", "[I", true)
  | 31 => ("ShareMonitorModel", "boxWho", "[I", true)
  | 32 => ("ShareMonitorModel", "keyed", "[I", true)
  | 33 => ("ShareMonitorModel", "keys", "[I", true)
  | 34 => ("ShareMonitorModel", "did", "[I", true)
  | 35 => ("ShareMonitorModel", "waits", "[I", true)
  | 36 => ("ShareMonitorModel", "inRow", "[I", true)
  | 37 => ("ShareMonitorModel", "rows", "[I", true)
  | 38 => ("ShareMonitorModel", "rowCount", "[I", true)
  | 39 => ("ShareMonitorModel", "clock", "I", false)
  | 40 => ("ShareMonitorModel", "quantum", "I", false)
  | 41 => ("ShareMonitorModel", "values", "[I", true)
  | 42 => ("ShareMonitorModel", "waiting", "[I", true)
  | 43 => ("ShareMonitorModel", "waitCount", "[I", true)
  | 44 => ("ShareMonitorModel", "cells", "[I", true)
  | 45 => ("ShareMonitorModel", "blockAt", "[I", true)
  | 46 => ("ShareMonitorModel", "blockSize", "[I", true)
  | 47 => ("ShareMonitorModel", "blockOf", "[I", true)
  | 48 => ("ShareMonitorModel", "blocks", "I", false)
  | 49 => ("ShareMonitorModel", "console", "[I", true)
  | 50 => ("ShareMonitorModel", "told", "I", false)
  | 51 => ("ShareMonitorModel", "lost", "I", false)
  | _ => ("ShareMonitorModel", "moved", "Z", false)
def tyX12 : Nat → FieldType := fun k => match k with
  | 0 => .array .long
  | 1 => .array .int
  | 2 => .int
  | 3 => .array .byte
  | 4 => .int
  | 5 => .int
  | 6 => .int
  | 7 => .array .int
  | 8 => .array .int
  | 9 => .array .int
  | 10 => .array .boolean
  | 11 => .array .int
  | 12 => .array .int
  | 13 => .array .int
  | 14 => .int
  | 15 => .array .int
  | 16 => .array .int
  | 17 => .int
  | 18 => .int
  | 19 => .array .int
  | 20 => .array .int
  | 21 => .array .int
  | 22 => .array .int
  | 23 => .array .int
  | 24 => .array .int
  | 25 => .array .int
  | 26 => .array .int
  | 27 => .array .int
  | 28 => .array .int
  | 29 => .array .int
  | 30 => .array .int
  | 31 => .array .int
  | 32 => .array .int
  | 33 => .array .int
  | 34 => .array .int
  | 35 => .array .int
  | 36 => .array .int
  | 37 => .array .int
  | 38 => .array .int
  | 39 => .int
  | 40 => .int
  | 41 => .array .int
  | 42 => .array .int
  | 43 => .array .int
  | 44 => .array .int
  | 45 => .array .int
  | 46 => .array .int
  | 47 => .array .int
  | 48 => .int
  | 49 => .array .int
  | 50 => .int
  | 51 => .int
  | _ => .boolean
theorem nmX12 : ∀ a, a < 53 → ∀ b, b < 53 → a ≠ b → (TX12 a).2.1 ≠ (TX12 b).2.1 := by decide +kernel
theorem tyX12_ok : ∀ k, k < 53 → parseFieldDescriptor (TX12 k).2.2.1 = some (tyX12 k) := by decide +kernel
abbrev cX12_thrown : ByteArray := prog_14_method_1_code
def yX12_thrown : MethodName := ⟨RX12, "thrown", "()I"⟩
abbrev cX12_init : ByteArray := prog_14_method_2_code
def yX12_init : MethodName := ⟨RX12, "<init>", "()V"⟩
abbrev cX12_byteOf : ByteArray := prog_14_method_3_code
def yX12_byteOf : MethodName := ⟨RX12, "byteOf", "(I)I"⟩
abbrev cX12_isBlank : ByteArray := prog_14_method_4_code
def yX12_isBlank : MethodName := ⟨RX12, "isBlank", "(I)Z"⟩
abbrev cX12_isDigit : ByteArray := prog_14_method_5_code
def yX12_isDigit : MethodName := ⟨RX12, "isDigit", "(I)Z"⟩
abbrev cX12_isLetter : ByteArray := prog_14_method_6_code
def yX12_isLetter : MethodName := ⟨RX12, "isLetter", "(I)Z"⟩
abbrev cX12_takeWord : ByteArray := prog_14_method_7_code
def yX12_takeWord : MethodName := ⟨RX12, "takeWord", "()V"⟩
abbrev cX12_operation : ByteArray := prog_14_method_8_code
def yX12_operation : MethodName := ⟨RX12, "operation", "(II)I"⟩
abbrev cX12_isName : ByteArray := prog_14_method_9_code
def yX12_isName : MethodName := ⟨RX12, "isName", "(II)Z"⟩
abbrev cX12_isNumber : ByteArray := prog_14_method_10_code
def yX12_isNumber : MethodName := ⟨RX12, "isNumber", "()Z"⟩
abbrev cX12_valueOfWord : ByteArray := prog_14_method_11_code
def yX12_valueOfWord : MethodName := ⟨RX12, "valueOfWord", "()J"⟩
abbrev cX12_labelOf : ByteArray := prog_14_method_12_code
def yX12_labelOf : MethodName := ⟨RX12, "labelOf", "(II)I"⟩
abbrev cX12_flaw : ByteArray := prog_14_method_13_code
def yX12_flaw : MethodName := ⟨RX12, "flaw", "(II)V"⟩
abbrev cX12_readLabel : ByteArray := prog_14_method_14_code
def yX12_readLabel : MethodName := ⟨RX12, "readLabel", "(I)V"⟩
abbrev cX12_put : ByteArray := prog_14_method_15_code
def yX12_put : MethodName := ⟨RX12, "put", "(III)V"⟩
abbrev cX12_readWord : ByteArray := prog_14_method_16_code
def yX12_readWord : MethodName := ⟨RX12, "readWord", "(I)V"⟩
abbrev cX12_readAll : ByteArray := prog_14_method_17_code
def yX12_readAll : MethodName := ⟨RX12, "readAll", "(I)V"⟩
abbrev cX12_leaveRow : ByteArray := prog_14_method_18_code
def yX12_leaveRow : MethodName := ⟨RX12, "leaveRow", "(I)V"⟩
abbrev cX12_joinRow : ByteArray := prog_14_method_19_code
def yX12_joinRow : MethodName := ⟨RX12, "joinRow", "(I)V"⟩
abbrev cX12_toEnd : ByteArray := prog_14_method_20_code
def yX12_toEnd : MethodName := ⟨RX12, "toEnd", "(I)V"⟩
abbrev cX12_wake : ByteArray := prog_14_method_21_code
def yX12_wake : MethodName := ⟨RX12, "wake", "(I)V"⟩
abbrev cX12_waitFor : ByteArray := prog_14_method_22_code
def yX12_waitFor : MethodName := ⟨RX12, "waitFor", "(III)V"⟩
abbrev cX12_isProcess : ByteArray := prog_14_method_23_code
def yX12_isProcess : MethodName := ⟨RX12, "isProcess", "(I)Z"⟩
abbrev cX12_isAlive : ByteArray := prog_14_method_24_code
def yX12_isAlive : MethodName := ⟨RX12, "isAlive", "(I)Z"⟩
abbrev cX12_leaveSemaphore : ByteArray := prog_14_method_25_code
def yX12_leaveSemaphore : MethodName := ⟨RX12, "leaveSemaphore", "(I)V"⟩
abbrev cX12_sweep : ByteArray := prog_14_method_26_code
def yX12_sweep : MethodName := ⟨RX12, "sweep", "()V"⟩
abbrev cX12_release : ByteArray := prog_14_method_27_code
def yX12_release : MethodName := ⟨RX12, "release", "(I)V"⟩
abbrev cX12_finish : ByteArray := prog_14_method_28_code
def yX12_finish : MethodName := ⟨RX12, "finish", "(II)V"⟩
abbrev cX12_start : ByteArray := prog_14_method_29_code
def yX12_start : MethodName := ⟨RX12, "start", "(IIII)I"⟩
abbrev cX12_joinBlocks : ByteArray := prog_14_method_30_code
def yX12_joinBlocks : MethodName := ⟨RX12, "joinBlocks", "()V"⟩
abbrev cX12_allocate : ByteArray := prog_14_method_31_code
def yX12_allocate : MethodName := ⟨RX12, "allocate", "(II)I"⟩
abbrev cX12_blockFrom : ByteArray := prog_14_method_32_code
def yX12_blockFrom : MethodName := ⟨RX12, "blockFrom", "(II)I"⟩
abbrev cX12_holds : ByteArray := prog_14_method_33_code
def yX12_holds : MethodName := ⟨RX12, "holds", "(II)Z"⟩
abbrev cX12_top : ByteArray := prog_14_method_34_code
def yX12_top : MethodName := ⟨RX12, "top", "(II)I"⟩
abbrev cX12_setTop : ByteArray := prog_14_method_35_code
def yX12_setTop : MethodName := ⟨RX12, "setTop", "(III)V"⟩
abbrev cX12_push : ByteArray := prog_14_method_36_code
def yX12_push : MethodName := ⟨RX12, "push", "(II)V"⟩
abbrev cX12_done : ByteArray := prog_14_method_37_code
def yX12_done : MethodName := ⟨RX12, "done", "(I)V"⟩
abbrev cX12_fits : ByteArray := prog_14_method_38_code
def yX12_fits : MethodName := ⟨RX12, "fits", "(II)Z"⟩
abbrev cX12_result : ByteArray := prog_14_method_39_code
def yX12_result : MethodName := ⟨RX12, "result", "(III)V"⟩
abbrev cX12_reckoned : ByteArray := prog_14_method_40_code
def yX12_reckoned : MethodName := ⟨RX12, "reckoned", "(III)I"⟩
abbrev cX12_plain : ByteArray := prog_14_method_41_code
def yX12_plain : MethodName := ⟨RX12, "plain", "(II)V"⟩
abbrev cX12_memory : ByteArray := prog_14_method_42_code
def yX12_memory : MethodName := ⟨RX12, "memory", "(II)V"⟩
abbrev cX12_deliver : ByteArray := prog_14_method_43_code
def yX12_deliver : MethodName := ⟨RX12, "deliver", "(III)I"⟩
abbrev cX12_isChild : ByteArray := prog_14_method_44_code
def yX12_isChild : MethodName := ⟨RX12, "isChild", "(II)Z"⟩
abbrev cX12_receive : ByteArray := prog_14_method_45_code
def yX12_receive : MethodName := ⟨RX12, "receive", "(I)V"⟩
abbrev cX12_await : ByteArray := prog_14_method_46_code
def yX12_await : MethodName := ⟨RX12, "await", "(I)V"⟩
abbrev cX12_spawn : ByteArray := prog_14_method_47_code
def yX12_spawn : MethodName := ⟨RX12, "spawn", "(II)V"⟩
abbrev cX12_others : ByteArray := prog_14_method_48_code
def yX12_others : MethodName := ⟨RX12, "others", "(III)V"⟩
abbrev cX12_shares : ByteArray := prog_14_method_49_code
def yX12_shares : MethodName := ⟨RX12, "shares", "(III)V"⟩
abbrev cX12_semaphore : ByteArray := prog_14_method_50_code
def yX12_semaphore : MethodName := ⟨RX12, "semaphore", "(III)V"⟩
abbrev cX12_act : ByteArray := prog_14_method_51_code
def yX12_act : MethodName := ⟨RX12, "act", "(I)V"⟩
abbrev cX12_wakeSleepers : ByteArray := prog_14_method_52_code
def yX12_wakeSleepers : MethodName := ⟨RX12, "wakeSleepers", "()V"⟩
abbrev cX12_turn : ByteArray := prog_14_method_53_code
def yX12_turn : MethodName := ⟨RX12, "turn", "()I"⟩
abbrev cX12_feed : ByteArray := prog_14_method_54_code
def yX12_feed : MethodName := ⟨RX12, "feed", "(IIIII)I"⟩
abbrev cX12_end : ByteArray := prog_14_method_55_code
def yX12_end : MethodName := ⟨RX12, "end", "(I)V"⟩
abbrev cX12_free : ByteArray := prog_14_method_56_code
def yX12_free : MethodName := ⟨RX12, "free", "()I"⟩
abbrev cX12_load : ByteArray := prog_14_method_57_code
def yX12_load : MethodName := ⟨RX12, "load", "(I)I"⟩
abbrev cX12_fault : ByteArray := prog_14_method_58_code
def yX12_fault : MethodName := ⟨RX12, "fault", "()I"⟩
abbrev cX12_tick : ByteArray := prog_14_method_59_code
def yX12_tick : MethodName := ⟨RX12, "tick", "()I"⟩
abbrev cX12_run : ByteArray := prog_14_method_60_code
def yX12_run : MethodName := ⟨RX12, "run", "(I)I"⟩
abbrev cX12_quantum : ByteArray := prog_14_method_61_code
def yX12_quantum : MethodName := ⟨RX12, "quantum", "(I)I"⟩
abbrev cX12_kill : ByteArray := prog_14_method_62_code
def yX12_kill : MethodName := ⟨RX12, "kill", "(I)Z"⟩
abbrev cX12_reap : ByteArray := prog_14_method_63_code
def yX12_reap : MethodName := ⟨RX12, "reap", "(I)I"⟩
abbrev cX12_key : ByteArray := prog_14_method_64_code
def yX12_key : MethodName := ⟨RX12, "key", "(II)Z"⟩
abbrev cX12_post : ByteArray := prog_14_method_65_code
def yX12_post : MethodName := ⟨RX12, "post", "(II)Z"⟩
abbrev cX12_held : ByteArray := prog_14_method_66_code
def yX12_held : MethodName := ⟨RX12, "held", "(I)I"⟩
abbrev cX12_state : ByteArray := prog_14_method_67_code
def yX12_state : MethodName := ⟨RX12, "state", "(II)I"⟩
abbrev cX12_stack : ByteArray := prog_14_method_68_code
def yX12_stack : MethodName := ⟨RX12, "stack", "(II)I"⟩
abbrev cX12_message : ByteArray := prog_14_method_69_code
def yX12_message : MethodName := ⟨RX12, "message", "(IIZ)I"⟩
abbrev cX12_ready : ByteArray := prog_14_method_70_code
def yX12_ready : MethodName := ⟨RX12, "ready", "(II)I"⟩
abbrev cX12_cell : ByteArray := prog_14_method_71_code
def yX12_cell : MethodName := ⟨RX12, "cell", "(I)I"⟩
abbrev cX12_block : ByteArray := prog_14_method_72_code
def yX12_block : MethodName := ⟨RX12, "block", "(II)I"⟩
abbrev cX12_semaphore_ : ByteArray := prog_14_method_73_code
def yX12_semaphore_ : MethodName := ⟨RX12, "semaphore", "(II)I"⟩
abbrev cX12_out : ByteArray := prog_14_method_74_code
def yX12_out : MethodName := ⟨RX12, "out", "(I)I"⟩
abbrev cX12_processes : ByteArray := prog_14_method_75_code
def yX12_processes : MethodName := ⟨RX12, "processes", "(II)I"⟩
abbrev cX12_count : ByteArray := prog_14_method_76_code
def yX12_count : MethodName := ⟨RX12, "count", "(I)I"⟩
def RJ5 : String := "java/lang/AbstractStringBuilder"
def TJ5 : u_T := fun k => match k with
  | _ => ("", "", "", false)
def tyJ5 : Nat → FieldType := fun k => match k with
  | _ => .int
theorem nmJ5 : ∀ a, a < 0 → ∀ b, b < 0 → a ≠ b → (TJ5 a).2.1 ≠ (TJ5 b).2.1 := by decide +kernel
theorem tyJ5_ok : ∀ k, k < 0 → parseFieldDescriptor (TJ5 k).2.2.1 = some (tyJ5 k) := by decide +kernel
abbrev cJ5_init_d00df : ByteArray := prog_15_method_2_code
def yJ5_init_d00df : MethodName := ⟨RJ5, "<init>", "(I)V"⟩
abbrev cJ5_length_8abf5 : ByteArray := prog_15_method_6_code
def yJ5_length_8abf5 : MethodName := ⟨RJ5, "length", "()I"⟩
abbrev cJ5_ensureCapacityInternal_d00df : ByteArray := prog_15_method_9_code
def yJ5_ensureCapacityInternal_d00df : MethodName := ⟨RJ5, "ensureCapacityInternal", "(I)V"⟩
abbrev cJ5_newCapacity_0f7a4 : ByteArray := prog_15_method_10_code
def yJ5_newCapacity_0f7a4 : MethodName := ⟨RJ5, "newCapacity", "(I)I"⟩
abbrev cJ5_inflate_da8c8 : ByteArray := prog_15_method_11_code
def yJ5_inflate_da8c8 : MethodName := ⟨RJ5, "inflate", "()V"⟩
abbrev cJ5_append_cf1ce : ByteArray := prog_15_method_22_code
def yJ5_append_cf1ce : MethodName := ⟨RJ5, "append", "(Ljava/lang/String;)Ljava/lang/AbstractStringBuilder;"⟩
abbrev cJ5_appendNull_278bc : ByteArray := prog_15_method_26_code
def yJ5_appendNull_278bc : MethodName := ⟨RJ5, "appendNull", "()Ljava/lang/AbstractStringBuilder;"⟩
abbrev cJ5_append_c97b9 : ByteArray := prog_15_method_32_code
def yJ5_append_c97b9 : MethodName := ⟨RJ5, "append", "(I)Ljava/lang/AbstractStringBuilder;"⟩
abbrev cJ5_getValue_6d5f1 : ByteArray := prog_15_method_64_code
def yJ5_getValue_6d5f1 : MethodName := ⟨RJ5, "getValue", "()[B"⟩
abbrev cJ5_isLatin1_aae02 : ByteArray := prog_15_method_68_code
def yJ5_isLatin1_aae02 : MethodName := ⟨RJ5, "isLatin1", "()Z"⟩
abbrev cJ5_inflateIfNeededFor_a7421 : ByteArray := prog_15_method_71_code
def yJ5_inflateIfNeededFor_a7421 : MethodName := ⟨RJ5, "inflateIfNeededFor", "(Ljava/lang/String;)V"⟩
abbrev cJ5_putStringAt_47b60 : ByteArray := prog_15_method_73_code
def yJ5_putStringAt_47b60 : MethodName := ⟨RJ5, "putStringAt", "(ILjava/lang/String;)V"⟩
def RJ6 : String := "java/lang/Integer"
def TJ6 : u_T := fun k => match k with
  | _ => ("", "", "", false)
def tyJ6 : Nat → FieldType := fun k => match k with
  | _ => .int
theorem nmJ6 : ∀ a, a < 0 → ∀ b, b < 0 → a ≠ b → (TJ6 a).2.1 ≠ (TJ6 b).2.1 := by decide +kernel
theorem tyJ6_ok : ∀ k, k < 0 → parseFieldDescriptor (TJ6 k).2.2.1 = some (tyJ6 k) := by decide +kernel
abbrev cJ6_getChars_ba4f3 : ByteArray := prog_23_method_12_code
def yJ6_getChars_ba4f3 : MethodName := ⟨RJ6, "getChars", "(II[B)I"⟩
abbrev cJ6_stringSize_0f7a4 : ByteArray := prog_23_method_13_code
def yJ6_stringSize_0f7a4 : MethodName := ⟨RJ6, "stringSize", "(I)I"⟩
def RJ9 : String := "java/lang/Math"
def TJ9 : u_T := fun k => match k with
  | _ => ("", "", "", false)
def tyJ9 : Nat → FieldType := fun k => match k with
  | _ => .int
theorem nmJ9 : ∀ a, a < 0 → ∀ b, b < 0 → a ≠ b → (TJ9 a).2.1 ≠ (TJ9 b).2.1 := by decide +kernel
theorem tyJ9_ok : ∀ k, k < 0 → parseFieldDescriptor (TJ9 k).2.2.1 = some (tyJ9 k) := by decide +kernel
abbrev cJ9_max_7cf53 : ByteArray := prog_24_method_65_code
def yJ9_max_7cf53 : MethodName := ⟨RJ9, "max", "(II)I"⟩
abbrev cJ9_min_7cf53 : ByteArray := prog_24_method_69_code
def yJ9_min_7cf53 : MethodName := ⟨RJ9, "min", "(II)I"⟩
abbrev cJ9_min_f86c9 : ByteArray := prog_24_method_70_code
def yJ9_min_f86c9 : MethodName := ⟨RJ9, "min", "(JJ)J"⟩
def RJ0 : String := "java/lang/String"
def TJ0 : u_T := fun k => match k with
  | 0 => ("java/lang/String", "value", "[B", true)
  | 1 => ("java/lang/String", "coder", "B", true)
  | 2 => ("java/lang/String", "hash", "I", false)
  | _ => ("java/lang/String", "hashIsZero", "Z", false)
def tyJ0 : Nat → FieldType := fun k => match k with
  | 0 => .array .byte
  | 1 => .byte
  | 2 => .int
  | _ => .boolean
theorem nmJ0 : ∀ a, a < 4 → ∀ b, b < 4 → a ≠ b → (TJ0 a).2.1 ≠ (TJ0 b).2.1 := by decide +kernel
theorem tyJ0_ok : ∀ k, k < 4 → parseFieldDescriptor (TJ0 k).2.2.1 = some (tyJ0 k) := by decide +kernel
abbrev cJ0_init_81219 : ByteArray := prog_26_method_53_code
def yJ0_init_81219 : MethodName := ⟨RJ0, "<init>", "(Ljava/lang/StringBuilder;)V"⟩
abbrev cJ0_length_8abf5 : ByteArray := prog_26_method_54_code
def yJ0_length_8abf5 : MethodName := ⟨RJ0, "length", "()I"⟩
abbrev cJ0_charAt_5068e : ByteArray := prog_26_method_56_code
def yJ0_charAt_5068e : MethodName := ⟨RJ0, "charAt", "(I)C"⟩
abbrev cJ0_getBytes_840e7 : ByteArray := prog_26_method_147_code
def yJ0_getBytes_840e7 : MethodName := ⟨RJ0, "getBytes", "([BIB)V"⟩
abbrev cJ0_init_db425 : ByteArray := prog_26_method_150_code
def yJ0_init_db425 : MethodName := ⟨RJ0, "<init>", "(Ljava/lang/AbstractStringBuilder;Ljava/lang/Void;)V"⟩
abbrev cJ0_coder_7d493 : ByteArray := prog_26_method_152_code
def yJ0_coder_7d493 : MethodName := ⟨RJ0, "coder", "()B"⟩
abbrev cJ0_isLatin1_aae02 : ByteArray := prog_26_method_154_code
def yJ0_isLatin1_aae02 : MethodName := ⟨RJ0, "isLatin1", "()Z"⟩
abbrev cJ0_checkIndex_df160 : ByteArray := prog_26_method_155_code
def yJ0_checkIndex_df160 : MethodName := ⟨RJ0, "checkIndex", "(II)V"⟩
abbrev cJ0_checkBoundsOffCount_cabcc : ByteArray := prog_26_method_157_code
def yJ0_checkBoundsOffCount_cabcc : MethodName := ⟨RJ0, "checkBoundsOffCount", "(III)I"⟩
abbrev cJ0_checkBoundsBeginEnd_23922 : ByteArray := prog_26_method_158_code
def yJ0_checkBoundsBeginEnd_23922 : MethodName := ⟨RJ0, "checkBoundsBeginEnd", "(III)V"⟩
def RJ4 : String := "java/lang/StringBuilder"
def TJ4 : u_T := fun k => match k with
  | 0 => ("java/lang/AbstractStringBuilder", "value", "[B", false)
  | 1 => ("java/lang/AbstractStringBuilder", "coder", "B", false)
  | 2 => ("java/lang/AbstractStringBuilder", "maybeLatin1", "Z", false)
  | _ => ("java/lang/AbstractStringBuilder", "count", "I", false)
def tyJ4 : Nat → FieldType := fun k => match k with
  | 0 => .array .byte
  | 1 => .byte
  | 2 => .boolean
  | _ => .int
theorem nmJ4 : ∀ a, a < 4 → ∀ b, b < 4 → a ≠ b → (TJ4 a).2.1 ≠ (TJ4 b).2.1 := by decide +kernel
theorem tyJ4_ok : ∀ k, k < 4 → parseFieldDescriptor (TJ4 k).2.2.1 = some (tyJ4 k) := by decide +kernel
abbrev cJ4_init_da8c8 : ByteArray := prog_27_method_1_code
def yJ4_init_da8c8 : MethodName := ⟨RJ4, "<init>", "()V"⟩
abbrev cJ4_append_15ec4 : ByteArray := prog_27_method_7_code
def yJ4_append_15ec4 : MethodName := ⟨RJ4, "append", "(Ljava/lang/String;)Ljava/lang/StringBuilder;"⟩
abbrev cJ4_append_bf812 : ByteArray := prog_27_method_15_code
def yJ4_append_bf812 : MethodName := ⟨RJ4, "append", "(I)Ljava/lang/StringBuilder;"⟩
abbrev cJ4_toString_0e30d : ByteArray := prog_27_method_42_code
def yJ4_toString_0e30d : MethodName := ⟨RJ4, "toString", "()Ljava/lang/String;"⟩
abbrev cJ4_length_8abf5 : ByteArray := prog_27_method_93_code
def yJ4_length_8abf5 : MethodName := ⟨RJ4, "length", "()I"⟩
def RJ1 : String := "java/lang/StringLatin1"
def TJ1 : u_T := fun k => match k with
  | _ => ("", "", "", false)
def tyJ1 : Nat → FieldType := fun k => match k with
  | _ => .int
theorem nmJ1 : ∀ a, a < 0 → ∀ b, b < 0 → a ≠ b → (TJ1 a).2.1 ≠ (TJ1 b).2.1 := by decide +kernel
theorem tyJ1_ok : ∀ k, k < 0 → parseFieldDescriptor (TJ1 k).2.2.1 = some (tyJ1 k) := by decide +kernel
abbrev cJ1_charAt_3b067 : ByteArray := prog_28_method_2_code
def yJ1_charAt_3b067 : MethodName := ⟨RJ1, "charAt", "([BI)C"⟩
abbrev cJ1_inflate_0e8fd : ByteArray := prog_28_method_50_code
def yJ1_inflate_0e8fd : MethodName := ⟨RJ1, "inflate", "([BI[BII)V"⟩
def RJ2 : String := "java/lang/StringUTF16"
def TJ2 : u_T := fun k => match k with
  | _ => ("", "", "", false)
def tyJ2 : Nat → FieldType := fun k => match k with
  | _ => .int
theorem nmJ2 : ∀ a, a < 0 → ∀ b, b < 0 → a ≠ b → (TJ2 a).2.1 ≠ (TJ2 b).2.1 := by decide +kernel
theorem tyJ2_ok : ∀ k, k < 0 → parseFieldDescriptor (TJ2 k).2.2.1 = some (tyJ2 k) := by decide +kernel
abbrev cJ2_newBytesFor_77867 : ByteArray := prog_29_method_2_code
def yJ2_newBytesFor_77867 : MethodName := ⟨RJ2, "newBytesFor", "(I)[B"⟩
abbrev cJ2_newBytesLength_0f7a4 : ByteArray := prog_29_method_3_code
def yJ2_newBytesLength_0f7a4 : MethodName := ⟨RJ2, "newBytesLength", "(I)I"⟩
abbrev cJ2_putChar_b72d1 : ByteArray := prog_29_method_4_code
def yJ2_putChar_b72d1 : MethodName := ⟨RJ2, "putChar", "([BII)V"⟩
abbrev cJ2_getChar_3b067 : ByteArray := prog_29_method_5_code
def yJ2_getChar_3b067 : MethodName := ⟨RJ2, "getChar", "([BI)C"⟩
abbrev cJ2_length_9d52b : ByteArray := prog_29_method_6_code
def yJ2_length_9d52b : MethodName := ⟨RJ2, "length", "([B)I"⟩
abbrev cJ2_coderFromArrayLen_85cad : ByteArray := prog_29_method_15_code
def yJ2_coderFromArrayLen_85cad : MethodName := ⟨RJ2, "coderFromArrayLen", "([BI)B"⟩
abbrev cJ2_compress_39247 : ByteArray := prog_29_method_17_code
def yJ2_compress_39247 : MethodName := ⟨RJ2, "compress", "([BII)[B"⟩
abbrev cJ2_compress_5af95 : ByteArray := prog_29_method_22_code
def yJ2_compress_5af95 : MethodName := ⟨RJ2, "compress", "([BI[BII)I"⟩
abbrev cJ2_getChars_46870 : ByteArray := prog_29_method_77_code
def yJ2_getChars_46870 : MethodName := ⟨RJ2, "getChars", "(III[B)I"⟩
abbrev cJ2_putCharsAt_cd4e5 : ByteArray := prog_29_method_81_code
def yJ2_putCharsAt_cd4e5 : MethodName := ⟨RJ2, "putCharsAt", "([BICCCC)I"⟩
abbrev cJ2_charAt_3b067 : ByteArray := prog_29_method_83_code
def yJ2_charAt_3b067 : MethodName := ⟨RJ2, "charAt", "([BI)C"⟩
abbrev cJ2_inflate_0e8fd : ByteArray := prog_29_method_86_code
def yJ2_inflate_0e8fd : MethodName := ⟨RJ2, "inflate", "([BI[BII)V"⟩
abbrev cJ2_getChars_ba4f3 : ByteArray := prog_29_method_89_code
def yJ2_getChars_ba4f3 : MethodName := ⟨RJ2, "getChars", "(II[B)I"⟩
abbrev cJ2_checkIndex_2214a : ByteArray := prog_29_method_91_code
def yJ2_checkIndex_2214a : MethodName := ⟨RJ2, "checkIndex", "(I[B)V"⟩
abbrev cJ2_checkBoundsBeginEnd_d044e : ByteArray := prog_29_method_93_code
def yJ2_checkBoundsBeginEnd_d044e : MethodName := ⟨RJ2, "checkBoundsBeginEnd", "(II[B)V"⟩
abbrev cJ2_checkBoundsOffCount_d044e : ByteArray := prog_29_method_94_code
def yJ2_checkBoundsOffCount_d044e : MethodName := ⟨RJ2, "checkBoundsOffCount", "(II[B)V"⟩
def RJ10 : String := "java/lang/System"
def TJ10 : u_T := fun k => match k with
  | _ => ("", "", "", false)
def tyJ10 : Nat → FieldType := fun k => match k with
  | _ => .int
theorem nmJ10 : ∀ a, a < 0 → ∀ b, b < 0 → a ≠ b → (TJ10 a).2.1 ≠ (TJ10 b).2.1 := by decide +kernel
theorem tyJ10_ok : ∀ k, k < 0 → parseFieldDescriptor (TJ10 k).2.2.1 = some (tyJ10 k) := by decide +kernel
def RJ7 : String := "java/util/Arrays"
def TJ7 : u_T := fun k => match k with
  | _ => ("", "", "", false)
def tyJ7 : Nat → FieldType := fun k => match k with
  | _ => .int
theorem nmJ7 : ∀ a, a < 0 → ∀ b, b < 0 → a ≠ b → (TJ7 a).2.1 ≠ (TJ7 b).2.1 := by decide +kernel
theorem tyJ7_ok : ∀ k, k < 0 → parseFieldDescriptor (TJ7 k).2.2.1 = some (tyJ7 k) := by decide +kernel
abbrev cJ7_rangeCheck_23922 : ByteArray := prog_33_method_30_code
def yJ7_rangeCheck_23922 : MethodName := ⟨RJ7, "rangeCheck", "(III)V"⟩
abbrev cJ7_fill_fda19 : ByteArray := prog_33_method_104_code
def yJ7_fill_fda19 : MethodName := ⟨RJ7, "fill", "([IIII)V"⟩
abbrev cJ7_copyOf_9075b : ByteArray := prog_33_method_121_code
def yJ7_copyOf_9075b : MethodName := ⟨RJ7, "copyOf", "([BI)[B"⟩
abbrev cJ7_checkLength_df160 : ByteArray := prog_33_method_131_code
def yJ7_checkLength_df160 : MethodName := ⟨RJ7, "checkLength", "(II)V"⟩
abbrev cJ7_copyOfRange_39247 : ByteArray := prog_33_method_132_code
def yJ7_copyOfRange_39247 : MethodName := ⟨RJ7, "copyOfRange", "([BII)[B"⟩
abbrev cJ7_copyOfRangeByte_39247 : ByteArray := prog_33_method_133_code
def yJ7_copyOfRangeByte_39247 : MethodName := ⟨RJ7, "copyOfRangeByte", "([BII)[B"⟩
def RJ8 : String := "jdk/internal/util/ArraysSupport"
def TJ8 : u_T := fun k => match k with
  | _ => ("", "", "", false)
def tyJ8 : Nat → FieldType := fun k => match k with
  | _ => .int
theorem nmJ8 : ∀ a, a < 0 → ∀ b, b < 0 → a ≠ b → (TJ8 a).2.1 ≠ (TJ8 b).2.1 := by decide +kernel
theorem tyJ8_ok : ∀ k, k < 0 → parseFieldDescriptor (TJ8 k).2.2.1 = some (tyJ8 k) := by decide +kernel
abbrev cJ8_newLength_cabcc : ByteArray := prog_34_method_27_code
def yJ8_newLength_cabcc : MethodName := ⟨RJ8, "newLength", "(III)I"⟩
abbrev cJ8_hugeLength_7cf53 : ByteArray := prog_34_method_28_code
def yJ8_hugeLength_7cf53 : MethodName := ⟨RJ8, "hugeLength", "(II)I"⟩
def RJ3 : String := "jdk/internal/util/Preconditions"
def TJ3 : u_T := fun k => match k with
  | _ => ("", "", "", false)
def tyJ3 : Nat → FieldType := fun k => match k with
  | _ => .int
theorem nmJ3 : ∀ a, a < 0 → ∀ b, b < 0 → a ≠ b → (TJ3 a).2.1 ≠ (TJ3 b).2.1 := by decide +kernel
theorem tyJ3_ok : ∀ k, k < 0 → parseFieldDescriptor (TJ3 k).2.2.1 = some (tyJ3 k) := by decide +kernel
abbrev cJ3_checkIndex_8e157 : ByteArray := prog_35_method_11_code
def yJ3_checkIndex_8e157 : MethodName := ⟨RJ3, "checkIndex", "(IILjava/util/function/BiFunction;)I"⟩
abbrev cJ3_checkFromToIndex_8c36e : ByteArray := prog_35_method_12_code
def yJ3_checkFromToIndex_8c36e : MethodName := ⟨RJ3, "checkFromToIndex", "(IIILjava/util/function/BiFunction;)I"⟩
abbrev cJ3_checkFromIndexSize_8c36e : ByteArray := prog_35_method_13_code
def yJ3_checkFromIndexSize_8c36e : MethodName := ⟨RJ3, "checkFromIndexSize", "(IIILjava/util/function/BiFunction;)I"⟩
def RL : String := "ShareMonitorLaw"
abbrev cL_feed : ByteArray := method_3_code
def yL_feed : MethodName := ⟨RL, "feed", "(LShareMonitor;IIIII[J)I"⟩
abbrev cL_end : ByteArray := method_4_code
def yL_end : MethodName := ⟨RL, "end", "(LShareMonitor;I)I"⟩
abbrev cL_load : ByteArray := method_5_code
def yL_load : MethodName := ⟨RL, "load", "(LShareMonitor;I[J)I"⟩
abbrev cL_run : ByteArray := method_6_code
def yL_run : MethodName := ⟨RL, "run", "(LShareMonitor;I[J)I"⟩
abbrev cL_quantum : ByteArray := method_7_code
def yL_quantum : MethodName := ⟨RL, "quantum", "(LShareMonitor;I[J)I"⟩
abbrev cL_kill : ByteArray := method_8_code
def yL_kill : MethodName := ⟨RL, "kill", "(LShareMonitor;I[J)I"⟩
abbrev cL_reap : ByteArray := method_9_code
def yL_reap : MethodName := ⟨RL, "reap", "(LShareMonitor;I[J)I"⟩
abbrev cL_key : ByteArray := method_10_code
def yL_key : MethodName := ⟨RL, "key", "(LShareMonitor;II[J)I"⟩
abbrev cL_post : ByteArray := method_11_code
def yL_post : MethodName := ⟨RL, "post", "(LShareMonitor;II[J)I"⟩
abbrev cL_state : ByteArray := method_12_code
def yL_state : MethodName := ⟨RL, "state", "(LShareMonitor;II[J)I"⟩
abbrev cL_stack : ByteArray := method_13_code
def yL_stack : MethodName := ⟨RL, "stack", "(LShareMonitor;II[J)I"⟩
abbrev cL_message : ByteArray := method_14_code
def yL_message : MethodName := ⟨RL, "message", "(LShareMonitor;IIZ[J)I"⟩
abbrev cL_ready : ByteArray := method_15_code
def yL_ready : MethodName := ⟨RL, "ready", "(LShareMonitor;II[J)I"⟩
abbrev cL_cell : ByteArray := method_16_code
def yL_cell : MethodName := ⟨RL, "cell", "(LShareMonitor;I[J)I"⟩
abbrev cL_block : ByteArray := method_17_code
def yL_block : MethodName := ⟨RL, "block", "(LShareMonitor;II[J)I"⟩
abbrev cL_semaphore : ByteArray := method_18_code
def yL_semaphore : MethodName := ⟨RL, "semaphore", "(LShareMonitor;II[J)I"⟩
abbrev cL_out : ByteArray := method_19_code
def yL_out : MethodName := ⟨RL, "out", "(LShareMonitor;I[J)I"⟩
abbrev cL_count : ByteArray := method_20_code
def yL_count : MethodName := ⟨RL, "count", "(LShareMonitor;I[J)I"⟩
abbrev cL_law : ByteArray := code
def yL_law : MethodName := ⟨RL, "law", "([I)Z"⟩
abbrev n_cls : List vw_C := [(RX1, TX1, 3), (RX2, TX2, 11), (RX3, TX3, 3), (RX5, TX5, 4), (RX6, TX6, 11), (RX7, TX7, 2), (RX8, TX8, 2), (RX9, TX9, 16), (RX10, TX10, 2), (RX11, TX11, 4), (RX12, TX12, 53)]
end
section
/-! worlds over a pure state: what the walks are told in -/
def n_tb : List Cond := lw_tbl.filter goodWord
theorem n_in {w : Cond} (h : w ∈ tables_1) (hg : goodWord w = true) : w ∈ n_tb := List.mem_filter.mpr ⟨List.mem_append_right _ h, hg⟩
theorem n_at {w : Cond} (i : Nat) (h : tables_1[i]? = some w) (hg : goodWord w = true) : w ∈ n_tb := n_in (List.mem_of_getElem? h) hg
theorem n_sel {q : MethodName × Nat} (h : q ∈ lw_privs) (hg : goodWord (.selects q.1.cls q.1 q.1) = true) : Cond.selects q.1.cls q.1 q.1 ∈ n_tb := List.mem_filter.mpr ⟨List.mem_append_left _ (List.mem_map.mpr ⟨q, h, rfl⟩), hg⟩
theorem n_good {w : Cond} (h : w ∈ n_tb) : w ∈ lw_tbl ∧ ((w.onTables && w.keeps) = true ∨ ∃ ty, w = .arrayClass ty) := ⟨(List.mem_filter.mp h).1, good_of_word (List.mem_filter.mp h).2⟩
abbrev n_Wd (St : Type) : Type := va_G × List vw_C × List (ClassId × FieldType) × (Nat → Nat → Prop) × (Nat → Nat → Nat) × (Nat → Nat → St → va_E) × (State → Heap → Prop)
section NA
variable {St : Type}
abbrev n_D (w : n_Wd St) : va_G := w.1
abbrev n_cl (w : n_Wd St) : List vw_C := w.2.1
abbrev n_ty (w : n_Wd St) : List (ClassId × FieldType) := w.2.2.1
abbrev n_cnt (w : n_Wd St) : Nat → Nat → Prop := w.2.2.2.1
abbrev n_ad (w : n_Wd St) : Nat → Nat → Nat := w.2.2.2.2.1
abbrev n_en (w : n_Wd St) : Nat → Nat → St → va_E := w.2.2.2.2.2.1
abbrev n_Ex (w : n_Wd St) : State → Heap → Prop := w.2.2.2.2.2.2
def n_A (w : n_Wd St) : Nat → Prop := fun q => ∃ κ i, n_cnt w κ i ∧ q = n_ad w κ i
def n_Rep (w : n_Wd St) (σ : St) (H : Heap) : Prop := ∀ κ i, n_cnt w κ i → va_at (n_D w) (n_cl w) (n_ad w κ i, n_en w κ i σ) H
def n_clok (w : n_Wd St) : Prop := ∀ (ci : Nat) (q : vw_C), (n_cl w)[ci]? = some q → (∀ x ∈ u_ws q.1 q.2.1 q.2.2, x ∈ n_tb) ∧ (∀ a, a < q.2.2 → ∀ b, b < q.2.2 → a ≠ b → (q.2.1 a).2.1 ≠ (q.2.1 b).2.1) ∧ ∃ ty : Nat → FieldType, ∀ k, k < q.2.2 → parseFieldDescriptor (q.2.1 k).2.2.1 = some (ty k)
def n_inj (w : n_Wd St) : Prop := ∀ κ i κ' i', n_cnt w κ i → n_cnt w κ' i' → n_ad w κ i = n_ad w κ' i' → κ = κ' ∧ i = i'
def n_exok (w : n_Wd St) : Prop := ∀ (u U : State) (H H1 : Heap), u.vm.Alike U.vm → (∀ q : Nat, q < H.size → ¬ n_A w q → H1[q]? = H[q]?) → n_Ex w u H → n_Ex w U H1
def n_ok (w : n_Wd St) : Prop := n_inj w ∧ n_clok w ∧ n_exok w
def n_rm (d : Nat) : Room := { frames := d, cells := 0, slots := 0, locals := 60 * d }
def n_ls (nL : Nat) (la : Array Slot) (ls : List (Option Value)) : Prop := ls.length = nL ∧ la.size = nL ∧ lv_wf la ∧ ∀ (i : Nat) (v : Value), ls[i]? = some (some v) → la[i]? = some (.val v)
def n_Q (w : n_Wd St) (Po : Option Value → St → Prop) : Array Value → State → Outcome → State → Prop := fun _ st oc t => (∃ (rv : Option Value) (σ' : St), oc = .returned rv ∧ Po rv σ' ∧ n_Rep w σ' t.heap) ∧ va_F (n_A w) st t
def n_W (p : Program) (l : Launch) (e : Env) (s : State) (m : MethodId) (args : Array Value) (below : List Frame) (meth : Method) (c : Code) (w : n_Wd St) (d : Nat) (Po : Option Value → St → Prop) (pc : Nat) (ls : List (Option Value)) (st : List Value) (σ : St) : Prop :=
  ∀ (H : Heap) (locs : List Loc) (la : Array Slot), n_ls c.maxLocals la ls → n_Rep w σ H → va_S (n_A w) s.heap H locs → W p l e (n_rm d) s m args below meth c H locs 0 0 (MQ below (n_Q w Po) args s 0 0 (n_A w)) (F0 m pc la st)
def n_C (p : Program) (s : State) (m : MethodId) (args : Array Value) (meth : Method) (c : Code) (w : n_Wd St) (cc : ByteArray) (nL : Nat) (own : String) (ret : Option FieldType) : Prop :=
  p.tables.exec = Jvm.exec ∧ c.code = cc ∧ c.maxLocals = nL ∧ s.vm.findClass own = some m.cls ∧ (∀ x ∈ n_tb, x.before args s = true) ∧ meth.sig.returnType = ret ∧ meth.locks = false ∧ va_K (n_D w) (n_cl w) (n_ty w) s ∧ n_Ex w s s.heap ∧ n_ok w
def n_U (w : n_Wd St) (σ : St) (U : State) : Prop := n_Rep w σ U.heap ∧ va_K (n_D w) (n_cl w) (n_ty w) U ∧ n_Ex w U U.heap ∧ n_ok w
def n_Ct (l : Launch) (w : n_Wd St) (d : Nat) (y : MethodName) (bytes : ByteArray) (maxL : Nat) (ret : Option FieldType) (av : List Value) (σ : St) (Po : Option Value → St → Prop) : Prop :=
  Met l y (.code y bytes maxL ret :: n_tb) (n_rm d) (va_Pc av (n_U w σ)) (n_Q w Po) 0 0 (n_A w)
theorem n_Rep.set {w : n_Wd St} {σ σ' : St} {H H1 : Heap} {κ i : Nat} (hj : n_inj w) (hi : n_cnt w κ i) (h : n_Rep w σ H) (he : va_at (n_D w) (n_cl w) (n_ad w κ i, n_en w κ i σ') H1) (oq : ∀ q : Nat, q ≠ n_ad w κ i → H1[q]? = H[q]?)
    (ho : ∀ κ' i', n_cnt w κ' i' → ¬ (κ' = κ ∧ i' = i) → n_en w κ' i' σ' = n_en w κ' i' σ) : n_Rep w σ' H1 := by
  intro κ' i' hi'
  by_cases hk : κ' = κ ∧ i' = i
  · obtain ⟨rfl, rfl⟩ := hk
    exact he
  · rw [ho κ' i' hi' hk]
    exact (h κ' i' hi').kept (oq _ (fun e => hk (hj κ' i' κ i hi' hi e)))
theorem n_A.in {w : n_Wd St} {κ i : Nat} (hi : n_cnt w κ i) : n_A w (n_ad w κ i) := ⟨κ, i, hi, rfl⟩
def n_lv (ls : List (Option Value)) : List (Nat × Value) := (List.range ls.length).filterMap (fun i => (ls[i]?.join).map (fun v => (i, v)))
theorem n_lv_mem {ls : List (Option Value)} {q : Nat × Value} (h : q ∈ n_lv ls) : ls[q.1]? = some (some q.2) := by
  obtain ⟨i, -, hi⟩ := List.mem_filterMap.mp h
  cases hj : ls[i]?.join with
  | none => rw [hj] at hi; cases hi
  | some v =>
    rw [hj] at hi
    cases hi
    cases hk : ls[i]? with
    | none => rw [hk] at hj; cases hj
    | some o => rw [hk] at hj; exact congrArg some hj
theorem n_lv_in {ls : List (Option Value)} {i : Nat} {v : Value} (h : ls[i]? = some (some v)) : (i, v) ∈ n_lv ls :=
  List.mem_filterMap.mpr ⟨i, List.mem_range.mpr (List.getElem?_eq_some_iff.mp h).1, by rw [h]; rfl⟩
theorem n_ls.has {nL : Nat} {la : Array Slot} {ls : List (Option Value)} (h : n_ls nL la ls) : lv_has la nL (n_lv ls) := ⟨h.2.1, h.2.2.1, fun q hq => h.2.2.2 q.1 q.2 (n_lv_mem hq)⟩
def n_clr (ls : List (Option Value)) (i : Nat) : List (Option Value) := match i with
  | 0 => ls
  | j + 1 => match ls[j]? with
    | some (some v) => if v.category = 2 then ls.set j none else ls
    | _ => ls
def n_st1 (ls : List (Option Value)) (i : Nat) (v : Value) : List (Option Value) := (n_clr ls i).set i (some v)
def n_st2 (ls : List (Option Value)) (i : Nat) (v : Value) : List (Option Value) := ((n_clr ls i).set i (some v)).set (i + 1) none
theorem n_clr_len (ls : List (Option Value)) (i : Nat) : (n_clr ls i).length = ls.length := by
  unfold n_clr
  split
  · rfl
  · split
    · split
      · simp
      · rfl
    · rfl
theorem n_clr_at {ls : List (Option Value)} {i j : Nat} {v : Value} (h : (n_clr ls i)[j]? = some (some v)) : ls[j]? = some (some v) ∧ ¬ (j + 1 = i ∧ v.category = 2) := by
  unfold n_clr at h
  split at h
  · exact ⟨h, fun q => by omega⟩
  · rename_i k
    split at h
    · rename_i u hu
      split at h
      · rename_i hc
        rw [List.getElem?_set] at h
        split at h
        · split at h <;> simp at h
        · rename_i hne
          exact ⟨h, fun q => hne (by omega)⟩
      · rename_i hc
        refine ⟨h, fun q => hc ?_⟩
        have : j = k := by omega
        subst this
        rw [hu] at h
        cases h
        exact q.2
    · rename_i hn
      refine ⟨h, fun q => hn v ?_⟩
      have : j = k := by omega
      subst this
      exact h
theorem n_has1 {nL : Nat} {la la' : Array Slot} {ls : List (Option Value)} {i : Nat} {v : Value} (h : n_ls nL la ls) (hh : lv_has la' nL ((i, v) :: (n_lv ls).filter (fun q => !(q.1 == i) && !(q.1 + 1 == i && q.2.category == 2)))) : n_ls nL la' (n_st1 ls i v) := by
  refine ⟨by unfold n_st1; rw [List.length_set, n_clr_len]; exact h.1, hh.1, hh.2.1, fun j u hj => ?_⟩
  unfold n_st1 at hj
  rw [List.getElem?_set] at hj
  split at hj
  · rename_i hij
    subst hij
    split at hj
    · cases hj
      exact hh.2.2 _ List.mem_cons_self
    · cases hj
  · rename_i hij
    obtain ⟨h1, h2⟩ := n_clr_at hj
    refine hh.2.2 (j, u) (List.mem_cons_of_mem _ (List.mem_filter.mpr ⟨n_lv_in h1, ?_⟩))
    simp only [Bool.and_eq_true, Bool.not_eq_true', beq_eq_false_iff_ne, ne_eq, Bool.and_eq_false_iff]
    refine ⟨fun q => hij q.symm, ?_⟩
    by_cases q : j + 1 = i
    · exact Or.inr (fun z => h2 ⟨q, z⟩)
    · exact Or.inl q
theorem n_has2 {nL : Nat} {la la' : Array Slot} {ls : List (Option Value)} {i : Nat} {v : Value} (h : n_ls nL la ls) (hh : lv_has la' nL ((i, v) :: (n_lv ls).filter (fun q => !(q.1 == i) && (!(q.1 == i + 1) && !(q.1 + 1 == i && q.2.category == 2))))) : n_ls nL la' (n_st2 ls i v) := by
  refine ⟨by unfold n_st2; rw [List.length_set, List.length_set, n_clr_len]; exact h.1, hh.1, hh.2.1, fun j u hj => ?_⟩
  unfold n_st2 at hj
  rw [List.getElem?_set] at hj
  split at hj
  · split at hj <;> simp at hj
  · rename_i hij1
    rw [List.getElem?_set] at hj
    split at hj
    · rename_i hij
      subst hij
      split at hj
      · cases hj
        exact hh.2.2 _ List.mem_cons_self
      · cases hj
    · rename_i hij
      obtain ⟨h1, h2⟩ := n_clr_at hj
      refine hh.2.2 (j, u) (List.mem_cons_of_mem _ (List.mem_filter.mpr ⟨n_lv_in h1, ?_⟩))
      simp only [Bool.and_eq_true, Bool.not_eq_true', beq_eq_false_iff_ne, ne_eq, Bool.and_eq_false_iff]
      refine ⟨fun q => hij q.symm, fun q => hij1 q.symm, ?_⟩
      by_cases q : j + 1 = i
      · exact Or.inr (fun z => h2 ⟨q, z⟩)
      · exact Or.inl q
def n_l0 (nL : Nat) (av : List Value) : List (Option Value) := (av.flatMap fun v => if v.category = 2 then [some v, none] else [some v]) ++ List.replicate (nL - (av.flatMap fun v => if v.category = 2 then [some v, none] else [some v] : List (Option Value)).length) none
end NA
end
section
section NO
variable {St : Type} {p : Program} {l : Launch} {e : Env} {s : State} {m : MethodId} {args : Array Value} {below : List Frame} {meth : Method} {c : Code} {w : n_Wd St} {d : Nat} {Po : Option Value → St → Prop} {cc : ByteArray} {nL : Nat} {own : String} {ret : Option FieldType}
variable {pc : Nat} {ls : List (Option Value)} {rest : List Value} {σ : St}

theorem n_iconst (hC : n_C p s m args meth c w cc nL own ret) {n : Int} {v : Int32} (hdg : decode cc pc = .ok (.iconst n, 1)) (hv : Int32.ofInt n = v) (k : n_W p l e s m args below meth c w d Po (pc + 1) ls (.int v :: rest) σ) : n_W p l e s m args below meth c w d Po pc ls (rest) σ := fun H locs la z1 z2 z3 => lv_iconst hC.1 hC.2.1 hdg hv (k H locs la z1 z2 z3)
theorem n_bipush (hC : n_C p s m args meth c w cc nL own ret) {n : Int} {v : Int32} (hdg : decode cc pc = .ok (.bipush n, 2)) (hv : (Int8.ofInt n).toInt32 = v) (k : n_W p l e s m args below meth c w d Po (pc + 2) ls (.int v :: rest) σ) : n_W p l e s m args below meth c w d Po pc ls (rest) σ := fun H locs la z1 z2 z3 => lv_bipush hC.1 hC.2.1 hdg hv (k H locs la z1 z2 z3)
theorem n_sipush (hC : n_C p s m args meth c w cc nL own ret) {n : Int} {v : Int32} (hdg : decode cc pc = .ok (.sipush n, 3)) (hv : (Int16.ofInt n).toInt32 = v) (k : n_W p l e s m args below meth c w d Po (pc + 3) ls (.int v :: rest) σ) : n_W p l e s m args below meth c w d Po pc ls (rest) σ := fun H locs la z1 z2 z3 => lv_sipush hC.1 hC.2.1 hdg hv (k H locs la z1 z2 z3)
theorem n_lconst (hC : n_C p s m args meth c w cc nL own ret) {n : Fin 2} {v : Int64} (hdg : decode cc pc = .ok (.lconst n, 1)) (hv : Int64.ofNat (n : Nat) = v) (k : n_W p l e s m args below meth c w d Po (pc + 1) ls (.long v :: rest) σ) : n_W p l e s m args below meth c w d Po pc ls (rest) σ := fun H locs la z1 z2 z3 => lv_lconst hC.1 hC.2.1 hdg hv (k H locs la z1 z2 z3)
theorem n_iload_n (hC : n_C p s m args meth c w cc nL own ret) {k : Fin 4} {i : Nat} {x : Int32} (hdg : decode cc pc = .ok (.iload_n k, 1)) (hi : (k : Nat) = i) (hl : ls[i]? = some (some (.int x))) (k : n_W p l e s m args below meth c w d Po (pc + 1) ls (.int x :: rest) σ) : n_W p l e s m args below meth c w d Po pc ls (rest) σ := fun H locs la z1 z2 z3 => lv_iload_n hC.1 hC.2.1 hdg hi (z1.2.2.2 _ _ hl) (k H locs la z1 z2 z3)
theorem n_iload (hC : n_C p s m args meth c w cc nL own ret) {i : Nat} {x : Int32} (hdg : decode cc pc = .ok (.iload i, 2)) (hl : ls[i]? = some (some (.int x))) (k : n_W p l e s m args below meth c w d Po (pc + 2) ls (.int x :: rest) σ) : n_W p l e s m args below meth c w d Po pc ls (rest) σ := fun H locs la z1 z2 z3 => lv_iload hC.1 hC.2.1 hdg (z1.2.2.2 _ _ hl) (k H locs la z1 z2 z3)
theorem n_lload_n (hC : n_C p s m args meth c w cc nL own ret) {k : Fin 4} {i : Nat} {x : Int64} (hdg : decode cc pc = .ok (.lload_n k, 1)) (hi : (k : Nat) = i) (hl : ls[i]? = some (some (.long x))) (k : n_W p l e s m args below meth c w d Po (pc + 1) ls (.long x :: rest) σ) : n_W p l e s m args below meth c w d Po pc ls (rest) σ := fun H locs la z1 z2 z3 => lv_lload_n hC.1 hC.2.1 hdg hi (z1.2.2.2 _ _ hl) (k H locs la z1 z2 z3)
theorem n_lload (hC : n_C p s m args meth c w cc nL own ret) {i : Nat} {x : Int64} (hdg : decode cc pc = .ok (.lload i, 2)) (hl : ls[i]? = some (some (.long x))) (k : n_W p l e s m args below meth c w d Po (pc + 2) ls (.long x :: rest) σ) : n_W p l e s m args below meth c w d Po pc ls (rest) σ := fun H locs la z1 z2 z3 => lv_lload hC.1 hC.2.1 hdg (z1.2.2.2 _ _ hl) (k H locs la z1 z2 z3)
theorem n_aload_n (hC : n_C p s m args meth c w cc nL own ret) {k : Fin 4} {i : Nat} {x : Nat} (hdg : decode cc pc = .ok (.aload_n k, 1)) (hi : (k : Nat) = i) (hl : ls[i]? = some (some (.ref x))) (k : n_W p l e s m args below meth c w d Po (pc + 1) ls (.ref x :: rest) σ) : n_W p l e s m args below meth c w d Po pc ls (rest) σ := fun H locs la z1 z2 z3 => lv_aload_n hC.1 hC.2.1 hdg hi (z1.2.2.2 _ _ hl) (k H locs la z1 z2 z3)
theorem n_aload (hC : n_C p s m args meth c w cc nL own ret) {i : Nat} {x : Nat} (hdg : decode cc pc = .ok (.aload i, 2)) (hl : ls[i]? = some (some (.ref x))) (k : n_W p l e s m args below meth c w d Po (pc + 2) ls (.ref x :: rest) σ) : n_W p l e s m args below meth c w d Po pc ls (rest) σ := fun H locs la z1 z2 z3 => lv_aload hC.1 hC.2.1 hdg (z1.2.2.2 _ _ hl) (k H locs la z1 z2 z3)
theorem n_iadd (hC : n_C p s m args meth c w cc nL own ret) {x y : Int32} (hdg : decode cc pc = .ok (.iadd, 1)) (k : n_W p l e s m args below meth c w d Po (pc + 1) ls (.int (x + y) :: rest) σ) : n_W p l e s m args below meth c w d Po pc ls (.int y :: .int x :: rest) σ := fun H locs la z1 z2 z3 => lv_iadd hC.1 hC.2.1 hdg (k H locs la z1 z2 z3)
theorem n_isub (hC : n_C p s m args meth c w cc nL own ret) {x y : Int32} (hdg : decode cc pc = .ok (.isub, 1)) (k : n_W p l e s m args below meth c w d Po (pc + 1) ls (.int (x - y) :: rest) σ) : n_W p l e s m args below meth c w d Po pc ls (.int y :: .int x :: rest) σ := fun H locs la z1 z2 z3 => lv_isub hC.1 hC.2.1 hdg (k H locs la z1 z2 z3)
theorem n_imul (hC : n_C p s m args meth c w cc nL own ret) {x y : Int32} (hdg : decode cc pc = .ok (.imul, 1)) (k : n_W p l e s m args below meth c w d Po (pc + 1) ls (.int (x * y) :: rest) σ) : n_W p l e s m args below meth c w d Po pc ls (.int y :: .int x :: rest) σ := fun H locs la z1 z2 z3 => lv_imul hC.1 hC.2.1 hdg (k H locs la z1 z2 z3)
theorem n_iand (hC : n_C p s m args meth c w cc nL own ret) {x y : Int32} (hdg : decode cc pc = .ok (.iand, 1)) (k : n_W p l e s m args below meth c w d Po (pc + 1) ls (.int (x &&& y) :: rest) σ) : n_W p l e s m args below meth c w d Po pc ls (.int y :: .int x :: rest) σ := fun H locs la z1 z2 z3 => lv_iand hC.1 hC.2.1 hdg (k H locs la z1 z2 z3)
theorem n_ior (hC : n_C p s m args meth c w cc nL own ret) {x y : Int32} (hdg : decode cc pc = .ok (.ior, 1)) (k : n_W p l e s m args below meth c w d Po (pc + 1) ls (.int (x ||| y) :: rest) σ) : n_W p l e s m args below meth c w d Po pc ls (.int y :: .int x :: rest) σ := fun H locs la z1 z2 z3 => lv_ior hC.1 hC.2.1 hdg (k H locs la z1 z2 z3)
theorem n_ixor (hC : n_C p s m args meth c w cc nL own ret) {x y : Int32} (hdg : decode cc pc = .ok (.ixor, 1)) (k : n_W p l e s m args below meth c w d Po (pc + 1) ls (.int (x ^^^ y) :: rest) σ) : n_W p l e s m args below meth c w d Po pc ls (.int y :: .int x :: rest) σ := fun H locs la z1 z2 z3 => lv_ixor hC.1 hC.2.1 hdg (k H locs la z1 z2 z3)
theorem n_idiv (hC : n_C p s m args meth c w cc nL own ret) {x y : Int32} (hdg : decode cc pc = .ok (.idiv, 1)) (hne : ¬ y = 0) (k : n_W p l e s m args below meth c w d Po (pc + 1) ls (.int (x / y) :: rest) σ) : n_W p l e s m args below meth c w d Po pc ls (.int y :: .int x :: rest) σ := fun H locs la z1 z2 z3 => lv_idiv hC.1 hC.2.1 hdg hne (k H locs la z1 z2 z3)
theorem n_irem (hC : n_C p s m args meth c w cc nL own ret) {x y : Int32} (hdg : decode cc pc = .ok (.irem, 1)) (hne : ¬ y = 0) (k : n_W p l e s m args below meth c w d Po (pc + 1) ls (.int (x - x / y * y) :: rest) σ) : n_W p l e s m args below meth c w d Po pc ls (.int y :: .int x :: rest) σ := fun H locs la z1 z2 z3 => lv_irem hC.1 hC.2.1 hdg hne (k H locs la z1 z2 z3)
theorem n_ineg (hC : n_C p s m args meth c w cc nL own ret) {x : Int32} (hdg : decode cc pc = .ok (.ineg, 1)) (k : n_W p l e s m args below meth c w d Po (pc + 1) ls (.int (-x) :: rest) σ) : n_W p l e s m args below meth c w d Po pc ls (.int x :: rest) σ := fun H locs la z1 z2 z3 => lv_ineg hC.1 hC.2.1 hdg (k H locs la z1 z2 z3)
theorem n_ladd (hC : n_C p s m args meth c w cc nL own ret) {x y : Int64} (hdg : decode cc pc = .ok (.ladd, 1)) (k : n_W p l e s m args below meth c w d Po (pc + 1) ls (.long (x + y) :: rest) σ) : n_W p l e s m args below meth c w d Po pc ls (.long y :: .long x :: rest) σ := fun H locs la z1 z2 z3 => lv_ladd hC.1 hC.2.1 hdg (k H locs la z1 z2 z3)
theorem n_lsub (hC : n_C p s m args meth c w cc nL own ret) {x y : Int64} (hdg : decode cc pc = .ok (.lsub, 1)) (k : n_W p l e s m args below meth c w d Po (pc + 1) ls (.long (x - y) :: rest) σ) : n_W p l e s m args below meth c w d Po pc ls (.long y :: .long x :: rest) σ := fun H locs la z1 z2 z3 => lv_lsub hC.1 hC.2.1 hdg (k H locs la z1 z2 z3)
theorem n_lmul (hC : n_C p s m args meth c w cc nL own ret) {x y : Int64} (hdg : decode cc pc = .ok (.lmul, 1)) (k : n_W p l e s m args below meth c w d Po (pc + 1) ls (.long (x * y) :: rest) σ) : n_W p l e s m args below meth c w d Po pc ls (.long y :: .long x :: rest) σ := fun H locs la z1 z2 z3 => lv_lmul hC.1 hC.2.1 hdg (k H locs la z1 z2 z3)
theorem n_land (hC : n_C p s m args meth c w cc nL own ret) {x y : Int64} (hdg : decode cc pc = .ok (.land, 1)) (k : n_W p l e s m args below meth c w d Po (pc + 1) ls (.long (x &&& y) :: rest) σ) : n_W p l e s m args below meth c w d Po pc ls (.long y :: .long x :: rest) σ := fun H locs la z1 z2 z3 => lv_land hC.1 hC.2.1 hdg (k H locs la z1 z2 z3)
theorem n_lor (hC : n_C p s m args meth c w cc nL own ret) {x y : Int64} (hdg : decode cc pc = .ok (.lor, 1)) (k : n_W p l e s m args below meth c w d Po (pc + 1) ls (.long (x ||| y) :: rest) σ) : n_W p l e s m args below meth c w d Po pc ls (.long y :: .long x :: rest) σ := fun H locs la z1 z2 z3 => lv_lor hC.1 hC.2.1 hdg (k H locs la z1 z2 z3)
theorem n_lxor (hC : n_C p s m args meth c w cc nL own ret) {x y : Int64} (hdg : decode cc pc = .ok (.lxor, 1)) (k : n_W p l e s m args below meth c w d Po (pc + 1) ls (.long (x ^^^ y) :: rest) σ) : n_W p l e s m args below meth c w d Po pc ls (.long y :: .long x :: rest) σ := fun H locs la z1 z2 z3 => lv_lxor hC.1 hC.2.1 hdg (k H locs la z1 z2 z3)
theorem n_lneg (hC : n_C p s m args meth c w cc nL own ret) {x : Int64} (hdg : decode cc pc = .ok (.lneg, 1)) (k : n_W p l e s m args below meth c w d Po (pc + 1) ls (.long (-x) :: rest) σ) : n_W p l e s m args below meth c w d Po pc ls (.long x :: rest) σ := fun H locs la z1 z2 z3 => lv_lneg hC.1 hC.2.1 hdg (k H locs la z1 z2 z3)
theorem n_ishl (hC : n_C p s m args meth c w cc nL own ret) {x y : Int32} (hdg : decode cc pc = .ok (.ishl, 1)) (k : n_W p l e s m args below meth c w d Po (pc + 1) ls (.int (x <<< (y &&& 31)) :: rest) σ) : n_W p l e s m args below meth c w d Po pc ls (.int y :: .int x :: rest) σ := fun H locs la z1 z2 z3 => lv_ishl hC.1 hC.2.1 hdg (k H locs la z1 z2 z3)
theorem n_ishr (hC : n_C p s m args meth c w cc nL own ret) {x y : Int32} (hdg : decode cc pc = .ok (.ishr, 1)) (k : n_W p l e s m args below meth c w d Po (pc + 1) ls (.int (x >>> (y &&& 31)) :: rest) σ) : n_W p l e s m args below meth c w d Po pc ls (.int y :: .int x :: rest) σ := fun H locs la z1 z2 z3 => lv_ishr hC.1 hC.2.1 hdg (k H locs la z1 z2 z3)
theorem n_i2l (hC : n_C p s m args meth c w cc nL own ret) {x : Int32} {v : Int64} (hdg : decode cc pc = .ok (.i2l, 1)) (hv : x.toInt64 = v) (k : n_W p l e s m args below meth c w d Po (pc + 1) ls (.long v :: rest) σ) : n_W p l e s m args below meth c w d Po pc ls (.int x :: rest) σ := fun H locs la z1 z2 z3 => lv_i2l hC.1 hC.2.1 hdg hv (k H locs la z1 z2 z3)
theorem n_l2i (hC : n_C p s m args meth c w cc nL own ret) {x : Int64} {v : Int32} (hdg : decode cc pc = .ok (.l2i, 1)) (hv : x.toInt32 = v) (k : n_W p l e s m args below meth c w d Po (pc + 1) ls (.int v :: rest) σ) : n_W p l e s m args below meth c w d Po pc ls (.long x :: rest) σ := fun H locs la z1 z2 z3 => lv_l2i hC.1 hC.2.1 hdg hv (k H locs la z1 z2 z3)
theorem n_i2b (hC : n_C p s m args meth c w cc nL own ret) {x : Int32} {v : Int32} (hdg : decode cc pc = .ok (.i2b, 1)) (hv : x.toInt8.toInt32 = v) (k : n_W p l e s m args below meth c w d Po (pc + 1) ls (.int v :: rest) σ) : n_W p l e s m args below meth c w d Po pc ls (.int x :: rest) σ := fun H locs la z1 z2 z3 => lv_i2b hC.1 hC.2.1 hdg hv (k H locs la z1 z2 z3)
theorem n_iushr (hC : n_C p s m args meth c w cc nL own ret) {x y v : Int32} (hdg : decode cc pc = .ok (.iushr, 1)) (hv : (x.toUInt32 >>> (y.toUInt32 &&& Int32.toUInt32 31)).toInt32 = v) (k : n_W p l e s m args below meth c w d Po (pc + 1) ls (.int v :: rest) σ) : n_W p l e s m args below meth c w d Po pc ls (.int y :: .int x :: rest) σ := fun H locs la z1 z2 z3 => lv_iushr hC.1 hC.2.1 hdg hv (k H locs la z1 z2 z3)
theorem n_lshl (hC : n_C p s m args meth c w cc nL own ret) {x v : Int64} {y : Int32} (hdg : decode cc pc = .ok (.lshl, 1)) (hv : x <<< (y.toInt64 &&& 63) = v) (k : n_W p l e s m args below meth c w d Po (pc + 1) ls (.long v :: rest) σ) : n_W p l e s m args below meth c w d Po pc ls (.int y :: .long x :: rest) σ := fun H locs la z1 z2 z3 => lv_lshl hC.1 hC.2.1 hdg hv (k H locs la z1 z2 z3)
theorem n_dup (hC : n_C p s m args meth c w cc nL own ret) {va : Value} (hdg : decode cc pc = .ok (.dup, 1)) (hva : va.category = 1) (k : n_W p l e s m args below meth c w d Po (pc + 1) ls (va :: va :: rest) σ) : n_W p l e s m args below meth c w d Po pc ls (va :: rest) σ := fun H locs la z1 z2 z3 => lv_dup hC.1 hC.2.1 hdg hva (k H locs la z1 z2 z3)
theorem n_pop (hC : n_C p s m args meth c w cc nL own ret) {va : Value} (hdg : decode cc pc = .ok (.pop, 1)) (hva : va.category = 1) (k : n_W p l e s m args below meth c w d Po (pc + 1) ls (rest) σ) : n_W p l e s m args below meth c w d Po pc ls (va :: rest) σ := fun H locs la z1 z2 z3 => lv_pop hC.1 hC.2.1 hdg hva (k H locs la z1 z2 z3)
theorem n_dup2_11 (hC : n_C p s m args meth c w cc nL own ret) {va vb : Value} (hdg : decode cc pc = .ok (.dup2, 1)) (hva : va.category = 1) (hvb : vb.category = 1) (k : n_W p l e s m args below meth c w d Po (pc + 1) ls (va :: vb :: va :: vb :: rest) σ) : n_W p l e s m args below meth c w d Po pc ls (va :: vb :: rest) σ := fun H locs la z1 z2 z3 => lv_dup2_11 hC.1 hC.2.1 hdg hva hvb (k H locs la z1 z2 z3)
theorem n_dup2_2 (hC : n_C p s m args meth c w cc nL own ret) {va : Value} (hdg : decode cc pc = .ok (.dup2, 1)) (hva : va.category = 2) (k : n_W p l e s m args below meth c w d Po (pc + 1) ls (va :: va :: rest) σ) : n_W p l e s m args below meth c w d Po pc ls (va :: rest) σ := fun H locs la z1 z2 z3 => lv_dup2_2 hC.1 hC.2.1 hdg hva (k H locs la z1 z2 z3)
theorem n_dup_x1 (hC : n_C p s m args meth c w cc nL own ret) {va vb : Value} (hdg : decode cc pc = .ok (.dup_x1, 1)) (hva : va.category = 1) (hvb : vb.category = 1) (k : n_W p l e s m args below meth c w d Po (pc + 1) ls (va :: vb :: va :: rest) σ) : n_W p l e s m args below meth c w d Po pc ls (va :: vb :: rest) σ := fun H locs la z1 z2 z3 => lv_dup_x1 hC.1 hC.2.1 hdg hva hvb (k H locs la z1 z2 z3)
theorem n_if_eq (hC : n_C p s m args meth c w cc nL own ret) {x : Int32} {off : Int} {tgt : Nat} (hdg : decode cc pc = .ok (.ifCond .eq off, 3)) (ht : (pc : Int) + off = (tgt : Int)) (kt : x = 0 → n_W p l e s m args below meth c w d Po tgt ls rest σ) (kf : ¬ x = 0 → n_W p l e s m args below meth c w d Po (pc + 3) ls rest σ) : n_W p l e s m args below meth c w d Po pc ls (.int x :: rest) σ := fun H locs la z1 z2 z3 => lv_if_eq hC.1 hC.2.1 hdg ht (fun q => kt q H locs la z1 z2 z3) (fun q => kf q H locs la z1 z2 z3)
theorem n_icmp_eq (hC : n_C p s m args meth c w cc nL own ret) {x y : Int32} {off : Int} {tgt : Nat} (hdg : decode cc pc = .ok (.if_icmp .eq off, 3)) (ht : (pc : Int) + off = (tgt : Int)) (kt : x = y → n_W p l e s m args below meth c w d Po tgt ls rest σ) (kf : ¬ x = y → n_W p l e s m args below meth c w d Po (pc + 3) ls rest σ) : n_W p l e s m args below meth c w d Po pc ls (.int y :: .int x :: rest) σ := fun H locs la z1 z2 z3 => lv_icmp_eq hC.1 hC.2.1 hdg ht (fun q => kt q H locs la z1 z2 z3) (fun q => kf q H locs la z1 z2 z3)
theorem n_if_ne (hC : n_C p s m args meth c w cc nL own ret) {x : Int32} {off : Int} {tgt : Nat} (hdg : decode cc pc = .ok (.ifCond .ne off, 3)) (ht : (pc : Int) + off = (tgt : Int)) (kt : ¬ x = 0 → n_W p l e s m args below meth c w d Po tgt ls rest σ) (kf : x = 0 → n_W p l e s m args below meth c w d Po (pc + 3) ls rest σ) : n_W p l e s m args below meth c w d Po pc ls (.int x :: rest) σ := fun H locs la z1 z2 z3 => lv_if_ne hC.1 hC.2.1 hdg ht (fun q => kt q H locs la z1 z2 z3) (fun q => kf q H locs la z1 z2 z3)
theorem n_icmp_ne (hC : n_C p s m args meth c w cc nL own ret) {x y : Int32} {off : Int} {tgt : Nat} (hdg : decode cc pc = .ok (.if_icmp .ne off, 3)) (ht : (pc : Int) + off = (tgt : Int)) (kt : ¬ x = y → n_W p l e s m args below meth c w d Po tgt ls rest σ) (kf : x = y → n_W p l e s m args below meth c w d Po (pc + 3) ls rest σ) : n_W p l e s m args below meth c w d Po pc ls (.int y :: .int x :: rest) σ := fun H locs la z1 z2 z3 => lv_icmp_ne hC.1 hC.2.1 hdg ht (fun q => kt q H locs la z1 z2 z3) (fun q => kf q H locs la z1 z2 z3)
theorem n_if_lt (hC : n_C p s m args meth c w cc nL own ret) {x : Int32} {off : Int} {tgt : Nat} (hdg : decode cc pc = .ok (.ifCond .lt off, 3)) (ht : (pc : Int) + off = (tgt : Int)) (kt : x < 0 → n_W p l e s m args below meth c w d Po tgt ls rest σ) (kf : ¬ x < 0 → n_W p l e s m args below meth c w d Po (pc + 3) ls rest σ) : n_W p l e s m args below meth c w d Po pc ls (.int x :: rest) σ := fun H locs la z1 z2 z3 => lv_if_lt hC.1 hC.2.1 hdg ht (fun q => kt q H locs la z1 z2 z3) (fun q => kf q H locs la z1 z2 z3)
theorem n_icmp_lt (hC : n_C p s m args meth c w cc nL own ret) {x y : Int32} {off : Int} {tgt : Nat} (hdg : decode cc pc = .ok (.if_icmp .lt off, 3)) (ht : (pc : Int) + off = (tgt : Int)) (kt : x < y → n_W p l e s m args below meth c w d Po tgt ls rest σ) (kf : ¬ x < y → n_W p l e s m args below meth c w d Po (pc + 3) ls rest σ) : n_W p l e s m args below meth c w d Po pc ls (.int y :: .int x :: rest) σ := fun H locs la z1 z2 z3 => lv_icmp_lt hC.1 hC.2.1 hdg ht (fun q => kt q H locs la z1 z2 z3) (fun q => kf q H locs la z1 z2 z3)
theorem n_if_ge (hC : n_C p s m args meth c w cc nL own ret) {x : Int32} {off : Int} {tgt : Nat} (hdg : decode cc pc = .ok (.ifCond .ge off, 3)) (ht : (pc : Int) + off = (tgt : Int)) (kt : 0 ≤ x → n_W p l e s m args below meth c w d Po tgt ls rest σ) (kf : ¬ 0 ≤ x → n_W p l e s m args below meth c w d Po (pc + 3) ls rest σ) : n_W p l e s m args below meth c w d Po pc ls (.int x :: rest) σ := fun H locs la z1 z2 z3 => lv_if_ge hC.1 hC.2.1 hdg ht (fun q => kt q H locs la z1 z2 z3) (fun q => kf q H locs la z1 z2 z3)
theorem n_icmp_ge (hC : n_C p s m args meth c w cc nL own ret) {x y : Int32} {off : Int} {tgt : Nat} (hdg : decode cc pc = .ok (.if_icmp .ge off, 3)) (ht : (pc : Int) + off = (tgt : Int)) (kt : y ≤ x → n_W p l e s m args below meth c w d Po tgt ls rest σ) (kf : ¬ y ≤ x → n_W p l e s m args below meth c w d Po (pc + 3) ls rest σ) : n_W p l e s m args below meth c w d Po pc ls (.int y :: .int x :: rest) σ := fun H locs la z1 z2 z3 => lv_icmp_ge hC.1 hC.2.1 hdg ht (fun q => kt q H locs la z1 z2 z3) (fun q => kf q H locs la z1 z2 z3)
theorem n_if_gt (hC : n_C p s m args meth c w cc nL own ret) {x : Int32} {off : Int} {tgt : Nat} (hdg : decode cc pc = .ok (.ifCond .gt off, 3)) (ht : (pc : Int) + off = (tgt : Int)) (kt : 0 < x → n_W p l e s m args below meth c w d Po tgt ls rest σ) (kf : ¬ 0 < x → n_W p l e s m args below meth c w d Po (pc + 3) ls rest σ) : n_W p l e s m args below meth c w d Po pc ls (.int x :: rest) σ := fun H locs la z1 z2 z3 => lv_if_gt hC.1 hC.2.1 hdg ht (fun q => kt q H locs la z1 z2 z3) (fun q => kf q H locs la z1 z2 z3)
theorem n_icmp_gt (hC : n_C p s m args meth c w cc nL own ret) {x y : Int32} {off : Int} {tgt : Nat} (hdg : decode cc pc = .ok (.if_icmp .gt off, 3)) (ht : (pc : Int) + off = (tgt : Int)) (kt : y < x → n_W p l e s m args below meth c w d Po tgt ls rest σ) (kf : ¬ y < x → n_W p l e s m args below meth c w d Po (pc + 3) ls rest σ) : n_W p l e s m args below meth c w d Po pc ls (.int y :: .int x :: rest) σ := fun H locs la z1 z2 z3 => lv_icmp_gt hC.1 hC.2.1 hdg ht (fun q => kt q H locs la z1 z2 z3) (fun q => kf q H locs la z1 z2 z3)
theorem n_if_le (hC : n_C p s m args meth c w cc nL own ret) {x : Int32} {off : Int} {tgt : Nat} (hdg : decode cc pc = .ok (.ifCond .le off, 3)) (ht : (pc : Int) + off = (tgt : Int)) (kt : x ≤ 0 → n_W p l e s m args below meth c w d Po tgt ls rest σ) (kf : ¬ x ≤ 0 → n_W p l e s m args below meth c w d Po (pc + 3) ls rest σ) : n_W p l e s m args below meth c w d Po pc ls (.int x :: rest) σ := fun H locs la z1 z2 z3 => lv_if_le hC.1 hC.2.1 hdg ht (fun q => kt q H locs la z1 z2 z3) (fun q => kf q H locs la z1 z2 z3)
theorem n_icmp_le (hC : n_C p s m args meth c w cc nL own ret) {x y : Int32} {off : Int} {tgt : Nat} (hdg : decode cc pc = .ok (.if_icmp .le off, 3)) (ht : (pc : Int) + off = (tgt : Int)) (kt : x ≤ y → n_W p l e s m args below meth c w d Po tgt ls rest σ) (kf : ¬ x ≤ y → n_W p l e s m args below meth c w d Po (pc + 3) ls rest σ) : n_W p l e s m args below meth c w d Po pc ls (.int y :: .int x :: rest) σ := fun H locs la z1 z2 z3 => lv_icmp_le hC.1 hC.2.1 hdg ht (fun q => kt q H locs la z1 z2 z3) (fun q => kf q H locs la z1 z2 z3)
theorem n_goto (hC : n_C p s m args meth c w cc nL own ret) {off : Int} {tgt : Nat} (hdg : decode cc pc = .ok (.goto off, 3)) (ht : (pc : Int) + off = (tgt : Int)) (k : n_W p l e s m args below meth c w d Po tgt ls rest σ) : n_W p l e s m args below meth c w d Po pc ls rest σ := fun H locs la z1 z2 z3 => lv_goto hC.1 hC.2.1 hdg ht (k H locs la z1 z2 z3)
theorem n_lookup (hC : n_C p s m args meth c w cc nL own ret) {dflt : Int} {ps : Array (Int × Int)} {len : Nat} {x : Int32} {off : Int} {tgt : Nat} (hdg : decode cc pc = .ok (.lookupswitch dflt ps, len)) (hp : (ps.toList.zip (ps.toList.drop 1)).all (fun (a, next) => a.1 < next.1) = true) (ho : Op.lookupswitch.offset ps.toList dflt x.toInt = off) (ht : (pc : Int) + off = (tgt : Int)) (k : n_W p l e s m args below meth c w d Po tgt ls rest σ) : n_W p l e s m args below meth c w d Po pc ls (.int x :: rest) σ := fun H locs la z1 z2 z3 => lv_lookup hC.1 hC.2.1 hdg hp ho ht (k H locs la z1 z2 z3)
theorem n_tableOut (hC : n_C p s m args meth c w cc nL own ret) {dflt lo hi : Int} {offs : Array Int} {len : Nat} {x : Int32} {tgt : Nat} (hdg : decode cc pc = .ok (.tableswitch dflt lo hi offs, len)) (h : x.toInt < lo ∨ hi < x.toInt) (ht : (pc : Int) + dflt = (tgt : Int)) (k : n_W p l e s m args below meth c w d Po tgt ls rest σ) : n_W p l e s m args below meth c w d Po pc ls (.int x :: rest) σ := fun H locs la z1 z2 z3 => lv_tableOut hC.1 hC.2.1 hdg h ht (k H locs la z1 z2 z3)
theorem n_tableIn (hC : n_C p s m args meth c w cc nL own ret) {dflt lo hi : Int} {offs : Array Int} {len : Nat} {x : Int32} {off : Int} {tgt : Nat} (hdg : decode cc pc = .ok (.tableswitch dflt lo hi offs, len)) (h1 : ¬ x.toInt < lo) (h2 : ¬ hi < x.toInt) (ho : offs[(x.toInt - lo).toNat]? = some off) (ht : (pc : Int) + off = (tgt : Int)) (k : n_W p l e s m args below meth c w d Po tgt ls rest σ) : n_W p l e s m args below meth c w d Po pc ls (.int x :: rest) σ := fun H locs la z1 z2 z3 => lv_tableIn hC.1 hC.2.1 hdg h1 h2 ho ht (k H locs la z1 z2 z3)
theorem n_ifnonnull (hC : n_C p s m args meth c w cc nL own ret) {x : Nat} {off : Int} {tgt : Nat} (hdg : decode cc pc = .ok (.ifnonnull off, 3)) (ht : (pc : Int) + off = (tgt : Int)) (k : n_W p l e s m args below meth c w d Po tgt ls rest σ) : n_W p l e s m args below meth c w d Po pc ls (.ref x :: rest) σ := fun H locs la z1 z2 z3 => lv_ifnonnull hC.1 hC.2.1 hdg ht (k H locs la z1 z2 z3)
theorem n_ifnull (hC : n_C p s m args meth c w cc nL own ret) {x : Nat} {off : Int} (hdg : decode cc pc = .ok (.ifnull off, 3)) (k : n_W p l e s m args below meth c w d Po (pc + 3) ls rest σ) : n_W p l e s m args below meth c w d Po pc ls (.ref x :: rest) σ := fun H locs la z1 z2 z3 => lv_ifnull hC.1 hC.2.1 hdg (k H locs la z1 z2 z3)
theorem n_null (hC : n_C p s m args meth c w cc nL own ret) (hdg : decode cc pc = .ok (.aconst_null, 1)) (k : n_W p l e s m args below meth c w d Po (pc + 1) ls (.null :: rest) σ) : n_W p l e s m args below meth c w d Po pc ls rest σ := fun H locs la z1 z2 z3 => lv_null hC.1 hC.2.1 hdg (k H locs la z1 z2 z3)
theorem n_ifnullN (hC : n_C p s m args meth c w cc nL own ret) {off : Int} {tgt : Nat} (hdg : decode cc pc = .ok (.ifnull off, 3)) (ht : (pc : Int) + off = (tgt : Int)) (k : n_W p l e s m args below meth c w d Po tgt ls rest σ) : n_W p l e s m args below meth c w d Po pc ls (.null :: rest) σ := fun H locs la z1 z2 z3 => lv_ifnullN hC.1 hC.2.1 hdg ht (k H locs la z1 z2 z3)
theorem n_ifnonnullN (hC : n_C p s m args meth c w cc nL own ret) {off : Int} (hdg : decode cc pc = .ok (.ifnonnull off, 3)) (k : n_W p l e s m args below meth c w d Po (pc + 3) ls rest σ) : n_W p l e s m args below meth c w d Po pc ls (.null :: rest) σ := fun H locs la z1 z2 z3 => lv_ifnonnullN hC.1 hC.2.1 hdg (k H locs la z1 z2 z3)
theorem n_aload_nN (hC : n_C p s m args meth c w cc nL own ret) {k : Fin 4} {i : Nat} (hdg : decode cc pc = .ok (.aload_n k, 1)) (hi : (k : Nat) = i) (hl : ls[i]? = some (some (.null))) (k : n_W p l e s m args below meth c w d Po (pc + 1) ls (.null :: rest) σ) : n_W p l e s m args below meth c w d Po pc ls (rest) σ := fun H locs la z1 z2 z3 => lv_aload_nN hC.1 hC.2.1 hdg hi (z1.2.2.2 _ _ hl) (k H locs la z1 z2 z3)
theorem n_aloadN (hC : n_C p s m args meth c w cc nL own ret) {i : Nat} (hdg : decode cc pc = .ok (.aload i, 2)) (hl : ls[i]? = some (some (.null))) (k : n_W p l e s m args below meth c w d Po (pc + 2) ls (.null :: rest) σ) : n_W p l e s m args below meth c w d Po pc ls (rest) σ := fun H locs la z1 z2 z3 => lv_aloadN hC.1 hC.2.1 hdg (z1.2.2.2 _ _ hl) (k H locs la z1 z2 z3)
theorem n_ldc (hC : n_C p s m args meth c w cc nL own ret) {index : Nat} {v : Int32} (hconst : Jvm.Cond.constant own index v ∈ n_tb) (hdg : decode cc pc = .ok (.ldc index, 2)) (k : n_W p l e s m args below meth c w d Po (pc + 2) ls (.int v :: rest) σ) : n_W p l e s m args below meth c w d Po pc ls rest σ := fun H locs la z1 z2 z3 => lv_ldc hC.1 hC.2.1 hC.2.2.2.1 (hC.2.2.2.2.1 _ hconst) hdg (k H locs la z1 z2 z3)
theorem n_ldc2 (hC : n_C p s m args meth c w cc nL own ret) {index : Nat} {v : Int64} (hconst : Jvm.Cond.constantLong own index v ∈ n_tb) (hdg : decode cc pc = .ok (.ldc2_w index, 3)) (k : n_W p l e s m args below meth c w d Po (pc + 3) ls (.long v :: rest) σ) : n_W p l e s m args below meth c w d Po pc ls rest σ := fun H locs la z1 z2 z3 => lv_ldc2 hC.1 hC.2.1 hC.2.2.2.1 (hC.2.2.2.2.1 _ hconst) hdg (k H locs la z1 z2 z3)
theorem n_acmp_eq (hC : n_C p s m args meth c w cc nL own ret) {rx ry : Option Nat} {off : Int} {tgt : Nat} (hdg : decode cc pc = .ok (.if_acmp .eq off, 3)) (ht : (pc : Int) + off = (tgt : Int)) (kt : rx = ry → n_W p l e s m args below meth c w d Po tgt ls rest σ) (kf : ¬ rx = ry → n_W p l e s m args below meth c w d Po (pc + 3) ls rest σ) : n_W p l e s m args below meth c w d Po pc ls (va_rf ry :: va_rf rx :: rest) σ := fun H locs la z1 z2 z3 => lv_acmp_eq hC.1 hC.2.1 hdg ht (fun q => kt q H locs la z1 z2 z3) (fun q => kf q H locs la z1 z2 z3)
theorem n_acmp_ne (hC : n_C p s m args meth c w cc nL own ret) {rx ry : Option Nat} {off : Int} {tgt : Nat} (hdg : decode cc pc = .ok (.if_acmp .ne off, 3)) (ht : (pc : Int) + off = (tgt : Int)) (kt : ¬ rx = ry → n_W p l e s m args below meth c w d Po tgt ls rest σ) (kf : rx = ry → n_W p l e s m args below meth c w d Po (pc + 3) ls rest σ) : n_W p l e s m args below meth c w d Po pc ls (va_rf ry :: va_rf rx :: rest) σ := fun H locs la z1 z2 z3 => lv_acmp_ne hC.1 hC.2.1 hdg ht (fun q => kt q H locs la z1 z2 z3) (fun q => kf q H locs la z1 z2 z3)
theorem n_istore_n (hC : n_C p s m args meth c w cc nL own ret) {k : Fin 4} {i : Nat} {x : Int32} (hdg : decode cc pc = .ok (.istore_n k, 1)) (hi : (k : Nat) = i) (hn : i < ls.length) (kk : n_W p l e s m args below meth c w d Po (pc + 1) (n_st1 ls i (.int x)) rest σ) : n_W p l e s m args below meth c w d Po pc ls (.int x :: rest) σ := fun H locs la z1 z2 z3 => lv_istore_n hC.1 hC.2.1 hdg hi z1.has (by rw [z1.1] at hn; exact hn) rfl (fun la1 h4 => kk H locs la1 (n_has1 z1 h4) z2 z3)
theorem n_istore (hC : n_C p s m args meth c w cc nL own ret) {i : Nat} {x : Int32} (hdg : decode cc pc = .ok (.istore i, 2)) (hn : i < ls.length) (kk : n_W p l e s m args below meth c w d Po (pc + 2) (n_st1 ls i (.int x)) rest σ) : n_W p l e s m args below meth c w d Po pc ls (.int x :: rest) σ := fun H locs la z1 z2 z3 => lv_istore hC.1 hC.2.1 hdg z1.has (by rw [z1.1] at hn; exact hn) rfl (fun la1 h4 => kk H locs la1 (n_has1 z1 h4) z2 z3)
theorem n_lstore_n (hC : n_C p s m args meth c w cc nL own ret) {k : Fin 4} {i : Nat} {x : Int64} (hdg : decode cc pc = .ok (.lstore_n k, 1)) (hi : (k : Nat) = i) (hn : i + 1 < ls.length) (kk : n_W p l e s m args below meth c w d Po (pc + 1) (n_st2 ls i (.long x)) rest σ) : n_W p l e s m args below meth c w d Po pc ls (.long x :: rest) σ := fun H locs la z1 z2 z3 => lv_lstore_n hC.1 hC.2.1 hdg hi z1.has (by rw [z1.1] at hn; exact hn) rfl (fun la1 h4 => kk H locs la1 (n_has2 z1 h4) z2 z3)
theorem n_lstore (hC : n_C p s m args meth c w cc nL own ret) {i : Nat} {x : Int64} (hdg : decode cc pc = .ok (.lstore i, 2)) (hn : i + 1 < ls.length) (kk : n_W p l e s m args below meth c w d Po (pc + 2) (n_st2 ls i (.long x)) rest σ) : n_W p l e s m args below meth c w d Po pc ls (.long x :: rest) σ := fun H locs la z1 z2 z3 => lv_lstore hC.1 hC.2.1 hdg z1.has (by rw [z1.1] at hn; exact hn) rfl (fun la1 h4 => kk H locs la1 (n_has2 z1 h4) z2 z3)
theorem n_astore_n (hC : n_C p s m args meth c w cc nL own ret) {k : Fin 4} {i : Nat} {x : Nat} (hdg : decode cc pc = .ok (.astore_n k, 1)) (hi : (k : Nat) = i) (hn : i < ls.length) (kk : n_W p l e s m args below meth c w d Po (pc + 1) (n_st1 ls i (.ref x)) rest σ) : n_W p l e s m args below meth c w d Po pc ls (.ref x :: rest) σ := fun H locs la z1 z2 z3 => lv_astore_n hC.1 hC.2.1 hdg hi z1.has (by rw [z1.1] at hn; exact hn) rfl (fun la1 h4 => kk H locs la1 (n_has1 z1 h4) z2 z3)
theorem n_astore (hC : n_C p s m args meth c w cc nL own ret) {i : Nat} {x : Nat} (hdg : decode cc pc = .ok (.astore i, 2)) (hn : i < ls.length) (kk : n_W p l e s m args below meth c w d Po (pc + 2) (n_st1 ls i (.ref x)) rest σ) : n_W p l e s m args below meth c w d Po pc ls (.ref x :: rest) σ := fun H locs la z1 z2 z3 => lv_astore hC.1 hC.2.1 hdg z1.has (by rw [z1.1] at hn; exact hn) rfl (fun la1 h4 => kk H locs la1 (n_has1 z1 h4) z2 z3)
theorem n_astore_nN (hC : n_C p s m args meth c w cc nL own ret) {k : Fin 4} {i : Nat} (hdg : decode cc pc = .ok (.astore_n k, 1)) (hi : (k : Nat) = i) (hn : i < ls.length) (kk : n_W p l e s m args below meth c w d Po (pc + 1) (n_st1 ls i (.null)) rest σ) : n_W p l e s m args below meth c w d Po pc ls (.null :: rest) σ := fun H locs la z1 z2 z3 => lv_astore_nN hC.1 hC.2.1 hdg hi z1.has (by rw [z1.1] at hn; exact hn) rfl (fun la1 h4 => kk H locs la1 (n_has1 z1 h4) z2 z3)
theorem n_astoreN (hC : n_C p s m args meth c w cc nL own ret) {i : Nat} (hdg : decode cc pc = .ok (.astore i, 2)) (hn : i < ls.length) (kk : n_W p l e s m args below meth c w d Po (pc + 2) (n_st1 ls i (.null)) rest σ) : n_W p l e s m args below meth c w d Po pc ls (.null :: rest) σ := fun H locs la z1 z2 z3 => lv_astoreN hC.1 hC.2.1 hdg z1.has (by rw [z1.1] at hn; exact hn) rfl (fun la1 h4 => kk H locs la1 (n_has1 z1 h4) z2 z3)
theorem n_iinc (hC : n_C p s m args meth c w cc nL own ret) {i : Nat} {n : Int} {x v : Int32} (hdg : decode cc pc = .ok (.iinc i n, 3)) (hl : ls[i]? = some (some (.int x))) (hv : x + Int32.ofInt n = v) (kk : n_W p l e s m args below meth c w d Po (pc + 3) (n_st1 ls i (.int v)) rest σ) : n_W p l e s m args below meth c w d Po pc ls rest σ := by
  intro H locs la z1 z2 z3
  obtain ⟨k, hk⟩ := List.getElem?_of_mem (n_lv_in hl)
  exact lv_iinc hC.1 hC.2.1 hdg z1.has hk hv (by rw [← z1.1]; exact (List.getElem?_eq_some_iff.mp hl).1) rfl (fun la1 h4 => kk H locs la1 (n_has1 z1 h4) z2 z3)
end NO
end
section
section NH
variable {St : Type} {p : Program} {l : Launch} {e : Env} {s : State} {m : MethodId} {args : Array Value} {below : List Frame} {meth : Method} {c : Code} {w : n_Wd St} {d : Nat} {Po : Option Value → St → Prop} {cc : ByteArray} {nL : Nat} {own : String} {ret : Option FieldType}
variable {pc : Nat} {ls : List (Option Value)} {rest : List Value} {σ : St}
theorem n_one {H : Heap} (h : n_Rep w σ H) {κ i : Nat} (hi : n_cnt w κ i) : va_P (n_D w) (n_cl w) [(n_ad w κ i, n_en w κ i σ)] H := by
  intro k q hk
  cases k with
  | zero => cases hk; exact h κ i hi
  | succ k => simp at hk
theorem n_getf (hC : n_C p s m args meth c w cc nL own ret) {κ i ci index k : Nat} {fs : List Value} {v : Value} {q : vw_C} (hi : n_cnt w κ i) (he : n_en w κ i σ = .inr (ci, fs)) (hc : (n_cl w)[ci]? = some q) (hk : k < q.2.2) (hw : Cond.fieldLink own index (q.2.1 k).1 (q.2.1 k).2.1 (q.2.1 k).2.2.1 ∈ n_tb) (hv : fs[k]? = some v) (hdg : decode cc pc = .ok (.getfield index, 3))
    (kk : n_W p l e s m args below meth c w d Po (pc + 3) ls (v :: rest) σ) : n_W p l e s m args below meth c w d Po pc ls (.ref (n_ad w κ i) :: rest) σ := by
  intro H locs la z1 z2 z3
  exact va_get hC.1 hC.2.1 hC.2.2.2.2.1 (hC.2.2.2.2.2.2.2.2.2.2.1 ci q hc).1 hC.2.2.2.1 hC.2.2.2.2.2.2.2.1 (n_one z2 hi) 0 (by rw [he]; rfl) hc k hk (hC.2.2.2.2.1 _ hw) (fun _ h => h) hv hdg (kk H locs la z1 z2 z3)
theorem n_putf (hC : n_C p s m args meth c w cc nL own ret) {κ i ci index k : Nat} {fs : List Value} {v : Value} {q : vw_C} {ty : FieldType} (σ' : St) (hi : n_cnt w κ i) (he : n_en w κ i σ = .inr (ci, fs)) (hc : (n_cl w)[ci]? = some q) (hk : k < q.2.2) (hw : Cond.fieldLink own index (q.2.1 k).1 (q.2.1 k).2.1 (q.2.1 k).2.2.1 ∈ n_tb) (hl : k < fs.length)
    (hfin : (q.2.1 k).2.2.2 = false) (hty : parseFieldDescriptor (q.2.1 k).2.2.1 = some ty) (hn : narrow ty v = v) (hf : fits ty v = true) (he' : n_en w κ i σ' = .inr (ci, fs.set k v)) (ho : ∀ κ' i', n_cnt w κ' i' → ¬ (κ' = κ ∧ i' = i) → n_en w κ' i' σ' = n_en w κ' i' σ) (hdg : decode cc pc = .ok (.putfield index, 3))
    (kk : n_W p l e s m args below meth c w d Po (pc + 3) ls rest σ') : n_W p l e s m args below meth c w d Po pc ls (v :: .ref (n_ad w κ i) :: rest) σ := by
  intro H locs la z1 z2 z3
  obtain ⟨hx, hb, -, hown, hts, -, -, hK, -, hinj, hcl, -⟩ := hC
  obtain ⟨hin, hnm, ty0, hty0⟩ := hcl ci q hc
  have hap := va_apart (own := own) hts hin ty0 hty0 hnm hK hc
  have hat := z2 κ i hi
  rw [he] at hat
  obtain ⟨r, h1, cell, q1, q2, q3, q4⟩ := hat
  have hr : r = q := Option.some.inj (h1.symm.trans hc)
  subst hr
  obtain ⟨hS, hfc, kC, hkC, hkind⟩ := hK.1 ci _ hc
  obtain ⟨cf, kf, fi, f, hfi, hsl⟩ := hS k hk
  have hlay := hts _ (hin _ (u_in_lay hk))
  unfold u_lay at hlay
  rw [if_neg (by rw [hfin]; decide)] at hlay
  have hst := (u_facts hfc hkC (u_lays hts hin hk) hfi).1
  have h6 := u_store hfc hkC hkind hlay hfi hty hn hf
  refine W.putK hx hb (f := f) ⟨hown, hts _ hw, ⟨_, _, _, hfi⟩, hst⟩ (by rw [q2]; exact h6) q1 q3 (by rw [hsl]; exact k2_hasslot (q4 k hk)) rfl rfl hdg fun H' e1 e2 e3 => ?_
  rw [hsl] at e1 ⊢
  refine kk H' _ la z1 (z2.set hinj hi ?_ e3 ho) (z3.put e2 e3 (n_A.in hi))
  rw [he']
  exact ⟨_, hc, t_OB.to (V := updV (vp_V fs) k v) ⟨_, e1, q2, q3, t_set q4 hap hk v⟩ (fun j _ => vp_updV_set hl v j)⟩
theorem n_iald (hC : n_C p s m args meth c w cc nL own ret) {κ i t0 n : Nat} {cA : ClassId} {f : Nat → Int32} {j : Int32} (hi : n_cnt w κ i) (he : n_en w κ i σ = .inl (cA, n, .inl f)) (ht : (n_ty w)[t0]? = some (cA, .int)) (hin : vp_in j n) (hdg : decode cc pc = .ok (.iaload, 1))
    (kk : n_W p l e s m args below meth c w d Po (pc + 1) ls (.int (f j.toNatClampNeg) :: rest) σ) : n_W p l e s m args below meth c w d Po pc ls (.int j :: .ref (n_ad w κ i) :: rest) σ := by
  intro H locs la z1 z2 z3
  exact va_iald hC.1 hC.2.1 hC.2.2.2.2.2.2.2.1 (n_one z2 hi) 0 t0 (by rw [he]; rfl) ht hin hdg (kk H locs la z1 z2 z3)
theorem n_bald (hC : n_C p s m args meth c w cc nL own ret) {κ i t0 n : Nat} {cA : ClassId} {f : Nat → Int32} {j : Int32} (hi : n_cnt w κ i) (he : n_en w κ i σ = .inl (cA, n, .inl f)) (ht : (n_ty w)[t0]? = some (cA, .byte)) (hin : vp_in j n) (hdg : decode cc pc = .ok (.baload, 1))
    (kk : n_W p l e s m args below meth c w d Po (pc + 1) ls (.int (f j.toNatClampNeg) :: rest) σ) : n_W p l e s m args below meth c w d Po pc ls (.int j :: .ref (n_ad w κ i) :: rest) σ := by
  intro H locs la z1 z2 z3
  exact va_bald hC.1 hC.2.1 hC.2.2.2.2.2.2.2.1 (n_one z2 hi) 0 t0 (by rw [he]; rfl) ht hin hdg (kk H locs la z1 z2 z3)
theorem n_zald (hC : n_C p s m args meth c w cc nL own ret) {κ i t0 n : Nat} {cA : ClassId} {f : Nat → Int32} {j : Int32} (hi : n_cnt w κ i) (he : n_en w κ i σ = .inl (cA, n, .inl f)) (ht : (n_ty w)[t0]? = some (cA, .boolean)) (hin : vp_in j n) (hdg : decode cc pc = .ok (.baload, 1))
    (kk : n_W p l e s m args below meth c w d Po (pc + 1) ls (.int (f j.toNatClampNeg) :: rest) σ) : n_W p l e s m args below meth c w d Po pc ls (.int j :: .ref (n_ad w κ i) :: rest) σ := by
  intro H locs la z1 z2 z3
  exact va_zald hC.1 hC.2.1 hC.2.2.2.2.2.2.2.1 (n_one z2 hi) 0 t0 (by rw [he]; rfl) ht hin hdg (kk H locs la z1 z2 z3)
theorem n_lald (hC : n_C p s m args meth c w cc nL own ret) {κ i t0 n : Nat} {cA : ClassId} {f : Nat → Int64} {j : Int32} (hi : n_cnt w κ i) (he : n_en w κ i σ = .inl (cA, n, .inr (.inl f))) (ht : (n_ty w)[t0]? = some (cA, .long)) (hin : vp_in j n) (hdg : decode cc pc = .ok (.laload, 1))
    (kk : n_W p l e s m args below meth c w d Po (pc + 1) ls (.long (f j.toNatClampNeg) :: rest) σ) : n_W p l e s m args below meth c w d Po pc ls (.int j :: .ref (n_ad w κ i) :: rest) σ := by
  intro H locs la z1 z2 z3
  exact va_lald hC.1 hC.2.1 hC.2.2.2.2.2.2.2.1 (n_one z2 hi) 0 t0 (by rw [he]; rfl) ht hin hdg (kk H locs la z1 z2 z3)
theorem n_aald (hC : n_C p s m args meth c w cc nL own ret) {κ i t0 n : Nat} {cA : ClassId} {C : String} {f : Nat → Option Nat} {j : Int32} (hi : n_cnt w κ i) (he : n_en w κ i σ = .inl (cA, n, .inr (.inr (.inr (.inr f))))) (ht : (n_ty w)[t0]? = some (cA, .object C)) (hin : vp_in j n) (hdg : decode cc pc = .ok (.aaload, 1))
    (kk : n_W p l e s m args below meth c w d Po (pc + 1) ls (va_rf (f j.toNatClampNeg) :: rest) σ) : n_W p l e s m args below meth c w d Po pc ls (.int j :: .ref (n_ad w κ i) :: rest) σ := by
  intro H locs la z1 z2 z3
  exact va_aldq hC.1 hC.2.1 hC.2.2.2.2.2.2.2.1 (n_one z2 hi) 0 t0 (by rw [he]; rfl) ht hin hdg (kk H locs la z1 z2 z3)
theorem n_iast (hC : n_C p s m args meth c w cc nL own ret) {κ i t0 n : Nat} {cA : ClassId} {f : Nat → Int32} {j x : Int32} (σ' : St) (hi : n_cnt w κ i) (he : n_en w κ i σ = .inl (cA, n, .inl f)) (ht : (n_ty w)[t0]? = some (cA, .int)) (hin : vp_in j n)
    (he' : n_en w κ i σ' = .inl (cA, n, .inl (upd f j.toNatClampNeg x))) (ho : ∀ κ' i', n_cnt w κ' i' → ¬ (κ' = κ ∧ i' = i) → n_en w κ' i' σ' = n_en w κ' i' σ) (hdg : decode cc pc = .ok (.iastore, 1))
    (kk : n_W p l e s m args below meth c w d Po (pc + 1) ls rest σ') : n_W p l e s m args below meth c w d Po pc ls (.int x :: .int j :: .ref (n_ad w κ i) :: rest) σ := by
  intro H locs la z1 z2 z3
  have hat := z2 κ i hi
  rw [he] at hat
  refine W.iast hC.1 hC.2.1 hat ((hC.2.2.2.2.2.2.2.1.2 t0 _ ht).1 n (fun j => .int (f j))) (fun q => by cases q) (by show ¬ (j < 0 ∨ (arrV _ _ _).slots.size ≤ _); rw [arrV_size]; exact hin) rfl rfl hdg fun H1 e1 z oq => ?_
  refine kk H1 _ la z1 (z2.set hC.2.2.2.2.2.2.2.2.2.1 hi ?_ oq ho) (z3.put z oq (n_A.in hi))
  rw [he']
  show H1[n_ad w κ i]? = some (vp_cell _ _)
  rw [e1, vp_cell_i, vp_cell_i, arrV_store]
  congr 2
  funext q
  by_cases hq : q = j.toNatClampNeg
  · subst hq
    simp [updV, upd]
  · simp [updV, upd, hq]
theorem n_bast (hC : n_C p s m args meth c w cc nL own ret) {κ i t0 n : Nat} {cA : ClassId} {f : Nat → Int32} {j x : Int32} (σ' : St) (hi : n_cnt w κ i) (he : n_en w κ i σ = .inl (cA, n, .inl f)) (ht : (n_ty w)[t0]? = some (cA, .byte)) (hin : vp_in j n)
    (he' : n_en w κ i σ' = .inl (cA, n, .inl (upd f j.toNatClampNeg (vp_nar .byte x)))) (ho : ∀ κ' i', n_cnt w κ' i' → ¬ (κ' = κ ∧ i' = i) → n_en w κ' i' σ' = n_en w κ' i' σ) (hdg : decode cc pc = .ok (.bastore, 1))
    (kk : n_W p l e s m args below meth c w d Po (pc + 1) ls rest σ') : n_W p l e s m args below meth c w d Po pc ls (.int x :: .int j :: .ref (n_ad w κ i) :: rest) σ := by
  intro H locs la z1 z2 z3
  have hat := z2 κ i hi
  rw [he] at hat
  refine W.bast hC.1 hC.2.1 hat ((hC.2.2.2.2.2.2.2.1.2 t0 _ ht).1 n (fun j => .int (f j))) (fun q => by cases q) (by show ¬ (j < 0 ∨ (arrV _ _ _).slots.size ≤ _); rw [arrV_size]; exact hin) rfl rfl hdg fun H1 e1 z oq => ?_
  refine kk H1 _ la z1 (z2.set hC.2.2.2.2.2.2.2.2.2.1 hi ?_ oq ho) (z3.put z oq (n_A.in hi))
  rw [he']
  show H1[n_ad w κ i]? = some (vp_cell _ _)
  rw [e1, vp_cell_i, vp_cell_i, arrV_store]
  congr 2
  funext q
  by_cases hq : q = j.toNatClampNeg
  · subst hq
    simp [updV, upd]
    rfl
  · simp [updV, upd, hq]
theorem n_zast (hC : n_C p s m args meth c w cc nL own ret) {κ i t0 n : Nat} {cA : ClassId} {f : Nat → Int32} {j x : Int32} (σ' : St) (hi : n_cnt w κ i) (he : n_en w κ i σ = .inl (cA, n, .inl f)) (ht : (n_ty w)[t0]? = some (cA, .boolean)) (hin : vp_in j n)
    (he' : n_en w κ i σ' = .inl (cA, n, .inl (upd f j.toNatClampNeg (vp_nar .boolean x)))) (ho : ∀ κ' i', n_cnt w κ' i' → ¬ (κ' = κ ∧ i' = i) → n_en w κ' i' σ' = n_en w κ' i' σ) (hdg : decode cc pc = .ok (.bastore, 1))
    (kk : n_W p l e s m args below meth c w d Po (pc + 1) ls rest σ') : n_W p l e s m args below meth c w d Po pc ls (.int x :: .int j :: .ref (n_ad w κ i) :: rest) σ := by
  intro H locs la z1 z2 z3
  have hat := z2 κ i hi
  rw [he] at hat
  refine W.zast hC.1 hC.2.1 hat ((hC.2.2.2.2.2.2.2.1.2 t0 _ ht).1 n (fun j => .int (f j))) (fun q => by cases q) (by show ¬ (j < 0 ∨ (arrV _ _ _).slots.size ≤ _); rw [arrV_size]; exact hin) rfl rfl hdg fun H1 e1 z oq => ?_
  refine kk H1 _ la z1 (z2.set hC.2.2.2.2.2.2.2.2.2.1 hi ?_ oq ho) (z3.put z oq (n_A.in hi))
  rw [he']
  show H1[n_ad w κ i]? = some (vp_cell _ _)
  rw [e1, vp_cell_i, vp_cell_i, arrV_store]
  congr 2
  funext q
  by_cases hq : q = j.toNatClampNeg
  · subst hq
    simp [updV, upd]
    rfl
  · simp [updV, upd, hq]
theorem n_iret (hC : n_C p s m args meth c w cc nL own (some .int)) {v : Int32} (hdg : decode cc pc = .ok (.ireturn, 1)) (hP : Po (some (.int v)) σ) : n_W p l e s m args below meth c w d Po pc ls [.int v] σ := by
  intro H locs la z1 z2 z3
  exact W.iret hC.1 hC.2.1 hC.2.2.2.2.2.1 (fun t ht _ => ⟨⟨_, _, rfl, hP, by rw [ht]; exact z2⟩, z3.F ht⟩) z3.2.2 hdg hC.2.2.2.2.2.2.1
theorem n_zret (hC : n_C p s m args meth c w cc nL own (some .boolean)) {v : Int32} (hdg : decode cc pc = .ok (.ireturn, 1)) (hn : narrow .boolean (.int v) = .int v) (hP : Po (some (.int v)) σ) : n_W p l e s m args below meth c w d Po pc ls [.int v] σ := by
  intro H locs la z1 z2 z3
  exact W.zret hC.1 hC.2.1 hC.2.2.2.2.2.1 hn (fun t ht _ => ⟨⟨_, _, rfl, hP, by rw [ht]; exact z2⟩, z3.F ht⟩) z3.2.2 hdg hC.2.2.2.2.2.2.1
theorem n_lret (hC : n_C p s m args meth c w cc nL own (some .long)) {v : Int64} (hdg : decode cc pc = .ok (.lreturn, 1)) (hP : Po (some (.long v)) σ) : n_W p l e s m args below meth c w d Po pc ls [.long v] σ := by
  intro H locs la z1 z2 z3
  exact W.lret hC.1 hC.2.1 hC.2.2.2.2.2.1 (fun t ht _ => ⟨⟨_, _, rfl, hP, by rw [ht]; exact z2⟩, z3.F ht⟩) z3.2.2 hdg hC.2.2.2.2.2.2.1
theorem n_vret (hC : n_C p s m args meth c w cc nL own none) (hdg : decode cc pc = .ok (.return_, 1)) (hP : Po none σ) : n_W p l e s m args below meth c w d Po pc ls [] σ := by
  intro H locs la z1 z2 z3
  exact W.vret hC.1 hC.2.1 hC.2.2.2.2.2.1 (fun t ht _ => ⟨⟨_, _, rfl, hP, by rw [ht]; exact z2⟩, z3.F ht⟩) z3.2.2 hdg hC.2.2.2.2.2.2.1
theorem n_aret {C : String} (hC : n_C p s m args meth c w cc nL own (some (.object C))) {v : Value} (hv : v = .null ∨ ∃ a, v = .ref a) (hdg : decode cc pc = .ok (.areturn, 1)) (hP : Po (some v) σ) : n_W p l e s m args below meth c w d Po pc ls [v] σ := by
  intro H locs la z1 z2 z3
  exact W.aret hC.1 hC.2.1 hC.2.2.2.2.2.1 (Or.inl ⟨_, rfl⟩) hv (fun t ht _ => ⟨⟨_, _, rfl, hP, by rw [ht]; exact z2⟩, z3.F ht⟩) z3.2.2 hdg hC.2.2.2.2.2.2.1
theorem n_blind (av : List Value) (w : n_Wd St) (σ : St) : FrameBlind (va_Pc av (n_U w σ)) := fun a U g mk h => ⟨h.1, h.2.1, va_K.moved (u := U) (U := U.calling g mk a) (Vm.Alike.refl U.vm) h.2.2.1, h.2.2.2.2.2.2 U (U.calling g mk a) _ _ (Vm.Alike.refl U.vm) (fun _ _ _ => rfl) h.2.2.2.1, h.2.2.2.2⟩
theorem n_wsok (hts : ∀ x ∈ n_tb, x.before args s = true) {y : MethodName} {bytes : ByteArray} {maxL : Nat} {ret' : Option FieldType} (hc : Cond.code y bytes maxL ret' ∈ n_tb) : ∀ x ∈ (Cond.code y bytes maxL ret' :: n_tb), ∀ (a' : Array Value) (U : State), s.WarmedH U.vm → x.before a' U = true := by
  intro x hx a' U hW
  have h : x ∈ n_tb := (List.mem_cons.mp hx).elim (fun h => h ▸ hc) id
  exact word_at hW (n_good h).2 (hts x h)
theorem n_callV (hC : n_C p s m args meth c w cc nL own ret) {κ i ci index n d' maxL : Nat} {y : MethodName} {bytes : ByteArray} {ret' : Option FieldType} {fs As : List Value} {q : vw_C} {Po' : Option Value → St → Prop} (hM : n_Ct l w d' y bytes maxL ret' (.ref (n_ad w κ i) :: As) σ Po') (hd : d' + 1 ≤ d) (hmx : maxL ≤ 41)
    (hi : n_cnt w κ i) (he : n_en w κ i σ = .inr (ci, fs)) (hc : (n_cl w)[ci]? = some q) (hq : q.1 = y.cls) (hw : Cond.methodLink own index y ∈ n_tb ∧ Cond.instanceMethod y ∈ n_tb ∧ Cond.selects y.cls y y ∈ n_tb ∧ Cond.initialized y.cls ∈ n_tb ∧ Cond.code y bytes maxL ret' ∈ n_tb)
    (hy : (y.cls ≠ "java/lang/invoke/MethodHandle" ∧ y.cls ≠ "java/lang/invoke/VarHandle") ∧ (parseMethodDescriptor y.desc).map (fun d => d.parameters.length) = some n) (hn : As.length = n) (hr : (rest.map fun v => v.category).sum ≤ 8) (hdg : decode cc pc = .ok (.invokevirtual index, 3))
    (kk : ∀ (rv : Option Value) (σ' : St), Po' rv σ' → n_W p l e s m args below meth c w d Po (pc + 3) ls (rv.toList ++ rest) σ') : n_W p l e s m args below meth c w d Po pc ls (As.reverse ++ .ref (n_ad w κ i) :: rest) σ := by
  intro H locs la z1 z2 z3
  obtain ⟨hx, hb, hml, hown, hts, hrt, hlk, hK, hE, hok⟩ := hC
  have hP := n_one z2 hi
  rw [he] at hP
  have hrv := va_recv hK hP hc (q0 := 0) rfl
  rw [hq] at hrv
  have cw : CallW (n_rm d) s args own y.cls index y bytes maxL ret' (.code y bytes maxL ret' :: n_tb) (n_rm d') 0 0 n := by
    refine ⟨⟨rfl, rfl, hd, ?_, n_wsok hts hw.2.2.2.2, List.mem_cons_self, hts _ hw.2.2.2.2, hts _ hw.2.2.2.1, hy.1, fun sig h => ?_, hts _ hw.1⟩, hts _ hw.2.1, hts _ hw.2.2.1⟩
    · show 8 + (maxL + 11) + 60 * d' ≤ 60 * d
      omega
    · have h2 := hy.2
      rw [h] at h2
      exact (Option.some.inj h2).symm
  have hr0 := va_runV (e := e) (below := below) (meth := meth) (locs := locs) (cells := 0) (slots := 0) (g := F0 m pc la (As.reverse ++ .ref (n_ad w κ i) :: rest)) (rest := rest) (As := As) (b := n_ad w κ i) (H := H) ⟨hx, hb, hml, hown, hts⟩ hM cw
    ⟨n_blind _ w σ, hrv, fun U hU hW => ⟨rfl, by rw [hU]; exact z2, va_K.moved hW.alike hK, hok.2.2 s U s.heap U.heap hW.alike (fun q h1 h2 => by rw [hU]; exact z3.2.1 q h1 h2) hE, hok⟩⟩ rfl hn (z1.2.1.trans hml) rfl (lv_room hr) hdg ⟨Nat.zero_le _, Nat.zero_le _⟩
  intro T hT X
  obtain ⟨v, st0, t, T', L, g0, X', hL, e1, e2, ⟨⟨rv, σ', hv, hp, hrep⟩, hz, hk⟩, st⟩ := hr0 T hT X
  cases hv
  rw [g0] at hz hk
  obtain ⟨t2, a1, b1⟩ := kk _ σ' hp T'.heap (locs ++ L) la z1 (by rw [e1]; exact hrep)
    ⟨Nat.le_trans z3.1 (by rw [e1]; exact hz), fun q h1 h2 => by rw [e1, hk q (Nat.lt_of_lt_of_le h1 z3.1) h2]; exact z3.2.1 q h1 h2, fun q hq => by
      rcases List.mem_append.mp hq with h | h
      · exact z3.2.2 q h
      · exact hL q h⟩ T' rfl X'
  exact ⟨t2, st t2 a1, b1⟩
theorem n_callS (hC : n_C p s m args meth c w cc nL own ret) {index n d' maxL : Nat} {y : MethodName} {bytes : ByteArray} {ret' : Option FieldType} {As : List Value} {Po' : Option Value → St → Prop} (hM : n_Ct l w d' y bytes maxL ret' As σ Po') (hd : d' + 1 ≤ d) (hmx : maxL ≤ 41)
    (hw : Cond.methodLink own index y ∈ n_tb ∧ Cond.static y ∈ n_tb ∧ Cond.initialized y.cls ∈ n_tb ∧ Cond.code y bytes maxL ret' ∈ n_tb)
    (hy : (y.cls ≠ "java/lang/invoke/MethodHandle" ∧ y.cls ≠ "java/lang/invoke/VarHandle") ∧ (parseMethodDescriptor y.desc).map (fun d => d.parameters.length) = some n) (hn : As.length = n) (hr : (rest.map fun v => v.category).sum ≤ 8) (hdg : decode cc pc = .ok (.invokestatic index, 3))
    (kk : ∀ (rv : Option Value) (σ' : St), Po' rv σ' → n_W p l e s m args below meth c w d Po (pc + 3) ls (rv.toList ++ rest) σ') : n_W p l e s m args below meth c w d Po pc ls (As.reverse ++ rest) σ := by
  intro H locs la z1 z2 z3
  obtain ⟨hx, hb, hml, hown, hts, hrt, hlk, hK, hE, hok⟩ := hC
  have cw : CallB (n_rm d) s args own index y bytes maxL ret' (.code y bytes maxL ret' :: n_tb) (n_rm d') 0 0 n ∧ (Cond.static y).before args s = true := by
    refine ⟨⟨rfl, rfl, hd, ?_, n_wsok hts hw.2.2.2, List.mem_cons_self, hts _ hw.2.2.2, hts _ hw.2.2.1, hy.1, fun sig h => ?_, hts _ hw.1⟩, hts _ hw.2.1⟩
    · show 8 + (maxL + 11) + 60 * d' ≤ 60 * d
      omega
    · have h2 := hy.2
      rw [h] at h2
      exact (Option.some.inj h2).symm
  have hr0 := va_runS (e := e) (below := below) (meth := meth) (locs := locs) (cells := 0) (slots := 0) (g := F0 m pc la (As.reverse ++ rest)) (rest := rest) (As := As) (H := H) ⟨hx, hb, hml, hown, hts⟩ hM cw
    ⟨n_blind _ w σ, fun U hU hW => ⟨rfl, by rw [hU]; exact z2, va_K.moved hW.alike hK, hok.2.2 s U s.heap U.heap hW.alike (fun q h1 h2 => by rw [hU]; exact z3.2.1 q h1 h2) hE, hok⟩⟩ rfl hn (z1.2.1.trans hml) rfl (lv_room hr) hdg ⟨Nat.zero_le _, Nat.zero_le _⟩
  intro T hT X
  obtain ⟨v, st0, t, T', L, g0, X', hL, e1, e2, ⟨⟨rv, σ', hv, hp, hrep⟩, hz, hk⟩, st⟩ := hr0 T hT X
  cases hv
  rw [g0] at hz hk
  obtain ⟨t2, a1, b1⟩ := kk _ σ' hp T'.heap (locs ++ L) la z1 (by rw [e1]; exact hrep)
    ⟨Nat.le_trans z3.1 (by rw [e1]; exact hz), fun q h1 h2 => by rw [e1, hk q (Nat.lt_of_lt_of_le h1 z3.1) h2]; exact z3.2.1 q h1 h2, fun q hq => by
      rcases List.mem_append.mp hq with h | h
      · exact z3.2.2 q h
      · exact hL q h⟩ T' rfl X'
  exact ⟨t2, st t2 a1, b1⟩
theorem n_ls0 (nL : Nat) (av : List Value) (h : (lg_sl av).length ≤ nL) : n_ls nL ((lg_sl av ++ List.replicate (nL - (lg_sl av).length) Slot.unset).toArray) (n_l0 nL av) := by
  have key : ∀ (vs : List Value) (b : Nat), (vs.flatMap fun v => if v.category = 2 then [some v, none] else [some v] : List (Option Value)).length = (lg_sl vs).length ∧ ∀ (i : Nat) (v : Value), (vs.flatMap fun v => if v.category = 2 then [some v, none] else [some v] : List (Option Value))[i]? = some (some v) → (lg_sl vs)[i]? = some (.val v) := by
    intro vs b
    induction vs with
    | nil => exact ⟨rfl, fun i v h => by simp at h⟩
    | cons a vs ih =>
      obtain ⟨ih1, ih2⟩ := ih
      unfold lg_sl at ih1 ih2 ⊢
      by_cases hc : a.category = 2
      · refine ⟨by simp [hc, ih1], fun i v h => ?_⟩
        simp only [List.flatMap_cons, hc, if_true] at h ⊢
        match i, h with
        | 0, h => simpa using h
        | 1, h => simp at h
        | i + 2, h => exact ih2 i v h
      · refine ⟨by simp [hc, ih1], fun i v h => ?_⟩
        simp only [List.flatMap_cons, hc, if_false] at h ⊢
        match i, h with
        | 0, h => simpa using h
        | i + 1, h => exact ih2 i v h
  obtain ⟨k1, k2⟩ := key av 0
  have hh := lv_entry av h
  refine ⟨?_, hh.1, hh.2.1, fun i v hi => ?_⟩
  · unfold n_l0
    rw [List.length_append, List.length_replicate, k1]
    omega
  · unfold n_l0 at hi
    by_cases hl : i < (av.flatMap fun v => if v.category = 2 then [some v, none] else [some v] : List (Option Value)).length
    · rw [List.getElem?_append_left hl] at hi
      rw [List.getElem?_toArray, List.getElem?_append_left (by rw [← k1]; exact hl)]
      exact k2 i v hi
    · rw [List.getElem?_append_right (by omega), List.getElem?_replicate] at hi
      split at hi <;> simp at hi
theorem n_ofW {w : n_Wd St} {y : MethodName} {bytes : ByteArray} {maxL : Nat} {ret : Option FieldType} {av : List Value} {σ : St} {Po : Option Value → St → Prop} {d : Nat} (hy : plainName y.cls = true) (hlen : (lg_sl av).length ≤ maxL)
    (body : ∀ (p : Program) (e : Env) (s : State) (m : MethodId) (below : List Frame) (meth : Method) (c : Code), n_C p s m av.toArray meth c w bytes maxL y.cls ret → n_W p l e s m av.toArray below meth c w d Po 0 (n_l0 maxL av) [] σ) : n_Ct l w d y bytes maxL ret av σ Po := by
  refine Met.ofW (cc := bytes) (maxL := maxL) (ret := ret) hy rfl ?_
  intro p e s m args below meth c s₁ B hml hP
  obtain ⟨rfl, hrep, hK, hE, hok⟩ := hP
  have hts := atoms_spec (ws := .code y bytes maxL ret :: n_tb) B.pre
  rw [lg_entry_eq]
  exact body p e s m below meth c ⟨B.exec, B.bytes, hml, findClass_of_methodNamed B.named, fun x hx => hts x (List.mem_cons_of_mem _ hx), B.returns, B.notSynchronized, hK, hE, hok⟩ s.heap [] _ (by rw [hml]; exact n_ls0 maxL av hlen) hrep va_S.rf
end NH
end
section
abbrev n_S : Type := Nat → Nat → Nat → Int32
def n_up (σ : n_S) (κ i k : Nat) (v : Int32) : n_S := fun κ' i' => if κ' = κ ∧ i' = i then upd (σ κ i) k v else σ κ' i'
theorem n_up_at (σ : n_S) (κ i k : Nat) (v : Int32) : n_up σ κ i k v κ i = upd (σ κ i) k v := by simp [n_up]
theorem n_up_ne {σ : n_S} {κ i k κ' i' : Nat} {v : Int32} (h : ¬ (κ' = κ ∧ i' = i)) : n_up σ κ i k v κ' i' = σ κ' i' := by unfold n_up; rw [if_neg h]
def n_tys (ca : Nat → ClassId) : List (ClassId × FieldType) := [(ca 0, .int), (ca 1, .byte), (ca 2, .long), (ca 3, .boolean), (ca 4, .object "ShareMonitor$UserProcess"), (ca 5, .object "ShareMonitor$Program"), (ca 6, .object "ShareMonitor$Row"), (ca 7, .object "ShareMonitor$Op")]
def cw_pg (ad : Nat → Nat → Nat) (x : Int32) : Option Nat := if x = 0 then none else some (ad 28 (x.toNatClampNeg - 1))
def cw_op (ae : Nat → Nat) (x : Int32) : Option Nat := if x = 0 then none else some (ae (x.toNatClampNeg - 1))
def cw_dom (κ i : Nat) : Prop := match κ with
  | 0 => i = 0
  | 1 => i = 0
  | 2 => i = 0
  | 3 => i = 0
  | 4 => i = 0
  | 5 => i = 0
  | 6 => i = 0
  | 7 => i = 0
  | 8 => i = 0
  | 9 => i = 0
  | 10 => i = 0
  | 11 => i = 0
  | 12 => i = 0
  | 13 => i = 0
  | 14 => i = 0
  | 15 => i = 0
  | 16 => i = 0
  | 17 => i = 0
  | 18 => i = 0
  | 19 => i = 0
  | 20 => i = 0
  | 21 => 1 ≤ i ∧ i ≤ 12
  | 22 => 1 ≤ i ∧ i ≤ 12
  | 23 => 1 ≤ i ∧ i ≤ 12
  | 24 => 2 ≤ i ∧ i ≤ 25
  | 25 => False
  | 26 => 2 ≤ i ∧ i ≤ 25
  | 27 => 2 ≤ i ∧ i ≤ 25
  | 28 => i < 12
  | 29 => i < 12
  | 30 => i < 12
  | 31 => i < 11
  | 32 => i < 11
  | _ => False
def cw_eL (ca : Nat → ClassId) (ad : Nat → Nat → Nat) (ae : Nat → Nat) (κ i : Nat) (f : Nat → Int32) : va_E := match κ with
  | 0 => .inr (9, [.ref (ad 1 0), .ref (ad 3 0), .ref (ad 9 0), .ref (ad 20 0)])
  | 1 => .inr (6, [.ref (ad 2 0), .int (f 1)])
  | 2 => .inl (ca 1, 8192, .inl f)
  | 3 => .inr (4, [.ref (ad 1 0), .ref (ad 4 0), .ref (ad 5 0), .ref (ad 6 0), .int (f 4), .ref (ad 7 0), .ref (ad 8 0), .int (f 7), .int (f 8), .int (f 9), .int (f 10)])
  | 4 => .inl (ca 0, 32, .inl f)
  | 5 => .inl (ca 0, 32, .inl f)
  | 6 => .inl (ca 0, 32, .inl f)
  | 7 => .inl (ca 0, 256, .inl f)
  | 8 => .inl (ca 0, 256, .inl f)
  | 9 => .inr (1, [.ref (ad 10 0), .ref (ad 11 0), .ref (ad 12 0), .ref (ad 14 0), .ref (ad 13 0), .ref (ad 15 0), .ref (ad 19 0), .int (f 7), .int (f 8), .int (f 9), .int (f 10)])
  | 10 => .inl (ca 4, 13, .inr (.inr (.inr (.inr (fun j => if j = 0 then none else some (ad 21 j))))))
  | 11 => .inl (ca 5, 12, .inr (.inr (.inr (.inr (fun j => some (ad 28 j))))))
  | 12 => .inl (ca 6, 3, .inr (.inr (.inr (.inr (fun j => some (ad 31 j))))))
  | 13 => .inl (ca 6, 8, .inr (.inr (.inr (.inr (fun j => some (ad 31 (j + 3)))))))
  | 14 => .inl (ca 0, 8, .inl f)
  | 15 => .inr (2, [.ref (ad 16 0), .ref (ad 17 0), .ref (ad 18 0)])
  | 16 => .inl (ca 0, 1024, .inl f)
  | 17 => .inl (ca 0, 1024, .inl f)
  | 18 => .inl (ca 0, 1024, .inl f)
  | 19 => .inl (ca 0, 2000, .inl f)
  | 20 => .inr (8, [.ref (ad 9 0), .int (f 1)])
  | 21 => .inr (7, [.int (nI i), .ref (ad 22 i), .ref (ad 23 i), .ref (ad 24 (2 * i)), .ref (ad 24 (2 * i + 1)), .int (f 5), .int (f 6), .int (f 7), .int (f 8), .int (f 9), .int (f 10), va_rf (cw_pg ad (f 11)), .int (f 12), .int (f 13), .int (f 14), .int (f 15)])
  | 22 => .inl (ca 0, 40, .inl f)
  | 23 => .inl (ca 0, 20, .inl f)
  | 24 => .inr (0, [.ref (ad 26 i), .ref (ad 27 i), .int (f 2)])
  | 26 => .inl (ca 0, 8, .inl f)
  | 27 => .inl (ca 0, 8, .inl f)
  | 28 => .inr (3, [.ref (ad 29 i), .ref (ad 30 i), .int (f 2), .int (f 3)])
  | 29 => .inl (ca 7, 256, .inr (.inr (.inr (.inr (fun j => cw_op ae (f j))))))
  | 30 => .inl (ca 0, 256, .inl f)
  | 31 => .inr (5, [.ref (ad 32 i), .int (f 1)])
  | 32 => .inl (ca 0, 12, .inl f)
  | _ => .inl (ca 0, 0, .inl f)
abbrev cw (D : va_G) (ca : Nat → ClassId) (ad : Nat → Nat → Nat) (ae : Nat → Nat) (Ex : State → Heap → Prop) : n_Wd n_S := (D, n_cls, n_tys ca, cw_dom, ad, fun κ i σ => cw_eL ca ad ae κ i (σ κ i), Ex)
def rw_wo : List Int64 := [6583664, 1685221232, 1937203568, 1870030194, 7499636, 43, 45, 42, 47, 37, 6385252, 28530, 7892850, 7237492, 1818584692, 491394656372, 61, 60, 62, 64, 33, 125780071117422, 418430873443, 1718773093, 1734964837, 1936027236, 1919247222, 2002872692, 1802071148, 1936026726, 465558725996, 521459297380, 495739823472, 1685026670, 30064, 1701669236, 32199616316007801, 1702390132, 1786080624, 2053468783, 1667329132, 495806674798]
def rw_ne : List Int32 := [0, 1, 1, 2, 2, 3, 2, 2, 2, 2, 2, 2, 2, 2, 1, 2, 2, 2, 2, 2, 1, 2, 0, 1, 1, 2, 2, 0, 1, 1, 0, 1, 0, 1, 1, 1, 1, 0, 1, 0, 1, 0, 0]
def rw_dom (κ i : Nat) : Prop := match κ with
  | 0 => i = 0
  | 1 => i = 0
  | 2 => i = 0
  | 3 => False
  | 4 => i = 0
  | 5 => False
  | 6 => False
  | 7 => False
  | 8 => i = 0
  | 9 => i = 0
  | 10 => i = 0
  | 11 => i = 0
  | 12 => i = 0
  | 13 => i = 0
  | 14 => i = 0
  | 15 => False
  | 16 => i = 0
  | 17 => i = 0
  | 18 => False
  | 19 => False
  | 20 => i = 0
  | 21 => i = 0
  | 22 => i = 0
  | 23 => i = 0
  | 24 => i = 0
  | 25 => i = 0
  | 26 => i = 0
  | 27 => i = 0
  | 28 => i = 0
  | 29 => i = 0
  | 30 => i = 0
  | 31 => i = 0
  | 32 => i = 0
  | 33 => i = 0
  | 34 => i = 0
  | 35 => i = 0
  | 36 => i = 0
  | 37 => i = 0
  | 38 => i = 0
  | 39 => i = 0
  | 40 => False
  | 41 => False
  | 42 => i = 0
  | 43 => i = 0
  | 44 => i = 0
  | 45 => i = 0
  | 46 => i = 0
  | 47 => i = 0
  | 48 => i = 0
  | 49 => False
  | 50 => i = 0
  | 51 => False
  | 52 => False
  | 53 => False
  | _ => False
def rw_eL (ca : Nat → ClassId) (ad : Nat → Nat → Nat) (κ : Nat) (f : Nat → Int32) : va_E := match κ with
  | 0 => .inr (10, [.ref (ad 1 0), .ref (ad 2 0), .int (f 2), .ref (ad 4 0), .int (f 4), .int (f 5), .int (f 6), .ref (ad 8 0), .ref (ad 9 0), .ref (ad 10 0), .ref (ad 11 0), .ref (ad 12 0), .ref (ad 13 0), .ref (ad 14 0), .int (f 14), .ref (ad 16 0), .ref (ad 17 0), .int (f 17), .int (f 18), .ref (ad 20 0), .ref (ad 21 0), .ref (ad 22 0), .ref (ad 23 0), .ref (ad 24 0), .ref (ad 25 0), .ref (ad 26 0), .ref (ad 27 0), .ref (ad 28 0), .ref (ad 29 0), .ref (ad 30 0), .ref (ad 31 0), .ref (ad 32 0), .ref (ad 33 0), .ref (ad 34 0), .ref (ad 35 0), .ref (ad 36 0), .ref (ad 37 0), .ref (ad 38 0), .ref (ad 39 0), .int (f 39), .int (f 40), .ref (ad 42 0), .ref (ad 43 0), .ref (ad 44 0), .ref (ad 45 0), .ref (ad 46 0), .ref (ad 47 0), .ref (ad 48 0), .int (f 48), .ref (ad 50 0), .int (f 50), .int (f 51), .int (f 52)])
  | 1 => .inl (ca 2, 42, .inr (.inl (fun j => rw_wo.getD j 0)))
  | 2 => .inl (ca 0, 43, .inl (fun j => rw_ne.getD j 0))
  | 4 => .inl (ca 1, 8192, .inl f)
  | 8 => .inl (ca 0, 3328, .inl f)
  | 9 => .inl (ca 0, 3328, .inl f)
  | 10 => .inl (ca 0, 13, .inl f)
  | 11 => .inl (ca 3, 13, .inl f)
  | 12 => .inl (ca 0, 32, .inl f)
  | 13 => .inl (ca 0, 32, .inl f)
  | 14 => .inl (ca 0, 32, .inl f)
  | 16 => .inl (ca 0, 256, .inl f)
  | 17 => .inl (ca 0, 256, .inl f)
  | 20 => .inl (ca 0, 13, .inl f)
  | 21 => .inl (ca 0, 13, .inl f)
  | 22 => .inl (ca 0, 13, .inl f)
  | 23 => .inl (ca 0, 13, .inl f)
  | 24 => .inl (ca 0, 13, .inl f)
  | 25 => .inl (ca 0, 13, .inl f)
  | 26 => .inl (ca 0, 13, .inl f)
  | 27 => .inl (ca 0, 520, .inl f)
  | 28 => .inl (ca 0, 13, .inl f)
  | 29 => .inl (ca 0, 260, .inl f)
  | 30 => .inl (ca 0, 13, .inl f)
  | 31 => .inl (ca 0, 104, .inl f)
  | 32 => .inl (ca 0, 104, .inl f)
  | 33 => .inl (ca 0, 13, .inl f)
  | 34 => .inl (ca 0, 104, .inl f)
  | 35 => .inl (ca 0, 13, .inl f)
  | 36 => .inl (ca 0, 13, .inl f)
  | 37 => .inl (ca 0, 13, .inl f)
  | 38 => .inl (ca 0, 39, .inl f)
  | 39 => .inl (ca 0, 3, .inl f)
  | 42 => .inl (ca 0, 8, .inl f)
  | 43 => .inl (ca 0, 104, .inl f)
  | 44 => .inl (ca 0, 8, .inl f)
  | 45 => .inl (ca 0, 1024, .inl f)
  | 46 => .inl (ca 0, 1025, .inl f)
  | 47 => .inl (ca 0, 1025, .inl f)
  | 48 => .inl (ca 0, 1025, .inl f)
  | 50 => .inl (ca 0, 2000, .inl f)
  | _ => .inl (ca 0, 0, .inl f)
abbrev rw (D : va_G) (ca : Nat → ClassId) (ad : Nat → Nat → Nat) (Ex : State → Heap → Prop) : n_Wd n_S := (D, n_cls, n_tys ca, rw_dom, ad, fun κ _ σ => rw_eL ca ad κ (σ κ 0), Ex)
end
section
theorem n_a1 {w : Cond} (i : Nat) (h : tables_1_1[i]? = some w) (hg : goodWord w = true) : w ∈ n_tb := n_in (List.mem_append_left _ (List.mem_of_getElem? h)) hg
theorem n_a2 {w : Cond} (i : Nat) (h : tables_1_2[i]? = some w) (hg : goodWord w = true) : w ∈ n_tb := n_in (List.mem_append_right _ (List.mem_append_left _ (List.mem_of_getElem? h))) hg
theorem n_a3 {w : Cond} (i : Nat) (h : tables_1_3[i]? = some w) (hg : goodWord w = true) : w ∈ n_tb := n_in (List.mem_append_right _ (List.mem_append_right _ (List.mem_append_left _ (List.mem_of_getElem? h)))) hg
theorem n_a4 {w : Cond} (i : Nat) (h : tables_1_4[i]? = some w) (hg : goodWord w = true) : w ∈ n_tb := n_in (List.mem_append_right _ (List.mem_append_right _ (List.mem_append_right _ (List.mem_append_left _ (List.mem_of_getElem? h))))) hg
theorem n_a5 {w : Cond} (i : Nat) (h : tables_1_5[i]? = some w) (hg : goodWord w = true) : w ∈ n_tb := n_in (List.mem_append_right _ (List.mem_append_right _ (List.mem_append_right _ (List.mem_append_right _ (List.mem_append_left _ (List.mem_of_getElem? h)))))) hg
theorem n_a6 {w : Cond} (i : Nat) (h : tables_1_6[i]? = some w) (hg : goodWord w = true) : w ∈ n_tb := n_in (List.mem_append_right _ (List.mem_append_right _ (List.mem_append_right _ (List.mem_append_right _ (List.mem_append_right _ (List.mem_append_left _ (List.mem_of_getElem? h))))))) hg
theorem n_a7 {w : Cond} (i : Nat) (h : tables_1_7[i]? = some w) (hg : goodWord w = true) : w ∈ n_tb := n_in (List.mem_append_right _ (List.mem_append_right _ (List.mem_append_right _ (List.mem_append_right _ (List.mem_append_right _ (List.mem_append_right _ (List.mem_append_left _ (List.mem_of_getElem? h)))))))) hg
theorem n_a8 {w : Cond} (i : Nat) (h : tables_1_8[i]? = some w) (hg : goodWord w = true) : w ∈ n_tb := n_in (List.mem_append_right _ (List.mem_append_right _ (List.mem_append_right _ (List.mem_append_right _ (List.mem_append_right _ (List.mem_append_right _ (List.mem_append_right _ (List.mem_of_getElem? h)))))))) hg
theorem wzL : Cond.initialized "ShareMonitorLaw" ∈ n_tb := n_a1 0 (by decide +kernel) rfl
theorem wzX11 : Cond.initialized "ShareMonitor" ∈ n_tb := n_a1 1 (by decide +kernel) rfl
theorem wzX8 : Cond.initialized "ShareMonitor$Tape" ∈ n_tb := n_a1 2 (by decide +kernel) rfl
theorem wzX6 : Cond.initialized "ShareMonitor$Reader" ∈ n_tb := n_a1 3 (by decide +kernel) rfl
theorem wzX2 : Cond.initialized "ShareMonitor$Desk" ∈ n_tb := n_a1 4 (by decide +kernel) rfl
theorem wzX3 : Cond.initialized "ShareMonitor$Memory" ∈ n_tb := n_a1 5 (by decide +kernel) rfl
theorem wzX9 : Cond.initialized "ShareMonitor$UserProcess" ∈ n_tb := n_a1 6 (by decide +kernel) rfl
theorem wzX1 : Cond.initialized "ShareMonitor$Box" ∈ n_tb := n_a1 7 (by decide +kernel) rfl
theorem wzX5 : Cond.initialized "ShareMonitor$Program" ∈ n_tb := n_a1 8 (by decide +kernel) rfl
theorem wzX7 : Cond.initialized "ShareMonitor$Row" ∈ n_tb := n_a1 9 (by decide +kernel) rfl
theorem wzX10 : Cond.initialized "ShareMonitor$Worker" ∈ n_tb := n_a1 10 (by decide +kernel) rfl
theorem wzX12 : Cond.initialized "ShareMonitorModel" ∈ n_tb := n_a1 11 (by decide +kernel) rfl
theorem wzJ9 : Cond.initialized "java/lang/Math" ∈ n_tb := n_a1 18 (by decide +kernel) rfl
theorem wzX4 : Cond.initialized "ShareMonitor$Op" ∈ n_tb := n_a1 20 (by decide +kernel) rfl
theorem wzJ0 : Cond.initialized "java/lang/String" ∈ n_tb := n_a1 21 (by decide +kernel) rfl
theorem wzJ1 : Cond.initialized "java/lang/StringLatin1" ∈ n_tb := n_a1 22 (by decide +kernel) rfl
theorem wzJ3 : Cond.initialized "jdk/internal/util/Preconditions" ∈ n_tb := n_a1 23 (by decide +kernel) rfl
theorem wzJ2 : Cond.initialized "java/lang/StringUTF16" ∈ n_tb := n_a1 24 (by decide +kernel) rfl
theorem wzX0 : Cond.initialized "ShareMonitor$1" ∈ n_tb := n_a1 25 (by decide +kernel) rfl
theorem wzJ7 : Cond.initialized "java/util/Arrays" ∈ n_tb := n_a1 26 (by decide +kernel) rfl
theorem wzJ5 : Cond.initialized "java/lang/AbstractStringBuilder" ∈ n_tb := n_a1 27 (by decide +kernel) rfl
theorem wzJ4 : Cond.initialized "java/lang/StringBuilder" ∈ n_tb := n_a1 28 (by decide +kernel) rfl
theorem wzJ8 : Cond.initialized "jdk/internal/util/ArraysSupport" ∈ n_tb := n_a1 29 (by decide +kernel) rfl
theorem wzJ10 : Cond.initialized "java/lang/System" ∈ n_tb := n_a1 30 (by decide +kernel) rfl
theorem wzJ6 : Cond.initialized "java/lang/Integer" ∈ n_tb := n_a1 31 (by decide +kernel) rfl
theorem wmL_78 : Cond.methodLink "ShareMonitorLaw" 78 yX11_init ∈ n_tb := n_a1 36 (by decide +kernel) rfl
theorem wi_yX11_init : Cond.instanceMethod yX11_init ∈ n_tb := n_a1 37 (by decide +kernel) rfl
set_option maxRecDepth 100000 in
theorem wc_yX11_init : Cond.code yX11_init cX11_init 1 (Option.none : Option Jvm.ClassFile.FieldType) ∈ n_tb := n_a1 38 rfl rfl
theorem wi_yX8_init : Cond.instanceMethod yX8_init ∈ n_tb := n_a1 45 (by decide +kernel) rfl
set_option maxRecDepth 100000 in
theorem wc_yX8_init : Cond.code yX8_init cX8_init 1 (Option.none : Option Jvm.ClassFile.FieldType) ∈ n_tb := n_a1 46 rfl rfl
theorem wfX8_9 : Cond.fieldLink "ShareMonitor$Tape" 9 "ShareMonitor$Tape" "bytes" "[B" ∈ n_tb := n_a1 48 (by decide +kernel) rfl
theorem wfX11_41 : Cond.fieldLink "ShareMonitor" 41 "ShareMonitor$Tape" "length" "I" ∈ n_tb := n_a1 49 (by decide +kernel) rfl
theorem wfX8_15 : Cond.fieldLink "ShareMonitor$Tape" 15 "ShareMonitor$Tape" "length" "I" ∈ n_tb := n_a1 50 (by decide +kernel) rfl
theorem wfX6_60 : Cond.fieldLink "ShareMonitor$Reader" 60 "ShareMonitor$Tape" "length" "I" ∈ n_tb := n_a1 51 (by decide +kernel) rfl
theorem wmX11_18 : Cond.methodLink "ShareMonitor" 18 yX6_init ∈ n_tb := n_a1 60 (by decide +kernel) rfl
theorem wi_yX6_init : Cond.instanceMethod yX6_init ∈ n_tb := n_a1 61 (by decide +kernel) rfl
set_option maxRecDepth 100000 in
theorem wc_yX6_init : Cond.code yX6_init cX6_init 2 (Option.none : Option Jvm.ClassFile.FieldType) ∈ n_tb := n_a1 62 rfl rfl
theorem wfX6_27 : Cond.fieldLink "ShareMonitor$Reader" 27 "ShareMonitor$Reader" "tape" "LShareMonitor$Tape;" ∈ n_tb := n_a1 64 (by decide +kernel) rfl
theorem wfX6_9 : Cond.fieldLink "ShareMonitor$Reader" 9 "ShareMonitor$Reader" "labelPlaces" "[I" ∈ n_tb := n_a1 65 (by decide +kernel) rfl
theorem wfX6_15 : Cond.fieldLink "ShareMonitor$Reader" 15 "ShareMonitor$Reader" "labelSizes" "[I" ∈ n_tb := n_a1 66 (by decide +kernel) rfl
theorem wfX6_18 : Cond.fieldLink "ShareMonitor$Reader" 18 "ShareMonitor$Reader" "labelTargets" "[I" ∈ n_tb := n_a1 67 (by decide +kernel) rfl
theorem wfX6_37 : Cond.fieldLink "ShareMonitor$Reader" 37 "ShareMonitor$Reader" "labels" "I" ∈ n_tb := n_a1 68 (by decide +kernel) rfl
theorem wfX6_21 : Cond.fieldLink "ShareMonitor$Reader" 21 "ShareMonitor$Reader" "namePlaces" "[I" ∈ n_tb := n_a1 69 (by decide +kernel) rfl
theorem wfX6_24 : Cond.fieldLink "ShareMonitor$Reader" 24 "ShareMonitor$Reader" "nameSizes" "[I" ∈ n_tb := n_a1 70 (by decide +kernel) rfl
theorem wfX6_73 : Cond.fieldLink "ShareMonitor$Reader" 73 "ShareMonitor$Reader" "start" "I" ∈ n_tb := n_a1 71 (by decide +kernel) rfl
theorem wfX6_40 : Cond.fieldLink "ShareMonitor$Reader" 40 "ShareMonitor$Reader" "stop" "I" ∈ n_tb := n_a1 72 (by decide +kernel) rfl
theorem wfX6_43 : Cond.fieldLink "ShareMonitor$Reader" 43 "ShareMonitor$Reader" "fault" "I" ∈ n_tb := n_a1 73 (by decide +kernel) rfl
theorem wfX11_80 : Cond.fieldLink "ShareMonitor" 80 "ShareMonitor$Reader" "fault" "I" ∈ n_tb := n_a1 74 (by decide +kernel) rfl
theorem wfX6_46 : Cond.fieldLink "ShareMonitor$Reader" 46 "ShareMonitor$Reader" "faultPlace" "I" ∈ n_tb := n_a1 75 (by decide +kernel) rfl
theorem wfX11_83 : Cond.fieldLink "ShareMonitor" 83 "ShareMonitor$Reader" "faultPlace" "I" ∈ n_tb := n_a1 76 (by decide +kernel) rfl
theorem wmX11_27 : Cond.methodLink "ShareMonitor" 27 yX2_init ∈ n_tb := n_a1 103 (by decide +kernel) rfl
theorem wi_yX2_init : Cond.instanceMethod yX2_init ∈ n_tb := n_a1 104 (by decide +kernel) rfl
set_option maxRecDepth 100000 in
theorem wc_yX2_init : Cond.code yX2_init cX2_init 2 (Option.none : Option Jvm.ClassFile.FieldType) ∈ n_tb := n_a1 105 rfl rfl
theorem wmX2_38 : Cond.methodLink "ShareMonitor$Desk" 38 yX3_init ∈ n_tb := n_a1 115 (by decide +kernel) rfl
theorem wi_yX3_init : Cond.instanceMethod yX3_init ∈ n_tb := n_a1 116 (by decide +kernel) rfl
set_option maxRecDepth 100000 in
theorem wc_yX3_init : Cond.code yX3_init cX3_init 1 (Option.none : Option Jvm.ClassFile.FieldType) ∈ n_tb := n_a1 117 rfl rfl
theorem wfX3_9 : Cond.fieldLink "ShareMonitor$Memory" 9 "ShareMonitor$Memory" "cells" "[I" ∈ n_tb := n_a1 119 (by decide +kernel) rfl
theorem wfX10_217 : Cond.fieldLink "ShareMonitor$Worker" 217 "ShareMonitor$Memory" "cells" "[I" ∈ n_tb := n_a1 120 (by decide +kernel) rfl
theorem wfX11_222 : Cond.fieldLink "ShareMonitor" 222 "ShareMonitor$Memory" "cells" "[I" ∈ n_tb := n_a1 121 (by decide +kernel) rfl
theorem wfX3_15 : Cond.fieldLink "ShareMonitor$Memory" 15 "ShareMonitor$Memory" "holders" "[I" ∈ n_tb := n_a1 122 (by decide +kernel) rfl
theorem wfX11_233 : Cond.fieldLink "ShareMonitor" 233 "ShareMonitor$Memory" "holders" "[I" ∈ n_tb := n_a1 123 (by decide +kernel) rfl
theorem wfX3_18 : Cond.fieldLink "ShareMonitor$Memory" 18 "ShareMonitor$Memory" "sizes" "[I" ∈ n_tb := n_a1 124 (by decide +kernel) rfl
theorem wfX11_230 : Cond.fieldLink "ShareMonitor" 230 "ShareMonitor$Memory" "sizes" "[I" ∈ n_tb := n_a1 125 (by decide +kernel) rfl
theorem wmX2_51 : Cond.methodLink "ShareMonitor$Desk" 51 yX9_init ∈ n_tb := n_a1 135 (by decide +kernel) rfl
theorem wi_yX9_init : Cond.instanceMethod yX9_init ∈ n_tb := n_a1 136 (by decide +kernel) rfl
set_option maxRecDepth 100000 in
theorem wc_yX9_init : Cond.code yX9_init cX9_init 2 (Option.none : Option Jvm.ClassFile.FieldType) ∈ n_tb := n_a1 137 rfl rfl
theorem wi_yX1_init : Cond.instanceMethod yX1_init ∈ n_tb := n_a1 142 (by decide +kernel) rfl
set_option maxRecDepth 100000 in
theorem wc_yX1_init : Cond.code yX1_init cX1_init 1 (Option.none : Option Jvm.ClassFile.FieldType) ∈ n_tb := n_a1 143 rfl rfl
theorem wfX1_9 : Cond.fieldLink "ShareMonitor$Box" 9 "ShareMonitor$Box" "numbers" "[I" ∈ n_tb := n_a1 145 (by decide +kernel) rfl
theorem wfX11_207 : Cond.fieldLink "ShareMonitor" 207 "ShareMonitor$Box" "numbers" "[I" ∈ n_tb := n_a1 146 (by decide +kernel) rfl
theorem wfX10_249 : Cond.fieldLink "ShareMonitor$Worker" 249 "ShareMonitor$Box" "numbers" "[I" ∈ n_tb := n_a1 147 (by decide +kernel) rfl
theorem wfX1_15 : Cond.fieldLink "ShareMonitor$Box" 15 "ShareMonitor$Box" "senders" "[I" ∈ n_tb := n_a1 148 (by decide +kernel) rfl
theorem wfX11_204 : Cond.fieldLink "ShareMonitor" 204 "ShareMonitor$Box" "senders" "[I" ∈ n_tb := n_a1 149 (by decide +kernel) rfl
theorem wfX10_252 : Cond.fieldLink "ShareMonitor$Worker" 252 "ShareMonitor$Box" "senders" "[I" ∈ n_tb := n_a1 150 (by decide +kernel) rfl
theorem wfX1_18 : Cond.fieldLink "ShareMonitor$Box" 18 "ShareMonitor$Box" "size" "I" ∈ n_tb := n_a1 151 (by decide +kernel) rfl
theorem wfX10_96 : Cond.fieldLink "ShareMonitor$Worker" 96 "ShareMonitor$Box" "size" "I" ∈ n_tb := n_a1 152 (by decide +kernel) rfl
theorem wfX9_58 : Cond.fieldLink "ShareMonitor$UserProcess" 58 "ShareMonitor$Box" "size" "I" ∈ n_tb := n_a1 153 (by decide +kernel) rfl
theorem wfX11_174 : Cond.fieldLink "ShareMonitor" 174 "ShareMonitor$Box" "size" "I" ∈ n_tb := n_a1 154 (by decide +kernel) rfl
theorem wfX9_28 : Cond.fieldLink "ShareMonitor$UserProcess" 28 "ShareMonitor$UserProcess" "number" "I" ∈ n_tb := n_a1 162 (by decide +kernel) rfl
theorem wfX10_51 : Cond.fieldLink "ShareMonitor$Worker" 51 "ShareMonitor$UserProcess" "number" "I" ∈ n_tb := n_a1 163 (by decide +kernel) rfl
theorem wfX2_63 : Cond.fieldLink "ShareMonitor$Desk" 63 "ShareMonitor$UserProcess" "number" "I" ∈ n_tb := n_a1 164 (by decide +kernel) rfl
theorem wfX11_90 : Cond.fieldLink "ShareMonitor" 90 "ShareMonitor$UserProcess" "number" "I" ∈ n_tb := n_a1 165 (by decide +kernel) rfl
theorem wfX9_9 : Cond.fieldLink "ShareMonitor$UserProcess" 9 "ShareMonitor$UserProcess" "numbers" "[I" ∈ n_tb := n_a1 166 (by decide +kernel) rfl
theorem wfX11_198 : Cond.fieldLink "ShareMonitor" 198 "ShareMonitor$UserProcess" "numbers" "[I" ∈ n_tb := n_a1 167 (by decide +kernel) rfl
theorem wfX9_15 : Cond.fieldLink "ShareMonitor$UserProcess" 15 "ShareMonitor$UserProcess" "returns" "[I" ∈ n_tb := n_a1 168 (by decide +kernel) rfl
theorem wfX10_204 : Cond.fieldLink "ShareMonitor$Worker" 204 "ShareMonitor$UserProcess" "returns" "[I" ∈ n_tb := n_a1 169 (by decide +kernel) rfl
theorem wfX9_21 : Cond.fieldLink "ShareMonitor$UserProcess" 21 "ShareMonitor$UserProcess" "box" "LShareMonitor$Box;" ∈ n_tb := n_a1 170 (by decide +kernel) rfl
theorem wfX10_92 : Cond.fieldLink "ShareMonitor$Worker" 92 "ShareMonitor$UserProcess" "box" "LShareMonitor$Box;" ∈ n_tb := n_a1 171 (by decide +kernel) rfl
theorem wfX2_95 : Cond.fieldLink "ShareMonitor$Desk" 95 "ShareMonitor$UserProcess" "box" "LShareMonitor$Box;" ∈ n_tb := n_a1 172 (by decide +kernel) rfl
theorem wfX11_171 : Cond.fieldLink "ShareMonitor" 171 "ShareMonitor$UserProcess" "box" "LShareMonitor$Box;" ∈ n_tb := n_a1 173 (by decide +kernel) rfl
theorem wfX9_25 : Cond.fieldLink "ShareMonitor$UserProcess" 25 "ShareMonitor$UserProcess" "keys" "LShareMonitor$Box;" ∈ n_tb := n_a1 174 (by decide +kernel) rfl
theorem wfX10_108 : Cond.fieldLink "ShareMonitor$Worker" 108 "ShareMonitor$UserProcess" "keys" "LShareMonitor$Box;" ∈ n_tb := n_a1 175 (by decide +kernel) rfl
theorem wfX11_139 : Cond.fieldLink "ShareMonitor" 139 "ShareMonitor$UserProcess" "keys" "LShareMonitor$Box;" ∈ n_tb := n_a1 176 (by decide +kernel) rfl
theorem wfX10_73 : Cond.fieldLink "ShareMonitor$Worker" 73 "ShareMonitor$UserProcess" "depth" "I" ∈ n_tb := n_a1 177 (by decide +kernel) rfl
theorem wfX9_52 : Cond.fieldLink "ShareMonitor$UserProcess" 52 "ShareMonitor$UserProcess" "depth" "I" ∈ n_tb := n_a1 178 (by decide +kernel) rfl
theorem wfX11_165 : Cond.fieldLink "ShareMonitor" 165 "ShareMonitor$UserProcess" "depth" "I" ∈ n_tb := n_a1 179 (by decide +kernel) rfl
theorem wfX9_55 : Cond.fieldLink "ShareMonitor$UserProcess" 55 "ShareMonitor$UserProcess" "returnDepth" "I" ∈ n_tb := n_a1 180 (by decide +kernel) rfl
theorem wfX10_201 : Cond.fieldLink "ShareMonitor$Worker" 201 "ShareMonitor$UserProcess" "returnDepth" "I" ∈ n_tb := n_a1 181 (by decide +kernel) rfl
theorem wfX11_168 : Cond.fieldLink "ShareMonitor" 168 "ShareMonitor$UserProcess" "returnDepth" "I" ∈ n_tb := n_a1 182 (by decide +kernel) rfl
theorem wfX9_32 : Cond.fieldLink "ShareMonitor$UserProcess" 32 "ShareMonitor$UserProcess" "status" "I" ∈ n_tb := n_a1 183 (by decide +kernel) rfl
theorem wfX2_66 : Cond.fieldLink "ShareMonitor$Desk" 66 "ShareMonitor$UserProcess" "status" "I" ∈ n_tb := n_a1 184 (by decide +kernel) rfl
theorem wfX11_120 : Cond.fieldLink "ShareMonitor" 120 "ShareMonitor$UserProcess" "status" "I" ∈ n_tb := n_a1 185 (by decide +kernel) rfl
theorem wfX9_71 : Cond.fieldLink "ShareMonitor$UserProcess" 71 "ShareMonitor$UserProcess" "code" "I" ∈ n_tb := n_a1 186 (by decide +kernel) rfl
theorem wfX11_131 : Cond.fieldLink "ShareMonitor" 131 "ShareMonitor$UserProcess" "code" "I" ∈ n_tb := n_a1 187 (by decide +kernel) rfl
theorem wfX2_121 : Cond.fieldLink "ShareMonitor$Desk" 121 "ShareMonitor$UserProcess" "code" "I" ∈ n_tb := n_a1 188 (by decide +kernel) rfl
theorem wfX10_286 : Cond.fieldLink "ShareMonitor$Worker" 286 "ShareMonitor$UserProcess" "code" "I" ∈ n_tb := n_a1 189 (by decide +kernel) rfl
theorem wfX10_67 : Cond.fieldLink "ShareMonitor$Worker" 67 "ShareMonitor$UserProcess" "level" "I" ∈ n_tb := n_a1 190 (by decide +kernel) rfl
theorem wfX2_76 : Cond.fieldLink "ShareMonitor$Desk" 76 "ShareMonitor$UserProcess" "level" "I" ∈ n_tb := n_a1 191 (by decide +kernel) rfl
theorem wfX9_74 : Cond.fieldLink "ShareMonitor$UserProcess" 74 "ShareMonitor$UserProcess" "level" "I" ∈ n_tb := n_a1 192 (by decide +kernel) rfl
theorem wfX11_159 : Cond.fieldLink "ShareMonitor" 159 "ShareMonitor$UserProcess" "level" "I" ∈ n_tb := n_a1 193 (by decide +kernel) rfl
theorem wfX2_60 : Cond.fieldLink "ShareMonitor$Desk" 60 "ShareMonitor$UserProcess" "parent" "I" ∈ n_tb := n_a1 194 (by decide +kernel) rfl
theorem wfX9_77 : Cond.fieldLink "ShareMonitor$UserProcess" 77 "ShareMonitor$UserProcess" "parent" "I" ∈ n_tb := n_a1 195 (by decide +kernel) rfl
theorem wfX11_123 : Cond.fieldLink "ShareMonitor" 123 "ShareMonitor$UserProcess" "parent" "I" ∈ n_tb := n_a1 196 (by decide +kernel) rfl
theorem wfX10_283 : Cond.fieldLink "ShareMonitor$Worker" 283 "ShareMonitor$UserProcess" "parent" "I" ∈ n_tb := n_a1 197 (by decide +kernel) rfl
theorem wfX9_35 : Cond.fieldLink "ShareMonitor$UserProcess" 35 "ShareMonitor$UserProcess" "program" "LShareMonitor$Program;" ∈ n_tb := n_a1 198 (by decide +kernel) rfl
theorem wfX2_72 : Cond.fieldLink "ShareMonitor$Desk" 72 "ShareMonitor$UserProcess" "program" "LShareMonitor$Program;" ∈ n_tb := n_a1 199 (by decide +kernel) rfl
theorem wfX10_275 : Cond.fieldLink "ShareMonitor$Worker" 275 "ShareMonitor$UserProcess" "program" "LShareMonitor$Program;" ∈ n_tb := n_a1 200 (by decide +kernel) rfl
theorem wfX9_39 : Cond.fieldLink "ShareMonitor$UserProcess" 39 "ShareMonitor$UserProcess" "next" "I" ∈ n_tb := n_a1 201 (by decide +kernel) rfl
theorem wfX10_128 : Cond.fieldLink "ShareMonitor$Worker" 128 "ShareMonitor$UserProcess" "next" "I" ∈ n_tb := n_a1 202 (by decide +kernel) rfl
theorem wfX11_162 : Cond.fieldLink "ShareMonitor" 162 "ShareMonitor$UserProcess" "next" "I" ∈ n_tb := n_a1 203 (by decide +kernel) rfl
theorem wfX10_61 : Cond.fieldLink "ShareMonitor$Worker" 61 "ShareMonitor$UserProcess" "done" "I" ∈ n_tb := n_a1 204 (by decide +kernel) rfl
theorem wfX9_80 : Cond.fieldLink "ShareMonitor$UserProcess" 80 "ShareMonitor$UserProcess" "done" "I" ∈ n_tb := n_a1 205 (by decide +kernel) rfl
theorem wfX11_187 : Cond.fieldLink "ShareMonitor" 187 "ShareMonitor$UserProcess" "done" "I" ∈ n_tb := n_a1 206 (by decide +kernel) rfl
theorem wfX10_64 : Cond.fieldLink "ShareMonitor$Worker" 64 "ShareMonitor$UserProcess" "streak" "I" ∈ n_tb := n_a1 207 (by decide +kernel) rfl
theorem wfX2_86 : Cond.fieldLink "ShareMonitor$Desk" 86 "ShareMonitor$UserProcess" "streak" "I" ∈ n_tb := n_a1 208 (by decide +kernel) rfl
theorem wfX9_59 : Cond.fieldLink "ShareMonitor$UserProcess" 59 "ShareMonitor$UserProcess" "streak" "I" ∈ n_tb := n_a1 209 (by decide +kernel) rfl
theorem wfX11_193 : Cond.fieldLink "ShareMonitor" 193 "ShareMonitor$UserProcess" "streak" "I" ∈ n_tb := n_a1 210 (by decide +kernel) rfl
theorem wfX2_83 : Cond.fieldLink "ShareMonitor$Desk" 83 "ShareMonitor$UserProcess" "awaited" "I" ∈ n_tb := n_a1 211 (by decide +kernel) rfl
theorem wfX9_62 : Cond.fieldLink "ShareMonitor$UserProcess" 62 "ShareMonitor$UserProcess" "awaited" "I" ∈ n_tb := n_a1 212 (by decide +kernel) rfl
theorem wfX11_190 : Cond.fieldLink "ShareMonitor" 190 "ShareMonitor$UserProcess" "awaited" "I" ∈ n_tb := n_a1 213 (by decide +kernel) rfl
theorem wi_yX5_init : Cond.instanceMethod yX5_init ∈ n_tb := n_a2 9 (by decide +kernel) rfl
set_option maxRecDepth 100000 in
theorem wc_yX5_init : Cond.code yX5_init cX5_init 1 (Option.none : Option Jvm.ClassFile.FieldType) ∈ n_tb := n_a2 10 rfl rfl
theorem wfX5_11 : Cond.fieldLink "ShareMonitor$Program" 11 "ShareMonitor$Program" "ops" "[LShareMonitor$Op;" ∈ n_tb := n_a2 14 (by decide +kernel) rfl
theorem wfX9_47 : Cond.fieldLink "ShareMonitor$UserProcess" 47 "ShareMonitor$Program" "ops" "[LShareMonitor$Op;" ∈ n_tb := n_a2 15 (by decide +kernel) rfl
theorem wfX6_117 : Cond.fieldLink "ShareMonitor$Reader" 117 "ShareMonitor$Program" "ops" "[LShareMonitor$Op;" ∈ n_tb := n_a2 16 (by decide +kernel) rfl
theorem wfX5_17 : Cond.fieldLink "ShareMonitor$Program" 17 "ShareMonitor$Program" "numbers" "[I" ∈ n_tb := n_a2 17 (by decide +kernel) rfl
theorem wfX9_51 : Cond.fieldLink "ShareMonitor$UserProcess" 51 "ShareMonitor$Program" "numbers" "[I" ∈ n_tb := n_a2 18 (by decide +kernel) rfl
theorem wfX6_121 : Cond.fieldLink "ShareMonitor$Reader" 121 "ShareMonitor$Program" "numbers" "[I" ∈ n_tb := n_a2 19 (by decide +kernel) rfl
theorem wfX6_31 : Cond.fieldLink "ShareMonitor$Reader" 31 "ShareMonitor$Program" "size" "I" ∈ n_tb := n_a2 20 (by decide +kernel) rfl
theorem wfX9_42 : Cond.fieldLink "ShareMonitor$UserProcess" 42 "ShareMonitor$Program" "size" "I" ∈ n_tb := n_a2 21 (by decide +kernel) rfl
theorem wfX2_149 : Cond.fieldLink "ShareMonitor$Desk" 149 "ShareMonitor$Program" "size" "I" ∈ n_tb := n_a2 22 (by decide +kernel) rfl
theorem wfX2_69 : Cond.fieldLink "ShareMonitor$Desk" 69 "ShareMonitor$Program" "users" "I" ∈ n_tb := n_a2 23 (by decide +kernel) rfl
theorem wfX9_68 : Cond.fieldLink "ShareMonitor$UserProcess" 68 "ShareMonitor$Program" "users" "I" ∈ n_tb := n_a2 24 (by decide +kernel) rfl
theorem wi_yX7_init : Cond.instanceMethod yX7_init ∈ n_tb := n_a2 36 (by decide +kernel) rfl
set_option maxRecDepth 100000 in
theorem wc_yX7_init : Cond.code yX7_init cX7_init 1 (Option.none : Option Jvm.ClassFile.FieldType) ∈ n_tb := n_a2 37 rfl rfl
theorem wfX7_9 : Cond.fieldLink "ShareMonitor$Row" 9 "ShareMonitor$Row" "members" "[I" ∈ n_tb := n_a2 39 (by decide +kernel) rfl
theorem wfX11_217 : Cond.fieldLink "ShareMonitor" 217 "ShareMonitor$Row" "members" "[I" ∈ n_tb := n_a2 40 (by decide +kernel) rfl
theorem wfX7_15 : Cond.fieldLink "ShareMonitor$Row" 15 "ShareMonitor$Row" "size" "I" ∈ n_tb := n_a2 41 (by decide +kernel) rfl
theorem wfX2_142 : Cond.fieldLink "ShareMonitor$Desk" 142 "ShareMonitor$Row" "size" "I" ∈ n_tb := n_a2 42 (by decide +kernel) rfl
theorem wfX11_212 : Cond.fieldLink "ShareMonitor" 212 "ShareMonitor$Row" "size" "I" ∈ n_tb := n_a2 43 (by decide +kernel) rfl
theorem wfX2_11 : Cond.fieldLink "ShareMonitor$Desk" 11 "ShareMonitor$Desk" "processes" "[LShareMonitor$UserProcess;" ∈ n_tb := n_a2 49 (by decide +kernel) rfl
theorem wfX2_19 : Cond.fieldLink "ShareMonitor$Desk" 19 "ShareMonitor$Desk" "programs" "[LShareMonitor$Program;" ∈ n_tb := n_a2 50 (by decide +kernel) rfl
theorem wfX2_25 : Cond.fieldLink "ShareMonitor$Desk" 25 "ShareMonitor$Desk" "rows" "[LShareMonitor$Row;" ∈ n_tb := n_a2 51 (by decide +kernel) rfl
theorem wfX11_208 : Cond.fieldLink "ShareMonitor" 208 "ShareMonitor$Desk" "rows" "[LShareMonitor$Row;" ∈ n_tb := n_a2 52 (by decide +kernel) rfl
theorem wfX2_29 : Cond.fieldLink "ShareMonitor$Desk" 29 "ShareMonitor$Desk" "values" "[I" ∈ n_tb := n_a2 53 (by decide +kernel) rfl
theorem wfX11_241 : Cond.fieldLink "ShareMonitor" 241 "ShareMonitor$Desk" "values" "[I" ∈ n_tb := n_a2 54 (by decide +kernel) rfl
theorem wfX10_326 : Cond.fieldLink "ShareMonitor$Worker" 326 "ShareMonitor$Desk" "values" "[I" ∈ n_tb := n_a2 55 (by decide +kernel) rfl
theorem wfX2_33 : Cond.fieldLink "ShareMonitor$Desk" 33 "ShareMonitor$Desk" "queues" "[LShareMonitor$Row;" ∈ n_tb := n_a2 56 (by decide +kernel) rfl
theorem wfX11_236 : Cond.fieldLink "ShareMonitor" 236 "ShareMonitor$Desk" "queues" "[LShareMonitor$Row;" ∈ n_tb := n_a2 57 (by decide +kernel) rfl
theorem wfX10_310 : Cond.fieldLink "ShareMonitor$Worker" 310 "ShareMonitor$Desk" "queues" "[LShareMonitor$Row;" ∈ n_tb := n_a2 58 (by decide +kernel) rfl
theorem wfX2_39 : Cond.fieldLink "ShareMonitor$Desk" 39 "ShareMonitor$Desk" "memory" "LShareMonitor$Memory;" ∈ n_tb := n_a2 59 (by decide +kernel) rfl
theorem wfX10_207 : Cond.fieldLink "ShareMonitor$Worker" 207 "ShareMonitor$Desk" "memory" "LShareMonitor$Memory;" ∈ n_tb := n_a2 60 (by decide +kernel) rfl
theorem wfX11_177 : Cond.fieldLink "ShareMonitor" 177 "ShareMonitor$Desk" "memory" "LShareMonitor$Memory;" ∈ n_tb := n_a2 61 (by decide +kernel) rfl
theorem wfX2_43 : Cond.fieldLink "ShareMonitor$Desk" 43 "ShareMonitor$Desk" "console" "[I" ∈ n_tb := n_a2 62 (by decide +kernel) rfl
theorem wfX11_249 : Cond.fieldLink "ShareMonitor" 249 "ShareMonitor$Desk" "console" "[I" ∈ n_tb := n_a2 63 (by decide +kernel) rfl
theorem wfX2_105 : Cond.fieldLink "ShareMonitor$Desk" 105 "ShareMonitor$Desk" "shown" "I" ∈ n_tb := n_a2 64 (by decide +kernel) rfl
theorem wfX11_244 : Cond.fieldLink "ShareMonitor" 244 "ShareMonitor$Desk" "shown" "I" ∈ n_tb := n_a2 65 (by decide +kernel) rfl
theorem wfX2_108 : Cond.fieldLink "ShareMonitor$Desk" 108 "ShareMonitor$Desk" "lost" "I" ∈ n_tb := n_a2 66 (by decide +kernel) rfl
theorem wfX11_257 : Cond.fieldLink "ShareMonitor" 257 "ShareMonitor$Desk" "lost" "I" ∈ n_tb := n_a2 67 (by decide +kernel) rfl
theorem wfX10_19 : Cond.fieldLink "ShareMonitor$Worker" 19 "ShareMonitor$Desk" "clock" "I" ∈ n_tb := n_a2 68 (by decide +kernel) rfl
theorem wfX2_124 : Cond.fieldLink "ShareMonitor$Desk" 124 "ShareMonitor$Desk" "clock" "I" ∈ n_tb := n_a2 69 (by decide +kernel) rfl
theorem wfX11_254 : Cond.fieldLink "ShareMonitor" 254 "ShareMonitor$Desk" "clock" "I" ∈ n_tb := n_a2 70 (by decide +kernel) rfl
theorem wfX2_47 : Cond.fieldLink "ShareMonitor$Desk" 47 "ShareMonitor$Desk" "soonest" "I" ∈ n_tb := n_a2 71 (by decide +kernel) rfl
theorem wfX10_24 : Cond.fieldLink "ShareMonitor$Worker" 24 "ShareMonitor$Desk" "soonest" "I" ∈ n_tb := n_a2 72 (by decide +kernel) rfl
theorem wmX11_34 : Cond.methodLink "ShareMonitor" 34 yX10_init ∈ n_tb := n_a2 98 (by decide +kernel) rfl
theorem wi_yX10_init : Cond.instanceMethod yX10_init ∈ n_tb := n_a2 99 (by decide +kernel) rfl
set_option maxRecDepth 100000 in
theorem wc_yX10_init : Cond.code yX10_init cX10_init 2 (Option.none : Option Jvm.ClassFile.FieldType) ∈ n_tb := n_a2 100 rfl rfl
theorem wfX10_15 : Cond.fieldLink "ShareMonitor$Worker" 15 "ShareMonitor$Worker" "desk" "LShareMonitor$Desk;" ∈ n_tb := n_a2 102 (by decide +kernel) rfl
theorem wfX10_9 : Cond.fieldLink "ShareMonitor$Worker" 9 "ShareMonitor$Worker" "quantum" "I" ∈ n_tb := n_a2 103 (by decide +kernel) rfl
theorem wfX11_103 : Cond.fieldLink "ShareMonitor" 103 "ShareMonitor$Worker" "quantum" "I" ∈ n_tb := n_a2 104 (by decide +kernel) rfl
theorem wfX11_10 : Cond.fieldLink "ShareMonitor" 10 "ShareMonitor" "tape" "LShareMonitor$Tape;" ∈ n_tb := n_a2 110 (by decide +kernel) rfl
theorem wfX11_21 : Cond.fieldLink "ShareMonitor" 21 "ShareMonitor" "reader" "LShareMonitor$Reader;" ∈ n_tb := n_a2 111 (by decide +kernel) rfl
theorem wfX11_28 : Cond.fieldLink "ShareMonitor" 28 "ShareMonitor" "desk" "LShareMonitor$Desk;" ∈ n_tb := n_a2 112 (by decide +kernel) rfl
theorem wfX11_37 : Cond.fieldLink "ShareMonitor" 37 "ShareMonitor" "worker" "LShareMonitor$Worker;" ∈ n_tb := n_a2 113 (by decide +kernel) rfl
theorem wmL_100 : Cond.methodLink "ShareMonitorLaw" 100 yX11_fault ∈ n_tb := n_a2 123 (by decide +kernel) rfl
theorem wi_yX11_fault : Cond.instanceMethod yX11_fault ∈ n_tb := n_a2 124 (by decide +kernel) rfl
theorem wv_yX11_fault : Cond.selects "ShareMonitor" yX11_fault yX11_fault ∈ n_tb := n_a2 125 (by decide +kernel) rfl
set_option maxRecDepth 100000 in
theorem wc_yX11_fault : Cond.code yX11_fault cX11_fault 1 (Option.some Jvm.ClassFile.FieldType.int) ∈ n_tb := n_a2 126 rfl rfl
theorem wmL_104 : Cond.methodLink "ShareMonitorLaw" 104 yX11_tick ∈ n_tb := n_a2 127 (by decide +kernel) rfl
theorem wi_yX11_tick : Cond.instanceMethod yX11_tick ∈ n_tb := n_a2 128 (by decide +kernel) rfl
theorem wv_yX11_tick : Cond.selects "ShareMonitor" yX11_tick yX11_tick ∈ n_tb := n_a2 129 (by decide +kernel) rfl
set_option maxRecDepth 100000 in
theorem wc_yX11_tick : Cond.code yX11_tick cX11_tick 1 (Option.some Jvm.ClassFile.FieldType.int) ∈ n_tb := n_a2 130 rfl rfl
theorem wmX11_95 : Cond.methodLink "ShareMonitor" 95 yX10_advance ∈ n_tb := n_a2 131 (by decide +kernel) rfl
theorem wi_yX10_advance : Cond.instanceMethod yX10_advance ∈ n_tb := n_a2 132 (by decide +kernel) rfl
theorem wv_yX10_advance : Cond.selects "ShareMonitor$Worker" yX10_advance yX10_advance ∈ n_tb := n_a2 133 (by decide +kernel) rfl
set_option maxRecDepth 100000 in
theorem wc_yX10_advance : Cond.code yX10_advance cX10_advance 4 (Option.some Jvm.ClassFile.FieldType.int) ∈ n_tb := n_a2 134 rfl rfl
theorem wmX10_27 : Cond.methodLink "ShareMonitor$Worker" 27 yX2_wakeSleepers ∈ n_tb := n_a2 135 (by decide +kernel) rfl
theorem wi_yX2_wakeSleepers : Cond.instanceMethod yX2_wakeSleepers ∈ n_tb := n_a2 136 (by decide +kernel) rfl
theorem wv_yX2_wakeSleepers : Cond.selects "ShareMonitor$Desk" yX2_wakeSleepers yX2_wakeSleepers ∈ n_tb := n_a2 137 (by decide +kernel) rfl
set_option maxRecDepth 100000 in
theorem wc_yX2_wakeSleepers : Cond.code yX2_wakeSleepers cX2_wakeSleepers 3 (Option.none : Option Jvm.ClassFile.FieldType) ∈ n_tb := n_a2 138 rfl rfl
theorem wmX2_79 : Cond.methodLink "ShareMonitor$Desk" 79 yX2_makeReady ∈ n_tb := n_a2 139 (by decide +kernel) rfl
theorem wi_yX2_makeReady : Cond.instanceMethod yX2_makeReady ∈ n_tb := n_a2 140 (by decide +kernel) rfl
theorem wv_yX2_makeReady : Cond.selects "ShareMonitor$Desk" yX2_makeReady yX2_makeReady ∈ n_tb := n_a2 141 (by decide +kernel) rfl
set_option maxRecDepth 100000 in
theorem wc_yX2_makeReady : Cond.code yX2_makeReady cX2_makeReady 2 (Option.none : Option Jvm.ClassFile.FieldType) ∈ n_tb := n_a2 142 rfl rfl
theorem wmX2_89 : Cond.methodLink "ShareMonitor$Desk" 89 yX7_join ∈ n_tb := n_a2 143 (by decide +kernel) rfl
theorem wi_yX7_join : Cond.instanceMethod yX7_join ∈ n_tb := n_a2 144 (by decide +kernel) rfl
theorem wv_yX7_join : Cond.selects "ShareMonitor$Row" yX7_join yX7_join ∈ n_tb := n_a2 145 (by decide +kernel) rfl
set_option maxRecDepth 100000 in
theorem wc_yX7_join : Cond.code yX7_join cX7_join 2 (Option.none : Option Jvm.ClassFile.FieldType) ∈ n_tb := n_a2 146 rfl rfl
theorem wmX2_135 : Cond.methodLink "ShareMonitor$Desk" 135 yJ9_min_7cf53 ∈ n_tb := n_a2 147 (by decide +kernel) rfl
theorem ws_yJ9_min_7cf53 : Cond.static yJ9_min_7cf53 ∈ n_tb := n_a2 148 (by decide +kernel) rfl
set_option maxRecDepth 100000 in
theorem wc_yJ9_min_7cf53 : Cond.code yJ9_min_7cf53 cJ9_min_7cf53 2 (Option.some Jvm.ClassFile.FieldType.int) ∈ n_tb := n_a2 149 rfl rfl
theorem wmX10_30 : Cond.methodLink "ShareMonitor$Worker" 30 yX2_firstReady ∈ n_tb := n_a2 150 (by decide +kernel) rfl
theorem wi_yX2_firstReady : Cond.instanceMethod yX2_firstReady ∈ n_tb := n_a2 151 (by decide +kernel) rfl
theorem wv_yX2_firstReady : Cond.selects "ShareMonitor$Desk" yX2_firstReady yX2_firstReady ∈ n_tb := n_a2 152 (by decide +kernel) rfl
set_option maxRecDepth 100000 in
theorem wc_yX2_firstReady : Cond.code yX2_firstReady cX2_firstReady 2 (Option.some (Jvm.ClassFile.FieldType.object "ShareMonitor$UserProcess")) ∈ n_tb := n_a2 153 rfl rfl
theorem wmX2_145 : Cond.methodLink "ShareMonitor$Desk" 145 yX7_first ∈ n_tb := n_a2 154 (by decide +kernel) rfl
theorem wi_yX7_first : Cond.instanceMethod yX7_first ∈ n_tb := n_a2 155 (by decide +kernel) rfl
theorem wv_yX7_first : Cond.selects "ShareMonitor$Row" yX7_first yX7_first ∈ n_tb := n_a2 156 (by decide +kernel) rfl
set_option maxRecDepth 100000 in
theorem wc_yX7_first : Cond.code yX7_first cX7_first 1 (Option.some Jvm.ClassFile.FieldType.int) ∈ n_tb := n_a2 157 rfl rfl
theorem wmX2_56 : Cond.methodLink "ShareMonitor$Desk" 56 yX2_find ∈ n_tb := n_a2 158 (by decide +kernel) rfl
theorem wi_yX2_find : Cond.instanceMethod yX2_find ∈ n_tb := n_a2 159 (by decide +kernel) rfl
theorem wv_yX2_find : Cond.selects "ShareMonitor$Desk" yX2_find yX2_find ∈ n_tb := n_a2 160 (by decide +kernel) rfl
set_option maxRecDepth 100000 in
theorem wc_yX2_find : Cond.code yX2_find cX2_find 2 (Option.some (Jvm.ClassFile.FieldType.object "ShareMonitor$UserProcess")) ∈ n_tb := n_a2 161 rfl rfl
theorem wmX10_34 : Cond.methodLink "ShareMonitor$Worker" 34 yX9_nextOp ∈ n_tb := n_a2 162 (by decide +kernel) rfl
theorem wi_yX9_nextOp : Cond.instanceMethod yX9_nextOp ∈ n_tb := n_a2 163 (by decide +kernel) rfl
theorem wv_yX9_nextOp : Cond.selects "ShareMonitor$UserProcess" yX9_nextOp yX9_nextOp ∈ n_tb := n_a2 164 (by decide +kernel) rfl
set_option maxRecDepth 100000 in
theorem wc_yX9_nextOp : Cond.code yX9_nextOp cX9_nextOp 1 (Option.some (Jvm.ClassFile.FieldType.object "ShareMonitor$Op")) ∈ n_tb := n_a2 165 rfl rfl
theorem wmX10_40 : Cond.methodLink "ShareMonitor$Worker" 40 yX10_obstacleTo ∈ n_tb := n_a2 166 (by decide +kernel) rfl
theorem wi_yX10_obstacleTo : Cond.instanceMethod yX10_obstacleTo ∈ n_tb := n_a2 168 (by decide +kernel) rfl
set_option maxRecDepth 100000 in
theorem wc_yX10_obstacleTo : Cond.code yX10_obstacleTo cX10_obstacleTo 3 (Option.some Jvm.ClassFile.FieldType.int) ∈ n_tb := n_a2 169 rfl rfl
theorem wmX10_81 : Cond.methodLink "ShareMonitor$Worker" 81 yX10_mustWait ∈ n_tb := n_a2 170 (by decide +kernel) rfl
theorem wi_yX10_mustWait : Cond.instanceMethod yX10_mustWait ∈ n_tb := n_a2 172 (by decide +kernel) rfl
set_option maxRecDepth 100000 in
theorem wc_yX10_mustWait : Cond.code yX10_mustWait cX10_mustWait 4 (Option.some Jvm.ClassFile.FieldType.boolean) ∈ n_tb := n_a2 173 rfl rfl
theorem wfX10_88 : Cond.fieldLink "ShareMonitor$Worker" 88 "ShareMonitor$Op" "RECV" "LShareMonitor$Op;" ∈ n_tb := n_a2 174 (by decide +kernel) rfl
theorem wmX10_101 : Cond.methodLink "ShareMonitor$Worker" 101 yX2_suspend ∈ n_tb := n_a2 176 (by decide +kernel) rfl
theorem wi_yX2_suspend : Cond.instanceMethod yX2_suspend ∈ n_tb := n_a2 177 (by decide +kernel) rfl
theorem wv_yX2_suspend : Cond.selects "ShareMonitor$Desk" yX2_suspend yX2_suspend ∈ n_tb := n_a2 178 (by decide +kernel) rfl
set_option maxRecDepth 100000 in
theorem wc_yX2_suspend : Cond.code yX2_suspend cX2_suspend 4 (Option.none : Option Jvm.ClassFile.FieldType) ∈ n_tb := n_a2 179 rfl rfl
theorem wmX2_92 : Cond.methodLink "ShareMonitor$Desk" 92 yX7_leave ∈ n_tb := n_a2 180 (by decide +kernel) rfl
theorem wi_yX7_leave : Cond.instanceMethod yX7_leave ∈ n_tb := n_a2 181 (by decide +kernel) rfl
theorem wv_yX7_leave : Cond.selects "ShareMonitor$Row" yX7_leave yX7_leave ∈ n_tb := n_a2 182 (by decide +kernel) rfl
set_option maxRecDepth 100000 in
theorem wc_yX7_leave : Cond.code yX7_leave cX7_leave 4 (Option.none : Option Jvm.ClassFile.FieldType) ∈ n_tb := n_a2 183 rfl rfl
theorem wfX10_105 : Cond.fieldLink "ShareMonitor$Worker" 105 "ShareMonitor$Op" "READKEY" "LShareMonitor$Op;" ∈ n_tb := n_a2 184 (by decide +kernel) rfl
theorem wfX10_111 : Cond.fieldLink "ShareMonitor$Worker" 111 "ShareMonitor$Op" "WAIT" "LShareMonitor$Op;" ∈ n_tb := n_a2 186 (by decide +kernel) rfl
theorem wmX10_114 : Cond.methodLink "ShareMonitor$Worker" 114 yX9_top ∈ n_tb := n_a2 188 (by decide +kernel) rfl
theorem wi_yX9_top : Cond.instanceMethod yX9_top ∈ n_tb := n_a2 189 (by decide +kernel) rfl
theorem wv_yX9_top : Cond.selects "ShareMonitor$UserProcess" yX9_top yX9_top ∈ n_tb := n_a2 190 (by decide +kernel) rfl
set_option maxRecDepth 100000 in
theorem wc_yX9_top : Cond.code yX9_top cX9_top 1 (Option.some Jvm.ClassFile.FieldType.int) ∈ n_tb := n_a2 191 rfl rfl
theorem wmX10_117 : Cond.methodLink "ShareMonitor$Worker" 117 yX2_findChild ∈ n_tb := n_a2 192 (by decide +kernel) rfl
theorem wi_yX2_findChild : Cond.instanceMethod yX2_findChild ∈ n_tb := n_a2 193 (by decide +kernel) rfl
theorem wv_yX2_findChild : Cond.selects "ShareMonitor$Desk" yX2_findChild yX2_findChild ∈ n_tb := n_a2 194 (by decide +kernel) rfl
set_option maxRecDepth 100000 in
theorem wc_yX2_findChild : Cond.code yX2_findChild cX2_findChild 4 (Option.some (Jvm.ClassFile.FieldType.object "ShareMonitor$UserProcess")) ∈ n_tb := n_a2 195 rfl rfl
theorem wmX10_121 : Cond.methodLink "ShareMonitor$Worker" 121 yX9_isAlive ∈ n_tb := n_a2 196 (by decide +kernel) rfl
theorem wi_yX9_isAlive : Cond.instanceMethod yX9_isAlive ∈ n_tb := n_a2 197 (by decide +kernel) rfl
theorem wv_yX9_isAlive : Cond.selects "ShareMonitor$UserProcess" yX9_isAlive yX9_isAlive ∈ n_tb := n_a2 198 (by decide +kernel) rfl
set_option maxRecDepth 100000 in
theorem wc_yX9_isAlive : Cond.code yX9_isAlive cX9_isAlive 1 (Option.some Jvm.ClassFile.FieldType.boolean) ∈ n_tb := n_a2 199 rfl rfl
theorem wmX10_44 : Cond.methodLink "ShareMonitor$Worker" 44 yX10_perform ∈ n_tb := n_a2 200 (by decide +kernel) rfl
theorem wi_yX10_perform : Cond.instanceMethod yX10_perform ∈ n_tb := n_a2 202 (by decide +kernel) rfl
set_option maxRecDepth 100000 in
theorem wc_yX10_perform : Cond.code yX10_perform cX10_perform 4 (Option.some Jvm.ClassFile.FieldType.int) ∈ n_tb := n_a2 203 rfl rfl
theorem wmX10_125 : Cond.methodLink "ShareMonitor$Worker" 125 yX9_nextNumber ∈ n_tb := n_a2 204 (by decide +kernel) rfl
theorem wi_yX9_nextNumber : Cond.instanceMethod yX9_nextNumber ∈ n_tb := n_a2 205 (by decide +kernel) rfl
theorem wv_yX9_nextNumber : Cond.selects "ShareMonitor$UserProcess" yX9_nextNumber yX9_nextNumber ∈ n_tb := n_a2 206 (by decide +kernel) rfl
set_option maxRecDepth 100000 in
theorem wc_yX9_nextNumber : Cond.code yX9_nextNumber cX9_nextNumber 1 (Option.some Jvm.ClassFile.FieldType.int) ∈ n_tb := n_a2 207 rfl rfl
theorem wmX10_134 : Cond.methodLink "ShareMonitor$Worker" 134 yX10_shuffle ∈ n_tb := n_a2 208 (by decide +kernel) rfl
theorem wi_yX10_shuffle : Cond.instanceMethod yX10_shuffle ∈ n_tb := n_a2 210 (by decide +kernel) rfl
set_option maxRecDepth 100000 in
theorem wc_yX10_shuffle : Cond.code yX10_shuffle cX10_shuffle 5 (Option.some Jvm.ClassFile.FieldType.int) ∈ n_tb := n_a2 211 rfl rfl
theorem wfX10_156 : Cond.fieldLink "ShareMonitor$Worker" 156 "ShareMonitor$Op" "NUMBER" "LShareMonitor$Op;" ∈ n_tb := n_a2 212 (by decide +kernel) rfl
theorem wmX10_159 : Cond.methodLink "ShareMonitor$Worker" 159 yX9_push ∈ n_tb := n_a2 214 (by decide +kernel) rfl
theorem wi_yX9_push : Cond.instanceMethod yX9_push ∈ n_tb := n_a2 215 (by decide +kernel) rfl
theorem wv_yX9_push : Cond.selects "ShareMonitor$UserProcess" yX9_push yX9_push ∈ n_tb := n_a2 216 (by decide +kernel) rfl
set_option maxRecDepth 100000 in
theorem wc_yX9_push : Cond.code yX9_push cX9_push 2 (Option.none : Option Jvm.ClassFile.FieldType) ∈ n_tb := n_a2 217 rfl rfl
theorem wmX10_57 : Cond.methodLink "ShareMonitor$Worker" 57 yX9_pop ∈ n_tb := n_a2 218 (by decide +kernel) rfl
theorem wi_yX9_pop : Cond.instanceMethod yX9_pop ∈ n_tb := n_a2 219 (by decide +kernel) rfl
theorem wv_yX9_pop : Cond.selects "ShareMonitor$UserProcess" yX9_pop yX9_pop ∈ n_tb := n_a2 220 (by decide +kernel) rfl
set_option maxRecDepth 100000 in
theorem wc_yX9_pop : Cond.code yX9_pop cX9_pop 1 (Option.some Jvm.ClassFile.FieldType.int) ∈ n_tb := n_a2 221 rfl rfl
theorem wfX10_163 : Cond.fieldLink "ShareMonitor$Worker" 163 "ShareMonitor$Op" "NOT" "LShareMonitor$Op;" ∈ n_tb := n_a2 222 (by decide +kernel) rfl
theorem wfX10_166 : Cond.fieldLink "ShareMonitor$Worker" 166 "ShareMonitor$Op" "DUP" "LShareMonitor$Op;" ∈ n_tb := n_a2 224 (by decide +kernel) rfl
theorem wfX10_169 : Cond.fieldLink "ShareMonitor$Worker" 169 "ShareMonitor$Op" "DROP" "LShareMonitor$Op;" ∈ n_tb := n_a2 226 (by decide +kernel) rfl
theorem wmX10_172 : Cond.methodLink "ShareMonitor$Worker" 172 yX10_shuffleSeveral ∈ n_tb := n_a2 228 (by decide +kernel) rfl
theorem wi_yX10_shuffleSeveral : Cond.instanceMethod yX10_shuffleSeveral ∈ n_tb := n_a2 230 (by decide +kernel) rfl
set_option maxRecDepth 100000 in
theorem wc_yX10_shuffleSeveral : Cond.code yX10_shuffleSeveral cX10_shuffleSeveral 6 (Option.none : Option Jvm.ClassFile.FieldType) ∈ n_tb := n_a2 231 rfl rfl
theorem wfX10_176 : Cond.fieldLink "ShareMonitor$Worker" 176 "ShareMonitor$Op" "SWAP" "LShareMonitor$Op;" ∈ n_tb := n_a2 232 (by decide +kernel) rfl
theorem wfX10_179 : Cond.fieldLink "ShareMonitor$Worker" 179 "ShareMonitor$Op" "OVER" "LShareMonitor$Op;" ∈ n_tb := n_a2 234 (by decide +kernel) rfl
theorem wmX10_138 : Cond.methodLink "ShareMonitor$Worker" 138 yX10_compute ∈ n_tb := n_a2 236 (by decide +kernel) rfl
theorem wi_yX10_compute : Cond.instanceMethod yX10_compute ∈ n_tb := n_a2 238 (by decide +kernel) rfl
set_option maxRecDepth 100000 in
theorem wc_yX10_compute : Cond.code yX10_compute cX10_compute 5 (Option.some Jvm.ClassFile.FieldType.int) ∈ n_tb := n_a2 239 rfl rfl
theorem wfX10_182 : Cond.fieldLink "ShareMonitor$Worker" 182 "ShareMonitor$Op" "DIVIDE" "LShareMonitor$Op;" ∈ n_tb := n_a3 0 (by decide +kernel) rfl
theorem wfX10_185 : Cond.fieldLink "ShareMonitor$Worker" 185 "ShareMonitor$Op" "REST" "LShareMonitor$Op;" ∈ n_tb := n_a3 2 (by decide +kernel) rfl
theorem wmX10_188 : Cond.methodLink "ShareMonitor$Worker" 188 yX10_resultOf ∈ n_tb := n_a3 4 (by decide +kernel) rfl
theorem ws_yX10_resultOf : Cond.static yX10_resultOf ∈ n_tb := n_a3 5 (by decide +kernel) rfl
set_option maxRecDepth 100000 in
theorem wc_yX10_resultOf : Cond.code yX10_resultOf cX10_resultOf 3 (Option.some Jvm.ClassFile.FieldType.int) ∈ n_tb := n_a3 6 rfl rfl
theorem wfX10_192 : Cond.fieldLink "ShareMonitor$Worker" 192 "ShareMonitor$1" "$SwitchMap$ShareMonitor$Op" "[I" ∈ n_tb := n_a3 7 (by decide +kernel) rfl
theorem wmX10_141 : Cond.methodLink "ShareMonitor$Worker" 141 yX10_follow ∈ n_tb := n_a3 15 (by decide +kernel) rfl
theorem wi_yX10_follow : Cond.instanceMethod yX10_follow ∈ n_tb := n_a3 17 (by decide +kernel) rfl
set_option maxRecDepth 100000 in
theorem wc_yX10_follow : Cond.code yX10_follow cX10_follow 4 (Option.some Jvm.ClassFile.FieldType.int) ∈ n_tb := n_a3 18 rfl rfl
theorem wmX10_144 : Cond.methodLink "ShareMonitor$Worker" 144 yX10_useMemory ∈ n_tb := n_a3 19 (by decide +kernel) rfl
theorem wi_yX10_useMemory : Cond.instanceMethod yX10_useMemory ∈ n_tb := n_a3 21 (by decide +kernel) rfl
set_option maxRecDepth 100000 in
theorem wc_yX10_useMemory : Cond.code yX10_useMemory cX10_useMemory 5 (Option.some Jvm.ClassFile.FieldType.int) ∈ n_tb := n_a3 22 rfl rfl
theorem wmX10_211 : Cond.methodLink "ShareMonitor$Worker" 211 yX3_holds ∈ n_tb := n_a3 23 (by decide +kernel) rfl
theorem wi_yX3_holds : Cond.instanceMethod yX3_holds ∈ n_tb := n_a3 24 (by decide +kernel) rfl
theorem wv_yX3_holds : Cond.selects "ShareMonitor$Memory" yX3_holds yX3_holds ∈ n_tb := n_a3 25 (by decide +kernel) rfl
set_option maxRecDepth 100000 in
theorem wc_yX3_holds : Cond.code yX3_holds cX3_holds 3 (Option.some Jvm.ClassFile.FieldType.boolean) ∈ n_tb := n_a3 26 rfl rfl
theorem wmX10_220 : Cond.methodLink "ShareMonitor$Worker" 220 yX3_take ∈ n_tb := n_a3 27 (by decide +kernel) rfl
theorem wi_yX3_take : Cond.instanceMethod yX3_take ∈ n_tb := n_a3 28 (by decide +kernel) rfl
theorem wv_yX3_take : Cond.selects "ShareMonitor$Memory" yX3_take yX3_take ∈ n_tb := n_a3 29 (by decide +kernel) rfl
set_option maxRecDepth 100000 in
theorem wc_yX3_take : Cond.code yX3_take cX3_take 4 (Option.some Jvm.ClassFile.FieldType.int) ∈ n_tb := n_a3 30 rfl rfl
theorem wmX3_21 : Cond.methodLink "ShareMonitor$Memory" 21 yX3_cut ∈ n_tb := n_a3 31 (by decide +kernel) rfl
theorem wi_yX3_cut : Cond.instanceMethod yX3_cut ∈ n_tb := n_a3 33 (by decide +kernel) rfl
set_option maxRecDepth 100000 in
theorem wc_yX3_cut : Cond.code yX3_cut cX3_cut 6 (Option.none : Option Jvm.ClassFile.FieldType) ∈ n_tb := n_a3 34 rfl rfl
theorem wmX3_31 : Cond.methodLink "ShareMonitor$Memory" 31 yJ7_fill_fda19 ∈ n_tb := n_a3 35 (by decide +kernel) rfl
theorem ws_yJ7_fill_fda19 : Cond.static yJ7_fill_fda19 ∈ n_tb := n_a3 36 (by decide +kernel) rfl
set_option maxRecDepth 100000 in
theorem wc_yJ7_fill_fda19 : Cond.code yJ7_fill_fda19 cJ7_fill_fda19 5 (Option.none : Option Jvm.ClassFile.FieldType) ∈ n_tb := n_a3 37 rfl rfl
theorem wmJ7_13 : Cond.methodLink "java/util/Arrays" 13 yJ7_rangeCheck_23922 ∈ n_tb := n_a3 38 (by decide +kernel) rfl
theorem ws_yJ7_rangeCheck_23922 : Cond.static yJ7_rangeCheck_23922 ∈ n_tb := n_a3 39 (by decide +kernel) rfl
set_option maxRecDepth 100000 in
theorem wc_yJ7_rangeCheck_23922 : Cond.code yJ7_rangeCheck_23922 cJ7_rangeCheck_23922 3 (Option.none : Option Jvm.ClassFile.FieldType) ∈ n_tb := n_a3 40 rfl rfl
theorem wmJ7_47 : Cond.methodLink "java/util/Arrays" 47 yJ4_init_da8c8 ∈ n_tb := n_a3 86 (by decide +kernel) rfl
theorem wi_yJ4_init_da8c8 : Cond.instanceMethod yJ4_init_da8c8 ∈ n_tb := n_a3 87 (by decide +kernel) rfl
set_option maxRecDepth 100000 in
theorem wc_yJ4_init_da8c8 : Cond.code yJ4_init_da8c8 cJ4_init_da8c8 1 (Option.none : Option Jvm.ClassFile.FieldType) ∈ n_tb := n_a3 88 rfl rfl
theorem wmJ4_1 : Cond.methodLink "java/lang/StringBuilder" 1 yJ5_init_d00df ∈ n_tb := n_a3 89 (by decide +kernel) rfl
theorem wi_yJ5_init_d00df : Cond.instanceMethod yJ5_init_d00df ∈ n_tb := n_a3 90 (by decide +kernel) rfl
set_option maxRecDepth 100000 in
theorem wc_yJ5_init_d00df : Cond.code yJ5_init_d00df cJ5_init_d00df 2 (Option.none : Option Jvm.ClassFile.FieldType) ∈ n_tb := n_a3 91 rfl rfl
theorem wfJ5_18 : Cond.fieldLink "java/lang/AbstractStringBuilder" 18 "java/lang/String" "COMPACT_STRINGS" "Z" ∈ n_tb := n_a3 93 (by decide +kernel) rfl
theorem wmJ5_26 : Cond.methodLink "java/lang/AbstractStringBuilder" 26 yJ2_newBytesFor_77867 ∈ n_tb := n_a3 95 (by decide +kernel) rfl
theorem ws_yJ2_newBytesFor_77867 : Cond.static yJ2_newBytesFor_77867 ∈ n_tb := n_a3 96 (by decide +kernel) rfl
set_option maxRecDepth 100000 in
theorem wc_yJ2_newBytesFor_77867 : Cond.code yJ2_newBytesFor_77867 cJ2_newBytesFor_77867 1 (Option.some (Jvm.ClassFile.FieldType.array Jvm.ClassFile.FieldType.byte)) ∈ n_tb := n_a3 97 rfl rfl
theorem wmJ2_11 : Cond.methodLink "java/lang/StringUTF16" 11 yJ2_newBytesLength_0f7a4 ∈ n_tb := n_a3 98 (by decide +kernel) rfl
theorem ws_yJ2_newBytesLength_0f7a4 : Cond.static yJ2_newBytesLength_0f7a4 ∈ n_tb := n_a3 99 (by decide +kernel) rfl
set_option maxRecDepth 100000 in
theorem wc_yJ2_newBytesLength_0f7a4 : Cond.code yJ2_newBytesLength_0f7a4 cJ2_newBytesLength_0f7a4 1 (Option.some Jvm.ClassFile.FieldType.int) ∈ n_tb := n_a3 100 rfl rfl
theorem wfJ5_15 : Cond.fieldLink "java/lang/AbstractStringBuilder" 15 "java/lang/AbstractStringBuilder" "value" "[B" ∈ n_tb := n_a3 102 (by decide +kernel) rfl
theorem wfJ5_22 : Cond.fieldLink "java/lang/AbstractStringBuilder" 22 "java/lang/AbstractStringBuilder" "coder" "B" ∈ n_tb := n_a3 103 (by decide +kernel) rfl
theorem wfJ0_1048 : Cond.fieldLink "java/lang/String" 1048 "java/lang/AbstractStringBuilder" "maybeLatin1" "Z" ∈ n_tb := n_a3 104 (by decide +kernel) rfl
theorem wfJ5_79 : Cond.fieldLink "java/lang/AbstractStringBuilder" 79 "java/lang/AbstractStringBuilder" "count" "I" ∈ n_tb := n_a3 105 (by decide +kernel) rfl
theorem wmJ7_50 : Cond.methodLink "java/util/Arrays" 50 yJ4_append_15ec4 ∈ n_tb := n_a3 116 (by decide +kernel) rfl
theorem wi_yJ4_append_15ec4 : Cond.instanceMethod yJ4_append_15ec4 ∈ n_tb := n_a3 117 (by decide +kernel) rfl
theorem wv_yJ4_append_15ec4 : Cond.selects "java/lang/StringBuilder" yJ4_append_15ec4 yJ4_append_15ec4 ∈ n_tb := n_a3 118 (by decide +kernel) rfl
set_option maxRecDepth 100000 in
theorem wc_yJ4_append_15ec4 : Cond.code yJ4_append_15ec4 cJ4_append_15ec4 2 (Option.some (Jvm.ClassFile.FieldType.object "java/lang/StringBuilder")) ∈ n_tb := n_a3 119 rfl rfl
theorem wmJ4_29 : Cond.methodLink "java/lang/StringBuilder" 29 yJ5_append_cf1ce ∈ n_tb := n_a3 120 (by decide +kernel) rfl
theorem wi_yJ5_append_cf1ce : Cond.instanceMethod yJ5_append_cf1ce ∈ n_tb := n_a3 121 (by decide +kernel) rfl
set_option maxRecDepth 100000 in
theorem wc_yJ5_append_cf1ce : Cond.code yJ5_append_cf1ce cJ5_append_cf1ce 3 (Option.some (Jvm.ClassFile.FieldType.object "java/lang/AbstractStringBuilder")) ∈ n_tb := n_a3 122 rfl rfl
theorem wmJ5_204 : Cond.methodLink "java/lang/AbstractStringBuilder" 204 yJ5_appendNull_278bc ∈ n_tb := n_a3 123 (by decide +kernel) rfl
theorem wi_yJ5_appendNull_278bc : Cond.instanceMethod yJ5_appendNull_278bc ∈ n_tb := n_a3 125 (by decide +kernel) rfl
set_option maxRecDepth 100000 in
theorem wc_yJ5_appendNull_278bc : Cond.code yJ5_appendNull_278bc cJ5_appendNull_278bc 3 (Option.some (Jvm.ClassFile.FieldType.object "java/lang/AbstractStringBuilder")) ∈ n_tb := n_a3 126 rfl rfl
theorem wmJ5_100 : Cond.methodLink "java/lang/AbstractStringBuilder" 100 yJ5_ensureCapacityInternal_d00df ∈ n_tb := n_a3 127 (by decide +kernel) rfl
theorem wi_yJ5_ensureCapacityInternal_d00df : Cond.instanceMethod yJ5_ensureCapacityInternal_d00df ∈ n_tb := n_a3 129 (by decide +kernel) rfl
set_option maxRecDepth 100000 in
theorem wc_yJ5_ensureCapacityInternal_d00df : Cond.code yJ5_ensureCapacityInternal_d00df cJ5_ensureCapacityInternal_d00df 3 (Option.none : Option Jvm.ClassFile.FieldType) ∈ n_tb := n_a3 130 rfl rfl
theorem wmJ5_104 : Cond.methodLink "java/lang/AbstractStringBuilder" 104 yJ5_newCapacity_0f7a4 ∈ n_tb := n_a3 131 (by decide +kernel) rfl
theorem wi_yJ5_newCapacity_0f7a4 : Cond.instanceMethod yJ5_newCapacity_0f7a4 ∈ n_tb := n_a3 133 (by decide +kernel) rfl
set_option maxRecDepth 100000 in
theorem wc_yJ5_newCapacity_0f7a4 : Cond.code yJ5_newCapacity_0f7a4 cJ5_newCapacity_0f7a4 6 (Option.some Jvm.ClassFile.FieldType.int) ∈ n_tb := n_a3 134 rfl rfl
theorem wmJ5_114 : Cond.methodLink "java/lang/AbstractStringBuilder" 114 yJ8_newLength_cabcc ∈ n_tb := n_a3 135 (by decide +kernel) rfl
theorem ws_yJ8_newLength_cabcc : Cond.static yJ8_newLength_cabcc ∈ n_tb := n_a3 136 (by decide +kernel) rfl
set_option maxRecDepth 100000 in
theorem wc_yJ8_newLength_cabcc : Cond.code yJ8_newLength_cabcc cJ8_newLength_cabcc 4 (Option.some Jvm.ClassFile.FieldType.int) ∈ n_tb := n_a3 137 rfl rfl
theorem wmJ8_194 : Cond.methodLink "jdk/internal/util/ArraysSupport" 194 yJ9_max_7cf53 ∈ n_tb := n_a3 138 (by decide +kernel) rfl
theorem ws_yJ9_max_7cf53 : Cond.static yJ9_max_7cf53 ∈ n_tb := n_a3 139 (by decide +kernel) rfl
set_option maxRecDepth 100000 in
theorem wc_yJ9_max_7cf53 : Cond.code yJ9_max_7cf53 cJ9_max_7cf53 2 (Option.some Jvm.ClassFile.FieldType.int) ∈ n_tb := n_a3 140 rfl rfl
theorem wmJ8_201 : Cond.methodLink "jdk/internal/util/ArraysSupport" 201 yJ8_hugeLength_7cf53 ∈ n_tb := n_a3 142 (by decide +kernel) rfl
theorem ws_yJ8_hugeLength_7cf53 : Cond.static yJ8_hugeLength_7cf53 ∈ n_tb := n_a3 143 (by decide +kernel) rfl
set_option maxRecDepth 100000 in
theorem wc_yJ8_hugeLength_7cf53 : Cond.code yJ8_hugeLength_7cf53 cJ8_hugeLength_7cf53 3 (Option.some Jvm.ClassFile.FieldType.int) ∈ n_tb := n_a3 144 rfl rfl
theorem wmJ5_108 : Cond.methodLink "java/lang/AbstractStringBuilder" 108 yJ7_copyOf_9075b ∈ n_tb := n_a3 146 (by decide +kernel) rfl
theorem ws_yJ7_copyOf_9075b : Cond.static yJ7_copyOf_9075b ∈ n_tb := n_a3 147 (by decide +kernel) rfl
set_option maxRecDepth 100000 in
theorem wc_yJ7_copyOf_9075b : Cond.code yJ7_copyOf_9075b cJ7_copyOf_9075b 3 (Option.some (Jvm.ClassFile.FieldType.array Jvm.ClassFile.FieldType.byte)) ∈ n_tb := n_a3 148 rfl rfl
theorem wmJ7_304 : Cond.methodLink "java/util/Arrays" 304 yJ9_min_7cf53 ∈ n_tb := n_a3 156 (by decide +kernel) rfl
theorem wmJ5_83 : Cond.methodLink "java/lang/AbstractStringBuilder" 83 yJ5_isLatin1_aae02 ∈ n_tb := n_a3 160 (by decide +kernel) rfl
theorem wi_yJ5_isLatin1_aae02 : Cond.instanceMethod yJ5_isLatin1_aae02 ∈ n_tb := n_a3 161 (by decide +kernel) rfl
set_option maxRecDepth 100000 in
theorem wc_yJ5_isLatin1_aae02 : Cond.code yJ5_isLatin1_aae02 cJ5_isLatin1_aae02 1 (Option.some Jvm.ClassFile.FieldType.boolean) ∈ n_tb := n_a3 164 rfl rfl
theorem wmJ5_226 : Cond.methodLink "java/lang/AbstractStringBuilder" 226 yJ2_putCharsAt_cd4e5 ∈ n_tb := n_a3 165 (by decide +kernel) rfl
theorem ws_yJ2_putCharsAt_cd4e5 : Cond.static yJ2_putCharsAt_cd4e5 ∈ n_tb := n_a3 166 (by decide +kernel) rfl
set_option maxRecDepth 100000 in
theorem wc_yJ2_putCharsAt_cd4e5 : Cond.code yJ2_putCharsAt_cd4e5 cJ2_putCharsAt_cd4e5 7 (Option.some Jvm.ClassFile.FieldType.int) ∈ n_tb := n_a3 167 rfl rfl
theorem wmJ2_96 : Cond.methodLink "java/lang/StringUTF16" 96 yJ2_checkBoundsBeginEnd_d044e ∈ n_tb := n_a3 168 (by decide +kernel) rfl
theorem ws_yJ2_checkBoundsBeginEnd_d044e : Cond.static yJ2_checkBoundsBeginEnd_d044e ∈ n_tb := n_a3 169 (by decide +kernel) rfl
set_option maxRecDepth 100000 in
theorem wc_yJ2_checkBoundsBeginEnd_d044e : Cond.code yJ2_checkBoundsBeginEnd_d044e cJ2_checkBoundsBeginEnd_d044e 3 (Option.none : Option Jvm.ClassFile.FieldType) ∈ n_tb := n_a3 170 rfl rfl
theorem wmJ2_48 : Cond.methodLink "java/lang/StringUTF16" 48 yJ2_length_9d52b ∈ n_tb := n_a3 171 (by decide +kernel) rfl
theorem ws_yJ2_length_9d52b : Cond.static yJ2_length_9d52b ∈ n_tb := n_a3 172 (by decide +kernel) rfl
set_option maxRecDepth 100000 in
theorem wc_yJ2_length_9d52b : Cond.code yJ2_length_9d52b cJ2_length_9d52b 1 (Option.some Jvm.ClassFile.FieldType.int) ∈ n_tb := n_a3 173 rfl rfl
theorem wmJ2_241 : Cond.methodLink "java/lang/StringUTF16" 241 yJ0_checkBoundsBeginEnd_23922 ∈ n_tb := n_a3 174 (by decide +kernel) rfl
theorem ws_yJ0_checkBoundsBeginEnd_23922 : Cond.static yJ0_checkBoundsBeginEnd_23922 ∈ n_tb := n_a3 175 (by decide +kernel) rfl
set_option maxRecDepth 100000 in
theorem wc_yJ0_checkBoundsBeginEnd_23922 : Cond.code yJ0_checkBoundsBeginEnd_23922 cJ0_checkBoundsBeginEnd_23922 3 (Option.none : Option Jvm.ClassFile.FieldType) ∈ n_tb := n_a3 176 rfl rfl
theorem wfJ0_1053 : Cond.fieldLink "java/lang/String" 1053 "jdk/internal/util/Preconditions" "SIOOBE_FORMATTER" "Ljava/util/function/BiFunction;" ∈ n_tb := n_a3 177 (by decide +kernel) rfl
theorem wmJ0_1062 : Cond.methodLink "java/lang/String" 1062 yJ3_checkFromToIndex_8c36e ∈ n_tb := n_a3 179 (by decide +kernel) rfl
theorem ws_yJ3_checkFromToIndex_8c36e : Cond.static yJ3_checkFromToIndex_8c36e ∈ n_tb := n_a3 180 (by decide +kernel) rfl
set_option maxRecDepth 100000 in
theorem wc_yJ3_checkFromToIndex_8c36e : Cond.code yJ3_checkFromToIndex_8c36e cJ3_checkFromToIndex_8c36e 4 (Option.some Jvm.ClassFile.FieldType.int) ∈ n_tb := n_a3 181 rfl rfl
theorem wmJ2_111 : Cond.methodLink "java/lang/StringUTF16" 111 yJ2_putChar_b72d1 ∈ n_tb := n_a3 182 (by decide +kernel) rfl
theorem ws_yJ2_putChar_b72d1 : Cond.static yJ2_putChar_b72d1 ∈ n_tb := n_a3 183 (by decide +kernel) rfl
set_option maxRecDepth 100000 in
theorem wc_yJ2_putChar_b72d1 : Cond.code yJ2_putChar_b72d1 cJ2_putChar_b72d1 3 (Option.none : Option Jvm.ClassFile.FieldType) ∈ n_tb := n_a3 184 rfl rfl
theorem wfJ2_44 : Cond.fieldLink "java/lang/StringUTF16" 44 "java/lang/StringUTF16" "$assertionsDisabled" "Z" ∈ n_tb := n_a3 185 (by decide +kernel) rfl
theorem wfJ2_59 : Cond.fieldLink "java/lang/StringUTF16" 59 "java/lang/StringUTF16" "HI_BYTE_SHIFT" "I" ∈ n_tb := n_a3 187 (by decide +kernel) rfl
theorem wfJ2_63 : Cond.fieldLink "java/lang/StringUTF16" 63 "java/lang/StringUTF16" "LO_BYTE_SHIFT" "I" ∈ n_tb := n_a3 189 (by decide +kernel) rfl
theorem wmJ5_32 : Cond.methodLink "java/lang/AbstractStringBuilder" 32 yJ0_length_8abf5 ∈ n_tb := n_a3 191 (by decide +kernel) rfl
theorem wi_yJ0_length_8abf5 : Cond.instanceMethod yJ0_length_8abf5 ∈ n_tb := n_a3 192 (by decide +kernel) rfl
theorem wv_yJ0_length_8abf5 : Cond.selects "java/lang/String" yJ0_length_8abf5 yJ0_length_8abf5 ∈ n_tb := n_a3 193 (by decide +kernel) rfl
set_option maxRecDepth 100000 in
theorem wc_yJ0_length_8abf5 : Cond.code yJ0_length_8abf5 cJ0_length_8abf5 1 (Option.some Jvm.ClassFile.FieldType.int) ∈ n_tb := n_a3 194 rfl rfl
theorem wmJ0_335 : Cond.methodLink "java/lang/String" 335 yJ0_coder_7d493 ∈ n_tb := n_a3 195 (by decide +kernel) rfl
theorem wi_yJ0_coder_7d493 : Cond.instanceMethod yJ0_coder_7d493 ∈ n_tb := n_a3 196 (by decide +kernel) rfl
theorem wv_yJ0_coder_7d493 : Cond.selects "java/lang/String" yJ0_coder_7d493 yJ0_coder_7d493 ∈ n_tb := n_a3 197 (by decide +kernel) rfl
set_option maxRecDepth 100000 in
theorem wc_yJ0_coder_7d493 : Cond.code yJ0_coder_7d493 cJ0_coder_7d493 1 (Option.some Jvm.ClassFile.FieldType.byte) ∈ n_tb := n_a3 198 rfl rfl
theorem wfJ0_38 : Cond.fieldLink "java/lang/String" 38 "java/lang/String" "COMPACT_STRINGS" "Z" ∈ n_tb := n_a3 199 (by decide +kernel) rfl
theorem wmJ5_208 : Cond.methodLink "java/lang/AbstractStringBuilder" 208 yJ5_putStringAt_47b60 ∈ n_tb := n_a3 200 (by decide +kernel) rfl
theorem wi_yJ5_putStringAt_47b60 : Cond.instanceMethod yJ5_putStringAt_47b60 ∈ n_tb := n_a3 202 (by decide +kernel) rfl
set_option maxRecDepth 100000 in
theorem wc_yJ5_putStringAt_47b60 : Cond.code yJ5_putStringAt_47b60 cJ5_putStringAt_47b60 3 (Option.none : Option Jvm.ClassFile.FieldType) ∈ n_tb := n_a3 203 rfl rfl
theorem wmJ5_397 : Cond.methodLink "java/lang/AbstractStringBuilder" 397 yJ5_inflateIfNeededFor_a7421 ∈ n_tb := n_a3 204 (by decide +kernel) rfl
theorem wi_yJ5_inflateIfNeededFor_a7421 : Cond.instanceMethod yJ5_inflateIfNeededFor_a7421 ∈ n_tb := n_a3 206 (by decide +kernel) rfl
set_option maxRecDepth 100000 in
theorem wc_yJ5_inflateIfNeededFor_a7421 : Cond.code yJ5_inflateIfNeededFor_a7421 cJ5_inflateIfNeededFor_a7421 2 (Option.none : Option Jvm.ClassFile.FieldType) ∈ n_tb := n_a3 207 rfl rfl
theorem wmJ5_40 : Cond.methodLink "java/lang/AbstractStringBuilder" 40 yJ0_coder_7d493 ∈ n_tb := n_a3 208 (by decide +kernel) rfl
theorem wmJ5_195 : Cond.methodLink "java/lang/AbstractStringBuilder" 195 yJ5_inflate_da8c8 ∈ n_tb := n_a3 209 (by decide +kernel) rfl
theorem wi_yJ5_inflate_da8c8 : Cond.instanceMethod yJ5_inflate_da8c8 ∈ n_tb := n_a3 211 (by decide +kernel) rfl
set_option maxRecDepth 100000 in
theorem wc_yJ5_inflate_da8c8 : Cond.code yJ5_inflate_da8c8 cJ5_inflate_da8c8 2 (Option.none : Option Jvm.ClassFile.FieldType) ∈ n_tb := n_a3 212 rfl rfl
theorem wmJ5_125 : Cond.methodLink "java/lang/AbstractStringBuilder" 125 yJ1_inflate_0e8fd ∈ n_tb := n_a3 213 (by decide +kernel) rfl
theorem ws_yJ1_inflate_0e8fd : Cond.static yJ1_inflate_0e8fd ∈ n_tb := n_a3 214 (by decide +kernel) rfl
set_option maxRecDepth 100000 in
theorem wc_yJ1_inflate_0e8fd : Cond.code yJ1_inflate_0e8fd cJ1_inflate_0e8fd 5 (Option.none : Option Jvm.ClassFile.FieldType) ∈ n_tb := n_a3 215 rfl rfl
theorem wmJ1_240 : Cond.methodLink "java/lang/StringLatin1" 240 yJ2_inflate_0e8fd ∈ n_tb := n_a3 216 (by decide +kernel) rfl
theorem ws_yJ2_inflate_0e8fd : Cond.static yJ2_inflate_0e8fd ∈ n_tb := n_a3 217 (by decide +kernel) rfl
set_option maxRecDepth 100000 in
theorem wc_yJ2_inflate_0e8fd : Cond.code yJ2_inflate_0e8fd cJ2_inflate_0e8fd 6 (Option.none : Option Jvm.ClassFile.FieldType) ∈ n_tb := n_a3 218 rfl rfl
theorem wmJ2_173 : Cond.methodLink "java/lang/StringUTF16" 173 yJ2_checkBoundsOffCount_d044e ∈ n_tb := n_a3 219 (by decide +kernel) rfl
theorem ws_yJ2_checkBoundsOffCount_d044e : Cond.static yJ2_checkBoundsOffCount_d044e ∈ n_tb := n_a3 220 (by decide +kernel) rfl
set_option maxRecDepth 100000 in
theorem wc_yJ2_checkBoundsOffCount_d044e : Cond.code yJ2_checkBoundsOffCount_d044e cJ2_checkBoundsOffCount_d044e 3 (Option.none : Option Jvm.ClassFile.FieldType) ∈ n_tb := n_a3 221 rfl rfl
theorem wmJ2_419 : Cond.methodLink "java/lang/StringUTF16" 419 yJ0_checkBoundsOffCount_cabcc ∈ n_tb := n_a3 222 (by decide +kernel) rfl
theorem ws_yJ0_checkBoundsOffCount_cabcc : Cond.static yJ0_checkBoundsOffCount_cabcc ∈ n_tb := n_a3 223 (by decide +kernel) rfl
set_option maxRecDepth 100000 in
theorem wc_yJ0_checkBoundsOffCount_cabcc : Cond.code yJ0_checkBoundsOffCount_cabcc cJ0_checkBoundsOffCount_cabcc 3 (Option.some Jvm.ClassFile.FieldType.int) ∈ n_tb := n_a3 224 rfl rfl
theorem wmJ0_1065 : Cond.methodLink "java/lang/String" 1065 yJ3_checkFromIndexSize_8c36e ∈ n_tb := n_a3 225 (by decide +kernel) rfl
theorem ws_yJ3_checkFromIndexSize_8c36e : Cond.static yJ3_checkFromIndexSize_8c36e ∈ n_tb := n_a3 226 (by decide +kernel) rfl
set_option maxRecDepth 100000 in
theorem wc_yJ3_checkFromIndexSize_8c36e : Cond.code yJ3_checkFromIndexSize_8c36e cJ3_checkFromIndexSize_8c36e 4 (Option.some Jvm.ClassFile.FieldType.int) ∈ n_tb := n_a3 227 rfl rfl
theorem wmJ5_399 : Cond.methodLink "java/lang/AbstractStringBuilder" 399 yJ0_getBytes_840e7 ∈ n_tb := n_a3 228 (by decide +kernel) rfl
theorem wi_yJ0_getBytes_840e7 : Cond.instanceMethod yJ0_getBytes_840e7 ∈ n_tb := n_a3 229 (by decide +kernel) rfl
theorem wv_yJ0_getBytes_840e7 : Cond.selects "java/lang/String" yJ0_getBytes_840e7 yJ0_getBytes_840e7 ∈ n_tb := n_a3 230 (by decide +kernel) rfl
set_option maxRecDepth 100000 in
theorem wc_yJ0_getBytes_840e7 : Cond.code yJ0_getBytes_840e7 cJ0_getBytes_840e7 4 (Option.none : Option Jvm.ClassFile.FieldType) ∈ n_tb := n_a3 231 rfl rfl
theorem wmJ0_106 : Cond.methodLink "java/lang/String" 106 yJ1_inflate_0e8fd ∈ n_tb := n_a3 233 (by decide +kernel) rfl
theorem wmJ7_54 : Cond.methodLink "java/util/Arrays" 54 yJ4_append_bf812 ∈ n_tb := n_a3 234 (by decide +kernel) rfl
theorem wi_yJ4_append_bf812 : Cond.instanceMethod yJ4_append_bf812 ∈ n_tb := n_a3 235 (by decide +kernel) rfl
theorem wv_yJ4_append_bf812 : Cond.selects "java/lang/StringBuilder" yJ4_append_bf812 yJ4_append_bf812 ∈ n_tb := n_a3 236 (by decide +kernel) rfl
set_option maxRecDepth 100000 in
theorem wc_yJ4_append_bf812 : Cond.code yJ4_append_bf812 cJ4_append_bf812 2 (Option.some (Jvm.ClassFile.FieldType.object "java/lang/StringBuilder")) ∈ n_tb := n_a3 237 rfl rfl
theorem wmJ4_53 : Cond.methodLink "java/lang/StringBuilder" 53 yJ5_append_c97b9 ∈ n_tb := n_a3 238 (by decide +kernel) rfl
theorem wi_yJ5_append_c97b9 : Cond.instanceMethod yJ5_append_c97b9 ∈ n_tb := n_a3 239 (by decide +kernel) rfl
set_option maxRecDepth 100000 in
theorem wc_yJ5_append_c97b9 : Cond.code yJ5_append_c97b9 cJ5_append_c97b9 4 (Option.some (Jvm.ClassFile.FieldType.object "java/lang/AbstractStringBuilder")) ∈ n_tb := n_a4 0 rfl rfl
theorem wmJ5_245 : Cond.methodLink "java/lang/AbstractStringBuilder" 245 yJ6_stringSize_0f7a4 ∈ n_tb := n_a4 1 (by decide +kernel) rfl
theorem ws_yJ6_stringSize_0f7a4 : Cond.static yJ6_stringSize_0f7a4 ∈ n_tb := n_a4 2 (by decide +kernel) rfl
set_option maxRecDepth 100000 in
theorem wc_yJ6_stringSize_0f7a4 : Cond.code yJ6_stringSize_0f7a4 cJ6_stringSize_0f7a4 4 (Option.some Jvm.ClassFile.FieldType.int) ∈ n_tb := n_a4 3 rfl rfl
theorem wmJ5_248 : Cond.methodLink "java/lang/AbstractStringBuilder" 248 yJ6_getChars_ba4f3 ∈ n_tb := n_a4 4 (by decide +kernel) rfl
theorem ws_yJ6_getChars_ba4f3 : Cond.static yJ6_getChars_ba4f3 ∈ n_tb := n_a4 5 (by decide +kernel) rfl
set_option maxRecDepth 100000 in
theorem wc_yJ6_getChars_ba4f3 : Cond.code yJ6_getChars_ba4f3 cJ6_getChars_ba4f3 7 (Option.some Jvm.ClassFile.FieldType.int) ∈ n_tb := n_a4 6 rfl rfl
theorem wfJ6_83 : Cond.fieldLink "java/lang/Integer" 83 "java/lang/Integer" "DigitOnes" "[B" ∈ n_tb := n_a4 7 (by decide +kernel) rfl
theorem wfJ6_87 : Cond.fieldLink "java/lang/Integer" 87 "java/lang/Integer" "DigitTens" "[B" ∈ n_tb := n_a4 9 (by decide +kernel) rfl
theorem wmJ5_251 : Cond.methodLink "java/lang/AbstractStringBuilder" 251 yJ2_getChars_46870 ∈ n_tb := n_a4 11 (by decide +kernel) rfl
theorem ws_yJ2_getChars_46870 : Cond.static yJ2_getChars_46870 ∈ n_tb := n_a4 12 (by decide +kernel) rfl
set_option maxRecDepth 100000 in
theorem wc_yJ2_getChars_46870 : Cond.code yJ2_getChars_46870 cJ2_getChars_46870 5 (Option.some Jvm.ClassFile.FieldType.int) ∈ n_tb := n_a4 13 rfl rfl
theorem wmJ2_393 : Cond.methodLink "java/lang/StringUTF16" 393 yJ2_getChars_ba4f3 ∈ n_tb := n_a4 14 (by decide +kernel) rfl
theorem ws_yJ2_getChars_ba4f3 : Cond.static yJ2_getChars_ba4f3 ∈ n_tb := n_a4 15 (by decide +kernel) rfl
set_option maxRecDepth 100000 in
theorem wc_yJ2_getChars_ba4f3 : Cond.code yJ2_getChars_ba4f3 cJ2_getChars_ba4f3 7 (Option.some Jvm.ClassFile.FieldType.int) ∈ n_tb := n_a4 16 rfl rfl
theorem wfJ2_403 : Cond.fieldLink "java/lang/StringUTF16" 403 "java/lang/Integer" "DigitOnes" "[B" ∈ n_tb := n_a4 17 (by decide +kernel) rfl
theorem wfJ2_407 : Cond.fieldLink "java/lang/StringUTF16" 407 "java/lang/Integer" "DigitTens" "[B" ∈ n_tb := n_a4 18 (by decide +kernel) rfl
theorem wmJ7_61 : Cond.methodLink "java/util/Arrays" 61 yJ4_toString_0e30d ∈ n_tb := n_a4 21 (by decide +kernel) rfl
theorem wi_yJ4_toString_0e30d : Cond.instanceMethod yJ4_toString_0e30d ∈ n_tb := n_a4 22 (by decide +kernel) rfl
theorem wv_yJ4_toString_0e30d : Cond.selects "java/lang/StringBuilder" yJ4_toString_0e30d yJ4_toString_0e30d ∈ n_tb := n_a4 23 (by decide +kernel) rfl
set_option maxRecDepth 100000 in
theorem wc_yJ4_toString_0e30d : Cond.code yJ4_toString_0e30d cJ4_toString_0e30d 1 (Option.some (Jvm.ClassFile.FieldType.object "java/lang/String")) ∈ n_tb := n_a4 24 rfl rfl
theorem wmJ4_137 : Cond.methodLink "java/lang/StringBuilder" 137 yJ0_init_81219 ∈ n_tb := n_a4 27 (by decide +kernel) rfl
theorem wi_yJ0_init_81219 : Cond.instanceMethod yJ0_init_81219 ∈ n_tb := n_a4 28 (by decide +kernel) rfl
set_option maxRecDepth 100000 in
theorem wc_yJ0_init_81219 : Cond.code yJ0_init_81219 cJ0_init_81219 2 (Option.none : Option Jvm.ClassFile.FieldType) ∈ n_tb := n_a4 29 rfl rfl
theorem wmJ0_489 : Cond.methodLink "java/lang/String" 489 yJ0_init_db425 ∈ n_tb := n_a4 30 (by decide +kernel) rfl
theorem wi_yJ0_init_db425 : Cond.instanceMethod yJ0_init_db425 ∈ n_tb := n_a4 31 (by decide +kernel) rfl
set_option maxRecDepth 100000 in
theorem wc_yJ0_init_db425 : Cond.code yJ0_init_db425 cJ0_init_db425 5 (Option.none : Option Jvm.ClassFile.FieldType) ∈ n_tb := n_a4 32 rfl rfl
theorem wmJ0_552 : Cond.methodLink "java/lang/String" 552 yJ5_getValue_6d5f1 ∈ n_tb := n_a4 34 (by decide +kernel) rfl
theorem wi_yJ5_getValue_6d5f1 : Cond.instanceMethod yJ5_getValue_6d5f1 ∈ n_tb := n_a4 35 (by decide +kernel) rfl
set_option maxRecDepth 100000 in
theorem wc_yJ5_getValue_6d5f1 : Cond.code yJ5_getValue_6d5f1 cJ5_getValue_6d5f1 1 (Option.some (Jvm.ClassFile.FieldType.array Jvm.ClassFile.FieldType.byte)) ∈ n_tb := n_a4 38 rfl rfl
theorem wmJ0_549 : Cond.methodLink "java/lang/String" 549 yJ5_length_8abf5 ∈ n_tb := n_a4 39 (by decide +kernel) rfl
theorem wi_yJ5_length_8abf5 : Cond.instanceMethod yJ5_length_8abf5 ∈ n_tb := n_a4 40 (by decide +kernel) rfl
theorem wi_yJ4_length_8abf5 : Cond.instanceMethod yJ4_length_8abf5 ∈ n_tb := n_a4 43 (by decide +kernel) rfl
set_option maxRecDepth 100000 in
theorem wc_yJ4_length_8abf5 : Cond.code yJ4_length_8abf5 cJ4_length_8abf5 1 (Option.some Jvm.ClassFile.FieldType.int) ∈ n_tb := n_a4 44 rfl rfl
theorem wmJ4_343 : Cond.methodLink "java/lang/StringBuilder" 343 yJ5_length_8abf5 ∈ n_tb := n_a4 45 (by decide +kernel) rfl
set_option maxRecDepth 100000 in
theorem wc_yJ5_length_8abf5 : Cond.code yJ5_length_8abf5 cJ5_length_8abf5 1 (Option.some Jvm.ClassFile.FieldType.int) ∈ n_tb := n_a4 46 rfl rfl
theorem wmJ0_1047 : Cond.methodLink "java/lang/String" 1047 yJ5_isLatin1_aae02 ∈ n_tb := n_a4 47 (by decide +kernel) rfl
theorem wmJ0_54 : Cond.methodLink "java/lang/String" 54 yJ7_copyOfRange_39247 ∈ n_tb := n_a4 48 (by decide +kernel) rfl
theorem ws_yJ7_copyOfRange_39247 : Cond.static yJ7_copyOfRange_39247 ∈ n_tb := n_a4 49 (by decide +kernel) rfl
set_option maxRecDepth 100000 in
theorem wc_yJ7_copyOfRange_39247 : Cond.code yJ7_copyOfRange_39247 cJ7_copyOfRange_39247 3 (Option.some (Jvm.ClassFile.FieldType.array Jvm.ClassFile.FieldType.byte)) ∈ n_tb := n_a4 50 rfl rfl
theorem wmJ7_339 : Cond.methodLink "java/util/Arrays" 339 yJ7_copyOfRangeByte_39247 ∈ n_tb := n_a4 51 (by decide +kernel) rfl
theorem ws_yJ7_copyOfRangeByte_39247 : Cond.static yJ7_copyOfRangeByte_39247 ∈ n_tb := n_a4 52 (by decide +kernel) rfl
set_option maxRecDepth 100000 in
theorem wc_yJ7_copyOfRangeByte_39247 : Cond.code yJ7_copyOfRangeByte_39247 cJ7_copyOfRangeByte_39247 5 (Option.some (Jvm.ClassFile.FieldType.array Jvm.ClassFile.FieldType.byte)) ∈ n_tb := n_a4 53 rfl rfl
theorem wmJ7_343 : Cond.methodLink "java/util/Arrays" 343 yJ7_checkLength_df160 ∈ n_tb := n_a4 54 (by decide +kernel) rfl
theorem ws_yJ7_checkLength_df160 : Cond.static yJ7_checkLength_df160 ∈ n_tb := n_a4 55 (by decide +kernel) rfl
set_option maxRecDepth 100000 in
theorem wc_yJ7_checkLength_df160 : Cond.code yJ7_checkLength_df160 cJ7_checkLength_df160 2 (Option.none : Option Jvm.ClassFile.FieldType) ∈ n_tb := n_a4 56 rfl rfl
theorem wmJ0_1051 : Cond.methodLink "java/lang/String" 1051 yJ2_compress_39247 ∈ n_tb := n_a4 83 (by decide +kernel) rfl
theorem ws_yJ2_compress_39247 : Cond.static yJ2_compress_39247 ∈ n_tb := n_a4 84 (by decide +kernel) rfl
set_option maxRecDepth 100000 in
theorem wc_yJ2_compress_39247 : Cond.code yJ2_compress_39247 cJ2_compress_39247 6 (Option.some (Jvm.ClassFile.FieldType.array Jvm.ClassFile.FieldType.byte)) ∈ n_tb := n_a4 85 rfl rfl
theorem wmJ2_123 : Cond.methodLink "java/lang/StringUTF16" 123 yJ2_compress_5af95 ∈ n_tb := n_a4 86 (by decide +kernel) rfl
theorem ws_yJ2_compress_5af95 : Cond.static yJ2_compress_5af95 ∈ n_tb := n_a4 87 (by decide +kernel) rfl
set_option maxRecDepth 100000 in
theorem wc_yJ2_compress_5af95 : Cond.code yJ2_compress_5af95 cJ2_compress_5af95 7 (Option.some Jvm.ClassFile.FieldType.int) ∈ n_tb := n_a4 88 rfl rfl
theorem wmJ2_71 : Cond.methodLink "java/lang/StringUTF16" 71 yJ2_getChar_3b067 ∈ n_tb := n_a4 89 (by decide +kernel) rfl
theorem ws_yJ2_getChar_3b067 : Cond.static yJ2_getChar_3b067 ∈ n_tb := n_a4 90 (by decide +kernel) rfl
set_option maxRecDepth 100000 in
theorem wc_yJ2_getChar_3b067 : Cond.code yJ2_getChar_3b067 cJ2_getChar_3b067 2 (Option.some Jvm.ClassFile.FieldType.char) ∈ n_tb := n_a4 91 rfl rfl
theorem wmJ2_126 : Cond.methodLink "java/lang/StringUTF16" 126 yJ7_copyOfRange_39247 ∈ n_tb := n_a4 92 (by decide +kernel) rfl
theorem wmJ0_47 : Cond.methodLink "java/lang/String" 47 yJ2_coderFromArrayLen_85cad ∈ n_tb := n_a4 93 (by decide +kernel) rfl
theorem ws_yJ2_coderFromArrayLen_85cad : Cond.static yJ2_coderFromArrayLen_85cad ∈ n_tb := n_a4 94 (by decide +kernel) rfl
set_option maxRecDepth 100000 in
theorem wc_yJ2_coderFromArrayLen_85cad : Cond.code yJ2_coderFromArrayLen_85cad cJ2_coderFromArrayLen_85cad 2 (Option.some Jvm.ClassFile.FieldType.byte) ∈ n_tb := n_a4 95 rfl rfl
theorem wfJ0_9 : Cond.fieldLink "java/lang/String" 9 "java/lang/String" "value" "[B" ∈ n_tb := n_a4 96 (by decide +kernel) rfl
theorem wfJ0_15 : Cond.fieldLink "java/lang/String" 15 "java/lang/String" "coder" "B" ∈ n_tb := n_a4 97 (by decide +kernel) rfl
theorem wmX3_25 : Cond.methodLink "ShareMonitor$Memory" 25 yJ9_max_7cf53 ∈ n_tb := n_a4 129 (by decide +kernel) rfl
theorem wmX10_224 : Cond.methodLink "ShareMonitor$Worker" 224 yX10_release ∈ n_tb := n_a4 130 (by decide +kernel) rfl
theorem wi_yX10_release : Cond.instanceMethod yX10_release ∈ n_tb := n_a4 132 (by decide +kernel) rfl
set_option maxRecDepth 100000 in
theorem wc_yX10_release : Cond.code yX10_release cX10_release 3 (Option.some Jvm.ClassFile.FieldType.int) ∈ n_tb := n_a4 133 rfl rfl
theorem wmX10_236 : Cond.methodLink "ShareMonitor$Worker" 236 yX3_holdsFrom ∈ n_tb := n_a4 134 (by decide +kernel) rfl
theorem wi_yX3_holdsFrom : Cond.instanceMethod yX3_holdsFrom ∈ n_tb := n_a4 135 (by decide +kernel) rfl
theorem wv_yX3_holdsFrom : Cond.selects "ShareMonitor$Memory" yX3_holdsFrom yX3_holdsFrom ∈ n_tb := n_a4 136 (by decide +kernel) rfl
set_option maxRecDepth 100000 in
theorem wc_yX3_holdsFrom : Cond.code yX3_holdsFrom cX3_holdsFrom 3 (Option.some Jvm.ClassFile.FieldType.boolean) ∈ n_tb := n_a4 137 rfl rfl
theorem wmX3_37 : Cond.methodLink "ShareMonitor$Memory" 37 yX3_holds ∈ n_tb := n_a4 138 (by decide +kernel) rfl
theorem wmX10_239 : Cond.methodLink "ShareMonitor$Worker" 239 yX3_regain ∈ n_tb := n_a4 139 (by decide +kernel) rfl
theorem wi_yX3_regain : Cond.instanceMethod yX3_regain ∈ n_tb := n_a4 140 (by decide +kernel) rfl
theorem wv_yX3_regain : Cond.selects "ShareMonitor$Memory" yX3_regain yX3_regain ∈ n_tb := n_a4 141 (by decide +kernel) rfl
set_option maxRecDepth 100000 in
theorem wc_yX3_regain : Cond.code yX3_regain cX3_regain 6 (Option.none : Option Jvm.ClassFile.FieldType) ∈ n_tb := n_a4 142 rfl rfl
theorem wmX3_41 : Cond.methodLink "ShareMonitor$Memory" 41 yJ9_min_7cf53 ∈ n_tb := n_a4 143 (by decide +kernel) rfl
theorem wmX10_228 : Cond.methodLink "ShareMonitor$Worker" 228 yX2_find ∈ n_tb := n_a4 144 (by decide +kernel) rfl
theorem wmX10_232 : Cond.methodLink "ShareMonitor$Worker" 232 yX10_give ∈ n_tb := n_a4 145 (by decide +kernel) rfl
theorem wi_yX10_give : Cond.instanceMethod yX10_give ∈ n_tb := n_a4 147 (by decide +kernel) rfl
set_option maxRecDepth 100000 in
theorem wc_yX10_give : Cond.code yX10_give cX10_give 4 (Option.some Jvm.ClassFile.FieldType.int) ∈ n_tb := n_a4 148 rfl rfl
theorem wmX10_243 : Cond.methodLink "ShareMonitor$Worker" 243 yX3_hand ∈ n_tb := n_a4 149 (by decide +kernel) rfl
theorem wi_yX3_hand : Cond.instanceMethod yX3_hand ∈ n_tb := n_a4 150 (by decide +kernel) rfl
theorem wv_yX3_hand : Cond.selects "ShareMonitor$Memory" yX3_hand yX3_hand ∈ n_tb := n_a4 151 (by decide +kernel) rfl
set_option maxRecDepth 100000 in
theorem wc_yX3_hand : Cond.code yX3_hand cX3_hand 4 (Option.none : Option Jvm.ClassFile.FieldType) ∈ n_tb := n_a4 152 rfl rfl
theorem wmX10_147 : Cond.methodLink "ShareMonitor$Worker" 147 yX10_talk ∈ n_tb := n_a4 153 (by decide +kernel) rfl
theorem wi_yX10_talk : Cond.instanceMethod yX10_talk ∈ n_tb := n_a4 155 (by decide +kernel) rfl
set_option maxRecDepth 100000 in
theorem wc_yX10_talk : Cond.code yX10_talk cX10_talk 4 (Option.some Jvm.ClassFile.FieldType.int) ∈ n_tb := n_a4 156 rfl rfl
theorem wmX10_246 : Cond.methodLink "ShareMonitor$Worker" 246 yX10_send ∈ n_tb := n_a4 157 (by decide +kernel) rfl
theorem wi_yX10_send : Cond.instanceMethod yX10_send ∈ n_tb := n_a4 159 (by decide +kernel) rfl
set_option maxRecDepth 100000 in
theorem wc_yX10_send : Cond.code yX10_send cX10_send 4 (Option.some Jvm.ClassFile.FieldType.int) ∈ n_tb := n_a4 160 rfl rfl
theorem wmX10_261 : Cond.methodLink "ShareMonitor$Worker" 261 yX2_deliver ∈ n_tb := n_a4 161 (by decide +kernel) rfl
theorem wi_yX2_deliver : Cond.instanceMethod yX2_deliver ∈ n_tb := n_a4 162 (by decide +kernel) rfl
theorem wv_yX2_deliver : Cond.selects "ShareMonitor$Desk" yX2_deliver yX2_deliver ∈ n_tb := n_a4 163 (by decide +kernel) rfl
set_option maxRecDepth 100000 in
theorem wc_yX2_deliver : Cond.code yX2_deliver cX2_deliver 4 (Option.some Jvm.ClassFile.FieldType.boolean) ∈ n_tb := n_a4 164 rfl rfl
theorem wmX2_99 : Cond.methodLink "ShareMonitor$Desk" 99 yX1_put ∈ n_tb := n_a4 165 (by decide +kernel) rfl
theorem wi_yX1_put : Cond.instanceMethod yX1_put ∈ n_tb := n_a4 166 (by decide +kernel) rfl
theorem wv_yX1_put : Cond.selects "ShareMonitor$Box" yX1_put yX1_put ∈ n_tb := n_a4 167 (by decide +kernel) rfl
set_option maxRecDepth 100000 in
theorem wc_yX1_put : Cond.code yX1_put cX1_put 3 (Option.some Jvm.ClassFile.FieldType.boolean) ∈ n_tb := n_a4 168 rfl rfl
theorem wmX10_255 : Cond.methodLink "ShareMonitor$Worker" 255 yX1_dropFirst ∈ n_tb := n_a4 169 (by decide +kernel) rfl
theorem wi_yX1_dropFirst : Cond.instanceMethod yX1_dropFirst ∈ n_tb := n_a4 170 (by decide +kernel) rfl
theorem wv_yX1_dropFirst : Cond.selects "ShareMonitor$Box" yX1_dropFirst yX1_dropFirst ∈ n_tb := n_a4 171 (by decide +kernel) rfl
set_option maxRecDepth 100000 in
theorem wc_yX1_dropFirst : Cond.code yX1_dropFirst cX1_dropFirst 2 (Option.none : Option Jvm.ClassFile.FieldType) ∈ n_tb := n_a4 172 rfl rfl
theorem wmX10_258 : Cond.methodLink "ShareMonitor$Worker" 258 yX2_show ∈ n_tb := n_a4 173 (by decide +kernel) rfl
theorem wi_yX2_show : Cond.instanceMethod yX2_show ∈ n_tb := n_a4 174 (by decide +kernel) rfl
theorem wv_yX2_show : Cond.selects "ShareMonitor$Desk" yX2_show yX2_show ∈ n_tb := n_a4 175 (by decide +kernel) rfl
set_option maxRecDepth 100000 in
theorem wc_yX2_show : Cond.code yX2_show cX2_show 2 (Option.none : Option Jvm.ClassFile.FieldType) ∈ n_tb := n_a4 176 rfl rfl
theorem wmX10_150 : Cond.methodLink "ShareMonitor$Worker" 150 yX10_useChildren ∈ n_tb := n_a4 177 (by decide +kernel) rfl
theorem wi_yX10_useChildren : Cond.instanceMethod yX10_useChildren ∈ n_tb := n_a4 179 (by decide +kernel) rfl
set_option maxRecDepth 100000 in
theorem wc_yX10_useChildren : Cond.code yX10_useChildren cX10_useChildren 6 (Option.some Jvm.ClassFile.FieldType.int) ∈ n_tb := n_a4 180 rfl rfl
theorem wmX10_265 : Cond.methodLink "ShareMonitor$Worker" 265 yX10_spawn ∈ n_tb := n_a4 181 (by decide +kernel) rfl
theorem wi_yX10_spawn : Cond.instanceMethod yX10_spawn ∈ n_tb := n_a4 183 (by decide +kernel) rfl
set_option maxRecDepth 100000 in
theorem wc_yX10_spawn : Cond.code yX10_spawn cX10_spawn 4 (Option.some Jvm.ClassFile.FieldType.int) ∈ n_tb := n_a4 184 rfl rfl
theorem wmX10_272 : Cond.methodLink "ShareMonitor$Worker" 272 yX2_leastFree ∈ n_tb := n_a4 185 (by decide +kernel) rfl
theorem wi_yX2_leastFree : Cond.instanceMethod yX2_leastFree ∈ n_tb := n_a4 186 (by decide +kernel) rfl
theorem wv_yX2_leastFree : Cond.selects "ShareMonitor$Desk" yX2_leastFree yX2_leastFree ∈ n_tb := n_a4 187 (by decide +kernel) rfl
set_option maxRecDepth 100000 in
theorem wc_yX2_leastFree : Cond.code yX2_leastFree cX2_leastFree 2 (Option.some (Jvm.ClassFile.FieldType.object "ShareMonitor$UserProcess")) ∈ n_tb := n_a4 188 rfl rfl
theorem wmX10_279 : Cond.methodLink "ShareMonitor$Worker" 279 yX2_admit ∈ n_tb := n_a4 189 (by decide +kernel) rfl
theorem wi_yX2_admit : Cond.instanceMethod yX2_admit ∈ n_tb := n_a4 190 (by decide +kernel) rfl
theorem wv_yX2_admit : Cond.selects "ShareMonitor$Desk" yX2_admit yX2_admit ∈ n_tb := n_a4 191 (by decide +kernel) rfl
set_option maxRecDepth 100000 in
theorem wc_yX2_admit : Cond.code yX2_admit cX2_admit 4 (Option.none : Option Jvm.ClassFile.FieldType) ∈ n_tb := n_a4 192 rfl rfl
theorem wmX10_268 : Cond.methodLink "ShareMonitor$Worker" 268 yX10_collect ∈ n_tb := n_a4 193 (by decide +kernel) rfl
theorem wi_yX10_collect : Cond.instanceMethod yX10_collect ∈ n_tb := n_a4 195 (by decide +kernel) rfl
set_option maxRecDepth 100000 in
theorem wc_yX10_collect : Cond.code yX10_collect cX10_collect 3 (Option.none : Option Jvm.ClassFile.FieldType) ∈ n_tb := n_a4 196 rfl rfl
theorem wmX10_289 : Cond.methodLink "ShareMonitor$Worker" 289 yX9_vanish ∈ n_tb := n_a4 197 (by decide +kernel) rfl
theorem wi_yX9_vanish : Cond.instanceMethod yX9_vanish ∈ n_tb := n_a4 198 (by decide +kernel) rfl
theorem wv_yX9_vanish : Cond.selects "ShareMonitor$UserProcess" yX9_vanish yX9_vanish ∈ n_tb := n_a4 199 (by decide +kernel) rfl
set_option maxRecDepth 100000 in
theorem wc_yX9_vanish : Cond.code yX9_vanish cX9_vanish 1 (Option.none : Option Jvm.ClassFile.FieldType) ∈ n_tb := n_a4 200 rfl rfl
theorem wmX9_65 : Cond.methodLink "ShareMonitor$UserProcess" 65 yX9_empty ∈ n_tb := n_a4 201 (by decide +kernel) rfl
theorem wi_yX9_empty : Cond.instanceMethod yX9_empty ∈ n_tb := n_a4 202 (by decide +kernel) rfl
theorem wv_yX9_empty : Cond.selects "ShareMonitor$UserProcess" yX9_empty yX9_empty ∈ n_tb := n_a4 203 (by decide +kernel) rfl
set_option maxRecDepth 100000 in
theorem wc_yX9_empty : Cond.code yX9_empty cX9_empty 1 (Option.none : Option Jvm.ClassFile.FieldType) ∈ n_tb := n_a4 204 rfl rfl
theorem wmX10_54 : Cond.methodLink "ShareMonitor$Worker" 54 yX2_finish ∈ n_tb := n_a4 205 (by decide +kernel) rfl
theorem wi_yX2_finish : Cond.instanceMethod yX2_finish ∈ n_tb := n_a4 206 (by decide +kernel) rfl
theorem wv_yX2_finish : Cond.selects "ShareMonitor$Desk" yX2_finish yX2_finish ∈ n_tb := n_a4 207 (by decide +kernel) rfl
set_option maxRecDepth 100000 in
theorem wc_yX2_finish : Cond.code yX2_finish cX2_finish 5 (Option.none : Option Jvm.ClassFile.FieldType) ∈ n_tb := n_a4 208 rfl rfl
theorem wmX2_111 : Cond.methodLink "ShareMonitor$Desk" 111 yX3_regain ∈ n_tb := n_a4 209 (by decide +kernel) rfl
theorem wmX2_115 : Cond.methodLink "ShareMonitor$Desk" 115 yX9_empty ∈ n_tb := n_a4 210 (by decide +kernel) rfl
theorem wmX2_118 : Cond.methodLink "ShareMonitor$Desk" 118 yX9_vanish ∈ n_tb := n_a4 211 (by decide +kernel) rfl
theorem wmX10_153 : Cond.methodLink "ShareMonitor$Worker" 153 yX10_takeTurn ∈ n_tb := n_a4 212 (by decide +kernel) rfl
theorem wi_yX10_takeTurn : Cond.instanceMethod yX10_takeTurn ∈ n_tb := n_a4 214 (by decide +kernel) rfl
set_option maxRecDepth 100000 in
theorem wc_yX10_takeTurn : Cond.code yX10_takeTurn cX10_takeTurn 4 (Option.some Jvm.ClassFile.FieldType.int) ∈ n_tb := n_a4 215 rfl rfl
theorem wfX10_292 : Cond.fieldLink "ShareMonitor$Worker" 292 "ShareMonitor$Op" "YIELD" "LShareMonitor$Op;" ∈ n_tb := n_a4 216 (by decide +kernel) rfl
theorem wmX10_70 : Cond.methodLink "ShareMonitor$Worker" 70 yX2_putLast ∈ n_tb := n_a4 218 (by decide +kernel) rfl
theorem wi_yX2_putLast : Cond.instanceMethod yX2_putLast ∈ n_tb := n_a4 219 (by decide +kernel) rfl
theorem wv_yX2_putLast : Cond.selects "ShareMonitor$Desk" yX2_putLast yX2_putLast ∈ n_tb := n_a4 220 (by decide +kernel) rfl
set_option maxRecDepth 100000 in
theorem wc_yX2_putLast : Cond.code yX2_putLast cX2_putLast 3 (Option.none : Option Jvm.ClassFile.FieldType) ∈ n_tb := n_a4 221 rfl rfl
theorem wfX10_295 : Cond.fieldLink "ShareMonitor$Worker" 295 "ShareMonitor$Op" "DOWN" "LShareMonitor$Op;" ∈ n_tb := n_a4 222 (by decide +kernel) rfl
theorem wfX10_298 : Cond.fieldLink "ShareMonitor$Worker" 298 "ShareMonitor$Op" "UP" "LShareMonitor$Op;" ∈ n_tb := n_a4 224 (by decide +kernel) rfl
theorem wmX10_301 : Cond.methodLink "ShareMonitor$Worker" 301 yX10_useSemaphore ∈ n_tb := n_a4 226 (by decide +kernel) rfl
theorem wi_yX10_useSemaphore : Cond.instanceMethod yX10_useSemaphore ∈ n_tb := n_a4 228 (by decide +kernel) rfl
set_option maxRecDepth 100000 in
theorem wc_yX10_useSemaphore : Cond.code yX10_useSemaphore cX10_useSemaphore 6 (Option.some Jvm.ClassFile.FieldType.int) ∈ n_tb := n_a4 229 rfl rfl
theorem wmX10_314 : Cond.methodLink "ShareMonitor$Worker" 314 yX7_first ∈ n_tb := n_a4 230 (by decide +kernel) rfl
theorem wmX10_319 : Cond.methodLink "ShareMonitor$Worker" 319 yX7_leave ∈ n_tb := n_a4 231 (by decide +kernel) rfl
theorem wmX10_322 : Cond.methodLink "ShareMonitor$Worker" 322 yX2_makeReady ∈ n_tb := n_a4 232 (by decide +kernel) rfl
theorem wmX10_330 : Cond.methodLink "ShareMonitor$Worker" 330 yX7_join ∈ n_tb := n_a4 234 (by decide +kernel) rfl
theorem wfX10_304 : Cond.fieldLink "ShareMonitor$Worker" 304 "ShareMonitor$Op" "LEVEL" "LShareMonitor$Op;" ∈ n_tb := n_a4 235 (by decide +kernel) rfl
theorem wmX10_307 : Cond.methodLink "ShareMonitor$Worker" 307 yX2_putToSleep ∈ n_tb := n_a4 237 (by decide +kernel) rfl
theorem wi_yX2_putToSleep : Cond.instanceMethod yX2_putToSleep ∈ n_tb := n_a4 238 (by decide +kernel) rfl
theorem wv_yX2_putToSleep : Cond.selects "ShareMonitor$Desk" yX2_putToSleep yX2_putToSleep ∈ n_tb := n_a4 239 (by decide +kernel) rfl
set_option maxRecDepth 100000 in
theorem wc_yX2_putToSleep : Cond.code yX2_putToSleep cX2_putToSleep 4 (Option.none : Option Jvm.ClassFile.FieldType) ∈ n_tb := n_a5 0 rfl rfl
theorem wmX2_129 : Cond.methodLink "ShareMonitor$Desk" 129 yJ9_min_f86c9 ∈ n_tb := n_a5 2 (by decide +kernel) rfl
theorem ws_yJ9_min_f86c9 : Cond.static yJ9_min_f86c9 ∈ n_tb := n_a5 3 (by decide +kernel) rfl
set_option maxRecDepth 100000 in
theorem wc_yJ9_min_f86c9 : Cond.code yJ9_min_f86c9 cJ9_min_f86c9 4 (Option.some Jvm.ClassFile.FieldType.long) ∈ n_tb := n_a5 4 rfl rfl
theorem wmX2_138 : Cond.methodLink "ShareMonitor$Desk" 138 yX2_suspend ∈ n_tb := n_a5 5 (by decide +kernel) rfl
theorem wmX10_47 : Cond.methodLink "ShareMonitor$Worker" 47 yX10_settle ∈ n_tb := n_a5 6 (by decide +kernel) rfl
theorem wi_yX10_settle : Cond.instanceMethod yX10_settle ∈ n_tb := n_a5 8 (by decide +kernel) rfl
set_option maxRecDepth 100000 in
theorem wc_yX10_settle : Cond.code yX10_settle cX10_settle 3 (Option.none : Option Jvm.ClassFile.FieldType) ∈ n_tb := n_a5 9 rfl rfl
theorem wmL_82 : Cond.methodLink "ShareMonitorLaw" 82 yL_feed ∈ n_tb := n_a5 10 (by decide +kernel) rfl
theorem ws_yL_feed : Cond.static yL_feed ∈ n_tb := n_a5 11 (by decide +kernel) rfl
theorem wmL_7 : Cond.methodLink "ShareMonitorLaw" 7 yX11_feed ∈ n_tb := n_a5 14 (by decide +kernel) rfl
theorem wi_yX11_feed : Cond.instanceMethod yX11_feed ∈ n_tb := n_a5 15 (by decide +kernel) rfl
theorem wv_yX11_feed : Cond.selects "ShareMonitor" yX11_feed yX11_feed ∈ n_tb := n_a5 16 (by decide +kernel) rfl
set_option maxRecDepth 100000 in
theorem wc_yX11_feed : Cond.code yX11_feed cX11_feed 6 (Option.some Jvm.ClassFile.FieldType.int) ∈ n_tb := n_a5 17 rfl rfl
theorem wmX11_52 : Cond.methodLink "ShareMonitor" 52 yX8_append ∈ n_tb := n_a5 34 (by decide +kernel) rfl
theorem wi_yX8_append : Cond.instanceMethod yX8_append ∈ n_tb := n_a5 35 (by decide +kernel) rfl
theorem wv_yX8_append : Cond.selects "ShareMonitor$Tape" yX8_append yX8_append ∈ n_tb := n_a5 36 (by decide +kernel) rfl
set_option maxRecDepth 100000 in
theorem wc_yX8_append : Cond.code yX8_append cX8_append 3 (Option.none : Option Jvm.ClassFile.FieldType) ∈ n_tb := n_a5 37 rfl rfl
theorem wmL_92 : Cond.methodLink "ShareMonitorLaw" 92 yL_end ∈ n_tb := n_a5 38 (by decide +kernel) rfl
theorem ws_yL_end : Cond.static yL_end ∈ n_tb := n_a5 39 (by decide +kernel) rfl
theorem wmL_15 : Cond.methodLink "ShareMonitorLaw" 15 yX11_end ∈ n_tb := n_a5 42 (by decide +kernel) rfl
theorem wi_yX11_end : Cond.instanceMethod yX11_end ∈ n_tb := n_a5 43 (by decide +kernel) rfl
theorem wv_yX11_end : Cond.selects "ShareMonitor" yX11_end yX11_end ∈ n_tb := n_a5 44 (by decide +kernel) rfl
set_option maxRecDepth 100000 in
theorem wc_yX11_end : Cond.code yX11_end cX11_end 2 (Option.none : Option Jvm.ClassFile.FieldType) ∈ n_tb := n_a5 45 rfl rfl
theorem wmL_96 : Cond.methodLink "ShareMonitorLaw" 96 yL_load ∈ n_tb := n_a5 49 (by decide +kernel) rfl
theorem ws_yL_load : Cond.static yL_load ∈ n_tb := n_a5 50 (by decide +kernel) rfl
theorem wmL_21 : Cond.methodLink "ShareMonitorLaw" 21 yX11_load ∈ n_tb := n_a5 53 (by decide +kernel) rfl
theorem wi_yX11_load : Cond.instanceMethod yX11_load ∈ n_tb := n_a5 54 (by decide +kernel) rfl
theorem wv_yX11_load : Cond.selects "ShareMonitor" yX11_load yX11_load ∈ n_tb := n_a5 55 (by decide +kernel) rfl
set_option maxRecDepth 100000 in
theorem wc_yX11_load : Cond.code yX11_load cX11_load 4 (Option.some Jvm.ClassFile.FieldType.int) ∈ n_tb := n_a5 56 rfl rfl
theorem wmX11_66 : Cond.methodLink "ShareMonitor" 66 yX2_leastFree ∈ n_tb := n_a5 70 (by decide +kernel) rfl
theorem wmX11_70 : Cond.methodLink "ShareMonitor" 70 yX2_spareProgram ∈ n_tb := n_a5 71 (by decide +kernel) rfl
theorem wi_yX2_spareProgram : Cond.instanceMethod yX2_spareProgram ∈ n_tb := n_a5 72 (by decide +kernel) rfl
theorem wv_yX2_spareProgram : Cond.selects "ShareMonitor$Desk" yX2_spareProgram yX2_spareProgram ∈ n_tb := n_a5 73 (by decide +kernel) rfl
set_option maxRecDepth 100000 in
theorem wc_yX2_spareProgram : Cond.code yX2_spareProgram cX2_spareProgram 2 (Option.some (Jvm.ClassFile.FieldType.object "ShareMonitor$Program")) ∈ n_tb := n_a5 74 rfl rfl
theorem wmX11_76 : Cond.methodLink "ShareMonitor" 76 yX6_read ∈ n_tb := n_a5 76 (by decide +kernel) rfl
theorem wi_yX6_read : Cond.instanceMethod yX6_read ∈ n_tb := n_a5 77 (by decide +kernel) rfl
theorem wv_yX6_read : Cond.selects "ShareMonitor$Reader" yX6_read yX6_read ∈ n_tb := n_a5 78 (by decide +kernel) rfl
set_option maxRecDepth 100000 in
theorem wc_yX6_read : Cond.code yX6_read cX6_read 3 (Option.none : Option Jvm.ClassFile.FieldType) ∈ n_tb := n_a5 79 rfl rfl
theorem wmX6_49 : Cond.methodLink "ShareMonitor$Reader" 49 yX6_findWord ∈ n_tb := n_a5 80 (by decide +kernel) rfl
theorem wi_yX6_findWord : Cond.instanceMethod yX6_findWord ∈ n_tb := n_a5 82 (by decide +kernel) rfl
set_option maxRecDepth 100000 in
theorem wc_yX6_findWord : Cond.code yX6_findWord cX6_findWord 1 (Option.some Jvm.ClassFile.FieldType.boolean) ∈ n_tb := n_a5 83 rfl rfl
theorem wmX6_69 : Cond.methodLink "ShareMonitor$Reader" 69 yX6_placeBehindBlanks ∈ n_tb := n_a5 84 (by decide +kernel) rfl
theorem wi_yX6_placeBehindBlanks : Cond.instanceMethod yX6_placeBehindBlanks ∈ n_tb := n_a5 86 (by decide +kernel) rfl
set_option maxRecDepth 100000 in
theorem wc_yX6_placeBehindBlanks : Cond.code yX6_placeBehindBlanks cX6_placeBehindBlanks 5 (Option.some Jvm.ClassFile.FieldType.int) ∈ n_tb := n_a5 87 rfl rfl
theorem wmX6_76 : Cond.methodLink "ShareMonitor$Reader" 76 yX8_at ∈ n_tb := n_a5 88 (by decide +kernel) rfl
theorem wi_yX8_at : Cond.instanceMethod yX8_at ∈ n_tb := n_a5 89 (by decide +kernel) rfl
theorem wv_yX8_at : Cond.selects "ShareMonitor$Tape" yX8_at yX8_at ∈ n_tb := n_a5 90 (by decide +kernel) rfl
set_option maxRecDepth 100000 in
theorem wc_yX8_at : Cond.code yX8_at cX8_at 2 (Option.some Jvm.ClassFile.FieldType.int) ∈ n_tb := n_a5 91 rfl rfl
theorem wmX6_79 : Cond.methodLink "ShareMonitor$Reader" 79 yX6_isBlank ∈ n_tb := n_a5 92 (by decide +kernel) rfl
theorem ws_yX6_isBlank : Cond.static yX6_isBlank ∈ n_tb := n_a5 93 (by decide +kernel) rfl
set_option maxRecDepth 100000 in
theorem wc_yX6_isBlank : Cond.code yX6_isBlank cX6_isBlank 1 (Option.some Jvm.ClassFile.FieldType.boolean) ∈ n_tb := n_a5 94 rfl rfl
theorem wmX6_53 : Cond.methodLink "ShareMonitor$Reader" 53 yX6_readWord ∈ n_tb := n_a5 95 (by decide +kernel) rfl
theorem wi_yX6_readWord : Cond.instanceMethod yX6_readWord ∈ n_tb := n_a5 97 (by decide +kernel) rfl
set_option maxRecDepth 100000 in
theorem wc_yX6_readWord : Cond.code yX6_readWord cX6_readWord 5 (Option.none : Option Jvm.ClassFile.FieldType) ∈ n_tb := n_a5 98 rfl rfl
theorem wmX6_83 : Cond.methodLink "ShareMonitor$Reader" 83 yX6_numberHere ∈ n_tb := n_a5 99 (by decide +kernel) rfl
theorem wi_yX6_numberHere : Cond.instanceMethod yX6_numberHere ∈ n_tb := n_a5 101 (by decide +kernel) rfl
set_option maxRecDepth 100000 in
theorem wc_yX6_numberHere : Cond.code yX6_numberHere cX6_numberHere 7 (Option.some Jvm.ClassFile.FieldType.long) ∈ n_tb := n_a5 102 rfl rfl
theorem wmX6_132 : Cond.methodLink "ShareMonitor$Reader" 132 yX6_isDigit ∈ n_tb := n_a5 103 (by decide +kernel) rfl
theorem ws_yX6_isDigit : Cond.static yX6_isDigit ∈ n_tb := n_a5 104 (by decide +kernel) rfl
set_option maxRecDepth 100000 in
theorem wc_yX6_isDigit : Cond.code yX6_isDigit cX6_isDigit 1 (Option.some Jvm.ClassFile.FieldType.boolean) ∈ n_tb := n_a5 105 rfl rfl
theorem wmX6_139 : Cond.methodLink "ShareMonitor$Reader" 139 yJ9_min_f86c9 ∈ n_tb := n_a5 109 (by decide +kernel) rfl
theorem wfX6_89 : Cond.fieldLink "ShareMonitor$Reader" 89 "ShareMonitor$Op" "NUMBER" "LShareMonitor$Op;" ∈ n_tb := n_a5 111 (by decide +kernel) rfl
theorem wmX6_95 : Cond.methodLink "ShareMonitor$Reader" 95 yX6_addInstruction ∈ n_tb := n_a5 112 (by decide +kernel) rfl
theorem wi_yX6_addInstruction : Cond.instanceMethod yX6_addInstruction ∈ n_tb := n_a5 114 (by decide +kernel) rfl
set_option maxRecDepth 100000 in
theorem wc_yX6_addInstruction : Cond.code yX6_addInstruction cX6_addInstruction 5 (Option.none : Option Jvm.ClassFile.FieldType) ∈ n_tb := n_a5 115 rfl rfl
theorem wmX6_65 : Cond.methodLink "ShareMonitor$Reader" 65 yX6_blame ∈ n_tb := n_a5 116 (by decide +kernel) rfl
theorem wi_yX6_blame : Cond.instanceMethod yX6_blame ∈ n_tb := n_a5 118 (by decide +kernel) rfl
set_option maxRecDepth 100000 in
theorem wc_yX6_blame : Cond.code yX6_blame cX6_blame 3 (Option.none : Option Jvm.ClassFile.FieldType) ∈ n_tb := n_a5 119 rfl rfl
theorem wmX6_99 : Cond.methodLink "ShareMonitor$Reader" 99 yX4_written ∈ n_tb := n_a5 120 (by decide +kernel) rfl
theorem ws_yX4_written : Cond.static yX4_written ∈ n_tb := n_a5 121 (by decide +kernel) rfl
set_option maxRecDepth 100000 in
theorem wc_yX4_written : Cond.code yX4_written cX4_written 4 (Option.some (Jvm.ClassFile.FieldType.object "ShareMonitor$Op")) ∈ n_tb := n_a5 122 rfl rfl
theorem wfX4_168 : Cond.fieldLink "ShareMonitor$Op" 168 "ShareMonitor$Op" "ALL" "[LShareMonitor$Op;" ∈ n_tb := n_a5 123 (by decide +kernel) rfl
theorem wmX4_171 : Cond.methodLink "ShareMonitor$Op" 171 yX8_says ∈ n_tb := n_a5 125 (by decide +kernel) rfl
theorem wi_yX8_says : Cond.instanceMethod yX8_says ∈ n_tb := n_a5 126 (by decide +kernel) rfl
theorem wv_yX8_says : Cond.selects "ShareMonitor$Tape" yX8_says yX8_says ∈ n_tb := n_a5 127 (by decide +kernel) rfl
set_option maxRecDepth 100000 in
theorem wc_yX8_says : Cond.code yX8_says cX8_says 5 (Option.some Jvm.ClassFile.FieldType.boolean) ∈ n_tb := n_a5 128 rfl rfl
theorem wmX8_19 : Cond.methodLink "ShareMonitor$Tape" 19 yJ0_length_8abf5 ∈ n_tb := n_a5 129 (by decide +kernel) rfl
theorem wmX8_24 : Cond.methodLink "ShareMonitor$Tape" 24 yJ0_charAt_5068e ∈ n_tb := n_a5 130 (by decide +kernel) rfl
theorem wi_yJ0_charAt_5068e : Cond.instanceMethod yJ0_charAt_5068e ∈ n_tb := n_a5 131 (by decide +kernel) rfl
theorem wv_yJ0_charAt_5068e : Cond.selects "java/lang/String" yJ0_charAt_5068e yJ0_charAt_5068e ∈ n_tb := n_a5 132 (by decide +kernel) rfl
set_option maxRecDepth 100000 in
theorem wc_yJ0_charAt_5068e : Cond.code yJ0_charAt_5068e cJ0_charAt_5068e 2 (Option.some Jvm.ClassFile.FieldType.char) ∈ n_tb := n_a5 133 rfl rfl
theorem wmJ0_492 : Cond.methodLink "java/lang/String" 492 yJ0_isLatin1_aae02 ∈ n_tb := n_a5 134 (by decide +kernel) rfl
theorem wi_yJ0_isLatin1_aae02 : Cond.instanceMethod yJ0_isLatin1_aae02 ∈ n_tb := n_a5 135 (by decide +kernel) rfl
theorem wv_yJ0_isLatin1_aae02 : Cond.selects "java/lang/String" yJ0_isLatin1_aae02 yJ0_isLatin1_aae02 ∈ n_tb := n_a5 136 (by decide +kernel) rfl
set_option maxRecDepth 100000 in
theorem wc_yJ0_isLatin1_aae02 : Cond.code yJ0_isLatin1_aae02 cJ0_isLatin1_aae02 1 (Option.some Jvm.ClassFile.FieldType.boolean) ∈ n_tb := n_a5 137 rfl rfl
theorem wmJ0_495 : Cond.methodLink "java/lang/String" 495 yJ1_charAt_3b067 ∈ n_tb := n_a5 138 (by decide +kernel) rfl
theorem ws_yJ1_charAt_3b067 : Cond.static yJ1_charAt_3b067 ∈ n_tb := n_a5 139 (by decide +kernel) rfl
set_option maxRecDepth 100000 in
theorem wc_yJ1_charAt_3b067 : Cond.code yJ1_charAt_3b067 cJ1_charAt_3b067 2 (Option.some Jvm.ClassFile.FieldType.char) ∈ n_tb := n_a5 140 rfl rfl
theorem wmJ1_9 : Cond.methodLink "java/lang/StringLatin1" 9 yJ0_checkIndex_df160 ∈ n_tb := n_a5 141 (by decide +kernel) rfl
theorem ws_yJ0_checkIndex_df160 : Cond.static yJ0_checkIndex_df160 ∈ n_tb := n_a5 142 (by decide +kernel) rfl
set_option maxRecDepth 100000 in
theorem wc_yJ0_checkIndex_df160 : Cond.code yJ0_checkIndex_df160 cJ0_checkIndex_df160 2 (Option.none : Option Jvm.ClassFile.FieldType) ∈ n_tb := n_a5 143 rfl rfl
theorem wmJ0_1059 : Cond.methodLink "java/lang/String" 1059 yJ3_checkIndex_8e157 ∈ n_tb := n_a5 144 (by decide +kernel) rfl
theorem ws_yJ3_checkIndex_8e157 : Cond.static yJ3_checkIndex_8e157 ∈ n_tb := n_a5 145 (by decide +kernel) rfl
set_option maxRecDepth 100000 in
theorem wc_yJ3_checkIndex_8e157 : Cond.code yJ3_checkIndex_8e157 cJ3_checkIndex_8e157 3 (Option.some Jvm.ClassFile.FieldType.int) ∈ n_tb := n_a5 146 rfl rfl
theorem wmJ0_498 : Cond.methodLink "java/lang/String" 498 yJ2_charAt_3b067 ∈ n_tb := n_a5 147 (by decide +kernel) rfl
theorem ws_yJ2_charAt_3b067 : Cond.static yJ2_charAt_3b067 ∈ n_tb := n_a5 148 (by decide +kernel) rfl
set_option maxRecDepth 100000 in
theorem wc_yJ2_charAt_3b067 : Cond.code yJ2_charAt_3b067 cJ2_charAt_3b067 2 (Option.some Jvm.ClassFile.FieldType.char) ∈ n_tb := n_a5 149 rfl rfl
theorem wmJ2_67 : Cond.methodLink "java/lang/StringUTF16" 67 yJ2_checkIndex_2214a ∈ n_tb := n_a5 150 (by decide +kernel) rfl
theorem ws_yJ2_checkIndex_2214a : Cond.static yJ2_checkIndex_2214a ∈ n_tb := n_a5 151 (by decide +kernel) rfl
set_option maxRecDepth 100000 in
theorem wc_yJ2_checkIndex_2214a : Cond.code yJ2_checkIndex_2214a cJ2_checkIndex_2214a 2 (Option.none : Option Jvm.ClassFile.FieldType) ∈ n_tb := n_a5 152 rfl rfl
theorem wmJ2_414 : Cond.methodLink "java/lang/StringUTF16" 414 yJ0_checkIndex_df160 ∈ n_tb := n_a5 153 (by decide +kernel) rfl
theorem wmX6_103 : Cond.methodLink "ShareMonitor$Reader" 103 yX4_hasName ∈ n_tb := n_a5 154 (by decide +kernel) rfl
theorem wi_yX4_hasName : Cond.instanceMethod yX4_hasName ∈ n_tb := n_a5 155 (by decide +kernel) rfl
theorem wv_yX4_hasName : Cond.selects "ShareMonitor$Op" yX4_hasName yX4_hasName ∈ n_tb := n_a5 156 (by decide +kernel) rfl
set_option maxRecDepth 100000 in
theorem wc_yX4_hasName : Cond.code yX4_hasName cX4_hasName 1 (Option.some Jvm.ClassFile.FieldType.boolean) ∈ n_tb := n_a5 157 rfl rfl
theorem wfX4_66 : Cond.fieldLink "ShareMonitor$Op" 66 "ShareMonitor$Op" "JUMP" "LShareMonitor$Op;" ∈ n_tb := n_a5 158 (by decide +kernel) rfl
theorem wfX4_69 : Cond.fieldLink "ShareMonitor$Op" 69 "ShareMonitor$Op" "ZERO" "LShareMonitor$Op;" ∈ n_tb := n_a5 160 (by decide +kernel) rfl
theorem wfX4_72 : Cond.fieldLink "ShareMonitor$Op" 72 "ShareMonitor$Op" "CALL" "LShareMonitor$Op;" ∈ n_tb := n_a5 162 (by decide +kernel) rfl
theorem wfX4_108 : Cond.fieldLink "ShareMonitor$Op" 108 "ShareMonitor$Op" "SPAWN" "LShareMonitor$Op;" ∈ n_tb := n_a5 164 (by decide +kernel) rfl
theorem wmX6_106 : Cond.methodLink "ShareMonitor$Reader" 106 yX6_readName ∈ n_tb := n_a5 166 (by decide +kernel) rfl
theorem wi_yX6_readName : Cond.instanceMethod yX6_readName ∈ n_tb := n_a5 168 (by decide +kernel) rfl
set_option maxRecDepth 100000 in
theorem wc_yX6_readName : Cond.code yX6_readName cX6_readName 2 (Option.none : Option Jvm.ClassFile.FieldType) ∈ n_tb := n_a5 169 rfl rfl
theorem wmX6_110 : Cond.methodLink "ShareMonitor$Reader" 110 yX6_isName ∈ n_tb := n_a5 170 (by decide +kernel) rfl
theorem wi_yX6_isName : Cond.instanceMethod yX6_isName ∈ n_tb := n_a5 172 (by decide +kernel) rfl
set_option maxRecDepth 100000 in
theorem wc_yX6_isName : Cond.code yX6_isName cX6_isName 4 (Option.some Jvm.ClassFile.FieldType.boolean) ∈ n_tb := n_a5 173 rfl rfl
theorem wmX6_147 : Cond.methodLink "ShareMonitor$Reader" 147 yX6_isLetter ∈ n_tb := n_a5 174 (by decide +kernel) rfl
theorem ws_yX6_isLetter : Cond.static yX6_isLetter ∈ n_tb := n_a5 175 (by decide +kernel) rfl
set_option maxRecDepth 100000 in
theorem wc_yX6_isLetter : Cond.code yX6_isLetter cX6_isLetter 1 (Option.some Jvm.ClassFile.FieldType.boolean) ∈ n_tb := n_a5 176 rfl rfl
theorem wmX6_114 : Cond.methodLink "ShareMonitor$Reader" 114 yX6_addLabel ∈ n_tb := n_a5 177 (by decide +kernel) rfl
theorem wi_yX6_addLabel : Cond.instanceMethod yX6_addLabel ∈ n_tb := n_a5 179 (by decide +kernel) rfl
set_option maxRecDepth 100000 in
theorem wc_yX6_addLabel : Cond.code yX6_addLabel cX6_addLabel 3 (Option.none : Option Jvm.ClassFile.FieldType) ∈ n_tb := n_a5 180 rfl rfl
theorem wmX6_124 : Cond.methodLink "ShareMonitor$Reader" 124 yX6_targetOf ∈ n_tb := n_a5 181 (by decide +kernel) rfl
theorem wi_yX6_targetOf : Cond.instanceMethod yX6_targetOf ∈ n_tb := n_a5 183 (by decide +kernel) rfl
set_option maxRecDepth 100000 in
theorem wc_yX6_targetOf : Cond.code yX6_targetOf cX6_targetOf 4 (Option.some Jvm.ClassFile.FieldType.int) ∈ n_tb := n_a5 184 rfl rfl
theorem wmX6_128 : Cond.methodLink "ShareMonitor$Reader" 128 yX8_repeats ∈ n_tb := n_a5 185 (by decide +kernel) rfl
theorem wi_yX8_repeats : Cond.instanceMethod yX8_repeats ∈ n_tb := n_a5 186 (by decide +kernel) rfl
theorem wv_yX8_repeats : Cond.selects "ShareMonitor$Tape" yX8_repeats yX8_repeats ∈ n_tb := n_a5 187 (by decide +kernel) rfl
set_option maxRecDepth 100000 in
theorem wc_yX8_repeats : Cond.code yX8_repeats cX8_repeats 5 (Option.some Jvm.ClassFile.FieldType.boolean) ∈ n_tb := n_a5 188 rfl rfl
theorem wmX8_28 : Cond.methodLink "ShareMonitor$Tape" 28 yX8_at ∈ n_tb := n_a5 189 (by decide +kernel) rfl
theorem wmX6_57 : Cond.methodLink "ShareMonitor$Reader" 57 yX6_findTargets ∈ n_tb := n_a5 190 (by decide +kernel) rfl
theorem wi_yX6_findTargets : Cond.instanceMethod yX6_findTargets ∈ n_tb := n_a5 192 (by decide +kernel) rfl
set_option maxRecDepth 100000 in
theorem wc_yX6_findTargets : Cond.code yX6_findTargets cX6_findTargets 3 (Option.none : Option Jvm.ClassFile.FieldType) ∈ n_tb := n_a5 193 rfl rfl
theorem wmX11_86 : Cond.methodLink "ShareMonitor" 86 yX2_admit ∈ n_tb := n_a5 194 (by decide +kernel) rfl
theorem wmL_108 : Cond.methodLink "ShareMonitorLaw" 108 yL_run ∈ n_tb := n_a5 195 (by decide +kernel) rfl
theorem ws_yL_run : Cond.static yL_run ∈ n_tb := n_a5 196 (by decide +kernel) rfl
theorem wmL_27 : Cond.methodLink "ShareMonitorLaw" 27 yX11_run ∈ n_tb := n_a5 198 (by decide +kernel) rfl
theorem wi_yX11_run : Cond.instanceMethod yX11_run ∈ n_tb := n_a5 199 (by decide +kernel) rfl
theorem wv_yX11_run : Cond.selects "ShareMonitor" yX11_run yX11_run ∈ n_tb := n_a5 200 (by decide +kernel) rfl
set_option maxRecDepth 100000 in
theorem wc_yX11_run : Cond.code yX11_run cX11_run 4 (Option.some Jvm.ClassFile.FieldType.int) ∈ n_tb := n_a5 201 rfl rfl
theorem wmL_111 : Cond.methodLink "ShareMonitorLaw" 111 yL_quantum ∈ n_tb := n_a5 203 (by decide +kernel) rfl
theorem ws_yL_quantum : Cond.static yL_quantum ∈ n_tb := n_a5 204 (by decide +kernel) rfl
theorem wmL_30 : Cond.methodLink "ShareMonitorLaw" 30 yX11_quantum ∈ n_tb := n_a5 206 (by decide +kernel) rfl
theorem wi_yX11_quantum : Cond.instanceMethod yX11_quantum ∈ n_tb := n_a5 207 (by decide +kernel) rfl
theorem wv_yX11_quantum : Cond.selects "ShareMonitor" yX11_quantum yX11_quantum ∈ n_tb := n_a5 208 (by decide +kernel) rfl
set_option maxRecDepth 100000 in
theorem wc_yX11_quantum : Cond.code yX11_quantum cX11_quantum 3 (Option.some Jvm.ClassFile.FieldType.int) ∈ n_tb := n_a5 209 rfl rfl
theorem wmL_114 : Cond.methodLink "ShareMonitorLaw" 114 yL_kill ∈ n_tb := n_a5 211 (by decide +kernel) rfl
theorem ws_yL_kill : Cond.static yL_kill ∈ n_tb := n_a5 212 (by decide +kernel) rfl
theorem wmL_33 : Cond.methodLink "ShareMonitorLaw" 33 yX11_kill ∈ n_tb := n_a5 214 (by decide +kernel) rfl
theorem wi_yX11_kill : Cond.instanceMethod yX11_kill ∈ n_tb := n_a5 215 (by decide +kernel) rfl
theorem wv_yX11_kill : Cond.selects "ShareMonitor" yX11_kill yX11_kill ∈ n_tb := n_a5 216 (by decide +kernel) rfl
set_option maxRecDepth 100000 in
theorem wc_yX11_kill : Cond.code yX11_kill cX11_kill 3 (Option.some Jvm.ClassFile.FieldType.boolean) ∈ n_tb := n_a5 217 rfl rfl
theorem wmX11_106 : Cond.methodLink "ShareMonitor" 106 yX2_find ∈ n_tb := n_a5 218 (by decide +kernel) rfl
theorem wmX11_112 : Cond.methodLink "ShareMonitor" 112 yX9_isAlive ∈ n_tb := n_a5 220 (by decide +kernel) rfl
theorem wmX11_116 : Cond.methodLink "ShareMonitor" 116 yX2_finish ∈ n_tb := n_a5 221 (by decide +kernel) rfl
theorem wmL_117 : Cond.methodLink "ShareMonitorLaw" 117 yL_reap ∈ n_tb := n_a5 222 (by decide +kernel) rfl
theorem ws_yL_reap : Cond.static yL_reap ∈ n_tb := n_a5 223 (by decide +kernel) rfl
theorem wmL_37 : Cond.methodLink "ShareMonitorLaw" 37 yX11_reap ∈ n_tb := n_a5 226 (by decide +kernel) rfl
theorem wi_yX11_reap : Cond.instanceMethod yX11_reap ∈ n_tb := n_a5 227 (by decide +kernel) rfl
theorem wv_yX11_reap : Cond.selects "ShareMonitor" yX11_reap yX11_reap ∈ n_tb := n_a5 228 (by decide +kernel) rfl
set_option maxRecDepth 100000 in
theorem wc_yX11_reap : Cond.code yX11_reap cX11_reap 4 (Option.some Jvm.ClassFile.FieldType.int) ∈ n_tb := n_a5 229 rfl rfl
theorem wmX11_134 : Cond.methodLink "ShareMonitor" 134 yX9_vanish ∈ n_tb := n_a6 6 (by decide +kernel) rfl
theorem wmL_120 : Cond.methodLink "ShareMonitorLaw" 120 yL_key ∈ n_tb := n_a6 7 (by decide +kernel) rfl
theorem ws_yL_key : Cond.static yL_key ∈ n_tb := n_a6 8 (by decide +kernel) rfl
theorem wmL_42 : Cond.methodLink "ShareMonitorLaw" 42 yX11_key ∈ n_tb := n_a6 10 (by decide +kernel) rfl
theorem wi_yX11_key : Cond.instanceMethod yX11_key ∈ n_tb := n_a6 11 (by decide +kernel) rfl
theorem wv_yX11_key : Cond.selects "ShareMonitor" yX11_key yX11_key ∈ n_tb := n_a6 12 (by decide +kernel) rfl
set_option maxRecDepth 100000 in
theorem wc_yX11_key : Cond.code yX11_key cX11_key 4 (Option.some Jvm.ClassFile.FieldType.boolean) ∈ n_tb := n_a6 13 rfl rfl
theorem wmX11_143 : Cond.methodLink "ShareMonitor" 143 yX1_put ∈ n_tb := n_a6 15 (by decide +kernel) rfl
theorem wmX11_149 : Cond.methodLink "ShareMonitor" 149 yX2_makeReady ∈ n_tb := n_a6 16 (by decide +kernel) rfl
theorem wmL_124 : Cond.methodLink "ShareMonitorLaw" 124 yL_post ∈ n_tb := n_a6 17 (by decide +kernel) rfl
theorem ws_yL_post : Cond.static yL_post ∈ n_tb := n_a6 18 (by decide +kernel) rfl
theorem wmL_46 : Cond.methodLink "ShareMonitorLaw" 46 yX11_post ∈ n_tb := n_a6 20 (by decide +kernel) rfl
theorem wi_yX11_post : Cond.instanceMethod yX11_post ∈ n_tb := n_a6 21 (by decide +kernel) rfl
theorem wv_yX11_post : Cond.selects "ShareMonitor" yX11_post yX11_post ∈ n_tb := n_a6 22 (by decide +kernel) rfl
set_option maxRecDepth 100000 in
theorem wc_yX11_post : Cond.code yX11_post cX11_post 4 (Option.some Jvm.ClassFile.FieldType.boolean) ∈ n_tb := n_a6 23 rfl rfl
theorem wmX11_153 : Cond.methodLink "ShareMonitor" 153 yX2_deliver ∈ n_tb := n_a6 24 (by decide +kernel) rfl
theorem wmL_127 : Cond.methodLink "ShareMonitorLaw" 127 yL_state ∈ n_tb := n_a6 25 (by decide +kernel) rfl
theorem ws_yL_state : Cond.static yL_state ∈ n_tb := n_a6 26 (by decide +kernel) rfl
theorem wmL_49 : Cond.methodLink "ShareMonitorLaw" 49 yX11_state ∈ n_tb := n_a6 28 (by decide +kernel) rfl
theorem wi_yX11_state : Cond.instanceMethod yX11_state ∈ n_tb := n_a6 29 (by decide +kernel) rfl
theorem wv_yX11_state : Cond.selects "ShareMonitor" yX11_state yX11_state ∈ n_tb := n_a6 30 (by decide +kernel) rfl
set_option maxRecDepth 100000 in
theorem wc_yX11_state : Cond.code yX11_state cX11_state 4 (Option.some Jvm.ClassFile.FieldType.int) ∈ n_tb := n_a6 31 rfl rfl
theorem wmX11_181 : Cond.methodLink "ShareMonitor" 181 yX3_cellsOf ∈ n_tb := n_a6 33 (by decide +kernel) rfl
theorem wi_yX3_cellsOf : Cond.instanceMethod yX3_cellsOf ∈ n_tb := n_a6 34 (by decide +kernel) rfl
theorem wv_yX3_cellsOf : Cond.selects "ShareMonitor$Memory" yX3_cellsOf yX3_cellsOf ∈ n_tb := n_a6 35 (by decide +kernel) rfl
set_option maxRecDepth 100000 in
theorem wc_yX3_cellsOf : Cond.code yX3_cellsOf cX3_cellsOf 4 (Option.some Jvm.ClassFile.FieldType.int) ∈ n_tb := n_a6 36 rfl rfl
theorem wmL_130 : Cond.methodLink "ShareMonitorLaw" 130 yL_stack ∈ n_tb := n_a6 37 (by decide +kernel) rfl
theorem ws_yL_stack : Cond.static yL_stack ∈ n_tb := n_a6 38 (by decide +kernel) rfl
theorem wmL_53 : Cond.methodLink "ShareMonitorLaw" 53 yX11_stack ∈ n_tb := n_a6 40 (by decide +kernel) rfl
theorem wi_yX11_stack : Cond.instanceMethod yX11_stack ∈ n_tb := n_a6 41 (by decide +kernel) rfl
theorem wv_yX11_stack : Cond.selects "ShareMonitor" yX11_stack yX11_stack ∈ n_tb := n_a6 42 (by decide +kernel) rfl
set_option maxRecDepth 100000 in
theorem wc_yX11_stack : Cond.code yX11_stack cX11_stack 4 (Option.some Jvm.ClassFile.FieldType.int) ∈ n_tb := n_a6 43 rfl rfl
theorem wmL_133 : Cond.methodLink "ShareMonitorLaw" 133 yL_message ∈ n_tb := n_a6 45 (by decide +kernel) rfl
theorem ws_yL_message : Cond.static yL_message ∈ n_tb := n_a6 46 (by decide +kernel) rfl
theorem wmL_56 : Cond.methodLink "ShareMonitorLaw" 56 yX11_message ∈ n_tb := n_a6 48 (by decide +kernel) rfl
theorem wi_yX11_message : Cond.instanceMethod yX11_message ∈ n_tb := n_a6 49 (by decide +kernel) rfl
theorem wv_yX11_message : Cond.selects "ShareMonitor" yX11_message yX11_message ∈ n_tb := n_a6 50 (by decide +kernel) rfl
set_option maxRecDepth 100000 in
theorem wc_yX11_message : Cond.code yX11_message cX11_message 5 (Option.some Jvm.ClassFile.FieldType.int) ∈ n_tb := n_a6 51 rfl rfl
theorem wmL_137 : Cond.methodLink "ShareMonitorLaw" 137 yL_ready ∈ n_tb := n_a6 53 (by decide +kernel) rfl
theorem ws_yL_ready : Cond.static yL_ready ∈ n_tb := n_a6 54 (by decide +kernel) rfl
theorem wmL_60 : Cond.methodLink "ShareMonitorLaw" 60 yX11_ready ∈ n_tb := n_a6 56 (by decide +kernel) rfl
theorem wi_yX11_ready : Cond.instanceMethod yX11_ready ∈ n_tb := n_a6 57 (by decide +kernel) rfl
theorem wv_yX11_ready : Cond.selects "ShareMonitor" yX11_ready yX11_ready ∈ n_tb := n_a6 58 (by decide +kernel) rfl
set_option maxRecDepth 100000 in
theorem wc_yX11_ready : Cond.code yX11_ready cX11_ready 3 (Option.some Jvm.ClassFile.FieldType.int) ∈ n_tb := n_a6 59 rfl rfl
theorem wmL_140 : Cond.methodLink "ShareMonitorLaw" 140 yL_cell ∈ n_tb := n_a6 61 (by decide +kernel) rfl
theorem ws_yL_cell : Cond.static yL_cell ∈ n_tb := n_a6 62 (by decide +kernel) rfl
theorem wmL_63 : Cond.methodLink "ShareMonitorLaw" 63 yX11_cell ∈ n_tb := n_a6 64 (by decide +kernel) rfl
theorem wi_yX11_cell : Cond.instanceMethod yX11_cell ∈ n_tb := n_a6 65 (by decide +kernel) rfl
theorem wv_yX11_cell : Cond.selects "ShareMonitor" yX11_cell yX11_cell ∈ n_tb := n_a6 66 (by decide +kernel) rfl
set_option maxRecDepth 100000 in
theorem wc_yX11_cell : Cond.code yX11_cell cX11_cell 2 (Option.some Jvm.ClassFile.FieldType.int) ∈ n_tb := n_a6 67 rfl rfl
theorem wmL_143 : Cond.methodLink "ShareMonitorLaw" 143 yL_block ∈ n_tb := n_a6 69 (by decide +kernel) rfl
theorem ws_yL_block : Cond.static yL_block ∈ n_tb := n_a6 70 (by decide +kernel) rfl
theorem wmL_66 : Cond.methodLink "ShareMonitorLaw" 66 yX11_block ∈ n_tb := n_a6 72 (by decide +kernel) rfl
theorem wi_yX11_block : Cond.instanceMethod yX11_block ∈ n_tb := n_a6 73 (by decide +kernel) rfl
theorem wv_yX11_block : Cond.selects "ShareMonitor" yX11_block yX11_block ∈ n_tb := n_a6 74 (by decide +kernel) rfl
set_option maxRecDepth 100000 in
theorem wc_yX11_block : Cond.code yX11_block cX11_block 4 (Option.some Jvm.ClassFile.FieldType.int) ∈ n_tb := n_a6 75 rfl rfl
theorem wmX11_225 : Cond.methodLink "ShareMonitor" 225 yX3_addressOf ∈ n_tb := n_a6 76 (by decide +kernel) rfl
theorem wi_yX3_addressOf : Cond.instanceMethod yX3_addressOf ∈ n_tb := n_a6 77 (by decide +kernel) rfl
theorem wv_yX3_addressOf : Cond.selects "ShareMonitor$Memory" yX3_addressOf yX3_addressOf ∈ n_tb := n_a6 78 (by decide +kernel) rfl
set_option maxRecDepth 100000 in
theorem wc_yX3_addressOf : Cond.code yX3_addressOf cX3_addressOf 4 (Option.some Jvm.ClassFile.FieldType.int) ∈ n_tb := n_a6 79 rfl rfl
theorem wmL_146 : Cond.methodLink "ShareMonitorLaw" 146 yL_semaphore ∈ n_tb := n_a6 81 (by decide +kernel) rfl
theorem ws_yL_semaphore : Cond.static yL_semaphore ∈ n_tb := n_a6 82 (by decide +kernel) rfl
theorem wmL_69 : Cond.methodLink "ShareMonitorLaw" 69 yX11_semaphore ∈ n_tb := n_a6 84 (by decide +kernel) rfl
theorem wi_yX11_semaphore : Cond.instanceMethod yX11_semaphore ∈ n_tb := n_a6 85 (by decide +kernel) rfl
theorem wv_yX11_semaphore : Cond.selects "ShareMonitor" yX11_semaphore yX11_semaphore ∈ n_tb := n_a6 86 (by decide +kernel) rfl
set_option maxRecDepth 100000 in
theorem wc_yX11_semaphore : Cond.code yX11_semaphore cX11_semaphore 3 (Option.some Jvm.ClassFile.FieldType.int) ∈ n_tb := n_a6 87 rfl rfl
theorem wmL_149 : Cond.methodLink "ShareMonitorLaw" 149 yL_out ∈ n_tb := n_a6 89 (by decide +kernel) rfl
theorem ws_yL_out : Cond.static yL_out ∈ n_tb := n_a6 90 (by decide +kernel) rfl
theorem wmL_72 : Cond.methodLink "ShareMonitorLaw" 72 yX11_out ∈ n_tb := n_a6 92 (by decide +kernel) rfl
theorem wi_yX11_out : Cond.instanceMethod yX11_out ∈ n_tb := n_a6 93 (by decide +kernel) rfl
theorem wv_yX11_out : Cond.selects "ShareMonitor" yX11_out yX11_out ∈ n_tb := n_a6 94 (by decide +kernel) rfl
set_option maxRecDepth 100000 in
theorem wc_yX11_out : Cond.code yX11_out cX11_out 2 (Option.some Jvm.ClassFile.FieldType.int) ∈ n_tb := n_a6 95 rfl rfl
theorem wmL_152 : Cond.methodLink "ShareMonitorLaw" 152 yL_count ∈ n_tb := n_a6 97 (by decide +kernel) rfl
theorem ws_yL_count : Cond.static yL_count ∈ n_tb := n_a6 98 (by decide +kernel) rfl
theorem wmL_75 : Cond.methodLink "ShareMonitorLaw" 75 yX11_count ∈ n_tb := n_a6 100 (by decide +kernel) rfl
theorem wi_yX11_count : Cond.instanceMethod yX11_count ∈ n_tb := n_a6 101 (by decide +kernel) rfl
theorem wv_yX11_count : Cond.selects "ShareMonitor" yX11_count yX11_count ∈ n_tb := n_a6 102 (by decide +kernel) rfl
set_option maxRecDepth 100000 in
theorem wc_yX11_count : Cond.code yX11_count cX11_count 2 (Option.some Jvm.ClassFile.FieldType.int) ∈ n_tb := n_a6 103 rfl rfl
theorem wmX11_260 : Cond.methodLink "ShareMonitor" 260 yX3_blocks ∈ n_tb := n_a6 105 (by decide +kernel) rfl
theorem wi_yX3_blocks : Cond.instanceMethod yX3_blocks ∈ n_tb := n_a6 106 (by decide +kernel) rfl
theorem wv_yX3_blocks : Cond.selects "ShareMonitor$Memory" yX3_blocks yX3_blocks ∈ n_tb := n_a6 107 (by decide +kernel) rfl
set_option maxRecDepth 100000 in
theorem wc_yX3_blocks : Cond.code yX3_blocks cX3_blocks 3 (Option.some Jvm.ClassFile.FieldType.int) ∈ n_tb := n_a6 108 rfl rfl
theorem wmX11_263 : Cond.methodLink "ShareMonitor" 263 yX2_countFrom ∈ n_tb := n_a6 109 (by decide +kernel) rfl
theorem wi_yX2_countFrom : Cond.instanceMethod yX2_countFrom ∈ n_tb := n_a6 110 (by decide +kernel) rfl
theorem wv_yX2_countFrom : Cond.selects "ShareMonitor$Desk" yX2_countFrom yX2_countFrom ∈ n_tb := n_a6 111 (by decide +kernel) rfl
set_option maxRecDepth 100000 in
theorem wc_yX2_countFrom : Cond.code yX2_countFrom cX2_countFrom 5 (Option.some Jvm.ClassFile.FieldType.int) ∈ n_tb := n_a6 112 rfl rfl
theorem wmX11_267 : Cond.methodLink "ShareMonitor" 267 yX2_programsInUse ∈ n_tb := n_a6 113 (by decide +kernel) rfl
theorem wi_yX2_programsInUse : Cond.instanceMethod yX2_programsInUse ∈ n_tb := n_a6 114 (by decide +kernel) rfl
theorem wv_yX2_programsInUse : Cond.selects "ShareMonitor$Desk" yX2_programsInUse yX2_programsInUse ∈ n_tb := n_a6 115 (by decide +kernel) rfl
set_option maxRecDepth 100000 in
theorem wc_yX2_programsInUse : Cond.code yX2_programsInUse cX2_programsInUse 3 (Option.some Jvm.ClassFile.FieldType.int) ∈ n_tb := n_a6 116 rfl rfl
theorem wmX11_270 : Cond.methodLink "ShareMonitor" 270 yX2_instructionsInUse ∈ n_tb := n_a6 117 (by decide +kernel) rfl
theorem wi_yX2_instructionsInUse : Cond.instanceMethod yX2_instructionsInUse ∈ n_tb := n_a6 118 (by decide +kernel) rfl
theorem wv_yX2_instructionsInUse : Cond.selects "ShareMonitor$Desk" yX2_instructionsInUse yX2_instructionsInUse ∈ n_tb := n_a6 119 (by decide +kernel) rfl
set_option maxRecDepth 100000 in
theorem wc_yX2_instructionsInUse : Cond.code yX2_instructionsInUse cX2_instructionsInUse 3 (Option.some Jvm.ClassFile.FieldType.int) ∈ n_tb := n_a6 120 rfl rfl
theorem wmL_88 : Cond.methodLink "ShareMonitorLaw" 88 yX12_thrown ∈ n_tb := n_a6 121 (by decide +kernel) rfl
theorem wi_yX12_thrown : Cond.instanceMethod yX12_thrown ∈ n_tb := n_a6 122 (by decide +kernel) rfl
theorem wv_yX12_thrown : Cond.selects "ShareMonitorModel" yX12_thrown yX12_thrown ∈ n_tb := n_a6 123 (by decide +kernel) rfl
set_option maxRecDepth 100000 in
theorem wc_yX12_thrown : Cond.code yX12_thrown cX12_thrown 1 (Option.some Jvm.ClassFile.FieldType.int) ∈ n_tb := n_a6 124 rfl rfl
theorem wmL_81 : Cond.methodLink "ShareMonitorLaw" 81 yX12_init ∈ n_tb := n_a6 127 (by decide +kernel) rfl
theorem wi_yX12_init : Cond.instanceMethod yX12_init ∈ n_tb := n_a6 128 (by decide +kernel) rfl
set_option maxRecDepth 100000 in
theorem wc_yX12_init : Cond.code yX12_init cX12_init 1 (Option.none : Option Jvm.ClassFile.FieldType) ∈ n_tb := n_a6 129 rfl rfl
theorem wfX12_97 : Cond.fieldLink "ShareMonitorModel" 97 "ShareMonitorModel" "words" "[J" ∈ n_tb := n_a6 173 (by decide +kernel) rfl
theorem wfX12_101 : Cond.fieldLink "ShareMonitorModel" 101 "ShareMonitorModel" "needs" "[I" ∈ n_tb := n_a6 174 (by decide +kernel) rfl
theorem wfX12_1 : Cond.fieldLink "ShareMonitorModel" 1 "ShareMonitorModel" "code" "I" ∈ n_tb := n_a6 175 (by decide +kernel) rfl
theorem wfX12_105 : Cond.fieldLink "ShareMonitorModel" 105 "ShareMonitorModel" "tape" "[B" ∈ n_tb := n_a6 176 (by decide +kernel) rfl
theorem wfX12_227 : Cond.fieldLink "ShareMonitorModel" 227 "ShareMonitorModel" "size" "I" ∈ n_tb := n_a6 177 (by decide +kernel) rfl
theorem wfX12_271 : Cond.fieldLink "ShareMonitorModel" 271 "ShareMonitorModel" "fault" "I" ∈ n_tb := n_a6 178 (by decide +kernel) rfl
theorem wfX12_274 : Cond.fieldLink "ShareMonitorModel" 274 "ShareMonitorModel" "place" "I" ∈ n_tb := n_a6 179 (by decide +kernel) rfl
theorem wfX12_109 : Cond.fieldLink "ShareMonitorModel" 109 "ShareMonitorModel" "ops" "[I" ∈ n_tb := n_a6 180 (by decide +kernel) rfl
theorem wfX12_112 : Cond.fieldLink "ShareMonitorModel" 112 "ShareMonitorModel" "numbers" "[I" ∈ n_tb := n_a6 181 (by decide +kernel) rfl
theorem wfX12_115 : Cond.fieldLink "ShareMonitorModel" 115 "ShareMonitorModel" "lengths" "[I" ∈ n_tb := n_a6 182 (by decide +kernel) rfl
theorem wfX12_118 : Cond.fieldLink "ShareMonitorModel" 118 "ShareMonitorModel" "isProgram" "[Z" ∈ n_tb := n_a6 183 (by decide +kernel) rfl
theorem wfX12_122 : Cond.fieldLink "ShareMonitorModel" 122 "ShareMonitorModel" "labelAt" "[I" ∈ n_tb := n_a6 184 (by decide +kernel) rfl
theorem wfX12_125 : Cond.fieldLink "ShareMonitorModel" 125 "ShareMonitorModel" "labelSize" "[I" ∈ n_tb := n_a6 185 (by decide +kernel) rfl
theorem wfX12_128 : Cond.fieldLink "ShareMonitorModel" 128 "ShareMonitorModel" "labelTo" "[I" ∈ n_tb := n_a6 186 (by decide +kernel) rfl
theorem wfX12_268 : Cond.fieldLink "ShareMonitorModel" 268 "ShareMonitorModel" "labels" "I" ∈ n_tb := n_a6 187 (by decide +kernel) rfl
theorem wfX12_131 : Cond.fieldLink "ShareMonitorModel" 131 "ShareMonitorModel" "nameAt" "[I" ∈ n_tb := n_a6 188 (by decide +kernel) rfl
theorem wfX12_134 : Cond.fieldLink "ShareMonitorModel" 134 "ShareMonitorModel" "nameSize" "[I" ∈ n_tb := n_a6 189 (by decide +kernel) rfl
theorem wfX12_241 : Cond.fieldLink "ShareMonitorModel" 241 "ShareMonitorModel" "wordAt" "I" ∈ n_tb := n_a6 190 (by decide +kernel) rfl
theorem wfX12_230 : Cond.fieldLink "ShareMonitorModel" 230 "ShareMonitorModel" "wordEnd" "I" ∈ n_tb := n_a6 191 (by decide +kernel) rfl
theorem wfX12_137 : Cond.fieldLink "ShareMonitorModel" 137 "ShareMonitorModel" "status" "[I" ∈ n_tb := n_a6 192 (by decide +kernel) rfl
theorem wfX12_140 : Cond.fieldLink "ShareMonitorModel" 140 "ShareMonitorModel" "codes" "[I" ∈ n_tb := n_a6 193 (by decide +kernel) rfl
theorem wfX12_143 : Cond.fieldLink "ShareMonitorModel" 143 "ShareMonitorModel" "level" "[I" ∈ n_tb := n_a6 194 (by decide +kernel) rfl
theorem wfX12_146 : Cond.fieldLink "ShareMonitorModel" 146 "ShareMonitorModel" "parent" "[I" ∈ n_tb := n_a6 195 (by decide +kernel) rfl
theorem wfX12_149 : Cond.fieldLink "ShareMonitorModel" 149 "ShareMonitorModel" "program" "[I" ∈ n_tb := n_a6 196 (by decide +kernel) rfl
theorem wfX12_152 : Cond.fieldLink "ShareMonitorModel" 152 "ShareMonitorModel" "next" "[I" ∈ n_tb := n_a6 197 (by decide +kernel) rfl
theorem wfX12_155 : Cond.fieldLink "ShareMonitorModel" 155 "ShareMonitorModel" "deep" "[I" ∈ n_tb := n_a6 198 (by decide +kernel) rfl
theorem wfX12_158 : Cond.fieldLink "ShareMonitorModel" 158 "ShareMonitorModel" "stack" "[I" ∈ n_tb := n_a6 199 (by decide +kernel) rfl
theorem wfX12_161 : Cond.fieldLink "ShareMonitorModel" 161 "ShareMonitorModel" "called" "[I" ∈ n_tb := n_a6 200 (by decide +kernel) rfl
theorem wfX12_164 : Cond.fieldLink "ShareMonitorModel" 164 "ShareMonitorModel" "returns" "[I" ∈ n_tb := n_a6 201 (by decide +kernel) rfl
theorem wfX12_167 : Cond.fieldLink "ShareMonitorModel" 167 "ShareMonitorModel" "boxed" "[I" ∈ n_tb := n_a6 202 (by decide +kernel) rfl
theorem wfX12_170 : Cond.fieldLink "ShareMonitorModel" 170 "ShareMonitorModel" "boxNumber" "[I" ∈ n_tb := n_a6 203 (by decide +kernel) rfl
theorem wfX12_173 : Cond.fieldLink "ShareMonitorModel" 173 "ShareMonitorModel" "boxWho" "[I" ∈ n_tb := n_a6 204 (by decide +kernel) rfl
theorem wfX12_176 : Cond.fieldLink "ShareMonitorModel" 176 "ShareMonitorModel" "keyed" "[I" ∈ n_tb := n_a6 205 (by decide +kernel) rfl
theorem wfX12_179 : Cond.fieldLink "ShareMonitorModel" 179 "ShareMonitorModel" "keys" "[I" ∈ n_tb := n_a6 206 (by decide +kernel) rfl
theorem wfX12_182 : Cond.fieldLink "ShareMonitorModel" 182 "ShareMonitorModel" "did" "[I" ∈ n_tb := n_a6 207 (by decide +kernel) rfl
theorem wfX12_185 : Cond.fieldLink "ShareMonitorModel" 185 "ShareMonitorModel" "waits" "[I" ∈ n_tb := n_a6 208 (by decide +kernel) rfl
theorem wfX12_188 : Cond.fieldLink "ShareMonitorModel" 188 "ShareMonitorModel" "inRow" "[I" ∈ n_tb := n_a6 209 (by decide +kernel) rfl
theorem wfX12_191 : Cond.fieldLink "ShareMonitorModel" 191 "ShareMonitorModel" "rows" "[I" ∈ n_tb := n_a6 210 (by decide +kernel) rfl
theorem wfX12_194 : Cond.fieldLink "ShareMonitorModel" 194 "ShareMonitorModel" "rowCount" "[I" ∈ n_tb := n_a6 211 (by decide +kernel) rfl
theorem wfX12_399 : Cond.fieldLink "ShareMonitorModel" 399 "ShareMonitorModel" "clock" "I" ∈ n_tb := n_a6 212 (by decide +kernel) rfl
theorem wfX12_197 : Cond.fieldLink "ShareMonitorModel" 197 "ShareMonitorModel" "quantum" "I" ∈ n_tb := n_a6 213 (by decide +kernel) rfl
theorem wfX12_200 : Cond.fieldLink "ShareMonitorModel" 200 "ShareMonitorModel" "values" "[I" ∈ n_tb := n_a6 214 (by decide +kernel) rfl
theorem wfX12_203 : Cond.fieldLink "ShareMonitorModel" 203 "ShareMonitorModel" "waiting" "[I" ∈ n_tb := n_a6 215 (by decide +kernel) rfl
theorem wfX12_206 : Cond.fieldLink "ShareMonitorModel" 206 "ShareMonitorModel" "waitCount" "[I" ∈ n_tb := n_a6 216 (by decide +kernel) rfl
theorem wfX12_209 : Cond.fieldLink "ShareMonitorModel" 209 "ShareMonitorModel" "cells" "[I" ∈ n_tb := n_a6 217 (by decide +kernel) rfl
theorem wfX12_212 : Cond.fieldLink "ShareMonitorModel" 212 "ShareMonitorModel" "blockAt" "[I" ∈ n_tb := n_a6 218 (by decide +kernel) rfl
theorem wfX12_215 : Cond.fieldLink "ShareMonitorModel" 215 "ShareMonitorModel" "blockSize" "[I" ∈ n_tb := n_a6 219 (by decide +kernel) rfl
theorem wfX12_218 : Cond.fieldLink "ShareMonitorModel" 218 "ShareMonitorModel" "blockOf" "[I" ∈ n_tb := n_a6 220 (by decide +kernel) rfl
theorem wfX12_221 : Cond.fieldLink "ShareMonitorModel" 221 "ShareMonitorModel" "blocks" "I" ∈ n_tb := n_a6 221 (by decide +kernel) rfl
theorem wfX12_224 : Cond.fieldLink "ShareMonitorModel" 224 "ShareMonitorModel" "console" "[I" ∈ n_tb := n_a6 222 (by decide +kernel) rfl
theorem wfX12_406 : Cond.fieldLink "ShareMonitorModel" 406 "ShareMonitorModel" "told" "I" ∈ n_tb := n_a6 223 (by decide +kernel) rfl
theorem wfX12_409 : Cond.fieldLink "ShareMonitorModel" 409 "ShareMonitorModel" "lost" "I" ∈ n_tb := n_a6 224 (by decide +kernel) rfl
theorem wfX12_392 : Cond.fieldLink "ShareMonitorModel" 392 "ShareMonitorModel" "moved" "Z" ∈ n_tb := n_a6 225 (by decide +kernel) rfl
theorem wmL_87 : Cond.methodLink "ShareMonitorLaw" 87 yX12_feed ∈ n_tb := n_a7 95 (by decide +kernel) rfl
theorem wi_yX12_feed : Cond.instanceMethod yX12_feed ∈ n_tb := n_a7 96 (by decide +kernel) rfl
theorem wv_yX12_feed : Cond.selects "ShareMonitorModel" yX12_feed yX12_feed ∈ n_tb := n_a7 97 (by decide +kernel) rfl
set_option maxRecDepth 100000 in
theorem wc_yX12_feed : Cond.code yX12_feed cX12_feed 8 (Option.some Jvm.ClassFile.FieldType.int) ∈ n_tb := n_a7 98 rfl rfl
theorem wmL_95 : Cond.methodLink "ShareMonitorLaw" 95 yX12_end ∈ n_tb := n_a7 99 (by decide +kernel) rfl
theorem wi_yX12_end : Cond.instanceMethod yX12_end ∈ n_tb := n_a7 100 (by decide +kernel) rfl
theorem wv_yX12_end : Cond.selects "ShareMonitorModel" yX12_end yX12_end ∈ n_tb := n_a7 101 (by decide +kernel) rfl
set_option maxRecDepth 100000 in
theorem wc_yX12_end : Cond.code yX12_end cX12_end 2 (Option.none : Option Jvm.ClassFile.FieldType) ∈ n_tb := n_a7 102 rfl rfl
theorem wmL_99 : Cond.methodLink "ShareMonitorLaw" 99 yX12_load ∈ n_tb := n_a7 103 (by decide +kernel) rfl
theorem wi_yX12_load : Cond.instanceMethod yX12_load ∈ n_tb := n_a7 104 (by decide +kernel) rfl
theorem wv_yX12_load : Cond.selects "ShareMonitorModel" yX12_load yX12_load ∈ n_tb := n_a7 105 (by decide +kernel) rfl
set_option maxRecDepth 100000 in
theorem wc_yX12_load : Cond.code yX12_load cX12_load 3 (Option.some Jvm.ClassFile.FieldType.int) ∈ n_tb := n_a7 106 rfl rfl
theorem wmX12_428 : Cond.methodLink "ShareMonitorModel" 428 yX12_free ∈ n_tb := n_a7 107 (by decide +kernel) rfl
theorem wi_yX12_free : Cond.instanceMethod yX12_free ∈ n_tb := n_a7 109 (by decide +kernel) rfl
set_option maxRecDepth 100000 in
theorem wc_yX12_free : Cond.code yX12_free cX12_free 2 (Option.some Jvm.ClassFile.FieldType.int) ∈ n_tb := n_a7 110 rfl rfl
theorem wmX12_432 : Cond.methodLink "ShareMonitorModel" 432 yX12_readAll ∈ n_tb := n_a7 111 (by decide +kernel) rfl
theorem wi_yX12_readAll : Cond.instanceMethod yX12_readAll ∈ n_tb := n_a7 113 (by decide +kernel) rfl
set_option maxRecDepth 100000 in
theorem wc_yX12_readAll : Cond.code yX12_readAll cX12_readAll 4 (Option.none : Option Jvm.ClassFile.FieldType) ∈ n_tb := n_a7 114 rfl rfl
theorem wmX12_300 : Cond.methodLink "ShareMonitorModel" 300 yX12_takeWord ∈ n_tb := n_a7 115 (by decide +kernel) rfl
theorem wi_yX12_takeWord : Cond.instanceMethod yX12_takeWord ∈ n_tb := n_a7 117 (by decide +kernel) rfl
set_option maxRecDepth 100000 in
theorem wc_yX12_takeWord : Cond.code yX12_takeWord cX12_takeWord 2 (Option.none : Option Jvm.ClassFile.FieldType) ∈ n_tb := n_a7 118 rfl rfl
theorem wmX12_233 : Cond.methodLink "ShareMonitorModel" 233 yX12_byteOf ∈ n_tb := n_a7 119 (by decide +kernel) rfl
theorem wi_yX12_byteOf : Cond.instanceMethod yX12_byteOf ∈ n_tb := n_a7 121 (by decide +kernel) rfl
set_option maxRecDepth 100000 in
theorem wc_yX12_byteOf : Cond.code yX12_byteOf cX12_byteOf 2 (Option.some Jvm.ClassFile.FieldType.int) ∈ n_tb := n_a7 122 rfl rfl
theorem wmX12_237 : Cond.methodLink "ShareMonitorModel" 237 yX12_isBlank ∈ n_tb := n_a7 123 (by decide +kernel) rfl
theorem ws_yX12_isBlank : Cond.static yX12_isBlank ∈ n_tb := n_a7 124 (by decide +kernel) rfl
set_option maxRecDepth 100000 in
theorem wc_yX12_isBlank : Cond.code yX12_isBlank cX12_isBlank 1 (Option.some Jvm.ClassFile.FieldType.boolean) ∈ n_tb := n_a7 125 rfl rfl
theorem wmX12_303 : Cond.methodLink "ShareMonitorModel" 303 yX12_readWord ∈ n_tb := n_a7 126 (by decide +kernel) rfl
theorem wi_yX12_readWord : Cond.instanceMethod yX12_readWord ∈ n_tb := n_a7 128 (by decide +kernel) rfl
set_option maxRecDepth 100000 in
theorem wc_yX12_readWord : Cond.code yX12_readWord cX12_readWord 3 (Option.none : Option Jvm.ClassFile.FieldType) ∈ n_tb := n_a7 129 rfl rfl
theorem wmX12_247 : Cond.methodLink "ShareMonitorModel" 247 yX12_operation ∈ n_tb := n_a7 130 (by decide +kernel) rfl
theorem wi_yX12_operation : Cond.instanceMethod yX12_operation ∈ n_tb := n_a7 132 (by decide +kernel) rfl
set_option maxRecDepth 100000 in
theorem wc_yX12_operation : Cond.code yX12_operation cX12_operation 8 (Option.some Jvm.ClassFile.FieldType.int) ∈ n_tb := n_a7 133 rfl rfl
theorem wmX12_288 : Cond.methodLink "ShareMonitorModel" 288 yX12_readLabel ∈ n_tb := n_a7 134 (by decide +kernel) rfl
theorem wi_yX12_readLabel : Cond.instanceMethod yX12_readLabel ∈ n_tb := n_a7 136 (by decide +kernel) rfl
set_option maxRecDepth 100000 in
theorem wc_yX12_readLabel : Cond.code yX12_readLabel cX12_readLabel 3 (Option.none : Option Jvm.ClassFile.FieldType) ∈ n_tb := n_a7 137 rfl rfl
theorem wmX12_277 : Cond.methodLink "ShareMonitorModel" 277 yX12_isName ∈ n_tb := n_a7 138 (by decide +kernel) rfl
theorem wi_yX12_isName : Cond.instanceMethod yX12_isName ∈ n_tb := n_a7 140 (by decide +kernel) rfl
set_option maxRecDepth 100000 in
theorem wc_yX12_isName : Cond.code yX12_isName cX12_isName 5 (Option.some Jvm.ClassFile.FieldType.boolean) ∈ n_tb := n_a7 141 rfl rfl
theorem wmX12_244 : Cond.methodLink "ShareMonitorModel" 244 yX12_isLetter ∈ n_tb := n_a7 142 (by decide +kernel) rfl
theorem ws_yX12_isLetter : Cond.static yX12_isLetter ∈ n_tb := n_a7 143 (by decide +kernel) rfl
set_option maxRecDepth 100000 in
theorem wc_yX12_isLetter : Cond.code yX12_isLetter cX12_isLetter 1 (Option.some Jvm.ClassFile.FieldType.boolean) ∈ n_tb := n_a7 144 rfl rfl
theorem wmX12_251 : Cond.methodLink "ShareMonitorModel" 251 yX12_isDigit ∈ n_tb := n_a7 145 (by decide +kernel) rfl
theorem ws_yX12_isDigit : Cond.static yX12_isDigit ∈ n_tb := n_a7 146 (by decide +kernel) rfl
set_option maxRecDepth 100000 in
theorem wc_yX12_isDigit : Cond.code yX12_isDigit cX12_isDigit 1 (Option.some Jvm.ClassFile.FieldType.boolean) ∈ n_tb := n_a7 147 rfl rfl
theorem wmX12_281 : Cond.methodLink "ShareMonitorModel" 281 yX12_flaw ∈ n_tb := n_a7 148 (by decide +kernel) rfl
theorem wi_yX12_flaw : Cond.instanceMethod yX12_flaw ∈ n_tb := n_a7 150 (by decide +kernel) rfl
set_option maxRecDepth 100000 in
theorem wc_yX12_flaw : Cond.code yX12_flaw cX12_flaw 3 (Option.none : Option Jvm.ClassFile.FieldType) ∈ n_tb := n_a7 151 rfl rfl
theorem wmX12_285 : Cond.methodLink "ShareMonitorModel" 285 yX12_labelOf ∈ n_tb := n_a7 152 (by decide +kernel) rfl
theorem wi_yX12_labelOf : Cond.instanceMethod yX12_labelOf ∈ n_tb := n_a7 154 (by decide +kernel) rfl
set_option maxRecDepth 100000 in
theorem wc_yX12_labelOf : Cond.code yX12_labelOf cX12_labelOf 7 (Option.some Jvm.ClassFile.FieldType.int) ∈ n_tb := n_a7 155 rfl rfl
theorem wmX12_292 : Cond.methodLink "ShareMonitorModel" 292 yX12_isNumber ∈ n_tb := n_a7 156 (by decide +kernel) rfl
theorem wi_yX12_isNumber : Cond.instanceMethod yX12_isNumber ∈ n_tb := n_a7 158 (by decide +kernel) rfl
set_option maxRecDepth 100000 in
theorem wc_yX12_isNumber : Cond.code yX12_isNumber cX12_isNumber 5 (Option.some Jvm.ClassFile.FieldType.boolean) ∈ n_tb := n_a7 159 rfl rfl
theorem wmX12_254 : Cond.methodLink "ShareMonitorModel" 254 yX12_valueOfWord ∈ n_tb := n_a7 160 (by decide +kernel) rfl
theorem wi_yX12_valueOfWord : Cond.instanceMethod yX12_valueOfWord ∈ n_tb := n_a7 162 (by decide +kernel) rfl
set_option maxRecDepth 100000 in
theorem wc_yX12_valueOfWord : Cond.code yX12_valueOfWord cX12_valueOfWord 5 (Option.some Jvm.ClassFile.FieldType.long) ∈ n_tb := n_a7 163 rfl rfl
theorem wmX12_296 : Cond.methodLink "ShareMonitorModel" 296 yX12_put ∈ n_tb := n_a7 169 (by decide +kernel) rfl
theorem wi_yX12_put : Cond.instanceMethod yX12_put ∈ n_tb := n_a7 171 (by decide +kernel) rfl
set_option maxRecDepth 100000 in
theorem wc_yX12_put : Cond.code yX12_put cX12_put 4 (Option.none : Option Jvm.ClassFile.FieldType) ∈ n_tb := n_a7 172 rfl rfl
theorem wmX12_373 : Cond.methodLink "ShareMonitorModel" 373 yX12_start ∈ n_tb := n_a7 173 (by decide +kernel) rfl
theorem wi_yX12_start : Cond.instanceMethod yX12_start ∈ n_tb := n_a7 175 (by decide +kernel) rfl
set_option maxRecDepth 100000 in
theorem wc_yX12_start : Cond.code yX12_start cX12_start 6 (Option.some Jvm.ClassFile.FieldType.int) ∈ n_tb := n_a7 176 rfl rfl
theorem wmX12_324 : Cond.methodLink "ShareMonitorModel" 324 yX12_wake ∈ n_tb := n_a7 177 (by decide +kernel) rfl
theorem wi_yX12_wake : Cond.instanceMethod yX12_wake ∈ n_tb := n_a7 179 (by decide +kernel) rfl
set_option maxRecDepth 100000 in
theorem wc_yX12_wake : Cond.code yX12_wake cX12_wake 2 (Option.none : Option Jvm.ClassFile.FieldType) ∈ n_tb := n_a7 180 rfl rfl
theorem wmX12_309 : Cond.methodLink "ShareMonitorModel" 309 yX12_joinRow ∈ n_tb := n_a7 181 (by decide +kernel) rfl
theorem wi_yX12_joinRow : Cond.instanceMethod yX12_joinRow ∈ n_tb := n_a7 183 (by decide +kernel) rfl
set_option maxRecDepth 100000 in
theorem wc_yX12_joinRow : Cond.code yX12_joinRow cX12_joinRow 3 (Option.none : Option Jvm.ClassFile.FieldType) ∈ n_tb := n_a7 184 rfl rfl
theorem wmL_103 : Cond.methodLink "ShareMonitorLaw" 103 yX12_fault ∈ n_tb := n_a7 185 (by decide +kernel) rfl
theorem wi_yX12_fault : Cond.instanceMethod yX12_fault ∈ n_tb := n_a7 186 (by decide +kernel) rfl
theorem wv_yX12_fault : Cond.selects "ShareMonitorModel" yX12_fault yX12_fault ∈ n_tb := n_a7 187 (by decide +kernel) rfl
set_option maxRecDepth 100000 in
theorem wc_yX12_fault : Cond.code yX12_fault cX12_fault 1 (Option.some Jvm.ClassFile.FieldType.int) ∈ n_tb := n_a7 188 rfl rfl
theorem wmL_107 : Cond.methodLink "ShareMonitorLaw" 107 yX12_tick ∈ n_tb := n_a7 189 (by decide +kernel) rfl
theorem wi_yX12_tick : Cond.instanceMethod yX12_tick ∈ n_tb := n_a7 190 (by decide +kernel) rfl
theorem wv_yX12_tick : Cond.selects "ShareMonitorModel" yX12_tick yX12_tick ∈ n_tb := n_a7 191 (by decide +kernel) rfl
set_option maxRecDepth 100000 in
theorem wc_yX12_tick : Cond.code yX12_tick cX12_tick 1 (Option.some Jvm.ClassFile.FieldType.int) ∈ n_tb := n_a7 192 rfl rfl
theorem wmX12_435 : Cond.methodLink "ShareMonitorModel" 435 yX12_turn ∈ n_tb := n_a7 193 (by decide +kernel) rfl
theorem wi_yX12_turn : Cond.instanceMethod yX12_turn ∈ n_tb := n_a7 195 (by decide +kernel) rfl
set_option maxRecDepth 100000 in
theorem wc_yX12_turn : Cond.code yX12_turn cX12_turn 3 (Option.some Jvm.ClassFile.FieldType.int) ∈ n_tb := n_a7 196 rfl rfl
theorem wmX12_422 : Cond.methodLink "ShareMonitorModel" 422 yX12_wakeSleepers ∈ n_tb := n_a7 197 (by decide +kernel) rfl
theorem wi_yX12_wakeSleepers : Cond.instanceMethod yX12_wakeSleepers ∈ n_tb := n_a7 199 (by decide +kernel) rfl
set_option maxRecDepth 100000 in
theorem wc_yX12_wakeSleepers : Cond.code yX12_wakeSleepers cX12_wakeSleepers 4 (Option.none : Option Jvm.ClassFile.FieldType) ∈ n_tb := n_a7 200 rfl rfl
theorem wmX12_425 : Cond.methodLink "ShareMonitorModel" 425 yX12_act ∈ n_tb := n_a7 201 (by decide +kernel) rfl
theorem wi_yX12_act : Cond.instanceMethod yX12_act ∈ n_tb := n_a7 203 (by decide +kernel) rfl
set_option maxRecDepth 100000 in
theorem wc_yX12_act : Cond.code yX12_act cX12_act 4 (Option.none : Option Jvm.ClassFile.FieldType) ∈ n_tb := n_a7 204 rfl rfl
theorem wmX12_330 : Cond.methodLink "ShareMonitorModel" 330 yX12_finish ∈ n_tb := n_a7 205 (by decide +kernel) rfl
theorem wi_yX12_finish : Cond.instanceMethod yX12_finish ∈ n_tb := n_a7 207 (by decide +kernel) rfl
set_option maxRecDepth 100000 in
theorem wc_yX12_finish : Cond.code yX12_finish cX12_finish 4 (Option.none : Option Jvm.ClassFile.FieldType) ∈ n_tb := n_a7 208 rfl rfl
theorem wmX12_306 : Cond.methodLink "ShareMonitorModel" 306 yX12_leaveRow ∈ n_tb := n_a7 209 (by decide +kernel) rfl
theorem wi_yX12_leaveRow : Cond.instanceMethod yX12_leaveRow ∈ n_tb := n_a7 211 (by decide +kernel) rfl
set_option maxRecDepth 100000 in
theorem wc_yX12_leaveRow : Cond.code yX12_leaveRow cX12_leaveRow 6 (Option.none : Option Jvm.ClassFile.FieldType) ∈ n_tb := n_a7 212 rfl rfl
theorem wmX12_315 : Cond.methodLink "ShareMonitorModel" 315 yX12_leaveSemaphore ∈ n_tb := n_a7 213 (by decide +kernel) rfl
theorem wi_yX12_leaveSemaphore : Cond.instanceMethod yX12_leaveSemaphore ∈ n_tb := n_a7 215 (by decide +kernel) rfl
set_option maxRecDepth 100000 in
theorem wc_yX12_leaveSemaphore : Cond.code yX12_leaveSemaphore cX12_leaveSemaphore 6 (Option.none : Option Jvm.ClassFile.FieldType) ∈ n_tb := n_a7 216 rfl rfl
theorem wmX12_318 : Cond.methodLink "ShareMonitorModel" 318 yX12_joinBlocks ∈ n_tb := n_a7 217 (by decide +kernel) rfl
theorem wi_yX12_joinBlocks : Cond.instanceMethod yX12_joinBlocks ∈ n_tb := n_a7 219 (by decide +kernel) rfl
set_option maxRecDepth 100000 in
theorem wc_yX12_joinBlocks : Cond.code yX12_joinBlocks cX12_joinBlocks 3 (Option.none : Option Jvm.ClassFile.FieldType) ∈ n_tb := n_a7 220 rfl rfl
theorem wmX12_321 : Cond.methodLink "ShareMonitorModel" 321 yX12_release ∈ n_tb := n_a7 221 (by decide +kernel) rfl
theorem wi_yX12_release : Cond.instanceMethod yX12_release ∈ n_tb := n_a7 223 (by decide +kernel) rfl
set_option maxRecDepth 100000 in
theorem wc_yX12_release : Cond.code yX12_release cX12_release 2 (Option.none : Option Jvm.ClassFile.FieldType) ∈ n_tb := n_a7 224 rfl rfl
theorem wmX12_327 : Cond.methodLink "ShareMonitorModel" 327 yX12_sweep ∈ n_tb := n_a7 225 (by decide +kernel) rfl
theorem wi_yX12_sweep : Cond.instanceMethod yX12_sweep ∈ n_tb := n_a7 227 (by decide +kernel) rfl
set_option maxRecDepth 100000 in
theorem wc_yX12_sweep : Cond.code yX12_sweep cX12_sweep 4 (Option.none : Option Jvm.ClassFile.FieldType) ∈ n_tb := n_a7 228 rfl rfl
theorem wmX12_342 : Cond.methodLink "ShareMonitorModel" 342 yX12_fits ∈ n_tb := n_a7 229 (by decide +kernel) rfl
theorem wi_yX12_fits : Cond.instanceMethod yX12_fits ∈ n_tb := n_a7 231 (by decide +kernel) rfl
set_option maxRecDepth 100000 in
theorem wc_yX12_fits : Cond.code yX12_fits cX12_fits 3 (Option.some Jvm.ClassFile.FieldType.boolean) ∈ n_tb := n_a7 232 rfl rfl
theorem wmX12_345 : Cond.methodLink "ShareMonitorModel" 345 yX12_result ∈ n_tb := n_a7 233 (by decide +kernel) rfl
theorem wi_yX12_result : Cond.instanceMethod yX12_result ∈ n_tb := n_a7 235 (by decide +kernel) rfl
set_option maxRecDepth 100000 in
theorem wc_yX12_result : Cond.code yX12_result cX12_result 4 (Option.none : Option Jvm.ClassFile.FieldType) ∈ n_tb := n_a7 236 rfl rfl
theorem wmX12_333 : Cond.methodLink "ShareMonitorModel" 333 yX12_push ∈ n_tb := n_a7 237 (by decide +kernel) rfl
theorem wi_yX12_push : Cond.instanceMethod yX12_push ∈ n_tb := n_a7 239 (by decide +kernel) rfl
set_option maxRecDepth 100000 in
theorem wc_yX12_push : Cond.code yX12_push cX12_push 3 (Option.none : Option Jvm.ClassFile.FieldType) ∈ n_tb := n_a8 0 rfl rfl
theorem wmX12_336 : Cond.methodLink "ShareMonitorModel" 336 yX12_done ∈ n_tb := n_a8 1 (by decide +kernel) rfl
theorem wi_yX12_done : Cond.instanceMethod yX12_done ∈ n_tb := n_a8 3 (by decide +kernel) rfl
set_option maxRecDepth 100000 in
theorem wc_yX12_done : Cond.code yX12_done cX12_done 2 (Option.none : Option Jvm.ClassFile.FieldType) ∈ n_tb := n_a8 4 rfl rfl
theorem wmX12_413 : Cond.methodLink "ShareMonitorModel" 413 yX12_plain ∈ n_tb := n_a8 5 (by decide +kernel) rfl
theorem wi_yX12_plain : Cond.instanceMethod yX12_plain ∈ n_tb := n_a8 7 (by decide +kernel) rfl
set_option maxRecDepth 100000 in
theorem wc_yX12_plain : Cond.code yX12_plain cX12_plain 5 (Option.none : Option Jvm.ClassFile.FieldType) ∈ n_tb := n_a8 8 rfl rfl
theorem wmX12_339 : Cond.methodLink "ShareMonitorModel" 339 yX12_top ∈ n_tb := n_a8 9 (by decide +kernel) rfl
theorem wi_yX12_top : Cond.instanceMethod yX12_top ∈ n_tb := n_a8 11 (by decide +kernel) rfl
set_option maxRecDepth 100000 in
theorem wc_yX12_top : Cond.code yX12_top cX12_top 3 (Option.some Jvm.ClassFile.FieldType.int) ∈ n_tb := n_a8 12 rfl rfl
theorem wmX12_348 : Cond.methodLink "ShareMonitorModel" 348 yX12_setTop ∈ n_tb := n_a8 13 (by decide +kernel) rfl
theorem wi_yX12_setTop : Cond.instanceMethod yX12_setTop ∈ n_tb := n_a8 15 (by decide +kernel) rfl
set_option maxRecDepth 100000 in
theorem wc_yX12_setTop : Cond.code yX12_setTop cX12_setTop 4 (Option.none : Option Jvm.ClassFile.FieldType) ∈ n_tb := n_a8 16 rfl rfl
theorem wmX12_351 : Cond.methodLink "ShareMonitorModel" 351 yX12_reckoned ∈ n_tb := n_a8 17 (by decide +kernel) rfl
theorem ws_yX12_reckoned : Cond.static yX12_reckoned ∈ n_tb := n_a8 18 (by decide +kernel) rfl
set_option maxRecDepth 100000 in
theorem wc_yX12_reckoned : Cond.code yX12_reckoned cX12_reckoned 3 (Option.some Jvm.ClassFile.FieldType.int) ∈ n_tb := n_a8 19 rfl rfl
theorem wmX12_416 : Cond.methodLink "ShareMonitorModel" 416 yX12_memory ∈ n_tb := n_a8 20 (by decide +kernel) rfl
theorem wi_yX12_memory : Cond.instanceMethod yX12_memory ∈ n_tb := n_a8 22 (by decide +kernel) rfl
set_option maxRecDepth 100000 in
theorem wc_yX12_memory : Cond.code yX12_memory cX12_memory 6 (Option.none : Option Jvm.ClassFile.FieldType) ∈ n_tb := n_a8 23 rfl rfl
theorem wmX12_355 : Cond.methodLink "ShareMonitorModel" 355 yX12_holds ∈ n_tb := n_a8 24 (by decide +kernel) rfl
theorem wi_yX12_holds : Cond.instanceMethod yX12_holds ∈ n_tb := n_a8 26 (by decide +kernel) rfl
set_option maxRecDepth 100000 in
theorem wc_yX12_holds : Cond.code yX12_holds cX12_holds 5 (Option.some Jvm.ClassFile.FieldType.boolean) ∈ n_tb := n_a8 27 rfl rfl
theorem wmX12_358 : Cond.methodLink "ShareMonitorModel" 358 yX12_allocate ∈ n_tb := n_a8 28 (by decide +kernel) rfl
theorem wi_yX12_allocate : Cond.instanceMethod yX12_allocate ∈ n_tb := n_a8 30 (by decide +kernel) rfl
set_option maxRecDepth 100000 in
theorem wc_yX12_allocate : Cond.code yX12_allocate cX12_allocate 5 (Option.some Jvm.ClassFile.FieldType.int) ∈ n_tb := n_a8 31 rfl rfl
theorem wmX12_361 : Cond.methodLink "ShareMonitorModel" 361 yX12_blockFrom ∈ n_tb := n_a8 32 (by decide +kernel) rfl
theorem wi_yX12_blockFrom : Cond.instanceMethod yX12_blockFrom ∈ n_tb := n_a8 34 (by decide +kernel) rfl
set_option maxRecDepth 100000 in
theorem wc_yX12_blockFrom : Cond.code yX12_blockFrom cX12_blockFrom 5 (Option.some Jvm.ClassFile.FieldType.int) ∈ n_tb := n_a8 35 rfl rfl
theorem wmX12_364 : Cond.methodLink "ShareMonitorModel" 364 yX12_isAlive ∈ n_tb := n_a8 36 (by decide +kernel) rfl
theorem wi_yX12_isAlive : Cond.instanceMethod yX12_isAlive ∈ n_tb := n_a8 38 (by decide +kernel) rfl
set_option maxRecDepth 100000 in
theorem wc_yX12_isAlive : Cond.code yX12_isAlive cX12_isAlive 2 (Option.some Jvm.ClassFile.FieldType.boolean) ∈ n_tb := n_a8 39 rfl rfl
theorem wmX12_312 : Cond.methodLink "ShareMonitorModel" 312 yX12_isProcess ∈ n_tb := n_a8 40 (by decide +kernel) rfl
theorem wi_yX12_isProcess : Cond.instanceMethod yX12_isProcess ∈ n_tb := n_a8 42 (by decide +kernel) rfl
set_option maxRecDepth 100000 in
theorem wc_yX12_isProcess : Cond.code yX12_isProcess cX12_isProcess 2 (Option.some Jvm.ClassFile.FieldType.boolean) ∈ n_tb := n_a8 43 rfl rfl
theorem wmX12_419 : Cond.methodLink "ShareMonitorModel" 419 yX12_others ∈ n_tb := n_a8 44 (by decide +kernel) rfl
theorem wi_yX12_others : Cond.instanceMethod yX12_others ∈ n_tb := n_a8 46 (by decide +kernel) rfl
set_option maxRecDepth 100000 in
theorem wc_yX12_others : Cond.code yX12_others cX12_others 6 (Option.none : Option Jvm.ClassFile.FieldType) ∈ n_tb := n_a8 47 rfl rfl
theorem wmX12_377 : Cond.methodLink "ShareMonitorModel" 377 yX12_spawn ∈ n_tb := n_a8 48 (by decide +kernel) rfl
theorem wi_yX12_spawn : Cond.instanceMethod yX12_spawn ∈ n_tb := n_a8 50 (by decide +kernel) rfl
set_option maxRecDepth 100000 in
theorem wc_yX12_spawn : Cond.code yX12_spawn cX12_spawn 4 (Option.none : Option Jvm.ClassFile.FieldType) ∈ n_tb := n_a8 51 rfl rfl
theorem wmX12_380 : Cond.methodLink "ShareMonitorModel" 380 yX12_deliver ∈ n_tb := n_a8 52 (by decide +kernel) rfl
theorem wi_yX12_deliver : Cond.instanceMethod yX12_deliver ∈ n_tb := n_a8 54 (by decide +kernel) rfl
set_option maxRecDepth 100000 in
theorem wc_yX12_deliver : Cond.code yX12_deliver cX12_deliver 4 (Option.some Jvm.ClassFile.FieldType.int) ∈ n_tb := n_a8 55 rfl rfl
theorem wmX12_383 : Cond.methodLink "ShareMonitorModel" 383 yX12_receive ∈ n_tb := n_a8 56 (by decide +kernel) rfl
theorem wi_yX12_receive : Cond.instanceMethod yX12_receive ∈ n_tb := n_a8 58 (by decide +kernel) rfl
set_option maxRecDepth 100000 in
theorem wc_yX12_receive : Cond.code yX12_receive cX12_receive 3 (Option.none : Option Jvm.ClassFile.FieldType) ∈ n_tb := n_a8 59 rfl rfl
theorem wmX12_367 : Cond.methodLink "ShareMonitorModel" 367 yX12_waitFor ∈ n_tb := n_a8 60 (by decide +kernel) rfl
theorem wi_yX12_waitFor : Cond.instanceMethod yX12_waitFor ∈ n_tb := n_a8 62 (by decide +kernel) rfl
set_option maxRecDepth 100000 in
theorem wc_yX12_waitFor : Cond.code yX12_waitFor cX12_waitFor 4 (Option.none : Option Jvm.ClassFile.FieldType) ∈ n_tb := n_a8 63 rfl rfl
theorem wmX12_386 : Cond.methodLink "ShareMonitorModel" 386 yX12_await ∈ n_tb := n_a8 64 (by decide +kernel) rfl
theorem wi_yX12_await : Cond.instanceMethod yX12_await ∈ n_tb := n_a8 66 (by decide +kernel) rfl
set_option maxRecDepth 100000 in
theorem wc_yX12_await : Cond.code yX12_await cX12_await 4 (Option.none : Option Jvm.ClassFile.FieldType) ∈ n_tb := n_a8 67 rfl rfl
theorem wmX12_370 : Cond.methodLink "ShareMonitorModel" 370 yX12_isChild ∈ n_tb := n_a8 68 (by decide +kernel) rfl
theorem wi_yX12_isChild : Cond.instanceMethod yX12_isChild ∈ n_tb := n_a8 70 (by decide +kernel) rfl
set_option maxRecDepth 100000 in
theorem wc_yX12_isChild : Cond.code yX12_isChild cX12_isChild 3 (Option.some Jvm.ClassFile.FieldType.boolean) ∈ n_tb := n_a8 71 rfl rfl
theorem wmX12_389 : Cond.methodLink "ShareMonitorModel" 389 yX12_shares ∈ n_tb := n_a8 72 (by decide +kernel) rfl
theorem wi_yX12_shares : Cond.instanceMethod yX12_shares ∈ n_tb := n_a8 74 (by decide +kernel) rfl
set_option maxRecDepth 100000 in
theorem wc_yX12_shares : Cond.code yX12_shares cX12_shares 5 (Option.none : Option Jvm.ClassFile.FieldType) ∈ n_tb := n_a8 75 rfl rfl
theorem wmX12_396 : Cond.methodLink "ShareMonitorModel" 396 yX12_toEnd ∈ n_tb := n_a8 76 (by decide +kernel) rfl
theorem wi_yX12_toEnd : Cond.instanceMethod yX12_toEnd ∈ n_tb := n_a8 78 (by decide +kernel) rfl
set_option maxRecDepth 100000 in
theorem wc_yX12_toEnd : Cond.code yX12_toEnd cX12_toEnd 2 (Option.none : Option Jvm.ClassFile.FieldType) ∈ n_tb := n_a8 79 rfl rfl
theorem wmX12_403 : Cond.methodLink "ShareMonitorModel" 403 yX12_semaphore ∈ n_tb := n_a8 81 (by decide +kernel) rfl
theorem wi_yX12_semaphore : Cond.instanceMethod yX12_semaphore ∈ n_tb := n_a8 83 (by decide +kernel) rfl
set_option maxRecDepth 100000 in
theorem wc_yX12_semaphore : Cond.code yX12_semaphore cX12_semaphore 6 (Option.none : Option Jvm.ClassFile.FieldType) ∈ n_tb := n_a8 84 rfl rfl
theorem wmL_110 : Cond.methodLink "ShareMonitorLaw" 110 yX12_run ∈ n_tb := n_a8 86 (by decide +kernel) rfl
theorem wi_yX12_run : Cond.instanceMethod yX12_run ∈ n_tb := n_a8 87 (by decide +kernel) rfl
theorem wv_yX12_run : Cond.selects "ShareMonitorModel" yX12_run yX12_run ∈ n_tb := n_a8 88 (by decide +kernel) rfl
set_option maxRecDepth 100000 in
theorem wc_yX12_run : Cond.code yX12_run cX12_run 4 (Option.some Jvm.ClassFile.FieldType.int) ∈ n_tb := n_a8 89 rfl rfl
theorem wmL_113 : Cond.methodLink "ShareMonitorLaw" 113 yX12_quantum ∈ n_tb := n_a8 90 (by decide +kernel) rfl
theorem wi_yX12_quantum : Cond.instanceMethod yX12_quantum ∈ n_tb := n_a8 91 (by decide +kernel) rfl
theorem wv_yX12_quantum : Cond.selects "ShareMonitorModel" yX12_quantum yX12_quantum ∈ n_tb := n_a8 92 (by decide +kernel) rfl
set_option maxRecDepth 100000 in
theorem wc_yX12_quantum : Cond.code yX12_quantum cX12_quantum 3 (Option.some Jvm.ClassFile.FieldType.int) ∈ n_tb := n_a8 93 rfl rfl
theorem wmL_116 : Cond.methodLink "ShareMonitorLaw" 116 yX12_kill ∈ n_tb := n_a8 94 (by decide +kernel) rfl
theorem wi_yX12_kill : Cond.instanceMethod yX12_kill ∈ n_tb := n_a8 95 (by decide +kernel) rfl
theorem wv_yX12_kill : Cond.selects "ShareMonitorModel" yX12_kill yX12_kill ∈ n_tb := n_a8 96 (by decide +kernel) rfl
set_option maxRecDepth 100000 in
theorem wc_yX12_kill : Cond.code yX12_kill cX12_kill 2 (Option.some Jvm.ClassFile.FieldType.boolean) ∈ n_tb := n_a8 97 rfl rfl
theorem wmL_119 : Cond.methodLink "ShareMonitorLaw" 119 yX12_reap ∈ n_tb := n_a8 98 (by decide +kernel) rfl
theorem wi_yX12_reap : Cond.instanceMethod yX12_reap ∈ n_tb := n_a8 99 (by decide +kernel) rfl
theorem wv_yX12_reap : Cond.selects "ShareMonitorModel" yX12_reap yX12_reap ∈ n_tb := n_a8 100 (by decide +kernel) rfl
set_option maxRecDepth 100000 in
theorem wc_yX12_reap : Cond.code yX12_reap cX12_reap 3 (Option.some Jvm.ClassFile.FieldType.int) ∈ n_tb := n_a8 101 rfl rfl
theorem wmL_123 : Cond.methodLink "ShareMonitorLaw" 123 yX12_key ∈ n_tb := n_a8 102 (by decide +kernel) rfl
theorem wi_yX12_key : Cond.instanceMethod yX12_key ∈ n_tb := n_a8 103 (by decide +kernel) rfl
theorem wv_yX12_key : Cond.selects "ShareMonitorModel" yX12_key yX12_key ∈ n_tb := n_a8 104 (by decide +kernel) rfl
set_option maxRecDepth 100000 in
theorem wc_yX12_key : Cond.code yX12_key cX12_key 3 (Option.some Jvm.ClassFile.FieldType.boolean) ∈ n_tb := n_a8 105 rfl rfl
theorem wmL_126 : Cond.methodLink "ShareMonitorLaw" 126 yX12_post ∈ n_tb := n_a8 106 (by decide +kernel) rfl
theorem wi_yX12_post : Cond.instanceMethod yX12_post ∈ n_tb := n_a8 107 (by decide +kernel) rfl
theorem wv_yX12_post : Cond.selects "ShareMonitorModel" yX12_post yX12_post ∈ n_tb := n_a8 108 (by decide +kernel) rfl
set_option maxRecDepth 100000 in
theorem wc_yX12_post : Cond.code yX12_post cX12_post 3 (Option.some Jvm.ClassFile.FieldType.boolean) ∈ n_tb := n_a8 109 rfl rfl
theorem wmL_129 : Cond.methodLink "ShareMonitorLaw" 129 yX12_state ∈ n_tb := n_a8 110 (by decide +kernel) rfl
theorem wi_yX12_state : Cond.instanceMethod yX12_state ∈ n_tb := n_a8 111 (by decide +kernel) rfl
theorem wv_yX12_state : Cond.selects "ShareMonitorModel" yX12_state yX12_state ∈ n_tb := n_a8 112 (by decide +kernel) rfl
set_option maxRecDepth 100000 in
theorem wc_yX12_state : Cond.code yX12_state cX12_state 4 (Option.some Jvm.ClassFile.FieldType.int) ∈ n_tb := n_a8 113 rfl rfl
theorem wmX12_438 : Cond.methodLink "ShareMonitorModel" 438 yX12_held ∈ n_tb := n_a8 114 (by decide +kernel) rfl
theorem wi_yX12_held : Cond.instanceMethod yX12_held ∈ n_tb := n_a8 116 (by decide +kernel) rfl
set_option maxRecDepth 100000 in
theorem wc_yX12_held : Cond.code yX12_held cX12_held 4 (Option.some Jvm.ClassFile.FieldType.int) ∈ n_tb := n_a8 117 rfl rfl
theorem wmL_132 : Cond.methodLink "ShareMonitorLaw" 132 yX12_stack ∈ n_tb := n_a8 118 (by decide +kernel) rfl
theorem wi_yX12_stack : Cond.instanceMethod yX12_stack ∈ n_tb := n_a8 119 (by decide +kernel) rfl
theorem wv_yX12_stack : Cond.selects "ShareMonitorModel" yX12_stack yX12_stack ∈ n_tb := n_a8 120 (by decide +kernel) rfl
set_option maxRecDepth 100000 in
theorem wc_yX12_stack : Cond.code yX12_stack cX12_stack 3 (Option.some Jvm.ClassFile.FieldType.int) ∈ n_tb := n_a8 121 rfl rfl
theorem wmL_136 : Cond.methodLink "ShareMonitorLaw" 136 yX12_message ∈ n_tb := n_a8 122 (by decide +kernel) rfl
theorem wi_yX12_message : Cond.instanceMethod yX12_message ∈ n_tb := n_a8 123 (by decide +kernel) rfl
theorem wv_yX12_message : Cond.selects "ShareMonitorModel" yX12_message yX12_message ∈ n_tb := n_a8 124 (by decide +kernel) rfl
set_option maxRecDepth 100000 in
theorem wc_yX12_message : Cond.code yX12_message cX12_message 4 (Option.some Jvm.ClassFile.FieldType.int) ∈ n_tb := n_a8 125 rfl rfl
theorem wmL_139 : Cond.methodLink "ShareMonitorLaw" 139 yX12_ready ∈ n_tb := n_a8 126 (by decide +kernel) rfl
theorem wi_yX12_ready : Cond.instanceMethod yX12_ready ∈ n_tb := n_a8 127 (by decide +kernel) rfl
theorem wv_yX12_ready : Cond.selects "ShareMonitorModel" yX12_ready yX12_ready ∈ n_tb := n_a8 128 (by decide +kernel) rfl
set_option maxRecDepth 100000 in
theorem wc_yX12_ready : Cond.code yX12_ready cX12_ready 3 (Option.some Jvm.ClassFile.FieldType.int) ∈ n_tb := n_a8 129 rfl rfl
theorem wmL_142 : Cond.methodLink "ShareMonitorLaw" 142 yX12_cell ∈ n_tb := n_a8 130 (by decide +kernel) rfl
theorem wi_yX12_cell : Cond.instanceMethod yX12_cell ∈ n_tb := n_a8 131 (by decide +kernel) rfl
theorem wv_yX12_cell : Cond.selects "ShareMonitorModel" yX12_cell yX12_cell ∈ n_tb := n_a8 132 (by decide +kernel) rfl
set_option maxRecDepth 100000 in
theorem wc_yX12_cell : Cond.code yX12_cell cX12_cell 2 (Option.some Jvm.ClassFile.FieldType.int) ∈ n_tb := n_a8 133 rfl rfl
theorem wmL_145 : Cond.methodLink "ShareMonitorLaw" 145 yX12_block ∈ n_tb := n_a8 134 (by decide +kernel) rfl
theorem wi_yX12_block : Cond.instanceMethod yX12_block ∈ n_tb := n_a8 135 (by decide +kernel) rfl
theorem wv_yX12_block : Cond.selects "ShareMonitorModel" yX12_block yX12_block ∈ n_tb := n_a8 136 (by decide +kernel) rfl
set_option maxRecDepth 100000 in
theorem wc_yX12_block : Cond.code yX12_block cX12_block 3 (Option.some Jvm.ClassFile.FieldType.int) ∈ n_tb := n_a8 137 rfl rfl
theorem wmL_148 : Cond.methodLink "ShareMonitorLaw" 148 yX12_semaphore_ ∈ n_tb := n_a8 138 (by decide +kernel) rfl
theorem wi_yX12_semaphore_ : Cond.instanceMethod yX12_semaphore_ ∈ n_tb := n_a8 139 (by decide +kernel) rfl
theorem wv_yX12_semaphore_ : Cond.selects "ShareMonitorModel" yX12_semaphore_ yX12_semaphore_ ∈ n_tb := n_a8 140 (by decide +kernel) rfl
set_option maxRecDepth 100000 in
theorem wc_yX12_semaphore_ : Cond.code yX12_semaphore_ cX12_semaphore_ 3 (Option.some Jvm.ClassFile.FieldType.int) ∈ n_tb := n_a8 141 rfl rfl
theorem wmL_151 : Cond.methodLink "ShareMonitorLaw" 151 yX12_out ∈ n_tb := n_a8 142 (by decide +kernel) rfl
theorem wi_yX12_out : Cond.instanceMethod yX12_out ∈ n_tb := n_a8 143 (by decide +kernel) rfl
theorem wv_yX12_out : Cond.selects "ShareMonitorModel" yX12_out yX12_out ∈ n_tb := n_a8 144 (by decide +kernel) rfl
set_option maxRecDepth 100000 in
theorem wc_yX12_out : Cond.code yX12_out cX12_out 2 (Option.some Jvm.ClassFile.FieldType.int) ∈ n_tb := n_a8 145 rfl rfl
theorem wmL_154 : Cond.methodLink "ShareMonitorLaw" 154 yX12_count ∈ n_tb := n_a8 146 (by decide +kernel) rfl
theorem wi_yX12_count : Cond.instanceMethod yX12_count ∈ n_tb := n_a8 147 (by decide +kernel) rfl
theorem wv_yX12_count : Cond.selects "ShareMonitorModel" yX12_count yX12_count ∈ n_tb := n_a8 148 (by decide +kernel) rfl
set_option maxRecDepth 100000 in
theorem wc_yX12_count : Cond.code yX12_count cX12_count 5 (Option.some Jvm.ClassFile.FieldType.int) ∈ n_tb := n_a8 149 rfl rfl
theorem wmX12_441 : Cond.methodLink "ShareMonitorModel" 441 yX12_processes ∈ n_tb := n_a8 150 (by decide +kernel) rfl
theorem wi_yX12_processes : Cond.instanceMethod yX12_processes ∈ n_tb := n_a8 152 (by decide +kernel) rfl
set_option maxRecDepth 100000 in
theorem wc_yX12_processes : Cond.code yX12_processes cX12_processes 5 (Option.some Jvm.ClassFile.FieldType.int) ∈ n_tb := n_a8 153 rfl rfl
theorem wfX4_154 : Cond.fieldLink "ShareMonitor$Op" 154 "ShareMonitor$Op" "text" "Ljava/lang/String;" ∈ n_tb := n_a8 164 (by decide +kernel) rfl
theorem wfX10_76 : Cond.fieldLink "ShareMonitor$Worker" 76 "ShareMonitor$Op" "needs" "I" ∈ n_tb := n_a8 165 (by decide +kernel) rfl
theorem wfX10_85 : Cond.fieldLink "ShareMonitor$Worker" 85 "ShareMonitor$Op" "grows" "I" ∈ n_tb := n_a8 166 (by decide +kernel) rfl
theorem wfX10_131 : Cond.fieldLink "ShareMonitor$Worker" 131 "ShareMonitor$Op" "kind" "I" ∈ n_tb := n_a8 167 (by decide +kernel) rfl
theorem wv_yX10_obstacleTo : Cond.selects "ShareMonitor$Worker" yX10_obstacleTo yX10_obstacleTo ∈ n_tb := n_sel (q := (yX10_obstacleTo, 2)) (List.mem_of_getElem? (i := 0) rfl) rfl
theorem wv_yX10_mustWait : Cond.selects "ShareMonitor$Worker" yX10_mustWait yX10_mustWait ∈ n_tb := n_sel (q := (yX10_mustWait, 2)) (List.mem_of_getElem? (i := 1) rfl) rfl
theorem wv_yX10_perform : Cond.selects "ShareMonitor$Worker" yX10_perform yX10_perform ∈ n_tb := n_sel (q := (yX10_perform, 2)) (List.mem_of_getElem? (i := 2) rfl) rfl
theorem wv_yX10_shuffle : Cond.selects "ShareMonitor$Worker" yX10_shuffle yX10_shuffle ∈ n_tb := n_sel (q := (yX10_shuffle, 2)) (List.mem_of_getElem? (i := 3) rfl) rfl
theorem wv_yX10_shuffleSeveral : Cond.selects "ShareMonitor$Worker" yX10_shuffleSeveral yX10_shuffleSeveral ∈ n_tb := n_sel (q := (yX10_shuffleSeveral, 2)) (List.mem_of_getElem? (i := 4) rfl) rfl
theorem wv_yX10_compute : Cond.selects "ShareMonitor$Worker" yX10_compute yX10_compute ∈ n_tb := n_sel (q := (yX10_compute, 2)) (List.mem_of_getElem? (i := 5) rfl) rfl
theorem wv_yX10_follow : Cond.selects "ShareMonitor$Worker" yX10_follow yX10_follow ∈ n_tb := n_sel (q := (yX10_follow, 2)) (List.mem_of_getElem? (i := 6) rfl) rfl
theorem wv_yX10_useMemory : Cond.selects "ShareMonitor$Worker" yX10_useMemory yX10_useMemory ∈ n_tb := n_sel (q := (yX10_useMemory, 2)) (List.mem_of_getElem? (i := 7) rfl) rfl
theorem wv_yX3_cut : Cond.selects "ShareMonitor$Memory" yX3_cut yX3_cut ∈ n_tb := n_sel (q := (yX3_cut, 3)) (List.mem_of_getElem? (i := 8) rfl) rfl
theorem wv_yX10_release : Cond.selects "ShareMonitor$Worker" yX10_release yX10_release ∈ n_tb := n_sel (q := (yX10_release, 2)) (List.mem_of_getElem? (i := 10) rfl) rfl
theorem wv_yX10_give : Cond.selects "ShareMonitor$Worker" yX10_give yX10_give ∈ n_tb := n_sel (q := (yX10_give, 2)) (List.mem_of_getElem? (i := 11) rfl) rfl
theorem wv_yX10_talk : Cond.selects "ShareMonitor$Worker" yX10_talk yX10_talk ∈ n_tb := n_sel (q := (yX10_talk, 2)) (List.mem_of_getElem? (i := 12) rfl) rfl
theorem wv_yX10_send : Cond.selects "ShareMonitor$Worker" yX10_send yX10_send ∈ n_tb := n_sel (q := (yX10_send, 2)) (List.mem_of_getElem? (i := 13) rfl) rfl
theorem wv_yX10_useChildren : Cond.selects "ShareMonitor$Worker" yX10_useChildren yX10_useChildren ∈ n_tb := n_sel (q := (yX10_useChildren, 2)) (List.mem_of_getElem? (i := 14) rfl) rfl
theorem wv_yX10_spawn : Cond.selects "ShareMonitor$Worker" yX10_spawn yX10_spawn ∈ n_tb := n_sel (q := (yX10_spawn, 2)) (List.mem_of_getElem? (i := 15) rfl) rfl
theorem wv_yX10_collect : Cond.selects "ShareMonitor$Worker" yX10_collect yX10_collect ∈ n_tb := n_sel (q := (yX10_collect, 2)) (List.mem_of_getElem? (i := 16) rfl) rfl
theorem wv_yX10_takeTurn : Cond.selects "ShareMonitor$Worker" yX10_takeTurn yX10_takeTurn ∈ n_tb := n_sel (q := (yX10_takeTurn, 2)) (List.mem_of_getElem? (i := 17) rfl) rfl
theorem wv_yX10_useSemaphore : Cond.selects "ShareMonitor$Worker" yX10_useSemaphore yX10_useSemaphore ∈ n_tb := n_sel (q := (yX10_useSemaphore, 2)) (List.mem_of_getElem? (i := 18) rfl) rfl
theorem wv_yX10_settle : Cond.selects "ShareMonitor$Worker" yX10_settle yX10_settle ∈ n_tb := n_sel (q := (yX10_settle, 2)) (List.mem_of_getElem? (i := 19) rfl) rfl
theorem wv_yX6_findWord : Cond.selects "ShareMonitor$Reader" yX6_findWord yX6_findWord ∈ n_tb := n_sel (q := (yX6_findWord, 11)) (List.mem_of_getElem? (i := 20) rfl) rfl
theorem wv_yX6_placeBehindBlanks : Cond.selects "ShareMonitor$Reader" yX6_placeBehindBlanks yX6_placeBehindBlanks ∈ n_tb := n_sel (q := (yX6_placeBehindBlanks, 11)) (List.mem_of_getElem? (i := 21) rfl) rfl
theorem wv_yX6_readWord : Cond.selects "ShareMonitor$Reader" yX6_readWord yX6_readWord ∈ n_tb := n_sel (q := (yX6_readWord, 11)) (List.mem_of_getElem? (i := 22) rfl) rfl
theorem wv_yX6_numberHere : Cond.selects "ShareMonitor$Reader" yX6_numberHere yX6_numberHere ∈ n_tb := n_sel (q := (yX6_numberHere, 11)) (List.mem_of_getElem? (i := 23) rfl) rfl
theorem wv_yX6_addInstruction : Cond.selects "ShareMonitor$Reader" yX6_addInstruction yX6_addInstruction ∈ n_tb := n_sel (q := (yX6_addInstruction, 11)) (List.mem_of_getElem? (i := 24) rfl) rfl
theorem wv_yX6_blame : Cond.selects "ShareMonitor$Reader" yX6_blame yX6_blame ∈ n_tb := n_sel (q := (yX6_blame, 11)) (List.mem_of_getElem? (i := 25) rfl) rfl
theorem wv_yX6_readName : Cond.selects "ShareMonitor$Reader" yX6_readName yX6_readName ∈ n_tb := n_sel (q := (yX6_readName, 11)) (List.mem_of_getElem? (i := 26) rfl) rfl
theorem wv_yX6_isName : Cond.selects "ShareMonitor$Reader" yX6_isName yX6_isName ∈ n_tb := n_sel (q := (yX6_isName, 11)) (List.mem_of_getElem? (i := 27) rfl) rfl
theorem wv_yX6_addLabel : Cond.selects "ShareMonitor$Reader" yX6_addLabel yX6_addLabel ∈ n_tb := n_sel (q := (yX6_addLabel, 11)) (List.mem_of_getElem? (i := 28) rfl) rfl
theorem wv_yX6_targetOf : Cond.selects "ShareMonitor$Reader" yX6_targetOf yX6_targetOf ∈ n_tb := n_sel (q := (yX6_targetOf, 11)) (List.mem_of_getElem? (i := 29) rfl) rfl
theorem wv_yX6_findTargets : Cond.selects "ShareMonitor$Reader" yX6_findTargets yX6_findTargets ∈ n_tb := n_sel (q := (yX6_findTargets, 11)) (List.mem_of_getElem? (i := 30) rfl) rfl
theorem wv_yX12_free : Cond.selects "ShareMonitorModel" yX12_free yX12_free ∈ n_tb := n_sel (q := (yX12_free, 53)) (List.mem_of_getElem? (i := 31) rfl) rfl
theorem wv_yX12_readAll : Cond.selects "ShareMonitorModel" yX12_readAll yX12_readAll ∈ n_tb := n_sel (q := (yX12_readAll, 53)) (List.mem_of_getElem? (i := 32) rfl) rfl
theorem wv_yX12_takeWord : Cond.selects "ShareMonitorModel" yX12_takeWord yX12_takeWord ∈ n_tb := n_sel (q := (yX12_takeWord, 53)) (List.mem_of_getElem? (i := 33) rfl) rfl
theorem wv_yX12_byteOf : Cond.selects "ShareMonitorModel" yX12_byteOf yX12_byteOf ∈ n_tb := n_sel (q := (yX12_byteOf, 53)) (List.mem_of_getElem? (i := 34) rfl) rfl
theorem wv_yX12_readWord : Cond.selects "ShareMonitorModel" yX12_readWord yX12_readWord ∈ n_tb := n_sel (q := (yX12_readWord, 53)) (List.mem_of_getElem? (i := 35) rfl) rfl
theorem wv_yX12_operation : Cond.selects "ShareMonitorModel" yX12_operation yX12_operation ∈ n_tb := n_sel (q := (yX12_operation, 53)) (List.mem_of_getElem? (i := 36) rfl) rfl
theorem wv_yX12_readLabel : Cond.selects "ShareMonitorModel" yX12_readLabel yX12_readLabel ∈ n_tb := n_sel (q := (yX12_readLabel, 53)) (List.mem_of_getElem? (i := 37) rfl) rfl
theorem wv_yX12_isName : Cond.selects "ShareMonitorModel" yX12_isName yX12_isName ∈ n_tb := n_sel (q := (yX12_isName, 53)) (List.mem_of_getElem? (i := 38) rfl) rfl
theorem wv_yX12_flaw : Cond.selects "ShareMonitorModel" yX12_flaw yX12_flaw ∈ n_tb := n_sel (q := (yX12_flaw, 53)) (List.mem_of_getElem? (i := 39) rfl) rfl
theorem wv_yX12_labelOf : Cond.selects "ShareMonitorModel" yX12_labelOf yX12_labelOf ∈ n_tb := n_sel (q := (yX12_labelOf, 53)) (List.mem_of_getElem? (i := 40) rfl) rfl
theorem wv_yX12_isNumber : Cond.selects "ShareMonitorModel" yX12_isNumber yX12_isNumber ∈ n_tb := n_sel (q := (yX12_isNumber, 53)) (List.mem_of_getElem? (i := 41) rfl) rfl
theorem wv_yX12_valueOfWord : Cond.selects "ShareMonitorModel" yX12_valueOfWord yX12_valueOfWord ∈ n_tb := n_sel (q := (yX12_valueOfWord, 53)) (List.mem_of_getElem? (i := 42) rfl) rfl
theorem wv_yX12_put : Cond.selects "ShareMonitorModel" yX12_put yX12_put ∈ n_tb := n_sel (q := (yX12_put, 53)) (List.mem_of_getElem? (i := 43) rfl) rfl
theorem wv_yX12_start : Cond.selects "ShareMonitorModel" yX12_start yX12_start ∈ n_tb := n_sel (q := (yX12_start, 53)) (List.mem_of_getElem? (i := 44) rfl) rfl
theorem wv_yX12_wake : Cond.selects "ShareMonitorModel" yX12_wake yX12_wake ∈ n_tb := n_sel (q := (yX12_wake, 53)) (List.mem_of_getElem? (i := 45) rfl) rfl
theorem wv_yX12_joinRow : Cond.selects "ShareMonitorModel" yX12_joinRow yX12_joinRow ∈ n_tb := n_sel (q := (yX12_joinRow, 53)) (List.mem_of_getElem? (i := 46) rfl) rfl
theorem wv_yX12_turn : Cond.selects "ShareMonitorModel" yX12_turn yX12_turn ∈ n_tb := n_sel (q := (yX12_turn, 53)) (List.mem_of_getElem? (i := 47) rfl) rfl
theorem wv_yX12_wakeSleepers : Cond.selects "ShareMonitorModel" yX12_wakeSleepers yX12_wakeSleepers ∈ n_tb := n_sel (q := (yX12_wakeSleepers, 53)) (List.mem_of_getElem? (i := 48) rfl) rfl
theorem wv_yX12_act : Cond.selects "ShareMonitorModel" yX12_act yX12_act ∈ n_tb := n_sel (q := (yX12_act, 53)) (List.mem_of_getElem? (i := 49) rfl) rfl
theorem wv_yX12_finish : Cond.selects "ShareMonitorModel" yX12_finish yX12_finish ∈ n_tb := n_sel (q := (yX12_finish, 53)) (List.mem_of_getElem? (i := 50) rfl) rfl
theorem wv_yX12_leaveRow : Cond.selects "ShareMonitorModel" yX12_leaveRow yX12_leaveRow ∈ n_tb := n_sel (q := (yX12_leaveRow, 53)) (List.mem_of_getElem? (i := 51) rfl) rfl
theorem wv_yX12_leaveSemaphore : Cond.selects "ShareMonitorModel" yX12_leaveSemaphore yX12_leaveSemaphore ∈ n_tb := n_sel (q := (yX12_leaveSemaphore, 53)) (List.mem_of_getElem? (i := 52) rfl) rfl
theorem wv_yX12_joinBlocks : Cond.selects "ShareMonitorModel" yX12_joinBlocks yX12_joinBlocks ∈ n_tb := n_sel (q := (yX12_joinBlocks, 53)) (List.mem_of_getElem? (i := 53) rfl) rfl
theorem wv_yX12_release : Cond.selects "ShareMonitorModel" yX12_release yX12_release ∈ n_tb := n_sel (q := (yX12_release, 53)) (List.mem_of_getElem? (i := 54) rfl) rfl
theorem wv_yX12_sweep : Cond.selects "ShareMonitorModel" yX12_sweep yX12_sweep ∈ n_tb := n_sel (q := (yX12_sweep, 53)) (List.mem_of_getElem? (i := 55) rfl) rfl
theorem wv_yX12_fits : Cond.selects "ShareMonitorModel" yX12_fits yX12_fits ∈ n_tb := n_sel (q := (yX12_fits, 53)) (List.mem_of_getElem? (i := 56) rfl) rfl
theorem wv_yX12_result : Cond.selects "ShareMonitorModel" yX12_result yX12_result ∈ n_tb := n_sel (q := (yX12_result, 53)) (List.mem_of_getElem? (i := 57) rfl) rfl
theorem wv_yX12_push : Cond.selects "ShareMonitorModel" yX12_push yX12_push ∈ n_tb := n_sel (q := (yX12_push, 53)) (List.mem_of_getElem? (i := 58) rfl) rfl
theorem wv_yX12_done : Cond.selects "ShareMonitorModel" yX12_done yX12_done ∈ n_tb := n_sel (q := (yX12_done, 53)) (List.mem_of_getElem? (i := 59) rfl) rfl
theorem wv_yX12_plain : Cond.selects "ShareMonitorModel" yX12_plain yX12_plain ∈ n_tb := n_sel (q := (yX12_plain, 53)) (List.mem_of_getElem? (i := 60) rfl) rfl
theorem wv_yX12_top : Cond.selects "ShareMonitorModel" yX12_top yX12_top ∈ n_tb := n_sel (q := (yX12_top, 53)) (List.mem_of_getElem? (i := 61) rfl) rfl
theorem wv_yX12_setTop : Cond.selects "ShareMonitorModel" yX12_setTop yX12_setTop ∈ n_tb := n_sel (q := (yX12_setTop, 53)) (List.mem_of_getElem? (i := 62) rfl) rfl
theorem wv_yX12_memory : Cond.selects "ShareMonitorModel" yX12_memory yX12_memory ∈ n_tb := n_sel (q := (yX12_memory, 53)) (List.mem_of_getElem? (i := 63) rfl) rfl
theorem wv_yX12_holds : Cond.selects "ShareMonitorModel" yX12_holds yX12_holds ∈ n_tb := n_sel (q := (yX12_holds, 53)) (List.mem_of_getElem? (i := 64) rfl) rfl
theorem wv_yX12_allocate : Cond.selects "ShareMonitorModel" yX12_allocate yX12_allocate ∈ n_tb := n_sel (q := (yX12_allocate, 53)) (List.mem_of_getElem? (i := 65) rfl) rfl
theorem wv_yX12_blockFrom : Cond.selects "ShareMonitorModel" yX12_blockFrom yX12_blockFrom ∈ n_tb := n_sel (q := (yX12_blockFrom, 53)) (List.mem_of_getElem? (i := 66) rfl) rfl
theorem wv_yX12_isAlive : Cond.selects "ShareMonitorModel" yX12_isAlive yX12_isAlive ∈ n_tb := n_sel (q := (yX12_isAlive, 53)) (List.mem_of_getElem? (i := 67) rfl) rfl
theorem wv_yX12_isProcess : Cond.selects "ShareMonitorModel" yX12_isProcess yX12_isProcess ∈ n_tb := n_sel (q := (yX12_isProcess, 53)) (List.mem_of_getElem? (i := 68) rfl) rfl
theorem wv_yX12_others : Cond.selects "ShareMonitorModel" yX12_others yX12_others ∈ n_tb := n_sel (q := (yX12_others, 53)) (List.mem_of_getElem? (i := 69) rfl) rfl
theorem wv_yX12_spawn : Cond.selects "ShareMonitorModel" yX12_spawn yX12_spawn ∈ n_tb := n_sel (q := (yX12_spawn, 53)) (List.mem_of_getElem? (i := 70) rfl) rfl
theorem wv_yX12_deliver : Cond.selects "ShareMonitorModel" yX12_deliver yX12_deliver ∈ n_tb := n_sel (q := (yX12_deliver, 53)) (List.mem_of_getElem? (i := 71) rfl) rfl
theorem wv_yX12_receive : Cond.selects "ShareMonitorModel" yX12_receive yX12_receive ∈ n_tb := n_sel (q := (yX12_receive, 53)) (List.mem_of_getElem? (i := 72) rfl) rfl
theorem wv_yX12_waitFor : Cond.selects "ShareMonitorModel" yX12_waitFor yX12_waitFor ∈ n_tb := n_sel (q := (yX12_waitFor, 53)) (List.mem_of_getElem? (i := 73) rfl) rfl
theorem wv_yX12_await : Cond.selects "ShareMonitorModel" yX12_await yX12_await ∈ n_tb := n_sel (q := (yX12_await, 53)) (List.mem_of_getElem? (i := 74) rfl) rfl
theorem wv_yX12_isChild : Cond.selects "ShareMonitorModel" yX12_isChild yX12_isChild ∈ n_tb := n_sel (q := (yX12_isChild, 53)) (List.mem_of_getElem? (i := 75) rfl) rfl
theorem wv_yX12_shares : Cond.selects "ShareMonitorModel" yX12_shares yX12_shares ∈ n_tb := n_sel (q := (yX12_shares, 53)) (List.mem_of_getElem? (i := 76) rfl) rfl
theorem wv_yX12_toEnd : Cond.selects "ShareMonitorModel" yX12_toEnd yX12_toEnd ∈ n_tb := n_sel (q := (yX12_toEnd, 53)) (List.mem_of_getElem? (i := 77) rfl) rfl
theorem wv_yX12_semaphore : Cond.selects "ShareMonitorModel" yX12_semaphore yX12_semaphore ∈ n_tb := n_sel (q := (yX12_semaphore, 53)) (List.mem_of_getElem? (i := 78) rfl) rfl
theorem wv_yX12_held : Cond.selects "ShareMonitorModel" yX12_held yX12_held ∈ n_tb := n_sel (q := (yX12_held, 53)) (List.mem_of_getElem? (i := 79) rfl) rfl
theorem wv_yX12_processes : Cond.selects "ShareMonitorModel" yX12_processes yX12_processes ∈ n_tb := n_sel (q := (yX12_processes, 53)) (List.mem_of_getElem? (i := 80) rfl) rfl
end
section
section NF
variable {p : Program} {l : Launch} {e : Env} {s : State} {m : MethodId} {args : Array Value} {below : List Frame} {meth : Method} {c : Code} {D : va_G} {ca : Nat → ClassId} {ad : Nat → Nat → Nat} {ae : Nat → Nat} {Ex : State → Heap → Prop} {d : Nat} {Po : Option Value → n_S → Prop} {cc : ByteArray} {nL : Nat} {own : String} {ret : Option FieldType}
variable {pc : Nat} {ls : List (Option Value)} {rest : List Value} {σ : n_S} {ix i : Nat}
theorem cw_ho (κ i k : Nat) (v : Int32) (κ' i' : Nat) (h : ¬ (κ' = κ ∧ i' = i)) : cw_eL ca ad ae κ' i' (n_up σ κ i k v κ' i') = cw_eL ca ad ae κ' i' (σ κ' i') := by rw [n_up_ne h]
theorem rw_ho (κ k : Nat) (v : Int32) (κ' : Nat) (h : ¬ κ' = κ) : rw_eL ca ad κ' (n_up σ κ 0 k v κ' 0) = rw_eL ca ad κ' (σ κ' 0) := by rw [n_up_ne (fun q => h q.1)]

theorem g0_tape (hC : n_C p s m args meth c (cw D ca ad ae Ex) cc nL own ret) (hi : cw_dom 0 i) (hw : Cond.fieldLink own ix "ShareMonitor" "tape" "LShareMonitor$Tape;" ∈ n_tb) (hdg : decode cc pc = .ok (.getfield ix, 3)) (kk : n_W p l e s m args below meth c (cw D ca ad ae Ex) d Po (pc + 3) ls (.ref (ad 1 0) :: rest) σ) : n_W p l e s m args below meth c (cw D ca ad ae Ex) d Po pc ls (.ref (ad 0 i) :: rest) σ := n_getf hC (κ := 0) (i := i) (ci := 9) (k := 0) (q := (RX11, TX11, 4)) hi rfl rfl (by decide) hw rfl hdg kk
theorem g0_reader (hC : n_C p s m args meth c (cw D ca ad ae Ex) cc nL own ret) (hi : cw_dom 0 i) (hw : Cond.fieldLink own ix "ShareMonitor" "reader" "LShareMonitor$Reader;" ∈ n_tb) (hdg : decode cc pc = .ok (.getfield ix, 3)) (kk : n_W p l e s m args below meth c (cw D ca ad ae Ex) d Po (pc + 3) ls (.ref (ad 3 0) :: rest) σ) : n_W p l e s m args below meth c (cw D ca ad ae Ex) d Po pc ls (.ref (ad 0 i) :: rest) σ := n_getf hC (κ := 0) (i := i) (ci := 9) (k := 1) (q := (RX11, TX11, 4)) hi rfl rfl (by decide) hw rfl hdg kk
theorem g0_desk (hC : n_C p s m args meth c (cw D ca ad ae Ex) cc nL own ret) (hi : cw_dom 0 i) (hw : Cond.fieldLink own ix "ShareMonitor" "desk" "LShareMonitor$Desk;" ∈ n_tb) (hdg : decode cc pc = .ok (.getfield ix, 3)) (kk : n_W p l e s m args below meth c (cw D ca ad ae Ex) d Po (pc + 3) ls (.ref (ad 9 0) :: rest) σ) : n_W p l e s m args below meth c (cw D ca ad ae Ex) d Po pc ls (.ref (ad 0 i) :: rest) σ := n_getf hC (κ := 0) (i := i) (ci := 9) (k := 2) (q := (RX11, TX11, 4)) hi rfl rfl (by decide) hw rfl hdg kk
theorem g0_worker (hC : n_C p s m args meth c (cw D ca ad ae Ex) cc nL own ret) (hi : cw_dom 0 i) (hw : Cond.fieldLink own ix "ShareMonitor" "worker" "LShareMonitor$Worker;" ∈ n_tb) (hdg : decode cc pc = .ok (.getfield ix, 3)) (kk : n_W p l e s m args below meth c (cw D ca ad ae Ex) d Po (pc + 3) ls (.ref (ad 20 0) :: rest) σ) : n_W p l e s m args below meth c (cw D ca ad ae Ex) d Po pc ls (.ref (ad 0 i) :: rest) σ := n_getf hC (κ := 0) (i := i) (ci := 9) (k := 3) (q := (RX11, TX11, 4)) hi rfl rfl (by decide) hw rfl hdg kk
theorem g1_bytes (hC : n_C p s m args meth c (cw D ca ad ae Ex) cc nL own ret) (hi : cw_dom 1 i) (hw : Cond.fieldLink own ix "ShareMonitor$Tape" "bytes" "[B" ∈ n_tb) (hdg : decode cc pc = .ok (.getfield ix, 3)) (kk : n_W p l e s m args below meth c (cw D ca ad ae Ex) d Po (pc + 3) ls (.ref (ad 2 0) :: rest) σ) : n_W p l e s m args below meth c (cw D ca ad ae Ex) d Po pc ls (.ref (ad 1 i) :: rest) σ := n_getf hC (κ := 1) (i := i) (ci := 6) (k := 0) (q := (RX8, TX8, 2)) hi rfl rfl (by decide) hw rfl hdg kk
theorem g1_length (hC : n_C p s m args meth c (cw D ca ad ae Ex) cc nL own ret) (hi : cw_dom 1 i) (hw : Cond.fieldLink own ix "ShareMonitor$Tape" "length" "I" ∈ n_tb) (hdg : decode cc pc = .ok (.getfield ix, 3)) (kk : n_W p l e s m args below meth c (cw D ca ad ae Ex) d Po (pc + 3) ls (.int (σ 1 i 1) :: rest) σ) : n_W p l e s m args below meth c (cw D ca ad ae Ex) d Po pc ls (.ref (ad 1 i) :: rest) σ := n_getf hC (κ := 1) (i := i) (ci := 6) (k := 1) (q := (RX8, TX8, 2)) hi rfl rfl (by decide) hw rfl hdg kk
theorem p1_length (hC : n_C p s m args meth c (cw D ca ad ae Ex) cc nL own ret) {x : Int32} (hi : cw_dom 1 i) (hw : Cond.fieldLink own ix "ShareMonitor$Tape" "length" "I" ∈ n_tb) (hdg : decode cc pc = .ok (.putfield ix, 3)) (kk : n_W p l e s m args below meth c (cw D ca ad ae Ex) d Po (pc + 3) ls (rest) (n_up σ 1 i 1 x)) : n_W p l e s m args below meth c (cw D ca ad ae Ex) d Po pc ls (.int x :: .ref (ad 1 i) :: rest) σ := n_putf hC (κ := 1) (i := i) (ci := 6) (k := 1) (q := (RX8, TX8, 2)) (ty := .int) (n_up σ 1 i 1 x) hi rfl rfl (by decide) hw (Nat.le_of_ble_eq_true rfl) rfl (by decide +kernel) rfl rfl (congrArg (cw_eL ca ad ae 1 i) (n_up_at σ 1 i 1 x)) (fun κ' i' _ h => cw_ho 1 i 1 x κ' i' h) hdg kk
theorem g3_tape (hC : n_C p s m args meth c (cw D ca ad ae Ex) cc nL own ret) (hi : cw_dom 3 i) (hw : Cond.fieldLink own ix "ShareMonitor$Reader" "tape" "LShareMonitor$Tape;" ∈ n_tb) (hdg : decode cc pc = .ok (.getfield ix, 3)) (kk : n_W p l e s m args below meth c (cw D ca ad ae Ex) d Po (pc + 3) ls (.ref (ad 1 0) :: rest) σ) : n_W p l e s m args below meth c (cw D ca ad ae Ex) d Po pc ls (.ref (ad 3 i) :: rest) σ := n_getf hC (κ := 3) (i := i) (ci := 4) (k := 0) (q := (RX6, TX6, 11)) hi rfl rfl (by decide) hw rfl hdg kk
theorem g3_labelPlaces (hC : n_C p s m args meth c (cw D ca ad ae Ex) cc nL own ret) (hi : cw_dom 3 i) (hw : Cond.fieldLink own ix "ShareMonitor$Reader" "labelPlaces" "[I" ∈ n_tb) (hdg : decode cc pc = .ok (.getfield ix, 3)) (kk : n_W p l e s m args below meth c (cw D ca ad ae Ex) d Po (pc + 3) ls (.ref (ad 4 0) :: rest) σ) : n_W p l e s m args below meth c (cw D ca ad ae Ex) d Po pc ls (.ref (ad 3 i) :: rest) σ := n_getf hC (κ := 3) (i := i) (ci := 4) (k := 1) (q := (RX6, TX6, 11)) hi rfl rfl (by decide) hw rfl hdg kk
theorem g3_labelSizes (hC : n_C p s m args meth c (cw D ca ad ae Ex) cc nL own ret) (hi : cw_dom 3 i) (hw : Cond.fieldLink own ix "ShareMonitor$Reader" "labelSizes" "[I" ∈ n_tb) (hdg : decode cc pc = .ok (.getfield ix, 3)) (kk : n_W p l e s m args below meth c (cw D ca ad ae Ex) d Po (pc + 3) ls (.ref (ad 5 0) :: rest) σ) : n_W p l e s m args below meth c (cw D ca ad ae Ex) d Po pc ls (.ref (ad 3 i) :: rest) σ := n_getf hC (κ := 3) (i := i) (ci := 4) (k := 2) (q := (RX6, TX6, 11)) hi rfl rfl (by decide) hw rfl hdg kk
theorem g3_labelTargets (hC : n_C p s m args meth c (cw D ca ad ae Ex) cc nL own ret) (hi : cw_dom 3 i) (hw : Cond.fieldLink own ix "ShareMonitor$Reader" "labelTargets" "[I" ∈ n_tb) (hdg : decode cc pc = .ok (.getfield ix, 3)) (kk : n_W p l e s m args below meth c (cw D ca ad ae Ex) d Po (pc + 3) ls (.ref (ad 6 0) :: rest) σ) : n_W p l e s m args below meth c (cw D ca ad ae Ex) d Po pc ls (.ref (ad 3 i) :: rest) σ := n_getf hC (κ := 3) (i := i) (ci := 4) (k := 3) (q := (RX6, TX6, 11)) hi rfl rfl (by decide) hw rfl hdg kk
theorem g3_labels (hC : n_C p s m args meth c (cw D ca ad ae Ex) cc nL own ret) (hi : cw_dom 3 i) (hw : Cond.fieldLink own ix "ShareMonitor$Reader" "labels" "I" ∈ n_tb) (hdg : decode cc pc = .ok (.getfield ix, 3)) (kk : n_W p l e s m args below meth c (cw D ca ad ae Ex) d Po (pc + 3) ls (.int (σ 3 i 4) :: rest) σ) : n_W p l e s m args below meth c (cw D ca ad ae Ex) d Po pc ls (.ref (ad 3 i) :: rest) σ := n_getf hC (κ := 3) (i := i) (ci := 4) (k := 4) (q := (RX6, TX6, 11)) hi rfl rfl (by decide) hw rfl hdg kk
theorem p3_labels (hC : n_C p s m args meth c (cw D ca ad ae Ex) cc nL own ret) {x : Int32} (hi : cw_dom 3 i) (hw : Cond.fieldLink own ix "ShareMonitor$Reader" "labels" "I" ∈ n_tb) (hdg : decode cc pc = .ok (.putfield ix, 3)) (kk : n_W p l e s m args below meth c (cw D ca ad ae Ex) d Po (pc + 3) ls (rest) (n_up σ 3 i 4 x)) : n_W p l e s m args below meth c (cw D ca ad ae Ex) d Po pc ls (.int x :: .ref (ad 3 i) :: rest) σ := n_putf hC (κ := 3) (i := i) (ci := 4) (k := 4) (q := (RX6, TX6, 11)) (ty := .int) (n_up σ 3 i 4 x) hi rfl rfl (by decide) hw (Nat.le_of_ble_eq_true rfl) rfl (by decide +kernel) rfl rfl (congrArg (cw_eL ca ad ae 3 i) (n_up_at σ 3 i 4 x)) (fun κ' i' _ h => cw_ho 3 i 4 x κ' i' h) hdg kk
theorem g3_namePlaces (hC : n_C p s m args meth c (cw D ca ad ae Ex) cc nL own ret) (hi : cw_dom 3 i) (hw : Cond.fieldLink own ix "ShareMonitor$Reader" "namePlaces" "[I" ∈ n_tb) (hdg : decode cc pc = .ok (.getfield ix, 3)) (kk : n_W p l e s m args below meth c (cw D ca ad ae Ex) d Po (pc + 3) ls (.ref (ad 7 0) :: rest) σ) : n_W p l e s m args below meth c (cw D ca ad ae Ex) d Po pc ls (.ref (ad 3 i) :: rest) σ := n_getf hC (κ := 3) (i := i) (ci := 4) (k := 5) (q := (RX6, TX6, 11)) hi rfl rfl (by decide) hw rfl hdg kk
theorem g3_nameSizes (hC : n_C p s m args meth c (cw D ca ad ae Ex) cc nL own ret) (hi : cw_dom 3 i) (hw : Cond.fieldLink own ix "ShareMonitor$Reader" "nameSizes" "[I" ∈ n_tb) (hdg : decode cc pc = .ok (.getfield ix, 3)) (kk : n_W p l e s m args below meth c (cw D ca ad ae Ex) d Po (pc + 3) ls (.ref (ad 8 0) :: rest) σ) : n_W p l e s m args below meth c (cw D ca ad ae Ex) d Po pc ls (.ref (ad 3 i) :: rest) σ := n_getf hC (κ := 3) (i := i) (ci := 4) (k := 6) (q := (RX6, TX6, 11)) hi rfl rfl (by decide) hw rfl hdg kk
theorem g3_start (hC : n_C p s m args meth c (cw D ca ad ae Ex) cc nL own ret) (hi : cw_dom 3 i) (hw : Cond.fieldLink own ix "ShareMonitor$Reader" "start" "I" ∈ n_tb) (hdg : decode cc pc = .ok (.getfield ix, 3)) (kk : n_W p l e s m args below meth c (cw D ca ad ae Ex) d Po (pc + 3) ls (.int (σ 3 i 7) :: rest) σ) : n_W p l e s m args below meth c (cw D ca ad ae Ex) d Po pc ls (.ref (ad 3 i) :: rest) σ := n_getf hC (κ := 3) (i := i) (ci := 4) (k := 7) (q := (RX6, TX6, 11)) hi rfl rfl (by decide) hw rfl hdg kk
theorem p3_start (hC : n_C p s m args meth c (cw D ca ad ae Ex) cc nL own ret) {x : Int32} (hi : cw_dom 3 i) (hw : Cond.fieldLink own ix "ShareMonitor$Reader" "start" "I" ∈ n_tb) (hdg : decode cc pc = .ok (.putfield ix, 3)) (kk : n_W p l e s m args below meth c (cw D ca ad ae Ex) d Po (pc + 3) ls (rest) (n_up σ 3 i 7 x)) : n_W p l e s m args below meth c (cw D ca ad ae Ex) d Po pc ls (.int x :: .ref (ad 3 i) :: rest) σ := n_putf hC (κ := 3) (i := i) (ci := 4) (k := 7) (q := (RX6, TX6, 11)) (ty := .int) (n_up σ 3 i 7 x) hi rfl rfl (by decide) hw (Nat.le_of_ble_eq_true rfl) rfl (by decide +kernel) rfl rfl (congrArg (cw_eL ca ad ae 3 i) (n_up_at σ 3 i 7 x)) (fun κ' i' _ h => cw_ho 3 i 7 x κ' i' h) hdg kk
theorem g3_stop (hC : n_C p s m args meth c (cw D ca ad ae Ex) cc nL own ret) (hi : cw_dom 3 i) (hw : Cond.fieldLink own ix "ShareMonitor$Reader" "stop" "I" ∈ n_tb) (hdg : decode cc pc = .ok (.getfield ix, 3)) (kk : n_W p l e s m args below meth c (cw D ca ad ae Ex) d Po (pc + 3) ls (.int (σ 3 i 8) :: rest) σ) : n_W p l e s m args below meth c (cw D ca ad ae Ex) d Po pc ls (.ref (ad 3 i) :: rest) σ := n_getf hC (κ := 3) (i := i) (ci := 4) (k := 8) (q := (RX6, TX6, 11)) hi rfl rfl (by decide) hw rfl hdg kk
theorem p3_stop (hC : n_C p s m args meth c (cw D ca ad ae Ex) cc nL own ret) {x : Int32} (hi : cw_dom 3 i) (hw : Cond.fieldLink own ix "ShareMonitor$Reader" "stop" "I" ∈ n_tb) (hdg : decode cc pc = .ok (.putfield ix, 3)) (kk : n_W p l e s m args below meth c (cw D ca ad ae Ex) d Po (pc + 3) ls (rest) (n_up σ 3 i 8 x)) : n_W p l e s m args below meth c (cw D ca ad ae Ex) d Po pc ls (.int x :: .ref (ad 3 i) :: rest) σ := n_putf hC (κ := 3) (i := i) (ci := 4) (k := 8) (q := (RX6, TX6, 11)) (ty := .int) (n_up σ 3 i 8 x) hi rfl rfl (by decide) hw (Nat.le_of_ble_eq_true rfl) rfl (by decide +kernel) rfl rfl (congrArg (cw_eL ca ad ae 3 i) (n_up_at σ 3 i 8 x)) (fun κ' i' _ h => cw_ho 3 i 8 x κ' i' h) hdg kk
theorem g3_fault (hC : n_C p s m args meth c (cw D ca ad ae Ex) cc nL own ret) (hi : cw_dom 3 i) (hw : Cond.fieldLink own ix "ShareMonitor$Reader" "fault" "I" ∈ n_tb) (hdg : decode cc pc = .ok (.getfield ix, 3)) (kk : n_W p l e s m args below meth c (cw D ca ad ae Ex) d Po (pc + 3) ls (.int (σ 3 i 9) :: rest) σ) : n_W p l e s m args below meth c (cw D ca ad ae Ex) d Po pc ls (.ref (ad 3 i) :: rest) σ := n_getf hC (κ := 3) (i := i) (ci := 4) (k := 9) (q := (RX6, TX6, 11)) hi rfl rfl (by decide) hw rfl hdg kk
theorem p3_fault (hC : n_C p s m args meth c (cw D ca ad ae Ex) cc nL own ret) {x : Int32} (hi : cw_dom 3 i) (hw : Cond.fieldLink own ix "ShareMonitor$Reader" "fault" "I" ∈ n_tb) (hdg : decode cc pc = .ok (.putfield ix, 3)) (kk : n_W p l e s m args below meth c (cw D ca ad ae Ex) d Po (pc + 3) ls (rest) (n_up σ 3 i 9 x)) : n_W p l e s m args below meth c (cw D ca ad ae Ex) d Po pc ls (.int x :: .ref (ad 3 i) :: rest) σ := n_putf hC (κ := 3) (i := i) (ci := 4) (k := 9) (q := (RX6, TX6, 11)) (ty := .int) (n_up σ 3 i 9 x) hi rfl rfl (by decide) hw (Nat.le_of_ble_eq_true rfl) rfl (by decide +kernel) rfl rfl (congrArg (cw_eL ca ad ae 3 i) (n_up_at σ 3 i 9 x)) (fun κ' i' _ h => cw_ho 3 i 9 x κ' i' h) hdg kk
theorem g3_faultPlace (hC : n_C p s m args meth c (cw D ca ad ae Ex) cc nL own ret) (hi : cw_dom 3 i) (hw : Cond.fieldLink own ix "ShareMonitor$Reader" "faultPlace" "I" ∈ n_tb) (hdg : decode cc pc = .ok (.getfield ix, 3)) (kk : n_W p l e s m args below meth c (cw D ca ad ae Ex) d Po (pc + 3) ls (.int (σ 3 i 10) :: rest) σ) : n_W p l e s m args below meth c (cw D ca ad ae Ex) d Po pc ls (.ref (ad 3 i) :: rest) σ := n_getf hC (κ := 3) (i := i) (ci := 4) (k := 10) (q := (RX6, TX6, 11)) hi rfl rfl (by decide) hw rfl hdg kk
theorem p3_faultPlace (hC : n_C p s m args meth c (cw D ca ad ae Ex) cc nL own ret) {x : Int32} (hi : cw_dom 3 i) (hw : Cond.fieldLink own ix "ShareMonitor$Reader" "faultPlace" "I" ∈ n_tb) (hdg : decode cc pc = .ok (.putfield ix, 3)) (kk : n_W p l e s m args below meth c (cw D ca ad ae Ex) d Po (pc + 3) ls (rest) (n_up σ 3 i 10 x)) : n_W p l e s m args below meth c (cw D ca ad ae Ex) d Po pc ls (.int x :: .ref (ad 3 i) :: rest) σ := n_putf hC (κ := 3) (i := i) (ci := 4) (k := 10) (q := (RX6, TX6, 11)) (ty := .int) (n_up σ 3 i 10 x) hi rfl rfl (by decide) hw (Nat.le_of_ble_eq_true rfl) rfl (by decide +kernel) rfl rfl (congrArg (cw_eL ca ad ae 3 i) (n_up_at σ 3 i 10 x)) (fun κ' i' _ h => cw_ho 3 i 10 x κ' i' h) hdg kk
theorem g9_processes (hC : n_C p s m args meth c (cw D ca ad ae Ex) cc nL own ret) (hi : cw_dom 9 i) (hw : Cond.fieldLink own ix "ShareMonitor$Desk" "processes" "[LShareMonitor$UserProcess;" ∈ n_tb) (hdg : decode cc pc = .ok (.getfield ix, 3)) (kk : n_W p l e s m args below meth c (cw D ca ad ae Ex) d Po (pc + 3) ls (.ref (ad 10 0) :: rest) σ) : n_W p l e s m args below meth c (cw D ca ad ae Ex) d Po pc ls (.ref (ad 9 i) :: rest) σ := n_getf hC (κ := 9) (i := i) (ci := 1) (k := 0) (q := (RX2, TX2, 11)) hi rfl rfl (by decide) hw rfl hdg kk
theorem g9_programs (hC : n_C p s m args meth c (cw D ca ad ae Ex) cc nL own ret) (hi : cw_dom 9 i) (hw : Cond.fieldLink own ix "ShareMonitor$Desk" "programs" "[LShareMonitor$Program;" ∈ n_tb) (hdg : decode cc pc = .ok (.getfield ix, 3)) (kk : n_W p l e s m args below meth c (cw D ca ad ae Ex) d Po (pc + 3) ls (.ref (ad 11 0) :: rest) σ) : n_W p l e s m args below meth c (cw D ca ad ae Ex) d Po pc ls (.ref (ad 9 i) :: rest) σ := n_getf hC (κ := 9) (i := i) (ci := 1) (k := 1) (q := (RX2, TX2, 11)) hi rfl rfl (by decide) hw rfl hdg kk
theorem g9_rows (hC : n_C p s m args meth c (cw D ca ad ae Ex) cc nL own ret) (hi : cw_dom 9 i) (hw : Cond.fieldLink own ix "ShareMonitor$Desk" "rows" "[LShareMonitor$Row;" ∈ n_tb) (hdg : decode cc pc = .ok (.getfield ix, 3)) (kk : n_W p l e s m args below meth c (cw D ca ad ae Ex) d Po (pc + 3) ls (.ref (ad 12 0) :: rest) σ) : n_W p l e s m args below meth c (cw D ca ad ae Ex) d Po pc ls (.ref (ad 9 i) :: rest) σ := n_getf hC (κ := 9) (i := i) (ci := 1) (k := 2) (q := (RX2, TX2, 11)) hi rfl rfl (by decide) hw rfl hdg kk
theorem g9_values (hC : n_C p s m args meth c (cw D ca ad ae Ex) cc nL own ret) (hi : cw_dom 9 i) (hw : Cond.fieldLink own ix "ShareMonitor$Desk" "values" "[I" ∈ n_tb) (hdg : decode cc pc = .ok (.getfield ix, 3)) (kk : n_W p l e s m args below meth c (cw D ca ad ae Ex) d Po (pc + 3) ls (.ref (ad 14 0) :: rest) σ) : n_W p l e s m args below meth c (cw D ca ad ae Ex) d Po pc ls (.ref (ad 9 i) :: rest) σ := n_getf hC (κ := 9) (i := i) (ci := 1) (k := 3) (q := (RX2, TX2, 11)) hi rfl rfl (by decide) hw rfl hdg kk
theorem g9_queues (hC : n_C p s m args meth c (cw D ca ad ae Ex) cc nL own ret) (hi : cw_dom 9 i) (hw : Cond.fieldLink own ix "ShareMonitor$Desk" "queues" "[LShareMonitor$Row;" ∈ n_tb) (hdg : decode cc pc = .ok (.getfield ix, 3)) (kk : n_W p l e s m args below meth c (cw D ca ad ae Ex) d Po (pc + 3) ls (.ref (ad 13 0) :: rest) σ) : n_W p l e s m args below meth c (cw D ca ad ae Ex) d Po pc ls (.ref (ad 9 i) :: rest) σ := n_getf hC (κ := 9) (i := i) (ci := 1) (k := 4) (q := (RX2, TX2, 11)) hi rfl rfl (by decide) hw rfl hdg kk
theorem g9_memory (hC : n_C p s m args meth c (cw D ca ad ae Ex) cc nL own ret) (hi : cw_dom 9 i) (hw : Cond.fieldLink own ix "ShareMonitor$Desk" "memory" "LShareMonitor$Memory;" ∈ n_tb) (hdg : decode cc pc = .ok (.getfield ix, 3)) (kk : n_W p l e s m args below meth c (cw D ca ad ae Ex) d Po (pc + 3) ls (.ref (ad 15 0) :: rest) σ) : n_W p l e s m args below meth c (cw D ca ad ae Ex) d Po pc ls (.ref (ad 9 i) :: rest) σ := n_getf hC (κ := 9) (i := i) (ci := 1) (k := 5) (q := (RX2, TX2, 11)) hi rfl rfl (by decide) hw rfl hdg kk
theorem g9_console (hC : n_C p s m args meth c (cw D ca ad ae Ex) cc nL own ret) (hi : cw_dom 9 i) (hw : Cond.fieldLink own ix "ShareMonitor$Desk" "console" "[I" ∈ n_tb) (hdg : decode cc pc = .ok (.getfield ix, 3)) (kk : n_W p l e s m args below meth c (cw D ca ad ae Ex) d Po (pc + 3) ls (.ref (ad 19 0) :: rest) σ) : n_W p l e s m args below meth c (cw D ca ad ae Ex) d Po pc ls (.ref (ad 9 i) :: rest) σ := n_getf hC (κ := 9) (i := i) (ci := 1) (k := 6) (q := (RX2, TX2, 11)) hi rfl rfl (by decide) hw rfl hdg kk
theorem g9_shown (hC : n_C p s m args meth c (cw D ca ad ae Ex) cc nL own ret) (hi : cw_dom 9 i) (hw : Cond.fieldLink own ix "ShareMonitor$Desk" "shown" "I" ∈ n_tb) (hdg : decode cc pc = .ok (.getfield ix, 3)) (kk : n_W p l e s m args below meth c (cw D ca ad ae Ex) d Po (pc + 3) ls (.int (σ 9 i 7) :: rest) σ) : n_W p l e s m args below meth c (cw D ca ad ae Ex) d Po pc ls (.ref (ad 9 i) :: rest) σ := n_getf hC (κ := 9) (i := i) (ci := 1) (k := 7) (q := (RX2, TX2, 11)) hi rfl rfl (by decide) hw rfl hdg kk
theorem p9_shown (hC : n_C p s m args meth c (cw D ca ad ae Ex) cc nL own ret) {x : Int32} (hi : cw_dom 9 i) (hw : Cond.fieldLink own ix "ShareMonitor$Desk" "shown" "I" ∈ n_tb) (hdg : decode cc pc = .ok (.putfield ix, 3)) (kk : n_W p l e s m args below meth c (cw D ca ad ae Ex) d Po (pc + 3) ls (rest) (n_up σ 9 i 7 x)) : n_W p l e s m args below meth c (cw D ca ad ae Ex) d Po pc ls (.int x :: .ref (ad 9 i) :: rest) σ := n_putf hC (κ := 9) (i := i) (ci := 1) (k := 7) (q := (RX2, TX2, 11)) (ty := .int) (n_up σ 9 i 7 x) hi rfl rfl (by decide) hw (Nat.le_of_ble_eq_true rfl) rfl (by decide +kernel) rfl rfl (congrArg (cw_eL ca ad ae 9 i) (n_up_at σ 9 i 7 x)) (fun κ' i' _ h => cw_ho 9 i 7 x κ' i' h) hdg kk
theorem g9_lost (hC : n_C p s m args meth c (cw D ca ad ae Ex) cc nL own ret) (hi : cw_dom 9 i) (hw : Cond.fieldLink own ix "ShareMonitor$Desk" "lost" "I" ∈ n_tb) (hdg : decode cc pc = .ok (.getfield ix, 3)) (kk : n_W p l e s m args below meth c (cw D ca ad ae Ex) d Po (pc + 3) ls (.int (σ 9 i 8) :: rest) σ) : n_W p l e s m args below meth c (cw D ca ad ae Ex) d Po pc ls (.ref (ad 9 i) :: rest) σ := n_getf hC (κ := 9) (i := i) (ci := 1) (k := 8) (q := (RX2, TX2, 11)) hi rfl rfl (by decide) hw rfl hdg kk
theorem p9_lost (hC : n_C p s m args meth c (cw D ca ad ae Ex) cc nL own ret) {x : Int32} (hi : cw_dom 9 i) (hw : Cond.fieldLink own ix "ShareMonitor$Desk" "lost" "I" ∈ n_tb) (hdg : decode cc pc = .ok (.putfield ix, 3)) (kk : n_W p l e s m args below meth c (cw D ca ad ae Ex) d Po (pc + 3) ls (rest) (n_up σ 9 i 8 x)) : n_W p l e s m args below meth c (cw D ca ad ae Ex) d Po pc ls (.int x :: .ref (ad 9 i) :: rest) σ := n_putf hC (κ := 9) (i := i) (ci := 1) (k := 8) (q := (RX2, TX2, 11)) (ty := .int) (n_up σ 9 i 8 x) hi rfl rfl (by decide) hw (Nat.le_of_ble_eq_true rfl) rfl (by decide +kernel) rfl rfl (congrArg (cw_eL ca ad ae 9 i) (n_up_at σ 9 i 8 x)) (fun κ' i' _ h => cw_ho 9 i 8 x κ' i' h) hdg kk
theorem g9_clock (hC : n_C p s m args meth c (cw D ca ad ae Ex) cc nL own ret) (hi : cw_dom 9 i) (hw : Cond.fieldLink own ix "ShareMonitor$Desk" "clock" "I" ∈ n_tb) (hdg : decode cc pc = .ok (.getfield ix, 3)) (kk : n_W p l e s m args below meth c (cw D ca ad ae Ex) d Po (pc + 3) ls (.int (σ 9 i 9) :: rest) σ) : n_W p l e s m args below meth c (cw D ca ad ae Ex) d Po pc ls (.ref (ad 9 i) :: rest) σ := n_getf hC (κ := 9) (i := i) (ci := 1) (k := 9) (q := (RX2, TX2, 11)) hi rfl rfl (by decide) hw rfl hdg kk
theorem p9_clock (hC : n_C p s m args meth c (cw D ca ad ae Ex) cc nL own ret) {x : Int32} (hi : cw_dom 9 i) (hw : Cond.fieldLink own ix "ShareMonitor$Desk" "clock" "I" ∈ n_tb) (hdg : decode cc pc = .ok (.putfield ix, 3)) (kk : n_W p l e s m args below meth c (cw D ca ad ae Ex) d Po (pc + 3) ls (rest) (n_up σ 9 i 9 x)) : n_W p l e s m args below meth c (cw D ca ad ae Ex) d Po pc ls (.int x :: .ref (ad 9 i) :: rest) σ := n_putf hC (κ := 9) (i := i) (ci := 1) (k := 9) (q := (RX2, TX2, 11)) (ty := .int) (n_up σ 9 i 9 x) hi rfl rfl (by decide) hw (Nat.le_of_ble_eq_true rfl) rfl (by decide +kernel) rfl rfl (congrArg (cw_eL ca ad ae 9 i) (n_up_at σ 9 i 9 x)) (fun κ' i' _ h => cw_ho 9 i 9 x κ' i' h) hdg kk
theorem g9_soonest (hC : n_C p s m args meth c (cw D ca ad ae Ex) cc nL own ret) (hi : cw_dom 9 i) (hw : Cond.fieldLink own ix "ShareMonitor$Desk" "soonest" "I" ∈ n_tb) (hdg : decode cc pc = .ok (.getfield ix, 3)) (kk : n_W p l e s m args below meth c (cw D ca ad ae Ex) d Po (pc + 3) ls (.int (σ 9 i 10) :: rest) σ) : n_W p l e s m args below meth c (cw D ca ad ae Ex) d Po pc ls (.ref (ad 9 i) :: rest) σ := n_getf hC (κ := 9) (i := i) (ci := 1) (k := 10) (q := (RX2, TX2, 11)) hi rfl rfl (by decide) hw rfl hdg kk
theorem p9_soonest (hC : n_C p s m args meth c (cw D ca ad ae Ex) cc nL own ret) {x : Int32} (hi : cw_dom 9 i) (hw : Cond.fieldLink own ix "ShareMonitor$Desk" "soonest" "I" ∈ n_tb) (hdg : decode cc pc = .ok (.putfield ix, 3)) (kk : n_W p l e s m args below meth c (cw D ca ad ae Ex) d Po (pc + 3) ls (rest) (n_up σ 9 i 10 x)) : n_W p l e s m args below meth c (cw D ca ad ae Ex) d Po pc ls (.int x :: .ref (ad 9 i) :: rest) σ := n_putf hC (κ := 9) (i := i) (ci := 1) (k := 10) (q := (RX2, TX2, 11)) (ty := .int) (n_up σ 9 i 10 x) hi rfl rfl (by decide) hw (Nat.le_of_ble_eq_true rfl) rfl (by decide +kernel) rfl rfl (congrArg (cw_eL ca ad ae 9 i) (n_up_at σ 9 i 10 x)) (fun κ' i' _ h => cw_ho 9 i 10 x κ' i' h) hdg kk
theorem g15_cells (hC : n_C p s m args meth c (cw D ca ad ae Ex) cc nL own ret) (hi : cw_dom 15 i) (hw : Cond.fieldLink own ix "ShareMonitor$Memory" "cells" "[I" ∈ n_tb) (hdg : decode cc pc = .ok (.getfield ix, 3)) (kk : n_W p l e s m args below meth c (cw D ca ad ae Ex) d Po (pc + 3) ls (.ref (ad 16 0) :: rest) σ) : n_W p l e s m args below meth c (cw D ca ad ae Ex) d Po pc ls (.ref (ad 15 i) :: rest) σ := n_getf hC (κ := 15) (i := i) (ci := 2) (k := 0) (q := (RX3, TX3, 3)) hi rfl rfl (by decide) hw rfl hdg kk
theorem g15_holders (hC : n_C p s m args meth c (cw D ca ad ae Ex) cc nL own ret) (hi : cw_dom 15 i) (hw : Cond.fieldLink own ix "ShareMonitor$Memory" "holders" "[I" ∈ n_tb) (hdg : decode cc pc = .ok (.getfield ix, 3)) (kk : n_W p l e s m args below meth c (cw D ca ad ae Ex) d Po (pc + 3) ls (.ref (ad 17 0) :: rest) σ) : n_W p l e s m args below meth c (cw D ca ad ae Ex) d Po pc ls (.ref (ad 15 i) :: rest) σ := n_getf hC (κ := 15) (i := i) (ci := 2) (k := 1) (q := (RX3, TX3, 3)) hi rfl rfl (by decide) hw rfl hdg kk
theorem g15_sizes (hC : n_C p s m args meth c (cw D ca ad ae Ex) cc nL own ret) (hi : cw_dom 15 i) (hw : Cond.fieldLink own ix "ShareMonitor$Memory" "sizes" "[I" ∈ n_tb) (hdg : decode cc pc = .ok (.getfield ix, 3)) (kk : n_W p l e s m args below meth c (cw D ca ad ae Ex) d Po (pc + 3) ls (.ref (ad 18 0) :: rest) σ) : n_W p l e s m args below meth c (cw D ca ad ae Ex) d Po pc ls (.ref (ad 15 i) :: rest) σ := n_getf hC (κ := 15) (i := i) (ci := 2) (k := 2) (q := (RX3, TX3, 3)) hi rfl rfl (by decide) hw rfl hdg kk
theorem g20_desk (hC : n_C p s m args meth c (cw D ca ad ae Ex) cc nL own ret) (hi : cw_dom 20 i) (hw : Cond.fieldLink own ix "ShareMonitor$Worker" "desk" "LShareMonitor$Desk;" ∈ n_tb) (hdg : decode cc pc = .ok (.getfield ix, 3)) (kk : n_W p l e s m args below meth c (cw D ca ad ae Ex) d Po (pc + 3) ls (.ref (ad 9 0) :: rest) σ) : n_W p l e s m args below meth c (cw D ca ad ae Ex) d Po pc ls (.ref (ad 20 i) :: rest) σ := n_getf hC (κ := 20) (i := i) (ci := 8) (k := 0) (q := (RX10, TX10, 2)) hi rfl rfl (by decide) hw rfl hdg kk
theorem g20_quantum (hC : n_C p s m args meth c (cw D ca ad ae Ex) cc nL own ret) (hi : cw_dom 20 i) (hw : Cond.fieldLink own ix "ShareMonitor$Worker" "quantum" "I" ∈ n_tb) (hdg : decode cc pc = .ok (.getfield ix, 3)) (kk : n_W p l e s m args below meth c (cw D ca ad ae Ex) d Po (pc + 3) ls (.int (σ 20 i 1) :: rest) σ) : n_W p l e s m args below meth c (cw D ca ad ae Ex) d Po pc ls (.ref (ad 20 i) :: rest) σ := n_getf hC (κ := 20) (i := i) (ci := 8) (k := 1) (q := (RX10, TX10, 2)) hi rfl rfl (by decide) hw rfl hdg kk
theorem p20_quantum (hC : n_C p s m args meth c (cw D ca ad ae Ex) cc nL own ret) {x : Int32} (hi : cw_dom 20 i) (hw : Cond.fieldLink own ix "ShareMonitor$Worker" "quantum" "I" ∈ n_tb) (hdg : decode cc pc = .ok (.putfield ix, 3)) (kk : n_W p l e s m args below meth c (cw D ca ad ae Ex) d Po (pc + 3) ls (rest) (n_up σ 20 i 1 x)) : n_W p l e s m args below meth c (cw D ca ad ae Ex) d Po pc ls (.int x :: .ref (ad 20 i) :: rest) σ := n_putf hC (κ := 20) (i := i) (ci := 8) (k := 1) (q := (RX10, TX10, 2)) (ty := .int) (n_up σ 20 i 1 x) hi rfl rfl (by decide) hw (Nat.le_of_ble_eq_true rfl) rfl (by decide +kernel) rfl rfl (congrArg (cw_eL ca ad ae 20 i) (n_up_at σ 20 i 1 x)) (fun κ' i' _ h => cw_ho 20 i 1 x κ' i' h) hdg kk
theorem g21_number (hC : n_C p s m args meth c (cw D ca ad ae Ex) cc nL own ret) (hi : cw_dom 21 i) (hw : Cond.fieldLink own ix "ShareMonitor$UserProcess" "number" "I" ∈ n_tb) (hdg : decode cc pc = .ok (.getfield ix, 3)) (kk : n_W p l e s m args below meth c (cw D ca ad ae Ex) d Po (pc + 3) ls (.int (nI i) :: rest) σ) : n_W p l e s m args below meth c (cw D ca ad ae Ex) d Po pc ls (.ref (ad 21 i) :: rest) σ := n_getf hC (κ := 21) (i := i) (ci := 7) (k := 0) (q := (RX9, TX9, 16)) hi rfl rfl (by decide) hw rfl hdg kk
theorem g21_numbers (hC : n_C p s m args meth c (cw D ca ad ae Ex) cc nL own ret) (hi : cw_dom 21 i) (hw : Cond.fieldLink own ix "ShareMonitor$UserProcess" "numbers" "[I" ∈ n_tb) (hdg : decode cc pc = .ok (.getfield ix, 3)) (kk : n_W p l e s m args below meth c (cw D ca ad ae Ex) d Po (pc + 3) ls (.ref (ad 22 i) :: rest) σ) : n_W p l e s m args below meth c (cw D ca ad ae Ex) d Po pc ls (.ref (ad 21 i) :: rest) σ := n_getf hC (κ := 21) (i := i) (ci := 7) (k := 1) (q := (RX9, TX9, 16)) hi rfl rfl (by decide) hw rfl hdg kk
theorem g21_returns (hC : n_C p s m args meth c (cw D ca ad ae Ex) cc nL own ret) (hi : cw_dom 21 i) (hw : Cond.fieldLink own ix "ShareMonitor$UserProcess" "returns" "[I" ∈ n_tb) (hdg : decode cc pc = .ok (.getfield ix, 3)) (kk : n_W p l e s m args below meth c (cw D ca ad ae Ex) d Po (pc + 3) ls (.ref (ad 23 i) :: rest) σ) : n_W p l e s m args below meth c (cw D ca ad ae Ex) d Po pc ls (.ref (ad 21 i) :: rest) σ := n_getf hC (κ := 21) (i := i) (ci := 7) (k := 2) (q := (RX9, TX9, 16)) hi rfl rfl (by decide) hw rfl hdg kk
theorem g21_box (hC : n_C p s m args meth c (cw D ca ad ae Ex) cc nL own ret) (hi : cw_dom 21 i) (hw : Cond.fieldLink own ix "ShareMonitor$UserProcess" "box" "LShareMonitor$Box;" ∈ n_tb) (hdg : decode cc pc = .ok (.getfield ix, 3)) (kk : n_W p l e s m args below meth c (cw D ca ad ae Ex) d Po (pc + 3) ls (.ref (ad 24 (2 * i)) :: rest) σ) : n_W p l e s m args below meth c (cw D ca ad ae Ex) d Po pc ls (.ref (ad 21 i) :: rest) σ := n_getf hC (κ := 21) (i := i) (ci := 7) (k := 3) (q := (RX9, TX9, 16)) hi rfl rfl (by decide) hw rfl hdg kk
theorem g21_keys (hC : n_C p s m args meth c (cw D ca ad ae Ex) cc nL own ret) (hi : cw_dom 21 i) (hw : Cond.fieldLink own ix "ShareMonitor$UserProcess" "keys" "LShareMonitor$Box;" ∈ n_tb) (hdg : decode cc pc = .ok (.getfield ix, 3)) (kk : n_W p l e s m args below meth c (cw D ca ad ae Ex) d Po (pc + 3) ls (.ref (ad 24 (2 * i + 1)) :: rest) σ) : n_W p l e s m args below meth c (cw D ca ad ae Ex) d Po pc ls (.ref (ad 21 i) :: rest) σ := n_getf hC (κ := 21) (i := i) (ci := 7) (k := 4) (q := (RX9, TX9, 16)) hi rfl rfl (by decide) hw rfl hdg kk
theorem g21_depth (hC : n_C p s m args meth c (cw D ca ad ae Ex) cc nL own ret) (hi : cw_dom 21 i) (hw : Cond.fieldLink own ix "ShareMonitor$UserProcess" "depth" "I" ∈ n_tb) (hdg : decode cc pc = .ok (.getfield ix, 3)) (kk : n_W p l e s m args below meth c (cw D ca ad ae Ex) d Po (pc + 3) ls (.int (σ 21 i 5) :: rest) σ) : n_W p l e s m args below meth c (cw D ca ad ae Ex) d Po pc ls (.ref (ad 21 i) :: rest) σ := n_getf hC (κ := 21) (i := i) (ci := 7) (k := 5) (q := (RX9, TX9, 16)) hi rfl rfl (by decide) hw rfl hdg kk
theorem p21_depth (hC : n_C p s m args meth c (cw D ca ad ae Ex) cc nL own ret) {x : Int32} (hi : cw_dom 21 i) (hw : Cond.fieldLink own ix "ShareMonitor$UserProcess" "depth" "I" ∈ n_tb) (hdg : decode cc pc = .ok (.putfield ix, 3)) (kk : n_W p l e s m args below meth c (cw D ca ad ae Ex) d Po (pc + 3) ls (rest) (n_up σ 21 i 5 x)) : n_W p l e s m args below meth c (cw D ca ad ae Ex) d Po pc ls (.int x :: .ref (ad 21 i) :: rest) σ := n_putf hC (κ := 21) (i := i) (ci := 7) (k := 5) (q := (RX9, TX9, 16)) (ty := .int) (n_up σ 21 i 5 x) hi rfl rfl (by decide) hw (Nat.le_of_ble_eq_true rfl) rfl (by decide +kernel) rfl rfl (congrArg (cw_eL ca ad ae 21 i) (n_up_at σ 21 i 5 x)) (fun κ' i' _ h => cw_ho 21 i 5 x κ' i' h) hdg kk
theorem g21_returnDepth (hC : n_C p s m args meth c (cw D ca ad ae Ex) cc nL own ret) (hi : cw_dom 21 i) (hw : Cond.fieldLink own ix "ShareMonitor$UserProcess" "returnDepth" "I" ∈ n_tb) (hdg : decode cc pc = .ok (.getfield ix, 3)) (kk : n_W p l e s m args below meth c (cw D ca ad ae Ex) d Po (pc + 3) ls (.int (σ 21 i 6) :: rest) σ) : n_W p l e s m args below meth c (cw D ca ad ae Ex) d Po pc ls (.ref (ad 21 i) :: rest) σ := n_getf hC (κ := 21) (i := i) (ci := 7) (k := 6) (q := (RX9, TX9, 16)) hi rfl rfl (by decide) hw rfl hdg kk
theorem p21_returnDepth (hC : n_C p s m args meth c (cw D ca ad ae Ex) cc nL own ret) {x : Int32} (hi : cw_dom 21 i) (hw : Cond.fieldLink own ix "ShareMonitor$UserProcess" "returnDepth" "I" ∈ n_tb) (hdg : decode cc pc = .ok (.putfield ix, 3)) (kk : n_W p l e s m args below meth c (cw D ca ad ae Ex) d Po (pc + 3) ls (rest) (n_up σ 21 i 6 x)) : n_W p l e s m args below meth c (cw D ca ad ae Ex) d Po pc ls (.int x :: .ref (ad 21 i) :: rest) σ := n_putf hC (κ := 21) (i := i) (ci := 7) (k := 6) (q := (RX9, TX9, 16)) (ty := .int) (n_up σ 21 i 6 x) hi rfl rfl (by decide) hw (Nat.le_of_ble_eq_true rfl) rfl (by decide +kernel) rfl rfl (congrArg (cw_eL ca ad ae 21 i) (n_up_at σ 21 i 6 x)) (fun κ' i' _ h => cw_ho 21 i 6 x κ' i' h) hdg kk
theorem g21_status (hC : n_C p s m args meth c (cw D ca ad ae Ex) cc nL own ret) (hi : cw_dom 21 i) (hw : Cond.fieldLink own ix "ShareMonitor$UserProcess" "status" "I" ∈ n_tb) (hdg : decode cc pc = .ok (.getfield ix, 3)) (kk : n_W p l e s m args below meth c (cw D ca ad ae Ex) d Po (pc + 3) ls (.int (σ 21 i 7) :: rest) σ) : n_W p l e s m args below meth c (cw D ca ad ae Ex) d Po pc ls (.ref (ad 21 i) :: rest) σ := n_getf hC (κ := 21) (i := i) (ci := 7) (k := 7) (q := (RX9, TX9, 16)) hi rfl rfl (by decide) hw rfl hdg kk
theorem p21_status (hC : n_C p s m args meth c (cw D ca ad ae Ex) cc nL own ret) {x : Int32} (hi : cw_dom 21 i) (hw : Cond.fieldLink own ix "ShareMonitor$UserProcess" "status" "I" ∈ n_tb) (hdg : decode cc pc = .ok (.putfield ix, 3)) (kk : n_W p l e s m args below meth c (cw D ca ad ae Ex) d Po (pc + 3) ls (rest) (n_up σ 21 i 7 x)) : n_W p l e s m args below meth c (cw D ca ad ae Ex) d Po pc ls (.int x :: .ref (ad 21 i) :: rest) σ := n_putf hC (κ := 21) (i := i) (ci := 7) (k := 7) (q := (RX9, TX9, 16)) (ty := .int) (n_up σ 21 i 7 x) hi rfl rfl (by decide) hw (Nat.le_of_ble_eq_true rfl) rfl (by decide +kernel) rfl rfl (congrArg (cw_eL ca ad ae 21 i) (n_up_at σ 21 i 7 x)) (fun κ' i' _ h => cw_ho 21 i 7 x κ' i' h) hdg kk
theorem g21_code (hC : n_C p s m args meth c (cw D ca ad ae Ex) cc nL own ret) (hi : cw_dom 21 i) (hw : Cond.fieldLink own ix "ShareMonitor$UserProcess" "code" "I" ∈ n_tb) (hdg : decode cc pc = .ok (.getfield ix, 3)) (kk : n_W p l e s m args below meth c (cw D ca ad ae Ex) d Po (pc + 3) ls (.int (σ 21 i 8) :: rest) σ) : n_W p l e s m args below meth c (cw D ca ad ae Ex) d Po pc ls (.ref (ad 21 i) :: rest) σ := n_getf hC (κ := 21) (i := i) (ci := 7) (k := 8) (q := (RX9, TX9, 16)) hi rfl rfl (by decide) hw rfl hdg kk
theorem p21_code (hC : n_C p s m args meth c (cw D ca ad ae Ex) cc nL own ret) {x : Int32} (hi : cw_dom 21 i) (hw : Cond.fieldLink own ix "ShareMonitor$UserProcess" "code" "I" ∈ n_tb) (hdg : decode cc pc = .ok (.putfield ix, 3)) (kk : n_W p l e s m args below meth c (cw D ca ad ae Ex) d Po (pc + 3) ls (rest) (n_up σ 21 i 8 x)) : n_W p l e s m args below meth c (cw D ca ad ae Ex) d Po pc ls (.int x :: .ref (ad 21 i) :: rest) σ := n_putf hC (κ := 21) (i := i) (ci := 7) (k := 8) (q := (RX9, TX9, 16)) (ty := .int) (n_up σ 21 i 8 x) hi rfl rfl (by decide) hw (Nat.le_of_ble_eq_true rfl) rfl (by decide +kernel) rfl rfl (congrArg (cw_eL ca ad ae 21 i) (n_up_at σ 21 i 8 x)) (fun κ' i' _ h => cw_ho 21 i 8 x κ' i' h) hdg kk
theorem g21_level (hC : n_C p s m args meth c (cw D ca ad ae Ex) cc nL own ret) (hi : cw_dom 21 i) (hw : Cond.fieldLink own ix "ShareMonitor$UserProcess" "level" "I" ∈ n_tb) (hdg : decode cc pc = .ok (.getfield ix, 3)) (kk : n_W p l e s m args below meth c (cw D ca ad ae Ex) d Po (pc + 3) ls (.int (σ 21 i 9) :: rest) σ) : n_W p l e s m args below meth c (cw D ca ad ae Ex) d Po pc ls (.ref (ad 21 i) :: rest) σ := n_getf hC (κ := 21) (i := i) (ci := 7) (k := 9) (q := (RX9, TX9, 16)) hi rfl rfl (by decide) hw rfl hdg kk
theorem p21_level (hC : n_C p s m args meth c (cw D ca ad ae Ex) cc nL own ret) {x : Int32} (hi : cw_dom 21 i) (hw : Cond.fieldLink own ix "ShareMonitor$UserProcess" "level" "I" ∈ n_tb) (hdg : decode cc pc = .ok (.putfield ix, 3)) (kk : n_W p l e s m args below meth c (cw D ca ad ae Ex) d Po (pc + 3) ls (rest) (n_up σ 21 i 9 x)) : n_W p l e s m args below meth c (cw D ca ad ae Ex) d Po pc ls (.int x :: .ref (ad 21 i) :: rest) σ := n_putf hC (κ := 21) (i := i) (ci := 7) (k := 9) (q := (RX9, TX9, 16)) (ty := .int) (n_up σ 21 i 9 x) hi rfl rfl (by decide) hw (Nat.le_of_ble_eq_true rfl) rfl (by decide +kernel) rfl rfl (congrArg (cw_eL ca ad ae 21 i) (n_up_at σ 21 i 9 x)) (fun κ' i' _ h => cw_ho 21 i 9 x κ' i' h) hdg kk
theorem g21_parent (hC : n_C p s m args meth c (cw D ca ad ae Ex) cc nL own ret) (hi : cw_dom 21 i) (hw : Cond.fieldLink own ix "ShareMonitor$UserProcess" "parent" "I" ∈ n_tb) (hdg : decode cc pc = .ok (.getfield ix, 3)) (kk : n_W p l e s m args below meth c (cw D ca ad ae Ex) d Po (pc + 3) ls (.int (σ 21 i 10) :: rest) σ) : n_W p l e s m args below meth c (cw D ca ad ae Ex) d Po pc ls (.ref (ad 21 i) :: rest) σ := n_getf hC (κ := 21) (i := i) (ci := 7) (k := 10) (q := (RX9, TX9, 16)) hi rfl rfl (by decide) hw rfl hdg kk
theorem p21_parent (hC : n_C p s m args meth c (cw D ca ad ae Ex) cc nL own ret) {x : Int32} (hi : cw_dom 21 i) (hw : Cond.fieldLink own ix "ShareMonitor$UserProcess" "parent" "I" ∈ n_tb) (hdg : decode cc pc = .ok (.putfield ix, 3)) (kk : n_W p l e s m args below meth c (cw D ca ad ae Ex) d Po (pc + 3) ls (rest) (n_up σ 21 i 10 x)) : n_W p l e s m args below meth c (cw D ca ad ae Ex) d Po pc ls (.int x :: .ref (ad 21 i) :: rest) σ := n_putf hC (κ := 21) (i := i) (ci := 7) (k := 10) (q := (RX9, TX9, 16)) (ty := .int) (n_up σ 21 i 10 x) hi rfl rfl (by decide) hw (Nat.le_of_ble_eq_true rfl) rfl (by decide +kernel) rfl rfl (congrArg (cw_eL ca ad ae 21 i) (n_up_at σ 21 i 10 x)) (fun κ' i' _ h => cw_ho 21 i 10 x κ' i' h) hdg kk
theorem g21_program (hC : n_C p s m args meth c (cw D ca ad ae Ex) cc nL own ret) (hi : cw_dom 21 i) (hw : Cond.fieldLink own ix "ShareMonitor$UserProcess" "program" "LShareMonitor$Program;" ∈ n_tb) (hdg : decode cc pc = .ok (.getfield ix, 3)) (kk : n_W p l e s m args below meth c (cw D ca ad ae Ex) d Po (pc + 3) ls (va_rf (cw_pg ad (σ 21 i 11)) :: rest) σ) : n_W p l e s m args below meth c (cw D ca ad ae Ex) d Po pc ls (.ref (ad 21 i) :: rest) σ := n_getf hC (κ := 21) (i := i) (ci := 7) (k := 11) (q := (RX9, TX9, 16)) hi rfl rfl (by decide) hw rfl hdg kk
theorem g21_next (hC : n_C p s m args meth c (cw D ca ad ae Ex) cc nL own ret) (hi : cw_dom 21 i) (hw : Cond.fieldLink own ix "ShareMonitor$UserProcess" "next" "I" ∈ n_tb) (hdg : decode cc pc = .ok (.getfield ix, 3)) (kk : n_W p l e s m args below meth c (cw D ca ad ae Ex) d Po (pc + 3) ls (.int (σ 21 i 12) :: rest) σ) : n_W p l e s m args below meth c (cw D ca ad ae Ex) d Po pc ls (.ref (ad 21 i) :: rest) σ := n_getf hC (κ := 21) (i := i) (ci := 7) (k := 12) (q := (RX9, TX9, 16)) hi rfl rfl (by decide) hw rfl hdg kk
theorem p21_next (hC : n_C p s m args meth c (cw D ca ad ae Ex) cc nL own ret) {x : Int32} (hi : cw_dom 21 i) (hw : Cond.fieldLink own ix "ShareMonitor$UserProcess" "next" "I" ∈ n_tb) (hdg : decode cc pc = .ok (.putfield ix, 3)) (kk : n_W p l e s m args below meth c (cw D ca ad ae Ex) d Po (pc + 3) ls (rest) (n_up σ 21 i 12 x)) : n_W p l e s m args below meth c (cw D ca ad ae Ex) d Po pc ls (.int x :: .ref (ad 21 i) :: rest) σ := n_putf hC (κ := 21) (i := i) (ci := 7) (k := 12) (q := (RX9, TX9, 16)) (ty := .int) (n_up σ 21 i 12 x) hi rfl rfl (by decide) hw (Nat.le_of_ble_eq_true rfl) rfl (by decide +kernel) rfl rfl (congrArg (cw_eL ca ad ae 21 i) (n_up_at σ 21 i 12 x)) (fun κ' i' _ h => cw_ho 21 i 12 x κ' i' h) hdg kk
theorem g21_done (hC : n_C p s m args meth c (cw D ca ad ae Ex) cc nL own ret) (hi : cw_dom 21 i) (hw : Cond.fieldLink own ix "ShareMonitor$UserProcess" "done" "I" ∈ n_tb) (hdg : decode cc pc = .ok (.getfield ix, 3)) (kk : n_W p l e s m args below meth c (cw D ca ad ae Ex) d Po (pc + 3) ls (.int (σ 21 i 13) :: rest) σ) : n_W p l e s m args below meth c (cw D ca ad ae Ex) d Po pc ls (.ref (ad 21 i) :: rest) σ := n_getf hC (κ := 21) (i := i) (ci := 7) (k := 13) (q := (RX9, TX9, 16)) hi rfl rfl (by decide) hw rfl hdg kk
theorem p21_done (hC : n_C p s m args meth c (cw D ca ad ae Ex) cc nL own ret) {x : Int32} (hi : cw_dom 21 i) (hw : Cond.fieldLink own ix "ShareMonitor$UserProcess" "done" "I" ∈ n_tb) (hdg : decode cc pc = .ok (.putfield ix, 3)) (kk : n_W p l e s m args below meth c (cw D ca ad ae Ex) d Po (pc + 3) ls (rest) (n_up σ 21 i 13 x)) : n_W p l e s m args below meth c (cw D ca ad ae Ex) d Po pc ls (.int x :: .ref (ad 21 i) :: rest) σ := n_putf hC (κ := 21) (i := i) (ci := 7) (k := 13) (q := (RX9, TX9, 16)) (ty := .int) (n_up σ 21 i 13 x) hi rfl rfl (by decide) hw (Nat.le_of_ble_eq_true rfl) rfl (by decide +kernel) rfl rfl (congrArg (cw_eL ca ad ae 21 i) (n_up_at σ 21 i 13 x)) (fun κ' i' _ h => cw_ho 21 i 13 x κ' i' h) hdg kk
theorem g21_streak (hC : n_C p s m args meth c (cw D ca ad ae Ex) cc nL own ret) (hi : cw_dom 21 i) (hw : Cond.fieldLink own ix "ShareMonitor$UserProcess" "streak" "I" ∈ n_tb) (hdg : decode cc pc = .ok (.getfield ix, 3)) (kk : n_W p l e s m args below meth c (cw D ca ad ae Ex) d Po (pc + 3) ls (.int (σ 21 i 14) :: rest) σ) : n_W p l e s m args below meth c (cw D ca ad ae Ex) d Po pc ls (.ref (ad 21 i) :: rest) σ := n_getf hC (κ := 21) (i := i) (ci := 7) (k := 14) (q := (RX9, TX9, 16)) hi rfl rfl (by decide) hw rfl hdg kk
theorem p21_streak (hC : n_C p s m args meth c (cw D ca ad ae Ex) cc nL own ret) {x : Int32} (hi : cw_dom 21 i) (hw : Cond.fieldLink own ix "ShareMonitor$UserProcess" "streak" "I" ∈ n_tb) (hdg : decode cc pc = .ok (.putfield ix, 3)) (kk : n_W p l e s m args below meth c (cw D ca ad ae Ex) d Po (pc + 3) ls (rest) (n_up σ 21 i 14 x)) : n_W p l e s m args below meth c (cw D ca ad ae Ex) d Po pc ls (.int x :: .ref (ad 21 i) :: rest) σ := n_putf hC (κ := 21) (i := i) (ci := 7) (k := 14) (q := (RX9, TX9, 16)) (ty := .int) (n_up σ 21 i 14 x) hi rfl rfl (by decide) hw (Nat.le_of_ble_eq_true rfl) rfl (by decide +kernel) rfl rfl (congrArg (cw_eL ca ad ae 21 i) (n_up_at σ 21 i 14 x)) (fun κ' i' _ h => cw_ho 21 i 14 x κ' i' h) hdg kk
theorem g21_awaited (hC : n_C p s m args meth c (cw D ca ad ae Ex) cc nL own ret) (hi : cw_dom 21 i) (hw : Cond.fieldLink own ix "ShareMonitor$UserProcess" "awaited" "I" ∈ n_tb) (hdg : decode cc pc = .ok (.getfield ix, 3)) (kk : n_W p l e s m args below meth c (cw D ca ad ae Ex) d Po (pc + 3) ls (.int (σ 21 i 15) :: rest) σ) : n_W p l e s m args below meth c (cw D ca ad ae Ex) d Po pc ls (.ref (ad 21 i) :: rest) σ := n_getf hC (κ := 21) (i := i) (ci := 7) (k := 15) (q := (RX9, TX9, 16)) hi rfl rfl (by decide) hw rfl hdg kk
theorem p21_awaited (hC : n_C p s m args meth c (cw D ca ad ae Ex) cc nL own ret) {x : Int32} (hi : cw_dom 21 i) (hw : Cond.fieldLink own ix "ShareMonitor$UserProcess" "awaited" "I" ∈ n_tb) (hdg : decode cc pc = .ok (.putfield ix, 3)) (kk : n_W p l e s m args below meth c (cw D ca ad ae Ex) d Po (pc + 3) ls (rest) (n_up σ 21 i 15 x)) : n_W p l e s m args below meth c (cw D ca ad ae Ex) d Po pc ls (.int x :: .ref (ad 21 i) :: rest) σ := n_putf hC (κ := 21) (i := i) (ci := 7) (k := 15) (q := (RX9, TX9, 16)) (ty := .int) (n_up σ 21 i 15 x) hi rfl rfl (by decide) hw (Nat.le_of_ble_eq_true rfl) rfl (by decide +kernel) rfl rfl (congrArg (cw_eL ca ad ae 21 i) (n_up_at σ 21 i 15 x)) (fun κ' i' _ h => cw_ho 21 i 15 x κ' i' h) hdg kk
theorem g24_numbers (hC : n_C p s m args meth c (cw D ca ad ae Ex) cc nL own ret) (hi : cw_dom 24 i) (hw : Cond.fieldLink own ix "ShareMonitor$Box" "numbers" "[I" ∈ n_tb) (hdg : decode cc pc = .ok (.getfield ix, 3)) (kk : n_W p l e s m args below meth c (cw D ca ad ae Ex) d Po (pc + 3) ls (.ref (ad 26 i) :: rest) σ) : n_W p l e s m args below meth c (cw D ca ad ae Ex) d Po pc ls (.ref (ad 24 i) :: rest) σ := n_getf hC (κ := 24) (i := i) (ci := 0) (k := 0) (q := (RX1, TX1, 3)) hi rfl rfl (by decide) hw rfl hdg kk
theorem g24_senders (hC : n_C p s m args meth c (cw D ca ad ae Ex) cc nL own ret) (hi : cw_dom 24 i) (hw : Cond.fieldLink own ix "ShareMonitor$Box" "senders" "[I" ∈ n_tb) (hdg : decode cc pc = .ok (.getfield ix, 3)) (kk : n_W p l e s m args below meth c (cw D ca ad ae Ex) d Po (pc + 3) ls (.ref (ad 27 i) :: rest) σ) : n_W p l e s m args below meth c (cw D ca ad ae Ex) d Po pc ls (.ref (ad 24 i) :: rest) σ := n_getf hC (κ := 24) (i := i) (ci := 0) (k := 1) (q := (RX1, TX1, 3)) hi rfl rfl (by decide) hw rfl hdg kk
theorem g24_size (hC : n_C p s m args meth c (cw D ca ad ae Ex) cc nL own ret) (hi : cw_dom 24 i) (hw : Cond.fieldLink own ix "ShareMonitor$Box" "size" "I" ∈ n_tb) (hdg : decode cc pc = .ok (.getfield ix, 3)) (kk : n_W p l e s m args below meth c (cw D ca ad ae Ex) d Po (pc + 3) ls (.int (σ 24 i 2) :: rest) σ) : n_W p l e s m args below meth c (cw D ca ad ae Ex) d Po pc ls (.ref (ad 24 i) :: rest) σ := n_getf hC (κ := 24) (i := i) (ci := 0) (k := 2) (q := (RX1, TX1, 3)) hi rfl rfl (by decide) hw rfl hdg kk
theorem p24_size (hC : n_C p s m args meth c (cw D ca ad ae Ex) cc nL own ret) {x : Int32} (hi : cw_dom 24 i) (hw : Cond.fieldLink own ix "ShareMonitor$Box" "size" "I" ∈ n_tb) (hdg : decode cc pc = .ok (.putfield ix, 3)) (kk : n_W p l e s m args below meth c (cw D ca ad ae Ex) d Po (pc + 3) ls (rest) (n_up σ 24 i 2 x)) : n_W p l e s m args below meth c (cw D ca ad ae Ex) d Po pc ls (.int x :: .ref (ad 24 i) :: rest) σ := n_putf hC (κ := 24) (i := i) (ci := 0) (k := 2) (q := (RX1, TX1, 3)) (ty := .int) (n_up σ 24 i 2 x) hi rfl rfl (by decide) hw (Nat.le_of_ble_eq_true rfl) rfl (by decide +kernel) rfl rfl (congrArg (cw_eL ca ad ae 24 i) (n_up_at σ 24 i 2 x)) (fun κ' i' _ h => cw_ho 24 i 2 x κ' i' h) hdg kk
theorem g28_ops (hC : n_C p s m args meth c (cw D ca ad ae Ex) cc nL own ret) (hi : cw_dom 28 i) (hw : Cond.fieldLink own ix "ShareMonitor$Program" "ops" "[LShareMonitor$Op;" ∈ n_tb) (hdg : decode cc pc = .ok (.getfield ix, 3)) (kk : n_W p l e s m args below meth c (cw D ca ad ae Ex) d Po (pc + 3) ls (.ref (ad 29 i) :: rest) σ) : n_W p l e s m args below meth c (cw D ca ad ae Ex) d Po pc ls (.ref (ad 28 i) :: rest) σ := n_getf hC (κ := 28) (i := i) (ci := 3) (k := 0) (q := (RX5, TX5, 4)) hi rfl rfl (by decide) hw rfl hdg kk
theorem g28_numbers (hC : n_C p s m args meth c (cw D ca ad ae Ex) cc nL own ret) (hi : cw_dom 28 i) (hw : Cond.fieldLink own ix "ShareMonitor$Program" "numbers" "[I" ∈ n_tb) (hdg : decode cc pc = .ok (.getfield ix, 3)) (kk : n_W p l e s m args below meth c (cw D ca ad ae Ex) d Po (pc + 3) ls (.ref (ad 30 i) :: rest) σ) : n_W p l e s m args below meth c (cw D ca ad ae Ex) d Po pc ls (.ref (ad 28 i) :: rest) σ := n_getf hC (κ := 28) (i := i) (ci := 3) (k := 1) (q := (RX5, TX5, 4)) hi rfl rfl (by decide) hw rfl hdg kk
theorem g28_size (hC : n_C p s m args meth c (cw D ca ad ae Ex) cc nL own ret) (hi : cw_dom 28 i) (hw : Cond.fieldLink own ix "ShareMonitor$Program" "size" "I" ∈ n_tb) (hdg : decode cc pc = .ok (.getfield ix, 3)) (kk : n_W p l e s m args below meth c (cw D ca ad ae Ex) d Po (pc + 3) ls (.int (σ 28 i 2) :: rest) σ) : n_W p l e s m args below meth c (cw D ca ad ae Ex) d Po pc ls (.ref (ad 28 i) :: rest) σ := n_getf hC (κ := 28) (i := i) (ci := 3) (k := 2) (q := (RX5, TX5, 4)) hi rfl rfl (by decide) hw rfl hdg kk
theorem p28_size (hC : n_C p s m args meth c (cw D ca ad ae Ex) cc nL own ret) {x : Int32} (hi : cw_dom 28 i) (hw : Cond.fieldLink own ix "ShareMonitor$Program" "size" "I" ∈ n_tb) (hdg : decode cc pc = .ok (.putfield ix, 3)) (kk : n_W p l e s m args below meth c (cw D ca ad ae Ex) d Po (pc + 3) ls (rest) (n_up σ 28 i 2 x)) : n_W p l e s m args below meth c (cw D ca ad ae Ex) d Po pc ls (.int x :: .ref (ad 28 i) :: rest) σ := n_putf hC (κ := 28) (i := i) (ci := 3) (k := 2) (q := (RX5, TX5, 4)) (ty := .int) (n_up σ 28 i 2 x) hi rfl rfl (by decide) hw (Nat.le_of_ble_eq_true rfl) rfl (by decide +kernel) rfl rfl (congrArg (cw_eL ca ad ae 28 i) (n_up_at σ 28 i 2 x)) (fun κ' i' _ h => cw_ho 28 i 2 x κ' i' h) hdg kk
theorem g28_users (hC : n_C p s m args meth c (cw D ca ad ae Ex) cc nL own ret) (hi : cw_dom 28 i) (hw : Cond.fieldLink own ix "ShareMonitor$Program" "users" "I" ∈ n_tb) (hdg : decode cc pc = .ok (.getfield ix, 3)) (kk : n_W p l e s m args below meth c (cw D ca ad ae Ex) d Po (pc + 3) ls (.int (σ 28 i 3) :: rest) σ) : n_W p l e s m args below meth c (cw D ca ad ae Ex) d Po pc ls (.ref (ad 28 i) :: rest) σ := n_getf hC (κ := 28) (i := i) (ci := 3) (k := 3) (q := (RX5, TX5, 4)) hi rfl rfl (by decide) hw rfl hdg kk
theorem p28_users (hC : n_C p s m args meth c (cw D ca ad ae Ex) cc nL own ret) {x : Int32} (hi : cw_dom 28 i) (hw : Cond.fieldLink own ix "ShareMonitor$Program" "users" "I" ∈ n_tb) (hdg : decode cc pc = .ok (.putfield ix, 3)) (kk : n_W p l e s m args below meth c (cw D ca ad ae Ex) d Po (pc + 3) ls (rest) (n_up σ 28 i 3 x)) : n_W p l e s m args below meth c (cw D ca ad ae Ex) d Po pc ls (.int x :: .ref (ad 28 i) :: rest) σ := n_putf hC (κ := 28) (i := i) (ci := 3) (k := 3) (q := (RX5, TX5, 4)) (ty := .int) (n_up σ 28 i 3 x) hi rfl rfl (by decide) hw (Nat.le_of_ble_eq_true rfl) rfl (by decide +kernel) rfl rfl (congrArg (cw_eL ca ad ae 28 i) (n_up_at σ 28 i 3 x)) (fun κ' i' _ h => cw_ho 28 i 3 x κ' i' h) hdg kk
theorem g31_members (hC : n_C p s m args meth c (cw D ca ad ae Ex) cc nL own ret) (hi : cw_dom 31 i) (hw : Cond.fieldLink own ix "ShareMonitor$Row" "members" "[I" ∈ n_tb) (hdg : decode cc pc = .ok (.getfield ix, 3)) (kk : n_W p l e s m args below meth c (cw D ca ad ae Ex) d Po (pc + 3) ls (.ref (ad 32 i) :: rest) σ) : n_W p l e s m args below meth c (cw D ca ad ae Ex) d Po pc ls (.ref (ad 31 i) :: rest) σ := n_getf hC (κ := 31) (i := i) (ci := 5) (k := 0) (q := (RX7, TX7, 2)) hi rfl rfl (by decide) hw rfl hdg kk
theorem g31_size (hC : n_C p s m args meth c (cw D ca ad ae Ex) cc nL own ret) (hi : cw_dom 31 i) (hw : Cond.fieldLink own ix "ShareMonitor$Row" "size" "I" ∈ n_tb) (hdg : decode cc pc = .ok (.getfield ix, 3)) (kk : n_W p l e s m args below meth c (cw D ca ad ae Ex) d Po (pc + 3) ls (.int (σ 31 i 1) :: rest) σ) : n_W p l e s m args below meth c (cw D ca ad ae Ex) d Po pc ls (.ref (ad 31 i) :: rest) σ := n_getf hC (κ := 31) (i := i) (ci := 5) (k := 1) (q := (RX7, TX7, 2)) hi rfl rfl (by decide) hw rfl hdg kk
theorem p31_size (hC : n_C p s m args meth c (cw D ca ad ae Ex) cc nL own ret) {x : Int32} (hi : cw_dom 31 i) (hw : Cond.fieldLink own ix "ShareMonitor$Row" "size" "I" ∈ n_tb) (hdg : decode cc pc = .ok (.putfield ix, 3)) (kk : n_W p l e s m args below meth c (cw D ca ad ae Ex) d Po (pc + 3) ls (rest) (n_up σ 31 i 1 x)) : n_W p l e s m args below meth c (cw D ca ad ae Ex) d Po pc ls (.int x :: .ref (ad 31 i) :: rest) σ := n_putf hC (κ := 31) (i := i) (ci := 5) (k := 1) (q := (RX7, TX7, 2)) (ty := .int) (n_up σ 31 i 1 x) hi rfl rfl (by decide) hw (Nat.le_of_ble_eq_true rfl) rfl (by decide +kernel) rfl rfl (congrArg (cw_eL ca ad ae 31 i) (n_up_at σ 31 i 1 x)) (fun κ' i' _ h => cw_ho 31 i 1 x κ' i' h) hdg kk
theorem gm_words (hC : n_C p s m args meth c (rw D ca ad Ex) cc nL own ret) (hw : Cond.fieldLink own ix "ShareMonitorModel" "words" "[J" ∈ n_tb) (hdg : decode cc pc = .ok (.getfield ix, 3)) (kk : n_W p l e s m args below meth c (rw D ca ad Ex) d Po (pc + 3) ls (.ref (ad 1 0) :: rest) σ) : n_W p l e s m args below meth c (rw D ca ad Ex) d Po pc ls (.ref (ad 0 0) :: rest) σ := n_getf hC (κ := 0) (i := 0) (ci := 10) (k := 0) (q := (RX12, TX12, 53)) rfl rfl rfl (by decide) hw rfl hdg kk
theorem gm_needs (hC : n_C p s m args meth c (rw D ca ad Ex) cc nL own ret) (hw : Cond.fieldLink own ix "ShareMonitorModel" "needs" "[I" ∈ n_tb) (hdg : decode cc pc = .ok (.getfield ix, 3)) (kk : n_W p l e s m args below meth c (rw D ca ad Ex) d Po (pc + 3) ls (.ref (ad 2 0) :: rest) σ) : n_W p l e s m args below meth c (rw D ca ad Ex) d Po pc ls (.ref (ad 0 0) :: rest) σ := n_getf hC (κ := 0) (i := 0) (ci := 10) (k := 1) (q := (RX12, TX12, 53)) rfl rfl rfl (by decide) hw rfl hdg kk
theorem gm_code (hC : n_C p s m args meth c (rw D ca ad Ex) cc nL own ret) (hw : Cond.fieldLink own ix "ShareMonitorModel" "code" "I" ∈ n_tb) (hdg : decode cc pc = .ok (.getfield ix, 3)) (kk : n_W p l e s m args below meth c (rw D ca ad Ex) d Po (pc + 3) ls (.int (σ 0 0 2) :: rest) σ) : n_W p l e s m args below meth c (rw D ca ad Ex) d Po pc ls (.ref (ad 0 0) :: rest) σ := n_getf hC (κ := 0) (i := 0) (ci := 10) (k := 2) (q := (RX12, TX12, 53)) rfl rfl rfl (by decide) hw rfl hdg kk
theorem pm_code (hC : n_C p s m args meth c (rw D ca ad Ex) cc nL own ret) {x : Int32} (hw : Cond.fieldLink own ix "ShareMonitorModel" "code" "I" ∈ n_tb) (hdg : decode cc pc = .ok (.putfield ix, 3)) (kk : n_W p l e s m args below meth c (rw D ca ad Ex) d Po (pc + 3) ls (rest) (n_up σ 0 0 2 x)) : n_W p l e s m args below meth c (rw D ca ad Ex) d Po pc ls (.int x :: .ref (ad 0 0) :: rest) σ := n_putf hC (κ := 0) (i := 0) (ci := 10) (k := 2) (q := (RX12, TX12, 53)) (ty := .int) (n_up σ 0 0 2 x) rfl rfl rfl (by decide) hw (Nat.le_of_ble_eq_true rfl) rfl (by decide +kernel) rfl rfl (congrArg (rw_eL ca ad 0) (n_up_at σ 0 0 2 x)) (fun κ' i' hd h => rw_ho 0 2 x κ' (fun q => h ⟨q, by subst q; exact hd⟩)) hdg kk
theorem gm_tape (hC : n_C p s m args meth c (rw D ca ad Ex) cc nL own ret) (hw : Cond.fieldLink own ix "ShareMonitorModel" "tape" "[B" ∈ n_tb) (hdg : decode cc pc = .ok (.getfield ix, 3)) (kk : n_W p l e s m args below meth c (rw D ca ad Ex) d Po (pc + 3) ls (.ref (ad 4 0) :: rest) σ) : n_W p l e s m args below meth c (rw D ca ad Ex) d Po pc ls (.ref (ad 0 0) :: rest) σ := n_getf hC (κ := 0) (i := 0) (ci := 10) (k := 3) (q := (RX12, TX12, 53)) rfl rfl rfl (by decide) hw rfl hdg kk
theorem gm_size (hC : n_C p s m args meth c (rw D ca ad Ex) cc nL own ret) (hw : Cond.fieldLink own ix "ShareMonitorModel" "size" "I" ∈ n_tb) (hdg : decode cc pc = .ok (.getfield ix, 3)) (kk : n_W p l e s m args below meth c (rw D ca ad Ex) d Po (pc + 3) ls (.int (σ 0 0 4) :: rest) σ) : n_W p l e s m args below meth c (rw D ca ad Ex) d Po pc ls (.ref (ad 0 0) :: rest) σ := n_getf hC (κ := 0) (i := 0) (ci := 10) (k := 4) (q := (RX12, TX12, 53)) rfl rfl rfl (by decide) hw rfl hdg kk
theorem pm_size (hC : n_C p s m args meth c (rw D ca ad Ex) cc nL own ret) {x : Int32} (hw : Cond.fieldLink own ix "ShareMonitorModel" "size" "I" ∈ n_tb) (hdg : decode cc pc = .ok (.putfield ix, 3)) (kk : n_W p l e s m args below meth c (rw D ca ad Ex) d Po (pc + 3) ls (rest) (n_up σ 0 0 4 x)) : n_W p l e s m args below meth c (rw D ca ad Ex) d Po pc ls (.int x :: .ref (ad 0 0) :: rest) σ := n_putf hC (κ := 0) (i := 0) (ci := 10) (k := 4) (q := (RX12, TX12, 53)) (ty := .int) (n_up σ 0 0 4 x) rfl rfl rfl (by decide) hw (Nat.le_of_ble_eq_true rfl) rfl (by decide +kernel) rfl rfl (congrArg (rw_eL ca ad 0) (n_up_at σ 0 0 4 x)) (fun κ' i' hd h => rw_ho 0 4 x κ' (fun q => h ⟨q, by subst q; exact hd⟩)) hdg kk
theorem gm_fault (hC : n_C p s m args meth c (rw D ca ad Ex) cc nL own ret) (hw : Cond.fieldLink own ix "ShareMonitorModel" "fault" "I" ∈ n_tb) (hdg : decode cc pc = .ok (.getfield ix, 3)) (kk : n_W p l e s m args below meth c (rw D ca ad Ex) d Po (pc + 3) ls (.int (σ 0 0 5) :: rest) σ) : n_W p l e s m args below meth c (rw D ca ad Ex) d Po pc ls (.ref (ad 0 0) :: rest) σ := n_getf hC (κ := 0) (i := 0) (ci := 10) (k := 5) (q := (RX12, TX12, 53)) rfl rfl rfl (by decide) hw rfl hdg kk
theorem pm_fault (hC : n_C p s m args meth c (rw D ca ad Ex) cc nL own ret) {x : Int32} (hw : Cond.fieldLink own ix "ShareMonitorModel" "fault" "I" ∈ n_tb) (hdg : decode cc pc = .ok (.putfield ix, 3)) (kk : n_W p l e s m args below meth c (rw D ca ad Ex) d Po (pc + 3) ls (rest) (n_up σ 0 0 5 x)) : n_W p l e s m args below meth c (rw D ca ad Ex) d Po pc ls (.int x :: .ref (ad 0 0) :: rest) σ := n_putf hC (κ := 0) (i := 0) (ci := 10) (k := 5) (q := (RX12, TX12, 53)) (ty := .int) (n_up σ 0 0 5 x) rfl rfl rfl (by decide) hw (Nat.le_of_ble_eq_true rfl) rfl (by decide +kernel) rfl rfl (congrArg (rw_eL ca ad 0) (n_up_at σ 0 0 5 x)) (fun κ' i' hd h => rw_ho 0 5 x κ' (fun q => h ⟨q, by subst q; exact hd⟩)) hdg kk
theorem gm_place (hC : n_C p s m args meth c (rw D ca ad Ex) cc nL own ret) (hw : Cond.fieldLink own ix "ShareMonitorModel" "place" "I" ∈ n_tb) (hdg : decode cc pc = .ok (.getfield ix, 3)) (kk : n_W p l e s m args below meth c (rw D ca ad Ex) d Po (pc + 3) ls (.int (σ 0 0 6) :: rest) σ) : n_W p l e s m args below meth c (rw D ca ad Ex) d Po pc ls (.ref (ad 0 0) :: rest) σ := n_getf hC (κ := 0) (i := 0) (ci := 10) (k := 6) (q := (RX12, TX12, 53)) rfl rfl rfl (by decide) hw rfl hdg kk
theorem pm_place (hC : n_C p s m args meth c (rw D ca ad Ex) cc nL own ret) {x : Int32} (hw : Cond.fieldLink own ix "ShareMonitorModel" "place" "I" ∈ n_tb) (hdg : decode cc pc = .ok (.putfield ix, 3)) (kk : n_W p l e s m args below meth c (rw D ca ad Ex) d Po (pc + 3) ls (rest) (n_up σ 0 0 6 x)) : n_W p l e s m args below meth c (rw D ca ad Ex) d Po pc ls (.int x :: .ref (ad 0 0) :: rest) σ := n_putf hC (κ := 0) (i := 0) (ci := 10) (k := 6) (q := (RX12, TX12, 53)) (ty := .int) (n_up σ 0 0 6 x) rfl rfl rfl (by decide) hw (Nat.le_of_ble_eq_true rfl) rfl (by decide +kernel) rfl rfl (congrArg (rw_eL ca ad 0) (n_up_at σ 0 0 6 x)) (fun κ' i' hd h => rw_ho 0 6 x κ' (fun q => h ⟨q, by subst q; exact hd⟩)) hdg kk
theorem gm_ops (hC : n_C p s m args meth c (rw D ca ad Ex) cc nL own ret) (hw : Cond.fieldLink own ix "ShareMonitorModel" "ops" "[I" ∈ n_tb) (hdg : decode cc pc = .ok (.getfield ix, 3)) (kk : n_W p l e s m args below meth c (rw D ca ad Ex) d Po (pc + 3) ls (.ref (ad 8 0) :: rest) σ) : n_W p l e s m args below meth c (rw D ca ad Ex) d Po pc ls (.ref (ad 0 0) :: rest) σ := n_getf hC (κ := 0) (i := 0) (ci := 10) (k := 7) (q := (RX12, TX12, 53)) rfl rfl rfl (by decide) hw rfl hdg kk
theorem gm_numbers (hC : n_C p s m args meth c (rw D ca ad Ex) cc nL own ret) (hw : Cond.fieldLink own ix "ShareMonitorModel" "numbers" "[I" ∈ n_tb) (hdg : decode cc pc = .ok (.getfield ix, 3)) (kk : n_W p l e s m args below meth c (rw D ca ad Ex) d Po (pc + 3) ls (.ref (ad 9 0) :: rest) σ) : n_W p l e s m args below meth c (rw D ca ad Ex) d Po pc ls (.ref (ad 0 0) :: rest) σ := n_getf hC (κ := 0) (i := 0) (ci := 10) (k := 8) (q := (RX12, TX12, 53)) rfl rfl rfl (by decide) hw rfl hdg kk
theorem gm_lengths (hC : n_C p s m args meth c (rw D ca ad Ex) cc nL own ret) (hw : Cond.fieldLink own ix "ShareMonitorModel" "lengths" "[I" ∈ n_tb) (hdg : decode cc pc = .ok (.getfield ix, 3)) (kk : n_W p l e s m args below meth c (rw D ca ad Ex) d Po (pc + 3) ls (.ref (ad 10 0) :: rest) σ) : n_W p l e s m args below meth c (rw D ca ad Ex) d Po pc ls (.ref (ad 0 0) :: rest) σ := n_getf hC (κ := 0) (i := 0) (ci := 10) (k := 9) (q := (RX12, TX12, 53)) rfl rfl rfl (by decide) hw rfl hdg kk
theorem gm_isProgram (hC : n_C p s m args meth c (rw D ca ad Ex) cc nL own ret) (hw : Cond.fieldLink own ix "ShareMonitorModel" "isProgram" "[Z" ∈ n_tb) (hdg : decode cc pc = .ok (.getfield ix, 3)) (kk : n_W p l e s m args below meth c (rw D ca ad Ex) d Po (pc + 3) ls (.ref (ad 11 0) :: rest) σ) : n_W p l e s m args below meth c (rw D ca ad Ex) d Po pc ls (.ref (ad 0 0) :: rest) σ := n_getf hC (κ := 0) (i := 0) (ci := 10) (k := 10) (q := (RX12, TX12, 53)) rfl rfl rfl (by decide) hw rfl hdg kk
theorem gm_labelAt (hC : n_C p s m args meth c (rw D ca ad Ex) cc nL own ret) (hw : Cond.fieldLink own ix "ShareMonitorModel" "labelAt" "[I" ∈ n_tb) (hdg : decode cc pc = .ok (.getfield ix, 3)) (kk : n_W p l e s m args below meth c (rw D ca ad Ex) d Po (pc + 3) ls (.ref (ad 12 0) :: rest) σ) : n_W p l e s m args below meth c (rw D ca ad Ex) d Po pc ls (.ref (ad 0 0) :: rest) σ := n_getf hC (κ := 0) (i := 0) (ci := 10) (k := 11) (q := (RX12, TX12, 53)) rfl rfl rfl (by decide) hw rfl hdg kk
theorem gm_labelSize (hC : n_C p s m args meth c (rw D ca ad Ex) cc nL own ret) (hw : Cond.fieldLink own ix "ShareMonitorModel" "labelSize" "[I" ∈ n_tb) (hdg : decode cc pc = .ok (.getfield ix, 3)) (kk : n_W p l e s m args below meth c (rw D ca ad Ex) d Po (pc + 3) ls (.ref (ad 13 0) :: rest) σ) : n_W p l e s m args below meth c (rw D ca ad Ex) d Po pc ls (.ref (ad 0 0) :: rest) σ := n_getf hC (κ := 0) (i := 0) (ci := 10) (k := 12) (q := (RX12, TX12, 53)) rfl rfl rfl (by decide) hw rfl hdg kk
theorem gm_labelTo (hC : n_C p s m args meth c (rw D ca ad Ex) cc nL own ret) (hw : Cond.fieldLink own ix "ShareMonitorModel" "labelTo" "[I" ∈ n_tb) (hdg : decode cc pc = .ok (.getfield ix, 3)) (kk : n_W p l e s m args below meth c (rw D ca ad Ex) d Po (pc + 3) ls (.ref (ad 14 0) :: rest) σ) : n_W p l e s m args below meth c (rw D ca ad Ex) d Po pc ls (.ref (ad 0 0) :: rest) σ := n_getf hC (κ := 0) (i := 0) (ci := 10) (k := 13) (q := (RX12, TX12, 53)) rfl rfl rfl (by decide) hw rfl hdg kk
theorem gm_labels (hC : n_C p s m args meth c (rw D ca ad Ex) cc nL own ret) (hw : Cond.fieldLink own ix "ShareMonitorModel" "labels" "I" ∈ n_tb) (hdg : decode cc pc = .ok (.getfield ix, 3)) (kk : n_W p l e s m args below meth c (rw D ca ad Ex) d Po (pc + 3) ls (.int (σ 0 0 14) :: rest) σ) : n_W p l e s m args below meth c (rw D ca ad Ex) d Po pc ls (.ref (ad 0 0) :: rest) σ := n_getf hC (κ := 0) (i := 0) (ci := 10) (k := 14) (q := (RX12, TX12, 53)) rfl rfl rfl (by decide) hw rfl hdg kk
theorem pm_labels (hC : n_C p s m args meth c (rw D ca ad Ex) cc nL own ret) {x : Int32} (hw : Cond.fieldLink own ix "ShareMonitorModel" "labels" "I" ∈ n_tb) (hdg : decode cc pc = .ok (.putfield ix, 3)) (kk : n_W p l e s m args below meth c (rw D ca ad Ex) d Po (pc + 3) ls (rest) (n_up σ 0 0 14 x)) : n_W p l e s m args below meth c (rw D ca ad Ex) d Po pc ls (.int x :: .ref (ad 0 0) :: rest) σ := n_putf hC (κ := 0) (i := 0) (ci := 10) (k := 14) (q := (RX12, TX12, 53)) (ty := .int) (n_up σ 0 0 14 x) rfl rfl rfl (by decide) hw (Nat.le_of_ble_eq_true rfl) rfl (by decide +kernel) rfl rfl (congrArg (rw_eL ca ad 0) (n_up_at σ 0 0 14 x)) (fun κ' i' hd h => rw_ho 0 14 x κ' (fun q => h ⟨q, by subst q; exact hd⟩)) hdg kk
theorem gm_nameAt (hC : n_C p s m args meth c (rw D ca ad Ex) cc nL own ret) (hw : Cond.fieldLink own ix "ShareMonitorModel" "nameAt" "[I" ∈ n_tb) (hdg : decode cc pc = .ok (.getfield ix, 3)) (kk : n_W p l e s m args below meth c (rw D ca ad Ex) d Po (pc + 3) ls (.ref (ad 16 0) :: rest) σ) : n_W p l e s m args below meth c (rw D ca ad Ex) d Po pc ls (.ref (ad 0 0) :: rest) σ := n_getf hC (κ := 0) (i := 0) (ci := 10) (k := 15) (q := (RX12, TX12, 53)) rfl rfl rfl (by decide) hw rfl hdg kk
theorem gm_nameSize (hC : n_C p s m args meth c (rw D ca ad Ex) cc nL own ret) (hw : Cond.fieldLink own ix "ShareMonitorModel" "nameSize" "[I" ∈ n_tb) (hdg : decode cc pc = .ok (.getfield ix, 3)) (kk : n_W p l e s m args below meth c (rw D ca ad Ex) d Po (pc + 3) ls (.ref (ad 17 0) :: rest) σ) : n_W p l e s m args below meth c (rw D ca ad Ex) d Po pc ls (.ref (ad 0 0) :: rest) σ := n_getf hC (κ := 0) (i := 0) (ci := 10) (k := 16) (q := (RX12, TX12, 53)) rfl rfl rfl (by decide) hw rfl hdg kk
theorem gm_wordAt (hC : n_C p s m args meth c (rw D ca ad Ex) cc nL own ret) (hw : Cond.fieldLink own ix "ShareMonitorModel" "wordAt" "I" ∈ n_tb) (hdg : decode cc pc = .ok (.getfield ix, 3)) (kk : n_W p l e s m args below meth c (rw D ca ad Ex) d Po (pc + 3) ls (.int (σ 0 0 17) :: rest) σ) : n_W p l e s m args below meth c (rw D ca ad Ex) d Po pc ls (.ref (ad 0 0) :: rest) σ := n_getf hC (κ := 0) (i := 0) (ci := 10) (k := 17) (q := (RX12, TX12, 53)) rfl rfl rfl (by decide) hw rfl hdg kk
theorem pm_wordAt (hC : n_C p s m args meth c (rw D ca ad Ex) cc nL own ret) {x : Int32} (hw : Cond.fieldLink own ix "ShareMonitorModel" "wordAt" "I" ∈ n_tb) (hdg : decode cc pc = .ok (.putfield ix, 3)) (kk : n_W p l e s m args below meth c (rw D ca ad Ex) d Po (pc + 3) ls (rest) (n_up σ 0 0 17 x)) : n_W p l e s m args below meth c (rw D ca ad Ex) d Po pc ls (.int x :: .ref (ad 0 0) :: rest) σ := n_putf hC (κ := 0) (i := 0) (ci := 10) (k := 17) (q := (RX12, TX12, 53)) (ty := .int) (n_up σ 0 0 17 x) rfl rfl rfl (by decide) hw (Nat.le_of_ble_eq_true rfl) rfl (by decide +kernel) rfl rfl (congrArg (rw_eL ca ad 0) (n_up_at σ 0 0 17 x)) (fun κ' i' hd h => rw_ho 0 17 x κ' (fun q => h ⟨q, by subst q; exact hd⟩)) hdg kk
theorem gm_wordEnd (hC : n_C p s m args meth c (rw D ca ad Ex) cc nL own ret) (hw : Cond.fieldLink own ix "ShareMonitorModel" "wordEnd" "I" ∈ n_tb) (hdg : decode cc pc = .ok (.getfield ix, 3)) (kk : n_W p l e s m args below meth c (rw D ca ad Ex) d Po (pc + 3) ls (.int (σ 0 0 18) :: rest) σ) : n_W p l e s m args below meth c (rw D ca ad Ex) d Po pc ls (.ref (ad 0 0) :: rest) σ := n_getf hC (κ := 0) (i := 0) (ci := 10) (k := 18) (q := (RX12, TX12, 53)) rfl rfl rfl (by decide) hw rfl hdg kk
theorem pm_wordEnd (hC : n_C p s m args meth c (rw D ca ad Ex) cc nL own ret) {x : Int32} (hw : Cond.fieldLink own ix "ShareMonitorModel" "wordEnd" "I" ∈ n_tb) (hdg : decode cc pc = .ok (.putfield ix, 3)) (kk : n_W p l e s m args below meth c (rw D ca ad Ex) d Po (pc + 3) ls (rest) (n_up σ 0 0 18 x)) : n_W p l e s m args below meth c (rw D ca ad Ex) d Po pc ls (.int x :: .ref (ad 0 0) :: rest) σ := n_putf hC (κ := 0) (i := 0) (ci := 10) (k := 18) (q := (RX12, TX12, 53)) (ty := .int) (n_up σ 0 0 18 x) rfl rfl rfl (by decide) hw (Nat.le_of_ble_eq_true rfl) rfl (by decide +kernel) rfl rfl (congrArg (rw_eL ca ad 0) (n_up_at σ 0 0 18 x)) (fun κ' i' hd h => rw_ho 0 18 x κ' (fun q => h ⟨q, by subst q; exact hd⟩)) hdg kk
theorem gm_status (hC : n_C p s m args meth c (rw D ca ad Ex) cc nL own ret) (hw : Cond.fieldLink own ix "ShareMonitorModel" "status" "[I" ∈ n_tb) (hdg : decode cc pc = .ok (.getfield ix, 3)) (kk : n_W p l e s m args below meth c (rw D ca ad Ex) d Po (pc + 3) ls (.ref (ad 20 0) :: rest) σ) : n_W p l e s m args below meth c (rw D ca ad Ex) d Po pc ls (.ref (ad 0 0) :: rest) σ := n_getf hC (κ := 0) (i := 0) (ci := 10) (k := 19) (q := (RX12, TX12, 53)) rfl rfl rfl (by decide) hw rfl hdg kk
theorem gm_codes (hC : n_C p s m args meth c (rw D ca ad Ex) cc nL own ret) (hw : Cond.fieldLink own ix "ShareMonitorModel" "codes" "[I" ∈ n_tb) (hdg : decode cc pc = .ok (.getfield ix, 3)) (kk : n_W p l e s m args below meth c (rw D ca ad Ex) d Po (pc + 3) ls (.ref (ad 21 0) :: rest) σ) : n_W p l e s m args below meth c (rw D ca ad Ex) d Po pc ls (.ref (ad 0 0) :: rest) σ := n_getf hC (κ := 0) (i := 0) (ci := 10) (k := 20) (q := (RX12, TX12, 53)) rfl rfl rfl (by decide) hw rfl hdg kk
theorem gm_level (hC : n_C p s m args meth c (rw D ca ad Ex) cc nL own ret) (hw : Cond.fieldLink own ix "ShareMonitorModel" "level" "[I" ∈ n_tb) (hdg : decode cc pc = .ok (.getfield ix, 3)) (kk : n_W p l e s m args below meth c (rw D ca ad Ex) d Po (pc + 3) ls (.ref (ad 22 0) :: rest) σ) : n_W p l e s m args below meth c (rw D ca ad Ex) d Po pc ls (.ref (ad 0 0) :: rest) σ := n_getf hC (κ := 0) (i := 0) (ci := 10) (k := 21) (q := (RX12, TX12, 53)) rfl rfl rfl (by decide) hw rfl hdg kk
theorem gm_parent (hC : n_C p s m args meth c (rw D ca ad Ex) cc nL own ret) (hw : Cond.fieldLink own ix "ShareMonitorModel" "parent" "[I" ∈ n_tb) (hdg : decode cc pc = .ok (.getfield ix, 3)) (kk : n_W p l e s m args below meth c (rw D ca ad Ex) d Po (pc + 3) ls (.ref (ad 23 0) :: rest) σ) : n_W p l e s m args below meth c (rw D ca ad Ex) d Po pc ls (.ref (ad 0 0) :: rest) σ := n_getf hC (κ := 0) (i := 0) (ci := 10) (k := 22) (q := (RX12, TX12, 53)) rfl rfl rfl (by decide) hw rfl hdg kk
theorem gm_program (hC : n_C p s m args meth c (rw D ca ad Ex) cc nL own ret) (hw : Cond.fieldLink own ix "ShareMonitorModel" "program" "[I" ∈ n_tb) (hdg : decode cc pc = .ok (.getfield ix, 3)) (kk : n_W p l e s m args below meth c (rw D ca ad Ex) d Po (pc + 3) ls (.ref (ad 24 0) :: rest) σ) : n_W p l e s m args below meth c (rw D ca ad Ex) d Po pc ls (.ref (ad 0 0) :: rest) σ := n_getf hC (κ := 0) (i := 0) (ci := 10) (k := 23) (q := (RX12, TX12, 53)) rfl rfl rfl (by decide) hw rfl hdg kk
theorem gm_next (hC : n_C p s m args meth c (rw D ca ad Ex) cc nL own ret) (hw : Cond.fieldLink own ix "ShareMonitorModel" "next" "[I" ∈ n_tb) (hdg : decode cc pc = .ok (.getfield ix, 3)) (kk : n_W p l e s m args below meth c (rw D ca ad Ex) d Po (pc + 3) ls (.ref (ad 25 0) :: rest) σ) : n_W p l e s m args below meth c (rw D ca ad Ex) d Po pc ls (.ref (ad 0 0) :: rest) σ := n_getf hC (κ := 0) (i := 0) (ci := 10) (k := 24) (q := (RX12, TX12, 53)) rfl rfl rfl (by decide) hw rfl hdg kk
theorem gm_deep (hC : n_C p s m args meth c (rw D ca ad Ex) cc nL own ret) (hw : Cond.fieldLink own ix "ShareMonitorModel" "deep" "[I" ∈ n_tb) (hdg : decode cc pc = .ok (.getfield ix, 3)) (kk : n_W p l e s m args below meth c (rw D ca ad Ex) d Po (pc + 3) ls (.ref (ad 26 0) :: rest) σ) : n_W p l e s m args below meth c (rw D ca ad Ex) d Po pc ls (.ref (ad 0 0) :: rest) σ := n_getf hC (κ := 0) (i := 0) (ci := 10) (k := 25) (q := (RX12, TX12, 53)) rfl rfl rfl (by decide) hw rfl hdg kk
theorem gm_stack (hC : n_C p s m args meth c (rw D ca ad Ex) cc nL own ret) (hw : Cond.fieldLink own ix "ShareMonitorModel" "stack" "[I" ∈ n_tb) (hdg : decode cc pc = .ok (.getfield ix, 3)) (kk : n_W p l e s m args below meth c (rw D ca ad Ex) d Po (pc + 3) ls (.ref (ad 27 0) :: rest) σ) : n_W p l e s m args below meth c (rw D ca ad Ex) d Po pc ls (.ref (ad 0 0) :: rest) σ := n_getf hC (κ := 0) (i := 0) (ci := 10) (k := 26) (q := (RX12, TX12, 53)) rfl rfl rfl (by decide) hw rfl hdg kk
theorem gm_called (hC : n_C p s m args meth c (rw D ca ad Ex) cc nL own ret) (hw : Cond.fieldLink own ix "ShareMonitorModel" "called" "[I" ∈ n_tb) (hdg : decode cc pc = .ok (.getfield ix, 3)) (kk : n_W p l e s m args below meth c (rw D ca ad Ex) d Po (pc + 3) ls (.ref (ad 28 0) :: rest) σ) : n_W p l e s m args below meth c (rw D ca ad Ex) d Po pc ls (.ref (ad 0 0) :: rest) σ := n_getf hC (κ := 0) (i := 0) (ci := 10) (k := 27) (q := (RX12, TX12, 53)) rfl rfl rfl (by decide) hw rfl hdg kk
theorem gm_returns (hC : n_C p s m args meth c (rw D ca ad Ex) cc nL own ret) (hw : Cond.fieldLink own ix "ShareMonitorModel" "returns" "[I" ∈ n_tb) (hdg : decode cc pc = .ok (.getfield ix, 3)) (kk : n_W p l e s m args below meth c (rw D ca ad Ex) d Po (pc + 3) ls (.ref (ad 29 0) :: rest) σ) : n_W p l e s m args below meth c (rw D ca ad Ex) d Po pc ls (.ref (ad 0 0) :: rest) σ := n_getf hC (κ := 0) (i := 0) (ci := 10) (k := 28) (q := (RX12, TX12, 53)) rfl rfl rfl (by decide) hw rfl hdg kk
theorem gm_boxed (hC : n_C p s m args meth c (rw D ca ad Ex) cc nL own ret) (hw : Cond.fieldLink own ix "ShareMonitorModel" "boxed" "[I" ∈ n_tb) (hdg : decode cc pc = .ok (.getfield ix, 3)) (kk : n_W p l e s m args below meth c (rw D ca ad Ex) d Po (pc + 3) ls (.ref (ad 30 0) :: rest) σ) : n_W p l e s m args below meth c (rw D ca ad Ex) d Po pc ls (.ref (ad 0 0) :: rest) σ := n_getf hC (κ := 0) (i := 0) (ci := 10) (k := 29) (q := (RX12, TX12, 53)) rfl rfl rfl (by decide) hw rfl hdg kk
theorem gm_boxNumber (hC : n_C p s m args meth c (rw D ca ad Ex) cc nL own ret) (hw : Cond.fieldLink own ix "ShareMonitorModel" "boxNumber" "[I" ∈ n_tb) (hdg : decode cc pc = .ok (.getfield ix, 3)) (kk : n_W p l e s m args below meth c (rw D ca ad Ex) d Po (pc + 3) ls (.ref (ad 31 0) :: rest) σ) : n_W p l e s m args below meth c (rw D ca ad Ex) d Po pc ls (.ref (ad 0 0) :: rest) σ := n_getf hC (κ := 0) (i := 0) (ci := 10) (k := 30) (q := (RX12, TX12, 53)) rfl rfl rfl (by decide) hw rfl hdg kk
theorem gm_boxWho (hC : n_C p s m args meth c (rw D ca ad Ex) cc nL own ret) (hw : Cond.fieldLink own ix "ShareMonitorModel" "boxWho" "[I" ∈ n_tb) (hdg : decode cc pc = .ok (.getfield ix, 3)) (kk : n_W p l e s m args below meth c (rw D ca ad Ex) d Po (pc + 3) ls (.ref (ad 32 0) :: rest) σ) : n_W p l e s m args below meth c (rw D ca ad Ex) d Po pc ls (.ref (ad 0 0) :: rest) σ := n_getf hC (κ := 0) (i := 0) (ci := 10) (k := 31) (q := (RX12, TX12, 53)) rfl rfl rfl (by decide) hw rfl hdg kk
theorem gm_keyed (hC : n_C p s m args meth c (rw D ca ad Ex) cc nL own ret) (hw : Cond.fieldLink own ix "ShareMonitorModel" "keyed" "[I" ∈ n_tb) (hdg : decode cc pc = .ok (.getfield ix, 3)) (kk : n_W p l e s m args below meth c (rw D ca ad Ex) d Po (pc + 3) ls (.ref (ad 33 0) :: rest) σ) : n_W p l e s m args below meth c (rw D ca ad Ex) d Po pc ls (.ref (ad 0 0) :: rest) σ := n_getf hC (κ := 0) (i := 0) (ci := 10) (k := 32) (q := (RX12, TX12, 53)) rfl rfl rfl (by decide) hw rfl hdg kk
theorem gm_keys (hC : n_C p s m args meth c (rw D ca ad Ex) cc nL own ret) (hw : Cond.fieldLink own ix "ShareMonitorModel" "keys" "[I" ∈ n_tb) (hdg : decode cc pc = .ok (.getfield ix, 3)) (kk : n_W p l e s m args below meth c (rw D ca ad Ex) d Po (pc + 3) ls (.ref (ad 34 0) :: rest) σ) : n_W p l e s m args below meth c (rw D ca ad Ex) d Po pc ls (.ref (ad 0 0) :: rest) σ := n_getf hC (κ := 0) (i := 0) (ci := 10) (k := 33) (q := (RX12, TX12, 53)) rfl rfl rfl (by decide) hw rfl hdg kk
theorem gm_did (hC : n_C p s m args meth c (rw D ca ad Ex) cc nL own ret) (hw : Cond.fieldLink own ix "ShareMonitorModel" "did" "[I" ∈ n_tb) (hdg : decode cc pc = .ok (.getfield ix, 3)) (kk : n_W p l e s m args below meth c (rw D ca ad Ex) d Po (pc + 3) ls (.ref (ad 35 0) :: rest) σ) : n_W p l e s m args below meth c (rw D ca ad Ex) d Po pc ls (.ref (ad 0 0) :: rest) σ := n_getf hC (κ := 0) (i := 0) (ci := 10) (k := 34) (q := (RX12, TX12, 53)) rfl rfl rfl (by decide) hw rfl hdg kk
theorem gm_waits (hC : n_C p s m args meth c (rw D ca ad Ex) cc nL own ret) (hw : Cond.fieldLink own ix "ShareMonitorModel" "waits" "[I" ∈ n_tb) (hdg : decode cc pc = .ok (.getfield ix, 3)) (kk : n_W p l e s m args below meth c (rw D ca ad Ex) d Po (pc + 3) ls (.ref (ad 36 0) :: rest) σ) : n_W p l e s m args below meth c (rw D ca ad Ex) d Po pc ls (.ref (ad 0 0) :: rest) σ := n_getf hC (κ := 0) (i := 0) (ci := 10) (k := 35) (q := (RX12, TX12, 53)) rfl rfl rfl (by decide) hw rfl hdg kk
theorem gm_inRow (hC : n_C p s m args meth c (rw D ca ad Ex) cc nL own ret) (hw : Cond.fieldLink own ix "ShareMonitorModel" "inRow" "[I" ∈ n_tb) (hdg : decode cc pc = .ok (.getfield ix, 3)) (kk : n_W p l e s m args below meth c (rw D ca ad Ex) d Po (pc + 3) ls (.ref (ad 37 0) :: rest) σ) : n_W p l e s m args below meth c (rw D ca ad Ex) d Po pc ls (.ref (ad 0 0) :: rest) σ := n_getf hC (κ := 0) (i := 0) (ci := 10) (k := 36) (q := (RX12, TX12, 53)) rfl rfl rfl (by decide) hw rfl hdg kk
theorem gm_rows (hC : n_C p s m args meth c (rw D ca ad Ex) cc nL own ret) (hw : Cond.fieldLink own ix "ShareMonitorModel" "rows" "[I" ∈ n_tb) (hdg : decode cc pc = .ok (.getfield ix, 3)) (kk : n_W p l e s m args below meth c (rw D ca ad Ex) d Po (pc + 3) ls (.ref (ad 38 0) :: rest) σ) : n_W p l e s m args below meth c (rw D ca ad Ex) d Po pc ls (.ref (ad 0 0) :: rest) σ := n_getf hC (κ := 0) (i := 0) (ci := 10) (k := 37) (q := (RX12, TX12, 53)) rfl rfl rfl (by decide) hw rfl hdg kk
theorem gm_rowCount (hC : n_C p s m args meth c (rw D ca ad Ex) cc nL own ret) (hw : Cond.fieldLink own ix "ShareMonitorModel" "rowCount" "[I" ∈ n_tb) (hdg : decode cc pc = .ok (.getfield ix, 3)) (kk : n_W p l e s m args below meth c (rw D ca ad Ex) d Po (pc + 3) ls (.ref (ad 39 0) :: rest) σ) : n_W p l e s m args below meth c (rw D ca ad Ex) d Po pc ls (.ref (ad 0 0) :: rest) σ := n_getf hC (κ := 0) (i := 0) (ci := 10) (k := 38) (q := (RX12, TX12, 53)) rfl rfl rfl (by decide) hw rfl hdg kk
theorem gm_clock (hC : n_C p s m args meth c (rw D ca ad Ex) cc nL own ret) (hw : Cond.fieldLink own ix "ShareMonitorModel" "clock" "I" ∈ n_tb) (hdg : decode cc pc = .ok (.getfield ix, 3)) (kk : n_W p l e s m args below meth c (rw D ca ad Ex) d Po (pc + 3) ls (.int (σ 0 0 39) :: rest) σ) : n_W p l e s m args below meth c (rw D ca ad Ex) d Po pc ls (.ref (ad 0 0) :: rest) σ := n_getf hC (κ := 0) (i := 0) (ci := 10) (k := 39) (q := (RX12, TX12, 53)) rfl rfl rfl (by decide) hw rfl hdg kk
theorem pm_clock (hC : n_C p s m args meth c (rw D ca ad Ex) cc nL own ret) {x : Int32} (hw : Cond.fieldLink own ix "ShareMonitorModel" "clock" "I" ∈ n_tb) (hdg : decode cc pc = .ok (.putfield ix, 3)) (kk : n_W p l e s m args below meth c (rw D ca ad Ex) d Po (pc + 3) ls (rest) (n_up σ 0 0 39 x)) : n_W p l e s m args below meth c (rw D ca ad Ex) d Po pc ls (.int x :: .ref (ad 0 0) :: rest) σ := n_putf hC (κ := 0) (i := 0) (ci := 10) (k := 39) (q := (RX12, TX12, 53)) (ty := .int) (n_up σ 0 0 39 x) rfl rfl rfl (by decide) hw (Nat.le_of_ble_eq_true rfl) rfl (by decide +kernel) rfl rfl (congrArg (rw_eL ca ad 0) (n_up_at σ 0 0 39 x)) (fun κ' i' hd h => rw_ho 0 39 x κ' (fun q => h ⟨q, by subst q; exact hd⟩)) hdg kk
theorem gm_quantum (hC : n_C p s m args meth c (rw D ca ad Ex) cc nL own ret) (hw : Cond.fieldLink own ix "ShareMonitorModel" "quantum" "I" ∈ n_tb) (hdg : decode cc pc = .ok (.getfield ix, 3)) (kk : n_W p l e s m args below meth c (rw D ca ad Ex) d Po (pc + 3) ls (.int (σ 0 0 40) :: rest) σ) : n_W p l e s m args below meth c (rw D ca ad Ex) d Po pc ls (.ref (ad 0 0) :: rest) σ := n_getf hC (κ := 0) (i := 0) (ci := 10) (k := 40) (q := (RX12, TX12, 53)) rfl rfl rfl (by decide) hw rfl hdg kk
theorem pm_quantum (hC : n_C p s m args meth c (rw D ca ad Ex) cc nL own ret) {x : Int32} (hw : Cond.fieldLink own ix "ShareMonitorModel" "quantum" "I" ∈ n_tb) (hdg : decode cc pc = .ok (.putfield ix, 3)) (kk : n_W p l e s m args below meth c (rw D ca ad Ex) d Po (pc + 3) ls (rest) (n_up σ 0 0 40 x)) : n_W p l e s m args below meth c (rw D ca ad Ex) d Po pc ls (.int x :: .ref (ad 0 0) :: rest) σ := n_putf hC (κ := 0) (i := 0) (ci := 10) (k := 40) (q := (RX12, TX12, 53)) (ty := .int) (n_up σ 0 0 40 x) rfl rfl rfl (by decide) hw (Nat.le_of_ble_eq_true rfl) rfl (by decide +kernel) rfl rfl (congrArg (rw_eL ca ad 0) (n_up_at σ 0 0 40 x)) (fun κ' i' hd h => rw_ho 0 40 x κ' (fun q => h ⟨q, by subst q; exact hd⟩)) hdg kk
theorem gm_values (hC : n_C p s m args meth c (rw D ca ad Ex) cc nL own ret) (hw : Cond.fieldLink own ix "ShareMonitorModel" "values" "[I" ∈ n_tb) (hdg : decode cc pc = .ok (.getfield ix, 3)) (kk : n_W p l e s m args below meth c (rw D ca ad Ex) d Po (pc + 3) ls (.ref (ad 42 0) :: rest) σ) : n_W p l e s m args below meth c (rw D ca ad Ex) d Po pc ls (.ref (ad 0 0) :: rest) σ := n_getf hC (κ := 0) (i := 0) (ci := 10) (k := 41) (q := (RX12, TX12, 53)) rfl rfl rfl (by decide) hw rfl hdg kk
theorem gm_waiting (hC : n_C p s m args meth c (rw D ca ad Ex) cc nL own ret) (hw : Cond.fieldLink own ix "ShareMonitorModel" "waiting" "[I" ∈ n_tb) (hdg : decode cc pc = .ok (.getfield ix, 3)) (kk : n_W p l e s m args below meth c (rw D ca ad Ex) d Po (pc + 3) ls (.ref (ad 43 0) :: rest) σ) : n_W p l e s m args below meth c (rw D ca ad Ex) d Po pc ls (.ref (ad 0 0) :: rest) σ := n_getf hC (κ := 0) (i := 0) (ci := 10) (k := 42) (q := (RX12, TX12, 53)) rfl rfl rfl (by decide) hw rfl hdg kk
theorem gm_waitCount (hC : n_C p s m args meth c (rw D ca ad Ex) cc nL own ret) (hw : Cond.fieldLink own ix "ShareMonitorModel" "waitCount" "[I" ∈ n_tb) (hdg : decode cc pc = .ok (.getfield ix, 3)) (kk : n_W p l e s m args below meth c (rw D ca ad Ex) d Po (pc + 3) ls (.ref (ad 44 0) :: rest) σ) : n_W p l e s m args below meth c (rw D ca ad Ex) d Po pc ls (.ref (ad 0 0) :: rest) σ := n_getf hC (κ := 0) (i := 0) (ci := 10) (k := 43) (q := (RX12, TX12, 53)) rfl rfl rfl (by decide) hw rfl hdg kk
theorem gm_cells (hC : n_C p s m args meth c (rw D ca ad Ex) cc nL own ret) (hw : Cond.fieldLink own ix "ShareMonitorModel" "cells" "[I" ∈ n_tb) (hdg : decode cc pc = .ok (.getfield ix, 3)) (kk : n_W p l e s m args below meth c (rw D ca ad Ex) d Po (pc + 3) ls (.ref (ad 45 0) :: rest) σ) : n_W p l e s m args below meth c (rw D ca ad Ex) d Po pc ls (.ref (ad 0 0) :: rest) σ := n_getf hC (κ := 0) (i := 0) (ci := 10) (k := 44) (q := (RX12, TX12, 53)) rfl rfl rfl (by decide) hw rfl hdg kk
theorem gm_blockAt (hC : n_C p s m args meth c (rw D ca ad Ex) cc nL own ret) (hw : Cond.fieldLink own ix "ShareMonitorModel" "blockAt" "[I" ∈ n_tb) (hdg : decode cc pc = .ok (.getfield ix, 3)) (kk : n_W p l e s m args below meth c (rw D ca ad Ex) d Po (pc + 3) ls (.ref (ad 46 0) :: rest) σ) : n_W p l e s m args below meth c (rw D ca ad Ex) d Po pc ls (.ref (ad 0 0) :: rest) σ := n_getf hC (κ := 0) (i := 0) (ci := 10) (k := 45) (q := (RX12, TX12, 53)) rfl rfl rfl (by decide) hw rfl hdg kk
theorem gm_blockSize (hC : n_C p s m args meth c (rw D ca ad Ex) cc nL own ret) (hw : Cond.fieldLink own ix "ShareMonitorModel" "blockSize" "[I" ∈ n_tb) (hdg : decode cc pc = .ok (.getfield ix, 3)) (kk : n_W p l e s m args below meth c (rw D ca ad Ex) d Po (pc + 3) ls (.ref (ad 47 0) :: rest) σ) : n_W p l e s m args below meth c (rw D ca ad Ex) d Po pc ls (.ref (ad 0 0) :: rest) σ := n_getf hC (κ := 0) (i := 0) (ci := 10) (k := 46) (q := (RX12, TX12, 53)) rfl rfl rfl (by decide) hw rfl hdg kk
theorem gm_blockOf (hC : n_C p s m args meth c (rw D ca ad Ex) cc nL own ret) (hw : Cond.fieldLink own ix "ShareMonitorModel" "blockOf" "[I" ∈ n_tb) (hdg : decode cc pc = .ok (.getfield ix, 3)) (kk : n_W p l e s m args below meth c (rw D ca ad Ex) d Po (pc + 3) ls (.ref (ad 48 0) :: rest) σ) : n_W p l e s m args below meth c (rw D ca ad Ex) d Po pc ls (.ref (ad 0 0) :: rest) σ := n_getf hC (κ := 0) (i := 0) (ci := 10) (k := 47) (q := (RX12, TX12, 53)) rfl rfl rfl (by decide) hw rfl hdg kk
theorem gm_blocks (hC : n_C p s m args meth c (rw D ca ad Ex) cc nL own ret) (hw : Cond.fieldLink own ix "ShareMonitorModel" "blocks" "I" ∈ n_tb) (hdg : decode cc pc = .ok (.getfield ix, 3)) (kk : n_W p l e s m args below meth c (rw D ca ad Ex) d Po (pc + 3) ls (.int (σ 0 0 48) :: rest) σ) : n_W p l e s m args below meth c (rw D ca ad Ex) d Po pc ls (.ref (ad 0 0) :: rest) σ := n_getf hC (κ := 0) (i := 0) (ci := 10) (k := 48) (q := (RX12, TX12, 53)) rfl rfl rfl (by decide) hw rfl hdg kk
theorem pm_blocks (hC : n_C p s m args meth c (rw D ca ad Ex) cc nL own ret) {x : Int32} (hw : Cond.fieldLink own ix "ShareMonitorModel" "blocks" "I" ∈ n_tb) (hdg : decode cc pc = .ok (.putfield ix, 3)) (kk : n_W p l e s m args below meth c (rw D ca ad Ex) d Po (pc + 3) ls (rest) (n_up σ 0 0 48 x)) : n_W p l e s m args below meth c (rw D ca ad Ex) d Po pc ls (.int x :: .ref (ad 0 0) :: rest) σ := n_putf hC (κ := 0) (i := 0) (ci := 10) (k := 48) (q := (RX12, TX12, 53)) (ty := .int) (n_up σ 0 0 48 x) rfl rfl rfl (by decide) hw (Nat.le_of_ble_eq_true rfl) rfl (by decide +kernel) rfl rfl (congrArg (rw_eL ca ad 0) (n_up_at σ 0 0 48 x)) (fun κ' i' hd h => rw_ho 0 48 x κ' (fun q => h ⟨q, by subst q; exact hd⟩)) hdg kk
theorem gm_console (hC : n_C p s m args meth c (rw D ca ad Ex) cc nL own ret) (hw : Cond.fieldLink own ix "ShareMonitorModel" "console" "[I" ∈ n_tb) (hdg : decode cc pc = .ok (.getfield ix, 3)) (kk : n_W p l e s m args below meth c (rw D ca ad Ex) d Po (pc + 3) ls (.ref (ad 50 0) :: rest) σ) : n_W p l e s m args below meth c (rw D ca ad Ex) d Po pc ls (.ref (ad 0 0) :: rest) σ := n_getf hC (κ := 0) (i := 0) (ci := 10) (k := 49) (q := (RX12, TX12, 53)) rfl rfl rfl (by decide) hw rfl hdg kk
theorem gm_told (hC : n_C p s m args meth c (rw D ca ad Ex) cc nL own ret) (hw : Cond.fieldLink own ix "ShareMonitorModel" "told" "I" ∈ n_tb) (hdg : decode cc pc = .ok (.getfield ix, 3)) (kk : n_W p l e s m args below meth c (rw D ca ad Ex) d Po (pc + 3) ls (.int (σ 0 0 50) :: rest) σ) : n_W p l e s m args below meth c (rw D ca ad Ex) d Po pc ls (.ref (ad 0 0) :: rest) σ := n_getf hC (κ := 0) (i := 0) (ci := 10) (k := 50) (q := (RX12, TX12, 53)) rfl rfl rfl (by decide) hw rfl hdg kk
theorem pm_told (hC : n_C p s m args meth c (rw D ca ad Ex) cc nL own ret) {x : Int32} (hw : Cond.fieldLink own ix "ShareMonitorModel" "told" "I" ∈ n_tb) (hdg : decode cc pc = .ok (.putfield ix, 3)) (kk : n_W p l e s m args below meth c (rw D ca ad Ex) d Po (pc + 3) ls (rest) (n_up σ 0 0 50 x)) : n_W p l e s m args below meth c (rw D ca ad Ex) d Po pc ls (.int x :: .ref (ad 0 0) :: rest) σ := n_putf hC (κ := 0) (i := 0) (ci := 10) (k := 50) (q := (RX12, TX12, 53)) (ty := .int) (n_up σ 0 0 50 x) rfl rfl rfl (by decide) hw (Nat.le_of_ble_eq_true rfl) rfl (by decide +kernel) rfl rfl (congrArg (rw_eL ca ad 0) (n_up_at σ 0 0 50 x)) (fun κ' i' hd h => rw_ho 0 50 x κ' (fun q => h ⟨q, by subst q; exact hd⟩)) hdg kk
theorem gm_lost (hC : n_C p s m args meth c (rw D ca ad Ex) cc nL own ret) (hw : Cond.fieldLink own ix "ShareMonitorModel" "lost" "I" ∈ n_tb) (hdg : decode cc pc = .ok (.getfield ix, 3)) (kk : n_W p l e s m args below meth c (rw D ca ad Ex) d Po (pc + 3) ls (.int (σ 0 0 51) :: rest) σ) : n_W p l e s m args below meth c (rw D ca ad Ex) d Po pc ls (.ref (ad 0 0) :: rest) σ := n_getf hC (κ := 0) (i := 0) (ci := 10) (k := 51) (q := (RX12, TX12, 53)) rfl rfl rfl (by decide) hw rfl hdg kk
theorem pm_lost (hC : n_C p s m args meth c (rw D ca ad Ex) cc nL own ret) {x : Int32} (hw : Cond.fieldLink own ix "ShareMonitorModel" "lost" "I" ∈ n_tb) (hdg : decode cc pc = .ok (.putfield ix, 3)) (kk : n_W p l e s m args below meth c (rw D ca ad Ex) d Po (pc + 3) ls (rest) (n_up σ 0 0 51 x)) : n_W p l e s m args below meth c (rw D ca ad Ex) d Po pc ls (.int x :: .ref (ad 0 0) :: rest) σ := n_putf hC (κ := 0) (i := 0) (ci := 10) (k := 51) (q := (RX12, TX12, 53)) (ty := .int) (n_up σ 0 0 51 x) rfl rfl rfl (by decide) hw (Nat.le_of_ble_eq_true rfl) rfl (by decide +kernel) rfl rfl (congrArg (rw_eL ca ad 0) (n_up_at σ 0 0 51 x)) (fun κ' i' hd h => rw_ho 0 51 x κ' (fun q => h ⟨q, by subst q; exact hd⟩)) hdg kk
theorem gm_moved (hC : n_C p s m args meth c (rw D ca ad Ex) cc nL own ret) (hw : Cond.fieldLink own ix "ShareMonitorModel" "moved" "Z" ∈ n_tb) (hdg : decode cc pc = .ok (.getfield ix, 3)) (kk : n_W p l e s m args below meth c (rw D ca ad Ex) d Po (pc + 3) ls (.int (σ 0 0 52) :: rest) σ) : n_W p l e s m args below meth c (rw D ca ad Ex) d Po pc ls (.ref (ad 0 0) :: rest) σ := n_getf hC (κ := 0) (i := 0) (ci := 10) (k := 52) (q := (RX12, TX12, 53)) rfl rfl rfl (by decide) hw rfl hdg kk
theorem pm_moved (hC : n_C p s m args meth c (rw D ca ad Ex) cc nL own ret) {x : Int32} (hz : narrow .boolean (.int x) = .int x ∧ fits .boolean (.int x) = true) (hw : Cond.fieldLink own ix "ShareMonitorModel" "moved" "Z" ∈ n_tb) (hdg : decode cc pc = .ok (.putfield ix, 3)) (kk : n_W p l e s m args below meth c (rw D ca ad Ex) d Po (pc + 3) ls (rest) (n_up σ 0 0 52 x)) : n_W p l e s m args below meth c (rw D ca ad Ex) d Po pc ls (.int x :: .ref (ad 0 0) :: rest) σ := n_putf hC (κ := 0) (i := 0) (ci := 10) (k := 52) (q := (RX12, TX12, 53)) (ty := .boolean) (n_up σ 0 0 52 x) rfl rfl rfl (by decide) hw (Nat.le_of_ble_eq_true rfl) rfl (by decide +kernel) hz.1 hz.2 (congrArg (rw_eL ca ad 0) (n_up_at σ 0 0 52 x)) (fun κ' i' hd h => rw_ho 0 52 x κ' (fun q => h ⟨q, by subst q; exact hd⟩)) hdg kk
end NF
end
