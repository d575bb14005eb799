section
-- ===== PART A: goes FIRST, ahead of the names: the tables' words, and 'selects' of the private methods out of them =====
/-- a private method of a class that the tables say can be made, by its rows of tables_1 -/
def lw_okq (q : MethodName × Nat) : Prop := (q.1.cls ≠ "java/lang/invoke/MethodHandle" ∧ q.1.cls ≠ "java/lang/invoke/VarHandle") ∧ Cond.instantiable q.1.cls q.2 ∈ tables_1 ∧ Cond.privateMethod q.1 ∈ tables_1 ∧ Cond.instanceMethod q.1 ∈ tables_1
theorem lw_p0 : lw_okq (⟨"ShareMonitor$Worker", "obstacleTo", "(LShareMonitor$UserProcess;LShareMonitor$Op;)I"⟩, 2) := ⟨⟨by decide +kernel, by decide +kernel⟩, List.mem_of_getElem? (i := 337) (by decide +kernel), List.mem_of_getElem? (i := 407) (by decide +kernel), List.mem_of_getElem? (i := 408) (by decide +kernel)⟩
theorem lw_p1 : lw_okq (⟨"ShareMonitor$Worker", "mustWait", "(LShareMonitor$UserProcess;LShareMonitor$Op;)Z"⟩, 2) := ⟨⟨by decide +kernel, by decide +kernel⟩, List.mem_of_getElem? (i := 337) (by decide +kernel), List.mem_of_getElem? (i := 411) (by decide +kernel), List.mem_of_getElem? (i := 412) (by decide +kernel)⟩
theorem lw_p2 : lw_okq (⟨"ShareMonitor$Worker", "perform", "(LShareMonitor$UserProcess;LShareMonitor$Op;)I"⟩, 2) := ⟨⟨by decide +kernel, by decide +kernel⟩, List.mem_of_getElem? (i := 337) (by decide +kernel), List.mem_of_getElem? (i := 441) (by decide +kernel), List.mem_of_getElem? (i := 442) (by decide +kernel)⟩
theorem lw_p3 : lw_okq (⟨"ShareMonitor$Worker", "shuffle", "(LShareMonitor$UserProcess;LShareMonitor$Op;I)I"⟩, 2) := ⟨⟨by decide +kernel, by decide +kernel⟩, List.mem_of_getElem? (i := 337) (by decide +kernel), List.mem_of_getElem? (i := 449) (by decide +kernel), List.mem_of_getElem? (i := 450) (by decide +kernel)⟩
theorem lw_p4 : lw_okq (⟨"ShareMonitor$Worker", "shuffleSeveral", "(LShareMonitor$UserProcess;LShareMonitor$Op;I)V"⟩, 2) := ⟨⟨by decide +kernel, by decide +kernel⟩, List.mem_of_getElem? (i := 337) (by decide +kernel), List.mem_of_getElem? (i := 469) (by decide +kernel), List.mem_of_getElem? (i := 470) (by decide +kernel)⟩
theorem lw_p5 : lw_okq (⟨"ShareMonitor$Worker", "compute", "(LShareMonitor$UserProcess;LShareMonitor$Op;)I"⟩, 2) := ⟨⟨by decide +kernel, by decide +kernel⟩, List.mem_of_getElem? (i := 337) (by decide +kernel), List.mem_of_getElem? (i := 477) (by decide +kernel), List.mem_of_getElem? (i := 478) (by decide +kernel)⟩
theorem lw_p6 : lw_okq (⟨"ShareMonitor$Worker", "follow", "(LShareMonitor$UserProcess;LShareMonitor$Op;I)I"⟩, 2) := ⟨⟨by decide +kernel, by decide +kernel⟩, List.mem_of_getElem? (i := 337) (by decide +kernel), List.mem_of_getElem? (i := 496) (by decide +kernel), List.mem_of_getElem? (i := 497) (by decide +kernel)⟩
theorem lw_p7 : lw_okq (⟨"ShareMonitor$Worker", "useMemory", "(LShareMonitor$UserProcess;LShareMonitor$Op;)I"⟩, 2) := ⟨⟨by decide +kernel, by decide +kernel⟩, List.mem_of_getElem? (i := 337) (by decide +kernel), List.mem_of_getElem? (i := 500) (by decide +kernel), List.mem_of_getElem? (i := 501) (by decide +kernel)⟩
theorem lw_p8 : lw_okq (⟨"ShareMonitor$Memory", "cut", "(III)V"⟩, 3) := ⟨⟨by decide +kernel, by decide +kernel⟩, List.mem_of_getElem? (i := 114) (by decide +kernel), List.mem_of_getElem? (i := 512) (by decide +kernel), List.mem_of_getElem? (i := 513) (by decide +kernel)⟩
theorem lw_p9 : lw_okq (⟨"java/lang/Throwable", "fillInStackTrace", "(I)Ljava/lang/Throwable;"⟩, 6) := ⟨⟨by decide +kernel, by decide +kernel⟩, List.mem_of_getElem? (i := 562) (by decide +kernel), List.mem_of_getElem? (i := 560) (by decide +kernel), List.mem_of_getElem? (i := 561) (by decide +kernel)⟩
theorem lw_p10 : lw_okq (⟨"ShareMonitor$Worker", "release", "(LShareMonitor$UserProcess;I)I"⟩, 2) := ⟨⟨by decide +kernel, by decide +kernel⟩, List.mem_of_getElem? (i := 337) (by decide +kernel), List.mem_of_getElem? (i := 851) (by decide +kernel), List.mem_of_getElem? (i := 852) (by decide +kernel)⟩
theorem lw_p11 : lw_okq (⟨"ShareMonitor$Worker", "give", "(LShareMonitor$UserProcess;ILShareMonitor$UserProcess;)I"⟩, 2) := ⟨⟨by decide +kernel, by decide +kernel⟩, List.mem_of_getElem? (i := 337) (by decide +kernel), List.mem_of_getElem? (i := 866) (by decide +kernel), List.mem_of_getElem? (i := 867) (by decide +kernel)⟩
theorem lw_p12 : lw_okq (⟨"ShareMonitor$Worker", "talk", "(LShareMonitor$UserProcess;LShareMonitor$Op;)I"⟩, 2) := ⟨⟨by decide +kernel, by decide +kernel⟩, List.mem_of_getElem? (i := 337) (by decide +kernel), List.mem_of_getElem? (i := 874) (by decide +kernel), List.mem_of_getElem? (i := 875) (by decide +kernel)⟩
theorem lw_p13 : lw_okq (⟨"ShareMonitor$Worker", "send", "(LShareMonitor$UserProcess;ILShareMonitor$UserProcess;)I"⟩, 2) := ⟨⟨by decide +kernel, by decide +kernel⟩, List.mem_of_getElem? (i := 337) (by decide +kernel), List.mem_of_getElem? (i := 878) (by decide +kernel), List.mem_of_getElem? (i := 879) (by decide +kernel)⟩
theorem lw_p14 : lw_okq (⟨"ShareMonitor$Worker", "useChildren", "(LShareMonitor$UserProcess;LShareMonitor$Op;I)I"⟩, 2) := ⟨⟨by decide +kernel, by decide +kernel⟩, List.mem_of_getElem? (i := 337) (by decide +kernel), List.mem_of_getElem? (i := 898) (by decide +kernel), List.mem_of_getElem? (i := 899) (by decide +kernel)⟩
theorem lw_p15 : lw_okq (⟨"ShareMonitor$Worker", "spawn", "(LShareMonitor$UserProcess;I)I"⟩, 2) := ⟨⟨by decide +kernel, by decide +kernel⟩, List.mem_of_getElem? (i := 337) (by decide +kernel), List.mem_of_getElem? (i := 902) (by decide +kernel), List.mem_of_getElem? (i := 903) (by decide +kernel)⟩
def lw_privs_1 : List (MethodName × Nat) := [(⟨"ShareMonitor$Worker", "obstacleTo", "(LShareMonitor$UserProcess;LShareMonitor$Op;)I"⟩, 2), (⟨"ShareMonitor$Worker", "mustWait", "(LShareMonitor$UserProcess;LShareMonitor$Op;)Z"⟩, 2), (⟨"ShareMonitor$Worker", "perform", "(LShareMonitor$UserProcess;LShareMonitor$Op;)I"⟩, 2), (⟨"ShareMonitor$Worker", "shuffle", "(LShareMonitor$UserProcess;LShareMonitor$Op;I)I"⟩, 2), (⟨"ShareMonitor$Worker", "shuffleSeveral", "(LShareMonitor$UserProcess;LShareMonitor$Op;I)V"⟩, 2), (⟨"ShareMonitor$Worker", "compute", "(LShareMonitor$UserProcess;LShareMonitor$Op;)I"⟩, 2), (⟨"ShareMonitor$Worker", "follow", "(LShareMonitor$UserProcess;LShareMonitor$Op;I)I"⟩, 2), (⟨"ShareMonitor$Worker", "useMemory", "(LShareMonitor$UserProcess;LShareMonitor$Op;)I"⟩, 2), (⟨"ShareMonitor$Memory", "cut", "(III)V"⟩, 3), (⟨"java/lang/Throwable", "fillInStackTrace", "(I)Ljava/lang/Throwable;"⟩, 6), (⟨"ShareMonitor$Worker", "release", "(LShareMonitor$UserProcess;I)I"⟩, 2), (⟨"ShareMonitor$Worker", "give", "(LShareMonitor$UserProcess;ILShareMonitor$UserProcess;)I"⟩, 2), (⟨"ShareMonitor$Worker", "talk", "(LShareMonitor$UserProcess;LShareMonitor$Op;)I"⟩, 2), (⟨"ShareMonitor$Worker", "send", "(LShareMonitor$UserProcess;ILShareMonitor$UserProcess;)I"⟩, 2), (⟨"ShareMonitor$Worker", "useChildren", "(LShareMonitor$UserProcess;LShareMonitor$Op;I)I"⟩, 2), (⟨"ShareMonitor$Worker", "spawn", "(LShareMonitor$UserProcess;I)I"⟩, 2)]
theorem lw_r1 : ∀ q ∈ lw_privs_1, lw_okq q := List.forall_mem_cons.mpr ⟨lw_p0, List.forall_mem_cons.mpr ⟨lw_p1, List.forall_mem_cons.mpr ⟨lw_p2, List.forall_mem_cons.mpr ⟨lw_p3, List.forall_mem_cons.mpr ⟨lw_p4, List.forall_mem_cons.mpr ⟨lw_p5, List.forall_mem_cons.mpr ⟨lw_p6, List.forall_mem_cons.mpr ⟨lw_p7, List.forall_mem_cons.mpr ⟨lw_p8, List.forall_mem_cons.mpr ⟨lw_p9, List.forall_mem_cons.mpr ⟨lw_p10, List.forall_mem_cons.mpr ⟨lw_p11, List.forall_mem_cons.mpr ⟨lw_p12, List.forall_mem_cons.mpr ⟨lw_p13, List.forall_mem_cons.mpr ⟨lw_p14, List.forall_mem_cons.mpr ⟨lw_p15, fun _ h => absurd h List.not_mem_nil⟩⟩⟩⟩⟩⟩⟩⟩⟩⟩⟩⟩⟩⟩⟩⟩
theorem lw_p16 : lw_okq (⟨"ShareMonitor$Worker", "collect", "(LShareMonitor$UserProcess;LShareMonitor$UserProcess;)V"⟩, 2) := ⟨⟨by decide +kernel, by decide +kernel⟩, List.mem_of_getElem? (i := 337) (by decide +kernel), List.mem_of_getElem? (i := 914) (by decide +kernel), List.mem_of_getElem? (i := 915) (by decide +kernel)⟩
theorem lw_p17 : lw_okq (⟨"ShareMonitor$Worker", "takeTurn", "(LShareMonitor$UserProcess;LShareMonitor$Op;)I"⟩, 2) := ⟨⟨by decide +kernel, by decide +kernel⟩, List.mem_of_getElem? (i := 337) (by decide +kernel), List.mem_of_getElem? (i := 933) (by decide +kernel), List.mem_of_getElem? (i := 934) (by decide +kernel)⟩
theorem lw_p18 : lw_okq (⟨"ShareMonitor$Worker", "useSemaphore", "(LShareMonitor$UserProcess;LShareMonitor$Op;I)I"⟩, 2) := ⟨⟨by decide +kernel, by decide +kernel⟩, List.mem_of_getElem? (i := 337) (by decide +kernel), List.mem_of_getElem? (i := 947) (by decide +kernel), List.mem_of_getElem? (i := 948) (by decide +kernel)⟩
theorem lw_p19 : lw_okq (⟨"ShareMonitor$Worker", "settle", "(LShareMonitor$UserProcess;I)V"⟩, 2) := ⟨⟨by decide +kernel, by decide +kernel⟩, List.mem_of_getElem? (i := 337) (by decide +kernel), List.mem_of_getElem? (i := 967) (by decide +kernel), List.mem_of_getElem? (i := 968) (by decide +kernel)⟩
theorem lw_p20 : lw_okq (⟨"ShareMonitor$Reader", "findWord", "()Z"⟩, 11) := ⟨⟨by decide +kernel, by decide +kernel⟩, List.mem_of_getElem? (i := 59) (by decide +kernel), List.mem_of_getElem? (i := 1041) (by decide +kernel), List.mem_of_getElem? (i := 1042) (by decide +kernel)⟩
theorem lw_p21 : lw_okq (⟨"ShareMonitor$Reader", "placeBehindBlanks", "(I)I"⟩, 11) := ⟨⟨by decide +kernel, by decide +kernel⟩, List.mem_of_getElem? (i := 59) (by decide +kernel), List.mem_of_getElem? (i := 1045) (by decide +kernel), List.mem_of_getElem? (i := 1046) (by decide +kernel)⟩
theorem lw_p22 : lw_okq (⟨"ShareMonitor$Reader", "readWord", "(LShareMonitor$Program;)V"⟩, 11) := ⟨⟨by decide +kernel, by decide +kernel⟩, List.mem_of_getElem? (i := 59) (by decide +kernel), List.mem_of_getElem? (i := 1056) (by decide +kernel), List.mem_of_getElem? (i := 1057) (by decide +kernel)⟩
theorem lw_p23 : lw_okq (⟨"ShareMonitor$Reader", "numberHere", "()J"⟩, 11) := ⟨⟨by decide +kernel, by decide +kernel⟩, List.mem_of_getElem? (i := 59) (by decide +kernel), List.mem_of_getElem? (i := 1060) (by decide +kernel), List.mem_of_getElem? (i := 1061) (by decide +kernel)⟩
theorem lw_p24 : lw_okq (⟨"ShareMonitor$Reader", "addInstruction", "(LShareMonitor$Program;LShareMonitor$Op;I)V"⟩, 11) := ⟨⟨by decide +kernel, by decide +kernel⟩, List.mem_of_getElem? (i := 59) (by decide +kernel), List.mem_of_getElem? (i := 1073) (by decide +kernel), List.mem_of_getElem? (i := 1074) (by decide +kernel)⟩
theorem lw_p25 : lw_okq (⟨"ShareMonitor$Reader", "blame", "(II)V"⟩, 11) := ⟨⟨by decide +kernel, by decide +kernel⟩, List.mem_of_getElem? (i := 59) (by decide +kernel), List.mem_of_getElem? (i := 1077) (by decide +kernel), List.mem_of_getElem? (i := 1078) (by decide +kernel)⟩
theorem lw_p26 : lw_okq (⟨"ShareMonitor$Reader", "readName", "(I)V"⟩, 11) := ⟨⟨by decide +kernel, by decide +kernel⟩, List.mem_of_getElem? (i := 59) (by decide +kernel), List.mem_of_getElem? (i := 1127) (by decide +kernel), List.mem_of_getElem? (i := 1128) (by decide +kernel)⟩
theorem lw_p27 : lw_okq (⟨"ShareMonitor$Reader", "isName", "(II)Z"⟩, 11) := ⟨⟨by decide +kernel, by decide +kernel⟩, List.mem_of_getElem? (i := 59) (by decide +kernel), List.mem_of_getElem? (i := 1131) (by decide +kernel), List.mem_of_getElem? (i := 1132) (by decide +kernel)⟩
theorem lw_p28 : lw_okq (⟨"ShareMonitor$Reader", "addLabel", "(I)V"⟩, 11) := ⟨⟨by decide +kernel, by decide +kernel⟩, List.mem_of_getElem? (i := 59) (by decide +kernel), List.mem_of_getElem? (i := 1138) (by decide +kernel), List.mem_of_getElem? (i := 1139) (by decide +kernel)⟩
theorem lw_p29 : lw_okq (⟨"ShareMonitor$Reader", "targetOf", "(II)I"⟩, 11) := ⟨⟨by decide +kernel, by decide +kernel⟩, List.mem_of_getElem? (i := 59) (by decide +kernel), List.mem_of_getElem? (i := 1142) (by decide +kernel), List.mem_of_getElem? (i := 1143) (by decide +kernel)⟩
theorem lw_p30 : lw_okq (⟨"ShareMonitor$Reader", "findTargets", "(LShareMonitor$Program;)V"⟩, 11) := ⟨⟨by decide +kernel, by decide +kernel⟩, List.mem_of_getElem? (i := 59) (by decide +kernel), List.mem_of_getElem? (i := 1151) (by decide +kernel), List.mem_of_getElem? (i := 1152) (by decide +kernel)⟩
theorem lw_p31 : lw_okq (⟨"ShareMonitorModel", "free", "()I"⟩, 53) := ⟨⟨by decide +kernel, by decide +kernel⟩, List.mem_of_getElem? (i := 1326) (by decide +kernel), List.mem_of_getElem? (i := 1548) (by decide +kernel), List.mem_of_getElem? (i := 1549) (by decide +kernel)⟩
def lw_privs_2 : List (MethodName × Nat) := [(⟨"ShareMonitor$Worker", "collect", "(LShareMonitor$UserProcess;LShareMonitor$UserProcess;)V"⟩, 2), (⟨"ShareMonitor$Worker", "takeTurn", "(LShareMonitor$UserProcess;LShareMonitor$Op;)I"⟩, 2), (⟨"ShareMonitor$Worker", "useSemaphore", "(LShareMonitor$UserProcess;LShareMonitor$Op;I)I"⟩, 2), (⟨"ShareMonitor$Worker", "settle", "(LShareMonitor$UserProcess;I)V"⟩, 2), (⟨"ShareMonitor$Reader", "findWord", "()Z"⟩, 11), (⟨"ShareMonitor$Reader", "placeBehindBlanks", "(I)I"⟩, 11), (⟨"ShareMonitor$Reader", "readWord", "(LShareMonitor$Program;)V"⟩, 11), (⟨"ShareMonitor$Reader", "numberHere", "()J"⟩, 11), (⟨"ShareMonitor$Reader", "addInstruction", "(LShareMonitor$Program;LShareMonitor$Op;I)V"⟩, 11), (⟨"ShareMonitor$Reader", "blame", "(II)V"⟩, 11), (⟨"ShareMonitor$Reader", "readName", "(I)V"⟩, 11), (⟨"ShareMonitor$Reader", "isName", "(II)Z"⟩, 11), (⟨"ShareMonitor$Reader", "addLabel", "(I)V"⟩, 11), (⟨"ShareMonitor$Reader", "targetOf", "(II)I"⟩, 11), (⟨"ShareMonitor$Reader", "findTargets", "(LShareMonitor$Program;)V"⟩, 11), (⟨"ShareMonitorModel", "free", "()I"⟩, 53)]
theorem lw_r2 : ∀ q ∈ lw_privs_2, lw_okq q := List.forall_mem_cons.mpr ⟨lw_p16, List.forall_mem_cons.mpr ⟨lw_p17, List.forall_mem_cons.mpr ⟨lw_p18, List.forall_mem_cons.mpr ⟨lw_p19, List.forall_mem_cons.mpr ⟨lw_p20, List.forall_mem_cons.mpr ⟨lw_p21, List.forall_mem_cons.mpr ⟨lw_p22, List.forall_mem_cons.mpr ⟨lw_p23, List.forall_mem_cons.mpr ⟨lw_p24, List.forall_mem_cons.mpr ⟨lw_p25, List.forall_mem_cons.mpr ⟨lw_p26, List.forall_mem_cons.mpr ⟨lw_p27, List.forall_mem_cons.mpr ⟨lw_p28, List.forall_mem_cons.mpr ⟨lw_p29, List.forall_mem_cons.mpr ⟨lw_p30, List.forall_mem_cons.mpr ⟨lw_p31, fun _ h => absurd h List.not_mem_nil⟩⟩⟩⟩⟩⟩⟩⟩⟩⟩⟩⟩⟩⟩⟩⟩
theorem lw_p32 : lw_okq (⟨"ShareMonitorModel", "readAll", "(I)V"⟩, 53) := ⟨⟨by decide +kernel, by decide +kernel⟩, List.mem_of_getElem? (i := 1326) (by decide +kernel), List.mem_of_getElem? (i := 1552) (by decide +kernel), List.mem_of_getElem? (i := 1553) (by decide +kernel)⟩
theorem lw_p33 : lw_okq (⟨"ShareMonitorModel", "takeWord", "()V"⟩, 53) := ⟨⟨by decide +kernel, by decide +kernel⟩, List.mem_of_getElem? (i := 1326) (by decide +kernel), List.mem_of_getElem? (i := 1556) (by decide +kernel), List.mem_of_getElem? (i := 1557) (by decide +kernel)⟩
theorem lw_p34 : lw_okq (⟨"ShareMonitorModel", "byteOf", "(I)I"⟩, 53) := ⟨⟨by decide +kernel, by decide +kernel⟩, List.mem_of_getElem? (i := 1326) (by decide +kernel), List.mem_of_getElem? (i := 1560) (by decide +kernel), List.mem_of_getElem? (i := 1561) (by decide +kernel)⟩
theorem lw_p35 : lw_okq (⟨"ShareMonitorModel", "readWord", "(I)V"⟩, 53) := ⟨⟨by decide +kernel, by decide +kernel⟩, List.mem_of_getElem? (i := 1326) (by decide +kernel), List.mem_of_getElem? (i := 1567) (by decide +kernel), List.mem_of_getElem? (i := 1568) (by decide +kernel)⟩
theorem lw_p36 : lw_okq (⟨"ShareMonitorModel", "operation", "(II)I"⟩, 53) := ⟨⟨by decide +kernel, by decide +kernel⟩, List.mem_of_getElem? (i := 1326) (by decide +kernel), List.mem_of_getElem? (i := 1571) (by decide +kernel), List.mem_of_getElem? (i := 1572) (by decide +kernel)⟩
theorem lw_p37 : lw_okq (⟨"ShareMonitorModel", "readLabel", "(I)V"⟩, 53) := ⟨⟨by decide +kernel, by decide +kernel⟩, List.mem_of_getElem? (i := 1326) (by decide +kernel), List.mem_of_getElem? (i := 1575) (by decide +kernel), List.mem_of_getElem? (i := 1576) (by decide +kernel)⟩
theorem lw_p38 : lw_okq (⟨"ShareMonitorModel", "isName", "(II)Z"⟩, 53) := ⟨⟨by decide +kernel, by decide +kernel⟩, List.mem_of_getElem? (i := 1326) (by decide +kernel), List.mem_of_getElem? (i := 1579) (by decide +kernel), List.mem_of_getElem? (i := 1580) (by decide +kernel)⟩
theorem lw_p39 : lw_okq (⟨"ShareMonitorModel", "flaw", "(II)V"⟩, 53) := ⟨⟨by decide +kernel, by decide +kernel⟩, List.mem_of_getElem? (i := 1326) (by decide +kernel), List.mem_of_getElem? (i := 1589) (by decide +kernel), List.mem_of_getElem? (i := 1590) (by decide +kernel)⟩
theorem lw_p40 : lw_okq (⟨"ShareMonitorModel", "labelOf", "(II)I"⟩, 53) := ⟨⟨by decide +kernel, by decide +kernel⟩, List.mem_of_getElem? (i := 1326) (by decide +kernel), List.mem_of_getElem? (i := 1593) (by decide +kernel), List.mem_of_getElem? (i := 1594) (by decide +kernel)⟩
theorem lw_p41 : lw_okq (⟨"ShareMonitorModel", "isNumber", "()Z"⟩, 53) := ⟨⟨by decide +kernel, by decide +kernel⟩, List.mem_of_getElem? (i := 1326) (by decide +kernel), List.mem_of_getElem? (i := 1597) (by decide +kernel), List.mem_of_getElem? (i := 1598) (by decide +kernel)⟩
theorem lw_p42 : lw_okq (⟨"ShareMonitorModel", "valueOfWord", "()J"⟩, 53) := ⟨⟨by decide +kernel, by decide +kernel⟩, List.mem_of_getElem? (i := 1326) (by decide +kernel), List.mem_of_getElem? (i := 1601) (by decide +kernel), List.mem_of_getElem? (i := 1602) (by decide +kernel)⟩
theorem lw_p43 : lw_okq (⟨"ShareMonitorModel", "put", "(III)V"⟩, 53) := ⟨⟨by decide +kernel, by decide +kernel⟩, List.mem_of_getElem? (i := 1326) (by decide +kernel), List.mem_of_getElem? (i := 1610) (by decide +kernel), List.mem_of_getElem? (i := 1611) (by decide +kernel)⟩
theorem lw_p44 : lw_okq (⟨"ShareMonitorModel", "start", "(IIII)I"⟩, 53) := ⟨⟨by decide +kernel, by decide +kernel⟩, List.mem_of_getElem? (i := 1326) (by decide +kernel), List.mem_of_getElem? (i := 1614) (by decide +kernel), List.mem_of_getElem? (i := 1615) (by decide +kernel)⟩
theorem lw_p45 : lw_okq (⟨"ShareMonitorModel", "wake", "(I)V"⟩, 53) := ⟨⟨by decide +kernel, by decide +kernel⟩, List.mem_of_getElem? (i := 1326) (by decide +kernel), List.mem_of_getElem? (i := 1618) (by decide +kernel), List.mem_of_getElem? (i := 1619) (by decide +kernel)⟩
theorem lw_p46 : lw_okq (⟨"ShareMonitorModel", "joinRow", "(I)V"⟩, 53) := ⟨⟨by decide +kernel, by decide +kernel⟩, List.mem_of_getElem? (i := 1326) (by decide +kernel), List.mem_of_getElem? (i := 1622) (by decide +kernel), List.mem_of_getElem? (i := 1623) (by decide +kernel)⟩
theorem lw_p47 : lw_okq (⟨"ShareMonitorModel", "turn", "()I"⟩, 53) := ⟨⟨by decide +kernel, by decide +kernel⟩, List.mem_of_getElem? (i := 1326) (by decide +kernel), List.mem_of_getElem? (i := 1634) (by decide +kernel), List.mem_of_getElem? (i := 1635) (by decide +kernel)⟩
def lw_privs_3 : List (MethodName × Nat) := [(⟨"ShareMonitorModel", "readAll", "(I)V"⟩, 53), (⟨"ShareMonitorModel", "takeWord", "()V"⟩, 53), (⟨"ShareMonitorModel", "byteOf", "(I)I"⟩, 53), (⟨"ShareMonitorModel", "readWord", "(I)V"⟩, 53), (⟨"ShareMonitorModel", "operation", "(II)I"⟩, 53), (⟨"ShareMonitorModel", "readLabel", "(I)V"⟩, 53), (⟨"ShareMonitorModel", "isName", "(II)Z"⟩, 53), (⟨"ShareMonitorModel", "flaw", "(II)V"⟩, 53), (⟨"ShareMonitorModel", "labelOf", "(II)I"⟩, 53), (⟨"ShareMonitorModel", "isNumber", "()Z"⟩, 53), (⟨"ShareMonitorModel", "valueOfWord", "()J"⟩, 53), (⟨"ShareMonitorModel", "put", "(III)V"⟩, 53), (⟨"ShareMonitorModel", "start", "(IIII)I"⟩, 53), (⟨"ShareMonitorModel", "wake", "(I)V"⟩, 53), (⟨"ShareMonitorModel", "joinRow", "(I)V"⟩, 53), (⟨"ShareMonitorModel", "turn", "()I"⟩, 53)]
theorem lw_r3 : ∀ q ∈ lw_privs_3, lw_okq q := List.forall_mem_cons.mpr ⟨lw_p32, List.forall_mem_cons.mpr ⟨lw_p33, List.forall_mem_cons.mpr ⟨lw_p34, List.forall_mem_cons.mpr ⟨lw_p35, List.forall_mem_cons.mpr ⟨lw_p36, List.forall_mem_cons.mpr ⟨lw_p37, List.forall_mem_cons.mpr ⟨lw_p38, List.forall_mem_cons.mpr ⟨lw_p39, List.forall_mem_cons.mpr ⟨lw_p40, List.forall_mem_cons.mpr ⟨lw_p41, List.forall_mem_cons.mpr ⟨lw_p42, List.forall_mem_cons.mpr ⟨lw_p43, List.forall_mem_cons.mpr ⟨lw_p44, List.forall_mem_cons.mpr ⟨lw_p45, List.forall_mem_cons.mpr ⟨lw_p46, List.forall_mem_cons.mpr ⟨lw_p47, fun _ h => absurd h List.not_mem_nil⟩⟩⟩⟩⟩⟩⟩⟩⟩⟩⟩⟩⟩⟩⟩⟩
theorem lw_p48 : lw_okq (⟨"ShareMonitorModel", "wakeSleepers", "()V"⟩, 53) := ⟨⟨by decide +kernel, by decide +kernel⟩, List.mem_of_getElem? (i := 1326) (by decide +kernel), List.mem_of_getElem? (i := 1638) (by decide +kernel), List.mem_of_getElem? (i := 1639) (by decide +kernel)⟩
theorem lw_p49 : lw_okq (⟨"ShareMonitorModel", "act", "(I)V"⟩, 53) := ⟨⟨by decide +kernel, by decide +kernel⟩, List.mem_of_getElem? (i := 1326) (by decide +kernel), List.mem_of_getElem? (i := 1642) (by decide +kernel), List.mem_of_getElem? (i := 1643) (by decide +kernel)⟩
theorem lw_p50 : lw_okq (⟨"ShareMonitorModel", "finish", "(II)V"⟩, 53) := ⟨⟨by decide +kernel, by decide +kernel⟩, List.mem_of_getElem? (i := 1326) (by decide +kernel), List.mem_of_getElem? (i := 1646) (by decide +kernel), List.mem_of_getElem? (i := 1647) (by decide +kernel)⟩
theorem lw_p51 : lw_okq (⟨"ShareMonitorModel", "leaveRow", "(I)V"⟩, 53) := ⟨⟨by decide +kernel, by decide +kernel⟩, List.mem_of_getElem? (i := 1326) (by decide +kernel), List.mem_of_getElem? (i := 1650) (by decide +kernel), List.mem_of_getElem? (i := 1651) (by decide +kernel)⟩
theorem lw_p52 : lw_okq (⟨"ShareMonitorModel", "leaveSemaphore", "(I)V"⟩, 53) := ⟨⟨by decide +kernel, by decide +kernel⟩, List.mem_of_getElem? (i := 1326) (by decide +kernel), List.mem_of_getElem? (i := 1654) (by decide +kernel), List.mem_of_getElem? (i := 1655) (by decide +kernel)⟩
theorem lw_p53 : lw_okq (⟨"ShareMonitorModel", "joinBlocks", "()V"⟩, 53) := ⟨⟨by decide +kernel, by decide +kernel⟩, List.mem_of_getElem? (i := 1326) (by decide +kernel), List.mem_of_getElem? (i := 1658) (by decide +kernel), List.mem_of_getElem? (i := 1659) (by decide +kernel)⟩
theorem lw_p54 : lw_okq (⟨"ShareMonitorModel", "release", "(I)V"⟩, 53) := ⟨⟨by decide +kernel, by decide +kernel⟩, List.mem_of_getElem? (i := 1326) (by decide +kernel), List.mem_of_getElem? (i := 1662) (by decide +kernel), List.mem_of_getElem? (i := 1663) (by decide +kernel)⟩
theorem lw_p55 : lw_okq (⟨"ShareMonitorModel", "sweep", "()V"⟩, 53) := ⟨⟨by decide +kernel, by decide +kernel⟩, List.mem_of_getElem? (i := 1326) (by decide +kernel), List.mem_of_getElem? (i := 1666) (by decide +kernel), List.mem_of_getElem? (i := 1667) (by decide +kernel)⟩
theorem lw_p56 : lw_okq (⟨"ShareMonitorModel", "fits", "(II)Z"⟩, 53) := ⟨⟨by decide +kernel, by decide +kernel⟩, List.mem_of_getElem? (i := 1326) (by decide +kernel), List.mem_of_getElem? (i := 1670) (by decide +kernel), List.mem_of_getElem? (i := 1671) (by decide +kernel)⟩
theorem lw_p57 : lw_okq (⟨"ShareMonitorModel", "result", "(III)V"⟩, 53) := ⟨⟨by decide +kernel, by decide +kernel⟩, List.mem_of_getElem? (i := 1326) (by decide +kernel), List.mem_of_getElem? (i := 1674) (by decide +kernel), List.mem_of_getElem? (i := 1675) (by decide +kernel)⟩
theorem lw_p58 : lw_okq (⟨"ShareMonitorModel", "push", "(II)V"⟩, 53) := ⟨⟨by decide +kernel, by decide +kernel⟩, List.mem_of_getElem? (i := 1326) (by decide +kernel), List.mem_of_getElem? (i := 1678) (by decide +kernel), List.mem_of_getElem? (i := 1679) (by decide +kernel)⟩
theorem lw_p59 : lw_okq (⟨"ShareMonitorModel", "done", "(I)V"⟩, 53) := ⟨⟨by decide +kernel, by decide +kernel⟩, List.mem_of_getElem? (i := 1326) (by decide +kernel), List.mem_of_getElem? (i := 1682) (by decide +kernel), List.mem_of_getElem? (i := 1683) (by decide +kernel)⟩
theorem lw_p60 : lw_okq (⟨"ShareMonitorModel", "plain", "(II)V"⟩, 53) := ⟨⟨by decide +kernel, by decide +kernel⟩, List.mem_of_getElem? (i := 1326) (by decide +kernel), List.mem_of_getElem? (i := 1686) (by decide +kernel), List.mem_of_getElem? (i := 1687) (by decide +kernel)⟩
theorem lw_p61 : lw_okq (⟨"ShareMonitorModel", "top", "(II)I"⟩, 53) := ⟨⟨by decide +kernel, by decide +kernel⟩, List.mem_of_getElem? (i := 1326) (by decide +kernel), List.mem_of_getElem? (i := 1690) (by decide +kernel), List.mem_of_getElem? (i := 1691) (by decide +kernel)⟩
theorem lw_p62 : lw_okq (⟨"ShareMonitorModel", "setTop", "(III)V"⟩, 53) := ⟨⟨by decide +kernel, by decide +kernel⟩, List.mem_of_getElem? (i := 1326) (by decide +kernel), List.mem_of_getElem? (i := 1694) (by decide +kernel), List.mem_of_getElem? (i := 1695) (by decide +kernel)⟩
theorem lw_p63 : lw_okq (⟨"ShareMonitorModel", "memory", "(II)V"⟩, 53) := ⟨⟨by decide +kernel, by decide +kernel⟩, List.mem_of_getElem? (i := 1326) (by decide +kernel), List.mem_of_getElem? (i := 1701) (by decide +kernel), List.mem_of_getElem? (i := 1702) (by decide +kernel)⟩
def lw_privs_4 : List (MethodName × Nat) := [(⟨"ShareMonitorModel", "wakeSleepers", "()V"⟩, 53), (⟨"ShareMonitorModel", "act", "(I)V"⟩, 53), (⟨"ShareMonitorModel", "finish", "(II)V"⟩, 53), (⟨"ShareMonitorModel", "leaveRow", "(I)V"⟩, 53), (⟨"ShareMonitorModel", "leaveSemaphore", "(I)V"⟩, 53), (⟨"ShareMonitorModel", "joinBlocks", "()V"⟩, 53), (⟨"ShareMonitorModel", "release", "(I)V"⟩, 53), (⟨"ShareMonitorModel", "sweep", "()V"⟩, 53), (⟨"ShareMonitorModel", "fits", "(II)Z"⟩, 53), (⟨"ShareMonitorModel", "result", "(III)V"⟩, 53), (⟨"ShareMonitorModel", "push", "(II)V"⟩, 53), (⟨"ShareMonitorModel", "done", "(I)V"⟩, 53), (⟨"ShareMonitorModel", "plain", "(II)V"⟩, 53), (⟨"ShareMonitorModel", "top", "(II)I"⟩, 53), (⟨"ShareMonitorModel", "setTop", "(III)V"⟩, 53), (⟨"ShareMonitorModel", "memory", "(II)V"⟩, 53)]
theorem lw_r4 : ∀ q ∈ lw_privs_4, lw_okq q := List.forall_mem_cons.mpr ⟨lw_p48, List.forall_mem_cons.mpr ⟨lw_p49, List.forall_mem_cons.mpr ⟨lw_p50, List.forall_mem_cons.mpr ⟨lw_p51, List.forall_mem_cons.mpr ⟨lw_p52, List.forall_mem_cons.mpr ⟨lw_p53, List.forall_mem_cons.mpr ⟨lw_p54, List.forall_mem_cons.mpr ⟨lw_p55, List.forall_mem_cons.mpr ⟨lw_p56, List.forall_mem_cons.mpr ⟨lw_p57, List.forall_mem_cons.mpr ⟨lw_p58, List.forall_mem_cons.mpr ⟨lw_p59, List.forall_mem_cons.mpr ⟨lw_p60, List.forall_mem_cons.mpr ⟨lw_p61, List.forall_mem_cons.mpr ⟨lw_p62, List.forall_mem_cons.mpr ⟨lw_p63, fun _ h => absurd h List.not_mem_nil⟩⟩⟩⟩⟩⟩⟩⟩⟩⟩⟩⟩⟩⟩⟩⟩
theorem lw_p64 : lw_okq (⟨"ShareMonitorModel", "holds", "(II)Z"⟩, 53) := ⟨⟨by decide +kernel, by decide +kernel⟩, List.mem_of_getElem? (i := 1326) (by decide +kernel), List.mem_of_getElem? (i := 1705) (by decide +kernel), List.mem_of_getElem? (i := 1706) (by decide +kernel)⟩
theorem lw_p65 : lw_okq (⟨"ShareMonitorModel", "allocate", "(II)I"⟩, 53) := ⟨⟨by decide +kernel, by decide +kernel⟩, List.mem_of_getElem? (i := 1326) (by decide +kernel), List.mem_of_getElem? (i := 1709) (by decide +kernel), List.mem_of_getElem? (i := 1710) (by decide +kernel)⟩
theorem lw_p66 : lw_okq (⟨"ShareMonitorModel", "blockFrom", "(II)I"⟩, 53) := ⟨⟨by decide +kernel, by decide +kernel⟩, List.mem_of_getElem? (i := 1326) (by decide +kernel), List.mem_of_getElem? (i := 1713) (by decide +kernel), List.mem_of_getElem? (i := 1714) (by decide +kernel)⟩
theorem lw_p67 : lw_okq (⟨"ShareMonitorModel", "isAlive", "(I)Z"⟩, 53) := ⟨⟨by decide +kernel, by decide +kernel⟩, List.mem_of_getElem? (i := 1326) (by decide +kernel), List.mem_of_getElem? (i := 1717) (by decide +kernel), List.mem_of_getElem? (i := 1718) (by decide +kernel)⟩
theorem lw_p68 : lw_okq (⟨"ShareMonitorModel", "isProcess", "(I)Z"⟩, 53) := ⟨⟨by decide +kernel, by decide +kernel⟩, List.mem_of_getElem? (i := 1326) (by decide +kernel), List.mem_of_getElem? (i := 1721) (by decide +kernel), List.mem_of_getElem? (i := 1722) (by decide +kernel)⟩
theorem lw_p69 : lw_okq (⟨"ShareMonitorModel", "others", "(III)V"⟩, 53) := ⟨⟨by decide +kernel, by decide +kernel⟩, List.mem_of_getElem? (i := 1326) (by decide +kernel), List.mem_of_getElem? (i := 1725) (by decide +kernel), List.mem_of_getElem? (i := 1726) (by decide +kernel)⟩
theorem lw_p70 : lw_okq (⟨"ShareMonitorModel", "spawn", "(II)V"⟩, 53) := ⟨⟨by decide +kernel, by decide +kernel⟩, List.mem_of_getElem? (i := 1326) (by decide +kernel), List.mem_of_getElem? (i := 1729) (by decide +kernel), List.mem_of_getElem? (i := 1730) (by decide +kernel)⟩
theorem lw_p71 : lw_okq (⟨"ShareMonitorModel", "deliver", "(III)I"⟩, 53) := ⟨⟨by decide +kernel, by decide +kernel⟩, List.mem_of_getElem? (i := 1326) (by decide +kernel), List.mem_of_getElem? (i := 1733) (by decide +kernel), List.mem_of_getElem? (i := 1734) (by decide +kernel)⟩
theorem lw_p72 : lw_okq (⟨"ShareMonitorModel", "receive", "(I)V"⟩, 53) := ⟨⟨by decide +kernel, by decide +kernel⟩, List.mem_of_getElem? (i := 1326) (by decide +kernel), List.mem_of_getElem? (i := 1737) (by decide +kernel), List.mem_of_getElem? (i := 1738) (by decide +kernel)⟩
theorem lw_p73 : lw_okq (⟨"ShareMonitorModel", "waitFor", "(III)V"⟩, 53) := ⟨⟨by decide +kernel, by decide +kernel⟩, List.mem_of_getElem? (i := 1326) (by decide +kernel), List.mem_of_getElem? (i := 1741) (by decide +kernel), List.mem_of_getElem? (i := 1742) (by decide +kernel)⟩
theorem lw_p74 : lw_okq (⟨"ShareMonitorModel", "await", "(I)V"⟩, 53) := ⟨⟨by decide +kernel, by decide +kernel⟩, List.mem_of_getElem? (i := 1326) (by decide +kernel), List.mem_of_getElem? (i := 1745) (by decide +kernel), List.mem_of_getElem? (i := 1746) (by decide +kernel)⟩
theorem lw_p75 : lw_okq (⟨"ShareMonitorModel", "isChild", "(II)Z"⟩, 53) := ⟨⟨by decide +kernel, by decide +kernel⟩, List.mem_of_getElem? (i := 1326) (by decide +kernel), List.mem_of_getElem? (i := 1749) (by decide +kernel), List.mem_of_getElem? (i := 1750) (by decide +kernel)⟩
theorem lw_p76 : lw_okq (⟨"ShareMonitorModel", "shares", "(III)V"⟩, 53) := ⟨⟨by decide +kernel, by decide +kernel⟩, List.mem_of_getElem? (i := 1326) (by decide +kernel), List.mem_of_getElem? (i := 1753) (by decide +kernel), List.mem_of_getElem? (i := 1754) (by decide +kernel)⟩
theorem lw_p77 : lw_okq (⟨"ShareMonitorModel", "toEnd", "(I)V"⟩, 53) := ⟨⟨by decide +kernel, by decide +kernel⟩, List.mem_of_getElem? (i := 1326) (by decide +kernel), List.mem_of_getElem? (i := 1757) (by decide +kernel), List.mem_of_getElem? (i := 1758) (by decide +kernel)⟩
theorem lw_p78 : lw_okq (⟨"ShareMonitorModel", "semaphore", "(III)V"⟩, 53) := ⟨⟨by decide +kernel, by decide +kernel⟩, List.mem_of_getElem? (i := 1326) (by decide +kernel), List.mem_of_getElem? (i := 1762) (by decide +kernel), List.mem_of_getElem? (i := 1763) (by decide +kernel)⟩
theorem lw_p79 : lw_okq (⟨"ShareMonitorModel", "held", "(I)I"⟩, 53) := ⟨⟨by decide +kernel, by decide +kernel⟩, List.mem_of_getElem? (i := 1326) (by decide +kernel), List.mem_of_getElem? (i := 1795) (by decide +kernel), List.mem_of_getElem? (i := 1796) (by decide +kernel)⟩
def lw_privs_5 : List (MethodName × Nat) := [(⟨"ShareMonitorModel", "holds", "(II)Z"⟩, 53), (⟨"ShareMonitorModel", "allocate", "(II)I"⟩, 53), (⟨"ShareMonitorModel", "blockFrom", "(II)I"⟩, 53), (⟨"ShareMonitorModel", "isAlive", "(I)Z"⟩, 53), (⟨"ShareMonitorModel", "isProcess", "(I)Z"⟩, 53), (⟨"ShareMonitorModel", "others", "(III)V"⟩, 53), (⟨"ShareMonitorModel", "spawn", "(II)V"⟩, 53), (⟨"ShareMonitorModel", "deliver", "(III)I"⟩, 53), (⟨"ShareMonitorModel", "receive", "(I)V"⟩, 53), (⟨"ShareMonitorModel", "waitFor", "(III)V"⟩, 53), (⟨"ShareMonitorModel", "await", "(I)V"⟩, 53), (⟨"ShareMonitorModel", "isChild", "(II)Z"⟩, 53), (⟨"ShareMonitorModel", "shares", "(III)V"⟩, 53), (⟨"ShareMonitorModel", "toEnd", "(I)V"⟩, 53), (⟨"ShareMonitorModel", "semaphore", "(III)V"⟩, 53), (⟨"ShareMonitorModel", "held", "(I)I"⟩, 53)]
theorem lw_r5 : ∀ q ∈ lw_privs_5, lw_okq q := List.forall_mem_cons.mpr ⟨lw_p64, List.forall_mem_cons.mpr ⟨lw_p65, List.forall_mem_cons.mpr ⟨lw_p66, List.forall_mem_cons.mpr ⟨lw_p67, List.forall_mem_cons.mpr ⟨lw_p68, List.forall_mem_cons.mpr ⟨lw_p69, List.forall_mem_cons.mpr ⟨lw_p70, List.forall_mem_cons.mpr ⟨lw_p71, List.forall_mem_cons.mpr ⟨lw_p72, List.forall_mem_cons.mpr ⟨lw_p73, List.forall_mem_cons.mpr ⟨lw_p74, List.forall_mem_cons.mpr ⟨lw_p75, List.forall_mem_cons.mpr ⟨lw_p76, List.forall_mem_cons.mpr ⟨lw_p77, List.forall_mem_cons.mpr ⟨lw_p78, List.forall_mem_cons.mpr ⟨lw_p79, fun _ h => absurd h List.not_mem_nil⟩⟩⟩⟩⟩⟩⟩⟩⟩⟩⟩⟩⟩⟩⟩⟩
theorem lw_p80 : lw_okq (⟨"ShareMonitorModel", "processes", "(II)I"⟩, 53) := ⟨⟨by decide +kernel, by decide +kernel⟩, List.mem_of_getElem? (i := 1326) (by decide +kernel), List.mem_of_getElem? (i := 1831) (by decide +kernel), List.mem_of_getElem? (i := 1832) (by decide +kernel)⟩
def lw_privs_6 : List (MethodName × Nat) := [(⟨"ShareMonitorModel", "processes", "(II)I"⟩, 53)]
theorem lw_r6 : ∀ q ∈ lw_privs_6, lw_okq q := List.forall_mem_cons.mpr ⟨lw_p80, fun _ h => absurd h List.not_mem_nil⟩
def lw_privs : List (MethodName × Nat) := lw_privs_1 ++ (lw_privs_2 ++ (lw_privs_3 ++ (lw_privs_4 ++ (lw_privs_5 ++ (lw_privs_6)))))
def lw_tbl : List Cond := k2_sels lw_privs ++ tables_1
theorem lw_privs_ok : ∀ q ∈ lw_privs, lw_okq q := by
  show ∀ q ∈ lw_privs_1 ++ (lw_privs_2 ++ (lw_privs_3 ++ (lw_privs_4 ++ (lw_privs_5 ++ (lw_privs_6))))), lw_okq q
  exact List.forall_mem_append.mpr ⟨lw_r1, List.forall_mem_append.mpr ⟨lw_r2, List.forall_mem_append.mpr ⟨lw_r3, List.forall_mem_append.mpr ⟨lw_r4, List.forall_mem_append.mpr ⟨lw_r5, lw_r6⟩⟩⟩⟩⟩
end
section
def RX0 : String := "ShareMonitor$1"
def TX0 : u_T := fun k => match k with
  | _ => ("", "", "", false)
def tyX0 : Nat → FieldType := fun k => match k with
  | _ => .int
theorem nmX0 : ∀ a, a < 0 → ∀ b, b < 0 → a ≠ b → (TX0 a).2.1 ≠ (TX0 b).2.1 := by decide +kernel
theorem tyX0_ok : ∀ k, k < 0 → parseFieldDescriptor (TX0 k).2.2.1 = some (tyX0 k) := by decide +kernel
def RX1 : String := "ShareMonitor$Box"
def TX1 : u_T := fun k => match k with
  | 0 => ("ShareMonitor$Box", "numbers", "[I", true)
  | 1 => ("ShareMonitor$Box", "senders", "[I", true)
  | _ => ("ShareMonitor$Box", "size", "I", false)
def tyX1 : Nat → FieldType := fun k => match k with
  | 0 => .array .int
  | 1 => .array .int
  | _ => .int
theorem nmX1 : ∀ a, a < 3 → ∀ b, b < 3 → a ≠ b → (TX1 a).2.1 ≠ (TX1 b).2.1 := by decide +kernel
theorem tyX1_ok : ∀ k, k < 3 → parseFieldDescriptor (TX1 k).2.2.1 = some (tyX1 k) := by decide +kernel
abbrev cX1_init : ByteArray := prog_3_method_1_code
def yX1_init : MethodName := ⟨RX1, "<init>", "()V"⟩
abbrev cX1_put : ByteArray := prog_3_method_2_code
def yX1_put : MethodName := ⟨RX1, "put", "(II)Z"⟩
abbrev cX1_dropFirst : ByteArray := prog_3_method_3_code
def yX1_dropFirst : MethodName := ⟨RX1, "dropFirst", "()V"⟩
def RX2 : String := "ShareMonitor$Desk"
def TX2 : u_T := fun k => match k with
  | 0 => ("ShareMonitor$Desk", "processes", "[LShareMonitor$UserProcess;", true)
  | 1 => ("ShareMonitor$Desk", "programs", "[LShareMonitor$Program;", true)
  | 2 => ("ShareMonitor$Desk", "rows", "[LShareMonitor$Row;", true)
  | 3 => ("ShareMonitor$Desk", "values", "[I", true)
  | 4 => ("ShareMonitor$Desk", "queues", "[LShareMonitor$Row;", true)
  | 5 => ("ShareMonitor$Desk", "memory", "LShareMonitor$Memory;", true)
  | 6 => ("ShareMonitor$Desk", "console", "[I", true)
  | 7 => ("ShareMonitor$Desk", "shown", "I", false)
  | 8 => ("ShareMonitor$Desk", "lost", "I", false)
  | 9 => ("ShareMonitor$Desk", "clock", "I", false)
  | _ => ("ShareMonitor$Desk", "soonest", "I", false)
def tyX2 : Nat → FieldType := fun k => match k with
  | 0 => .array (.object "ShareMonitor$UserProcess")
  | 1 => .array (.object "ShareMonitor$Program")
  | 2 => .array (.object "ShareMonitor$Row")
  | 3 => .array .int
  | 4 => .array (.object "ShareMonitor$Row")
  | 5 => .object "ShareMonitor$Memory"
  | 6 => .array .int
  | 7 => .int
  | 8 => .int
  | 9 => .int
  | _ => .int
theorem nmX2 : ∀ a, a < 11 → ∀ b, b < 11 → a ≠ b → (TX2 a).2.1 ≠ (TX2 b).2.1 := by decide +kernel
theorem tyX2_ok : ∀ k, k < 11 → parseFieldDescriptor (TX2 k).2.2.1 = some (tyX2 k) := by decide +kernel
abbrev cX2_init : ByteArray := prog_4_method_1_code
def yX2_init : MethodName := ⟨RX2, "<init>", "()V"⟩
abbrev cX2_find : ByteArray := prog_4_method_2_code
def yX2_find : MethodName := ⟨RX2, "find", "(I)LShareMonitor$UserProcess;"⟩
abbrev cX2_findChild : ByteArray := prog_4_method_3_code
def yX2_findChild : MethodName := ⟨RX2, "findChild", "(LShareMonitor$UserProcess;I)LShareMonitor$UserProcess;"⟩
abbrev cX2_leastFree : ByteArray := prog_4_method_4_code
def yX2_leastFree : MethodName := ⟨RX2, "leastFree", "()LShareMonitor$UserProcess;"⟩
abbrev cX2_spareProgram : ByteArray := prog_4_method_5_code
def yX2_spareProgram : MethodName := ⟨RX2, "spareProgram", "()LShareMonitor$Program;"⟩
abbrev cX2_admit : ByteArray := prog_4_method_6_code
def yX2_admit : MethodName := ⟨RX2, "admit", "(LShareMonitor$UserProcess;LShareMonitor$Program;I)V"⟩
abbrev cX2_makeReady : ByteArray := prog_4_method_7_code
def yX2_makeReady : MethodName := ⟨RX2, "makeReady", "(LShareMonitor$UserProcess;)V"⟩
abbrev cX2_putLast : ByteArray := prog_4_method_8_code
def yX2_putLast : MethodName := ⟨RX2, "putLast", "(LShareMonitor$UserProcess;I)V"⟩
abbrev cX2_suspend : ByteArray := prog_4_method_9_code
def yX2_suspend : MethodName := ⟨RX2, "suspend", "(LShareMonitor$UserProcess;II)V"⟩
abbrev cX2_deliver : ByteArray := prog_4_method_10_code
def yX2_deliver : MethodName := ⟨RX2, "deliver", "(LShareMonitor$UserProcess;II)Z"⟩
abbrev cX2_show : ByteArray := prog_4_method_11_code
def yX2_show : MethodName := ⟨RX2, "show", "(I)V"⟩
abbrev cX2_finish : ByteArray := prog_4_method_12_code
def yX2_finish : MethodName := ⟨RX2, "finish", "(LShareMonitor$UserProcess;I)V"⟩
abbrev cX2_putToSleep : ByteArray := prog_4_method_13_code
def yX2_putToSleep : MethodName := ⟨RX2, "putToSleep", "(LShareMonitor$UserProcess;I)V"⟩
abbrev cX2_wakeSleepers : ByteArray := prog_4_method_14_code
def yX2_wakeSleepers : MethodName := ⟨RX2, "wakeSleepers", "()V"⟩
abbrev cX2_firstReady : ByteArray := prog_4_method_15_code
def yX2_firstReady : MethodName := ⟨RX2, "firstReady", "()LShareMonitor$UserProcess;"⟩
abbrev cX2_countFrom : ByteArray := prog_4_method_16_code
def yX2_countFrom : MethodName := ⟨RX2, "countFrom", "(II)I"⟩
abbrev cX2_programsInUse : ByteArray := prog_4_method_17_code
def yX2_programsInUse : MethodName := ⟨RX2, "programsInUse", "()I"⟩
abbrev cX2_instructionsInUse : ByteArray := prog_4_method_18_code
def yX2_instructionsInUse : MethodName := ⟨RX2, "instructionsInUse", "()I"⟩
def RX3 : String := "ShareMonitor$Memory"
def TX3 : u_T := fun k => match k with
  | 0 => ("ShareMonitor$Memory", "cells", "[I", true)
  | 1 => ("ShareMonitor$Memory", "holders", "[I", true)
  | _ => ("ShareMonitor$Memory", "sizes", "[I", true)
def tyX3 : Nat → FieldType := fun k => match k with
  | 0 => .array .int
  | 1 => .array .int
  | _ => .array .int
theorem nmX3 : ∀ a, a < 3 → ∀ b, b < 3 → a ≠ b → (TX3 a).2.1 ≠ (TX3 b).2.1 := by decide +kernel
theorem tyX3_ok : ∀ k, k < 3 → parseFieldDescriptor (TX3 k).2.2.1 = some (tyX3 k) := by decide +kernel
abbrev cX3_init : ByteArray := prog_5_method_1_code
def yX3_init : MethodName := ⟨RX3, "<init>", "()V"⟩
abbrev cX3_take : ByteArray := prog_5_method_2_code
def yX3_take : MethodName := ⟨RX3, "take", "(II)I"⟩
abbrev cX3_cut : ByteArray := prog_5_method_3_code
def yX3_cut : MethodName := ⟨RX3, "cut", "(III)V"⟩
abbrev cX3_holds : ByteArray := prog_5_method_4_code
def yX3_holds : MethodName := ⟨RX3, "holds", "(II)Z"⟩
abbrev cX3_holdsFrom : ByteArray := prog_5_method_5_code
def yX3_holdsFrom : MethodName := ⟨RX3, "holdsFrom", "(II)Z"⟩
abbrev cX3_hand : ByteArray := prog_5_method_6_code
def yX3_hand : MethodName := ⟨RX3, "hand", "(II)V"⟩
abbrev cX3_regain : ByteArray := prog_5_method_7_code
def yX3_regain : MethodName := ⟨RX3, "regain", "(II)V"⟩
abbrev cX3_cellsOf : ByteArray := prog_5_method_8_code
def yX3_cellsOf : MethodName := ⟨RX3, "cellsOf", "(I)I"⟩
abbrev cX3_blocks : ByteArray := prog_5_method_9_code
def yX3_blocks : MethodName := ⟨RX3, "blocks", "()I"⟩
abbrev cX3_addressOf : ByteArray := prog_5_method_10_code
def yX3_addressOf : MethodName := ⟨RX3, "addressOf", "(I)I"⟩
def RX4 : String := "ShareMonitor$Op"
def TX4 : u_T := fun k => match k with
  | _ => ("", "", "", false)
def tyX4 : Nat → FieldType := fun k => match k with
  | _ => .int
theorem nmX4 : ∀ a, a < 0 → ∀ b, b < 0 → a ≠ b → (TX4 a).2.1 ≠ (TX4 b).2.1 := by decide +kernel
theorem tyX4_ok : ∀ k, k < 0 → parseFieldDescriptor (TX4 k).2.2.1 = some (tyX4 k) := by decide +kernel
abbrev cX4_written : ByteArray := prog_6_method_4_code
def yX4_written : MethodName := ⟨RX4, "written", "(LShareMonitor$Tape;II)LShareMonitor$Op;"⟩
abbrev cX4_hasName : ByteArray := prog_6_method_5_code
def yX4_hasName : MethodName := ⟨RX4, "hasName", "()Z"⟩
def RX5 : String := "ShareMonitor$Program"
def TX5 : u_T := fun k => match k with
  | 0 => ("ShareMonitor$Program", "ops", "[LShareMonitor$Op;", true)
  | 1 => ("ShareMonitor$Program", "numbers", "[I", true)
  | 2 => ("ShareMonitor$Program", "size", "I", false)
  | _ => ("ShareMonitor$Program", "users", "I", false)
def tyX5 : Nat → FieldType := fun k => match k with
  | 0 => .array (.object "ShareMonitor$Op")
  | 1 => .array .int
  | 2 => .int
  | _ => .int
theorem nmX5 : ∀ a, a < 4 → ∀ b, b < 4 → a ≠ b → (TX5 a).2.1 ≠ (TX5 b).2.1 := by decide +kernel
theorem tyX5_ok : ∀ k, k < 4 → parseFieldDescriptor (TX5 k).2.2.1 = some (tyX5 k) := by decide +kernel
abbrev cX5_init : ByteArray := prog_7_method_1_code
def yX5_init : MethodName := ⟨RX5, "<init>", "()V"⟩
def RX6 : String := "ShareMonitor$Reader"
def TX6 : u_T := fun k => match k with
  | 0 => ("ShareMonitor$Reader", "tape", "LShareMonitor$Tape;", true)
  | 1 => ("ShareMonitor$Reader", "labelPlaces", "[I", true)
  | 2 => ("ShareMonitor$Reader", "labelSizes", "[I", true)
  | 3 => ("ShareMonitor$Reader", "labelTargets", "[I", true)
  | 4 => ("ShareMonitor$Reader", "labels", "I", false)
  | 5 => ("ShareMonitor$Reader", "namePlaces", "[I", true)
  | 6 => ("ShareMonitor$Reader", "nameSizes", "[I", true)
  | 7 => ("ShareMonitor$Reader", "start", "I", false)
  | 8 => ("ShareMonitor$Reader", "stop", "I", false)
  | 9 => ("ShareMonitor$Reader", "fault", "I", false)
  | _ => ("ShareMonitor$Reader", "faultPlace", "I", false)
def tyX6 : Nat → FieldType := fun k => match k with
  | 0 => .object "ShareMonitor$Tape"
  | 1 => .array .int
  | 2 => .array .int
  | 3 => .array .int
  | 4 => .int
  | 5 => .array .int
  | 6 => .array .int
  | 7 => .int
  | 8 => .int
  | 9 => .int
  | _ => .int
theorem nmX6 : ∀ a, a < 11 → ∀ b, b < 11 → a ≠ b → (TX6 a).2.1 ≠ (TX6 b).2.1 := by decide +kernel
theorem tyX6_ok : ∀ k, k < 11 → parseFieldDescriptor (TX6 k).2.2.1 = some (tyX6 k) := by decide +kernel
abbrev cX6_init : ByteArray := prog_8_method_1_code
def yX6_init : MethodName := ⟨RX6, "<init>", "(LShareMonitor$Tape;)V"⟩
abbrev cX6_read : ByteArray := prog_8_method_2_code
def yX6_read : MethodName := ⟨RX6, "read", "(LShareMonitor$Program;)V"⟩
abbrev cX6_blame : ByteArray := prog_8_method_3_code
def yX6_blame : MethodName := ⟨RX6, "blame", "(II)V"⟩
abbrev cX6_findWord : ByteArray := prog_8_method_4_code
def yX6_findWord : MethodName := ⟨RX6, "findWord", "()Z"⟩
abbrev cX6_placeBehindBlanks : ByteArray := prog_8_method_5_code
def yX6_placeBehindBlanks : MethodName := ⟨RX6, "placeBehindBlanks", "(I)I"⟩
abbrev cX6_readWord : ByteArray := prog_8_method_6_code
def yX6_readWord : MethodName := ⟨RX6, "readWord", "(LShareMonitor$Program;)V"⟩
abbrev cX6_addInstruction : ByteArray := prog_8_method_7_code
def yX6_addInstruction : MethodName := ⟨RX6, "addInstruction", "(LShareMonitor$Program;LShareMonitor$Op;I)V"⟩
abbrev cX6_readName : ByteArray := prog_8_method_8_code
def yX6_readName : MethodName := ⟨RX6, "readName", "(I)V"⟩
abbrev cX6_addLabel : ByteArray := prog_8_method_9_code
def yX6_addLabel : MethodName := ⟨RX6, "addLabel", "(I)V"⟩
abbrev cX6_targetOf : ByteArray := prog_8_method_10_code
def yX6_targetOf : MethodName := ⟨RX6, "targetOf", "(II)I"⟩
abbrev cX6_findTargets : ByteArray := prog_8_method_11_code
def yX6_findTargets : MethodName := ⟨RX6, "findTargets", "(LShareMonitor$Program;)V"⟩
abbrev cX6_numberHere : ByteArray := prog_8_method_12_code
def yX6_numberHere : MethodName := ⟨RX6, "numberHere", "()J"⟩
abbrev cX6_isName : ByteArray := prog_8_method_13_code
def yX6_isName : MethodName := ⟨RX6, "isName", "(II)Z"⟩
abbrev cX6_isBlank : ByteArray := prog_8_method_14_code
def yX6_isBlank : MethodName := ⟨RX6, "isBlank", "(I)Z"⟩
abbrev cX6_isLetter : ByteArray := prog_8_method_15_code
def yX6_isLetter : MethodName := ⟨RX6, "isLetter", "(I)Z"⟩
abbrev cX6_isDigit : ByteArray := prog_8_method_16_code
def yX6_isDigit : MethodName := ⟨RX6, "isDigit", "(I)Z"⟩
def RX7 : String := "ShareMonitor$Row"
def TX7 : u_T := fun k => match k with
  | 0 => ("ShareMonitor$Row", "members", "[I", true)
  | _ => ("ShareMonitor$Row", "size", "I", false)
def tyX7 : Nat → FieldType := fun k => match k with
  | 0 => .array .int
  | _ => .int
theorem nmX7 : ∀ a, a < 2 → ∀ b, b < 2 → a ≠ b → (TX7 a).2.1 ≠ (TX7 b).2.1 := by decide +kernel
theorem tyX7_ok : ∀ k, k < 2 → parseFieldDescriptor (TX7 k).2.2.1 = some (tyX7 k) := by decide +kernel
abbrev cX7_init : ByteArray := prog_9_method_1_code
def yX7_init : MethodName := ⟨RX7, "<init>", "()V"⟩
abbrev cX7_join : ByteArray := prog_9_method_2_code
def yX7_join : MethodName := ⟨RX7, "join", "(I)V"⟩
abbrev cX7_leave : ByteArray := prog_9_method_3_code
def yX7_leave : MethodName := ⟨RX7, "leave", "(I)V"⟩
abbrev cX7_first : ByteArray := prog_9_method_4_code
def yX7_first : MethodName := ⟨RX7, "first", "()I"⟩
def RX8 : String := "ShareMonitor$Tape"
def TX8 : u_T := fun k => match k with
  | 0 => ("ShareMonitor$Tape", "bytes", "[B", true)
  | _ => ("ShareMonitor$Tape", "length", "I", false)
def tyX8 : Nat → FieldType := fun k => match k with
  | 0 => .array .byte
  | _ => .int
theorem nmX8 : ∀ a, a < 2 → ∀ b, b < 2 → a ≠ b → (TX8 a).2.1 ≠ (TX8 b).2.1 := by decide +kernel
theorem tyX8_ok : ∀ k, k < 2 → parseFieldDescriptor (TX8 k).2.2.1 = some (tyX8 k) := by decide +kernel
abbrev cX8_init : ByteArray := prog_10_method_1_code
def yX8_init : MethodName := ⟨RX8, "<init>", "()V"⟩
abbrev cX8_append : ByteArray := prog_10_method_2_code
def yX8_append : MethodName := ⟨RX8, "append", "(I)V"⟩
abbrev cX8_at : ByteArray := prog_10_method_3_code
def yX8_at : MethodName := ⟨RX8, "at", "(I)I"⟩
abbrev cX8_says : ByteArray := prog_10_method_4_code
def yX8_says : MethodName := ⟨RX8, "says", "(Ljava/lang/String;II)Z"⟩
abbrev cX8_repeats : ByteArray := prog_10_method_5_code
def yX8_repeats : MethodName := ⟨RX8, "repeats", "(III)Z"⟩
def RX9 : String := "ShareMonitor$UserProcess"
def TX9 : u_T := fun k => match k with
  | 0 => ("ShareMonitor$UserProcess", "number", "I", true)
  | 1 => ("ShareMonitor$UserProcess", "numbers", "[I", true)
  | 2 => ("ShareMonitor$UserProcess", "returns", "[I", true)
  | 3 => ("ShareMonitor$UserProcess", "box", "LShareMonitor$Box;", true)
  | 4 => ("ShareMonitor$UserProcess", "keys", "LShareMonitor$Box;", true)
  | 5 => ("ShareMonitor$UserProcess", "depth", "I", false)
  | 6 => ("ShareMonitor$UserProcess", "returnDepth", "I", false)
  | 7 => ("ShareMonitor$UserProcess", "status", "I", false)
  | 8 => ("ShareMonitor$UserProcess", "code", "I", false)
  | 9 => ("ShareMonitor$UserProcess", "level", "I", false)
  | 10 => ("ShareMonitor$UserProcess", "parent", "I", false)
  | 11 => ("ShareMonitor$UserProcess", "program", "LShareMonitor$Program;", false)
  | 12 => ("ShareMonitor$UserProcess", "next", "I", false)
  | 13 => ("ShareMonitor$UserProcess", "done", "I", false)
  | 14 => ("ShareMonitor$UserProcess", "streak", "I", false)
  | _ => ("ShareMonitor$UserProcess", "awaited", "I", false)
def tyX9 : Nat → FieldType := fun k => match k with
  | 0 => .int
  | 1 => .array .int
  | 2 => .array .int
  | 3 => .object "ShareMonitor$Box"
  | 4 => .object "ShareMonitor$Box"
  | 5 => .int
  | 6 => .int
  | 7 => .int
  | 8 => .int
  | 9 => .int
  | 10 => .int
  | 11 => .object "ShareMonitor$Program"
  | 12 => .int
  | 13 => .int
  | 14 => .int
  | _ => .int
theorem nmX9 : ∀ a, a < 16 → ∀ b, b < 16 → a ≠ b → (TX9 a).2.1 ≠ (TX9 b).2.1 := by decide +kernel
theorem tyX9_ok : ∀ k, k < 16 → parseFieldDescriptor (TX9 k).2.2.1 = some (tyX9 k) := by decide +kernel
abbrev cX9_init : ByteArray := prog_11_method_1_code
def yX9_init : MethodName := ⟨RX9, "<init>", "(I)V"⟩
abbrev cX9_isAlive : ByteArray := prog_11_method_2_code
def yX9_isAlive : MethodName := ⟨RX9, "isAlive", "()Z"⟩
abbrev cX9_nextOp : ByteArray := prog_11_method_3_code
def yX9_nextOp : MethodName := ⟨RX9, "nextOp", "()LShareMonitor$Op;"⟩
abbrev cX9_nextNumber : ByteArray := prog_11_method_4_code
def yX9_nextNumber : MethodName := ⟨RX9, "nextNumber", "()I"⟩
abbrev cX9_push : ByteArray := prog_11_method_5_code
def yX9_push : MethodName := ⟨RX9, "push", "(I)V"⟩
abbrev cX9_pop : ByteArray := prog_11_method_6_code
def yX9_pop : MethodName := ⟨RX9, "pop", "()I"⟩
abbrev cX9_top : ByteArray := prog_11_method_7_code
def yX9_top : MethodName := ⟨RX9, "top", "()I"⟩
abbrev cX9_empty : ByteArray := prog_11_method_8_code
def yX9_empty : MethodName := ⟨RX9, "empty", "()V"⟩
abbrev cX9_vanish : ByteArray := prog_11_method_9_code
def yX9_vanish : MethodName := ⟨RX9, "vanish", "()V"⟩
def RX10 : String := "ShareMonitor$Worker"
def TX10 : u_T := fun k => match k with
  | 0 => ("ShareMonitor$Worker", "desk", "LShareMonitor$Desk;", true)
  | _ => ("ShareMonitor$Worker", "quantum", "I", false)
def tyX10 : Nat → FieldType := fun k => match k with
  | 0 => .object "ShareMonitor$Desk"
  | _ => .int
theorem nmX10 : ∀ a, a < 2 → ∀ b, b < 2 → a ≠ b → (TX10 a).2.1 ≠ (TX10 b).2.1 := by decide +kernel
theorem tyX10_ok : ∀ k, k < 2 → parseFieldDescriptor (TX10 k).2.2.1 = some (tyX10 k) := by decide +kernel
abbrev cX10_init : ByteArray := prog_12_method_1_code
def yX10_init : MethodName := ⟨RX10, "<init>", "(LShareMonitor$Desk;)V"⟩
abbrev cX10_advance : ByteArray := prog_12_method_2_code
def yX10_advance : MethodName := ⟨RX10, "advance", "()I"⟩
abbrev cX10_settle : ByteArray := prog_12_method_3_code
def yX10_settle : MethodName := ⟨RX10, "settle", "(LShareMonitor$UserProcess;I)V"⟩
abbrev cX10_obstacleTo : ByteArray := prog_12_method_4_code
def yX10_obstacleTo : MethodName := ⟨RX10, "obstacleTo", "(LShareMonitor$UserProcess;LShareMonitor$Op;)I"⟩
abbrev cX10_mustWait : ByteArray := prog_12_method_5_code
def yX10_mustWait : MethodName := ⟨RX10, "mustWait", "(LShareMonitor$UserProcess;LShareMonitor$Op;)Z"⟩
abbrev cX10_perform : ByteArray := prog_12_method_6_code
def yX10_perform : MethodName := ⟨RX10, "perform", "(LShareMonitor$UserProcess;LShareMonitor$Op;)I"⟩
abbrev cX10_shuffle : ByteArray := prog_12_method_7_code
def yX10_shuffle : MethodName := ⟨RX10, "shuffle", "(LShareMonitor$UserProcess;LShareMonitor$Op;I)I"⟩
abbrev cX10_shuffleSeveral : ByteArray := prog_12_method_8_code
def yX10_shuffleSeveral : MethodName := ⟨RX10, "shuffleSeveral", "(LShareMonitor$UserProcess;LShareMonitor$Op;I)V"⟩
abbrev cX10_compute : ByteArray := prog_12_method_9_code
def yX10_compute : MethodName := ⟨RX10, "compute", "(LShareMonitor$UserProcess;LShareMonitor$Op;)I"⟩
abbrev cX10_resultOf : ByteArray := prog_12_method_10_code
def yX10_resultOf : MethodName := ⟨RX10, "resultOf", "(LShareMonitor$Op;II)I"⟩
abbrev cX10_follow : ByteArray := prog_12_method_11_code
def yX10_follow : MethodName := ⟨RX10, "follow", "(LShareMonitor$UserProcess;LShareMonitor$Op;I)I"⟩
abbrev cX10_useMemory : ByteArray := prog_12_method_12_code
def yX10_useMemory : MethodName := ⟨RX10, "useMemory", "(LShareMonitor$UserProcess;LShareMonitor$Op;)I"⟩
abbrev cX10_release : ByteArray := prog_12_method_13_code
def yX10_release : MethodName := ⟨RX10, "release", "(LShareMonitor$UserProcess;I)I"⟩
abbrev cX10_give : ByteArray := prog_12_method_14_code
def yX10_give : MethodName := ⟨RX10, "give", "(LShareMonitor$UserProcess;ILShareMonitor$UserProcess;)I"⟩
abbrev cX10_talk : ByteArray := prog_12_method_15_code
def yX10_talk : MethodName := ⟨RX10, "talk", "(LShareMonitor$UserProcess;LShareMonitor$Op;)I"⟩
abbrev cX10_send : ByteArray := prog_12_method_16_code
def yX10_send : MethodName := ⟨RX10, "send", "(LShareMonitor$UserProcess;ILShareMonitor$UserProcess;)I"⟩
abbrev cX10_useChildren : ByteArray := prog_12_method_17_code
def yX10_useChildren : MethodName := ⟨RX10, "useChildren", "(LShareMonitor$UserProcess;LShareMonitor$Op;I)I"⟩
abbrev cX10_spawn : ByteArray := prog_12_method_18_code
def yX10_spawn : MethodName := ⟨RX10, "spawn", "(LShareMonitor$UserProcess;I)I"⟩
abbrev cX10_collect : ByteArray := prog_12_method_19_code
def yX10_collect : MethodName := ⟨RX10, "collect", "(LShareMonitor$UserProcess;LShareMonitor$UserProcess;)V"⟩
abbrev cX10_takeTurn : ByteArray := prog_12_method_20_code
def yX10_takeTurn : MethodName := ⟨RX10, "takeTurn", "(LShareMonitor$UserProcess;LShareMonitor$Op;)I"⟩
abbrev cX10_useSemaphore : ByteArray := prog_12_method_21_code
def yX10_useSemaphore : MethodName := ⟨RX10, "useSemaphore", "(LShareMonitor$UserProcess;LShareMonitor$Op;I)I"⟩
def RX11 : String := "ShareMonitor"
def TX11 : u_T := fun k => match k with
  | 0 => ("ShareMonitor", "tape", "LShareMonitor$Tape;", true)
  | 1 => ("ShareMonitor", "reader", "LShareMonitor$Reader;", true)
  | 2 => ("ShareMonitor", "desk", "LShareMonitor$Desk;", true)
  | _ => ("ShareMonitor", "worker", "LShareMonitor$Worker;", true)
def tyX11 : Nat → FieldType := fun k => match k with
  | 0 => .object "ShareMonitor$Tape"
  | 1 => .object "ShareMonitor$Reader"
  | 2 => .object "ShareMonitor$Desk"
  | _ => .object "ShareMonitor$Worker"
theorem nmX11 : ∀ a, a < 4 → ∀ b, b < 4 → a ≠ b → (TX11 a).2.1 ≠ (TX11 b).2.1 := by decide +kernel
theorem tyX11_ok : ∀ k, k < 4 → parseFieldDescriptor (TX11 k).2.2.1 = some (tyX11 k) := by decide +kernel
abbrev cX11_init : ByteArray := prog_1_method_1_code
def yX11_init : MethodName := ⟨RX11, "<init>", "()V"⟩
abbrev cX11_feed : ByteArray := prog_1_method_2_code
def yX11_feed : MethodName := ⟨RX11, "feed", "(IIIII)I"⟩
abbrev cX11_end : ByteArray := prog_1_method_3_code
def yX11_end : MethodName := ⟨RX11, "end", "(I)V"⟩
abbrev cX11_load : ByteArray := prog_1_method_4_code
def yX11_load : MethodName := ⟨RX11, "load", "(I)I"⟩
abbrev cX11_fault : ByteArray := prog_1_method_5_code
def yX11_fault : MethodName := ⟨RX11, "fault", "()I"⟩
abbrev cX11_tick : ByteArray := prog_1_method_6_code
def yX11_tick : MethodName := ⟨RX11, "tick", "()I"⟩
abbrev cX11_run : ByteArray := prog_1_method_7_code
def yX11_run : MethodName := ⟨RX11, "run", "(I)I"⟩
abbrev cX11_quantum : ByteArray := prog_1_method_8_code
def yX11_quantum : MethodName := ⟨RX11, "quantum", "(I)I"⟩
abbrev cX11_kill : ByteArray := prog_1_method_9_code
def yX11_kill : MethodName := ⟨RX11, "kill", "(I)Z"⟩
abbrev cX11_reap : ByteArray := prog_1_method_10_code
def yX11_reap : MethodName := ⟨RX11, "reap", "(I)I"⟩
abbrev cX11_key : ByteArray := prog_1_method_11_code
def yX11_key : MethodName := ⟨RX11, "key", "(II)Z"⟩
abbrev cX11_post : ByteArray := prog_1_method_12_code
def yX11_post : MethodName := ⟨RX11, "post", "(II)Z"⟩
abbrev cX11_state : ByteArray := prog_1_method_13_code
def yX11_state : MethodName := ⟨RX11, "state", "(II)I"⟩
abbrev cX11_stack : ByteArray := prog_1_method_14_code
def yX11_stack : MethodName := ⟨RX11, "stack", "(II)I"⟩
abbrev cX11_message : ByteArray := prog_1_method_15_code
def yX11_message : MethodName := ⟨RX11, "message", "(IIZ)I"⟩
abbrev cX11_ready : ByteArray := prog_1_method_16_code
def yX11_ready : MethodName := ⟨RX11, "ready", "(II)I"⟩
abbrev cX11_cell : ByteArray := prog_1_method_17_code
def yX11_cell : MethodName := ⟨RX11, "cell", "(I)I"⟩
abbrev cX11_block : ByteArray := prog_1_method_18_code
def yX11_block : MethodName := ⟨RX11, "block", "(II)I"⟩
abbrev cX11_semaphore : ByteArray := prog_1_method_19_code
def yX11_semaphore : MethodName := ⟨RX11, "semaphore", "(II)I"⟩
abbrev cX11_out : ByteArray := prog_1_method_20_code
def yX11_out : MethodName := ⟨RX11, "out", "(I)I"⟩
abbrev cX11_count : ByteArray := prog_1_method_21_code
def yX11_count : MethodName := ⟨RX11, "count", "(I)I"⟩
def RX12 : String := "ShareMonitorModel"
def TX12 : u_T := fun k => match k with
  | 0 => ("ShareMonitorModel", "words", "[J", true)
  | 1 => ("ShareMonitorModel", "needs", "[I", true)
  | 2 => ("ShareMonitorModel", "code", "I", false)
  | 3 => ("ShareMonitorModel", "tape", "[B", true)
  | 4 => ("ShareMonitorModel", "size", "I", false)
  | 5 => ("ShareMonitorModel", "fault", "I", false)
  | 6 => ("ShareMonitorModel", "place", "I", false)
  | 7 => ("ShareMonitorModel", "ops", "[I", true)
  | 8 => ("ShareMonitorModel", "numbers", "[I", true)
  | 9 => ("ShareMonitorModel", "lengths", "[I", true)
  | 10 => ("ShareMonitorModel", "isProgram", "[Z", true)
  | 11 => ("ShareMonitorModel", "labelAt", "[I", true)
  | 12 => ("ShareMonitorModel", "labelSize", "[I", true)
  | 13 => ("ShareMonitorModel", "labelTo", "[I", true)
  | 14 => ("ShareMonitorModel", "labels", "I", false)
  | 15 => ("ShareMonitorModel", "nameAt", "[I", true)
  | 16 => ("ShareMonitorModel", "nameSize", "[I", true)
  | 17 => ("ShareMonitorModel", "wordAt", "I", false)
  | 18 => ("ShareMonitorModel", "wordEnd", "I", false)
  | 19 => ("ShareMonitorModel", "status", "[I", true)
  | 20 => ("ShareMonitorModel", "codes", "[I", true)
  | 21 => ("ShareMonitorModel", "level", "[I", true)
  | 22 => ("ShareMonitorModel", "parent", "[I", true)
  | 23 => ("ShareMonitorModel", "program", "[I", true)
  | 24 => ("ShareMonitorModel", "next", "[I", true)
  | 25 => ("ShareMonitorModel", "deep", "[I", true)
  | 26 => ("ShareMonitorModel", "stack", "[I", true)
  | 27 => ("ShareMonitorModel", "called", "[I", true)
  | 28 => ("ShareMonitorModel", "returns", "[I", true)
  | 29 => ("ShareMonitorModel", "boxed", "[I", true)
  | 30 => ("ShareMonitorModel", "boxNumber", "[I", true)
  | 31 => ("ShareMonitorModel", "boxWho", "[I", true)
  | 32 => ("ShareMonitorModel", "keyed", "[I", true)
  | 33 => ("ShareMonitorModel", "keys", "[I", true)
  | 34 => ("ShareMonitorModel", "did", "[I", true)
  | 35 => ("ShareMonitorModel", "waits", "[I", true)
  | 36 => ("ShareMonitorModel", "inRow", "[I", true)
  | 37 => ("ShareMonitorModel", "rows", "[I", true)
  | 38 => ("ShareMonitorModel", "rowCount", "[I", true)
  | 39 => ("ShareMonitorModel", "clock", "I", false)
  | 40 => ("ShareMonitorModel", "quantum", "I", false)
  | 41 => ("ShareMonitorModel", "values", "[I", true)
  | 42 => ("ShareMonitorModel", "waiting", "[I", true)
  | 43 => ("ShareMonitorModel", "waitCount", "[I", true)
  | 44 => ("ShareMonitorModel", "cells", "[I", true)
  | 45 => ("ShareMonitorModel", "blockAt", "[I", true)
  | 46 => ("ShareMonitorModel", "blockSize", "[I", true)
  | 47 => ("ShareMonitorModel", "blockOf", "[I", true)
  | 48 => ("ShareMonitorModel", "blocks", "I", false)
  | 49 => ("ShareMonitorModel", "console", "[I", true)
  | 50 => ("ShareMonitorModel", "told", "I", false)
  | 51 => ("ShareMonitorModel", "lost", "I", false)
  | _ => ("ShareMonitorModel", "moved", "Z", false)
def tyX12 : Nat → FieldType := fun k => match k with
  | 0 => .array .long
  | 1 => .array .int
  | 2 => .int
  | 3 => .array .byte
  | 4 => .int
  | 5 => .int
  | 6 => .int
  | 7 => .array .int
  | 8 => .array .int
  | 9 => .array .int
  | 10 => .array .boolean
  | 11 => .array .int
  | 12 => .array .int
  | 13 => .array .int
  | 14 => .int
  | 15 => .array .int
  | 16 => .array .int
  | 17 => .int
  | 18 => .int
  | 19 => .array .int
  | 20 => .array .int
  | 21 => .array .int
  | 22 => .array .int
  | 23 => .array .int
  | 24 => .array .int
  | 25 => .array .int
  | 26 => .array .int
  | 27 => .array .int
  | 28 => .array .int
  | 29 => .array .int
  | 30 => .array .int
  | 31 => .array .int
  | 32 => .array .int
  | 33 => .array .int
  | 34 => .array .int
  | 35 => .array .int
  | 36 => .array .int
  | 37 => .array .int
  | 38 => .array .int
  | 39 => .int
  | 40 => .int
  | 41 => .array .int
  | 42 => .array .int
  | 43 => .array .int
  | 44 => .array .int
  | 45 => .array .int
  | 46 => .array .int
  | 47 => .array .int
  | 48 => .int
  | 49 => .array .int
  | 50 => .int
  | 51 => .int
  | _ => .boolean
theorem nmX12 : ∀ a, a < 53 → ∀ b, b < 53 → a ≠ b → (TX12 a).2.1 ≠ (TX12 b).2.1 := by decide +kernel
theorem tyX12_ok : ∀ k, k < 53 → parseFieldDescriptor (TX12 k).2.2.1 = some (tyX12 k) := by decide +kernel
abbrev cX12_thrown : ByteArray := prog_14_method_1_code
def yX12_thrown : MethodName := ⟨RX12, "thrown", "()I"⟩
abbrev cX12_init : ByteArray := prog_14_method_2_code
def yX12_init : MethodName := ⟨RX12, "<init>", "()V"⟩
abbrev cX12_byteOf : ByteArray := prog_14_method_3_code
def yX12_byteOf : MethodName := ⟨RX12, "byteOf", "(I)I"⟩
abbrev cX12_isBlank : ByteArray := prog_14_method_4_code
def yX12_isBlank : MethodName := ⟨RX12, "isBlank", "(I)Z"⟩
abbrev cX12_isDigit : ByteArray := prog_14_method_5_code
def yX12_isDigit : MethodName := ⟨RX12, "isDigit", "(I)Z"⟩
abbrev cX12_isLetter : ByteArray := prog_14_method_6_code
def yX12_isLetter : MethodName := ⟨RX12, "isLetter", "(I)Z"⟩
abbrev cX12_takeWord : ByteArray := prog_14_method_7_code
def yX12_takeWord : MethodName := ⟨RX12, "takeWord", "()V"⟩
abbrev cX12_operation : ByteArray := prog_14_method_8_code
def yX12_operation : MethodName := ⟨RX12, "operation", "(II)I"⟩
abbrev cX12_isName : ByteArray := prog_14_method_9_code
def yX12_isName : MethodName := ⟨RX12, "isName", "(II)Z"⟩
abbrev cX12_isNumber : ByteArray := prog_14_method_10_code
def yX12_isNumber : MethodName := ⟨RX12, "isNumber", "()Z"⟩
abbrev cX12_valueOfWord : ByteArray := prog_14_method_11_code
def yX12_valueOfWord : MethodName := ⟨RX12, "valueOfWord", "()J"⟩
abbrev cX12_labelOf : ByteArray := prog_14_method_12_code
def yX12_labelOf : MethodName := ⟨RX12, "labelOf", "(II)I"⟩
abbrev cX12_flaw : ByteArray := prog_14_method_13_code
def yX12_flaw : MethodName := ⟨RX12, "flaw", "(II)V"⟩
abbrev cX12_readLabel : ByteArray := prog_14_method_14_code
def yX12_readLabel : MethodName := ⟨RX12, "readLabel", "(I)V"⟩
abbrev cX12_put : ByteArray := prog_14_method_15_code
def yX12_put : MethodName := ⟨RX12, "put", "(III)V"⟩
abbrev cX12_readWord : ByteArray := prog_14_method_16_code
def yX12_readWord : MethodName := ⟨RX12, "readWord", "(I)V"⟩
abbrev cX12_readAll : ByteArray := prog_14_method_17_code
def yX12_readAll : MethodName := ⟨RX12, "readAll", "(I)V"⟩
abbrev cX12_leaveRow : ByteArray := prog_14_method_18_code
def yX12_leaveRow : MethodName := ⟨RX12, "leaveRow", "(I)V"⟩
abbrev cX12_joinRow : ByteArray := prog_14_method_19_code
def yX12_joinRow : MethodName := ⟨RX12, "joinRow", "(I)V"⟩
abbrev cX12_toEnd : ByteArray := prog_14_method_20_code
def yX12_toEnd : MethodName := ⟨RX12, "toEnd", "(I)V"⟩
abbrev cX12_wake : ByteArray := prog_14_method_21_code
def yX12_wake : MethodName := ⟨RX12, "wake", "(I)V"⟩
abbrev cX12_waitFor : ByteArray := prog_14_method_22_code
def yX12_waitFor : MethodName := ⟨RX12, "waitFor", "(III)V"⟩
abbrev cX12_isProcess : ByteArray := prog_14_method_23_code
def yX12_isProcess : MethodName := ⟨RX12, "isProcess", "(I)Z"⟩
abbrev cX12_isAlive : ByteArray := prog_14_method_24_code
def yX12_isAlive : MethodName := ⟨RX12, "isAlive", "(I)Z"⟩
abbrev cX12_leaveSemaphore : ByteArray := prog_14_method_25_code
def yX12_leaveSemaphore : MethodName := ⟨RX12, "leaveSemaphore", "(I)V"⟩
abbrev cX12_sweep : ByteArray := prog_14_method_26_code
def yX12_sweep : MethodName := ⟨RX12, "sweep", "()V"⟩
abbrev cX12_release : ByteArray := prog_14_method_27_code
def yX12_release : MethodName := ⟨RX12, "release", "(I)V"⟩
abbrev cX12_finish : ByteArray := prog_14_method_28_code
def yX12_finish : MethodName := ⟨RX12, "finish", "(II)V"⟩
abbrev cX12_start : ByteArray := prog_14_method_29_code
def yX12_start : MethodName := ⟨RX12, "start", "(IIII)I"⟩
abbrev cX12_joinBlocks : ByteArray := prog_14_method_30_code
def yX12_joinBlocks : MethodName := ⟨RX12, "joinBlocks", "()V"⟩
abbrev cX12_allocate : ByteArray := prog_14_method_31_code
def yX12_allocate : MethodName := ⟨RX12, "allocate", "(II)I"⟩
abbrev cX12_blockFrom : ByteArray := prog_14_method_32_code
def yX12_blockFrom : MethodName := ⟨RX12, "blockFrom", "(II)I"⟩
abbrev cX12_holds : ByteArray := prog_14_method_33_code
def yX12_holds : MethodName := ⟨RX12, "holds", "(II)Z"⟩
abbrev cX12_top : ByteArray := prog_14_method_34_code
def yX12_top : MethodName := ⟨RX12, "top", "(II)I"⟩
abbrev cX12_setTop : ByteArray := prog_14_method_35_code
def yX12_setTop : MethodName := ⟨RX12, "setTop", "(III)V"⟩
abbrev cX12_push : ByteArray := prog_14_method_36_code
def yX12_push : MethodName := ⟨RX12, "push", "(II)V"⟩
abbrev cX12_done : ByteArray := prog_14_method_37_code
def yX12_done : MethodName := ⟨RX12, "done", "(I)V"⟩
abbrev cX12_fits : ByteArray := prog_14_method_38_code
def yX12_fits : MethodName := ⟨RX12, "fits", "(II)Z"⟩
abbrev cX12_result : ByteArray := prog_14_method_39_code
def yX12_result : MethodName := ⟨RX12, "result", "(III)V"⟩
abbrev cX12_reckoned : ByteArray := prog_14_method_40_code
def yX12_reckoned : MethodName := ⟨RX12, "reckoned", "(III)I"⟩
abbrev cX12_plain : ByteArray := prog_14_method_41_code
def yX12_plain : MethodName := ⟨RX12, "plain", "(II)V"⟩
abbrev cX12_memory : ByteArray := prog_14_method_42_code
def yX12_memory : MethodName := ⟨RX12, "memory", "(II)V"⟩
abbrev cX12_deliver : ByteArray := prog_14_method_43_code
def yX12_deliver : MethodName := ⟨RX12, "deliver", "(III)I"⟩
abbrev cX12_isChild : ByteArray := prog_14_method_44_code
def yX12_isChild : MethodName := ⟨RX12, "isChild", "(II)Z"⟩
abbrev cX12_receive : ByteArray := prog_14_method_45_code
def yX12_receive : MethodName := ⟨RX12, "receive", "(I)V"⟩
abbrev cX12_await : ByteArray := prog_14_method_46_code
def yX12_await : MethodName := ⟨RX12, "await", "(I)V"⟩
abbrev cX12_spawn : ByteArray := prog_14_method_47_code
def yX12_spawn : MethodName := ⟨RX12, "spawn", "(II)V"⟩
abbrev cX12_others : ByteArray := prog_14_method_48_code
def yX12_others : MethodName := ⟨RX12, "others", "(III)V"⟩
abbrev cX12_shares : ByteArray := prog_14_method_49_code
def yX12_shares : MethodName := ⟨RX12, "shares", "(III)V"⟩
abbrev cX12_semaphore : ByteArray := prog_14_method_50_code
def yX12_semaphore : MethodName := ⟨RX12, "semaphore", "(III)V"⟩
abbrev cX12_act : ByteArray := prog_14_method_51_code
def yX12_act : MethodName := ⟨RX12, "act", "(I)V"⟩
abbrev cX12_wakeSleepers : ByteArray := prog_14_method_52_code
def yX12_wakeSleepers : MethodName := ⟨RX12, "wakeSleepers", "()V"⟩
abbrev cX12_turn : ByteArray := prog_14_method_53_code
def yX12_turn : MethodName := ⟨RX12, "turn", "()I"⟩
abbrev cX12_feed : ByteArray := prog_14_method_54_code
def yX12_feed : MethodName := ⟨RX12, "feed", "(IIIII)I"⟩
abbrev cX12_end : ByteArray := prog_14_method_55_code
def yX12_end : MethodName := ⟨RX12, "end", "(I)V"⟩
abbrev cX12_free : ByteArray := prog_14_method_56_code
def yX12_free : MethodName := ⟨RX12, "free", "()I"⟩
abbrev cX12_load : ByteArray := prog_14_method_57_code
def yX12_load : MethodName := ⟨RX12, "load", "(I)I"⟩
abbrev cX12_fault : ByteArray := prog_14_method_58_code
def yX12_fault : MethodName := ⟨RX12, "fault", "()I"⟩
abbrev cX12_tick : ByteArray := prog_14_method_59_code
def yX12_tick : MethodName := ⟨RX12, "tick", "()I"⟩
abbrev cX12_run : ByteArray := prog_14_method_60_code
def yX12_run : MethodName := ⟨RX12, "run", "(I)I"⟩
abbrev cX12_quantum : ByteArray := prog_14_method_61_code
def yX12_quantum : MethodName := ⟨RX12, "quantum", "(I)I"⟩
abbrev cX12_kill : ByteArray := prog_14_method_62_code
def yX12_kill : MethodName := ⟨RX12, "kill", "(I)Z"⟩
abbrev cX12_reap : ByteArray := prog_14_method_63_code
def yX12_reap : MethodName := ⟨RX12, "reap", "(I)I"⟩
abbrev cX12_key : ByteArray := prog_14_method_64_code
def yX12_key : MethodName := ⟨RX12, "key", "(II)Z"⟩
abbrev cX12_post : ByteArray := prog_14_method_65_code
def yX12_post : MethodName := ⟨RX12, "post", "(II)Z"⟩
abbrev cX12_held : ByteArray := prog_14_method_66_code
def yX12_held : MethodName := ⟨RX12, "held", "(I)I"⟩
abbrev cX12_state : ByteArray := prog_14_method_67_code
def yX12_state : MethodName := ⟨RX12, "state", "(II)I"⟩
abbrev cX12_stack : ByteArray := prog_14_method_68_code
def yX12_stack : MethodName := ⟨RX12, "stack", "(II)I"⟩
abbrev cX12_message : ByteArray := prog_14_method_69_code
def yX12_message : MethodName := ⟨RX12, "message", "(IIZ)I"⟩
abbrev cX12_ready : ByteArray := prog_14_method_70_code
def yX12_ready : MethodName := ⟨RX12, "ready", "(II)I"⟩
abbrev cX12_cell : ByteArray := prog_14_method_71_code
def yX12_cell : MethodName := ⟨RX12, "cell", "(I)I"⟩
abbrev cX12_block : ByteArray := prog_14_method_72_code
def yX12_block : MethodName := ⟨RX12, "block", "(II)I"⟩
abbrev cX12_semaphore_ : ByteArray := prog_14_method_73_code
def yX12_semaphore_ : MethodName := ⟨RX12, "semaphore", "(II)I"⟩
abbrev cX12_out : ByteArray := prog_14_method_74_code
def yX12_out : MethodName := ⟨RX12, "out", "(I)I"⟩
abbrev cX12_processes : ByteArray := prog_14_method_75_code
def yX12_processes : MethodName := ⟨RX12, "processes", "(II)I"⟩
abbrev cX12_count : ByteArray := prog_14_method_76_code
def yX12_count : MethodName := ⟨RX12, "count", "(I)I"⟩
def RJ5 : String := "java/lang/AbstractStringBuilder"
def TJ5 : u_T := fun k => match k with
  | _ => ("", "", "", false)
def tyJ5 : Nat → FieldType := fun k => match k with
  | _ => .int
theorem nmJ5 : ∀ a, a < 0 → ∀ b, b < 0 → a ≠ b → (TJ5 a).2.1 ≠ (TJ5 b).2.1 := by decide +kernel
theorem tyJ5_ok : ∀ k, k < 0 → parseFieldDescriptor (TJ5 k).2.2.1 = some (tyJ5 k) := by decide +kernel
abbrev cJ5_init_d00df : ByteArray := prog_15_method_2_code
def yJ5_init_d00df : MethodName := ⟨RJ5, "<init>", "(I)V"⟩
abbrev cJ5_length_8abf5 : ByteArray := prog_15_method_6_code
def yJ5_length_8abf5 : MethodName := ⟨RJ5, "length", "()I"⟩
abbrev cJ5_ensureCapacityInternal_d00df : ByteArray := prog_15_method_9_code
def yJ5_ensureCapacityInternal_d00df : MethodName := ⟨RJ5, "ensureCapacityInternal", "(I)V"⟩
abbrev cJ5_newCapacity_0f7a4 : ByteArray := prog_15_method_10_code
def yJ5_newCapacity_0f7a4 : MethodName := ⟨RJ5, "newCapacity", "(I)I"⟩
abbrev cJ5_inflate_da8c8 : ByteArray := prog_15_method_11_code
def yJ5_inflate_da8c8 : MethodName := ⟨RJ5, "inflate", "()V"⟩
abbrev cJ5_append_cf1ce : ByteArray := prog_15_method_22_code
def yJ5_append_cf1ce : MethodName := ⟨RJ5, "append", "(Ljava/lang/String;)Ljava/lang/AbstractStringBuilder;"⟩
abbrev cJ5_appendNull_278bc : ByteArray := prog_15_method_26_code
def yJ5_appendNull_278bc : MethodName := ⟨RJ5, "appendNull", "()Ljava/lang/AbstractStringBuilder;"⟩
abbrev cJ5_append_c97b9 : ByteArray := prog_15_method_32_code
def yJ5_append_c97b9 : MethodName := ⟨RJ5, "append", "(I)Ljava/lang/AbstractStringBuilder;"⟩
abbrev cJ5_getValue_6d5f1 : ByteArray := prog_15_method_64_code
def yJ5_getValue_6d5f1 : MethodName := ⟨RJ5, "getValue", "()[B"⟩
abbrev cJ5_isLatin1_aae02 : ByteArray := prog_15_method_68_code
def yJ5_isLatin1_aae02 : MethodName := ⟨RJ5, "isLatin1", "()Z"⟩
abbrev cJ5_inflateIfNeededFor_a7421 : ByteArray := prog_15_method_71_code
def yJ5_inflateIfNeededFor_a7421 : MethodName := ⟨RJ5, "inflateIfNeededFor", "(Ljava/lang/String;)V"⟩
abbrev cJ5_putStringAt_47b60 : ByteArray := prog_15_method_73_code
def yJ5_putStringAt_47b60 : MethodName := ⟨RJ5, "putStringAt", "(ILjava/lang/String;)V"⟩
def RJ6 : String := "java/lang/Integer"
def TJ6 : u_T := fun k => match k with
  | _ => ("", "", "", false)
def tyJ6 : Nat → FieldType := fun k => match k with
  | _ => .int
theorem nmJ6 : ∀ a, a < 0 → ∀ b, b < 0 → a ≠ b → (TJ6 a).2.1 ≠ (TJ6 b).2.1 := by decide +kernel
theorem tyJ6_ok : ∀ k, k < 0 → parseFieldDescriptor (TJ6 k).2.2.1 = some (tyJ6 k) := by decide +kernel
abbrev cJ6_getChars_ba4f3 : ByteArray := prog_23_method_12_code
def yJ6_getChars_ba4f3 : MethodName := ⟨RJ6, "getChars", "(II[B)I"⟩
abbrev cJ6_stringSize_0f7a4 : ByteArray := prog_23_method_13_code
def yJ6_stringSize_0f7a4 : MethodName := ⟨RJ6, "stringSize", "(I)I"⟩
def RJ9 : String := "java/lang/Math"
def TJ9 : u_T := fun k => match k with
  | _ => ("", "", "", false)
def tyJ9 : Nat → FieldType := fun k => match k with
  | _ => .int
theorem nmJ9 : ∀ a, a < 0 → ∀ b, b < 0 → a ≠ b → (TJ9 a).2.1 ≠ (TJ9 b).2.1 := by decide +kernel
theorem tyJ9_ok : ∀ k, k < 0 → parseFieldDescriptor (TJ9 k).2.2.1 = some (tyJ9 k) := by decide +kernel
abbrev cJ9_max_7cf53 : ByteArray := prog_24_method_65_code
def yJ9_max_7cf53 : MethodName := ⟨RJ9, "max", "(II)I"⟩
abbrev cJ9_min_7cf53 : ByteArray := prog_24_method_69_code
def yJ9_min_7cf53 : MethodName := ⟨RJ9, "min", "(II)I"⟩
abbrev cJ9_min_f86c9 : ByteArray := prog_24_method_70_code
def yJ9_min_f86c9 : MethodName := ⟨RJ9, "min", "(JJ)J"⟩
def RJ0 : String := "java/lang/String"
def TJ0 : u_T := fun k => match k with
  | 0 => ("java/lang/String", "value", "[B", true)
  | 1 => ("java/lang/String", "coder", "B", true)
  | 2 => ("java/lang/String", "hash", "I", false)
  | _ => ("java/lang/String", "hashIsZero", "Z", false)
def tyJ0 : Nat → FieldType := fun k => match k with
  | 0 => .array .byte
  | 1 => .byte
  | 2 => .int
  | _ => .boolean
theorem nmJ0 : ∀ a, a < 4 → ∀ b, b < 4 → a ≠ b → (TJ0 a).2.1 ≠ (TJ0 b).2.1 := by decide +kernel
theorem tyJ0_ok : ∀ k, k < 4 → parseFieldDescriptor (TJ0 k).2.2.1 = some (tyJ0 k) := by decide +kernel
abbrev cJ0_init_81219 : ByteArray := prog_26_method_53_code
def yJ0_init_81219 : MethodName := ⟨RJ0, "<init>", "(Ljava/lang/StringBuilder;)V"⟩
abbrev cJ0_length_8abf5 : ByteArray := prog_26_method_54_code
def yJ0_length_8abf5 : MethodName := ⟨RJ0, "length", "()I"⟩
abbrev cJ0_charAt_5068e : ByteArray := prog_26_method_56_code
def yJ0_charAt_5068e : MethodName := ⟨RJ0, "charAt", "(I)C"⟩
abbrev cJ0_getBytes_840e7 : ByteArray := prog_26_method_147_code
def yJ0_getBytes_840e7 : MethodName := ⟨RJ0, "getBytes", "([BIB)V"⟩
abbrev cJ0_init_db425 : ByteArray := prog_26_method_150_code
def yJ0_init_db425 : MethodName := ⟨RJ0, "<init>", "(Ljava/lang/AbstractStringBuilder;Ljava/lang/Void;)V"⟩
abbrev cJ0_coder_7d493 : ByteArray := prog_26_method_152_code
def yJ0_coder_7d493 : MethodName := ⟨RJ0, "coder", "()B"⟩
abbrev cJ0_isLatin1_aae02 : ByteArray := prog_26_method_154_code
def yJ0_isLatin1_aae02 : MethodName := ⟨RJ0, "isLatin1", "()Z"⟩
abbrev cJ0_checkIndex_df160 : ByteArray := prog_26_method_155_code
def yJ0_checkIndex_df160 : MethodName := ⟨RJ0, "checkIndex", "(II)V"⟩
abbrev cJ0_checkBoundsOffCount_cabcc : ByteArray := prog_26_method_157_code
def yJ0_checkBoundsOffCount_cabcc : MethodName := ⟨RJ0, "checkBoundsOffCount", "(III)I"⟩
abbrev cJ0_checkBoundsBeginEnd_23922 : ByteArray := prog_26_method_158_code
def yJ0_checkBoundsBeginEnd_23922 : MethodName := ⟨RJ0, "checkBoundsBeginEnd", "(III)V"⟩
def RJ4 : String := "java/lang/StringBuilder"
def TJ4 : u_T := fun k => match k with
  | 0 => ("java/lang/AbstractStringBuilder", "value", "[B", false)
  | 1 => ("java/lang/AbstractStringBuilder", "coder", "B", false)
  | 2 => ("java/lang/AbstractStringBuilder", "maybeLatin1", "Z", false)
  | _ => ("java/lang/AbstractStringBuilder", "count", "I", false)
def tyJ4 : Nat → FieldType := fun k => match k with
  | 0 => .array .byte
  | 1 => .byte
  | 2 => .boolean
  | _ => .int
theorem nmJ4 : ∀ a, a < 4 → ∀ b, b < 4 → a ≠ b → (TJ4 a).2.1 ≠ (TJ4 b).2.1 := by decide +kernel
theorem tyJ4_ok : ∀ k, k < 4 → parseFieldDescriptor (TJ4 k).2.2.1 = some (tyJ4 k) := by decide +kernel
abbrev cJ4_init_da8c8 : ByteArray := prog_27_method_1_code
def yJ4_init_da8c8 : MethodName := ⟨RJ4, "<init>", "()V"⟩
abbrev cJ4_append_15ec4 : ByteArray := prog_27_method_7_code
def yJ4_append_15ec4 : MethodName := ⟨RJ4, "append", "(Ljava/lang/String;)Ljava/lang/StringBuilder;"⟩
abbrev cJ4_append_bf812 : ByteArray := prog_27_method_15_code
def yJ4_append_bf812 : MethodName := ⟨RJ4, "append", "(I)Ljava/lang/StringBuilder;"⟩
abbrev cJ4_toString_0e30d : ByteArray := prog_27_method_42_code
def yJ4_toString_0e30d : MethodName := ⟨RJ4, "toString", "()Ljava/lang/String;"⟩
abbrev cJ4_length_8abf5 : ByteArray := prog_27_method_93_code
def yJ4_length_8abf5 : MethodName := ⟨RJ4, "length", "()I"⟩
def RJ1 : String := "java/lang/StringLatin1"
def TJ1 : u_T := fun k => match k with
  | _ => ("", "", "", false)
def tyJ1 : Nat → FieldType := fun k => match k with
  | _ => .int
theorem nmJ1 : ∀ a, a < 0 → ∀ b, b < 0 → a ≠ b → (TJ1 a).2.1 ≠ (TJ1 b).2.1 := by decide +kernel
theorem tyJ1_ok : ∀ k, k < 0 → parseFieldDescriptor (TJ1 k).2.2.1 = some (tyJ1 k) := by decide +kernel
abbrev cJ1_charAt_3b067 : ByteArray := prog_28_method_2_code
def yJ1_charAt_3b067 : MethodName := ⟨RJ1, "charAt", "([BI)C"⟩
abbrev cJ1_inflate_0e8fd : ByteArray := prog_28_method_50_code
def yJ1_inflate_0e8fd : MethodName := ⟨RJ1, "inflate", "([BI[BII)V"⟩
def RJ2 : String := "java/lang/StringUTF16"
def TJ2 : u_T := fun k => match k with
  | _ => ("", "", "", false)
def tyJ2 : Nat → FieldType := fun k => match k with
  | _ => .int
theorem nmJ2 : ∀ a, a < 0 → ∀ b, b < 0 → a ≠ b → (TJ2 a).2.1 ≠ (TJ2 b).2.1 := by decide +kernel
theorem tyJ2_ok : ∀ k, k < 0 → parseFieldDescriptor (TJ2 k).2.2.1 = some (tyJ2 k) := by decide +kernel
abbrev cJ2_newBytesFor_77867 : ByteArray := prog_29_method_2_code
def yJ2_newBytesFor_77867 : MethodName := ⟨RJ2, "newBytesFor", "(I)[B"⟩
abbrev cJ2_newBytesLength_0f7a4 : ByteArray := prog_29_method_3_code
def yJ2_newBytesLength_0f7a4 : MethodName := ⟨RJ2, "newBytesLength", "(I)I"⟩
abbrev cJ2_putChar_b72d1 : ByteArray := prog_29_method_4_code
def yJ2_putChar_b72d1 : MethodName := ⟨RJ2, "putChar", "([BII)V"⟩
abbrev cJ2_getChar_3b067 : ByteArray := prog_29_method_5_code
def yJ2_getChar_3b067 : MethodName := ⟨RJ2, "getChar", "([BI)C"⟩
abbrev cJ2_length_9d52b : ByteArray := prog_29_method_6_code
def yJ2_length_9d52b : MethodName := ⟨RJ2, "length", "([B)I"⟩
abbrev cJ2_coderFromArrayLen_85cad : ByteArray := prog_29_method_15_code
def yJ2_coderFromArrayLen_85cad : MethodName := ⟨RJ2, "coderFromArrayLen", "([BI)B"⟩
abbrev cJ2_compress_39247 : ByteArray := prog_29_method_17_code
def yJ2_compress_39247 : MethodName := ⟨RJ2, "compress", "([BII)[B"⟩
abbrev cJ2_compress_5af95 : ByteArray := prog_29_method_22_code
def yJ2_compress_5af95 : MethodName := ⟨RJ2, "compress", "([BI[BII)I"⟩
abbrev cJ2_getChars_46870 : ByteArray := prog_29_method_77_code
def yJ2_getChars_46870 : MethodName := ⟨RJ2, "getChars", "(III[B)I"⟩
abbrev cJ2_putCharsAt_cd4e5 : ByteArray := prog_29_method_81_code
def yJ2_putCharsAt_cd4e5 : MethodName := ⟨RJ2, "putCharsAt", "([BICCCC)I"⟩
abbrev cJ2_charAt_3b067 : ByteArray := prog_29_method_83_code
def yJ2_charAt_3b067 : MethodName := ⟨RJ2, "charAt", "([BI)C"⟩
abbrev cJ2_inflate_0e8fd : ByteArray := prog_29_method_86_code
def yJ2_inflate_0e8fd : MethodName := ⟨RJ2, "inflate", "([BI[BII)V"⟩
abbrev cJ2_getChars_ba4f3 : ByteArray := prog_29_method_89_code
def yJ2_getChars_ba4f3 : MethodName := ⟨RJ2, "getChars", "(II[B)I"⟩
abbrev cJ2_checkIndex_2214a : ByteArray := prog_29_method_91_code
def yJ2_checkIndex_2214a : MethodName := ⟨RJ2, "checkIndex", "(I[B)V"⟩
abbrev cJ2_checkBoundsBeginEnd_d044e : ByteArray := prog_29_method_93_code
def yJ2_checkBoundsBeginEnd_d044e : MethodName := ⟨RJ2, "checkBoundsBeginEnd", "(II[B)V"⟩
abbrev cJ2_checkBoundsOffCount_d044e : ByteArray := prog_29_method_94_code
def yJ2_checkBoundsOffCount_d044e : MethodName := ⟨RJ2, "checkBoundsOffCount", "(II[B)V"⟩
def RJ10 : String := "java/lang/System"
def TJ10 : u_T := fun k => match k with
  | _ => ("", "", "", false)
def tyJ10 : Nat → FieldType := fun k => match k with
  | _ => .int
theorem nmJ10 : ∀ a, a < 0 → ∀ b, b < 0 → a ≠ b → (TJ10 a).2.1 ≠ (TJ10 b).2.1 := by decide +kernel
theorem tyJ10_ok : ∀ k, k < 0 → parseFieldDescriptor (TJ10 k).2.2.1 = some (tyJ10 k) := by decide +kernel
def RJ7 : String := "java/util/Arrays"
def TJ7 : u_T := fun k => match k with
  | _ => ("", "", "", false)
def tyJ7 : Nat → FieldType := fun k => match k with
  | _ => .int
theorem nmJ7 : ∀ a, a < 0 → ∀ b, b < 0 → a ≠ b → (TJ7 a).2.1 ≠ (TJ7 b).2.1 := by decide +kernel
theorem tyJ7_ok : ∀ k, k < 0 → parseFieldDescriptor (TJ7 k).2.2.1 = some (tyJ7 k) := by decide +kernel
abbrev cJ7_rangeCheck_23922 : ByteArray := prog_33_method_30_code
def yJ7_rangeCheck_23922 : MethodName := ⟨RJ7, "rangeCheck", "(III)V"⟩
abbrev cJ7_fill_fda19 : ByteArray := prog_33_method_104_code
def yJ7_fill_fda19 : MethodName := ⟨RJ7, "fill", "([IIII)V"⟩
abbrev cJ7_copyOf_9075b : ByteArray := prog_33_method_121_code
def yJ7_copyOf_9075b : MethodName := ⟨RJ7, "copyOf", "([BI)[B"⟩
abbrev cJ7_checkLength_df160 : ByteArray := prog_33_method_131_code
def yJ7_checkLength_df160 : MethodName := ⟨RJ7, "checkLength", "(II)V"⟩
abbrev cJ7_copyOfRange_39247 : ByteArray := prog_33_method_132_code
def yJ7_copyOfRange_39247 : MethodName := ⟨RJ7, "copyOfRange", "([BII)[B"⟩
abbrev cJ7_copyOfRangeByte_39247 : ByteArray := prog_33_method_133_code
def yJ7_copyOfRangeByte_39247 : MethodName := ⟨RJ7, "copyOfRangeByte", "([BII)[B"⟩
def RJ8 : String := "jdk/internal/util/ArraysSupport"
def TJ8 : u_T := fun k => match k with
  | _ => ("", "", "", false)
def tyJ8 : Nat → FieldType := fun k => match k with
  | _ => .int
theorem nmJ8 : ∀ a, a < 0 → ∀ b, b < 0 → a ≠ b → (TJ8 a).2.1 ≠ (TJ8 b).2.1 := by decide +kernel
theorem tyJ8_ok : ∀ k, k < 0 → parseFieldDescriptor (TJ8 k).2.2.1 = some (tyJ8 k) := by decide +kernel
abbrev cJ8_newLength_cabcc : ByteArray := prog_34_method_27_code
def yJ8_newLength_cabcc : MethodName := ⟨RJ8, "newLength", "(III)I"⟩
abbrev cJ8_hugeLength_7cf53 : ByteArray := prog_34_method_28_code
def yJ8_hugeLength_7cf53 : MethodName := ⟨RJ8, "hugeLength", "(II)I"⟩
def RJ3 : String := "jdk/internal/util/Preconditions"
def TJ3 : u_T := fun k => match k with
  | _ => ("", "", "", false)
def tyJ3 : Nat → FieldType := fun k => match k with
  | _ => .int
theorem nmJ3 : ∀ a, a < 0 → ∀ b, b < 0 → a ≠ b → (TJ3 a).2.1 ≠ (TJ3 b).2.1 := by decide +kernel
theorem tyJ3_ok : ∀ k, k < 0 → parseFieldDescriptor (TJ3 k).2.2.1 = some (tyJ3 k) := by decide +kernel
abbrev cJ3_checkIndex_8e157 : ByteArray := prog_35_method_11_code
def yJ3_checkIndex_8e157 : MethodName := ⟨RJ3, "checkIndex", "(IILjava/util/function/BiFunction;)I"⟩
abbrev cJ3_checkFromToIndex_8c36e : ByteArray := prog_35_method_12_code
def yJ3_checkFromToIndex_8c36e : MethodName := ⟨RJ3, "checkFromToIndex", "(IIILjava/util/function/BiFunction;)I"⟩
abbrev cJ3_checkFromIndexSize_8c36e : ByteArray := prog_35_method_13_code
def yJ3_checkFromIndexSize_8c36e : MethodName := ⟨RJ3, "checkFromIndexSize", "(IIILjava/util/function/BiFunction;)I"⟩
def RL : String := "ShareMonitorLaw"
abbrev cL_feed : ByteArray := method_3_code
def yL_feed : MethodName := ⟨RL, "feed", "(LShareMonitor;IIIII[J)I"⟩
abbrev cL_end : ByteArray := method_4_code
def yL_end : MethodName := ⟨RL, "end", "(LShareMonitor;I)I"⟩
abbrev cL_load : ByteArray := method_5_code
def yL_load : MethodName := ⟨RL, "load", "(LShareMonitor;I[J)I"⟩
abbrev cL_run : ByteArray := method_6_code
def yL_run : MethodName := ⟨RL, "run", "(LShareMonitor;I[J)I"⟩
abbrev cL_quantum : ByteArray := method_7_code
def yL_quantum : MethodName := ⟨RL, "quantum", "(LShareMonitor;I[J)I"⟩
abbrev cL_kill : ByteArray := method_8_code
def yL_kill : MethodName := ⟨RL, "kill", "(LShareMonitor;I[J)I"⟩
abbrev cL_reap : ByteArray := method_9_code
def yL_reap : MethodName := ⟨RL, "reap", "(LShareMonitor;I[J)I"⟩
abbrev cL_key : ByteArray := method_10_code
def yL_key : MethodName := ⟨RL, "key", "(LShareMonitor;II[J)I"⟩
abbrev cL_post : ByteArray := method_11_code
def yL_post : MethodName := ⟨RL, "post", "(LShareMonitor;II[J)I"⟩
abbrev cL_state : ByteArray := method_12_code
def yL_state : MethodName := ⟨RL, "state", "(LShareMonitor;II[J)I"⟩
abbrev cL_stack : ByteArray := method_13_code
def yL_stack : MethodName := ⟨RL, "stack", "(LShareMonitor;II[J)I"⟩
abbrev cL_message : ByteArray := method_14_code
def yL_message : MethodName := ⟨RL, "message", "(LShareMonitor;IIZ[J)I"⟩
abbrev cL_ready : ByteArray := method_15_code
def yL_ready : MethodName := ⟨RL, "ready", "(LShareMonitor;II[J)I"⟩
abbrev cL_cell : ByteArray := method_16_code
def yL_cell : MethodName := ⟨RL, "cell", "(LShareMonitor;I[J)I"⟩
abbrev cL_block : ByteArray := method_17_code
def yL_block : MethodName := ⟨RL, "block", "(LShareMonitor;II[J)I"⟩
abbrev cL_semaphore : ByteArray := method_18_code
def yL_semaphore : MethodName := ⟨RL, "semaphore", "(LShareMonitor;II[J)I"⟩
abbrev cL_out : ByteArray := method_19_code
def yL_out : MethodName := ⟨RL, "out", "(LShareMonitor;I[J)I"⟩
abbrev cL_count : ByteArray := method_20_code
def yL_count : MethodName := ⟨RL, "count", "(LShareMonitor;I[J)I"⟩
abbrev cL_law : ByteArray := code
def yL_law : MethodName := ⟨RL, "law", "([I)Z"⟩
abbrev n_cls : List vw_C := [(RX1, TX1, 3), (RX2, TX2, 11), (RX3, TX3, 3), (RX5, TX5, 4), (RX6, TX6, 11), (RX7, TX7, 2), (RX8, TX8, 2), (RX9, TX9, 16), (RX10, TX10, 2), (RX11, TX11, 4), (RX12, TX12, 53)]
end
section
/-! worlds over a pure state: what the walks are told in -/
def n_tb : List Cond := lw_tbl.filter goodWord
theorem n_in {w : Cond} (h : w ∈ tables_1) (hg : goodWord w = true) : w ∈ n_tb := List.mem_filter.mpr ⟨List.mem_append_right _ h, hg⟩
theorem n_at {w : Cond} (i : Nat) (h : tables_1[i]? = some w) (hg : goodWord w = true) : w ∈ n_tb := n_in (List.mem_of_getElem? h) hg
theorem n_sel {q : MethodName × Nat} (h : q ∈ lw_privs) (hg : goodWord (.selects q.1.cls q.1 q.1) = true) : Cond.selects q.1.cls q.1 q.1 ∈ n_tb := List.mem_filter.mpr ⟨List.mem_append_left _ (List.mem_map.mpr ⟨q, h, rfl⟩), hg⟩
theorem n_good {w : Cond} (h : w ∈ n_tb) : w ∈ lw_tbl ∧ ((w.onTables && w.keeps) = true ∨ ∃ ty, w = .arrayClass ty) := ⟨(List.mem_filter.mp h).1, good_of_word (List.mem_filter.mp h).2⟩
abbrev n_Wd (St : Type) : Type := va_G × List vw_C × List (ClassId × FieldType) × (Nat → Nat → Prop) × (Nat → Nat → Nat) × (Nat → Nat → St → va_E) × (State → Heap → Prop)
section NA
variable {St : Type}
abbrev n_D (w : n_Wd St) : va_G := w.1
abbrev n_cl (w : n_Wd St) : List vw_C := w.2.1
abbrev n_ty (w : n_Wd St) : List (ClassId × FieldType) := w.2.2.1
abbrev n_cnt (w : n_Wd St) : Nat → Nat → Prop := w.2.2.2.1
abbrev n_ad (w : n_Wd St) : Nat → Nat → Nat := w.2.2.2.2.1
abbrev n_en (w : n_Wd St) : Nat → Nat → St → va_E := w.2.2.2.2.2.1
abbrev n_Ex (w : n_Wd St) : State → Heap → Prop := w.2.2.2.2.2.2
def n_A (w : n_Wd St) : Nat → Prop := fun q => ∃ κ i, n_cnt w κ i ∧ q = n_ad w κ i
def n_Rep (w : n_Wd St) (σ : St) (H : Heap) : Prop := ∀ κ i, n_cnt w κ i → va_at (n_D w) (n_cl w) (n_ad w κ i, n_en w κ i σ) H
def n_clok (w : n_Wd St) : Prop := ∀ (ci : Nat) (q : vw_C), (n_cl w)[ci]? = some q → (∀ x ∈ u_ws q.1 q.2.1 q.2.2, x ∈ n_tb) ∧ (∀ a, a < q.2.2 → ∀ b, b < q.2.2 → a ≠ b → (q.2.1 a).2.1 ≠ (q.2.1 b).2.1) ∧ ∃ ty : Nat → FieldType, ∀ k, k < q.2.2 → parseFieldDescriptor (q.2.1 k).2.2.1 = some (ty k)
def n_inj (w : n_Wd St) : Prop := ∀ κ i κ' i', n_cnt w κ i → n_cnt w κ' i' → n_ad w κ i = n_ad w κ' i' → κ = κ' ∧ i = i'
def n_exok (w : n_Wd St) : Prop := ∀ (u U : State) (H H1 : Heap), u.vm.Alike U.vm → (∀ q : Nat, q < H.size → ¬ n_A w q → H1[q]? = H[q]?) → n_Ex w u H → n_Ex w U H1
def n_ok (w : n_Wd St) : Prop := n_inj w ∧ n_clok w ∧ n_exok w
def n_rm (d : Nat) : Room := { frames := d, cells := 0, slots := 0, locals := 60 * d }
def n_ls (nL : Nat) (la : Array Slot) (ls : List (Option Value)) : Prop := ls.length = nL ∧ la.size = nL ∧ lv_wf la ∧ ∀ (i : Nat) (v : Value), ls[i]? = some (some v) → la[i]? = some (.val v)
def n_Q (w : n_Wd St) (Po : Option Value → St → Prop) : Array Value → State → Outcome → State → Prop := fun _ st oc t => (∃ (rv : Option Value) (σ' : St), oc = .returned rv ∧ Po rv σ' ∧ n_Rep w σ' t.heap) ∧ va_F (n_A w) st t
def n_W (p : Program) (l : Launch) (e : Env) (s : State) (m : MethodId) (args : Array Value) (below : List Frame) (meth : Method) (c : Code) (w : n_Wd St) (d : Nat) (Po : Option Value → St → Prop) (pc : Nat) (ls : List (Option Value)) (st : List Value) (σ : St) : Prop :=
  ∀ (H : Heap) (locs : List Loc) (la : Array Slot), n_ls c.maxLocals la ls → n_Rep w σ H → va_S (n_A w) s.heap H locs → W p l e (n_rm d) s m args below meth c H locs 0 0 (MQ below (n_Q w Po) args s 0 0 (n_A w)) (F0 m pc la st)
def n_C (p : Program) (s : State) (m : MethodId) (args : Array Value) (meth : Method) (c : Code) (w : n_Wd St) (cc : ByteArray) (nL : Nat) (own : String) (ret : Option FieldType) : Prop :=
  p.tables.exec = Jvm.exec ∧ c.code = cc ∧ c.maxLocals = nL ∧ s.vm.findClass own = some m.cls ∧ (∀ x ∈ n_tb, x.before args s = true) ∧ meth.sig.returnType = ret ∧ meth.locks = false ∧ va_K (n_D w) (n_cl w) (n_ty w) s ∧ n_Ex w s s.heap ∧ n_ok w
def n_U (w : n_Wd St) (σ : St) (U : State) : Prop := n_Rep w σ U.heap ∧ va_K (n_D w) (n_cl w) (n_ty w) U ∧ n_Ex w U U.heap ∧ n_ok w
def n_Ct (l : Launch) (w : n_Wd St) (d : Nat) (y : MethodName) (bytes : ByteArray) (maxL : Nat) (ret : Option FieldType) (av : List Value) (σ : St) (Po : Option Value → St → Prop) : Prop :=
  Met l y (.code y bytes maxL ret :: n_tb) (n_rm d) (va_Pc av (n_U w σ)) (n_Q w Po) 0 0 (n_A w)
theorem n_Rep.set {w : n_Wd St} {σ σ' : St} {H H1 : Heap} {κ i : Nat} (hj : n_inj w) (hi : n_cnt w κ i) (h : n_Rep w σ H) (he : va_at (n_D w) (n_cl w) (n_ad w κ i, n_en w κ i σ') H1) (oq : ∀ q : Nat, q ≠ n_ad w κ i → H1[q]? = H[q]?)
    (ho : ∀ κ' i', n_cnt w κ' i' → ¬ (κ' = κ ∧ i' = i) → n_en w κ' i' σ' = n_en w κ' i' σ) : n_Rep w σ' H1 := by
  intro κ' i' hi'
  by_cases hk : κ' = κ ∧ i' = i
  · obtain ⟨rfl, rfl⟩ := hk
    exact he
  · rw [ho κ' i' hi' hk]
    exact (h κ' i' hi').kept (oq _ (fun e => hk (hj κ' i' κ i hi' hi e)))
theorem n_A.in {w : n_Wd St} {κ i : Nat} (hi : n_cnt w κ i) : n_A w (n_ad w κ i) := ⟨κ, i, hi, rfl⟩
def n_lv (ls : List (Option Value)) : List (Nat × Value) := (List.range ls.length).filterMap (fun i => (ls[i]?.join).map (fun v => (i, v)))
theorem n_lv_mem {ls : List (Option Value)} {q : Nat × Value} (h : q ∈ n_lv ls) : ls[q.1]? = some (some q.2) := by
  obtain ⟨i, -, hi⟩ := List.mem_filterMap.mp h
  cases hj : ls[i]?.join with
  | none => rw [hj] at hi; cases hi
  | some v =>
    rw [hj] at hi
    cases hi
    cases hk : ls[i]? with
    | none => rw [hk] at hj; cases hj
    | some o => rw [hk] at hj; exact congrArg some hj
theorem n_lv_in {ls : List (Option Value)} {i : Nat} {v : Value} (h : ls[i]? = some (some v)) : (i, v) ∈ n_lv ls :=
  List.mem_filterMap.mpr ⟨i, List.mem_range.mpr (List.getElem?_eq_some_iff.mp h).1, by rw [h]; rfl⟩
theorem n_ls.has {nL : Nat} {la : Array Slot} {ls : List (Option Value)} (h : n_ls nL la ls) : lv_has la nL (n_lv ls) := ⟨h.2.1, h.2.2.1, fun q hq => h.2.2.2 q.1 q.2 (n_lv_mem hq)⟩
def n_clr (ls : List (Option Value)) (i : Nat) : List (Option Value) := match i with
  | 0 => ls
  | j + 1 => match ls[j]? with
    | some (some v) => if v.category = 2 then ls.set j none else ls
    | _ => ls
def n_st1 (ls : List (Option Value)) (i : Nat) (v : Value) : List (Option Value) := (n_clr ls i).set i (some v)
def n_st2 (ls : List (Option Value)) (i : Nat) (v : Value) : List (Option Value) := ((n_clr ls i).set i (some v)).set (i + 1) none
theorem n_clr_len (ls : List (Option Value)) (i : Nat) : (n_clr ls i).length = ls.length := by
  unfold n_clr
  split
  · rfl
  · split
    · split
      · simp
      · rfl
    · rfl
theorem n_clr_at {ls : List (Option Value)} {i j : Nat} {v : Value} (h : (n_clr ls i)[j]? = some (some v)) : ls[j]? = some (some v) ∧ ¬ (j + 1 = i ∧ v.category = 2) := by
  unfold n_clr at h
  split at h
  · exact ⟨h, fun q => by omega⟩
  · rename_i k
    split at h
    · rename_i u hu
      split at h
      · rename_i hc
        rw [List.getElem?_set] at h
        split at h
        · split at h <;> simp at h
        · rename_i hne
          exact ⟨h, fun q => hne (by omega)⟩
      · rename_i hc
        refine ⟨h, fun q => hc ?_⟩
        have : j = k := by omega
        subst this
        rw [hu] at h
        cases h
        exact q.2
    · rename_i hn
      refine ⟨h, fun q => hn v ?_⟩
      have : j = k := by omega
      subst this
      exact h
theorem n_has1 {nL : Nat} {la la' : Array Slot} {ls : List (Option Value)} {i : Nat} {v : Value} (h : n_ls nL la ls) (hh : lv_has la' nL ((i, v) :: (n_lv ls).filter (fun q => !(q.1 == i) && !(q.1 + 1 == i && q.2.category == 2)))) : n_ls nL la' (n_st1 ls i v) := by
  refine ⟨by unfold n_st1; rw [List.length_set, n_clr_len]; exact h.1, hh.1, hh.2.1, fun j u hj => ?_⟩
  unfold n_st1 at hj
  rw [List.getElem?_set] at hj
  split at hj
  · rename_i hij
    subst hij
    split at hj
    · cases hj
      exact hh.2.2 _ List.mem_cons_self
    · cases hj
  · rename_i hij
    obtain ⟨h1, h2⟩ := n_clr_at hj
    refine hh.2.2 (j, u) (List.mem_cons_of_mem _ (List.mem_filter.mpr ⟨n_lv_in h1, ?_⟩))
    simp only [Bool.and_eq_true, Bool.not_eq_true', beq_eq_false_iff_ne, ne_eq, Bool.and_eq_false_iff]
    refine ⟨fun q => hij q.symm, ?_⟩
    by_cases q : j + 1 = i
    · exact Or.inr (fun z => h2 ⟨q, z⟩)
    · exact Or.inl q
theorem n_has2 {nL : Nat} {la la' : Array Slot} {ls : List (Option Value)} {i : Nat} {v : Value} (h : n_ls nL la ls) (hh : lv_has la' nL ((i, v) :: (n_lv ls).filter (fun q => !(q.1 == i) && (!(q.1 == i + 1) && !(q.1 + 1 == i && q.2.category == 2))))) : n_ls nL la' (n_st2 ls i v) := by
  refine ⟨by unfold n_st2; rw [List.length_set, List.length_set, n_clr_len]; exact h.1, hh.1, hh.2.1, fun j u hj => ?_⟩
  unfold n_st2 at hj
  rw [List.getElem?_set] at hj
  split at hj
  · split at hj <;> simp at hj
  · rename_i hij1
    rw [List.getElem?_set] at hj
    split at hj
    · rename_i hij
      subst hij
      split at hj
      · cases hj
        exact hh.2.2 _ List.mem_cons_self
      · cases hj
    · rename_i hij
      obtain ⟨h1, h2⟩ := n_clr_at hj
      refine hh.2.2 (j, u) (List.mem_cons_of_mem _ (List.mem_filter.mpr ⟨n_lv_in h1, ?_⟩))
      simp only [Bool.and_eq_true, Bool.not_eq_true', beq_eq_false_iff_ne, ne_eq, Bool.and_eq_false_iff]
      refine ⟨fun q => hij q.symm, fun q => hij1 q.symm, ?_⟩
      by_cases q : j + 1 = i
      · exact Or.inr (fun z => h2 ⟨q, z⟩)
      · exact Or.inl q
def n_l0 (nL : Nat) (av : List Value) : List (Option Value) := (av.flatMap fun v => if v.category = 2 then [some v, none] else [some v]) ++ List.replicate (nL - (av.flatMap fun v => if v.category = 2 then [some v, none] else [some v] : List (Option Value)).length) none
end NA
end
section
section NO
variable {St : Type} {p : Program} {l : Launch} {e : Env} {s : State} {m : MethodId} {args : Array Value} {below : List Frame} {meth : Method} {c : Code} {w : n_Wd St} {d : Nat} {Po : Option Value → St → Prop} {cc : ByteArray} {nL : Nat} {own : String} {ret : Option FieldType}
variable {pc : Nat} {ls : List (Option Value)} {rest : List Value} {σ : St}

theorem n_iconst (hC : n_C p s m args meth c w cc nL own ret) {n : Int} {v : Int32} (hdg : decode cc pc = .ok (.iconst n, 1)) (hv : Int32.ofInt n = v) (k : n_W p l e s m args below meth c w d Po (pc + 1) ls (.int v :: rest) σ) : n_W p l e s m args below meth c w d Po pc ls (rest) σ := fun H locs la z1 z2 z3 => lv_iconst hC.1 hC.2.1 hdg hv (k H locs la z1 z2 z3)
theorem n_bipush (hC : n_C p s m args meth c w cc nL own ret) {n : Int} {v : Int32} (hdg : decode cc pc = .ok (.bipush n, 2)) (hv : (Int8.ofInt n).toInt32 = v) (k : n_W p l e s m args below meth c w d Po (pc + 2) ls (.int v :: rest) σ) : n_W p l e s m args below meth c w d Po pc ls (rest) σ := fun H locs la z1 z2 z3 => lv_bipush hC.1 hC.2.1 hdg hv (k H locs la z1 z2 z3)
theorem n_sipush (hC : n_C p s m args meth c w cc nL own ret) {n : Int} {v : Int32} (hdg : decode cc pc = .ok (.sipush n, 3)) (hv : (Int16.ofInt n).toInt32 = v) (k : n_W p l e s m args below meth c w d Po (pc + 3) ls (.int v :: rest) σ) : n_W p l e s m args below meth c w d Po pc ls (rest) σ := fun H locs la z1 z2 z3 => lv_sipush hC.1 hC.2.1 hdg hv (k H locs la z1 z2 z3)
theorem n_lconst (hC : n_C p s m args meth c w cc nL own ret) {n : Fin 2} {v : Int64} (hdg : decode cc pc = .ok (.lconst n, 1)) (hv : Int64.ofNat (n : Nat) = v) (k : n_W p l e s m args below meth c w d Po (pc + 1) ls (.long v :: rest) σ) : n_W p l e s m args below meth c w d Po pc ls (rest) σ := fun H locs la z1 z2 z3 => lv_lconst hC.1 hC.2.1 hdg hv (k H locs la z1 z2 z3)
theorem n_iload_n (hC : n_C p s m args meth c w cc nL own ret) {k : Fin 4} {i : Nat} {x : Int32} (hdg : decode cc pc = .ok (.iload_n k, 1)) (hi : (k : Nat) = i) (hl : ls[i]? = some (some (.int x))) (k : n_W p l e s m args below meth c w d Po (pc + 1) ls (.int x :: rest) σ) : n_W p l e s m args below meth c w d Po pc ls (rest) σ := fun H locs la z1 z2 z3 => lv_iload_n hC.1 hC.2.1 hdg hi (z1.2.2.2 _ _ hl) (k H locs la z1 z2 z3)
theorem n_iload (hC : n_C p s m args meth c w cc nL own ret) {i : Nat} {x : Int32} (hdg : decode cc pc = .ok (.iload i, 2)) (hl : ls[i]? = some (some (.int x))) (k : n_W p l e s m args below meth c w d Po (pc + 2) ls (.int x :: rest) σ) : n_W p l e s m args below meth c w d Po pc ls (rest) σ := fun H locs la z1 z2 z3 => lv_iload hC.1 hC.2.1 hdg (z1.2.2.2 _ _ hl) (k H locs la z1 z2 z3)
theorem n_lload_n (hC : n_C p s m args meth c w cc nL own ret) {k : Fin 4} {i : Nat} {x : Int64} (hdg : decode cc pc = .ok (.lload_n k, 1)) (hi : (k : Nat) = i) (hl : ls[i]? = some (some (.long x))) (k : n_W p l e s m args below meth c w d Po (pc + 1) ls (.long x :: rest) σ) : n_W p l e s m args below meth c w d Po pc ls (rest) σ := fun H locs la z1 z2 z3 => lv_lload_n hC.1 hC.2.1 hdg hi (z1.2.2.2 _ _ hl) (k H locs la z1 z2 z3)
theorem n_lload (hC : n_C p s m args meth c w cc nL own ret) {i : Nat} {x : Int64} (hdg : decode cc pc = .ok (.lload i, 2)) (hl : ls[i]? = some (some (.long x))) (k : n_W p l e s m args below meth c w d Po (pc + 2) ls (.long x :: rest) σ) : n_W p l e s m args below meth c w d Po pc ls (rest) σ := fun H locs la z1 z2 z3 => lv_lload hC.1 hC.2.1 hdg (z1.2.2.2 _ _ hl) (k H locs la z1 z2 z3)
theorem n_aload_n (hC : n_C p s m args meth c w cc nL own ret) {k : Fin 4} {i : Nat} {x : Nat} (hdg : decode cc pc = .ok (.aload_n k, 1)) (hi : (k : Nat) = i) (hl : ls[i]? = some (some (.ref x))) (k : n_W p l e s m args below meth c w d Po (pc + 1) ls (.ref x :: rest) σ) : n_W p l e s m args below meth c w d Po pc ls (rest) σ := fun H locs la z1 z2 z3 => lv_aload_n hC.1 hC.2.1 hdg hi (z1.2.2.2 _ _ hl) (k H locs la z1 z2 z3)
theorem n_aload (hC : n_C p s m args meth c w cc nL own ret) {i : Nat} {x : Nat} (hdg : decode cc pc = .ok (.aload i, 2)) (hl : ls[i]? = some (some (.ref x))) (k : n_W p l e s m args below meth c w d Po (pc + 2) ls (.ref x :: rest) σ) : n_W p l e s m args below meth c w d Po pc ls (rest) σ := fun H locs la z1 z2 z3 => lv_aload hC.1 hC.2.1 hdg (z1.2.2.2 _ _ hl) (k H locs la z1 z2 z3)
theorem n_iadd (hC : n_C p s m args meth c w cc nL own ret) {x y : Int32} (hdg : decode cc pc = .ok (.iadd, 1)) (k : n_W p l e s m args below meth c w d Po (pc + 1) ls (.int (x + y) :: rest) σ) : n_W p l e s m args below meth c w d Po pc ls (.int y :: .int x :: rest) σ := fun H locs la z1 z2 z3 => lv_iadd hC.1 hC.2.1 hdg (k H locs la z1 z2 z3)
theorem n_isub (hC : n_C p s m args meth c w cc nL own ret) {x y : Int32} (hdg : decode cc pc = .ok (.isub, 1)) (k : n_W p l e s m args below meth c w d Po (pc + 1) ls (.int (x - y) :: rest) σ) : n_W p l e s m args below meth c w d Po pc ls (.int y :: .int x :: rest) σ := fun H locs la z1 z2 z3 => lv_isub hC.1 hC.2.1 hdg (k H locs la z1 z2 z3)
theorem n_imul (hC : n_C p s m args meth c w cc nL own ret) {x y : Int32} (hdg : decode cc pc = .ok (.imul, 1)) (k : n_W p l e s m args below meth c w d Po (pc + 1) ls (.int (x * y) :: rest) σ) : n_W p l e s m args below meth c w d Po pc ls (.int y :: .int x :: rest) σ := fun H locs la z1 z2 z3 => lv_imul hC.1 hC.2.1 hdg (k H locs la z1 z2 z3)
theorem n_iand (hC : n_C p s m args meth c w cc nL own ret) {x y : Int32} (hdg : decode cc pc = .ok (.iand, 1)) (k : n_W p l e s m args below meth c w d Po (pc + 1) ls (.int (x &&& y) :: rest) σ) : n_W p l e s m args below meth c w d Po pc ls (.int y :: .int x :: rest) σ := fun H locs la z1 z2 z3 => lv_iand hC.1 hC.2.1 hdg (k H locs la z1 z2 z3)
theorem n_ior (hC : n_C p s m args meth c w cc nL own ret) {x y : Int32} (hdg : decode cc pc = .ok (.ior, 1)) (k : n_W p l e s m args below meth c w d Po (pc + 1) ls (.int (x ||| y) :: rest) σ) : n_W p l e s m args below meth c w d Po pc ls (.int y :: .int x :: rest) σ := fun H locs la z1 z2 z3 => lv_ior hC.1 hC.2.1 hdg (k H locs la z1 z2 z3)
theorem n_ixor (hC : n_C p s m args meth c w cc nL own ret) {x y : Int32} (hdg : decode cc pc = .ok (.ixor, 1)) (k : n_W p l e s m args below meth c w d Po (pc + 1) ls (.int (x ^^^ y) :: rest) σ) : n_W p l e s m args below meth c w d Po pc ls (.int y :: .int x :: rest) σ := fun H locs la z1 z2 z3 => lv_ixor hC.1 hC.2.1 hdg (k H locs la z1 z2 z3)
theorem n_idiv (hC : n_C p s m args meth c w cc nL own ret) {x y : Int32} (hdg : decode cc pc = .ok (.idiv, 1)) (hne : ¬ y = 0) (k : n_W p l e s m args below meth c w d Po (pc + 1) ls (.int (x / y) :: rest) σ) : n_W p l e s m args below meth c w d Po pc ls (.int y :: .int x :: rest) σ := fun H locs la z1 z2 z3 => lv_idiv hC.1 hC.2.1 hdg hne (k H locs la z1 z2 z3)
theorem n_irem (hC : n_C p s m args meth c w cc nL own ret) {x y : Int32} (hdg : decode cc pc = .ok (.irem, 1)) (hne : ¬ y = 0) (k : n_W p l e s m args below meth c w d Po (pc + 1) ls (.int (x - x / y * y) :: rest) σ) : n_W p l e s m args below meth c w d Po pc ls (.int y :: .int x :: rest) σ := fun H locs la z1 z2 z3 => lv_irem hC.1 hC.2.1 hdg hne (k H locs la z1 z2 z3)
theorem n_ineg (hC : n_C p s m args meth c w cc nL own ret) {x : Int32} (hdg : decode cc pc = .ok (.ineg, 1)) (k : n_W p l e s m args below meth c w d Po (pc + 1) ls (.int (-x) :: rest) σ) : n_W p l e s m args below meth c w d Po pc ls (.int x :: rest) σ := fun H locs la z1 z2 z3 => lv_ineg hC.1 hC.2.1 hdg (k H locs la z1 z2 z3)
theorem n_ladd (hC : n_C p s m args meth c w cc nL own ret) {x y : Int64} (hdg : decode cc pc = .ok (.ladd, 1)) (k : n_W p l e s m args below meth c w d Po (pc + 1) ls (.long (x + y) :: rest) σ) : n_W p l e s m args below meth c w d Po pc ls (.long y :: .long x :: rest) σ := fun H locs la z1 z2 z3 => lv_ladd hC.1 hC.2.1 hdg (k H locs la z1 z2 z3)
theorem n_lsub (hC : n_C p s m args meth c w cc nL own ret) {x y : Int64} (hdg : decode cc pc = .ok (.lsub, 1)) (k : n_W p l e s m args below meth c w d Po (pc + 1) ls (.long (x - y) :: rest) σ) : n_W p l e s m args below meth c w d Po pc ls (.long y :: .long x :: rest) σ := fun H locs la z1 z2 z3 => lv_lsub hC.1 hC.2.1 hdg (k H locs la z1 z2 z3)
theorem n_lmul (hC : n_C p s m args meth c w cc nL own ret) {x y : Int64} (hdg : decode cc pc = .ok (.lmul, 1)) (k : n_W p l e s m args below meth c w d Po (pc + 1) ls (.long (x * y) :: rest) σ) : n_W p l e s m args below meth c w d Po pc ls (.long y :: .long x :: rest) σ := fun H locs la z1 z2 z3 => lv_lmul hC.1 hC.2.1 hdg (k H locs la z1 z2 z3)
theorem n_land (hC : n_C p s m args meth c w cc nL own ret) {x y : Int64} (hdg : decode cc pc = .ok (.land, 1)) (k : n_W p l e s m args below meth c w d Po (pc + 1) ls (.long (x &&& y) :: rest) σ) : n_W p l e s m args below meth c w d Po pc ls (.long y :: .long x :: rest) σ := fun H locs la z1 z2 z3 => lv_land hC.1 hC.2.1 hdg (k H locs la z1 z2 z3)
theorem n_lor (hC : n_C p s m args meth c w cc nL own ret) {x y : Int64} (hdg : decode cc pc = .ok (.lor, 1)) (k : n_W p l e s m args below meth c w d Po (pc + 1) ls (.long (x ||| y) :: rest) σ) : n_W p l e s m args below meth c w d Po pc ls (.long y :: .long x :: rest) σ := fun H locs la z1 z2 z3 => lv_lor hC.1 hC.2.1 hdg (k H locs la z1 z2 z3)
theorem n_lxor (hC : n_C p s m args meth c w cc nL own ret) {x y : Int64} (hdg : decode cc pc = .ok (.lxor, 1)) (k : n_W p l e s m args below meth c w d Po (pc + 1) ls (.long (x ^^^ y) :: rest) σ) : n_W p l e s m args below meth c w d Po pc ls (.long y :: .long x :: rest) σ := fun H locs la z1 z2 z3 => lv_lxor hC.1 hC.2.1 hdg (k H locs la z1 z2 z3)
theorem n_lneg (hC : n_C p s m args meth c w cc nL own ret) {x : Int64} (hdg : decode cc pc = .ok (.lneg, 1)) (k : n_W p l e s m args below meth c w d Po (pc + 1) ls (.long (-x) :: rest) σ) : n_W p l e s m args below meth c w d Po pc ls (.long x :: rest) σ := fun H locs la z1 z2 z3 => lv_lneg hC.1 hC.2.1 hdg (k H locs la z1 z2 z3)
theorem n_ishl (hC : n_C p s m args meth c w cc nL own ret) {x y : Int32} (hdg : decode cc pc = .ok (.ishl, 1)) (k : n_W p l e s m args below meth c w d Po (pc + 1) ls (.int (x <<< (y &&& 31)) :: rest) σ) : n_W p l e s m args below meth c w d Po pc ls (.int y :: .int x :: rest) σ := fun H locs la z1 z2 z3 => lv_ishl hC.1 hC.2.1 hdg (k H locs la z1 z2 z3)
theorem n_ishr (hC : n_C p s m args meth c w cc nL own ret) {x y : Int32} (hdg : decode cc pc = .ok (.ishr, 1)) (k : n_W p l e s m args below meth c w d Po (pc + 1) ls (.int (x >>> (y &&& 31)) :: rest) σ) : n_W p l e s m args below meth c w d Po pc ls (.int y :: .int x :: rest) σ := fun H locs la z1 z2 z3 => lv_ishr hC.1 hC.2.1 hdg (k H locs la z1 z2 z3)
theorem n_i2l (hC : n_C p s m args meth c w cc nL own ret) {x : Int32} {v : Int64} (hdg : decode cc pc = .ok (.i2l, 1)) (hv : x.toInt64 = v) (k : n_W p l e s m args below meth c w d Po (pc + 1) ls (.long v :: rest) σ) : n_W p l e s m args below meth c w d Po pc ls (.int x :: rest) σ := fun H locs la z1 z2 z3 => lv_i2l hC.1 hC.2.1 hdg hv (k H locs la z1 z2 z3)
theorem n_l2i (hC : n_C p s m args meth c w cc nL own ret) {x : Int64} {v : Int32} (hdg : decode cc pc = .ok (.l2i, 1)) (hv : x.toInt32 = v) (k : n_W p l e s m args below meth c w d Po (pc + 1) ls (.int v :: rest) σ) : n_W p l e s m args below meth c w d Po pc ls (.long x :: rest) σ := fun H locs la z1 z2 z3 => lv_l2i hC.1 hC.2.1 hdg hv (k H locs la z1 z2 z3)
theorem n_i2b (hC : n_C p s m args meth c w cc nL own ret) {x : Int32} {v : Int32} (hdg : decode cc pc = .ok (.i2b, 1)) (hv : x.toInt8.toInt32 = v) (k : n_W p l e s m args below meth c w d Po (pc + 1) ls (.int v :: rest) σ) : n_W p l e s m args below meth c w d Po pc ls (.int x :: rest) σ := fun H locs la z1 z2 z3 => lv_i2b hC.1 hC.2.1 hdg hv (k H locs la z1 z2 z3)
theorem n_iushr (hC : n_C p s m args meth c w cc nL own ret) {x y v : Int32} (hdg : decode cc pc = .ok (.iushr, 1)) (hv : (x.toUInt32 >>> (y.toUInt32 &&& Int32.toUInt32 31)).toInt32 = v) (k : n_W p l e s m args below meth c w d Po (pc + 1) ls (.int v :: rest) σ) : n_W p l e s m args below meth c w d Po pc ls (.int y :: .int x :: rest) σ := fun H locs la z1 z2 z3 => lv_iushr hC.1 hC.2.1 hdg hv (k H locs la z1 z2 z3)
theorem n_lshl (hC : n_C p s m args meth c w cc nL own ret) {x v : Int64} {y : Int32} (hdg : decode cc pc = .ok (.lshl, 1)) (hv : x <<< (y.toInt64 &&& 63) = v) (k : n_W p l e s m args below meth c w d Po (pc + 1) ls (.long v :: rest) σ) : n_W p l e s m args below meth c w d Po pc ls (.int y :: .long x :: rest) σ := fun H locs la z1 z2 z3 => lv_lshl hC.1 hC.2.1 hdg hv (k H locs la z1 z2 z3)
theorem n_dup (hC : n_C p s m args meth c w cc nL own ret) {va : Value} (hdg : decode cc pc = .ok (.dup, 1)) (hva : va.category = 1) (k : n_W p l e s m args below meth c w d Po (pc + 1) ls (va :: va :: rest) σ) : n_W p l e s m args below meth c w d Po pc ls (va :: rest) σ := fun H locs la z1 z2 z3 => lv_dup hC.1 hC.2.1 hdg hva (k H locs la z1 z2 z3)
theorem n_pop (hC : n_C p s m args meth c w cc nL own ret) {va : Value} (hdg : decode cc pc = .ok (.pop, 1)) (hva : va.category = 1) (k : n_W p l e s m args below meth c w d Po (pc + 1) ls (rest) σ) : n_W p l e s m args below meth c w d Po pc ls (va :: rest) σ := fun H locs la z1 z2 z3 => lv_pop hC.1 hC.2.1 hdg hva (k H locs la z1 z2 z3)
theorem n_dup2_11 (hC : n_C p s m args meth c w cc nL own ret) {va vb : Value} (hdg : decode cc pc = .ok (.dup2, 1)) (hva : va.category = 1) (hvb : vb.category = 1) (k : n_W p l e s m args below meth c w d Po (pc + 1) ls (va :: vb :: va :: vb :: rest) σ) : n_W p l e s m args below meth c w d Po pc ls (va :: vb :: rest) σ := fun H locs la z1 z2 z3 => lv_dup2_11 hC.1 hC.2.1 hdg hva hvb (k H locs la z1 z2 z3)
theorem n_dup2_2 (hC : n_C p s m args meth c w cc nL own ret) {va : Value} (hdg : decode cc pc = .ok (.dup2, 1)) (hva : va.category = 2) (k : n_W p l e s m args below meth c w d Po (pc + 1) ls (va :: va :: rest) σ) : n_W p l e s m args below meth c w d Po pc ls (va :: rest) σ := fun H locs la z1 z2 z3 => lv_dup2_2 hC.1 hC.2.1 hdg hva (k H locs la z1 z2 z3)
theorem n_dup_x1 (hC : n_C p s m args meth c w cc nL own ret) {va vb : Value} (hdg : decode cc pc = .ok (.dup_x1, 1)) (hva : va.category = 1) (hvb : vb.category = 1) (k : n_W p l e s m args below meth c w d Po (pc + 1) ls (va :: vb :: va :: rest) σ) : n_W p l e s m args below meth c w d Po pc ls (va :: vb :: rest) σ := fun H locs la z1 z2 z3 => lv_dup_x1 hC.1 hC.2.1 hdg hva hvb (k H locs la z1 z2 z3)
theorem n_if_eq (hC : n_C p s m args meth c w cc nL own ret) {x : Int32} {off : Int} {tgt : Nat} (hdg : decode cc pc = .ok (.ifCond .eq off, 3)) (ht : (pc : Int) + off = (tgt : Int)) (kt : x = 0 → n_W p l e s m args below meth c w d Po tgt ls rest σ) (kf : ¬ x = 0 → n_W p l e s m args below meth c w d Po (pc + 3) ls rest σ) : n_W p l e s m args below meth c w d Po pc ls (.int x :: rest) σ := fun H locs la z1 z2 z3 => lv_if_eq hC.1 hC.2.1 hdg ht (fun q => kt q H locs la z1 z2 z3) (fun q => kf q H locs la z1 z2 z3)
theorem n_icmp_eq (hC : n_C p s m args meth c w cc nL own ret) {x y : Int32} {off : Int} {tgt : Nat} (hdg : decode cc pc = .ok (.if_icmp .eq off, 3)) (ht : (pc : Int) + off = (tgt : Int)) (kt : x = y → n_W p l e s m args below meth c w d Po tgt ls rest σ) (kf : ¬ x = y → n_W p l e s m args below meth c w d Po (pc + 3) ls rest σ) : n_W p l e s m args below meth c w d Po pc ls (.int y :: .int x :: rest) σ := fun H locs la z1 z2 z3 => lv_icmp_eq hC.1 hC.2.1 hdg ht (fun q => kt q H locs la z1 z2 z3) (fun q => kf q H locs la z1 z2 z3)
theorem n_if_ne (hC : n_C p s m args meth c w cc nL own ret) {x : Int32} {off : Int} {tgt : Nat} (hdg : decode cc pc = .ok (.ifCond .ne off, 3)) (ht : (pc : Int) + off = (tgt : Int)) (kt : ¬ x = 0 → n_W p l e s m args below meth c w d Po tgt ls rest σ) (kf : x = 0 → n_W p l e s m args below meth c w d Po (pc + 3) ls rest σ) : n_W p l e s m args below meth c w d Po pc ls (.int x :: rest) σ := fun H locs la z1 z2 z3 => lv_if_ne hC.1 hC.2.1 hdg ht (fun q => kt q H locs la z1 z2 z3) (fun q => kf q H locs la z1 z2 z3)
theorem n_icmp_ne (hC : n_C p s m args meth c w cc nL own ret) {x y : Int32} {off : Int} {tgt : Nat} (hdg : decode cc pc = .ok (.if_icmp .ne off, 3)) (ht : (pc : Int) + off = (tgt : Int)) (kt : ¬ x = y → n_W p l e s m args below meth c w d Po tgt ls rest σ) (kf : x = y → n_W p l e s m args below meth c w d Po (pc + 3) ls rest σ) : n_W p l e s m args below meth c w d Po pc ls (.int y :: .int x :: rest) σ := fun H locs la z1 z2 z3 => lv_icmp_ne hC.1 hC.2.1 hdg ht (fun q => kt q H locs la z1 z2 z3) (fun q => kf q H locs la z1 z2 z3)
theorem n_if_lt (hC : n_C p s m args meth c w cc nL own ret) {x : Int32} {off : Int} {tgt : Nat} (hdg : decode cc pc = .ok (.ifCond .lt off, 3)) (ht : (pc : Int) + off = (tgt : Int)) (kt : x < 0 → n_W p l e s m args below meth c w d Po tgt ls rest σ) (kf : ¬ x < 0 → n_W p l e s m args below meth c w d Po (pc + 3) ls rest σ) : n_W p l e s m args below meth c w d Po pc ls (.int x :: rest) σ := fun H locs la z1 z2 z3 => lv_if_lt hC.1 hC.2.1 hdg ht (fun q => kt q H locs la z1 z2 z3) (fun q => kf q H locs la z1 z2 z3)
theorem n_icmp_lt (hC : n_C p s m args meth c w cc nL own ret) {x y : Int32} {off : Int} {tgt : Nat} (hdg : decode cc pc = .ok (.if_icmp .lt off, 3)) (ht : (pc : Int) + off = (tgt : Int)) (kt : x < y → n_W p l e s m args below meth c w d Po tgt ls rest σ) (kf : ¬ x < y → n_W p l e s m args below meth c w d Po (pc + 3) ls rest σ) : n_W p l e s m args below meth c w d Po pc ls (.int y :: .int x :: rest) σ := fun H locs la z1 z2 z3 => lv_icmp_lt hC.1 hC.2.1 hdg ht (fun q => kt q H locs la z1 z2 z3) (fun q => kf q H locs la z1 z2 z3)
theorem n_if_ge (hC : n_C p s m args meth c w cc nL own ret) {x : Int32} {off : Int} {tgt : Nat} (hdg : decode cc pc = .ok (.ifCond .ge off, 3)) (ht : (pc : Int) + off = (tgt : Int)) (kt : 0 ≤ x → n_W p l e s m args below meth c w d Po tgt ls rest σ) (kf : ¬ 0 ≤ x → n_W p l e s m args below meth c w d Po (pc + 3) ls rest σ) : n_W p l e s m args below meth c w d Po pc ls (.int x :: rest) σ := fun H locs la z1 z2 z3 => lv_if_ge hC.1 hC.2.1 hdg ht (fun q => kt q H locs la z1 z2 z3) (fun q => kf q H locs la z1 z2 z3)
theorem n_icmp_ge (hC : n_C p s m args meth c w cc nL own ret) {x y : Int32} {off : Int} {tgt : Nat} (hdg : decode cc pc = .ok (.if_icmp .ge off, 3)) (ht : (pc : Int) + off = (tgt : Int)) (kt : y ≤ x → n_W p l e s m args below meth c w d Po tgt ls rest σ) (kf : ¬ y ≤ x → n_W p l e s m args below meth c w d Po (pc + 3) ls rest σ) : n_W p l e s m args below meth c w d Po pc ls (.int y :: .int x :: rest) σ := fun H locs la z1 z2 z3 => lv_icmp_ge hC.1 hC.2.1 hdg ht (fun q => kt q H locs la z1 z2 z3) (fun q => kf q H locs la z1 z2 z3)
theorem n_if_gt (hC : n_C p s m args meth c w cc nL own ret) {x : Int32} {off : Int} {tgt : Nat} (hdg : decode cc pc = .ok (.ifCond .gt off, 3)) (ht : (pc : Int) + off = (tgt : Int)) (kt : 0 < x → n_W p l e s m args below meth c w d Po tgt ls rest σ) (kf : ¬ 0 < x → n_W p l e s m args below meth c w d Po (pc + 3) ls rest σ) : n_W p l e s m args below meth c w d Po pc ls (.int x :: rest) σ := fun H locs la z1 z2 z3 => lv_if_gt hC.1 hC.2.1 hdg ht (fun q => kt q H locs la z1 z2 z3) (fun q => kf q H locs la z1 z2 z3)
theorem n_icmp_gt (hC : n_C p s m args meth c w cc nL own ret) {x y : Int32} {off : Int} {tgt : Nat} (hdg : decode cc pc = .ok (.if_icmp .gt off, 3)) (ht : (pc : Int) + off = (tgt : Int)) (kt : y < x → n_W p l e s m args below meth c w d Po tgt ls rest σ) (kf : ¬ y < x → n_W p l e s m args below meth c w d Po (pc + 3) ls rest σ) : n_W p l e s m args below meth c w d Po pc ls (.int y :: .int x :: rest) σ := fun H locs la z1 z2 z3 => lv_icmp_gt hC.1 hC.2.1 hdg ht (fun q => kt q H locs la z1 z2 z3) (fun q => kf q H locs la z1 z2 z3)
theorem n_if_le (hC : n_C p s m args meth c w cc nL own ret) {x : Int32} {off : Int} {tgt : Nat} (hdg : decode cc pc = .ok (.ifCond .le off, 3)) (ht : (pc : Int) + off = (tgt : Int)) (kt : x ≤ 0 → n_W p l e s m args below meth c w d Po tgt ls rest σ) (kf : ¬ x ≤ 0 → n_W p l e s m args below meth c w d Po (pc + 3) ls rest σ) : n_W p l e s m args below meth c w d Po pc ls (.int x :: rest) σ := fun H locs la z1 z2 z3 => lv_if_le hC.1 hC.2.1 hdg ht (fun q => kt q H locs la z1 z2 z3) (fun q => kf q H locs la z1 z2 z3)
theorem n_icmp_le (hC : n_C p s m args meth c w cc nL own ret) {x y : Int32} {off : Int} {tgt : Nat} (hdg : decode cc pc = .ok (.if_icmp .le off, 3)) (ht : (pc : Int) + off = (tgt : Int)) (kt : x ≤ y → n_W p l e s m args below meth c w d Po tgt ls rest σ) (kf : ¬ x ≤ y → n_W p l e s m args below meth c w d Po (pc + 3) ls rest σ) : n_W p l e s m args below meth c w d Po pc ls (.int y :: .int x :: rest) σ := fun H locs la z1 z2 z3 => lv_icmp_le hC.1 hC.2.1 hdg ht (fun q => kt q H locs la z1 z2 z3) (fun q => kf q H locs la z1 z2 z3)
theorem n_goto (hC : n_C p s m args meth c w cc nL own ret) {off : Int} {tgt : Nat} (hdg : decode cc pc = .ok (.goto off, 3)) (ht : (pc : Int) + off = (tgt : Int)) (k : n_W p l e s m args below meth c w d Po tgt ls rest σ) : n_W p l e s m args below meth c w d Po pc ls rest σ := fun H locs la z1 z2 z3 => lv_goto hC.1 hC.2.1 hdg ht (k H locs la z1 z2 z3)
theorem n_lookup (hC : n_C p s m args meth c w cc nL own ret) {dflt : Int} {ps : Array (Int × Int)} {len : Nat} {x : Int32} {off : Int} {tgt : Nat} (hdg : decode cc pc = .ok (.lookupswitch dflt ps, len)) (hp : (ps.toList.zip (ps.toList.drop 1)).all (fun (a, next) => a.1 < next.1) = true) (ho : Op.lookupswitch.offset ps.toList dflt x.toInt = off) (ht : (pc : Int) + off = (tgt : Int)) (k : n_W p l e s m args below meth c w d Po tgt ls rest σ) : n_W p l e s m args below meth c w d Po pc ls (.int x :: rest) σ := fun H locs la z1 z2 z3 => lv_lookup hC.1 hC.2.1 hdg hp ho ht (k H locs la z1 z2 z3)
theorem n_tableOut (hC : n_C p s m args meth c w cc nL own ret) {dflt lo hi : Int} {offs : Array Int} {len : Nat} {x : Int32} {tgt : Nat} (hdg : decode cc pc = .ok (.tableswitch dflt lo hi offs, len)) (h : x.toInt < lo ∨ hi < x.toInt) (ht : (pc : Int) + dflt = (tgt : Int)) (k : n_W p l e s m args below meth c w d Po tgt ls rest σ) : n_W p l e s m args below meth c w d Po pc ls (.int x :: rest) σ := fun H locs la z1 z2 z3 => lv_tableOut hC.1 hC.2.1 hdg h ht (k H locs la z1 z2 z3)
theorem n_tableIn (hC : n_C p s m args meth c w cc nL own ret) {dflt lo hi : Int} {offs : Array Int} {len : Nat} {x : Int32} {off : Int} {tgt : Nat} (hdg : decode cc pc = .ok (.tableswitch dflt lo hi offs, len)) (h1 : ¬ x.toInt < lo) (h2 : ¬ hi < x.toInt) (ho : offs[(x.toInt - lo).toNat]? = some off) (ht : (pc : Int) + off = (tgt : Int)) (k : n_W p l e s m args below meth c w d Po tgt ls rest σ) : n_W p l e s m args below meth c w d Po pc ls (.int x :: rest) σ := fun H locs la z1 z2 z3 => lv_tableIn hC.1 hC.2.1 hdg h1 h2 ho ht (k H locs la z1 z2 z3)
theorem n_ifnonnull (hC : n_C p s m args meth c w cc nL own ret) {x : Nat} {off : Int} {tgt : Nat} (hdg : decode cc pc = .ok (.ifnonnull off, 3)) (ht : (pc : Int) + off = (tgt : Int)) (k : n_W p l e s m args below meth c w d Po tgt ls rest σ) : n_W p l e s m args below meth c w d Po pc ls (.ref x :: rest) σ := fun H locs la z1 z2 z3 => lv_ifnonnull hC.1 hC.2.1 hdg ht (k H locs la z1 z2 z3)
theorem n_ifnull (hC : n_C p s m args meth c w cc nL own ret) {x : Nat} {off : Int} (hdg : decode cc pc = .ok (.ifnull off, 3)) (k : n_W p l e s m args below meth c w d Po (pc + 3) ls rest σ) : n_W p l e s m args below meth c w d Po pc ls (.ref x :: rest) σ := fun H locs la z1 z2 z3 => lv_ifnull hC.1 hC.2.1 hdg (k H locs la z1 z2 z3)
theorem n_null (hC : n_C p s m args meth c w cc nL own ret) (hdg : decode cc pc = .ok (.aconst_null, 1)) (k : n_W p l e s m args below meth c w d Po (pc + 1) ls (.null :: rest) σ) : n_W p l e s m args below meth c w d Po pc ls rest σ := fun H locs la z1 z2 z3 => lv_null hC.1 hC.2.1 hdg (k H locs la z1 z2 z3)
theorem n_ifnullN (hC : n_C p s m args meth c w cc nL own ret) {off : Int} {tgt : Nat} (hdg : decode cc pc = .ok (.ifnull off, 3)) (ht : (pc : Int) + off = (tgt : Int)) (k : n_W p l e s m args below meth c w d Po tgt ls rest σ) : n_W p l e s m args below meth c w d Po pc ls (.null :: rest) σ := fun H locs la z1 z2 z3 => lv_ifnullN hC.1 hC.2.1 hdg ht (k H locs la z1 z2 z3)
theorem n_ifnonnullN (hC : n_C p s m args meth c w cc nL own ret) {off : Int} (hdg : decode cc pc = .ok (.ifnonnull off, 3)) (k : n_W p l e s m args below meth c w d Po (pc + 3) ls rest σ) : n_W p l e s m args below meth c w d Po pc ls (.null :: rest) σ := fun H locs la z1 z2 z3 => lv_ifnonnullN hC.1 hC.2.1 hdg (k H locs la z1 z2 z3)
theorem n_aload_nN (hC : n_C p s m args meth c w cc nL own ret) {k : Fin 4} {i : Nat} (hdg : decode cc pc = .ok (.aload_n k, 1)) (hi : (k : Nat) = i) (hl : ls[i]? = some (some (.null))) (k : n_W p l e s m args below meth c w d Po (pc + 1) ls (.null :: rest) σ) : n_W p l e s m args below meth c w d Po pc ls (rest) σ := fun H locs la z1 z2 z3 => lv_aload_nN hC.1 hC.2.1 hdg hi (z1.2.2.2 _ _ hl) (k H locs la z1 z2 z3)
theorem n_aloadN (hC : n_C p s m args meth c w cc nL own ret) {i : Nat} (hdg : decode cc pc = .ok (.aload i, 2)) (hl : ls[i]? = some (some (.null))) (k : n_W p l e s m args below meth c w d Po (pc + 2) ls (.null :: rest) σ) : n_W p l e s m args below meth c w d Po pc ls (rest) σ := fun H locs la z1 z2 z3 => lv_aloadN hC.1 hC.2.1 hdg (z1.2.2.2 _ _ hl) (k H locs la z1 z2 z3)
theorem n_ldc (hC : n_C p s m args meth c w cc nL own ret) {index : Nat} {v : Int32} (hconst : Jvm.Cond.constant own index v ∈ n_tb) (hdg : decode cc pc = .ok (.ldc index, 2)) (k : n_W p l e s m args below meth c w d Po (pc + 2) ls (.int v :: rest) σ) : n_W p l e s m args below meth c w d Po pc ls rest σ := fun H locs la z1 z2 z3 => lv_ldc hC.1 hC.2.1 hC.2.2.2.1 (hC.2.2.2.2.1 _ hconst) hdg (k H locs la z1 z2 z3)
theorem n_ldc2 (hC : n_C p s m args meth c w cc nL own ret) {index : Nat} {v : Int64} (hconst : Jvm.Cond.constantLong own index v ∈ n_tb) (hdg : decode cc pc = .ok (.ldc2_w index, 3)) (k : n_W p l e s m args below meth c w d Po (pc + 3) ls (.long v :: rest) σ) : n_W p l e s m args below meth c w d Po pc ls rest σ := fun H locs la z1 z2 z3 => lv_ldc2 hC.1 hC.2.1 hC.2.2.2.1 (hC.2.2.2.2.1 _ hconst) hdg (k H locs la z1 z2 z3)
theorem n_acmp_eq (hC : n_C p s m args meth c w cc nL own ret) {rx ry : Option Nat} {off : Int} {tgt : Nat} (hdg : decode cc pc = .ok (.if_acmp .eq off, 3)) (ht : (pc : Int) + off = (tgt : Int)) (kt : rx = ry → n_W p l e s m args below meth c w d Po tgt ls rest σ) (kf : ¬ rx = ry → n_W p l e s m args below meth c w d Po (pc + 3) ls rest σ) : n_W p l e s m args below meth c w d Po pc ls (va_rf ry :: va_rf rx :: rest) σ := fun H locs la z1 z2 z3 => lv_acmp_eq hC.1 hC.2.1 hdg ht (fun q => kt q H locs la z1 z2 z3) (fun q => kf q H locs la z1 z2 z3)
theorem n_acmp_ne (hC : n_C p s m args meth c w cc nL own ret) {rx ry : Option Nat} {off : Int} {tgt : Nat} (hdg : decode cc pc = .ok (.if_acmp .ne off, 3)) (ht : (pc : Int) + off = (tgt : Int)) (kt : ¬ rx = ry → n_W p l e s m args below meth c w d Po tgt ls rest σ) (kf : rx = ry → n_W p l e s m args below meth c w d Po (pc + 3) ls rest σ) : n_W p l e s m args below meth c w d Po pc ls (va_rf ry :: va_rf rx :: rest) σ := fun H locs la z1 z2 z3 => lv_acmp_ne hC.1 hC.2.1 hdg ht (fun q => kt q H locs la z1 z2 z3) (fun q => kf q H locs la z1 z2 z3)
theorem n_istore_n (hC : n_C p s m args meth c w cc nL own ret) {k : Fin 4} {i : Nat} {x : Int32} (hdg : decode cc pc = .ok (.istore_n k, 1)) (hi : (k : Nat) = i) (hn : i < ls.length) (kk : n_W p l e s m args below meth c w d Po (pc + 1) (n_st1 ls i (.int x)) rest σ) : n_W p l e s m args below meth c w d Po pc ls (.int x :: rest) σ := fun H locs la z1 z2 z3 => lv_istore_n hC.1 hC.2.1 hdg hi z1.has (by rw [z1.1] at hn; exact hn) rfl (fun la1 h4 => kk H locs la1 (n_has1 z1 h4) z2 z3)
theorem n_istore (hC : n_C p s m args meth c w cc nL own ret) {i : Nat} {x : Int32} (hdg : decode cc pc = .ok (.istore i, 2)) (hn : i < ls.length) (kk : n_W p l e s m args below meth c w d Po (pc + 2) (n_st1 ls i (.int x)) rest σ) : n_W p l e s m args below meth c w d Po pc ls (.int x :: rest) σ := fun H locs la z1 z2 z3 => lv_istore hC.1 hC.2.1 hdg z1.has (by rw [z1.1] at hn; exact hn) rfl (fun la1 h4 => kk H locs la1 (n_has1 z1 h4) z2 z3)
theorem n_lstore_n (hC : n_C p s m args meth c w cc nL own ret) {k : Fin 4} {i : Nat} {x : Int64} (hdg : decode cc pc = .ok (.lstore_n k, 1)) (hi : (k : Nat) = i) (hn : i + 1 < ls.length) (kk : n_W p l e s m args below meth c w d Po (pc + 1) (n_st2 ls i (.long x)) rest σ) : n_W p l e s m args below meth c w d Po pc ls (.long x :: rest) σ := fun H locs la z1 z2 z3 => lv_lstore_n hC.1 hC.2.1 hdg hi z1.has (by rw [z1.1] at hn; exact hn) rfl (fun la1 h4 => kk H locs la1 (n_has2 z1 h4) z2 z3)
theorem n_lstore (hC : n_C p s m args meth c w cc nL own ret) {i : Nat} {x : Int64} (hdg : decode cc pc = .ok (.lstore i, 2)) (hn : i + 1 < ls.length) (kk : n_W p l e s m args below meth c w d Po (pc + 2) (n_st2 ls i (.long x)) rest σ) : n_W p l e s m args below meth c w d Po pc ls (.long x :: rest) σ := fun H locs la z1 z2 z3 => lv_lstore hC.1 hC.2.1 hdg z1.has (by rw [z1.1] at hn; exact hn) rfl (fun la1 h4 => kk H locs la1 (n_has2 z1 h4) z2 z3)
theorem n_astore_n (hC : n_C p s m args meth c w cc nL own ret) {k : Fin 4} {i : Nat} {x : Nat} (hdg : decode cc pc = .ok (.astore_n k, 1)) (hi : (k : Nat) = i) (hn : i < ls.length) (kk : n_W p l e s m args below meth c w d Po (pc + 1) (n_st1 ls i (.ref x)) rest σ) : n_W p l e s m args below meth c w d Po pc ls (.ref x :: rest) σ := fun H locs la z1 z2 z3 => lv_astore_n hC.1 hC.2.1 hdg hi z1.has (by rw [z1.1] at hn; exact hn) rfl (fun la1 h4 => kk H locs la1 (n_has1 z1 h4) z2 z3)
theorem n_astore (hC : n_C p s m args meth c w cc nL own ret) {i : Nat} {x : Nat} (hdg : decode cc pc = .ok (.astore i, 2)) (hn : i < ls.length) (kk : n_W p l e s m args below meth c w d Po (pc + 2) (n_st1 ls i (.ref x)) rest σ) : n_W p l e s m args below meth c w d Po pc ls (.ref x :: rest) σ := fun H locs la z1 z2 z3 => lv_astore hC.1 hC.2.1 hdg z1.has (by rw [z1.1] at hn; exact hn) rfl (fun la1 h4 => kk H locs la1 (n_has1 z1 h4) z2 z3)
theorem n_astore_nN (hC : n_C p s m args meth c w cc nL own ret) {k : Fin 4} {i : Nat} (hdg : decode cc pc = .ok (.astore_n k, 1)) (hi : (k : Nat) = i) (hn : i < ls.length) (kk : n_W p l e s m args below meth c w d Po (pc + 1) (n_st1 ls i (.null)) rest σ) : n_W p l e s m args below meth c w d Po pc ls (.null :: rest) σ := fun H locs la z1 z2 z3 => lv_astore_nN hC.1 hC.2.1 hdg hi z1.has (by rw [z1.1] at hn; exact hn) rfl (fun la1 h4 => kk H locs la1 (n_has1 z1 h4) z2 z3)
theorem n_astoreN (hC : n_C p s m args meth c w cc nL own ret) {i : Nat} (hdg : decode cc pc = .ok (.astore i, 2)) (hn : i < ls.length) (kk : n_W p l e s m args below meth c w d Po (pc + 2) (n_st1 ls i (.null)) rest σ) : n_W p l e s m args below meth c w d Po pc ls (.null :: rest) σ := fun H locs la z1 z2 z3 => lv_astoreN hC.1 hC.2.1 hdg z1.has (by rw [z1.1] at hn; exact hn) rfl (fun la1 h4 => kk H locs la1 (n_has1 z1 h4) z2 z3)
theorem n_iinc (hC : n_C p s m args meth c w cc nL own ret) {i : Nat} {n : Int} {x v : Int32} (hdg : decode cc pc = .ok (.iinc i n, 3)) (hl : ls[i]? = some (some (.int x))) (hv : x + Int32.ofInt n = v) (kk : n_W p l e s m args below meth c w d Po (pc + 3) (n_st1 ls i (.int v)) rest σ) : n_W p l e s m args below meth c w d Po pc ls rest σ := by
  intro H locs la z1 z2 z3
  obtain ⟨k, hk⟩ := List.getElem?_of_mem (n_lv_in hl)
  exact lv_iinc hC.1 hC.2.1 hdg z1.has hk hv (by rw [← z1.1]; exact (List.getElem?_eq_some_iff.mp hl).1) rfl (fun la1 h4 => kk H locs la1 (n_has1 z1 h4) z2 z3)
end NO
end
section
section NH
variable {St : Type} {p : Program} {l : Launch} {e : Env} {s : State} {m : MethodId} {args : Array Value} {below : List Frame} {meth : Method} {c : Code} {w : n_Wd St} {d : Nat} {Po : Option Value → St → Prop} {cc : ByteArray} {nL : Nat} {own : String} {ret : Option FieldType}
variable {pc : Nat} {ls : List (Option Value)} {rest : List Value} {σ : St}
theorem n_one {H : Heap} (h : n_Rep w σ H) {κ i : Nat} (hi : n_cnt w κ i) : va_P (n_D w) (n_cl w) [(n_ad w κ i, n_en w κ i σ)] H := by
  intro k q hk
  cases k with
  | zero => cases hk; exact h κ i hi
  | succ k => simp at hk
theorem n_getf (hC : n_C p s m args meth c w cc nL own ret) {κ i ci index k : Nat} {fs : List Value} {v : Value} {q : vw_C} (hi : n_cnt w κ i) (he : n_en w κ i σ = .inr (ci, fs)) (hc : (n_cl w)[ci]? = some q) (hk : k < q.2.2) (hw : Cond.fieldLink own index (q.2.1 k).1 (q.2.1 k).2.1 (q.2.1 k).2.2.1 ∈ n_tb) (hv : fs[k]? = some v) (hdg : decode cc pc = .ok (.getfield index, 3))
    (kk : n_W p l e s m args below meth c w d Po (pc + 3) ls (v :: rest) σ) : n_W p l e s m args below meth c w d Po pc ls (.ref (n_ad w κ i) :: rest) σ := by
  intro H locs la z1 z2 z3
  exact va_get hC.1 hC.2.1 hC.2.2.2.2.1 (hC.2.2.2.2.2.2.2.2.2.2.1 ci q hc).1 hC.2.2.2.1 hC.2.2.2.2.2.2.2.1 (n_one z2 hi) 0 (by rw [he]; rfl) hc k hk (hC.2.2.2.2.1 _ hw) (fun _ h => h) hv hdg (kk H locs la z1 z2 z3)
theorem n_putf (hC : n_C p s m args meth c w cc nL own ret) {κ i ci index k : Nat} {fs : List Value} {v : Value} {q : vw_C} {ty : FieldType} (σ' : St) (hi : n_cnt w κ i) (he : n_en w κ i σ = .inr (ci, fs)) (hc : (n_cl w)[ci]? = some q) (hk : k < q.2.2) (hw : Cond.fieldLink own index (q.2.1 k).1 (q.2.1 k).2.1 (q.2.1 k).2.2.1 ∈ n_tb) (hl : k < fs.length)
    (hfin : (q.2.1 k).2.2.2 = false) (hty : parseFieldDescriptor (q.2.1 k).2.2.1 = some ty) (hn : narrow ty v = v) (hf : fits ty v = true) (he' : n_en w κ i σ' = .inr (ci, fs.set k v)) (ho : ∀ κ' i', n_cnt w κ' i' → ¬ (κ' = κ ∧ i' = i) → n_en w κ' i' σ' = n_en w κ' i' σ) (hdg : decode cc pc = .ok (.putfield index, 3))
    (kk : n_W p l e s m args below meth c w d Po (pc + 3) ls rest σ') : n_W p l e s m args below meth c w d Po pc ls (v :: .ref (n_ad w κ i) :: rest) σ := by
  intro H locs la z1 z2 z3
  obtain ⟨hx, hb, -, hown, hts, -, -, hK, -, hinj, hcl, -⟩ := hC
  obtain ⟨hin, hnm, ty0, hty0⟩ := hcl ci q hc
  have hap := va_apart (own := own) hts hin ty0 hty0 hnm hK hc
  have hat := z2 κ i hi
  rw [he] at hat
  obtain ⟨r, h1, cell, q1, q2, q3, q4⟩ := hat
  have hr : r = q := Option.some.inj (h1.symm.trans hc)
  subst hr
  obtain ⟨hS, hfc, kC, hkC, hkind⟩ := hK.1 ci _ hc
  obtain ⟨cf, kf, fi, f, hfi, hsl⟩ := hS k hk
  have hlay := hts _ (hin _ (u_in_lay hk))
  unfold u_lay at hlay
  rw [if_neg (by rw [hfin]; decide)] at hlay
  have hst := (u_facts hfc hkC (u_lays hts hin hk) hfi).1
  have h6 := u_store hfc hkC hkind hlay hfi hty hn hf
  refine W.putK hx hb (f := f) ⟨hown, hts _ hw, ⟨_, _, _, hfi⟩, hst⟩ (by rw [q2]; exact h6) q1 q3 (by rw [hsl]; exact k2_hasslot (q4 k hk)) rfl rfl hdg fun H' e1 e2 e3 => ?_
  rw [hsl] at e1 ⊢
  refine kk H' _ la z1 (z2.set hinj hi ?_ e3 ho) (z3.put e2 e3 (n_A.in hi))
  rw [he']
  exact ⟨_, hc, t_OB.to (V := updV (vp_V fs) k v) ⟨_, e1, q2, q3, t_set q4 hap hk v⟩ (fun j _ => vp_updV_set hl v j)⟩
theorem n_iald (hC : n_C p s m args meth c w cc nL own ret) {κ i t0 n : Nat} {cA : ClassId} {f : Nat → Int32} {j : Int32} (hi : n_cnt w κ i) (he : n_en w κ i σ = .inl (cA, n, .inl f)) (ht : (n_ty w)[t0]? = some (cA, .int)) (hin : vp_in j n) (hdg : decode cc pc = .ok (.iaload, 1))
    (kk : n_W p l e s m args below meth c w d Po (pc + 1) ls (.int (f j.toNatClampNeg) :: rest) σ) : n_W p l e s m args below meth c w d Po pc ls (.int j :: .ref (n_ad w κ i) :: rest) σ := by
  intro H locs la z1 z2 z3
  exact va_iald hC.1 hC.2.1 hC.2.2.2.2.2.2.2.1 (n_one z2 hi) 0 t0 (by rw [he]; rfl) ht hin hdg (kk H locs la z1 z2 z3)
theorem n_bald (hC : n_C p s m args meth c w cc nL own ret) {κ i t0 n : Nat} {cA : ClassId} {f : Nat → Int32} {j : Int32} (hi : n_cnt w κ i) (he : n_en w κ i σ = .inl (cA, n, .inl f)) (ht : (n_ty w)[t0]? = some (cA, .byte)) (hin : vp_in j n) (hdg : decode cc pc = .ok (.baload, 1))
    (kk : n_W p l e s m args below meth c w d Po (pc + 1) ls (.int (f j.toNatClampNeg) :: rest) σ) : n_W p l e s m args below meth c w d Po pc ls (.int j :: .ref (n_ad w κ i) :: rest) σ := by
  intro H locs la z1 z2 z3
  exact va_bald hC.1 hC.2.1 hC.2.2.2.2.2.2.2.1 (n_one z2 hi) 0 t0 (by rw [he]; rfl) ht hin hdg (kk H locs la z1 z2 z3)
theorem n_zald (hC : n_C p s m args meth c w cc nL own ret) {κ i t0 n : Nat} {cA : ClassId} {f : Nat → Int32} {j : Int32} (hi : n_cnt w κ i) (he : n_en w κ i σ = .inl (cA, n, .inl f)) (ht : (n_ty w)[t0]? = some (cA, .boolean)) (hin : vp_in j n) (hdg : decode cc pc = .ok (.baload, 1))
    (kk : n_W p l e s m args below meth c w d Po (pc + 1) ls (.int (f j.toNatClampNeg) :: rest) σ) : n_W p l e s m args below meth c w d Po pc ls (.int j :: .ref (n_ad w κ i) :: rest) σ := by
  intro H locs la z1 z2 z3
  exact va_zald hC.1 hC.2.1 hC.2.2.2.2.2.2.2.1 (n_one z2 hi) 0 t0 (by rw [he]; rfl) ht hin hdg (kk H locs la z1 z2 z3)
theorem n_lald (hC : n_C p s m args meth c w cc nL own ret) {κ i t0 n : Nat} {cA : ClassId} {f : Nat → Int64} {j : Int32} (hi : n_cnt w κ i) (he : n_en w κ i σ = .inl (cA, n, .inr (.inl f))) (ht : (n_ty w)[t0]? = some (cA, .long)) (hin : vp_in j n) (hdg : decode cc pc = .ok (.laload, 1))
    (kk : n_W p l e s m args below meth c w d Po (pc + 1) ls (.long (f j.toNatClampNeg) :: rest) σ) : n_W p l e s m args below meth c w d Po pc ls (.int j :: .ref (n_ad w κ i) :: rest) σ := by
  intro H locs la z1 z2 z3
  exact va_lald hC.1 hC.2.1 hC.2.2.2.2.2.2.2.1 (n_one z2 hi) 0 t0 (by rw [he]; rfl) ht hin hdg (kk H locs la z1 z2 z3)
theorem n_aald (hC : n_C p s m args meth c w cc nL own ret) {κ i t0 n : Nat} {cA : ClassId} {C : String} {f : Nat → Option Nat} {j : Int32} (hi : n_cnt w κ i) (he : n_en w κ i σ = .inl (cA, n, .inr (.inr (.inr (.inr f))))) (ht : (n_ty w)[t0]? = some (cA, .object C)) (hin : vp_in j n) (hdg : decode cc pc = .ok (.aaload, 1))
    (kk : n_W p l e s m args below meth c w d Po (pc + 1) ls (va_rf (f j.toNatClampNeg) :: rest) σ) : n_W p l e s m args below meth c w d Po pc ls (.int j :: .ref (n_ad w κ i) :: rest) σ := by
  intro H locs la z1 z2 z3
  exact va_aldq hC.1 hC.2.1 hC.2.2.2.2.2.2.2.1 (n_one z2 hi) 0 t0 (by rw [he]; rfl) ht hin hdg (kk H locs la z1 z2 z3)
theorem n_iast (hC : n_C p s m args meth c w cc nL own ret) {κ i t0 n : Nat} {cA : ClassId} {f : Nat → Int32} {j x : Int32} (σ' : St) (hi : n_cnt w κ i) (he : n_en w κ i σ = .inl (cA, n, .inl f)) (ht : (n_ty w)[t0]? = some (cA, .int)) (hin : vp_in j n)
    (he' : n_en w κ i σ' = .inl (cA, n, .inl (upd f j.toNatClampNeg x))) (ho : ∀ κ' i', n_cnt w κ' i' → ¬ (κ' = κ ∧ i' = i) → n_en w κ' i' σ' = n_en w κ' i' σ) (hdg : decode cc pc = .ok (.iastore, 1))
    (kk : n_W p l e s m args below meth c w d Po (pc + 1) ls rest σ') : n_W p l e s m args below meth c w d Po pc ls (.int x :: .int j :: .ref (n_ad w κ i) :: rest) σ := by
  intro H locs la z1 z2 z3
  have hat := z2 κ i hi
  rw [he] at hat
  refine W.iast hC.1 hC.2.1 hat ((hC.2.2.2.2.2.2.2.1.2 t0 _ ht).1 n (fun j => .int (f j))) (fun q => by cases q) (by show ¬ (j < 0 ∨ (arrV _ _ _).slots.size ≤ _); rw [arrV_size]; exact hin) rfl rfl hdg fun H1 e1 z oq => ?_
  refine kk H1 _ la z1 (z2.set hC.2.2.2.2.2.2.2.2.2.1 hi ?_ oq ho) (z3.put z oq (n_A.in hi))
  rw [he']
  show H1[n_ad w κ i]? = some (vp_cell _ _)
  rw [e1, vp_cell_i, vp_cell_i, arrV_store]
  congr 2
  funext q
  by_cases hq : q = j.toNatClampNeg
  · subst hq
    simp [updV, upd]
  · simp [updV, upd, hq]
theorem n_bast (hC : n_C p s m args meth c w cc nL own ret) {κ i t0 n : Nat} {cA : ClassId} {f : Nat → Int32} {j x : Int32} (σ' : St) (hi : n_cnt w κ i) (he : n_en w κ i σ = .inl (cA, n, .inl f)) (ht : (n_ty w)[t0]? = some (cA, .byte)) (hin : vp_in j n)
    (he' : n_en w κ i σ' = .inl (cA, n, .inl (upd f j.toNatClampNeg (vp_nar .byte x)))) (ho : ∀ κ' i', n_cnt w κ' i' → ¬ (κ' = κ ∧ i' = i) → n_en w κ' i' σ' = n_en w κ' i' σ) (hdg : decode cc pc = .ok (.bastore, 1))
    (kk : n_W p l e s m args below meth c w d Po (pc + 1) ls rest σ') : n_W p l e s m args below meth c w d Po pc ls (.int x :: .int j :: .ref (n_ad w κ i) :: rest) σ := by
  intro H locs la z1 z2 z3
  have hat := z2 κ i hi
  rw [he] at hat
  refine W.bast hC.1 hC.2.1 hat ((hC.2.2.2.2.2.2.2.1.2 t0 _ ht).1 n (fun j => .int (f j))) (fun q => by cases q) (by show ¬ (j < 0 ∨ (arrV _ _ _).slots.size ≤ _); rw [arrV_size]; exact hin) rfl rfl hdg fun H1 e1 z oq => ?_
  refine kk H1 _ la z1 (z2.set hC.2.2.2.2.2.2.2.2.2.1 hi ?_ oq ho) (z3.put z oq (n_A.in hi))
  rw [he']
  show H1[n_ad w κ i]? = some (vp_cell _ _)
  rw [e1, vp_cell_i, vp_cell_i, arrV_store]
  congr 2
  funext q
  by_cases hq : q = j.toNatClampNeg
  · subst hq
    simp [updV, upd]
    rfl
  · simp [updV, upd, hq]
theorem n_zast (hC : n_C p s m args meth c w cc nL own ret) {κ i t0 n : Nat} {cA : ClassId} {f : Nat → Int32} {j x : Int32} (σ' : St) (hi : n_cnt w κ i) (he : n_en w κ i σ = .inl (cA, n, .inl f)) (ht : (n_ty w)[t0]? = some (cA, .boolean)) (hin : vp_in j n)
    (he' : n_en w κ i σ' = .inl (cA, n, .inl (upd f j.toNatClampNeg (vp_nar .boolean x)))) (ho : ∀ κ' i', n_cnt w κ' i' → ¬ (κ' = κ ∧ i' = i) → n_en w κ' i' σ' = n_en w κ' i' σ) (hdg : decode cc pc = .ok (.bastore, 1))
    (kk : n_W p l e s m args below meth c w d Po (pc + 1) ls rest σ') : n_W p l e s m args below meth c w d Po pc ls (.int x :: .int j :: .ref (n_ad w κ i) :: rest) σ := by
  intro H locs la z1 z2 z3
  have hat := z2 κ i hi
  rw [he] at hat
  refine W.zast hC.1 hC.2.1 hat ((hC.2.2.2.2.2.2.2.1.2 t0 _ ht).1 n (fun j => .int (f j))) (fun q => by cases q) (by show ¬ (j < 0 ∨ (arrV _ _ _).slots.size ≤ _); rw [arrV_size]; exact hin) rfl rfl hdg fun H1 e1 z oq => ?_
  refine kk H1 _ la z1 (z2.set hC.2.2.2.2.2.2.2.2.2.1 hi ?_ oq ho) (z3.put z oq (n_A.in hi))
  rw [he']
  show H1[n_ad w κ i]? = some (vp_cell _ _)
  rw [e1, vp_cell_i, vp_cell_i, arrV_store]
  congr 2
  funext q
  by_cases hq : q = j.toNatClampNeg
  · subst hq
    simp [updV, upd]
    rfl
  · simp [updV, upd, hq]
theorem n_iret (hC : n_C p s m args meth c w cc nL own (some .int)) {v : Int32} (hdg : decode cc pc = .ok (.ireturn, 1)) (hP : Po (some (.int v)) σ) : n_W p l e s m args below meth c w d Po pc ls [.int v] σ := by
  intro H locs la z1 z2 z3
  exact W.iret hC.1 hC.2.1 hC.2.2.2.2.2.1 (fun t ht _ => ⟨⟨_, _, rfl, hP, by rw [ht]; exact z2⟩, z3.F ht⟩) z3.2.2 hdg hC.2.2.2.2.2.2.1
theorem n_zret (hC : n_C p s m args meth c w cc nL own (some .boolean)) {v : Int32} (hdg : decode cc pc = .ok (.ireturn, 1)) (hn : narrow .boolean (.int v) = .int v) (hP : Po (some (.int v)) σ) : n_W p l e s m args below meth c w d Po pc ls [.int v] σ := by
  intro H locs la z1 z2 z3
  exact W.zret hC.1 hC.2.1 hC.2.2.2.2.2.1 hn (fun t ht _ => ⟨⟨_, _, rfl, hP, by rw [ht]; exact z2⟩, z3.F ht⟩) z3.2.2 hdg hC.2.2.2.2.2.2.1
theorem n_lret (hC : n_C p s m args meth c w cc nL own (some .long)) {v : Int64} (hdg : decode cc pc = .ok (.lreturn, 1)) (hP : Po (some (.long v)) σ) : n_W p l e s m args below meth c w d Po pc ls [.long v] σ := by
  intro H locs la z1 z2 z3
  exact W.lret hC.1 hC.2.1 hC.2.2.2.2.2.1 (fun t ht _ => ⟨⟨_, _, rfl, hP, by rw [ht]; exact z2⟩, z3.F ht⟩) z3.2.2 hdg hC.2.2.2.2.2.2.1
theorem n_vret (hC : n_C p s m args meth c w cc nL own none) (hdg : decode cc pc = .ok (.return_, 1)) (hP : Po none σ) : n_W p l e s m args below meth c w d Po pc ls [] σ := by
  intro H locs la z1 z2 z3
  exact W.vret hC.1 hC.2.1 hC.2.2.2.2.2.1 (fun t ht _ => ⟨⟨_, _, rfl, hP, by rw [ht]; exact z2⟩, z3.F ht⟩) z3.2.2 hdg hC.2.2.2.2.2.2.1
theorem n_aret {C : String} (hC : n_C p s m args meth c w cc nL own (some (.object C))) {v : Value} (hv : v = .null ∨ ∃ a, v = .ref a) (hdg : decode cc pc = .ok (.areturn, 1)) (hP : Po (some v) σ) : n_W p l e s m args below meth c w d Po pc ls [v] σ := by
  intro H locs la z1 z2 z3
  exact W.aret hC.1 hC.2.1 hC.2.2.2.2.2.1 (Or.inl ⟨_, rfl⟩) hv (fun t ht _ => ⟨⟨_, _, rfl, hP, by rw [ht]; exact z2⟩, z3.F ht⟩) z3.2.2 hdg hC.2.2.2.2.2.2.1
theorem n_blind (av : List Value) (w : n_Wd St) (σ : St) : FrameBlind (va_Pc av (n_U w σ)) := fun a U g mk h => ⟨h.1, h.2.1, va_K.moved (u := U) (U := U.calling g mk a) (Vm.Alike.refl U.vm) h.2.2.1, h.2.2.2.2.2.2 U (U.calling g mk a) _ _ (Vm.Alike.refl U.vm) (fun _ _ _ => rfl) h.2.2.2.1, h.2.2.2.2⟩
theorem n_wsok (hts : ∀ x ∈ n_tb, x.before args s = true) {y : MethodName} {bytes : ByteArray} {maxL : Nat} {ret' : Option FieldType} (hc : Cond.code y bytes maxL ret' ∈ n_tb) : ∀ x ∈ (Cond.code y bytes maxL ret' :: n_tb), ∀ (a' : Array Value) (U : State), s.WarmedH U.vm → x.before a' U = true := by
  intro x hx a' U hW
  have h : x ∈ n_tb := (List.mem_cons.mp hx).elim (fun h => h ▸ hc) id
  exact word_at hW (n_good h).2 (hts x h)
theorem n_callV (hC : n_C p s m args meth c w cc nL own ret) {κ i ci index n d' maxL : Nat} {y : MethodName} {bytes : ByteArray} {ret' : Option FieldType} {fs As : List Value} {q : vw_C} {Po' : Option Value → St → Prop} (hM : n_Ct l w d' y bytes maxL ret' (.ref (n_ad w κ i) :: As) σ Po') (hd : d' + 1 ≤ d) (hmx : maxL ≤ 41)
    (hi : n_cnt w κ i) (he : n_en w κ i σ = .inr (ci, fs)) (hc : (n_cl w)[ci]? = some q) (hq : q.1 = y.cls) (hw : Cond.methodLink own index y ∈ n_tb ∧ Cond.instanceMethod y ∈ n_tb ∧ Cond.selects y.cls y y ∈ n_tb ∧ Cond.initialized y.cls ∈ n_tb ∧ Cond.code y bytes maxL ret' ∈ n_tb)
    (hy : (y.cls ≠ "java/lang/invoke/MethodHandle" ∧ y.cls ≠ "java/lang/invoke/VarHandle") ∧ (parseMethodDescriptor y.desc).map (fun d => d.parameters.length) = some n) (hn : As.length = n) (hr : (rest.map fun v => v.category).sum ≤ 8) (hdg : decode cc pc = .ok (.invokevirtual index, 3))
    (kk : ∀ (rv : Option Value) (σ' : St), Po' rv σ' → n_W p l e s m args below meth c w d Po (pc + 3) ls (rv.toList ++ rest) σ') : n_W p l e s m args below meth c w d Po pc ls (As.reverse ++ .ref (n_ad w κ i) :: rest) σ := by
  intro H locs la z1 z2 z3
  obtain ⟨hx, hb, hml, hown, hts, hrt, hlk, hK, hE, hok⟩ := hC
  have hP := n_one z2 hi
  rw [he] at hP
  have hrv := va_recv hK hP hc (q0 := 0) rfl
  rw [hq] at hrv
  have cw : CallW (n_rm d) s args own y.cls index y bytes maxL ret' (.code y bytes maxL ret' :: n_tb) (n_rm d') 0 0 n := by
    refine ⟨⟨rfl, rfl, hd, ?_, n_wsok hts hw.2.2.2.2, List.mem_cons_self, hts _ hw.2.2.2.2, hts _ hw.2.2.2.1, hy.1, fun sig h => ?_, hts _ hw.1⟩, hts _ hw.2.1, hts _ hw.2.2.1⟩
    · show 8 + (maxL + 11) + 60 * d' ≤ 60 * d
      omega
    · have h2 := hy.2
      rw [h] at h2
      exact (Option.some.inj h2).symm
  have hr0 := va_runV (e := e) (below := below) (meth := meth) (locs := locs) (cells := 0) (slots := 0) (g := F0 m pc la (As.reverse ++ .ref (n_ad w κ i) :: rest)) (rest := rest) (As := As) (b := n_ad w κ i) (H := H) ⟨hx, hb, hml, hown, hts⟩ hM cw
    ⟨n_blind _ w σ, hrv, fun U hU hW => ⟨rfl, by rw [hU]; exact z2, va_K.moved hW.alike hK, hok.2.2 s U s.heap U.heap hW.alike (fun q h1 h2 => by rw [hU]; exact z3.2.1 q h1 h2) hE, hok⟩⟩ rfl hn (z1.2.1.trans hml) rfl (lv_room hr) hdg ⟨Nat.zero_le _, Nat.zero_le _⟩
  intro T hT X
  obtain ⟨v, st0, t, T', L, g0, X', hL, e1, e2, ⟨⟨rv, σ', hv, hp, hrep⟩, hz, hk⟩, st⟩ := hr0 T hT X
  cases hv
  rw [g0] at hz hk
  obtain ⟨t2, a1, b1⟩ := kk _ σ' hp T'.heap (locs ++ L) la z1 (by rw [e1]; exact hrep)
    ⟨Nat.le_trans z3.1 (by rw [e1]; exact hz), fun q h1 h2 => by rw [e1, hk q (Nat.lt_of_lt_of_le h1 z3.1) h2]; exact z3.2.1 q h1 h2, fun q hq => by
      rcases List.mem_append.mp hq with h | h
      · exact z3.2.2 q h
      · exact hL q h⟩ T' rfl X'
  exact ⟨t2, st t2 a1, b1⟩
theorem n_callS (hC : n_C p s m args meth c w cc nL own ret) {index n d' maxL : Nat} {y : MethodName} {bytes : ByteArray} {ret' : Option FieldType} {As : List Value} {Po' : Option Value → St → Prop} (hM : n_Ct l w d' y bytes maxL ret' As σ Po') (hd : d' + 1 ≤ d) (hmx : maxL ≤ 41)
    (hw : Cond.methodLink own index y ∈ n_tb ∧ Cond.static y ∈ n_tb ∧ Cond.initialized y.cls ∈ n_tb ∧ Cond.code y bytes maxL ret' ∈ n_tb)
    (hy : (y.cls ≠ "java/lang/invoke/MethodHandle" ∧ y.cls ≠ "java/lang/invoke/VarHandle") ∧ (parseMethodDescriptor y.desc).map (fun d => d.parameters.length) = some n) (hn : As.length = n) (hr : (rest.map fun v => v.category).sum ≤ 8) (hdg : decode cc pc = .ok (.invokestatic index, 3))
    (kk : ∀ (rv : Option Value) (σ' : St), Po' rv σ' → n_W p l e s m args below meth c w d Po (pc + 3) ls (rv.toList ++ rest) σ') : n_W p l e s m args below meth c w d Po pc ls (As.reverse ++ rest) σ := by
  intro H locs la z1 z2 z3
  obtain ⟨hx, hb, hml, hown, hts, hrt, hlk, hK, hE, hok⟩ := hC
  have cw : CallB (n_rm d) s args own index y bytes maxL ret' (.code y bytes maxL ret' :: n_tb) (n_rm d') 0 0 n ∧ (Cond.static y).before args s = true := by
    refine ⟨⟨rfl, rfl, hd, ?_, n_wsok hts hw.2.2.2, List.mem_cons_self, hts _ hw.2.2.2, hts _ hw.2.2.1, hy.1, fun sig h => ?_, hts _ hw.1⟩, hts _ hw.2.1⟩
    · show 8 + (maxL + 11) + 60 * d' ≤ 60 * d
      omega
    · have h2 := hy.2
      rw [h] at h2
      exact (Option.some.inj h2).symm
  have hr0 := va_runS (e := e) (below := below) (meth := meth) (locs := locs) (cells := 0) (slots := 0) (g := F0 m pc la (As.reverse ++ rest)) (rest := rest) (As := As) (H := H) ⟨hx, hb, hml, hown, hts⟩ hM cw
    ⟨n_blind _ w σ, fun U hU hW => ⟨rfl, by rw [hU]; exact z2, va_K.moved hW.alike hK, hok.2.2 s U s.heap U.heap hW.alike (fun q h1 h2 => by rw [hU]; exact z3.2.1 q h1 h2) hE, hok⟩⟩ rfl hn (z1.2.1.trans hml) rfl (lv_room hr) hdg ⟨Nat.zero_le _, Nat.zero_le _⟩
  intro T hT X
  obtain ⟨v, st0, t, T', L, g0, X', hL, e1, e2, ⟨⟨rv, σ', hv, hp, hrep⟩, hz, hk⟩, st⟩ := hr0 T hT X
  cases hv
  rw [g0] at hz hk
  obtain ⟨t2, a1, b1⟩ := kk _ σ' hp T'.heap (locs ++ L) la z1 (by rw [e1]; exact hrep)
    ⟨Nat.le_trans z3.1 (by rw [e1]; exact hz), fun q h1 h2 => by rw [e1, hk q (Nat.lt_of_lt_of_le h1 z3.1) h2]; exact z3.2.1 q h1 h2, fun q hq => by
      rcases List.mem_append.mp hq with h | h
      · exact z3.2.2 q h
      · exact hL q h⟩ T' rfl X'
  exact ⟨t2, st t2 a1, b1⟩
theorem n_ls0 (nL : Nat) (av : List Value) (h : (lg_sl av).length ≤ nL) : n_ls nL ((lg_sl av ++ List.replicate (nL - (lg_sl av).length) Slot.unset).toArray) (n_l0 nL av) := by
  have key : ∀ (vs : List Value) (b : Nat), (vs.flatMap fun v => if v.category = 2 then [some v, none] else [some v] : List (Option Value)).length = (lg_sl vs).length ∧ ∀ (i : Nat) (v : Value), (vs.flatMap fun v => if v.category = 2 then [some v, none] else [some v] : List (Option Value))[i]? = some (some v) → (lg_sl vs)[i]? = some (.val v) := by
    intro vs b
    induction vs with
    | nil => exact ⟨rfl, fun i v h => by simp at h⟩
    | cons a vs ih =>
      obtain ⟨ih1, ih2⟩ := ih
      unfold lg_sl at ih1 ih2 ⊢
      by_cases hc : a.category = 2
      · refine ⟨by simp [hc, ih1], fun i v h => ?_⟩
        simp only [List.flatMap_cons, hc, if_true] at h ⊢
        match i, h with
        | 0, h => simpa using h
        | 1, h => simp at h
        | i + 2, h => exact ih2 i v h
      · refine ⟨by simp [hc, ih1], fun i v h => ?_⟩
        simp only [List.flatMap_cons, hc, if_false] at h ⊢
        match i, h with
        | 0, h => simpa using h
        | i + 1, h => exact ih2 i v h
  obtain ⟨k1, k2⟩ := key av 0
  have hh := lv_entry av h
  refine ⟨?_, hh.1, hh.2.1, fun i v hi => ?_⟩
  · unfold n_l0
    rw [List.length_append, List.length_replicate, k1]
    omega
  · unfold n_l0 at hi
    by_cases hl : i < (av.flatMap fun v => if v.category = 2 then [some v, none] else [some v] : List (Option Value)).length
    · rw [List.getElem?_append_left hl] at hi
      rw [List.getElem?_toArray, List.getElem?_append_left (by rw [← k1]; exact hl)]
      exact k2 i v hi
    · rw [List.getElem?_append_right (by omega), List.getElem?_replicate] at hi
      split at hi <;> simp at hi
theorem n_ofW {w : n_Wd St} {y : MethodName} {bytes : ByteArray} {maxL : Nat} {ret : Option FieldType} {av : List Value} {σ : St} {Po : Option Value → St → Prop} {d : Nat} (hy : plainName y.cls = true) (hlen : (lg_sl av).length ≤ maxL)
    (body : ∀ (p : Program) (e : Env) (s : State) (m : MethodId) (below : List Frame) (meth : Method) (c : Code), n_C p s m av.toArray meth c w bytes maxL y.cls ret → n_W p l e s m av.toArray below meth c w d Po 0 (n_l0 maxL av) [] σ) : n_Ct l w d y bytes maxL ret av σ Po := by
  refine Met.ofW (cc := bytes) (maxL := maxL) (ret := ret) hy rfl ?_
  intro p e s m args below meth c s₁ B hml hP
  obtain ⟨rfl, hrep, hK, hE, hok⟩ := hP
  have hts := atoms_spec (ws := .code y bytes maxL ret :: n_tb) B.pre
  rw [lg_entry_eq]
  exact body p e s m below meth c ⟨B.exec, B.bytes, hml, findClass_of_methodNamed B.named, fun x hx => hts x (List.mem_cons_of_mem _ hx), B.returns, B.notSynchronized, hK, hE, hok⟩ s.heap [] _ (by rw [hml]; exact n_ls0 maxL av hlen) hrep va_S.rf
end NH
end
