section
-- ===== PART A: goes FIRST, ahead of the names: the tables' words, and 'selects' of the private methods out of them =====
/-- a private method of a class that the tables say can be made, by its rows of tables_1 -/
def lw_okq (q : MethodName × Nat) : Prop := (q.1.cls ≠ "java/lang/invoke/MethodHandle" ∧ q.1.cls ≠ "java/lang/invoke/VarHandle") ∧ Cond.instantiable q.1.cls q.2 ∈ tables_1 ∧ Cond.privateMethod q.1 ∈ tables_1 ∧ Cond.instanceMethod q.1 ∈ tables_1
theorem lw_p0 : lw_okq (⟨"RecordCalls", "newSlot", "()LRecordCalls$Row;"⟩, 7) := ⟨⟨by decide +kernel, by decide +kernel⟩, List.mem_of_getElem? (i := 19) (by decide +kernel), List.mem_of_getElem? (i := 209) (by decide +kernel), List.mem_of_getElem? (i := 210) (by decide +kernel)⟩
theorem lw_p1 : lw_okq (⟨"RecordCalls", "slotRow", "(I)LRecordCalls$Row;"⟩, 7) := ⟨⟨by decide +kernel, by decide +kernel⟩, List.mem_of_getElem? (i := 19) (by decide +kernel), List.mem_of_getElem? (i := 213) (by decide +kernel), List.mem_of_getElem? (i := 214) (by decide +kernel)⟩
theorem lw_p2 : lw_okq (⟨"RecordCalls$Row", "makeRoom", "(I)V"⟩, 2) := ⟨⟨by decide +kernel, by decide +kernel⟩, List.mem_of_getElem? (i := 27) (by decide +kernel), List.mem_of_getElem? (i := 229) (by decide +kernel), List.mem_of_getElem? (i := 230) (by decide +kernel)⟩
theorem lw_p3 : lw_okq (⟨"RecordCalls", "tapeIsSlot", "()I"⟩, 7) := ⟨⟨by decide +kernel, by decide +kernel⟩, List.mem_of_getElem? (i := 19) (by decide +kernel), List.mem_of_getElem? (i := 253) (by decide +kernel), List.mem_of_getElem? (i := 254) (by decide +kernel)⟩
theorem lw_p4 : lw_okq (⟨"RecordCalls", "placeOfTape", "()I"⟩, 7) := ⟨⟨by decide +kernel, by decide +kernel⟩, List.mem_of_getElem? (i := 19) (by decide +kernel), List.mem_of_getElem? (i := 261) (by decide +kernel), List.mem_of_getElem? (i := 262) (by decide +kernel)⟩
theorem lw_p5 : lw_okq (⟨"java/lang/Throwable", "fillInStackTrace", "(I)Ljava/lang/Throwable;"⟩, 6) := ⟨⟨by decide +kernel, by decide +kernel⟩, List.mem_of_getElem? (i := 335) (by decide +kernel), List.mem_of_getElem? (i := 333) (by decide +kernel), List.mem_of_getElem? (i := 334) (by decide +kernel)⟩
theorem lw_p6 : lw_okq (⟨"RecordCalls", "addOneFragment", "(LRecordCalls$Row;)V"⟩, 7) := ⟨⟨by decide +kernel, by decide +kernel⟩, List.mem_of_getElem? (i := 19) (by decide +kernel), List.mem_of_getElem? (i := 431) (by decide +kernel), List.mem_of_getElem? (i := 432) (by decide +kernel)⟩
theorem lw_p7 : lw_okq (⟨"RecordCalls", "isSlot", "(I)Z"⟩, 7) := ⟨⟨by decide +kernel, by decide +kernel⟩, List.mem_of_getElem? (i := 19) (by decide +kernel), List.mem_of_getElem? (i := 446) (by decide +kernel), List.mem_of_getElem? (i := 447) (by decide +kernel)⟩
theorem lw_p8 : lw_okq (⟨"RecordCalls$Connection", "takeHead", "(I)V"⟩, 6) := ⟨⟨by decide +kernel, by decide +kernel⟩, List.mem_of_getElem? (i := 133) (by decide +kernel), List.mem_of_getElem? (i := 470) (by decide +kernel), List.mem_of_getElem? (i := 471) (by decide +kernel)⟩
theorem lw_p9 : lw_okq (⟨"RecordCalls$Server", "verdictOn", "(LRecordCalls$Row;)I"⟩, 13) := ⟨⟨by decide +kernel, by decide +kernel⟩, List.mem_of_getElem? (i := 44) (by decide +kernel), List.mem_of_getElem? (i := 491) (by decide +kernel), List.mem_of_getElem? (i := 492) (by decide +kernel)⟩
theorem lw_p10 : lw_okq (⟨"RecordCalls$Server", "verdictOnVersion", "(I)I"⟩, 13) := ⟨⟨by decide +kernel, by decide +kernel⟩, List.mem_of_getElem? (i := 44) (by decide +kernel), List.mem_of_getElem? (i := 517) (by decide +kernel), List.mem_of_getElem? (i := 518) (by decide +kernel)⟩
theorem lw_p11 : lw_okq (⟨"RecordCalls$Server", "isTaken", "()Z"⟩, 13) := ⟨⟨by decide +kernel, by decide +kernel⟩, List.mem_of_getElem? (i := 44) (by decide +kernel), List.mem_of_getElem? (i := 521) (by decide +kernel), List.mem_of_getElem? (i := 522) (by decide +kernel)⟩
theorem lw_p12 : lw_okq (⟨"RecordCalls$Server", "takeKey", "()V"⟩, 13) := ⟨⟨by decide +kernel, by decide +kernel⟩, List.mem_of_getElem? (i := 44) (by decide +kernel), List.mem_of_getElem? (i := 525) (by decide +kernel), List.mem_of_getElem? (i := 526) (by decide +kernel)⟩
theorem lw_p13 : lw_okq (⟨"RecordCalls$Server", "takeKeys", "()V"⟩, 13) := ⟨⟨by decide +kernel, by decide +kernel⟩, List.mem_of_getElem? (i := 44) (by decide +kernel), List.mem_of_getElem? (i := 542) (by decide +kernel), List.mem_of_getElem? (i := 543) (by decide +kernel)⟩
theorem lw_p14 : lw_okq (⟨"RecordCalls$Server", "beginReply", "(II)V"⟩, 13) := ⟨⟨by decide +kernel, by decide +kernel⟩, List.mem_of_getElem? (i := 44) (by decide +kernel), List.mem_of_getElem? (i := 550) (by decide +kernel), List.mem_of_getElem? (i := 551) (by decide +kernel)⟩
theorem lw_p15 : lw_okq (⟨"RecordCalls$Server", "give", "()V"⟩, 13) := ⟨⟨by decide +kernel, by decide +kernel⟩, List.mem_of_getElem? (i := 44) (by decide +kernel), List.mem_of_getElem? (i := 557) (by decide +kernel), List.mem_of_getElem? (i := 558) (by decide +kernel)⟩
def lw_privs_1 : List (MethodName × Nat) := [(⟨"RecordCalls", "newSlot", "()LRecordCalls$Row;"⟩, 7), (⟨"RecordCalls", "slotRow", "(I)LRecordCalls$Row;"⟩, 7), (⟨"RecordCalls$Row", "makeRoom", "(I)V"⟩, 2), (⟨"RecordCalls", "tapeIsSlot", "()I"⟩, 7), (⟨"RecordCalls", "placeOfTape", "()I"⟩, 7), (⟨"java/lang/Throwable", "fillInStackTrace", "(I)Ljava/lang/Throwable;"⟩, 6), (⟨"RecordCalls", "addOneFragment", "(LRecordCalls$Row;)V"⟩, 7), (⟨"RecordCalls", "isSlot", "(I)Z"⟩, 7), (⟨"RecordCalls$Connection", "takeHead", "(I)V"⟩, 6), (⟨"RecordCalls$Server", "verdictOn", "(LRecordCalls$Row;)I"⟩, 13), (⟨"RecordCalls$Server", "verdictOnVersion", "(I)I"⟩, 13), (⟨"RecordCalls$Server", "isTaken", "()Z"⟩, 13), (⟨"RecordCalls$Server", "takeKey", "()V"⟩, 13), (⟨"RecordCalls$Server", "takeKeys", "()V"⟩, 13), (⟨"RecordCalls$Server", "beginReply", "(II)V"⟩, 13), (⟨"RecordCalls$Server", "give", "()V"⟩, 13)]
theorem lw_r1 : ∀ q ∈ lw_privs_1, lw_okq q := List.forall_mem_cons.mpr ⟨lw_p0, List.forall_mem_cons.mpr ⟨lw_p1, List.forall_mem_cons.mpr ⟨lw_p2, List.forall_mem_cons.mpr ⟨lw_p3, List.forall_mem_cons.mpr ⟨lw_p4, List.forall_mem_cons.mpr ⟨lw_p5, List.forall_mem_cons.mpr ⟨lw_p6, List.forall_mem_cons.mpr ⟨lw_p7, List.forall_mem_cons.mpr ⟨lw_p8, List.forall_mem_cons.mpr ⟨lw_p9, List.forall_mem_cons.mpr ⟨lw_p10, List.forall_mem_cons.mpr ⟨lw_p11, List.forall_mem_cons.mpr ⟨lw_p12, List.forall_mem_cons.mpr ⟨lw_p13, List.forall_mem_cons.mpr ⟨lw_p14, List.forall_mem_cons.mpr ⟨lw_p15, fun _ h => absurd h List.not_mem_nil⟩⟩⟩⟩⟩⟩⟩⟩⟩⟩⟩⟩⟩⟩⟩⟩
theorem lw_p16 : lw_okq (⟨"RecordCalls$Server", "giveSet", "()V"⟩, 13) := ⟨⟨by decide +kernel, by decide +kernel⟩, List.mem_of_getElem? (i := 44) (by decide +kernel), List.mem_of_getElem? (i := 561) (by decide +kernel), List.mem_of_getElem? (i := 562) (by decide +kernel)⟩
theorem lw_p17 : lw_okq (⟨"RecordCalls$Server", "placeTaken", "(I)I"⟩, 13) := ⟨⟨by decide +kernel, by decide +kernel⟩, List.mem_of_getElem? (i := 44) (by decide +kernel), List.mem_of_getElem? (i := 565) (by decide +kernel), List.mem_of_getElem? (i := 566) (by decide +kernel)⟩
theorem lw_p18 : lw_okq (⟨"RecordCalls$Server", "giveValueAt", "(I)V"⟩, 13) := ⟨⟨by decide +kernel, by decide +kernel⟩, List.mem_of_getElem? (i := 44) (by decide +kernel), List.mem_of_getElem? (i := 595) (by decide +kernel), List.mem_of_getElem? (i := 596) (by decide +kernel)⟩
theorem lw_p19 : lw_okq (⟨"RecordCalls$Server", "giveSum", "()V"⟩, 13) := ⟨⟨by decide +kernel, by decide +kernel⟩, List.mem_of_getElem? (i := 44) (by decide +kernel), List.mem_of_getElem? (i := 603) (by decide +kernel), List.mem_of_getElem? (i := 604) (by decide +kernel)⟩
theorem lw_p20 : lw_okq (⟨"RecordCalls$Server", "giveList", "()V"⟩, 13) := ⟨⟨by decide +kernel, by decide +kernel⟩, List.mem_of_getElem? (i := 44) (by decide +kernel), List.mem_of_getElem? (i := 607) (by decide +kernel), List.mem_of_getElem? (i := 608) (by decide +kernel)⟩
theorem lw_p21 : lw_okq (⟨"RecordCalls$Server", "giveRemoved", "()V"⟩, 13) := ⟨⟨by decide +kernel, by decide +kernel⟩, List.mem_of_getElem? (i := 44) (by decide +kernel), List.mem_of_getElem? (i := 622) (by decide +kernel), List.mem_of_getElem? (i := 623) (by decide +kernel)⟩
theorem lw_p22 : lw_okq (⟨"RecordCalls", "addReply", "(LRecordCalls$Row;)I"⟩, 7) := ⟨⟨by decide +kernel, by decide +kernel⟩, List.mem_of_getElem? (i := 19) (by decide +kernel), List.mem_of_getElem? (i := 642) (by decide +kernel), List.mem_of_getElem? (i := 643) (by decide +kernel)⟩
theorem lw_p23 : lw_okq (⟨"RecordCalls", "isJoined", "(LRecordCalls$Row;)Z"⟩, 7) := ⟨⟨by decide +kernel, by decide +kernel⟩, List.mem_of_getElem? (i := 19) (by decide +kernel), List.mem_of_getElem? (i := 687) (by decide +kernel), List.mem_of_getElem? (i := 688) (by decide +kernel)⟩
theorem lw_p24 : lw_okq (⟨"RecordCallsModel", "newSlot", "()I"⟩, 34) := ⟨⟨by decide +kernel, by decide +kernel⟩, List.mem_of_getElem? (i := 713) (by decide +kernel), List.mem_of_getElem? (i := 832) (by decide +kernel), List.mem_of_getElem? (i := 833) (by decide +kernel)⟩
theorem lw_p25 : lw_okq (⟨"RecordCallsModel", "slotByte", "(II)V"⟩, 34) := ⟨⟨by decide +kernel, by decide +kernel⟩, List.mem_of_getElem? (i := 713) (by decide +kernel), List.mem_of_getElem? (i := 836) (by decide +kernel), List.mem_of_getElem? (i := 837) (by decide +kernel)⟩
theorem lw_p26 : lw_okq (⟨"RecordCallsModel", "slotWord", "(II)V"⟩, 34) := ⟨⟨by decide +kernel, by decide +kernel⟩, List.mem_of_getElem? (i := 713) (by decide +kernel), List.mem_of_getElem? (i := 848) (by decide +kernel), List.mem_of_getElem? (i := 849) (by decide +kernel)⟩
theorem lw_p27 : lw_okq (⟨"RecordCallsModel", "isSlot", "(I)Z"⟩, 34) := ⟨⟨by decide +kernel, by decide +kernel⟩, List.mem_of_getElem? (i := 713) (by decide +kernel), List.mem_of_getElem? (i := 861) (by decide +kernel), List.mem_of_getElem? (i := 862) (by decide +kernel)⟩
theorem lw_p28 : lw_okq (⟨"RecordCallsModel", "take", "(II)Z"⟩, 34) := ⟨⟨by decide +kernel, by decide +kernel⟩, List.mem_of_getElem? (i := 713) (by decide +kernel), List.mem_of_getElem? (i := 865) (by decide +kernel), List.mem_of_getElem? (i := 866) (by decide +kernel)⟩
theorem lw_p29 : lw_okq (⟨"RecordCallsModel", "serve", "()Z"⟩, 34) := ⟨⟨by decide +kernel, by decide +kernel⟩, List.mem_of_getElem? (i := 713) (by decide +kernel), List.mem_of_getElem? (i := 869) (by decide +kernel), List.mem_of_getElem? (i := 870) (by decide +kernel)⟩
theorem lw_p30 : lw_okq (⟨"RecordCallsModel", "recordWord", "(I)I"⟩, 34) := ⟨⟨by decide +kernel, by decide +kernel⟩, List.mem_of_getElem? (i := 713) (by decide +kernel), List.mem_of_getElem? (i := 873) (by decide +kernel), List.mem_of_getElem? (i := 874) (by decide +kernel)⟩
theorem lw_p31 : lw_okq (⟨"RecordCallsModel", "send", "(I)V"⟩, 34) := ⟨⟨by decide +kernel, by decide +kernel⟩, List.mem_of_getElem? (i := 713) (by decide +kernel), List.mem_of_getElem? (i := 877) (by decide +kernel), List.mem_of_getElem? (i := 878) (by decide +kernel)⟩
def lw_privs_2 : List (MethodName × Nat) := [(⟨"RecordCalls$Server", "giveSet", "()V"⟩, 13), (⟨"RecordCalls$Server", "placeTaken", "(I)I"⟩, 13), (⟨"RecordCalls$Server", "giveValueAt", "(I)V"⟩, 13), (⟨"RecordCalls$Server", "giveSum", "()V"⟩, 13), (⟨"RecordCalls$Server", "giveList", "()V"⟩, 13), (⟨"RecordCalls$Server", "giveRemoved", "()V"⟩, 13), (⟨"RecordCalls", "addReply", "(LRecordCalls$Row;)I"⟩, 7), (⟨"RecordCalls", "isJoined", "(LRecordCalls$Row;)Z"⟩, 7), (⟨"RecordCallsModel", "newSlot", "()I"⟩, 34), (⟨"RecordCallsModel", "slotByte", "(II)V"⟩, 34), (⟨"RecordCallsModel", "slotWord", "(II)V"⟩, 34), (⟨"RecordCallsModel", "isSlot", "(I)Z"⟩, 34), (⟨"RecordCallsModel", "take", "(II)Z"⟩, 34), (⟨"RecordCallsModel", "serve", "()Z"⟩, 34), (⟨"RecordCallsModel", "recordWord", "(I)I"⟩, 34), (⟨"RecordCallsModel", "send", "(I)V"⟩, 34)]
theorem lw_r2 : ∀ q ∈ lw_privs_2, lw_okq q := List.forall_mem_cons.mpr ⟨lw_p16, List.forall_mem_cons.mpr ⟨lw_p17, List.forall_mem_cons.mpr ⟨lw_p18, List.forall_mem_cons.mpr ⟨lw_p19, List.forall_mem_cons.mpr ⟨lw_p20, List.forall_mem_cons.mpr ⟨lw_p21, List.forall_mem_cons.mpr ⟨lw_p22, List.forall_mem_cons.mpr ⟨lw_p23, List.forall_mem_cons.mpr ⟨lw_p24, List.forall_mem_cons.mpr ⟨lw_p25, List.forall_mem_cons.mpr ⟨lw_p26, List.forall_mem_cons.mpr ⟨lw_p27, List.forall_mem_cons.mpr ⟨lw_p28, List.forall_mem_cons.mpr ⟨lw_p29, List.forall_mem_cons.mpr ⟨lw_p30, List.forall_mem_cons.mpr ⟨lw_p31, fun _ h => absurd h List.not_mem_nil⟩⟩⟩⟩⟩⟩⟩⟩⟩⟩⟩⟩⟩⟩⟩⟩
theorem lw_p32 : lw_okq (⟨"RecordCallsModel", "judge", "(I)Z"⟩, 34) := ⟨⟨by decide +kernel, by decide +kernel⟩, List.mem_of_getElem? (i := 713) (by decide +kernel), List.mem_of_getElem? (i := 881) (by decide +kernel), List.mem_of_getElem? (i := 882) (by decide +kernel)⟩
theorem lw_p33 : lw_okq (⟨"RecordCallsModel", "nextWord", "()I"⟩, 34) := ⟨⟨by decide +kernel, by decide +kernel⟩, List.mem_of_getElem? (i := 713) (by decide +kernel), List.mem_of_getElem? (i := 885) (by decide +kernel), List.mem_of_getElem? (i := 886) (by decide +kernel)⟩
theorem lw_p34 : lw_okq (⟨"RecordCallsModel", "hasBytes", "(I)Z"⟩, 34) := ⟨⟨by decide +kernel, by decide +kernel⟩, List.mem_of_getElem? (i := 713) (by decide +kernel), List.mem_of_getElem? (i := 889) (by decide +kernel), List.mem_of_getElem? (i := 890) (by decide +kernel)⟩
theorem lw_p35 : lw_okq (⟨"RecordCallsModel", "refuse", "(III)Z"⟩, 34) := ⟨⟨by decide +kernel, by decide +kernel⟩, List.mem_of_getElem? (i := 713) (by decide +kernel), List.mem_of_getElem? (i := 893) (by decide +kernel), List.mem_of_getElem? (i := 894) (by decide +kernel)⟩
theorem lw_p36 : lw_okq (⟨"RecordCallsModel", "outWord", "(I)V"⟩, 34) := ⟨⟨by decide +kernel, by decide +kernel⟩, List.mem_of_getElem? (i := 713) (by decide +kernel), List.mem_of_getElem? (i := 897) (by decide +kernel), List.mem_of_getElem? (i := 898) (by decide +kernel)⟩
theorem lw_p37 : lw_okq (⟨"RecordCallsModel", "nextBytes", "(I)I"⟩, 34) := ⟨⟨by decide +kernel, by decide +kernel⟩, List.mem_of_getElem? (i := 713) (by decide +kernel), List.mem_of_getElem? (i := 901) (by decide +kernel), List.mem_of_getElem? (i := 902) (by decide +kernel)⟩
theorem lw_p38 : lw_okq (⟨"RecordCallsModel", "accept", "(II)Z"⟩, 34) := ⟨⟨by decide +kernel, by decide +kernel⟩, List.mem_of_getElem? (i := 713) (by decide +kernel), List.mem_of_getElem? (i := 905) (by decide +kernel), List.mem_of_getElem? (i := 906) (by decide +kernel)⟩
theorem lw_p39 : lw_okq (⟨"RecordCallsModel", "takes", "(I)Z"⟩, 34) := ⟨⟨by decide +kernel, by decide +kernel⟩, List.mem_of_getElem? (i := 713) (by decide +kernel), List.mem_of_getElem? (i := 909) (by decide +kernel), List.mem_of_getElem? (i := 910) (by decide +kernel)⟩
theorem lw_p40 : lw_okq (⟨"RecordCallsModel", "nextLong", "()J"⟩, 34) := ⟨⟨by decide +kernel, by decide +kernel⟩, List.mem_of_getElem? (i := 713) (by decide +kernel), List.mem_of_getElem? (i := 913) (by decide +kernel), List.mem_of_getElem? (i := 914) (by decide +kernel)⟩
theorem lw_p41 : lw_okq (⟨"RecordCallsModel", "run", "(I)V"⟩, 34) := ⟨⟨by decide +kernel, by decide +kernel⟩, List.mem_of_getElem? (i := 713) (by decide +kernel), List.mem_of_getElem? (i := 918) (by decide +kernel), List.mem_of_getElem? (i := 919) (by decide +kernel)⟩
theorem lw_p42 : lw_okq (⟨"RecordCallsModel", "runSum", "()V"⟩, 34) := ⟨⟨by decide +kernel, by decide +kernel⟩, List.mem_of_getElem? (i := 713) (by decide +kernel), List.mem_of_getElem? (i := 922) (by decide +kernel), List.mem_of_getElem? (i := 923) (by decide +kernel)⟩
theorem lw_p43 : lw_okq (⟨"RecordCallsModel", "place", "()I"⟩, 34) := ⟨⟨by decide +kernel, by decide +kernel⟩, List.mem_of_getElem? (i := 713) (by decide +kernel), List.mem_of_getElem? (i := 926) (by decide +kernel), List.mem_of_getElem? (i := 927) (by decide +kernel)⟩
theorem lw_p44 : lw_okq (⟨"RecordCallsModel", "outLong", "(J)V"⟩, 34) := ⟨⟨by decide +kernel, by decide +kernel⟩, List.mem_of_getElem? (i := 713) (by decide +kernel), List.mem_of_getElem? (i := 930) (by decide +kernel), List.mem_of_getElem? (i := 931) (by decide +kernel)⟩
theorem lw_p45 : lw_okq (⟨"RecordCallsModel", "runList", "()V"⟩, 34) := ⟨⟨by decide +kernel, by decide +kernel⟩, List.mem_of_getElem? (i := 713) (by decide +kernel), List.mem_of_getElem? (i := 934) (by decide +kernel), List.mem_of_getElem? (i := 935) (by decide +kernel)⟩
theorem lw_p46 : lw_okq (⟨"RecordCallsModel", "runPut", "(IJ)V"⟩, 34) := ⟨⟨by decide +kernel, by decide +kernel⟩, List.mem_of_getElem? (i := 713) (by decide +kernel), List.mem_of_getElem? (i := 938) (by decide +kernel), List.mem_of_getElem? (i := 939) (by decide +kernel)⟩
theorem lw_p47 : lw_okq (⟨"RecordCallsModel", "remove", "(I)V"⟩, 34) := ⟨⟨by decide +kernel, by decide +kernel⟩, List.mem_of_getElem? (i := 713) (by decide +kernel), List.mem_of_getElem? (i := 942) (by decide +kernel), List.mem_of_getElem? (i := 943) (by decide +kernel)⟩
def lw_privs_3 : List (MethodName × Nat) := [(⟨"RecordCallsModel", "judge", "(I)Z"⟩, 34), (⟨"RecordCallsModel", "nextWord", "()I"⟩, 34), (⟨"RecordCallsModel", "hasBytes", "(I)Z"⟩, 34), (⟨"RecordCallsModel", "refuse", "(III)Z"⟩, 34), (⟨"RecordCallsModel", "outWord", "(I)V"⟩, 34), (⟨"RecordCallsModel", "nextBytes", "(I)I"⟩, 34), (⟨"RecordCallsModel", "accept", "(II)Z"⟩, 34), (⟨"RecordCallsModel", "takes", "(I)Z"⟩, 34), (⟨"RecordCallsModel", "nextLong", "()J"⟩, 34), (⟨"RecordCallsModel", "run", "(I)V"⟩, 34), (⟨"RecordCallsModel", "runSum", "()V"⟩, 34), (⟨"RecordCallsModel", "place", "()I"⟩, 34), (⟨"RecordCallsModel", "outLong", "(J)V"⟩, 34), (⟨"RecordCallsModel", "runList", "()V"⟩, 34), (⟨"RecordCallsModel", "runPut", "(IJ)V"⟩, 34), (⟨"RecordCallsModel", "remove", "(I)V"⟩, 34)]
theorem lw_r3 : ∀ q ∈ lw_privs_3, lw_okq q := List.forall_mem_cons.mpr ⟨lw_p32, List.forall_mem_cons.mpr ⟨lw_p33, List.forall_mem_cons.mpr ⟨lw_p34, List.forall_mem_cons.mpr ⟨lw_p35, List.forall_mem_cons.mpr ⟨lw_p36, List.forall_mem_cons.mpr ⟨lw_p37, List.forall_mem_cons.mpr ⟨lw_p38, List.forall_mem_cons.mpr ⟨lw_p39, List.forall_mem_cons.mpr ⟨lw_p40, List.forall_mem_cons.mpr ⟨lw_p41, List.forall_mem_cons.mpr ⟨lw_p42, List.forall_mem_cons.mpr ⟨lw_p43, List.forall_mem_cons.mpr ⟨lw_p44, List.forall_mem_cons.mpr ⟨lw_p45, List.forall_mem_cons.mpr ⟨lw_p46, List.forall_mem_cons.mpr ⟨lw_p47, fun _ h => absurd h List.not_mem_nil⟩⟩⟩⟩⟩⟩⟩⟩⟩⟩⟩⟩⟩⟩⟩⟩
theorem lw_p48 : lw_okq (⟨"RecordCallsModel", "keep", "(II)V"⟩, 34) := ⟨⟨by decide +kernel, by decide +kernel⟩, List.mem_of_getElem? (i := 713) (by decide +kernel), List.mem_of_getElem? (i := 946) (by decide +kernel), List.mem_of_getElem? (i := 947) (by decide +kernel)⟩
theorem lw_p49 : lw_okq (⟨"RecordCallsModel", "wordIn", "(II)I"⟩, 34) := ⟨⟨by decide +kernel, by decide +kernel⟩, List.mem_of_getElem? (i := 713) (by decide +kernel), List.mem_of_getElem? (i := 974) (by decide +kernel), List.mem_of_getElem? (i := 975) (by decide +kernel)⟩
theorem lw_p50 : lw_okq (⟨"RecordCallsModel", "wholeRecord", "(I)I"⟩, 34) := ⟨⟨by decide +kernel, by decide +kernel⟩, List.mem_of_getElem? (i := 713) (by decide +kernel), List.mem_of_getElem? (i := 982) (by decide +kernel), List.mem_of_getElem? (i := 983) (by decide +kernel)⟩
theorem lw_p51 : lw_okq (⟨"RecordCallsModel", "pushedWord", "(I)I"⟩, 34) := ⟨⟨by decide +kernel, by decide +kernel⟩, List.mem_of_getElem? (i := 713) (by decide +kernel), List.mem_of_getElem? (i := 986) (by decide +kernel), List.mem_of_getElem? (i := 987) (by decide +kernel)⟩
theorem lw_p52 : lw_okq (⟨"RecordCallsModel", "tapePlace", "()I"⟩, 34) := ⟨⟨by decide +kernel, by decide +kernel⟩, List.mem_of_getElem? (i := 713) (by decide +kernel), List.mem_of_getElem? (i := 994) (by decide +kernel), List.mem_of_getElem? (i := 995) (by decide +kernel)⟩
def lw_privs_4 : List (MethodName × Nat) := [(⟨"RecordCallsModel", "keep", "(II)V"⟩, 34), (⟨"RecordCallsModel", "wordIn", "(II)I"⟩, 34), (⟨"RecordCallsModel", "wholeRecord", "(I)I"⟩, 34), (⟨"RecordCallsModel", "pushedWord", "(I)I"⟩, 34), (⟨"RecordCallsModel", "tapePlace", "()I"⟩, 34)]
theorem lw_r4 : ∀ q ∈ lw_privs_4, lw_okq q := List.forall_mem_cons.mpr ⟨lw_p48, List.forall_mem_cons.mpr ⟨lw_p49, List.forall_mem_cons.mpr ⟨lw_p50, List.forall_mem_cons.mpr ⟨lw_p51, List.forall_mem_cons.mpr ⟨lw_p52, fun _ h => absurd h List.not_mem_nil⟩⟩⟩⟩⟩
def lw_privs : List (MethodName × Nat) := lw_privs_1 ++ (lw_privs_2 ++ (lw_privs_3 ++ (lw_privs_4)))
def lw_tbl : List Cond := k2_sels lw_privs ++ tables_1
theorem lw_privs_ok : ∀ q ∈ lw_privs, lw_okq q := by
  show ∀ q ∈ lw_privs_1 ++ (lw_privs_2 ++ (lw_privs_3 ++ (lw_privs_4))), lw_okq q
  exact List.forall_mem_append.mpr ⟨lw_r1, List.forall_mem_append.mpr ⟨lw_r2, List.forall_mem_append.mpr ⟨lw_r3, lw_r4⟩⟩⟩
end
section
def rc_kind : Cond → Bool
  | .code .. | .codeSync .. | .codeWith .. | .static _ | .instanceMethod _ | .native _ | .initialized _ | .methodLink .. | .fieldLink .. | .classLink .. | .methodLinkNest .. | .fieldLinkNest .. | .selects .. | .sameMethod .. | .constant .. | .constantLong .. | .declares _ | .privateMethod _ | .castable .. | .lays .. | .laysFinal .. | .instantiable .. | .superclass .. | .soleField .. | .arrayClass _ | .arrayOver (.object _) => true
  | _ => false
/-- the tables but what speaks of the heap -/
def rc_tb : List Cond := lw_tbl.filter rc_kind
theorem rc_kinds : ∀ w ∈ rc_tb, rc_kind w = true := fun w h => (List.mem_filter.mp h).2
def rc_R : Nat → String
  | 0 => "RecordCalls"
  | 1 => "RecordCalls$Row"
  | 2 => "RecordCalls$Server"
  | 3 => "RecordCalls$KeyMap"
  | 4 => "RecordCalls$Reader"
  | 5 => "RecordCalls$Connection"
  | 6 => "RecordCalls$Replies"
  | _ => "RecordCallsModel"
def rc_N : Nat → Nat
  | 0 => 7
  | 1 => 2
  | 2 => 13
  | 3 => 3
  | 4 => 3
  | 5 => 6
  | 6 => 4
  | _ => 34
def rc_F0 : u_T := fun k => match k with
  | 0 => ("RecordCalls", "tape", "LRecordCalls$Row;", true)
  | 1 => ("RecordCalls", "slots", "[LRecordCalls$Row;", true)
  | 2 => ("RecordCalls", "connections", "[LRecordCalls$Connection;", true)
  | 3 => ("RecordCalls", "server", "LRecordCalls$Server;", true)
  | 4 => ("RecordCalls", "pushed", "LRecordCalls$Row;", true)
  | 5 => ("RecordCalls", "joined", "LRecordCalls$Row;", true)
  | _ => ("RecordCalls", "slotsMade", "I", false)
def rc_t0 : Nat → FieldType := fun k => match k with
  | 0 => .object "RecordCalls$Row"
  | 1 => .array (.object "RecordCalls$Row")
  | 2 => .array (.object "RecordCalls$Connection")
  | 3 => .object "RecordCalls$Server"
  | 4 => .object "RecordCalls$Row"
  | 5 => .object "RecordCalls$Row"
  | _ => .int
def rc_F1 : u_T := fun k => match k with
  | 0 => ("RecordCalls$Row", "bytes", "[B", false)
  | _ => ("RecordCalls$Row", "used", "I", false)
def rc_t1 : Nat → FieldType := fun k => match k with
  | 0 => .array (.byte)
  | _ => .int
def rc_F2 : u_T := fun k => match k with
  | 0 => ("RecordCalls$Server", "map", "LRecordCalls$KeyMap;", true)
  | 1 => ("RecordCalls$Server", "reader", "LRecordCalls$Reader;", true)
  | 2 => ("RecordCalls$Server", "reply", "LRecordCalls$Row;", true)
  | 3 => ("RecordCalls$Server", "done", "I", false)
  | 4 => ("RecordCalls$Server", "repeated", "I", false)
  | 5 => ("RecordCalls$Server", "bad", "I", false)
  | 6 => ("RecordCalls$Server", "keyStarts", "[I", true)
  | 7 => ("RecordCalls$Server", "keySizes", "[I", true)
  | 8 => ("RecordCalls$Server", "procedure", "I", false)
  | 9 => ("RecordCalls$Server", "keysTaken", "I", false)
  | 10 => ("RecordCalls$Server", "longTaken", "J", false)
  | 11 => ("RecordCalls$Server", "from", "I", false)
  | _ => ("RecordCalls$Server", "most", "I", false)
def rc_t2 : Nat → FieldType := fun k => match k with
  | 0 => .object "RecordCalls$KeyMap"
  | 1 => .object "RecordCalls$Reader"
  | 2 => .object "RecordCalls$Row"
  | 3 => .int
  | 4 => .int
  | 5 => .int
  | 6 => .array (.int)
  | 7 => .array (.int)
  | 8 => .int
  | 9 => .int
  | 10 => .long
  | 11 => .int
  | _ => .int
def rc_F3 : u_T := fun k => match k with
  | 0 => ("RecordCalls$KeyMap", "keys", "[LRecordCalls$Row;", true)
  | 1 => ("RecordCalls$KeyMap", "values", "[J", true)
  | _ => ("RecordCalls$KeyMap", "used", "I", false)
def rc_t3 : Nat → FieldType := fun k => match k with
  | 0 => .array (.object "RecordCalls$Row")
  | 1 => .array (.long)
  | _ => .int
def rc_F4 : u_T := fun k => match k with
  | 0 => ("RecordCalls$Reader", "row", "LRecordCalls$Row;", false)
  | 1 => ("RecordCalls$Reader", "at", "I", false)
  | _ => ("RecordCalls$Reader", "good", "Z", false)
def rc_t4 : Nat → FieldType := fun k => match k with
  | 0 => .object "RecordCalls$Row"
  | 1 => .int
  | _ => .boolean
def rc_F5 : u_T := fun k => match k with
  | 0 => ("RecordCalls$Connection", "gathered", "LRecordCalls$Row;", true)
  | 1 => ("RecordCalls$Connection", "replies", "LRecordCalls$Replies;", true)
  | 2 => ("RecordCalls$Connection", "broken", "Z", false)
  | 3 => ("RecordCalls$Connection", "head", "I", false)
  | 4 => ("RecordCalls$Connection", "headBytes", "I", false)
  | _ => ("RecordCalls$Connection", "bytesLeft", "I", false)
def rc_t5 : Nat → FieldType := fun k => match k with
  | 0 => .object "RecordCalls$Row"
  | 1 => .object "RecordCalls$Replies"
  | 2 => .boolean
  | 3 => .int
  | 4 => .int
  | _ => .int
def rc_F6 : u_T := fun k => match k with
  | 0 => ("RecordCalls$Replies", "rows", "[LRecordCalls$Row;", true)
  | 1 => ("RecordCalls$Replies", "numbers", "[I", true)
  | 2 => ("RecordCalls$Replies", "kept", "I", false)
  | _ => ("RecordCalls$Replies", "oldest", "I", false)
def rc_t6 : Nat → FieldType := fun k => match k with
  | 0 => .array (.object "RecordCalls$Row")
  | 1 => .array (.int)
  | 2 => .int
  | _ => .int
def rc_F7 : u_T := fun k => match k with
  | 0 => ("RecordCallsModel", "thrown", "I", false)
  | 1 => ("RecordCallsModel", "tape", "[I", true)
  | 2 => ("RecordCallsModel", "tapeSize", "I", false)
  | 3 => ("RecordCallsModel", "slots", "[B", true)
  | 4 => ("RecordCallsModel", "lengths", "[I", true)
  | 5 => ("RecordCallsModel", "made", "I", false)
  | 6 => ("RecordCallsModel", "pushed", "[B", true)
  | 7 => ("RecordCallsModel", "keyBytes", "[B", true)
  | 8 => ("RecordCallsModel", "keySizes", "[I", true)
  | 9 => ("RecordCallsModel", "values", "[J", true)
  | 10 => ("RecordCallsModel", "keys", "I", false)
  | 11 => ("RecordCallsModel", "records", "[B", true)
  | 12 => ("RecordCallsModel", "sizes", "[I", true)
  | 13 => ("RecordCallsModel", "wordSizes", "[I", true)
  | 14 => ("RecordCallsModel", "words", "[I", true)
  | 15 => ("RecordCallsModel", "left", "[I", true)
  | 16 => ("RecordCallsModel", "last", "[Z", true)
  | 17 => ("RecordCallsModel", "inside", "[Z", true)
  | 18 => ("RecordCallsModel", "broken", "[Z", true)
  | 19 => ("RecordCallsModel", "replyNumber", "[I", true)
  | 20 => ("RecordCallsModel", "replySize", "[I", true)
  | 21 => ("RecordCallsModel", "replyBytes", "[B", true)
  | 22 => ("RecordCallsModel", "replies", "[I", true)
  | 23 => ("RecordCallsModel", "done", "I", false)
  | 24 => ("RecordCallsModel", "repeated", "I", false)
  | 25 => ("RecordCallsModel", "bad", "I", false)
  | 26 => ("RecordCallsModel", "of", "I", false)
  | 27 => ("RecordCallsModel", "at", "I", false)
  | 28 => ("RecordCallsModel", "right", "Z", false)
  | 29 => ("RecordCallsModel", "keyAt", "I", false)
  | 30 => ("RecordCallsModel", "keySize", "I", false)
  | 31 => ("RecordCallsModel", "out", "[B", true)
  | 32 => ("RecordCallsModel", "outSize", "I", false)
  | _ => ("RecordCallsModel", "taken", "I", false)
def rc_t7 : Nat → FieldType := fun k => match k with
  | 0 => .int
  | 1 => .array (.int)
  | 2 => .int
  | 3 => .array (.byte)
  | 4 => .array (.int)
  | 5 => .int
  | 6 => .array (.byte)
  | 7 => .array (.byte)
  | 8 => .array (.int)
  | 9 => .array (.long)
  | 10 => .int
  | 11 => .array (.byte)
  | 12 => .array (.int)
  | 13 => .array (.int)
  | 14 => .array (.int)
  | 15 => .array (.int)
  | 16 => .array (.boolean)
  | 17 => .array (.boolean)
  | 18 => .array (.boolean)
  | 19 => .array (.int)
  | 20 => .array (.int)
  | 21 => .array (.byte)
  | 22 => .array (.int)
  | 23 => .int
  | 24 => .int
  | 25 => .int
  | 26 => .int
  | 27 => .int
  | 28 => .boolean
  | 29 => .int
  | 30 => .int
  | 31 => .array (.byte)
  | 32 => .int
  | _ => .int
def rc_F : Nat → u_T
  | 0 => rc_F0
  | 1 => rc_F1
  | 2 => rc_F2
  | 3 => rc_F3
  | 4 => rc_F4
  | 5 => rc_F5
  | 6 => rc_F6
  | _ => rc_F7
def rc_t : Nat → Nat → FieldType
  | 0 => rc_t0
  | 1 => rc_t1
  | 2 => rc_t2
  | 3 => rc_t3
  | 4 => rc_t4
  | 5 => rc_t5
  | 6 => rc_t6
  | _ => rc_t7
def rc_cl : List vw_C := [(rc_R 0, rc_F 0, rc_N 0), (rc_R 1, rc_F 1, rc_N 1), (rc_R 2, rc_F 2, rc_N 2), (rc_R 3, rc_F 3, rc_N 3), (rc_R 4, rc_F 4, rc_N 4), (rc_R 5, rc_F 5, rc_N 5), (rc_R 6, rc_F 6, rc_N 6), (rc_R 7, rc_F 7, rc_N 7)]
theorem rc_cl_at : ∀ ci, ci < 8 → rc_cl[ci]? = some (rc_R ci, rc_F ci, rc_N ci) := by
  intro ci h
  match ci, h with
  | 0, _ => rfl
  | 1, _ => rfl
  | 2, _ => rfl
  | 3, _ => rfl
  | 4, _ => rfl
  | 5, _ => rfl
  | 6, _ => rfl
  | 7, _ => rfl
theorem rc_in0 : ∀ w ∈ u_ws (rc_R 0) (rc_F 0) (rc_N 0), w ∈ rc_tb := by decide +kernel
theorem rc_in1 : ∀ w ∈ u_ws (rc_R 1) (rc_F 1) (rc_N 1), w ∈ rc_tb := by decide +kernel
theorem rc_in2 : ∀ w ∈ u_ws (rc_R 2) (rc_F 2) (rc_N 2), w ∈ rc_tb := by decide +kernel
theorem rc_in3 : ∀ w ∈ u_ws (rc_R 3) (rc_F 3) (rc_N 3), w ∈ rc_tb := by decide +kernel
theorem rc_in4 : ∀ w ∈ u_ws (rc_R 4) (rc_F 4) (rc_N 4), w ∈ rc_tb := by decide +kernel
theorem rc_in5 : ∀ w ∈ u_ws (rc_R 5) (rc_F 5) (rc_N 5), w ∈ rc_tb := by decide +kernel
theorem rc_in6 : ∀ w ∈ u_ws (rc_R 6) (rc_F 6) (rc_N 6), w ∈ rc_tb := by decide +kernel
theorem rc_in7 : ∀ w ∈ u_ws (rc_R 7) (rc_F 7) (rc_N 7), w ∈ rc_tb := by decide +kernel
theorem rc_in : ∀ ci, ci < 8 → ∀ w ∈ u_ws (rc_R ci) (rc_F ci) (rc_N ci), w ∈ rc_tb := by
  intro ci h
  match ci, h with
  | 0, _ => exact rc_in0
  | 1, _ => exact rc_in1
  | 2, _ => exact rc_in2
  | 3, _ => exact rc_in3
  | 4, _ => exact rc_in4
  | 5, _ => exact rc_in5
  | 6, _ => exact rc_in6
  | 7, _ => exact rc_in7
theorem rc_ty : ∀ ci, ci < 8 → ∀ k, k < rc_N ci → parseFieldDescriptor ((rc_F ci) k).2.2.1 = some (rc_t ci k) := by decide +kernel
theorem rc_nm : ∀ ci, ci < 8 → ∀ a, a < rc_N ci → ∀ b, b < rc_N ci → a ≠ b → ((rc_F ci) a).2.1 ≠ ((rc_F ci) b).2.1 := by decide +kernel
theorem rc_tm1 {w : Cond} (h : w ∈ tables_1_1) (hk : rc_kind w = true) : w ∈ rc_tb := List.mem_filter.mpr ⟨List.mem_append_right _ (List.mem_append_left _ h), hk⟩
theorem rc_tm2 {w : Cond} (h : w ∈ tables_1_2) (hk : rc_kind w = true) : w ∈ rc_tb := List.mem_filter.mpr ⟨List.mem_append_right _ (List.mem_append_right _ (List.mem_append_left _ h)), hk⟩
theorem rc_tm3 {w : Cond} (h : w ∈ tables_1_3) (hk : rc_kind w = true) : w ∈ rc_tb := List.mem_filter.mpr ⟨List.mem_append_right _ (List.mem_append_right _ (List.mem_append_right _ (List.mem_append_left _ h))), hk⟩
theorem rc_tm4 {w : Cond} (h : w ∈ tables_1_4) (hk : rc_kind w = true) : w ∈ rc_tb := List.mem_filter.mpr ⟨List.mem_append_right _ (List.mem_append_right _ (List.mem_append_right _ (List.mem_append_right _ (List.mem_append_left _ h)))), hk⟩
theorem rc_tm5 {w : Cond} (h : w ∈ tables_1_5) (hk : rc_kind w = true) : w ∈ rc_tb := List.mem_filter.mpr ⟨List.mem_append_right _ (List.mem_append_right _ (List.mem_append_right _ (List.mem_append_right _ (List.mem_append_right _ (h))))), hk⟩
set_option maxRecDepth 20000 in
theorem T_0 : (Jvm.Cond.initialized "RecordCallsLaw") ∈ rc_tb := rc_tm1 (List.mem_of_getElem? (i := 0) rfl) rfl
set_option maxRecDepth 20000 in
theorem T_1 : (Jvm.Cond.initialized "RecordCalls") ∈ rc_tb := rc_tm1 (List.mem_of_getElem? (i := 1) rfl) rfl
set_option maxRecDepth 20000 in
theorem T_2 : (Jvm.Cond.initialized "RecordCalls$Row") ∈ rc_tb := rc_tm1 (List.mem_of_getElem? (i := 2) rfl) rfl
set_option maxRecDepth 20000 in
theorem T_3 : (Jvm.Cond.initialized "RecordCalls$Server") ∈ rc_tb := rc_tm1 (List.mem_of_getElem? (i := 3) rfl) rfl
set_option maxRecDepth 20000 in
theorem T_4 : (Jvm.Cond.initialized "RecordCalls$KeyMap") ∈ rc_tb := rc_tm1 (List.mem_of_getElem? (i := 4) rfl) rfl
set_option maxRecDepth 20000 in
theorem T_5 : (Jvm.Cond.initialized "RecordCalls$Reader") ∈ rc_tb := rc_tm1 (List.mem_of_getElem? (i := 5) rfl) rfl
set_option maxRecDepth 20000 in
theorem T_6 : (Jvm.Cond.initialized "RecordCalls$Connection") ∈ rc_tb := rc_tm1 (List.mem_of_getElem? (i := 6) rfl) rfl
set_option maxRecDepth 20000 in
theorem T_7 : (Jvm.Cond.initialized "RecordCalls$Replies") ∈ rc_tb := rc_tm1 (List.mem_of_getElem? (i := 7) rfl) rfl
set_option maxRecDepth 20000 in
theorem T_8 : (Jvm.Cond.initialized "RecordCallsModel") ∈ rc_tb := rc_tm1 (List.mem_of_getElem? (i := 8) rfl) rfl
set_option maxRecDepth 20000 in
theorem T_9 : (Jvm.Cond.initialized "java/lang/Throwable") ∈ rc_tb := rc_tm1 (List.mem_of_getElem? (i := 9) rfl) rfl
set_option maxRecDepth 20000 in
theorem T_10 : (Jvm.Cond.initialized "java/lang/Exception") ∈ rc_tb := rc_tm1 (List.mem_of_getElem? (i := 10) rfl) rfl
set_option maxRecDepth 20000 in
theorem T_11 : (Jvm.Cond.initialized "java/lang/RuntimeException") ∈ rc_tb := rc_tm1 (List.mem_of_getElem? (i := 11) rfl) rfl
set_option maxRecDepth 20000 in
theorem T_12 : (Jvm.Cond.initialized "java/lang/UnsupportedOperationException") ∈ rc_tb := rc_tm1 (List.mem_of_getElem? (i := 12) rfl) rfl
set_option maxRecDepth 20000 in
theorem T_13 : (Jvm.Cond.initialized "java/lang/Math") ∈ rc_tb := rc_tm1 (List.mem_of_getElem? (i := 13) rfl) rfl
set_option maxRecDepth 20000 in
theorem T_14 : (Jvm.Cond.initialized "java/util/Arrays") ∈ rc_tb := rc_tm1 (List.mem_of_getElem? (i := 14) rfl) rfl
set_option maxRecDepth 20000 in
theorem T_15 : (Jvm.Cond.initialized "java/lang/System") ∈ rc_tb := rc_tm1 (List.mem_of_getElem? (i := 15) rfl) rfl
set_option maxRecDepth 20000 in
theorem T_16 : (Jvm.Cond.initialized "java/lang/IllegalArgumentException") ∈ rc_tb := rc_tm1 (List.mem_of_getElem? (i := 16) rfl) rfl
set_option maxRecDepth 20000 in
theorem T_17 : (Jvm.Cond.initialized "java/lang/IndexOutOfBoundsException") ∈ rc_tb := rc_tm1 (List.mem_of_getElem? (i := 17) rfl) rfl
set_option maxRecDepth 20000 in
theorem T_18 : (Jvm.Cond.classLink "RecordCallsLaw" (8 : Nat) "RecordCalls") ∈ rc_tb := rc_tm1 (List.mem_of_getElem? (i := 18) rfl) rfl
set_option maxRecDepth 20000 in
theorem T_19 : (Jvm.Cond.instantiable "RecordCalls" (7 : Nat)) ∈ rc_tb := rc_tm1 (List.mem_of_getElem? (i := 19) rfl) rfl
set_option maxRecDepth 20000 in
theorem T_20 : (Jvm.Cond.methodLink "RecordCallsLaw" (55 : Nat) ({ cls := "RecordCalls", name := "<init>", desc := "()V" } : Jvm.MethodName)) ∈ rc_tb := rc_tm1 (List.mem_of_getElem? (i := 20) rfl) rfl
set_option maxRecDepth 20000 in
theorem T_21 : (Jvm.Cond.instanceMethod ({ cls := "RecordCalls", name := "<init>", desc := "()V" } : Jvm.MethodName)) ∈ rc_tb := rc_tm1 (List.mem_of_getElem? (i := 21) rfl) rfl
set_option maxRecDepth 20000 in
theorem T_22 : (Jvm.Cond.code ({ cls := "RecordCalls", name := "<init>", desc := "()V" } : Jvm.MethodName) prog_1_method_1_code (2 : Nat) (Option.none : Option Jvm.ClassFile.FieldType)) ∈ rc_tb := rc_tm1 (List.mem_of_getElem? (i := 22) rfl) rfl
set_option maxRecDepth 20000 in
theorem T_23 : (Jvm.Cond.methodLink "RecordCalls" (1 : Nat) ({ cls := "java/lang/Object", name := "<init>", desc := "()V" } : Jvm.MethodName)) ∈ rc_tb := rc_tm1 (List.mem_of_getElem? (i := 23) rfl) rfl
set_option maxRecDepth 20000 in
theorem T_24 : (Jvm.Cond.instanceMethod ({ cls := "java/lang/Object", name := "<init>", desc := "()V" } : Jvm.MethodName)) ∈ rc_tb := rc_tm1 (List.mem_of_getElem? (i := 24) rfl) rfl
set_option maxRecDepth 20000 in
theorem T_25 : (Jvm.Cond.code ({ cls := "java/lang/Object", name := "<init>", desc := "()V" } : Jvm.MethodName) object_method_1_code (1 : Nat) (Option.none : Option Jvm.ClassFile.FieldType)) ∈ rc_tb := rc_tm1 (List.mem_of_getElem? (i := 25) rfl) rfl
set_option maxRecDepth 20000 in
theorem T_26 : (Jvm.Cond.classLink "RecordCalls" (7 : Nat) "RecordCalls$Row") ∈ rc_tb := rc_tm1 (List.mem_of_getElem? (i := 26) rfl) rfl
set_option maxRecDepth 20000 in
theorem T_27 : (Jvm.Cond.instantiable "RecordCalls$Row" (2 : Nat)) ∈ rc_tb := rc_tm1 (List.mem_of_getElem? (i := 27) rfl) rfl
set_option maxRecDepth 20000 in
theorem T_28 : (Jvm.Cond.methodLinkNest "RecordCalls" (9 : Nat) ({ cls := "RecordCalls$Row", name := "<init>", desc := "()V" } : Jvm.MethodName) "RecordCalls") ∈ rc_tb := rc_tm1 (List.mem_of_getElem? (i := 28) rfl) rfl
set_option maxRecDepth 20000 in
theorem T_29 : (Jvm.Cond.instanceMethod ({ cls := "RecordCalls$Row", name := "<init>", desc := "()V" } : Jvm.MethodName)) ∈ rc_tb := rc_tm1 (List.mem_of_getElem? (i := 29) rfl) rfl
set_option maxRecDepth 20000 in
theorem T_30 : (Jvm.Cond.code ({ cls := "RecordCalls$Row", name := "<init>", desc := "()V" } : Jvm.MethodName) prog_6_method_1_code (1 : Nat) (Option.none : Option Jvm.ClassFile.FieldType)) ∈ rc_tb := rc_tm1 (List.mem_of_getElem? (i := 30) rfl) rfl
set_option maxRecDepth 20000 in
theorem T_31 : (Jvm.Cond.methodLink "RecordCalls$Row" (3 : Nat) ({ cls := "java/lang/Object", name := "<init>", desc := "()V" } : Jvm.MethodName)) ∈ rc_tb := rc_tm1 (List.mem_of_getElem? (i := 31) rfl) rfl
set_option maxRecDepth 20000 in
theorem T_32 : (Jvm.Cond.fieldLink "RecordCalls$Row" (9 : Nat) "RecordCalls$Row" "bytes" "[B") ∈ rc_tb := rc_tm1 (List.mem_of_getElem? (i := 32) rfl) rfl
set_option maxRecDepth 20000 in
theorem T_33 : (Jvm.Cond.fieldLink "RecordCalls$Row" (15 : Nat) "RecordCalls$Row" "used" "I") ∈ rc_tb := rc_tm1 (List.mem_of_getElem? (i := 33) rfl) rfl
set_option maxRecDepth 20000 in
theorem T_34 : (Jvm.Cond.lays "RecordCalls$Row" "RecordCalls$Row" "bytes" "[B") ∈ rc_tb := rc_tm1 (List.mem_of_getElem? (i := 34) rfl) rfl
set_option maxRecDepth 20000 in
theorem T_35 : (Jvm.Cond.soleField "RecordCalls$Row" "bytes") ∈ rc_tb := rc_tm1 (List.mem_of_getElem? (i := 35) rfl) rfl
set_option maxRecDepth 20000 in
theorem T_36 : (Jvm.Cond.lays "RecordCalls$Row" "RecordCalls$Row" "used" "I") ∈ rc_tb := rc_tm1 (List.mem_of_getElem? (i := 36) rfl) rfl
set_option maxRecDepth 20000 in
theorem T_37 : (Jvm.Cond.soleField "RecordCalls$Row" "used") ∈ rc_tb := rc_tm1 (List.mem_of_getElem? (i := 37) rfl) rfl
set_option maxRecDepth 20000 in
theorem T_38 : (Jvm.Cond.superclass "RecordCalls$Row" "java/lang/Object") ∈ rc_tb := rc_tm1 (List.mem_of_getElem? (i := 38) rfl) rfl
set_option maxRecDepth 20000 in
theorem T_39 : (Jvm.Cond.arrayClass Jvm.ClassFile.FieldType.byte) ∈ rc_tb := rc_tm1 (List.mem_of_getElem? (i := 39) rfl) rfl
set_option maxRecDepth 20000 in
theorem T_40 : (Jvm.Cond.arrayOver (Jvm.ClassFile.FieldType.object "RecordCalls$Row")) ∈ rc_tb := rc_tm1 (List.mem_of_getElem? (i := 40) rfl) rfl
set_option maxRecDepth 20000 in
theorem T_41 : (Jvm.Cond.classLink "RecordCalls" (20 : Nat) "RecordCalls$Connection") ∈ rc_tb := rc_tm1 (List.mem_of_getElem? (i := 41) rfl) rfl
set_option maxRecDepth 20000 in
theorem T_42 : (Jvm.Cond.arrayOver (Jvm.ClassFile.FieldType.object "RecordCalls$Connection")) ∈ rc_tb := rc_tm1 (List.mem_of_getElem? (i := 42) rfl) rfl
set_option maxRecDepth 20000 in
theorem T_43 : (Jvm.Cond.classLink "RecordCalls" (26 : Nat) "RecordCalls$Server") ∈ rc_tb := rc_tm1 (List.mem_of_getElem? (i := 43) rfl) rfl
set_option maxRecDepth 20000 in
theorem T_44 : (Jvm.Cond.instantiable "RecordCalls$Server" (13 : Nat)) ∈ rc_tb := rc_tm1 (List.mem_of_getElem? (i := 44) rfl) rfl
set_option maxRecDepth 20000 in
theorem T_45 : (Jvm.Cond.methodLinkNest "RecordCalls" (28 : Nat) ({ cls := "RecordCalls$Server", name := "<init>", desc := "()V" } : Jvm.MethodName) "RecordCalls") ∈ rc_tb := rc_tm1 (List.mem_of_getElem? (i := 45) rfl) rfl
set_option maxRecDepth 20000 in
theorem T_46 : (Jvm.Cond.instanceMethod ({ cls := "RecordCalls$Server", name := "<init>", desc := "()V" } : Jvm.MethodName)) ∈ rc_tb := rc_tm1 (List.mem_of_getElem? (i := 46) rfl) rfl
set_option maxRecDepth 20000 in
theorem T_47 : (Jvm.Cond.code ({ cls := "RecordCalls$Server", name := "<init>", desc := "()V" } : Jvm.MethodName) prog_7_method_1_code (1 : Nat) (Option.none : Option Jvm.ClassFile.FieldType)) ∈ rc_tb := rc_tm1 (List.mem_of_getElem? (i := 47) rfl) rfl
set_option maxRecDepth 20000 in
theorem T_48 : (Jvm.Cond.methodLink "RecordCalls$Server" (3 : Nat) ({ cls := "java/lang/Object", name := "<init>", desc := "()V" } : Jvm.MethodName)) ∈ rc_tb := rc_tm1 (List.mem_of_getElem? (i := 48) rfl) rfl
set_option maxRecDepth 20000 in
theorem T_49 : (Jvm.Cond.classLink "RecordCalls$Server" (9 : Nat) "RecordCalls$KeyMap") ∈ rc_tb := rc_tm1 (List.mem_of_getElem? (i := 49) rfl) rfl
set_option maxRecDepth 20000 in
theorem T_50 : (Jvm.Cond.instantiable "RecordCalls$KeyMap" (3 : Nat)) ∈ rc_tb := rc_tm1 (List.mem_of_getElem? (i := 50) rfl) rfl
set_option maxRecDepth 20000 in
theorem T_51 : (Jvm.Cond.methodLink "RecordCalls$Server" (11 : Nat) ({ cls := "RecordCalls$KeyMap", name := "<init>", desc := "()V" } : Jvm.MethodName)) ∈ rc_tb := rc_tm1 (List.mem_of_getElem? (i := 51) rfl) rfl
set_option maxRecDepth 20000 in
theorem T_52 : (Jvm.Cond.instanceMethod ({ cls := "RecordCalls$KeyMap", name := "<init>", desc := "()V" } : Jvm.MethodName)) ∈ rc_tb := rc_tm1 (List.mem_of_getElem? (i := 52) rfl) rfl
set_option maxRecDepth 20000 in
theorem T_53 : (Jvm.Cond.code ({ cls := "RecordCalls$KeyMap", name := "<init>", desc := "()V" } : Jvm.MethodName) prog_3_method_1_code (2 : Nat) (Option.none : Option Jvm.ClassFile.FieldType)) ∈ rc_tb := rc_tm1 (List.mem_of_getElem? (i := 53) rfl) rfl
set_option maxRecDepth 20000 in
theorem T_54 : (Jvm.Cond.methodLink "RecordCalls$KeyMap" (3 : Nat) ({ cls := "java/lang/Object", name := "<init>", desc := "()V" } : Jvm.MethodName)) ∈ rc_tb := rc_tm1 (List.mem_of_getElem? (i := 54) rfl) rfl
set_option maxRecDepth 20000 in
theorem T_55 : (Jvm.Cond.classLink "RecordCalls$KeyMap" (9 : Nat) "RecordCalls$Row") ∈ rc_tb := rc_tm1 (List.mem_of_getElem? (i := 55) rfl) rfl
set_option maxRecDepth 20000 in
theorem T_56 : (Jvm.Cond.methodLinkNest "RecordCalls$KeyMap" (25 : Nat) ({ cls := "RecordCalls$Row", name := "<init>", desc := "()V" } : Jvm.MethodName) "RecordCalls") ∈ rc_tb := rc_tm1 (List.mem_of_getElem? (i := 56) rfl) rfl
set_option maxRecDepth 20000 in
theorem T_57 : (Jvm.Cond.fieldLink "RecordCalls$KeyMap" (11 : Nat) "RecordCalls$KeyMap" "keys" "[LRecordCalls$Row;") ∈ rc_tb := rc_tm1 (List.mem_of_getElem? (i := 57) rfl) rfl
set_option maxRecDepth 20000 in
theorem T_58 : (Jvm.Cond.fieldLink "RecordCalls$KeyMap" (17 : Nat) "RecordCalls$KeyMap" "values" "[J") ∈ rc_tb := rc_tm1 (List.mem_of_getElem? (i := 58) rfl) rfl
set_option maxRecDepth 20000 in
theorem T_59 : (Jvm.Cond.fieldLink "RecordCalls$KeyMap" (21 : Nat) "RecordCalls$KeyMap" "used" "I") ∈ rc_tb := rc_tm1 (List.mem_of_getElem? (i := 59) rfl) rfl
set_option maxRecDepth 20000 in
theorem T_60 : (Jvm.Cond.laysFinal "RecordCalls$KeyMap" "RecordCalls$KeyMap" "keys" "[LRecordCalls$Row;") ∈ rc_tb := rc_tm1 (List.mem_of_getElem? (i := 60) rfl) rfl
set_option maxRecDepth 20000 in
theorem T_61 : (Jvm.Cond.soleField "RecordCalls$KeyMap" "keys") ∈ rc_tb := rc_tm1 (List.mem_of_getElem? (i := 61) rfl) rfl
set_option maxRecDepth 20000 in
theorem T_62 : (Jvm.Cond.laysFinal "RecordCalls$KeyMap" "RecordCalls$KeyMap" "values" "[J") ∈ rc_tb := rc_tm1 (List.mem_of_getElem? (i := 62) rfl) rfl
set_option maxRecDepth 20000 in
theorem T_63 : (Jvm.Cond.soleField "RecordCalls$KeyMap" "values") ∈ rc_tb := rc_tm1 (List.mem_of_getElem? (i := 63) rfl) rfl
set_option maxRecDepth 20000 in
theorem T_64 : (Jvm.Cond.lays "RecordCalls$KeyMap" "RecordCalls$KeyMap" "used" "I") ∈ rc_tb := rc_tm1 (List.mem_of_getElem? (i := 64) rfl) rfl
set_option maxRecDepth 20000 in
theorem T_65 : (Jvm.Cond.soleField "RecordCalls$KeyMap" "used") ∈ rc_tb := rc_tm1 (List.mem_of_getElem? (i := 65) rfl) rfl
set_option maxRecDepth 20000 in
theorem T_66 : (Jvm.Cond.superclass "RecordCalls$KeyMap" "java/lang/Object") ∈ rc_tb := rc_tm1 (List.mem_of_getElem? (i := 66) rfl) rfl
set_option maxRecDepth 20000 in
theorem T_67 : (Jvm.Cond.arrayClass Jvm.ClassFile.FieldType.long) ∈ rc_tb := rc_tm1 (List.mem_of_getElem? (i := 67) rfl) rfl
set_option maxRecDepth 20000 in
theorem T_68 : (Jvm.Cond.classLink "RecordCalls$Server" (18 : Nat) "RecordCalls$Reader") ∈ rc_tb := rc_tm1 (List.mem_of_getElem? (i := 68) rfl) rfl
set_option maxRecDepth 20000 in
theorem T_69 : (Jvm.Cond.instantiable "RecordCalls$Reader" (3 : Nat)) ∈ rc_tb := rc_tm1 (List.mem_of_getElem? (i := 69) rfl) rfl
set_option maxRecDepth 20000 in
theorem T_70 : (Jvm.Cond.methodLinkNest "RecordCalls$Server" (20 : Nat) ({ cls := "RecordCalls$Reader", name := "<init>", desc := "()V" } : Jvm.MethodName) "RecordCalls") ∈ rc_tb := rc_tm1 (List.mem_of_getElem? (i := 70) rfl) rfl
set_option maxRecDepth 20000 in
theorem T_71 : (Jvm.Cond.instanceMethod ({ cls := "RecordCalls$Reader", name := "<init>", desc := "()V" } : Jvm.MethodName)) ∈ rc_tb := rc_tm1 (List.mem_of_getElem? (i := 71) rfl) rfl
set_option maxRecDepth 20000 in
theorem T_72 : (Jvm.Cond.code ({ cls := "RecordCalls$Reader", name := "<init>", desc := "()V" } : Jvm.MethodName) prog_4_method_1_code (1 : Nat) (Option.none : Option Jvm.ClassFile.FieldType)) ∈ rc_tb := rc_tm1 (List.mem_of_getElem? (i := 72) rfl) rfl
set_option maxRecDepth 20000 in
theorem T_73 : (Jvm.Cond.methodLink "RecordCalls$Reader" (3 : Nat) ({ cls := "java/lang/Object", name := "<init>", desc := "()V" } : Jvm.MethodName)) ∈ rc_tb := rc_tm1 (List.mem_of_getElem? (i := 73) rfl) rfl
set_option maxRecDepth 20000 in
theorem T_74 : (Jvm.Cond.classLink "RecordCalls$Reader" (9 : Nat) "RecordCalls$Row") ∈ rc_tb := rc_tm1 (List.mem_of_getElem? (i := 74) rfl) rfl
set_option maxRecDepth 20000 in
theorem T_75 : (Jvm.Cond.methodLinkNest "RecordCalls$Reader" (11 : Nat) ({ cls := "RecordCalls$Row", name := "<init>", desc := "()V" } : Jvm.MethodName) "RecordCalls") ∈ rc_tb := rc_tm1 (List.mem_of_getElem? (i := 75) rfl) rfl
set_option maxRecDepth 20000 in
theorem T_76 : (Jvm.Cond.fieldLink "RecordCalls$Reader" (12 : Nat) "RecordCalls$Reader" "row" "LRecordCalls$Row;") ∈ rc_tb := rc_tm1 (List.mem_of_getElem? (i := 76) rfl) rfl
set_option maxRecDepth 20000 in
theorem T_77 : (Jvm.Cond.fieldLink "RecordCalls$Reader" (18 : Nat) "RecordCalls$Reader" "at" "I") ∈ rc_tb := rc_tm1 (List.mem_of_getElem? (i := 77) rfl) rfl
set_option maxRecDepth 20000 in
theorem T_78 : (Jvm.Cond.fieldLink "RecordCalls$Reader" (22 : Nat) "RecordCalls$Reader" "good" "Z") ∈ rc_tb := rc_tm1 (List.mem_of_getElem? (i := 78) rfl) rfl
set_option maxRecDepth 20000 in
theorem T_79 : (Jvm.Cond.lays "RecordCalls$Reader" "RecordCalls$Reader" "row" "LRecordCalls$Row;") ∈ rc_tb := rc_tm1 (List.mem_of_getElem? (i := 79) rfl) rfl
set_option maxRecDepth 20000 in
theorem T_80 : (Jvm.Cond.soleField "RecordCalls$Reader" "row") ∈ rc_tb := rc_tm1 (List.mem_of_getElem? (i := 80) rfl) rfl
set_option maxRecDepth 20000 in
theorem T_81 : (Jvm.Cond.lays "RecordCalls$Reader" "RecordCalls$Reader" "at" "I") ∈ rc_tb := rc_tm1 (List.mem_of_getElem? (i := 81) rfl) rfl
set_option maxRecDepth 20000 in
theorem T_82 : (Jvm.Cond.soleField "RecordCalls$Reader" "at") ∈ rc_tb := rc_tm1 (List.mem_of_getElem? (i := 82) rfl) rfl
set_option maxRecDepth 20000 in
theorem T_83 : (Jvm.Cond.lays "RecordCalls$Reader" "RecordCalls$Reader" "good" "Z") ∈ rc_tb := rc_tm1 (List.mem_of_getElem? (i := 83) rfl) rfl
set_option maxRecDepth 20000 in
theorem T_84 : (Jvm.Cond.soleField "RecordCalls$Reader" "good") ∈ rc_tb := rc_tm1 (List.mem_of_getElem? (i := 84) rfl) rfl
set_option maxRecDepth 20000 in
theorem T_85 : (Jvm.Cond.superclass "RecordCalls$Reader" "java/lang/Object") ∈ rc_tb := rc_tm1 (List.mem_of_getElem? (i := 85) rfl) rfl
set_option maxRecDepth 20000 in
theorem T_86 : (Jvm.Cond.classLink "RecordCalls$Server" (25 : Nat) "RecordCalls$Row") ∈ rc_tb := rc_tm1 (List.mem_of_getElem? (i := 86) rfl) rfl
set_option maxRecDepth 20000 in
theorem T_87 : (Jvm.Cond.methodLinkNest "RecordCalls$Server" (27 : Nat) ({ cls := "RecordCalls$Row", name := "<init>", desc := "()V" } : Jvm.MethodName) "RecordCalls") ∈ rc_tb := rc_tm1 (List.mem_of_getElem? (i := 87) rfl) rfl
set_option maxRecDepth 20000 in
theorem T_88 : (Jvm.Cond.fieldLink "RecordCalls$Server" (12 : Nat) "RecordCalls$Server" "map" "LRecordCalls$KeyMap;") ∈ rc_tb := rc_tm1 (List.mem_of_getElem? (i := 88) rfl) rfl
set_option maxRecDepth 20000 in
theorem T_89 : (Jvm.Cond.fieldLinkNest "RecordCalls" (153 : Nat) "RecordCalls$Server" "map" "LRecordCalls$KeyMap;" "RecordCalls") ∈ rc_tb := rc_tm1 (List.mem_of_getElem? (i := 89) rfl) rfl
set_option maxRecDepth 20000 in
theorem T_90 : (Jvm.Cond.fieldLink "RecordCalls$Server" (21 : Nat) "RecordCalls$Server" "reader" "LRecordCalls$Reader;") ∈ rc_tb := rc_tm1 (List.mem_of_getElem? (i := 90) rfl) rfl
set_option maxRecDepth 20000 in
theorem T_91 : (Jvm.Cond.fieldLink "RecordCalls$Server" (28 : Nat) "RecordCalls$Server" "reply" "LRecordCalls$Row;") ∈ rc_tb := rc_tm1 (List.mem_of_getElem? (i := 91) rfl) rfl
set_option maxRecDepth 20000 in
theorem T_92 : (Jvm.Cond.fieldLink "RecordCalls$Server" (32 : Nat) "RecordCalls$Server" "done" "I") ∈ rc_tb := rc_tm1 (List.mem_of_getElem? (i := 92) rfl) rfl
set_option maxRecDepth 20000 in
theorem T_93 : (Jvm.Cond.fieldLinkNest "RecordCalls" (167 : Nat) "RecordCalls$Server" "done" "I" "RecordCalls") ∈ rc_tb := rc_tm1 (List.mem_of_getElem? (i := 93) rfl) rfl
set_option maxRecDepth 20000 in
theorem T_94 : (Jvm.Cond.fieldLink "RecordCalls$Server" (36 : Nat) "RecordCalls$Server" "repeated" "I") ∈ rc_tb := rc_tm1 (List.mem_of_getElem? (i := 94) rfl) rfl
set_option maxRecDepth 20000 in
theorem T_95 : (Jvm.Cond.fieldLinkNest "RecordCalls" (170 : Nat) "RecordCalls$Server" "repeated" "I" "RecordCalls") ∈ rc_tb := rc_tm1 (List.mem_of_getElem? (i := 95) rfl) rfl
set_option maxRecDepth 20000 in
theorem T_96 : (Jvm.Cond.fieldLink "RecordCalls$Server" (39 : Nat) "RecordCalls$Server" "bad" "I") ∈ rc_tb := rc_tm1 (List.mem_of_getElem? (i := 96) rfl) rfl
set_option maxRecDepth 20000 in
theorem T_97 : (Jvm.Cond.fieldLinkNest "RecordCalls" (173 : Nat) "RecordCalls$Server" "bad" "I" "RecordCalls") ∈ rc_tb := rc_tm1 (List.mem_of_getElem? (i := 97) rfl) rfl
set_option maxRecDepth 20000 in
theorem T_98 : (Jvm.Cond.fieldLink "RecordCalls$Server" (42 : Nat) "RecordCalls$Server" "keyStarts" "[I") ∈ rc_tb := rc_tm1 (List.mem_of_getElem? (i := 98) rfl) rfl
set_option maxRecDepth 20000 in
theorem T_99 : (Jvm.Cond.fieldLink "RecordCalls$Server" (46 : Nat) "RecordCalls$Server" "keySizes" "[I") ∈ rc_tb := rc_tm1 (List.mem_of_getElem? (i := 99) rfl) rfl
set_option maxRecDepth 20000 in
theorem T_100 : (Jvm.Cond.fieldLink "RecordCalls$Server" (49 : Nat) "RecordCalls$Server" "procedure" "I") ∈ rc_tb := rc_tm1 (List.mem_of_getElem? (i := 100) rfl) rfl
set_option maxRecDepth 20000 in
theorem T_101 : (Jvm.Cond.fieldLink "RecordCalls$Server" (52 : Nat) "RecordCalls$Server" "keysTaken" "I") ∈ rc_tb := rc_tm1 (List.mem_of_getElem? (i := 101) rfl) rfl
set_option maxRecDepth 20000 in
theorem T_102 : (Jvm.Cond.fieldLink "RecordCalls$Server" (55 : Nat) "RecordCalls$Server" "longTaken" "J") ∈ rc_tb := rc_tm1 (List.mem_of_getElem? (i := 102) rfl) rfl
set_option maxRecDepth 20000 in
theorem T_103 : (Jvm.Cond.fieldLink "RecordCalls$Server" (59 : Nat) "RecordCalls$Server" "from" "I") ∈ rc_tb := rc_tm1 (List.mem_of_getElem? (i := 103) rfl) rfl
set_option maxRecDepth 20000 in
theorem T_104 : (Jvm.Cond.fieldLink "RecordCalls$Server" (62 : Nat) "RecordCalls$Server" "most" "I") ∈ rc_tb := rc_tm1 (List.mem_of_getElem? (i := 104) rfl) rfl
set_option maxRecDepth 20000 in
theorem T_105 : (Jvm.Cond.laysFinal "RecordCalls$Server" "RecordCalls$Server" "map" "LRecordCalls$KeyMap;") ∈ rc_tb := rc_tm1 (List.mem_of_getElem? (i := 105) rfl) rfl
set_option maxRecDepth 20000 in
theorem T_106 : (Jvm.Cond.soleField "RecordCalls$Server" "map") ∈ rc_tb := rc_tm1 (List.mem_of_getElem? (i := 106) rfl) rfl
set_option maxRecDepth 20000 in
theorem T_107 : (Jvm.Cond.laysFinal "RecordCalls$Server" "RecordCalls$Server" "reader" "LRecordCalls$Reader;") ∈ rc_tb := rc_tm1 (List.mem_of_getElem? (i := 107) rfl) rfl
set_option maxRecDepth 20000 in
theorem T_108 : (Jvm.Cond.soleField "RecordCalls$Server" "reader") ∈ rc_tb := rc_tm1 (List.mem_of_getElem? (i := 108) rfl) rfl
set_option maxRecDepth 20000 in
theorem T_109 : (Jvm.Cond.laysFinal "RecordCalls$Server" "RecordCalls$Server" "reply" "LRecordCalls$Row;") ∈ rc_tb := rc_tm1 (List.mem_of_getElem? (i := 109) rfl) rfl
set_option maxRecDepth 20000 in
theorem T_110 : (Jvm.Cond.soleField "RecordCalls$Server" "reply") ∈ rc_tb := rc_tm1 (List.mem_of_getElem? (i := 110) rfl) rfl
set_option maxRecDepth 20000 in
theorem T_111 : (Jvm.Cond.lays "RecordCalls$Server" "RecordCalls$Server" "done" "I") ∈ rc_tb := rc_tm1 (List.mem_of_getElem? (i := 111) rfl) rfl
set_option maxRecDepth 20000 in
theorem T_112 : (Jvm.Cond.soleField "RecordCalls$Server" "done") ∈ rc_tb := rc_tm1 (List.mem_of_getElem? (i := 112) rfl) rfl
set_option maxRecDepth 20000 in
theorem T_113 : (Jvm.Cond.lays "RecordCalls$Server" "RecordCalls$Server" "repeated" "I") ∈ rc_tb := rc_tm1 (List.mem_of_getElem? (i := 113) rfl) rfl
set_option maxRecDepth 20000 in
theorem T_114 : (Jvm.Cond.soleField "RecordCalls$Server" "repeated") ∈ rc_tb := rc_tm1 (List.mem_of_getElem? (i := 114) rfl) rfl
set_option maxRecDepth 20000 in
theorem T_115 : (Jvm.Cond.lays "RecordCalls$Server" "RecordCalls$Server" "bad" "I") ∈ rc_tb := rc_tm1 (List.mem_of_getElem? (i := 115) rfl) rfl
set_option maxRecDepth 20000 in
theorem T_116 : (Jvm.Cond.soleField "RecordCalls$Server" "bad") ∈ rc_tb := rc_tm1 (List.mem_of_getElem? (i := 116) rfl) rfl
set_option maxRecDepth 20000 in
theorem T_117 : (Jvm.Cond.laysFinal "RecordCalls$Server" "RecordCalls$Server" "keyStarts" "[I") ∈ rc_tb := rc_tm1 (List.mem_of_getElem? (i := 117) rfl) rfl
set_option maxRecDepth 20000 in
theorem T_118 : (Jvm.Cond.soleField "RecordCalls$Server" "keyStarts") ∈ rc_tb := rc_tm1 (List.mem_of_getElem? (i := 118) rfl) rfl
set_option maxRecDepth 20000 in
theorem T_119 : (Jvm.Cond.laysFinal "RecordCalls$Server" "RecordCalls$Server" "keySizes" "[I") ∈ rc_tb := rc_tm1 (List.mem_of_getElem? (i := 119) rfl) rfl
set_option maxRecDepth 20000 in
theorem T_120 : (Jvm.Cond.soleField "RecordCalls$Server" "keySizes") ∈ rc_tb := rc_tm1 (List.mem_of_getElem? (i := 120) rfl) rfl
set_option maxRecDepth 20000 in
theorem T_121 : (Jvm.Cond.lays "RecordCalls$Server" "RecordCalls$Server" "procedure" "I") ∈ rc_tb := rc_tm1 (List.mem_of_getElem? (i := 121) rfl) rfl
set_option maxRecDepth 20000 in
theorem T_122 : (Jvm.Cond.soleField "RecordCalls$Server" "procedure") ∈ rc_tb := rc_tm1 (List.mem_of_getElem? (i := 122) rfl) rfl
set_option maxRecDepth 20000 in
theorem T_123 : (Jvm.Cond.lays "RecordCalls$Server" "RecordCalls$Server" "keysTaken" "I") ∈ rc_tb := rc_tm1 (List.mem_of_getElem? (i := 123) rfl) rfl
set_option maxRecDepth 20000 in
theorem T_124 : (Jvm.Cond.soleField "RecordCalls$Server" "keysTaken") ∈ rc_tb := rc_tm1 (List.mem_of_getElem? (i := 124) rfl) rfl
set_option maxRecDepth 20000 in
theorem T_125 : (Jvm.Cond.lays "RecordCalls$Server" "RecordCalls$Server" "longTaken" "J") ∈ rc_tb := rc_tm1 (List.mem_of_getElem? (i := 125) rfl) rfl
set_option maxRecDepth 20000 in
theorem T_126 : (Jvm.Cond.soleField "RecordCalls$Server" "longTaken") ∈ rc_tb := rc_tm1 (List.mem_of_getElem? (i := 126) rfl) rfl
set_option maxRecDepth 20000 in
theorem T_127 : (Jvm.Cond.lays "RecordCalls$Server" "RecordCalls$Server" "from" "I") ∈ rc_tb := rc_tm1 (List.mem_of_getElem? (i := 127) rfl) rfl
set_option maxRecDepth 20000 in
theorem T_128 : (Jvm.Cond.soleField "RecordCalls$Server" "from") ∈ rc_tb := rc_tm1 (List.mem_of_getElem? (i := 128) rfl) rfl
set_option maxRecDepth 20000 in
theorem T_129 : (Jvm.Cond.lays "RecordCalls$Server" "RecordCalls$Server" "most" "I") ∈ rc_tb := rc_tm1 (List.mem_of_getElem? (i := 129) rfl) rfl
set_option maxRecDepth 20000 in
theorem T_130 : (Jvm.Cond.soleField "RecordCalls$Server" "most") ∈ rc_tb := rc_tm1 (List.mem_of_getElem? (i := 130) rfl) rfl
set_option maxRecDepth 20000 in
theorem T_131 : (Jvm.Cond.superclass "RecordCalls$Server" "java/lang/Object") ∈ rc_tb := rc_tm1 (List.mem_of_getElem? (i := 131) rfl) rfl
set_option maxRecDepth 20000 in
theorem T_132 : (Jvm.Cond.arrayClass Jvm.ClassFile.FieldType.int) ∈ rc_tb := rc_tm1 (List.mem_of_getElem? (i := 132) rfl) rfl
set_option maxRecDepth 20000 in
theorem T_133 : (Jvm.Cond.instantiable "RecordCalls$Connection" (6 : Nat)) ∈ rc_tb := rc_tm1 (List.mem_of_getElem? (i := 133) rfl) rfl
set_option maxRecDepth 20000 in
theorem T_134 : (Jvm.Cond.methodLinkNest "RecordCalls" (43 : Nat) ({ cls := "RecordCalls$Connection", name := "<init>", desc := "()V" } : Jvm.MethodName) "RecordCalls") ∈ rc_tb := rc_tm1 (List.mem_of_getElem? (i := 134) rfl) rfl
set_option maxRecDepth 20000 in
theorem T_135 : (Jvm.Cond.instanceMethod ({ cls := "RecordCalls$Connection", name := "<init>", desc := "()V" } : Jvm.MethodName)) ∈ rc_tb := rc_tm1 (List.mem_of_getElem? (i := 135) rfl) rfl
set_option maxRecDepth 20000 in
theorem T_136 : (Jvm.Cond.code ({ cls := "RecordCalls$Connection", name := "<init>", desc := "()V" } : Jvm.MethodName) prog_2_method_1_code (1 : Nat) (Option.none : Option Jvm.ClassFile.FieldType)) ∈ rc_tb := rc_tm1 (List.mem_of_getElem? (i := 136) rfl) rfl
set_option maxRecDepth 20000 in
theorem T_137 : (Jvm.Cond.methodLink "RecordCalls$Connection" (3 : Nat) ({ cls := "java/lang/Object", name := "<init>", desc := "()V" } : Jvm.MethodName)) ∈ rc_tb := rc_tm1 (List.mem_of_getElem? (i := 137) rfl) rfl
set_option maxRecDepth 20000 in
theorem T_138 : (Jvm.Cond.classLink "RecordCalls$Connection" (9 : Nat) "RecordCalls$Row") ∈ rc_tb := rc_tm1 (List.mem_of_getElem? (i := 138) rfl) rfl
set_option maxRecDepth 20000 in
theorem T_139 : (Jvm.Cond.methodLinkNest "RecordCalls$Connection" (11 : Nat) ({ cls := "RecordCalls$Row", name := "<init>", desc := "()V" } : Jvm.MethodName) "RecordCalls") ∈ rc_tb := rc_tm1 (List.mem_of_getElem? (i := 139) rfl) rfl
set_option maxRecDepth 20000 in
theorem T_140 : (Jvm.Cond.classLink "RecordCalls$Connection" (18 : Nat) "RecordCalls$Replies") ∈ rc_tb := rc_tm1 (List.mem_of_getElem? (i := 140) rfl) rfl
set_option maxRecDepth 20000 in
theorem T_141 : (Jvm.Cond.instantiable "RecordCalls$Replies" (4 : Nat)) ∈ rc_tb := rc_tm1 (List.mem_of_getElem? (i := 141) rfl) rfl
set_option maxRecDepth 20000 in
theorem T_142 : (Jvm.Cond.methodLink "RecordCalls$Connection" (20 : Nat) ({ cls := "RecordCalls$Replies", name := "<init>", desc := "()V" } : Jvm.MethodName)) ∈ rc_tb := rc_tm1 (List.mem_of_getElem? (i := 142) rfl) rfl
set_option maxRecDepth 20000 in
theorem T_143 : (Jvm.Cond.instanceMethod ({ cls := "RecordCalls$Replies", name := "<init>", desc := "()V" } : Jvm.MethodName)) ∈ rc_tb := rc_tm1 (List.mem_of_getElem? (i := 143) rfl) rfl
set_option maxRecDepth 20000 in
theorem T_144 : (Jvm.Cond.code ({ cls := "RecordCalls$Replies", name := "<init>", desc := "()V" } : Jvm.MethodName) prog_5_method_1_code (2 : Nat) (Option.none : Option Jvm.ClassFile.FieldType)) ∈ rc_tb := rc_tm1 (List.mem_of_getElem? (i := 144) rfl) rfl
set_option maxRecDepth 20000 in
theorem T_145 : (Jvm.Cond.methodLink "RecordCalls$Replies" (3 : Nat) ({ cls := "java/lang/Object", name := "<init>", desc := "()V" } : Jvm.MethodName)) ∈ rc_tb := rc_tm1 (List.mem_of_getElem? (i := 145) rfl) rfl
set_option maxRecDepth 20000 in
theorem T_146 : (Jvm.Cond.classLink "RecordCalls$Replies" (9 : Nat) "RecordCalls$Row") ∈ rc_tb := rc_tm1 (List.mem_of_getElem? (i := 146) rfl) rfl
set_option maxRecDepth 20000 in
theorem T_147 : (Jvm.Cond.methodLinkNest "RecordCalls$Replies" (28 : Nat) ({ cls := "RecordCalls$Row", name := "<init>", desc := "()V" } : Jvm.MethodName) "RecordCalls") ∈ rc_tb := rc_tm1 (List.mem_of_getElem? (i := 147) rfl) rfl
set_option maxRecDepth 20000 in
theorem T_148 : (Jvm.Cond.fieldLink "RecordCalls$Replies" (11 : Nat) "RecordCalls$Replies" "rows" "[LRecordCalls$Row;") ∈ rc_tb := rc_tm1 (List.mem_of_getElem? (i := 148) rfl) rfl
set_option maxRecDepth 20000 in
theorem T_149 : (Jvm.Cond.fieldLink "RecordCalls$Replies" (17 : Nat) "RecordCalls$Replies" "numbers" "[I") ∈ rc_tb := rc_tm1 (List.mem_of_getElem? (i := 149) rfl) rfl
set_option maxRecDepth 20000 in
theorem T_150 : (Jvm.Cond.fieldLink "RecordCalls$Replies" (21 : Nat) "RecordCalls$Replies" "kept" "I") ∈ rc_tb := rc_tm1 (List.mem_of_getElem? (i := 150) rfl) rfl
set_option maxRecDepth 20000 in
theorem T_151 : (Jvm.Cond.fieldLink "RecordCalls$Replies" (25 : Nat) "RecordCalls$Replies" "oldest" "I") ∈ rc_tb := rc_tm1 (List.mem_of_getElem? (i := 151) rfl) rfl
set_option maxRecDepth 20000 in
theorem T_152 : (Jvm.Cond.laysFinal "RecordCalls$Replies" "RecordCalls$Replies" "rows" "[LRecordCalls$Row;") ∈ rc_tb := rc_tm1 (List.mem_of_getElem? (i := 152) rfl) rfl
set_option maxRecDepth 20000 in
theorem T_153 : (Jvm.Cond.soleField "RecordCalls$Replies" "rows") ∈ rc_tb := rc_tm1 (List.mem_of_getElem? (i := 153) rfl) rfl
set_option maxRecDepth 20000 in
theorem T_154 : (Jvm.Cond.laysFinal "RecordCalls$Replies" "RecordCalls$Replies" "numbers" "[I") ∈ rc_tb := rc_tm1 (List.mem_of_getElem? (i := 154) rfl) rfl
set_option maxRecDepth 20000 in
theorem T_155 : (Jvm.Cond.soleField "RecordCalls$Replies" "numbers") ∈ rc_tb := rc_tm1 (List.mem_of_getElem? (i := 155) rfl) rfl
set_option maxRecDepth 20000 in
theorem T_156 : (Jvm.Cond.lays "RecordCalls$Replies" "RecordCalls$Replies" "kept" "I") ∈ rc_tb := rc_tm1 (List.mem_of_getElem? (i := 156) rfl) rfl
set_option maxRecDepth 20000 in
theorem T_157 : (Jvm.Cond.soleField "RecordCalls$Replies" "kept") ∈ rc_tb := rc_tm1 (List.mem_of_getElem? (i := 157) rfl) rfl
set_option maxRecDepth 20000 in
theorem T_158 : (Jvm.Cond.lays "RecordCalls$Replies" "RecordCalls$Replies" "oldest" "I") ∈ rc_tb := rc_tm1 (List.mem_of_getElem? (i := 158) rfl) rfl
set_option maxRecDepth 20000 in
theorem T_159 : (Jvm.Cond.soleField "RecordCalls$Replies" "oldest") ∈ rc_tb := rc_tm1 (List.mem_of_getElem? (i := 159) rfl) rfl
set_option maxRecDepth 20000 in
theorem T_160 : (Jvm.Cond.superclass "RecordCalls$Replies" "java/lang/Object") ∈ rc_tb := rc_tm1 (List.mem_of_getElem? (i := 160) rfl) rfl
set_option maxRecDepth 20000 in
theorem T_161 : (Jvm.Cond.fieldLink "RecordCalls$Connection" (12 : Nat) "RecordCalls$Connection" "gathered" "LRecordCalls$Row;") ∈ rc_tb := rc_tm1 (List.mem_of_getElem? (i := 161) rfl) rfl
set_option maxRecDepth 20000 in
theorem T_162 : (Jvm.Cond.fieldLinkNest "RecordCalls" (121 : Nat) "RecordCalls$Connection" "gathered" "LRecordCalls$Row;" "RecordCalls") ∈ rc_tb := rc_tm1 (List.mem_of_getElem? (i := 162) rfl) rfl
set_option maxRecDepth 20000 in
theorem T_163 : (Jvm.Cond.fieldLink "RecordCalls$Connection" (21 : Nat) "RecordCalls$Connection" "replies" "LRecordCalls$Replies;") ∈ rc_tb := rc_tm1 (List.mem_of_getElem? (i := 163) rfl) rfl
set_option maxRecDepth 20000 in
theorem T_164 : (Jvm.Cond.fieldLinkNest "RecordCalls" (124 : Nat) "RecordCalls$Connection" "replies" "LRecordCalls$Replies;" "RecordCalls") ∈ rc_tb := rc_tm1 (List.mem_of_getElem? (i := 164) rfl) rfl
set_option maxRecDepth 20000 in
theorem T_165 : (Jvm.Cond.fieldLink "RecordCalls$Connection" (25 : Nat) "RecordCalls$Connection" "broken" "Z") ∈ rc_tb := rc_tm1 (List.mem_of_getElem? (i := 165) rfl) rfl
set_option maxRecDepth 20000 in
theorem T_166 : (Jvm.Cond.fieldLink "RecordCalls$Connection" (29 : Nat) "RecordCalls$Connection" "head" "I") ∈ rc_tb := rc_tm1 (List.mem_of_getElem? (i := 166) rfl) rfl
set_option maxRecDepth 20000 in
theorem T_167 : (Jvm.Cond.fieldLink "RecordCalls$Connection" (33 : Nat) "RecordCalls$Connection" "headBytes" "I") ∈ rc_tb := rc_tm1 (List.mem_of_getElem? (i := 167) rfl) rfl
set_option maxRecDepth 20000 in
theorem T_168 : (Jvm.Cond.fieldLink "RecordCalls$Connection" (36 : Nat) "RecordCalls$Connection" "bytesLeft" "I") ∈ rc_tb := rc_tm1 (List.mem_of_getElem? (i := 168) rfl) rfl
set_option maxRecDepth 20000 in
theorem T_169 : (Jvm.Cond.laysFinal "RecordCalls$Connection" "RecordCalls$Connection" "gathered" "LRecordCalls$Row;") ∈ rc_tb := rc_tm1 (List.mem_of_getElem? (i := 169) rfl) rfl
set_option maxRecDepth 20000 in
theorem T_170 : (Jvm.Cond.soleField "RecordCalls$Connection" "gathered") ∈ rc_tb := rc_tm1 (List.mem_of_getElem? (i := 170) rfl) rfl
set_option maxRecDepth 20000 in
theorem T_171 : (Jvm.Cond.laysFinal "RecordCalls$Connection" "RecordCalls$Connection" "replies" "LRecordCalls$Replies;") ∈ rc_tb := rc_tm1 (List.mem_of_getElem? (i := 171) rfl) rfl
set_option maxRecDepth 20000 in
theorem T_172 : (Jvm.Cond.soleField "RecordCalls$Connection" "replies") ∈ rc_tb := rc_tm1 (List.mem_of_getElem? (i := 172) rfl) rfl
set_option maxRecDepth 20000 in
theorem T_173 : (Jvm.Cond.lays "RecordCalls$Connection" "RecordCalls$Connection" "broken" "Z") ∈ rc_tb := rc_tm1 (List.mem_of_getElem? (i := 173) rfl) rfl
set_option maxRecDepth 20000 in
theorem T_174 : (Jvm.Cond.soleField "RecordCalls$Connection" "broken") ∈ rc_tb := rc_tm1 (List.mem_of_getElem? (i := 174) rfl) rfl
set_option maxRecDepth 20000 in
theorem T_175 : (Jvm.Cond.lays "RecordCalls$Connection" "RecordCalls$Connection" "head" "I") ∈ rc_tb := rc_tm1 (List.mem_of_getElem? (i := 175) rfl) rfl
set_option maxRecDepth 20000 in
theorem T_176 : (Jvm.Cond.soleField "RecordCalls$Connection" "head") ∈ rc_tb := rc_tm1 (List.mem_of_getElem? (i := 176) rfl) rfl
set_option maxRecDepth 20000 in
theorem T_177 : (Jvm.Cond.lays "RecordCalls$Connection" "RecordCalls$Connection" "headBytes" "I") ∈ rc_tb := rc_tm1 (List.mem_of_getElem? (i := 177) rfl) rfl
set_option maxRecDepth 20000 in
theorem T_178 : (Jvm.Cond.soleField "RecordCalls$Connection" "headBytes") ∈ rc_tb := rc_tm1 (List.mem_of_getElem? (i := 178) rfl) rfl
set_option maxRecDepth 20000 in
theorem T_179 : (Jvm.Cond.lays "RecordCalls$Connection" "RecordCalls$Connection" "bytesLeft" "I") ∈ rc_tb := rc_tm1 (List.mem_of_getElem? (i := 179) rfl) rfl
set_option maxRecDepth 20000 in
theorem T_180 : (Jvm.Cond.soleField "RecordCalls$Connection" "bytesLeft") ∈ rc_tb := rc_tm1 (List.mem_of_getElem? (i := 180) rfl) rfl
set_option maxRecDepth 20000 in
theorem T_181 : (Jvm.Cond.superclass "RecordCalls$Connection" "java/lang/Object") ∈ rc_tb := rc_tm1 (List.mem_of_getElem? (i := 181) rfl) rfl
set_option maxRecDepth 20000 in
theorem T_182 : (Jvm.Cond.fieldLink "RecordCalls" (10 : Nat) "RecordCalls" "tape" "LRecordCalls$Row;") ∈ rc_tb := rc_tm1 (List.mem_of_getElem? (i := 182) rfl) rfl
set_option maxRecDepth 20000 in
theorem T_183 : (Jvm.Cond.fieldLink "RecordCalls" (16 : Nat) "RecordCalls" "slots" "[LRecordCalls$Row;") ∈ rc_tb := rc_tm1 (List.mem_of_getElem? (i := 183) rfl) rfl
set_option maxRecDepth 20000 in
theorem T_184 : (Jvm.Cond.fieldLink "RecordCalls" (22 : Nat) "RecordCalls" "connections" "[LRecordCalls$Connection;") ∈ rc_tb := rc_tm1 (List.mem_of_getElem? (i := 184) rfl) rfl
set_option maxRecDepth 20000 in
theorem T_185 : (Jvm.Cond.fieldLink "RecordCalls" (29 : Nat) "RecordCalls" "server" "LRecordCalls$Server;") ∈ rc_tb := rc_tm1 (List.mem_of_getElem? (i := 185) rfl) rfl
set_option maxRecDepth 20000 in
theorem T_186 : (Jvm.Cond.fieldLink "RecordCalls" (33 : Nat) "RecordCalls" "pushed" "LRecordCalls$Row;") ∈ rc_tb := rc_tm1 (List.mem_of_getElem? (i := 186) rfl) rfl
set_option maxRecDepth 20000 in
theorem T_187 : (Jvm.Cond.fieldLink "RecordCalls" (36 : Nat) "RecordCalls" "joined" "LRecordCalls$Row;") ∈ rc_tb := rc_tm1 (List.mem_of_getElem? (i := 187) rfl) rfl
set_option maxRecDepth 20000 in
theorem T_188 : (Jvm.Cond.fieldLink "RecordCalls" (39 : Nat) "RecordCalls" "slotsMade" "I") ∈ rc_tb := rc_tm1 (List.mem_of_getElem? (i := 188) rfl) rfl
set_option maxRecDepth 20000 in
theorem T_189 : (Jvm.Cond.laysFinal "RecordCalls" "RecordCalls" "tape" "LRecordCalls$Row;") ∈ rc_tb := rc_tm1 (List.mem_of_getElem? (i := 189) rfl) rfl
set_option maxRecDepth 20000 in
theorem T_190 : (Jvm.Cond.soleField "RecordCalls" "tape") ∈ rc_tb := rc_tm1 (List.mem_of_getElem? (i := 190) rfl) rfl
set_option maxRecDepth 20000 in
theorem T_191 : (Jvm.Cond.laysFinal "RecordCalls" "RecordCalls" "slots" "[LRecordCalls$Row;") ∈ rc_tb := rc_tm1 (List.mem_of_getElem? (i := 191) rfl) rfl
set_option maxRecDepth 20000 in
theorem T_192 : (Jvm.Cond.soleField "RecordCalls" "slots") ∈ rc_tb := rc_tm1 (List.mem_of_getElem? (i := 192) rfl) rfl
set_option maxRecDepth 20000 in
theorem T_193 : (Jvm.Cond.laysFinal "RecordCalls" "RecordCalls" "connections" "[LRecordCalls$Connection;") ∈ rc_tb := rc_tm1 (List.mem_of_getElem? (i := 193) rfl) rfl
set_option maxRecDepth 20000 in
theorem T_194 : (Jvm.Cond.soleField "RecordCalls" "connections") ∈ rc_tb := rc_tm1 (List.mem_of_getElem? (i := 194) rfl) rfl
set_option maxRecDepth 20000 in
theorem T_195 : (Jvm.Cond.laysFinal "RecordCalls" "RecordCalls" "server" "LRecordCalls$Server;") ∈ rc_tb := rc_tm1 (List.mem_of_getElem? (i := 195) rfl) rfl
set_option maxRecDepth 20000 in
theorem T_196 : (Jvm.Cond.soleField "RecordCalls" "server") ∈ rc_tb := rc_tm1 (List.mem_of_getElem? (i := 196) rfl) rfl
set_option maxRecDepth 20000 in
theorem T_197 : (Jvm.Cond.laysFinal "RecordCalls" "RecordCalls" "pushed" "LRecordCalls$Row;") ∈ rc_tb := rc_tm1 (List.mem_of_getElem? (i := 197) rfl) rfl
set_option maxRecDepth 20000 in
theorem T_198 : (Jvm.Cond.soleField "RecordCalls" "pushed") ∈ rc_tb := rc_tm1 (List.mem_of_getElem? (i := 198) rfl) rfl
set_option maxRecDepth 20000 in
theorem T_199 : (Jvm.Cond.laysFinal "RecordCalls" "RecordCalls" "joined" "LRecordCalls$Row;") ∈ rc_tb := rc_tm1 (List.mem_of_getElem? (i := 199) rfl) rfl
set_option maxRecDepth 20000 in
theorem T_200 : (Jvm.Cond.soleField "RecordCalls" "joined") ∈ rc_tb := rc_tm1 (List.mem_of_getElem? (i := 200) rfl) rfl
set_option maxRecDepth 20000 in
theorem T_201 : (Jvm.Cond.lays "RecordCalls" "RecordCalls" "slotsMade" "I") ∈ rc_tb := rc_tm1 (List.mem_of_getElem? (i := 201) rfl) rfl
set_option maxRecDepth 20000 in
theorem T_202 : (Jvm.Cond.soleField "RecordCalls" "slotsMade") ∈ rc_tb := rc_tm1 (List.mem_of_getElem? (i := 202) rfl) rfl
set_option maxRecDepth 20000 in
theorem T_203 : (Jvm.Cond.superclass "RecordCalls" "java/lang/Object") ∈ rc_tb := rc_tm1 (List.mem_of_getElem? (i := 203) rfl) rfl
set_option maxRecDepth 20000 in
theorem T_204 : (Jvm.Cond.methodLink "RecordCallsLaw" (73 : Nat) ({ cls := "RecordCalls", name := "raw", desc := "()I" } : Jvm.MethodName)) ∈ rc_tb := rc_tm1 (List.mem_of_getElem? (i := 204) rfl) rfl
set_option maxRecDepth 20000 in
theorem T_205 : (Jvm.Cond.instanceMethod ({ cls := "RecordCalls", name := "raw", desc := "()I" } : Jvm.MethodName)) ∈ rc_tb := rc_tm1 (List.mem_of_getElem? (i := 205) rfl) rfl
set_option maxRecDepth 20000 in
theorem T_206 : (Jvm.Cond.selects "RecordCalls" ({ cls := "RecordCalls", name := "raw", desc := "()I" } : Jvm.MethodName) ({ cls := "RecordCalls", name := "raw", desc := "()I" } : Jvm.MethodName)) ∈ rc_tb := rc_tm1 (List.mem_of_getElem? (i := 206) rfl) rfl
set_option maxRecDepth 20000 in
theorem T_207 : (Jvm.Cond.code ({ cls := "RecordCalls", name := "raw", desc := "()I" } : Jvm.MethodName) prog_1_method_4_code (1 : Nat) (Option.some Jvm.ClassFile.FieldType.int)) ∈ rc_tb := rc_tm1 (List.mem_of_getElem? (i := 207) rfl) rfl
set_option maxRecDepth 20000 in
theorem T_208 : (Jvm.Cond.methodLink "RecordCalls" (61 : Nat) ({ cls := "RecordCalls", name := "newSlot", desc := "()LRecordCalls$Row;" } : Jvm.MethodName)) ∈ rc_tb := rc_tm1 (List.mem_of_getElem? (i := 208) rfl) rfl
set_option maxRecDepth 20000 in
theorem T_209 : (Jvm.Cond.privateMethod ({ cls := "RecordCalls", name := "newSlot", desc := "()LRecordCalls$Row;" } : Jvm.MethodName)) ∈ rc_tb := rc_tm1 (List.mem_of_getElem? (i := 209) rfl) rfl
set_option maxRecDepth 20000 in
theorem T_210 : (Jvm.Cond.instanceMethod ({ cls := "RecordCalls", name := "newSlot", desc := "()LRecordCalls$Row;" } : Jvm.MethodName)) ∈ rc_tb := rc_tm1 (List.mem_of_getElem? (i := 210) rfl) rfl
set_option maxRecDepth 20000 in
theorem T_211 : (Jvm.Cond.code ({ cls := "RecordCalls", name := "newSlot", desc := "()LRecordCalls$Row;" } : Jvm.MethodName) prog_1_method_19_code (2 : Nat) (Option.some (Jvm.ClassFile.FieldType.object "RecordCalls$Row"))) ∈ rc_tb := rc_tm1 (List.mem_of_getElem? (i := 211) rfl) rfl
set_option maxRecDepth 20000 in
theorem T_212 : (Jvm.Cond.methodLink "RecordCalls" (110 : Nat) ({ cls := "RecordCalls", name := "slotRow", desc := "(I)LRecordCalls$Row;" } : Jvm.MethodName)) ∈ rc_tb := rc_tm1 (List.mem_of_getElem? (i := 212) rfl) rfl
set_option maxRecDepth 20000 in
theorem T_213 : (Jvm.Cond.privateMethod ({ cls := "RecordCalls", name := "slotRow", desc := "(I)LRecordCalls$Row;" } : Jvm.MethodName)) ∈ rc_tb := rc_tm1 (List.mem_of_getElem? (i := 213) rfl) rfl
set_option maxRecDepth 20000 in
theorem T_214 : (Jvm.Cond.instanceMethod ({ cls := "RecordCalls", name := "slotRow", desc := "(I)LRecordCalls$Row;" } : Jvm.MethodName)) ∈ rc_tb := rc_tm1 (List.mem_of_getElem? (i := 214) rfl) rfl
set_option maxRecDepth 20000 in
theorem T_215 : (Jvm.Cond.code ({ cls := "RecordCalls", name := "slotRow", desc := "(I)LRecordCalls$Row;" } : Jvm.MethodName) prog_1_method_18_code (2 : Nat) (Option.some (Jvm.ClassFile.FieldType.object "RecordCalls$Row"))) ∈ rc_tb := rc_tm1 (List.mem_of_getElem? (i := 215) rfl) rfl
set_option maxRecDepth 20000 in
theorem T_216 : (Jvm.Cond.methodLink "RecordCalls" (82 : Nat) ({ cls := "RecordCalls$Row", name := "clear", desc := "()V" } : Jvm.MethodName)) ∈ rc_tb := rc_tm1 (List.mem_of_getElem? (i := 216) rfl) rfl
set_option maxRecDepth 20000 in
theorem T_217 : (Jvm.Cond.instanceMethod ({ cls := "RecordCalls$Row", name := "clear", desc := "()V" } : Jvm.MethodName)) ∈ rc_tb := rc_tm1 (List.mem_of_getElem? (i := 217) rfl) rfl
set_option maxRecDepth 20000 in
theorem T_218 : (Jvm.Cond.selects "RecordCalls$Row" ({ cls := "RecordCalls$Row", name := "clear", desc := "()V" } : Jvm.MethodName) ({ cls := "RecordCalls$Row", name := "clear", desc := "()V" } : Jvm.MethodName)) ∈ rc_tb := rc_tm1 (List.mem_of_getElem? (i := 218) rfl) rfl
set_option maxRecDepth 20000 in
theorem T_219 : (Jvm.Cond.code ({ cls := "RecordCalls$Row", name := "clear", desc := "()V" } : Jvm.MethodName) prog_6_method_3_code (1 : Nat) (Option.none : Option Jvm.ClassFile.FieldType)) ∈ rc_tb := rc_tm1 (List.mem_of_getElem? (i := 219) rfl) rfl
set_option maxRecDepth 20000 in
theorem T_220 : (Jvm.Cond.methodLink "RecordCalls" (44 : Nat) ({ cls := "RecordCalls$Row", name := "size", desc := "()I" } : Jvm.MethodName)) ∈ rc_tb := rc_tm1 (List.mem_of_getElem? (i := 220) rfl) rfl
set_option maxRecDepth 20000 in
theorem T_221 : (Jvm.Cond.instanceMethod ({ cls := "RecordCalls$Row", name := "size", desc := "()I" } : Jvm.MethodName)) ∈ rc_tb := rc_tm1 (List.mem_of_getElem? (i := 221) rfl) rfl
set_option maxRecDepth 20000 in
theorem T_222 : (Jvm.Cond.selects "RecordCalls$Row" ({ cls := "RecordCalls$Row", name := "size", desc := "()I" } : Jvm.MethodName) ({ cls := "RecordCalls$Row", name := "size", desc := "()I" } : Jvm.MethodName)) ∈ rc_tb := rc_tm1 (List.mem_of_getElem? (i := 222) rfl) rfl
set_option maxRecDepth 20000 in
theorem T_223 : (Jvm.Cond.code ({ cls := "RecordCalls$Row", name := "size", desc := "()I" } : Jvm.MethodName) prog_6_method_2_code (1 : Nat) (Option.some Jvm.ClassFile.FieldType.int)) ∈ rc_tb := rc_tm1 (List.mem_of_getElem? (i := 223) rfl) rfl
set_option maxRecDepth 20000 in
theorem T_224 : (Jvm.Cond.methodLink "RecordCalls" (65 : Nat) ({ cls := "RecordCalls$Row", name := "addPart", desc := "(LRecordCalls$Row;II)V" } : Jvm.MethodName)) ∈ rc_tb := rc_tm1 (List.mem_of_getElem? (i := 224) rfl) rfl
set_option maxRecDepth 20000 in
theorem T_225 : (Jvm.Cond.instanceMethod ({ cls := "RecordCalls$Row", name := "addPart", desc := "(LRecordCalls$Row;II)V" } : Jvm.MethodName)) ∈ rc_tb := rc_tm1 (List.mem_of_getElem? (i := 225) rfl) rfl
set_option maxRecDepth 20000 in
theorem T_226 : (Jvm.Cond.selects "RecordCalls$Row" ({ cls := "RecordCalls$Row", name := "addPart", desc := "(LRecordCalls$Row;II)V" } : Jvm.MethodName) ({ cls := "RecordCalls$Row", name := "addPart", desc := "(LRecordCalls$Row;II)V" } : Jvm.MethodName)) ∈ rc_tb := rc_tm1 (List.mem_of_getElem? (i := 226) rfl) rfl
set_option maxRecDepth 20000 in
theorem T_227 : (Jvm.Cond.code ({ cls := "RecordCalls$Row", name := "addPart", desc := "(LRecordCalls$Row;II)V" } : Jvm.MethodName) prog_6_method_12_code (4 : Nat) (Option.none : Option Jvm.ClassFile.FieldType)) ∈ rc_tb := rc_tm1 (List.mem_of_getElem? (i := 227) rfl) rfl
set_option maxRecDepth 20000 in
theorem T_228 : (Jvm.Cond.methodLink "RecordCalls$Row" (31 : Nat) ({ cls := "RecordCalls$Row", name := "makeRoom", desc := "(I)V" } : Jvm.MethodName)) ∈ rc_tb := rc_tm1 (List.mem_of_getElem? (i := 228) rfl) rfl
set_option maxRecDepth 20000 in
theorem T_229 : (Jvm.Cond.privateMethod ({ cls := "RecordCalls$Row", name := "makeRoom", desc := "(I)V" } : Jvm.MethodName)) ∈ rc_tb := rc_tm1 (List.mem_of_getElem? (i := 229) rfl) rfl
set_option maxRecDepth 20000 in
theorem T_230 : (Jvm.Cond.instanceMethod ({ cls := "RecordCalls$Row", name := "makeRoom", desc := "(I)V" } : Jvm.MethodName)) ∈ rc_tb := rc_tm1 (List.mem_of_getElem? (i := 230) rfl) rfl
set_option maxRecDepth 20000 in
theorem T_231 : (Jvm.Cond.code ({ cls := "RecordCalls$Row", name := "makeRoom", desc := "(I)V" } : Jvm.MethodName) prog_6_method_7_code (4 : Nat) (Option.none : Option Jvm.ClassFile.FieldType)) ∈ rc_tb := rc_tm1 (List.mem_of_getElem? (i := 231) rfl) rfl
set_option maxRecDepth 20000 in
theorem T_232 : (Jvm.Cond.methodLink "RecordCalls$Row" (19 : Nat) ({ cls := "java/lang/Math", name := "max", desc := "(II)I" } : Jvm.MethodName)) ∈ rc_tb := rc_tm1 (List.mem_of_getElem? (i := 232) rfl) rfl
set_option maxRecDepth 20000 in
theorem T_233 : (Jvm.Cond.static ({ cls := "java/lang/Math", name := "max", desc := "(II)I" } : Jvm.MethodName)) ∈ rc_tb := rc_tm1 (List.mem_of_getElem? (i := 233) rfl) rfl
set_option maxRecDepth 20000 in
theorem T_234 : (Jvm.Cond.code ({ cls := "java/lang/Math", name := "max", desc := "(II)I" } : Jvm.MethodName) prog_14_method_65_code (2 : Nat) (Option.some Jvm.ClassFile.FieldType.int)) ∈ rc_tb := rc_tm1 (List.mem_of_getElem? (i := 234) rfl) rfl
set_option maxRecDepth 20000 in
theorem T_235 : (Jvm.Cond.methodLink "RecordCalls$Row" (25 : Nat) ({ cls := "java/util/Arrays", name := "copyOf", desc := "([BI)[B" } : Jvm.MethodName)) ∈ rc_tb := rc_tm1 (List.mem_of_getElem? (i := 235) rfl) rfl
set_option maxRecDepth 20000 in
theorem T_236 : (Jvm.Cond.static ({ cls := "java/util/Arrays", name := "copyOf", desc := "([BI)[B" } : Jvm.MethodName)) ∈ rc_tb := rc_tm1 (List.mem_of_getElem? (i := 236) rfl) rfl
set_option maxRecDepth 20000 in
theorem T_237 : (Jvm.Cond.code ({ cls := "java/util/Arrays", name := "copyOf", desc := "([BI)[B" } : Jvm.MethodName) prog_19_method_121_code (3 : Nat) (Option.some (Jvm.ClassFile.FieldType.array Jvm.ClassFile.FieldType.byte))) ∈ rc_tb := rc_tm1 (List.mem_of_getElem? (i := 237) rfl) rfl
set_option maxRecDepth 20000 in
theorem T_238 : (Jvm.Cond.methodLink "java/util/Arrays" (310 : Nat) ({ cls := "[B", name := "clone", desc := "()Ljava/lang/Object;" } : Jvm.MethodName)) ∈ rc_tb := rc_tm1 (List.mem_of_getElem? (i := 238) rfl) rfl
set_option maxRecDepth 20000 in
theorem T_239 : (Jvm.Cond.sameMethod "[B" "java/lang/Object" "clone" "()Ljava/lang/Object;") ∈ rc_tb := rc_tm1 (List.mem_of_getElem? (i := 239) rfl) rfl
set_option maxRecDepth 20000 in
theorem T_240 : (Jvm.Cond.native ({ cls := "java/lang/Object", name := "clone", desc := "()Ljava/lang/Object;" } : Jvm.MethodName)) ∈ rc_tb := rc_tm2 (List.mem_of_getElem? (i := 0) rfl) rfl
set_option maxRecDepth 20000 in
theorem T_241 : (Jvm.Cond.instanceMethod ({ cls := "java/lang/Object", name := "clone", desc := "()Ljava/lang/Object;" } : Jvm.MethodName)) ∈ rc_tb := rc_tm2 (List.mem_of_getElem? (i := 1) rfl) rfl
set_option maxRecDepth 20000 in
theorem T_242 : (Jvm.Cond.selects "[B" ({ cls := "[B", name := "clone", desc := "()Ljava/lang/Object;" } : Jvm.MethodName) ({ cls := "java/lang/Object", name := "clone", desc := "()Ljava/lang/Object;" } : Jvm.MethodName)) ∈ rc_tb := rc_tm2 (List.mem_of_getElem? (i := 2) rfl) rfl
set_option maxRecDepth 20000 in
theorem T_243 : (Jvm.Cond.castable "[B" "java/lang/Cloneable") ∈ rc_tb := rc_tm2 (List.mem_of_getElem? (i := 3) rfl) rfl
set_option maxRecDepth 20000 in
theorem T_244 : (Jvm.Cond.classLink "java/util/Arrays" (311 : Nat) "[B") ∈ rc_tb := rc_tm2 (List.mem_of_getElem? (i := 4) rfl) rfl
set_option maxRecDepth 20000 in
theorem T_245 : (Jvm.Cond.methodLink "java/util/Arrays" (304 : Nat) ({ cls := "java/lang/Math", name := "min", desc := "(II)I" } : Jvm.MethodName)) ∈ rc_tb := rc_tm2 (List.mem_of_getElem? (i := 5) rfl) rfl
set_option maxRecDepth 20000 in
theorem T_246 : (Jvm.Cond.static ({ cls := "java/lang/Math", name := "min", desc := "(II)I" } : Jvm.MethodName)) ∈ rc_tb := rc_tm2 (List.mem_of_getElem? (i := 6) rfl) rfl
set_option maxRecDepth 20000 in
theorem T_247 : (Jvm.Cond.code ({ cls := "java/lang/Math", name := "min", desc := "(II)I" } : Jvm.MethodName) prog_14_method_69_code (2 : Nat) (Option.some Jvm.ClassFile.FieldType.int)) ∈ rc_tb := rc_tm2 (List.mem_of_getElem? (i := 7) rfl) rfl
set_option maxRecDepth 20000 in
theorem T_248 : (Jvm.Cond.methodLink "java/util/Arrays" (150 : Nat) ({ cls := "java/lang/System", name := "arraycopy", desc := "(Ljava/lang/Object;ILjava/lang/Object;II)V" } : Jvm.MethodName)) ∈ rc_tb := rc_tm2 (List.mem_of_getElem? (i := 8) rfl) rfl
set_option maxRecDepth 20000 in
theorem T_249 : (Jvm.Cond.static ({ cls := "java/lang/System", name := "arraycopy", desc := "(Ljava/lang/Object;ILjava/lang/Object;II)V" } : Jvm.MethodName)) ∈ rc_tb := rc_tm2 (List.mem_of_getElem? (i := 9) rfl) rfl
set_option maxRecDepth 20000 in
theorem T_250 : (Jvm.Cond.native ({ cls := "java/lang/System", name := "arraycopy", desc := "(Ljava/lang/Object;ILjava/lang/Object;II)V" } : Jvm.MethodName)) ∈ rc_tb := rc_tm2 (List.mem_of_getElem? (i := 10) rfl) rfl
set_option maxRecDepth 20000 in
theorem T_251 : (Jvm.Cond.methodLink "RecordCalls$Row" (38 : Nat) ({ cls := "java/lang/System", name := "arraycopy", desc := "(Ljava/lang/Object;ILjava/lang/Object;II)V" } : Jvm.MethodName)) ∈ rc_tb := rc_tm2 (List.mem_of_getElem? (i := 11) rfl) rfl
set_option maxRecDepth 20000 in
theorem T_252 : (Jvm.Cond.methodLink "RecordCalls" (69 : Nat) ({ cls := "RecordCalls", name := "tapeIsSlot", desc := "()I" } : Jvm.MethodName)) ∈ rc_tb := rc_tm2 (List.mem_of_getElem? (i := 12) rfl) rfl
set_option maxRecDepth 20000 in
theorem T_253 : (Jvm.Cond.privateMethod ({ cls := "RecordCalls", name := "tapeIsSlot", desc := "()I" } : Jvm.MethodName)) ∈ rc_tb := rc_tm2 (List.mem_of_getElem? (i := 13) rfl) rfl
set_option maxRecDepth 20000 in
theorem T_254 : (Jvm.Cond.instanceMethod ({ cls := "RecordCalls", name := "tapeIsSlot", desc := "()I" } : Jvm.MethodName)) ∈ rc_tb := rc_tm2 (List.mem_of_getElem? (i := 14) rfl) rfl
set_option maxRecDepth 20000 in
theorem T_255 : (Jvm.Cond.code ({ cls := "RecordCalls", name := "tapeIsSlot", desc := "()I" } : Jvm.MethodName) prog_1_method_20_code (1 : Nat) (Option.some Jvm.ClassFile.FieldType.int)) ∈ rc_tb := rc_tm2 (List.mem_of_getElem? (i := 15) rfl) rfl
set_option maxRecDepth 20000 in
theorem T_256 : (Jvm.Cond.methodLink "RecordCallsLaw" (107 : Nat) ({ cls := "RecordCalls", name := "value", desc := "()J" } : Jvm.MethodName)) ∈ rc_tb := rc_tm2 (List.mem_of_getElem? (i := 16) rfl) rfl
set_option maxRecDepth 20000 in
theorem T_257 : (Jvm.Cond.instanceMethod ({ cls := "RecordCalls", name := "value", desc := "()J" } : Jvm.MethodName)) ∈ rc_tb := rc_tm2 (List.mem_of_getElem? (i := 17) rfl) rfl
set_option maxRecDepth 20000 in
theorem T_258 : (Jvm.Cond.selects "RecordCalls" ({ cls := "RecordCalls", name := "value", desc := "()J" } : Jvm.MethodName) ({ cls := "RecordCalls", name := "value", desc := "()J" } : Jvm.MethodName)) ∈ rc_tb := rc_tm2 (List.mem_of_getElem? (i := 18) rfl) rfl
set_option maxRecDepth 20000 in
theorem T_259 : (Jvm.Cond.code ({ cls := "RecordCalls", name := "value", desc := "()J" } : Jvm.MethodName) prog_1_method_13_code (1 : Nat) (Option.some Jvm.ClassFile.FieldType.long)) ∈ rc_tb := rc_tm2 (List.mem_of_getElem? (i := 19) rfl) rfl
set_option maxRecDepth 20000 in
theorem T_260 : (Jvm.Cond.methodLink "RecordCalls" (157 : Nat) ({ cls := "RecordCalls", name := "placeOfTape", desc := "()I" } : Jvm.MethodName)) ∈ rc_tb := rc_tm2 (List.mem_of_getElem? (i := 20) rfl) rfl
set_option maxRecDepth 20000 in
theorem T_261 : (Jvm.Cond.privateMethod ({ cls := "RecordCalls", name := "placeOfTape", desc := "()I" } : Jvm.MethodName)) ∈ rc_tb := rc_tm2 (List.mem_of_getElem? (i := 21) rfl) rfl
set_option maxRecDepth 20000 in
theorem T_262 : (Jvm.Cond.instanceMethod ({ cls := "RecordCalls", name := "placeOfTape", desc := "()I" } : Jvm.MethodName)) ∈ rc_tb := rc_tm2 (List.mem_of_getElem? (i := 22) rfl) rfl
set_option maxRecDepth 20000 in
theorem T_263 : (Jvm.Cond.code ({ cls := "RecordCalls", name := "placeOfTape", desc := "()I" } : Jvm.MethodName) prog_1_method_25_code (1 : Nat) (Option.some Jvm.ClassFile.FieldType.int)) ∈ rc_tb := rc_tm2 (List.mem_of_getElem? (i := 23) rfl) rfl
set_option maxRecDepth 20000 in
theorem T_264 : (Jvm.Cond.methodLink "RecordCalls" (179 : Nat) ({ cls := "RecordCalls$KeyMap", name := "placeOf", desc := "(LRecordCalls$Row;II)I" } : Jvm.MethodName)) ∈ rc_tb := rc_tm2 (List.mem_of_getElem? (i := 24) rfl) rfl
set_option maxRecDepth 20000 in
theorem T_265 : (Jvm.Cond.instanceMethod ({ cls := "RecordCalls$KeyMap", name := "placeOf", desc := "(LRecordCalls$Row;II)I" } : Jvm.MethodName)) ∈ rc_tb := rc_tm2 (List.mem_of_getElem? (i := 25) rfl) rfl
set_option maxRecDepth 20000 in
theorem T_266 : (Jvm.Cond.selects "RecordCalls$KeyMap" ({ cls := "RecordCalls$KeyMap", name := "placeOf", desc := "(LRecordCalls$Row;II)I" } : Jvm.MethodName) ({ cls := "RecordCalls$KeyMap", name := "placeOf", desc := "(LRecordCalls$Row;II)I" } : Jvm.MethodName)) ∈ rc_tb := rc_tm2 (List.mem_of_getElem? (i := 26) rfl) rfl
set_option maxRecDepth 20000 in
theorem T_267 : (Jvm.Cond.code ({ cls := "RecordCalls$KeyMap", name := "placeOf", desc := "(LRecordCalls$Row;II)I" } : Jvm.MethodName) prog_3_method_5_code (5 : Nat) (Option.some Jvm.ClassFile.FieldType.int)) ∈ rc_tb := rc_tm2 (List.mem_of_getElem? (i := 27) rfl) rfl
set_option maxRecDepth 20000 in
theorem T_268 : (Jvm.Cond.methodLink "RecordCalls$KeyMap" (26 : Nat) ({ cls := "RecordCalls$Row", name := "isPart", desc := "(LRecordCalls$Row;II)Z" } : Jvm.MethodName)) ∈ rc_tb := rc_tm2 (List.mem_of_getElem? (i := 28) rfl) rfl
set_option maxRecDepth 20000 in
theorem T_269 : (Jvm.Cond.instanceMethod ({ cls := "RecordCalls$Row", name := "isPart", desc := "(LRecordCalls$Row;II)Z" } : Jvm.MethodName)) ∈ rc_tb := rc_tm2 (List.mem_of_getElem? (i := 29) rfl) rfl
set_option maxRecDepth 20000 in
theorem T_270 : (Jvm.Cond.selects "RecordCalls$Row" ({ cls := "RecordCalls$Row", name := "isPart", desc := "(LRecordCalls$Row;II)Z" } : Jvm.MethodName) ({ cls := "RecordCalls$Row", name := "isPart", desc := "(LRecordCalls$Row;II)Z" } : Jvm.MethodName)) ∈ rc_tb := rc_tm2 (List.mem_of_getElem? (i := 30) rfl) rfl
set_option maxRecDepth 20000 in
theorem T_271 : (Jvm.Cond.code ({ cls := "RecordCalls$Row", name := "isPart", desc := "(LRecordCalls$Row;II)Z" } : Jvm.MethodName) prog_6_method_14_code (5 : Nat) (Option.some Jvm.ClassFile.FieldType.boolean)) ∈ rc_tb := rc_tm2 (List.mem_of_getElem? (i := 31) rfl) rfl
set_option maxRecDepth 20000 in
theorem T_272 : (Jvm.Cond.methodLink "RecordCalls$Row" (55 : Nat) ({ cls := "RecordCalls$Row", name := "at", desc := "(I)I" } : Jvm.MethodName)) ∈ rc_tb := rc_tm2 (List.mem_of_getElem? (i := 32) rfl) rfl
set_option maxRecDepth 20000 in
theorem T_273 : (Jvm.Cond.instanceMethod ({ cls := "RecordCalls$Row", name := "at", desc := "(I)I" } : Jvm.MethodName)) ∈ rc_tb := rc_tm2 (List.mem_of_getElem? (i := 33) rfl) rfl
set_option maxRecDepth 20000 in
theorem T_274 : (Jvm.Cond.selects "RecordCalls$Row" ({ cls := "RecordCalls$Row", name := "at", desc := "(I)I" } : Jvm.MethodName) ({ cls := "RecordCalls$Row", name := "at", desc := "(I)I" } : Jvm.MethodName)) ∈ rc_tb := rc_tm2 (List.mem_of_getElem? (i := 34) rfl) rfl
set_option maxRecDepth 20000 in
theorem T_275 : (Jvm.Cond.code ({ cls := "RecordCalls$Row", name := "at", desc := "(I)I" } : Jvm.MethodName) prog_6_method_5_code (2 : Nat) (Option.some Jvm.ClassFile.FieldType.int)) ∈ rc_tb := rc_tm2 (List.mem_of_getElem? (i := 35) rfl) rfl
set_option maxRecDepth 20000 in
theorem T_276 : (Jvm.Cond.methodLink "RecordCalls" (160 : Nat) ({ cls := "RecordCalls$KeyMap", name := "valueAt", desc := "(I)J" } : Jvm.MethodName)) ∈ rc_tb := rc_tm2 (List.mem_of_getElem? (i := 36) rfl) rfl
set_option maxRecDepth 20000 in
theorem T_277 : (Jvm.Cond.instanceMethod ({ cls := "RecordCalls$KeyMap", name := "valueAt", desc := "(I)J" } : Jvm.MethodName)) ∈ rc_tb := rc_tm2 (List.mem_of_getElem? (i := 37) rfl) rfl
set_option maxRecDepth 20000 in
theorem T_278 : (Jvm.Cond.selects "RecordCalls$KeyMap" ({ cls := "RecordCalls$KeyMap", name := "valueAt", desc := "(I)J" } : Jvm.MethodName) ({ cls := "RecordCalls$KeyMap", name := "valueAt", desc := "(I)J" } : Jvm.MethodName)) ∈ rc_tb := rc_tm2 (List.mem_of_getElem? (i := 38) rfl) rfl
set_option maxRecDepth 20000 in
theorem T_279 : (Jvm.Cond.code ({ cls := "RecordCalls$KeyMap", name := "valueAt", desc := "(I)J" } : Jvm.MethodName) prog_3_method_6_code (2 : Nat) (Option.some Jvm.ClassFile.FieldType.long)) ∈ rc_tb := rc_tm2 (List.mem_of_getElem? (i := 39) rfl) rfl
set_option maxRecDepth 20000 in
theorem T_280 : (Jvm.Cond.methodLink "RecordCalls$KeyMap" (30 : Nat) ({ cls := "RecordCalls$KeyMap", name := "isPlace", desc := "(I)Z" } : Jvm.MethodName)) ∈ rc_tb := rc_tm2 (List.mem_of_getElem? (i := 40) rfl) rfl
set_option maxRecDepth 20000 in
theorem T_281 : (Jvm.Cond.instanceMethod ({ cls := "RecordCalls$KeyMap", name := "isPlace", desc := "(I)Z" } : Jvm.MethodName)) ∈ rc_tb := rc_tm2 (List.mem_of_getElem? (i := 41) rfl) rfl
set_option maxRecDepth 20000 in
theorem T_282 : (Jvm.Cond.selects "RecordCalls$KeyMap" ({ cls := "RecordCalls$KeyMap", name := "isPlace", desc := "(I)Z" } : Jvm.MethodName) ({ cls := "RecordCalls$KeyMap", name := "isPlace", desc := "(I)Z" } : Jvm.MethodName)) ∈ rc_tb := rc_tm2 (List.mem_of_getElem? (i := 42) rfl) rfl
set_option maxRecDepth 20000 in
theorem T_283 : (Jvm.Cond.code ({ cls := "RecordCalls$KeyMap", name := "isPlace", desc := "(I)Z" } : Jvm.MethodName) prog_3_method_4_code (2 : Nat) (Option.some Jvm.ClassFile.FieldType.boolean)) ∈ rc_tb := rc_tm2 (List.mem_of_getElem? (i := 43) rfl) rfl
set_option maxRecDepth 20000 in
theorem T_284 : (Jvm.Cond.methodLink "RecordCallsLaw" (112 : Nat) ({ cls := "RecordCalls", name := "has", desc := "()Z" } : Jvm.MethodName)) ∈ rc_tb := rc_tm2 (List.mem_of_getElem? (i := 44) rfl) rfl
set_option maxRecDepth 20000 in
theorem T_285 : (Jvm.Cond.instanceMethod ({ cls := "RecordCalls", name := "has", desc := "()Z" } : Jvm.MethodName)) ∈ rc_tb := rc_tm2 (List.mem_of_getElem? (i := 45) rfl) rfl
set_option maxRecDepth 20000 in
theorem T_286 : (Jvm.Cond.selects "RecordCalls" ({ cls := "RecordCalls", name := "has", desc := "()Z" } : Jvm.MethodName) ({ cls := "RecordCalls", name := "has", desc := "()Z" } : Jvm.MethodName)) ∈ rc_tb := rc_tm2 (List.mem_of_getElem? (i := 46) rfl) rfl
set_option maxRecDepth 20000 in
theorem T_287 : (Jvm.Cond.code ({ cls := "RecordCalls", name := "has", desc := "()Z" } : Jvm.MethodName) prog_1_method_14_code (1 : Nat) (Option.some Jvm.ClassFile.FieldType.boolean)) ∈ rc_tb := rc_tm2 (List.mem_of_getElem? (i := 47) rfl) rfl
set_option maxRecDepth 20000 in
theorem T_288 : (Jvm.Cond.methodLink "RecordCallsLaw" (59 : Nat) ({ cls := "RecordCallsLaw", name := "feed", desc := "(LRecordCalls;IIIII[J)I" } : Jvm.MethodName)) ∈ rc_tb := rc_tm2 (List.mem_of_getElem? (i := 48) rfl) rfl
set_option maxRecDepth 20000 in
theorem T_289 : (Jvm.Cond.static ({ cls := "RecordCallsLaw", name := "feed", desc := "(LRecordCalls;IIIII[J)I" } : Jvm.MethodName)) ∈ rc_tb := rc_tm2 (List.mem_of_getElem? (i := 49) rfl) rfl
set_option maxRecDepth 20000 in
theorem T_290 : (Jvm.Cond.codeWith ({ cls := "RecordCallsLaw", name := "feed", desc := "(LRecordCalls;IIIII[J)I" } : Jvm.MethodName) method_3_code (8 : Nat) (Option.some Jvm.ClassFile.FieldType.int) [((0 : Nat), (16 : Nat), (19 : Nat), (13 : Nat))]) ∈ rc_tb := rc_tm2 (List.mem_of_getElem? (i := 50) rfl) rfl
set_option maxRecDepth 20000 in
theorem T_291 : (Jvm.Cond.classLink "RecordCallsLaw" (13 : Nat) "java/lang/UnsupportedOperationException") ∈ rc_tb := rc_tm2 (List.mem_of_getElem? (i := 51) rfl) rfl
set_option maxRecDepth 20000 in
theorem T_292 : (Jvm.Cond.methodLink "RecordCallsLaw" (7 : Nat) ({ cls := "RecordCalls", name := "feed", desc := "(IIIII)I" } : Jvm.MethodName)) ∈ rc_tb := rc_tm2 (List.mem_of_getElem? (i := 52) rfl) rfl
set_option maxRecDepth 20000 in
theorem T_293 : (Jvm.Cond.instanceMethod ({ cls := "RecordCalls", name := "feed", desc := "(IIIII)I" } : Jvm.MethodName)) ∈ rc_tb := rc_tm2 (List.mem_of_getElem? (i := 53) rfl) rfl
set_option maxRecDepth 20000 in
theorem T_294 : (Jvm.Cond.selects "RecordCalls" ({ cls := "RecordCalls", name := "feed", desc := "(IIIII)I" } : Jvm.MethodName) ({ cls := "RecordCalls", name := "feed", desc := "(IIIII)I" } : Jvm.MethodName)) ∈ rc_tb := rc_tm2 (List.mem_of_getElem? (i := 54) rfl) rfl
set_option maxRecDepth 20000 in
theorem T_295 : (Jvm.Cond.code ({ cls := "RecordCalls", name := "feed", desc := "(IIIII)I" } : Jvm.MethodName) prog_1_method_2_code (6 : Nat) (Option.some Jvm.ClassFile.FieldType.int)) ∈ rc_tb := rc_tm2 (List.mem_of_getElem? (i := 55) rfl) rfl
set_option maxRecDepth 20000 in
theorem T_296 : (Jvm.Cond.classLink "RecordCalls" (48 : Nat) "java/lang/UnsupportedOperationException") ∈ rc_tb := rc_tm2 (List.mem_of_getElem? (i := 56) rfl) rfl
set_option maxRecDepth 20000 in
theorem T_297 : (Jvm.Cond.instantiable "java/lang/UnsupportedOperationException" (6 : Nat)) ∈ rc_tb := rc_tm2 (List.mem_of_getElem? (i := 57) rfl) rfl
set_option maxRecDepth 20000 in
theorem T_298 : (Jvm.Cond.castable "java/lang/UnsupportedOperationException" "java/lang/UnsupportedOperationException") ∈ rc_tb := rc_tm2 (List.mem_of_getElem? (i := 58) rfl) rfl
set_option maxRecDepth 20000 in
theorem T_299 : (Jvm.Cond.declares ({ cls := "java/lang/RuntimeException", name := "<init>", desc := "()V" } : Jvm.MethodName)) ∈ rc_tb := rc_tm2 (List.mem_of_getElem? (i := 59) rfl) rfl
set_option maxRecDepth 20000 in
theorem T_300 : (Jvm.Cond.declares ({ cls := "java/lang/RuntimeException", name := "<init>", desc := "(Ljava/lang/String;)V" } : Jvm.MethodName)) ∈ rc_tb := rc_tm2 (List.mem_of_getElem? (i := 60) rfl) rfl
set_option maxRecDepth 20000 in
theorem T_301 : (Jvm.Cond.declares ({ cls := "java/lang/Exception", name := "<init>", desc := "()V" } : Jvm.MethodName)) ∈ rc_tb := rc_tm2 (List.mem_of_getElem? (i := 61) rfl) rfl
set_option maxRecDepth 20000 in
theorem T_302 : (Jvm.Cond.declares ({ cls := "java/lang/Exception", name := "<init>", desc := "(Ljava/lang/String;)V" } : Jvm.MethodName)) ∈ rc_tb := rc_tm2 (List.mem_of_getElem? (i := 62) rfl) rfl
set_option maxRecDepth 20000 in
theorem T_303 : (Jvm.Cond.declares ({ cls := "java/lang/Throwable", name := "<init>", desc := "()V" } : Jvm.MethodName)) ∈ rc_tb := rc_tm2 (List.mem_of_getElem? (i := 63) rfl) rfl
set_option maxRecDepth 20000 in
theorem T_304 : (Jvm.Cond.declares ({ cls := "java/lang/Throwable", name := "<init>", desc := "(Ljava/lang/String;)V" } : Jvm.MethodName)) ∈ rc_tb := rc_tm2 (List.mem_of_getElem? (i := 64) rfl) rfl
set_option maxRecDepth 20000 in
theorem T_305 : (Jvm.Cond.selects "java/lang/UnsupportedOperationException" ({ cls := "java/lang/Throwable", name := "fillInStackTrace", desc := "(I)Ljava/lang/Throwable;" } : Jvm.MethodName) ({ cls := "java/lang/Throwable", name := "fillInStackTrace", desc := "(I)Ljava/lang/Throwable;" } : Jvm.MethodName)) ∈ rc_tb := rc_tm2 (List.mem_of_getElem? (i := 65) rfl) rfl
set_option maxRecDepth 20000 in
theorem T_306 : (Jvm.Cond.selects "java/lang/UnsupportedOperationException" ({ cls := "java/lang/Throwable", name := "fillInStackTrace", desc := "()Ljava/lang/Throwable;" } : Jvm.MethodName) ({ cls := "java/lang/Throwable", name := "fillInStackTrace", desc := "()Ljava/lang/Throwable;" } : Jvm.MethodName)) ∈ rc_tb := rc_tm2 (List.mem_of_getElem? (i := 66) rfl) rfl
set_option maxRecDepth 20000 in
theorem T_307 : (Jvm.Cond.lays "java/lang/UnsupportedOperationException" "java/lang/Throwable" "cause" "Ljava/lang/Throwable;") ∈ rc_tb := rc_tm2 (List.mem_of_getElem? (i := 67) rfl) rfl
set_option maxRecDepth 20000 in
theorem T_308 : (Jvm.Cond.lays "java/lang/Throwable" "java/lang/Throwable" "cause" "Ljava/lang/Throwable;") ∈ rc_tb := rc_tm2 (List.mem_of_getElem? (i := 68) rfl) rfl
set_option maxRecDepth 20000 in
theorem T_309 : (Jvm.Cond.lays "java/lang/UnsupportedOperationException" "java/lang/Throwable" "stackTrace" "[Ljava/lang/StackTraceElement;") ∈ rc_tb := rc_tm2 (List.mem_of_getElem? (i := 69) rfl) rfl
set_option maxRecDepth 20000 in
theorem T_310 : (Jvm.Cond.lays "java/lang/Throwable" "java/lang/Throwable" "stackTrace" "[Ljava/lang/StackTraceElement;") ∈ rc_tb := rc_tm2 (List.mem_of_getElem? (i := 70) rfl) rfl
set_option maxRecDepth 20000 in
theorem T_311 : (Jvm.Cond.lays "java/lang/UnsupportedOperationException" "java/lang/Throwable" "suppressedExceptions" "Ljava/util/List;") ∈ rc_tb := rc_tm2 (List.mem_of_getElem? (i := 71) rfl) rfl
set_option maxRecDepth 20000 in
theorem T_312 : (Jvm.Cond.lays "java/lang/Throwable" "java/lang/Throwable" "suppressedExceptions" "Ljava/util/List;") ∈ rc_tb := rc_tm2 (List.mem_of_getElem? (i := 72) rfl) rfl
set_option maxRecDepth 20000 in
theorem T_313 : (Jvm.Cond.lays "java/lang/UnsupportedOperationException" "java/lang/Throwable" "detailMessage" "Ljava/lang/String;") ∈ rc_tb := rc_tm2 (List.mem_of_getElem? (i := 73) rfl) rfl
set_option maxRecDepth 20000 in
theorem T_314 : (Jvm.Cond.lays "java/lang/Throwable" "java/lang/Throwable" "detailMessage" "Ljava/lang/String;") ∈ rc_tb := rc_tm2 (List.mem_of_getElem? (i := 74) rfl) rfl
set_option maxRecDepth 20000 in
theorem T_315 : (Jvm.Cond.lays "java/lang/UnsupportedOperationException" "java/lang/Throwable" "backtrace" "Ljava/lang/Object;") ∈ rc_tb := rc_tm2 (List.mem_of_getElem? (i := 75) rfl) rfl
set_option maxRecDepth 20000 in
theorem T_316 : (Jvm.Cond.lays "java/lang/Throwable" "java/lang/Throwable" "backtrace" "Ljava/lang/Object;") ∈ rc_tb := rc_tm2 (List.mem_of_getElem? (i := 76) rfl) rfl
set_option maxRecDepth 20000 in
theorem T_317 : (Jvm.Cond.fieldLink "java/lang/Throwable" (198 : Nat) "java/lang/Throwable" "backtrace" "Ljava/lang/Object;") ∈ rc_tb := rc_tm2 (List.mem_of_getElem? (i := 77) rfl) rfl
set_option maxRecDepth 20000 in
theorem T_318 : (Jvm.Cond.superclass "java/lang/Throwable" "java/lang/Object") ∈ rc_tb := rc_tm2 (List.mem_of_getElem? (i := 78) rfl) rfl
set_option maxRecDepth 20000 in
theorem T_319 : (Jvm.Cond.instanceMethod ({ cls := "java/lang/Throwable", name := "<init>", desc := "()V" } : Jvm.MethodName)) ∈ rc_tb := rc_tm2 (List.mem_of_getElem? (i := 79) rfl) rfl
set_option maxRecDepth 20000 in
theorem T_320 : (Jvm.Cond.code ({ cls := "java/lang/Throwable", name := "<init>", desc := "()V" } : Jvm.MethodName) prog_17_method_1_code (1 : Nat) (Option.none : Option Jvm.ClassFile.FieldType)) ∈ rc_tb := rc_tm2 (List.mem_of_getElem? (i := 80) rfl) rfl
set_option maxRecDepth 20000 in
theorem T_321 : (Jvm.Cond.methodLink "java/lang/Throwable" (1 : Nat) ({ cls := "java/lang/Object", name := "<init>", desc := "()V" } : Jvm.MethodName)) ∈ rc_tb := rc_tm2 (List.mem_of_getElem? (i := 81) rfl) rfl
set_option maxRecDepth 20000 in
theorem T_322 : (Jvm.Cond.fieldLink "java/lang/Throwable" (13 : Nat) "java/lang/Throwable" "UNASSIGNED_STACK" "[Ljava/lang/StackTraceElement;") ∈ rc_tb := rc_tm2 (List.mem_of_getElem? (i := 82) rfl) rfl
set_option maxRecDepth 20000 in
theorem T_324 : (Jvm.Cond.fieldLink "java/lang/Throwable" (20 : Nat) "java/lang/Throwable" "SUPPRESSED_SENTINEL" "Ljava/util/List;") ∈ rc_tb := rc_tm2 (List.mem_of_getElem? (i := 84) rfl) rfl
set_option maxRecDepth 20000 in
theorem T_326 : (Jvm.Cond.methodLink "java/lang/Throwable" (27 : Nat) ({ cls := "java/lang/Throwable", name := "fillInStackTrace", desc := "()Ljava/lang/Throwable;" } : Jvm.MethodName)) ∈ rc_tb := rc_tm2 (List.mem_of_getElem? (i := 86) rfl) rfl
set_option maxRecDepth 20000 in
theorem T_327 : (Jvm.Cond.instanceMethod ({ cls := "java/lang/Throwable", name := "fillInStackTrace", desc := "()Ljava/lang/Throwable;" } : Jvm.MethodName)) ∈ rc_tb := rc_tm2 (List.mem_of_getElem? (i := 87) rfl) rfl
set_option maxRecDepth 20000 in
theorem T_328 : (Jvm.Cond.sameMethod "java/lang/Throwable" "java/lang/Throwable" "fillInStackTrace" "()Ljava/lang/Throwable;") ∈ rc_tb := rc_tm2 (List.mem_of_getElem? (i := 88) rfl) rfl
set_option maxRecDepth 20000 in
theorem T_329 : (Jvm.Cond.selects "java/lang/IllegalArgumentException" ({ cls := "java/lang/Throwable", name := "fillInStackTrace", desc := "()Ljava/lang/Throwable;" } : Jvm.MethodName) ({ cls := "java/lang/Throwable", name := "fillInStackTrace", desc := "()Ljava/lang/Throwable;" } : Jvm.MethodName)) ∈ rc_tb := rc_tm2 (List.mem_of_getElem? (i := 89) rfl) rfl
set_option maxRecDepth 20000 in
theorem T_330 : (Jvm.Cond.selects "java/lang/IndexOutOfBoundsException" ({ cls := "java/lang/Throwable", name := "fillInStackTrace", desc := "()Ljava/lang/Throwable;" } : Jvm.MethodName) ({ cls := "java/lang/Throwable", name := "fillInStackTrace", desc := "()Ljava/lang/Throwable;" } : Jvm.MethodName)) ∈ rc_tb := rc_tm2 (List.mem_of_getElem? (i := 90) rfl) rfl
set_option maxRecDepth 20000 in
theorem T_331 : (Jvm.Cond.codeSync ({ cls := "java/lang/Throwable", name := "fillInStackTrace", desc := "()Ljava/lang/Throwable;" } : Jvm.MethodName) prog_17_method_18_code (1 : Nat) (Option.some (Jvm.ClassFile.FieldType.object "java/lang/Throwable"))) ∈ rc_tb := rc_tm2 (List.mem_of_getElem? (i := 91) rfl) rfl
set_option maxRecDepth 20000 in
theorem T_332 : (Jvm.Cond.methodLink "java/lang/Throwable" (202 : Nat) ({ cls := "java/lang/Throwable", name := "fillInStackTrace", desc := "(I)Ljava/lang/Throwable;" } : Jvm.MethodName)) ∈ rc_tb := rc_tm2 (List.mem_of_getElem? (i := 92) rfl) rfl
set_option maxRecDepth 20000 in
theorem T_333 : (Jvm.Cond.privateMethod ({ cls := "java/lang/Throwable", name := "fillInStackTrace", desc := "(I)Ljava/lang/Throwable;" } : Jvm.MethodName)) ∈ rc_tb := rc_tm2 (List.mem_of_getElem? (i := 93) rfl) rfl
set_option maxRecDepth 20000 in
theorem T_334 : (Jvm.Cond.instanceMethod ({ cls := "java/lang/Throwable", name := "fillInStackTrace", desc := "(I)Ljava/lang/Throwable;" } : Jvm.MethodName)) ∈ rc_tb := rc_tm2 (List.mem_of_getElem? (i := 94) rfl) rfl
set_option maxRecDepth 20000 in
theorem T_335 : (Jvm.Cond.instantiable "java/lang/Throwable" (6 : Nat)) ∈ rc_tb := rc_tm2 (List.mem_of_getElem? (i := 95) rfl) rfl
set_option maxRecDepth 20000 in
theorem T_336 : (Jvm.Cond.native ({ cls := "java/lang/Throwable", name := "fillInStackTrace", desc := "(I)Ljava/lang/Throwable;" } : Jvm.MethodName)) ∈ rc_tb := rc_tm2 (List.mem_of_getElem? (i := 96) rfl) rfl
set_option maxRecDepth 20000 in
theorem T_337 : (Jvm.Cond.methodLink "RecordCalls" (50 : Nat) ({ cls := "java/lang/UnsupportedOperationException", name := "<init>", desc := "()V" } : Jvm.MethodName)) ∈ rc_tb := rc_tm2 (List.mem_of_getElem? (i := 97) rfl) rfl
set_option maxRecDepth 20000 in
theorem T_338 : (Jvm.Cond.instanceMethod ({ cls := "java/lang/UnsupportedOperationException", name := "<init>", desc := "()V" } : Jvm.MethodName)) ∈ rc_tb := rc_tm2 (List.mem_of_getElem? (i := 98) rfl) rfl
set_option maxRecDepth 20000 in
theorem T_339 : (Jvm.Cond.code ({ cls := "java/lang/UnsupportedOperationException", name := "<init>", desc := "()V" } : Jvm.MethodName) prog_18_method_1_code (1 : Nat) (Option.none : Option Jvm.ClassFile.FieldType)) ∈ rc_tb := rc_tm2 (List.mem_of_getElem? (i := 99) rfl) rfl
set_option maxRecDepth 20000 in
theorem T_340 : (Jvm.Cond.methodLink "java/lang/UnsupportedOperationException" (1 : Nat) ({ cls := "java/lang/RuntimeException", name := "<init>", desc := "()V" } : Jvm.MethodName)) ∈ rc_tb := rc_tm2 (List.mem_of_getElem? (i := 100) rfl) rfl
set_option maxRecDepth 20000 in
theorem T_341 : (Jvm.Cond.instanceMethod ({ cls := "java/lang/RuntimeException", name := "<init>", desc := "()V" } : Jvm.MethodName)) ∈ rc_tb := rc_tm2 (List.mem_of_getElem? (i := 101) rfl) rfl
set_option maxRecDepth 20000 in
theorem T_342 : (Jvm.Cond.code ({ cls := "java/lang/RuntimeException", name := "<init>", desc := "()V" } : Jvm.MethodName) prog_15_method_1_code (1 : Nat) (Option.none : Option Jvm.ClassFile.FieldType)) ∈ rc_tb := rc_tm2 (List.mem_of_getElem? (i := 102) rfl) rfl
set_option maxRecDepth 20000 in
theorem T_343 : (Jvm.Cond.methodLink "java/lang/RuntimeException" (1 : Nat) ({ cls := "java/lang/Exception", name := "<init>", desc := "()V" } : Jvm.MethodName)) ∈ rc_tb := rc_tm2 (List.mem_of_getElem? (i := 103) rfl) rfl
set_option maxRecDepth 20000 in
theorem T_344 : (Jvm.Cond.instanceMethod ({ cls := "java/lang/Exception", name := "<init>", desc := "()V" } : Jvm.MethodName)) ∈ rc_tb := rc_tm2 (List.mem_of_getElem? (i := 104) rfl) rfl
set_option maxRecDepth 20000 in
theorem T_345 : (Jvm.Cond.code ({ cls := "java/lang/Exception", name := "<init>", desc := "()V" } : Jvm.MethodName) prog_11_method_1_code (1 : Nat) (Option.none : Option Jvm.ClassFile.FieldType)) ∈ rc_tb := rc_tm2 (List.mem_of_getElem? (i := 105) rfl) rfl
set_option maxRecDepth 20000 in
theorem T_346 : (Jvm.Cond.methodLink "java/lang/Exception" (1 : Nat) ({ cls := "java/lang/Throwable", name := "<init>", desc := "()V" } : Jvm.MethodName)) ∈ rc_tb := rc_tm2 (List.mem_of_getElem? (i := 106) rfl) rfl
set_option maxRecDepth 20000 in
theorem T_347 : (Jvm.Cond.fieldLink "java/lang/Throwable" (198 : Nat) "java/lang/Throwable" "backtrace" "Ljava/lang/Object;") ∈ rc_tb := rc_tm2 (List.mem_of_getElem? (i := 107) rfl) rfl
set_option maxRecDepth 20000 in
theorem T_348 : (Jvm.Cond.fieldLink "java/lang/Throwable" (7 : Nat) "java/lang/Throwable" "cause" "Ljava/lang/Throwable;") ∈ rc_tb := rc_tm2 (List.mem_of_getElem? (i := 108) rfl) rfl
set_option maxRecDepth 20000 in
theorem T_349 : (Jvm.Cond.fieldLink "java/lang/Throwable" (17 : Nat) "java/lang/Throwable" "stackTrace" "[Ljava/lang/StackTraceElement;") ∈ rc_tb := rc_tm2 (List.mem_of_getElem? (i := 109) rfl) rfl
set_option maxRecDepth 20000 in
theorem T_350 : (Jvm.Cond.fieldLink "java/lang/Throwable" (24 : Nat) "java/lang/Throwable" "suppressedExceptions" "Ljava/util/List;") ∈ rc_tb := rc_tm2 (List.mem_of_getElem? (i := 110) rfl) rfl
set_option maxRecDepth 20000 in
theorem T_351 : (Jvm.Cond.soleField "java/lang/Throwable" "backtrace") ∈ rc_tb := rc_tm2 (List.mem_of_getElem? (i := 111) rfl) rfl
set_option maxRecDepth 20000 in
theorem T_352 : (Jvm.Cond.soleField "java/lang/Throwable" "detailMessage") ∈ rc_tb := rc_tm2 (List.mem_of_getElem? (i := 112) rfl) rfl
set_option maxRecDepth 20000 in
theorem T_353 : (Jvm.Cond.soleField "java/lang/Throwable" "cause") ∈ rc_tb := rc_tm2 (List.mem_of_getElem? (i := 113) rfl) rfl
set_option maxRecDepth 20000 in
theorem T_354 : (Jvm.Cond.soleField "java/lang/Throwable" "stackTrace") ∈ rc_tb := rc_tm2 (List.mem_of_getElem? (i := 114) rfl) rfl
set_option maxRecDepth 20000 in
theorem T_355 : (Jvm.Cond.lays "java/lang/UnsupportedOperationException" "java/lang/Throwable" "depth" "I") ∈ rc_tb := rc_tm2 (List.mem_of_getElem? (i := 115) rfl) rfl
set_option maxRecDepth 20000 in
theorem T_356 : (Jvm.Cond.soleField "java/lang/Throwable" "depth") ∈ rc_tb := rc_tm2 (List.mem_of_getElem? (i := 116) rfl) rfl
set_option maxRecDepth 20000 in
theorem T_357 : (Jvm.Cond.soleField "java/lang/Throwable" "suppressedExceptions") ∈ rc_tb := rc_tm2 (List.mem_of_getElem? (i := 117) rfl) rfl
set_option maxRecDepth 20000 in
theorem T_358 : (Jvm.Cond.superclass "java/lang/UnsupportedOperationException" "java/lang/RuntimeException") ∈ rc_tb := rc_tm2 (List.mem_of_getElem? (i := 118) rfl) rfl
set_option maxRecDepth 20000 in
theorem T_359 : (Jvm.Cond.methodLink "RecordCalls" (51 : Nat) ({ cls := "RecordCalls$Row", name := "addWord", desc := "(I)V" } : Jvm.MethodName)) ∈ rc_tb := rc_tm2 (List.mem_of_getElem? (i := 119) rfl) rfl
set_option maxRecDepth 20000 in
theorem T_360 : (Jvm.Cond.instanceMethod ({ cls := "RecordCalls$Row", name := "addWord", desc := "(I)V" } : Jvm.MethodName)) ∈ rc_tb := rc_tm2 (List.mem_of_getElem? (i := 120) rfl) rfl
set_option maxRecDepth 20000 in
theorem T_361 : (Jvm.Cond.selects "RecordCalls$Row" ({ cls := "RecordCalls$Row", name := "addWord", desc := "(I)V" } : Jvm.MethodName) ({ cls := "RecordCalls$Row", name := "addWord", desc := "(I)V" } : Jvm.MethodName)) ∈ rc_tb := rc_tm2 (List.mem_of_getElem? (i := 121) rfl) rfl
set_option maxRecDepth 20000 in
theorem T_362 : (Jvm.Cond.code ({ cls := "RecordCalls$Row", name := "addWord", desc := "(I)V" } : Jvm.MethodName) prog_6_method_9_code (2 : Nat) (Option.none : Option Jvm.ClassFile.FieldType)) ∈ rc_tb := rc_tm2 (List.mem_of_getElem? (i := 122) rfl) rfl
set_option maxRecDepth 20000 in
theorem T_363 : (Jvm.Cond.methodLink "RecordCallsLaw" (69 : Nat) ({ cls := "RecordCallsLaw", name := "end", desc := "(LRecordCalls;I)I" } : Jvm.MethodName)) ∈ rc_tb := rc_tm2 (List.mem_of_getElem? (i := 123) rfl) rfl
set_option maxRecDepth 20000 in
theorem T_364 : (Jvm.Cond.static ({ cls := "RecordCallsLaw", name := "end", desc := "(LRecordCalls;I)I" } : Jvm.MethodName)) ∈ rc_tb := rc_tm2 (List.mem_of_getElem? (i := 124) rfl) rfl
set_option maxRecDepth 20000 in
theorem T_365 : (Jvm.Cond.codeWith ({ cls := "RecordCallsLaw", name := "end", desc := "(LRecordCalls;I)I" } : Jvm.MethodName) method_4_code (3 : Nat) (Option.some Jvm.ClassFile.FieldType.int) [((0 : Nat), (5 : Nat), (8 : Nat), (19 : Nat))]) ∈ rc_tb := rc_tm2 (List.mem_of_getElem? (i := 125) rfl) rfl
set_option maxRecDepth 20000 in
theorem T_366 : (Jvm.Cond.classLink "RecordCallsLaw" (19 : Nat) "java/lang/IllegalArgumentException") ∈ rc_tb := rc_tm2 (List.mem_of_getElem? (i := 126) rfl) rfl
set_option maxRecDepth 20000 in
theorem T_367 : (Jvm.Cond.methodLink "RecordCallsLaw" (15 : Nat) ({ cls := "RecordCalls", name := "end", desc := "(I)V" } : Jvm.MethodName)) ∈ rc_tb := rc_tm2 (List.mem_of_getElem? (i := 127) rfl) rfl
set_option maxRecDepth 20000 in
theorem T_368 : (Jvm.Cond.instanceMethod ({ cls := "RecordCalls", name := "end", desc := "(I)V" } : Jvm.MethodName)) ∈ rc_tb := rc_tm2 (List.mem_of_getElem? (i := 128) rfl) rfl
set_option maxRecDepth 20000 in
theorem T_369 : (Jvm.Cond.selects "RecordCalls" ({ cls := "RecordCalls", name := "end", desc := "(I)V" } : Jvm.MethodName) ({ cls := "RecordCalls", name := "end", desc := "(I)V" } : Jvm.MethodName)) ∈ rc_tb := rc_tm2 (List.mem_of_getElem? (i := 129) rfl) rfl
set_option maxRecDepth 20000 in
theorem T_370 : (Jvm.Cond.code ({ cls := "RecordCalls", name := "end", desc := "(I)V" } : Jvm.MethodName) prog_1_method_3_code (2 : Nat) (Option.none : Option Jvm.ClassFile.FieldType)) ∈ rc_tb := rc_tm2 (List.mem_of_getElem? (i := 130) rfl) rfl
set_option maxRecDepth 20000 in
theorem T_371 : (Jvm.Cond.classLink "RecordCalls" (55 : Nat) "java/lang/IllegalArgumentException") ∈ rc_tb := rc_tm2 (List.mem_of_getElem? (i := 131) rfl) rfl
set_option maxRecDepth 20000 in
theorem T_372 : (Jvm.Cond.instantiable "java/lang/IllegalArgumentException" (6 : Nat)) ∈ rc_tb := rc_tm2 (List.mem_of_getElem? (i := 132) rfl) rfl
set_option maxRecDepth 20000 in
theorem T_373 : (Jvm.Cond.castable "java/lang/IllegalArgumentException" "java/lang/IllegalArgumentException") ∈ rc_tb := rc_tm2 (List.mem_of_getElem? (i := 133) rfl) rfl
set_option maxRecDepth 20000 in
theorem T_374 : (Jvm.Cond.selects "java/lang/IllegalArgumentException" ({ cls := "java/lang/Throwable", name := "fillInStackTrace", desc := "(I)Ljava/lang/Throwable;" } : Jvm.MethodName) ({ cls := "java/lang/Throwable", name := "fillInStackTrace", desc := "(I)Ljava/lang/Throwable;" } : Jvm.MethodName)) ∈ rc_tb := rc_tm2 (List.mem_of_getElem? (i := 134) rfl) rfl
set_option maxRecDepth 20000 in
theorem T_375 : (Jvm.Cond.lays "java/lang/IllegalArgumentException" "java/lang/Throwable" "cause" "Ljava/lang/Throwable;") ∈ rc_tb := rc_tm2 (List.mem_of_getElem? (i := 135) rfl) rfl
set_option maxRecDepth 20000 in
theorem T_376 : (Jvm.Cond.lays "java/lang/IllegalArgumentException" "java/lang/Throwable" "stackTrace" "[Ljava/lang/StackTraceElement;") ∈ rc_tb := rc_tm2 (List.mem_of_getElem? (i := 136) rfl) rfl
set_option maxRecDepth 20000 in
theorem T_377 : (Jvm.Cond.lays "java/lang/IllegalArgumentException" "java/lang/Throwable" "suppressedExceptions" "Ljava/util/List;") ∈ rc_tb := rc_tm2 (List.mem_of_getElem? (i := 137) rfl) rfl
set_option maxRecDepth 20000 in
theorem T_378 : (Jvm.Cond.lays "java/lang/IllegalArgumentException" "java/lang/Throwable" "detailMessage" "Ljava/lang/String;") ∈ rc_tb := rc_tm2 (List.mem_of_getElem? (i := 138) rfl) rfl
set_option maxRecDepth 20000 in
theorem T_379 : (Jvm.Cond.lays "java/lang/IllegalArgumentException" "java/lang/Throwable" "backtrace" "Ljava/lang/Object;") ∈ rc_tb := rc_tm2 (List.mem_of_getElem? (i := 139) rfl) rfl
set_option maxRecDepth 20000 in
theorem T_380 : (Jvm.Cond.methodLink "RecordCalls" (57 : Nat) ({ cls := "java/lang/IllegalArgumentException", name := "<init>", desc := "()V" } : Jvm.MethodName)) ∈ rc_tb := rc_tm2 (List.mem_of_getElem? (i := 140) rfl) rfl
set_option maxRecDepth 20000 in
theorem T_381 : (Jvm.Cond.instanceMethod ({ cls := "java/lang/IllegalArgumentException", name := "<init>", desc := "()V" } : Jvm.MethodName)) ∈ rc_tb := rc_tm2 (List.mem_of_getElem? (i := 141) rfl) rfl
set_option maxRecDepth 20000 in
theorem T_382 : (Jvm.Cond.code ({ cls := "java/lang/IllegalArgumentException", name := "<init>", desc := "()V" } : Jvm.MethodName) prog_12_method_1_code (1 : Nat) (Option.none : Option Jvm.ClassFile.FieldType)) ∈ rc_tb := rc_tm2 (List.mem_of_getElem? (i := 142) rfl) rfl
set_option maxRecDepth 20000 in
theorem T_383 : (Jvm.Cond.methodLink "java/lang/IllegalArgumentException" (1 : Nat) ({ cls := "java/lang/RuntimeException", name := "<init>", desc := "()V" } : Jvm.MethodName)) ∈ rc_tb := rc_tm2 (List.mem_of_getElem? (i := 143) rfl) rfl
set_option maxRecDepth 20000 in
theorem T_384 : (Jvm.Cond.lays "java/lang/IllegalArgumentException" "java/lang/Throwable" "depth" "I") ∈ rc_tb := rc_tm2 (List.mem_of_getElem? (i := 144) rfl) rfl
set_option maxRecDepth 20000 in
theorem T_385 : (Jvm.Cond.superclass "java/lang/IllegalArgumentException" "java/lang/RuntimeException") ∈ rc_tb := rc_tm2 (List.mem_of_getElem? (i := 145) rfl) rfl
set_option maxRecDepth 20000 in
theorem T_386 : (Jvm.Cond.methodLink "RecordCalls" (58 : Nat) ({ cls := "RecordCalls$Row", name := "cutTo", desc := "(I)V" } : Jvm.MethodName)) ∈ rc_tb := rc_tm2 (List.mem_of_getElem? (i := 146) rfl) rfl
set_option maxRecDepth 20000 in
theorem T_387 : (Jvm.Cond.instanceMethod ({ cls := "RecordCalls$Row", name := "cutTo", desc := "(I)V" } : Jvm.MethodName)) ∈ rc_tb := rc_tm2 (List.mem_of_getElem? (i := 147) rfl) rfl
set_option maxRecDepth 20000 in
theorem T_388 : (Jvm.Cond.selects "RecordCalls$Row" ({ cls := "RecordCalls$Row", name := "cutTo", desc := "(I)V" } : Jvm.MethodName) ({ cls := "RecordCalls$Row", name := "cutTo", desc := "(I)V" } : Jvm.MethodName)) ∈ rc_tb := rc_tm2 (List.mem_of_getElem? (i := 148) rfl) rfl
set_option maxRecDepth 20000 in
theorem T_389 : (Jvm.Cond.code ({ cls := "RecordCalls$Row", name := "cutTo", desc := "(I)V" } : Jvm.MethodName) prog_6_method_4_code (2 : Nat) (Option.none : Option Jvm.ClassFile.FieldType)) ∈ rc_tb := rc_tm2 (List.mem_of_getElem? (i := 149) rfl) rfl
set_option maxRecDepth 20000 in
theorem T_390 : (Jvm.Cond.methodLink "RecordCallsLaw" (77 : Nat) ({ cls := "RecordCallsLaw", name := "record", desc := "(LRecordCalls;I[J)I" } : Jvm.MethodName)) ∈ rc_tb := rc_tm2 (List.mem_of_getElem? (i := 150) rfl) rfl
set_option maxRecDepth 20000 in
theorem T_391 : (Jvm.Cond.static ({ cls := "RecordCallsLaw", name := "record", desc := "(LRecordCalls;I[J)I" } : Jvm.MethodName)) ∈ rc_tb := rc_tm2 (List.mem_of_getElem? (i := 151) rfl) rfl
set_option maxRecDepth 20000 in
theorem T_392 : (Jvm.Cond.codeWith ({ cls := "RecordCallsLaw", name := "record", desc := "(LRecordCalls;I[J)I" } : Jvm.MethodName) method_5_code (4 : Nat) (Option.some Jvm.ClassFile.FieldType.int) [((0 : Nat), (9 : Nat), (12 : Nat), (19 : Nat))]) ∈ rc_tb := rc_tm2 (List.mem_of_getElem? (i := 152) rfl) rfl
set_option maxRecDepth 20000 in
theorem T_393 : (Jvm.Cond.methodLink "RecordCallsLaw" (21 : Nat) ({ cls := "RecordCalls", name := "record", desc := "(I)I" } : Jvm.MethodName)) ∈ rc_tb := rc_tm2 (List.mem_of_getElem? (i := 153) rfl) rfl
set_option maxRecDepth 20000 in
theorem T_394 : (Jvm.Cond.instanceMethod ({ cls := "RecordCalls", name := "record", desc := "(I)I" } : Jvm.MethodName)) ∈ rc_tb := rc_tm2 (List.mem_of_getElem? (i := 154) rfl) rfl
set_option maxRecDepth 20000 in
theorem T_395 : (Jvm.Cond.selects "RecordCalls" ({ cls := "RecordCalls", name := "record", desc := "(I)I" } : Jvm.MethodName) ({ cls := "RecordCalls", name := "record", desc := "(I)I" } : Jvm.MethodName)) ∈ rc_tb := rc_tm2 (List.mem_of_getElem? (i := 155) rfl) rfl
set_option maxRecDepth 20000 in
theorem T_396 : (Jvm.Cond.code ({ cls := "RecordCalls", name := "record", desc := "(I)I" } : Jvm.MethodName) prog_1_method_5_code (8 : Nat) (Option.some Jvm.ClassFile.FieldType.int)) ∈ rc_tb := rc_tm2 (List.mem_of_getElem? (i := 156) rfl) rfl
set_option maxRecDepth 20000 in
theorem T_397 : (Jvm.Cond.methodLink "RecordCalls" (72 : Nat) ({ cls := "RecordCalls", name := "fragments", desc := "(II)I" } : Jvm.MethodName)) ∈ rc_tb := rc_tm2 (List.mem_of_getElem? (i := 157) rfl) rfl
set_option maxRecDepth 20000 in
theorem T_398 : (Jvm.Cond.static ({ cls := "RecordCalls", name := "fragments", desc := "(II)I" } : Jvm.MethodName)) ∈ rc_tb := rc_tm2 (List.mem_of_getElem? (i := 158) rfl) rfl
set_option maxRecDepth 20000 in
theorem T_399 : (Jvm.Cond.code ({ cls := "RecordCalls", name := "fragments", desc := "(II)I" } : Jvm.MethodName) prog_1_method_23_code (2 : Nat) (Option.some Jvm.ClassFile.FieldType.int)) ∈ rc_tb := rc_tm2 (List.mem_of_getElem? (i := 159) rfl) rfl
set_option maxRecDepth 20000 in
theorem T_400 : (Jvm.Cond.methodLink "RecordCalls" (76 : Nat) ({ cls := "java/lang/Math", name := "min", desc := "(II)I" } : Jvm.MethodName)) ∈ rc_tb := rc_tm2 (List.mem_of_getElem? (i := 160) rfl) rfl
set_option maxRecDepth 20000 in
theorem T_401 : (Jvm.Cond.constant "RecordCalls" (81 : Nat) (-2147483648 : Int32)) ∈ rc_tb := rc_tm2 (List.mem_of_getElem? (i := 161) rfl) rfl
set_option maxRecDepth 20000 in
theorem T_402 : (Jvm.Cond.methodLink "RecordCallsLaw" (83 : Nat) ({ cls := "RecordCallsLaw", name := "call", desc := "(LRecordCalls;IIIZJ[J)I" } : Jvm.MethodName)) ∈ rc_tb := rc_tm2 (List.mem_of_getElem? (i := 162) rfl) rfl
set_option maxRecDepth 20000 in
theorem T_403 : (Jvm.Cond.static ({ cls := "RecordCallsLaw", name := "call", desc := "(LRecordCalls;IIIZJ[J)I" } : Jvm.MethodName)) ∈ rc_tb := rc_tm2 (List.mem_of_getElem? (i := 163) rfl) rfl
set_option maxRecDepth 20000 in
theorem T_404 : (Jvm.Cond.codeWith ({ cls := "RecordCallsLaw", name := "call", desc := "(LRecordCalls;IIIZJ[J)I" } : Jvm.MethodName) method_6_code (9 : Nat) (Option.some Jvm.ClassFile.FieldType.int) [((0 : Nat), (16 : Nat), (19 : Nat), (19 : Nat))]) ∈ rc_tb := rc_tm2 (List.mem_of_getElem? (i := 164) rfl) rfl
set_option maxRecDepth 20000 in
theorem T_405 : (Jvm.Cond.methodLink "RecordCallsLaw" (25 : Nat) ({ cls := "RecordCalls", name := "call", desc := "(IIIZJ)I" } : Jvm.MethodName)) ∈ rc_tb := rc_tm2 (List.mem_of_getElem? (i := 165) rfl) rfl
set_option maxRecDepth 20000 in
theorem T_406 : (Jvm.Cond.instanceMethod ({ cls := "RecordCalls", name := "call", desc := "(IIIZJ)I" } : Jvm.MethodName)) ∈ rc_tb := rc_tm2 (List.mem_of_getElem? (i := 166) rfl) rfl
set_option maxRecDepth 20000 in
theorem T_407 : (Jvm.Cond.selects "RecordCalls" ({ cls := "RecordCalls", name := "call", desc := "(IIIZJ)I" } : Jvm.MethodName) ({ cls := "RecordCalls", name := "call", desc := "(IIIZJ)I" } : Jvm.MethodName)) ∈ rc_tb := rc_tm2 (List.mem_of_getElem? (i := 167) rfl) rfl
set_option maxRecDepth 20000 in
theorem T_408 : (Jvm.Cond.code ({ cls := "RecordCalls", name := "call", desc := "(IIIZJ)I" } : Jvm.MethodName) prog_1_method_6_code (7 : Nat) (Option.some Jvm.ClassFile.FieldType.int)) ∈ rc_tb := rc_tm2 (List.mem_of_getElem? (i := 168) rfl) rfl
set_option maxRecDepth 20000 in
theorem T_409 : (Jvm.Cond.constant "RecordCalls" (85 : Nat) (400100 : Int32)) ∈ rc_tb := rc_tm2 (List.mem_of_getElem? (i := 169) rfl) rfl
set_option maxRecDepth 20000 in
theorem T_410 : (Jvm.Cond.methodLink "RecordCalls" (86 : Nat) ({ cls := "RecordCalls", name := "addNobody", desc := "(LRecordCalls$Row;)V" } : Jvm.MethodName)) ∈ rc_tb := rc_tm2 (List.mem_of_getElem? (i := 170) rfl) rfl
set_option maxRecDepth 20000 in
theorem T_411 : (Jvm.Cond.static ({ cls := "RecordCalls", name := "addNobody", desc := "(LRecordCalls$Row;)V" } : Jvm.MethodName)) ∈ rc_tb := rc_tm2 (List.mem_of_getElem? (i := 171) rfl) rfl
set_option maxRecDepth 20000 in
theorem T_412 : (Jvm.Cond.code ({ cls := "RecordCalls", name := "addNobody", desc := "(LRecordCalls$Row;)V" } : Jvm.MethodName) prog_1_method_22_code (1 : Nat) (Option.none : Option Jvm.ClassFile.FieldType)) ∈ rc_tb := rc_tm2 (List.mem_of_getElem? (i := 172) rfl) rfl
set_option maxRecDepth 20000 in
theorem T_413 : (Jvm.Cond.methodLink "RecordCalls" (90 : Nat) ({ cls := "RecordCalls$Row", name := "addBytes", desc := "(LRecordCalls$Row;II)V" } : Jvm.MethodName)) ∈ rc_tb := rc_tm2 (List.mem_of_getElem? (i := 173) rfl) rfl
set_option maxRecDepth 20000 in
theorem T_414 : (Jvm.Cond.instanceMethod ({ cls := "RecordCalls$Row", name := "addBytes", desc := "(LRecordCalls$Row;II)V" } : Jvm.MethodName)) ∈ rc_tb := rc_tm2 (List.mem_of_getElem? (i := 174) rfl) rfl
set_option maxRecDepth 20000 in
theorem T_415 : (Jvm.Cond.selects "RecordCalls$Row" ({ cls := "RecordCalls$Row", name := "addBytes", desc := "(LRecordCalls$Row;II)V" } : Jvm.MethodName) ({ cls := "RecordCalls$Row", name := "addBytes", desc := "(LRecordCalls$Row;II)V" } : Jvm.MethodName)) ∈ rc_tb := rc_tm2 (List.mem_of_getElem? (i := 175) rfl) rfl
set_option maxRecDepth 20000 in
theorem T_416 : (Jvm.Cond.code ({ cls := "RecordCalls$Row", name := "addBytes", desc := "(LRecordCalls$Row;II)V" } : Jvm.MethodName) prog_6_method_13_code (5 : Nat) (Option.none : Option Jvm.ClassFile.FieldType)) ∈ rc_tb := rc_tm2 (List.mem_of_getElem? (i := 176) rfl) rfl
set_option maxRecDepth 20000 in
theorem T_417 : (Jvm.Cond.methodLink "RecordCalls$Row" (35 : Nat) ({ cls := "RecordCalls$Row", name := "addWord", desc := "(I)V" } : Jvm.MethodName)) ∈ rc_tb := rc_tm2 (List.mem_of_getElem? (i := 177) rfl) rfl
set_option maxRecDepth 20000 in
theorem T_418 : (Jvm.Cond.methodLink "RecordCalls$Row" (44 : Nat) ({ cls := "RecordCalls$Row", name := "addPart", desc := "(LRecordCalls$Row;II)V" } : Jvm.MethodName)) ∈ rc_tb := rc_tm2 (List.mem_of_getElem? (i := 178) rfl) rfl
set_option maxRecDepth 20000 in
theorem T_419 : (Jvm.Cond.methodLinkNest "RecordCalls$Row" (48 : Nat) ({ cls := "RecordCalls", name := "filled", desc := "(I)I" } : Jvm.MethodName) "RecordCalls") ∈ rc_tb := rc_tm2 (List.mem_of_getElem? (i := 179) rfl) rfl
set_option maxRecDepth 20000 in
theorem T_420 : (Jvm.Cond.static ({ cls := "RecordCalls", name := "filled", desc := "(I)I" } : Jvm.MethodName)) ∈ rc_tb := rc_tm2 (List.mem_of_getElem? (i := 180) rfl) rfl
set_option maxRecDepth 20000 in
theorem T_421 : (Jvm.Cond.code ({ cls := "RecordCalls", name := "filled", desc := "(I)I" } : Jvm.MethodName) prog_1_method_30_code (1 : Nat) (Option.some Jvm.ClassFile.FieldType.int)) ∈ rc_tb := rc_tm2 (List.mem_of_getElem? (i := 181) rfl) rfl
set_option maxRecDepth 20000 in
theorem T_422 : (Jvm.Cond.methodLink "RecordCalls$Row" (52 : Nat) ({ cls := "RecordCalls$Row", name := "add", desc := "(I)V" } : Jvm.MethodName)) ∈ rc_tb := rc_tm2 (List.mem_of_getElem? (i := 182) rfl) rfl
set_option maxRecDepth 20000 in
theorem T_423 : (Jvm.Cond.instanceMethod ({ cls := "RecordCalls$Row", name := "add", desc := "(I)V" } : Jvm.MethodName)) ∈ rc_tb := rc_tm2 (List.mem_of_getElem? (i := 183) rfl) rfl
set_option maxRecDepth 20000 in
theorem T_424 : (Jvm.Cond.selects "RecordCalls$Row" ({ cls := "RecordCalls$Row", name := "add", desc := "(I)V" } : Jvm.MethodName) ({ cls := "RecordCalls$Row", name := "add", desc := "(I)V" } : Jvm.MethodName)) ∈ rc_tb := rc_tm2 (List.mem_of_getElem? (i := 184) rfl) rfl
set_option maxRecDepth 20000 in
theorem T_425 : (Jvm.Cond.code ({ cls := "RecordCalls$Row", name := "add", desc := "(I)V" } : Jvm.MethodName) prog_6_method_8_code (2 : Nat) (Option.none : Option Jvm.ClassFile.FieldType)) ∈ rc_tb := rc_tm2 (List.mem_of_getElem? (i := 185) rfl) rfl
set_option maxRecDepth 20000 in
theorem T_426 : (Jvm.Cond.methodLink "RecordCalls" (93 : Nat) ({ cls := "RecordCalls$Row", name := "addLong", desc := "(J)V" } : Jvm.MethodName)) ∈ rc_tb := rc_tm2 (List.mem_of_getElem? (i := 186) rfl) rfl
set_option maxRecDepth 20000 in
theorem T_427 : (Jvm.Cond.instanceMethod ({ cls := "RecordCalls$Row", name := "addLong", desc := "(J)V" } : Jvm.MethodName)) ∈ rc_tb := rc_tm2 (List.mem_of_getElem? (i := 187) rfl) rfl
set_option maxRecDepth 20000 in
theorem T_428 : (Jvm.Cond.selects "RecordCalls$Row" ({ cls := "RecordCalls$Row", name := "addLong", desc := "(J)V" } : Jvm.MethodName) ({ cls := "RecordCalls$Row", name := "addLong", desc := "(J)V" } : Jvm.MethodName)) ∈ rc_tb := rc_tm2 (List.mem_of_getElem? (i := 188) rfl) rfl
set_option maxRecDepth 20000 in
theorem T_429 : (Jvm.Cond.code ({ cls := "RecordCalls$Row", name := "addLong", desc := "(J)V" } : Jvm.MethodName) prog_6_method_10_code (3 : Nat) (Option.none : Option Jvm.ClassFile.FieldType)) ∈ rc_tb := rc_tm2 (List.mem_of_getElem? (i := 189) rfl) rfl
set_option maxRecDepth 20000 in
theorem T_430 : (Jvm.Cond.methodLink "RecordCalls" (97 : Nat) ({ cls := "RecordCalls", name := "addOneFragment", desc := "(LRecordCalls$Row;)V" } : Jvm.MethodName)) ∈ rc_tb := rc_tm2 (List.mem_of_getElem? (i := 190) rfl) rfl
set_option maxRecDepth 20000 in
theorem T_431 : (Jvm.Cond.privateMethod ({ cls := "RecordCalls", name := "addOneFragment", desc := "(LRecordCalls$Row;)V" } : Jvm.MethodName)) ∈ rc_tb := rc_tm2 (List.mem_of_getElem? (i := 191) rfl) rfl
set_option maxRecDepth 20000 in
theorem T_432 : (Jvm.Cond.instanceMethod ({ cls := "RecordCalls", name := "addOneFragment", desc := "(LRecordCalls$Row;)V" } : Jvm.MethodName)) ∈ rc_tb := rc_tm2 (List.mem_of_getElem? (i := 192) rfl) rfl
set_option maxRecDepth 20000 in
theorem T_433 : (Jvm.Cond.code ({ cls := "RecordCalls", name := "addOneFragment", desc := "(LRecordCalls$Row;)V" } : Jvm.MethodName) prog_1_method_21_code (3 : Nat) (Option.none : Option Jvm.ClassFile.FieldType)) ∈ rc_tb := rc_tm2 (List.mem_of_getElem? (i := 193) rfl) rfl
set_option maxRecDepth 20000 in
theorem T_434 : (Jvm.Cond.methodLink "RecordCallsLaw" (87 : Nat) ({ cls := "RecordCallsLaw", name := "push", desc := "(LRecordCalls;IIII[J)I" } : Jvm.MethodName)) ∈ rc_tb := rc_tm2 (List.mem_of_getElem? (i := 194) rfl) rfl
set_option maxRecDepth 20000 in
theorem T_435 : (Jvm.Cond.static ({ cls := "RecordCallsLaw", name := "push", desc := "(LRecordCalls;IIII[J)I" } : Jvm.MethodName)) ∈ rc_tb := rc_tm2 (List.mem_of_getElem? (i := 195) rfl) rfl
set_option maxRecDepth 20000 in
theorem T_436 : (Jvm.Cond.codeWith ({ cls := "RecordCallsLaw", name := "push", desc := "(LRecordCalls;IIII[J)I" } : Jvm.MethodName) method_7_code (7 : Nat) (Option.some Jvm.ClassFile.FieldType.int) [((0 : Nat), (14 : Nat), (17 : Nat), (33 : Nat))]) ∈ rc_tb := rc_tm2 (List.mem_of_getElem? (i := 196) rfl) rfl
set_option maxRecDepth 20000 in
theorem T_437 : (Jvm.Cond.classLink "RecordCallsLaw" (33 : Nat) "java/lang/IndexOutOfBoundsException") ∈ rc_tb := rc_tm2 (List.mem_of_getElem? (i := 197) rfl) rfl
set_option maxRecDepth 20000 in
theorem T_438 : (Jvm.Cond.methodLink "RecordCallsLaw" (29 : Nat) ({ cls := "RecordCalls", name := "push", desc := "(IIII)I" } : Jvm.MethodName)) ∈ rc_tb := rc_tm2 (List.mem_of_getElem? (i := 198) rfl) rfl
set_option maxRecDepth 20000 in
theorem T_439 : (Jvm.Cond.instanceMethod ({ cls := "RecordCalls", name := "push", desc := "(IIII)I" } : Jvm.MethodName)) ∈ rc_tb := rc_tm2 (List.mem_of_getElem? (i := 199) rfl) rfl
set_option maxRecDepth 20000 in
theorem T_440 : (Jvm.Cond.selects "RecordCalls" ({ cls := "RecordCalls", name := "push", desc := "(IIII)I" } : Jvm.MethodName) ({ cls := "RecordCalls", name := "push", desc := "(IIII)I" } : Jvm.MethodName)) ∈ rc_tb := rc_tm2 (List.mem_of_getElem? (i := 200) rfl) rfl
set_option maxRecDepth 20000 in
theorem T_441 : (Jvm.Cond.code ({ cls := "RecordCalls", name := "push", desc := "(IIII)I" } : Jvm.MethodName) prog_1_method_7_code (10 : Nat) (Option.some Jvm.ClassFile.FieldType.int)) ∈ rc_tb := rc_tm2 (List.mem_of_getElem? (i := 201) rfl) rfl
set_option maxRecDepth 20000 in
theorem T_442 : (Jvm.Cond.methodLink "RecordCalls" (100 : Nat) ({ cls := "RecordCalls", name := "isConnection", desc := "(I)Z" } : Jvm.MethodName)) ∈ rc_tb := rc_tm2 (List.mem_of_getElem? (i := 202) rfl) rfl
set_option maxRecDepth 20000 in
theorem T_443 : (Jvm.Cond.static ({ cls := "RecordCalls", name := "isConnection", desc := "(I)Z" } : Jvm.MethodName)) ∈ rc_tb := rc_tm2 (List.mem_of_getElem? (i := 203) rfl) rfl
set_option maxRecDepth 20000 in
theorem T_444 : (Jvm.Cond.code ({ cls := "RecordCalls", name := "isConnection", desc := "(I)Z" } : Jvm.MethodName) prog_1_method_16_code (1 : Nat) (Option.some Jvm.ClassFile.FieldType.boolean)) ∈ rc_tb := rc_tm2 (List.mem_of_getElem? (i := 204) rfl) rfl
set_option maxRecDepth 20000 in
theorem T_445 : (Jvm.Cond.methodLink "RecordCalls" (104 : Nat) ({ cls := "RecordCalls", name := "isSlot", desc := "(I)Z" } : Jvm.MethodName)) ∈ rc_tb := rc_tm2 (List.mem_of_getElem? (i := 205) rfl) rfl
set_option maxRecDepth 20000 in
theorem T_446 : (Jvm.Cond.privateMethod ({ cls := "RecordCalls", name := "isSlot", desc := "(I)Z" } : Jvm.MethodName)) ∈ rc_tb := rc_tm2 (List.mem_of_getElem? (i := 206) rfl) rfl
set_option maxRecDepth 20000 in
theorem T_447 : (Jvm.Cond.instanceMethod ({ cls := "RecordCalls", name := "isSlot", desc := "(I)Z" } : Jvm.MethodName)) ∈ rc_tb := rc_tm2 (List.mem_of_getElem? (i := 207) rfl) rfl
set_option maxRecDepth 20000 in
theorem T_448 : (Jvm.Cond.code ({ cls := "RecordCalls", name := "isSlot", desc := "(I)Z" } : Jvm.MethodName) prog_1_method_17_code (2 : Nat) (Option.some Jvm.ClassFile.FieldType.boolean)) ∈ rc_tb := rc_tm2 (List.mem_of_getElem? (i := 208) rfl) rfl
set_option maxRecDepth 20000 in
theorem T_449 : (Jvm.Cond.classLink "RecordCalls" (107 : Nat) "java/lang/IndexOutOfBoundsException") ∈ rc_tb := rc_tm2 (List.mem_of_getElem? (i := 209) rfl) rfl
set_option maxRecDepth 20000 in
theorem T_450 : (Jvm.Cond.instantiable "java/lang/IndexOutOfBoundsException" (6 : Nat)) ∈ rc_tb := rc_tm2 (List.mem_of_getElem? (i := 210) rfl) rfl
set_option maxRecDepth 20000 in
theorem T_451 : (Jvm.Cond.castable "java/lang/IndexOutOfBoundsException" "java/lang/IndexOutOfBoundsException") ∈ rc_tb := rc_tm2 (List.mem_of_getElem? (i := 211) rfl) rfl
set_option maxRecDepth 20000 in
theorem T_452 : (Jvm.Cond.selects "java/lang/IndexOutOfBoundsException" ({ cls := "java/lang/Throwable", name := "fillInStackTrace", desc := "(I)Ljava/lang/Throwable;" } : Jvm.MethodName) ({ cls := "java/lang/Throwable", name := "fillInStackTrace", desc := "(I)Ljava/lang/Throwable;" } : Jvm.MethodName)) ∈ rc_tb := rc_tm2 (List.mem_of_getElem? (i := 212) rfl) rfl
set_option maxRecDepth 20000 in
theorem T_453 : (Jvm.Cond.lays "java/lang/IndexOutOfBoundsException" "java/lang/Throwable" "cause" "Ljava/lang/Throwable;") ∈ rc_tb := rc_tm2 (List.mem_of_getElem? (i := 213) rfl) rfl
set_option maxRecDepth 20000 in
theorem T_454 : (Jvm.Cond.lays "java/lang/IndexOutOfBoundsException" "java/lang/Throwable" "stackTrace" "[Ljava/lang/StackTraceElement;") ∈ rc_tb := rc_tm2 (List.mem_of_getElem? (i := 214) rfl) rfl
set_option maxRecDepth 20000 in
theorem T_455 : (Jvm.Cond.lays "java/lang/IndexOutOfBoundsException" "java/lang/Throwable" "suppressedExceptions" "Ljava/util/List;") ∈ rc_tb := rc_tm2 (List.mem_of_getElem? (i := 215) rfl) rfl
set_option maxRecDepth 20000 in
theorem T_456 : (Jvm.Cond.lays "java/lang/IndexOutOfBoundsException" "java/lang/Throwable" "detailMessage" "Ljava/lang/String;") ∈ rc_tb := rc_tm2 (List.mem_of_getElem? (i := 216) rfl) rfl
set_option maxRecDepth 20000 in
theorem T_457 : (Jvm.Cond.lays "java/lang/IndexOutOfBoundsException" "java/lang/Throwable" "backtrace" "Ljava/lang/Object;") ∈ rc_tb := rc_tm2 (List.mem_of_getElem? (i := 217) rfl) rfl
set_option maxRecDepth 20000 in
theorem T_458 : (Jvm.Cond.methodLink "RecordCalls" (109 : Nat) ({ cls := "java/lang/IndexOutOfBoundsException", name := "<init>", desc := "()V" } : Jvm.MethodName)) ∈ rc_tb := rc_tm2 (List.mem_of_getElem? (i := 218) rfl) rfl
set_option maxRecDepth 20000 in
theorem T_459 : (Jvm.Cond.instanceMethod ({ cls := "java/lang/IndexOutOfBoundsException", name := "<init>", desc := "()V" } : Jvm.MethodName)) ∈ rc_tb := rc_tm2 (List.mem_of_getElem? (i := 219) rfl) rfl
set_option maxRecDepth 20000 in
theorem T_460 : (Jvm.Cond.code ({ cls := "java/lang/IndexOutOfBoundsException", name := "<init>", desc := "()V" } : Jvm.MethodName) prog_13_method_1_code (1 : Nat) (Option.none : Option Jvm.ClassFile.FieldType)) ∈ rc_tb := rc_tm2 (List.mem_of_getElem? (i := 220) rfl) rfl
set_option maxRecDepth 20000 in
theorem T_461 : (Jvm.Cond.methodLink "java/lang/IndexOutOfBoundsException" (1 : Nat) ({ cls := "java/lang/RuntimeException", name := "<init>", desc := "()V" } : Jvm.MethodName)) ∈ rc_tb := rc_tm2 (List.mem_of_getElem? (i := 221) rfl) rfl
set_option maxRecDepth 20000 in
theorem T_462 : (Jvm.Cond.lays "java/lang/IndexOutOfBoundsException" "java/lang/Throwable" "depth" "I") ∈ rc_tb := rc_tm2 (List.mem_of_getElem? (i := 222) rfl) rfl
set_option maxRecDepth 20000 in
theorem T_463 : (Jvm.Cond.superclass "java/lang/IndexOutOfBoundsException" "java/lang/RuntimeException") ∈ rc_tb := rc_tm2 (List.mem_of_getElem? (i := 223) rfl) rfl
set_option maxRecDepth 20000 in
theorem T_464 : (Jvm.Cond.methodLink "RecordCalls" (114 : Nat) ({ cls := "RecordCalls$Row", name := "at", desc := "(I)I" } : Jvm.MethodName)) ∈ rc_tb := rc_tm2 (List.mem_of_getElem? (i := 224) rfl) rfl
set_option maxRecDepth 20000 in
theorem T_465 : (Jvm.Cond.methodLink "RecordCalls" (118 : Nat) ({ cls := "RecordCalls$Connection", name := "isWholeWith", desc := "(I)Z" } : Jvm.MethodName)) ∈ rc_tb := rc_tm2 (List.mem_of_getElem? (i := 225) rfl) rfl
set_option maxRecDepth 20000 in
theorem T_466 : (Jvm.Cond.instanceMethod ({ cls := "RecordCalls$Connection", name := "isWholeWith", desc := "(I)Z" } : Jvm.MethodName)) ∈ rc_tb := rc_tm2 (List.mem_of_getElem? (i := 226) rfl) rfl
set_option maxRecDepth 20000 in
theorem T_467 : (Jvm.Cond.selects "RecordCalls$Connection" ({ cls := "RecordCalls$Connection", name := "isWholeWith", desc := "(I)Z" } : Jvm.MethodName) ({ cls := "RecordCalls$Connection", name := "isWholeWith", desc := "(I)Z" } : Jvm.MethodName)) ∈ rc_tb := rc_tm2 (List.mem_of_getElem? (i := 227) rfl) rfl
set_option maxRecDepth 20000 in
theorem T_468 : (Jvm.Cond.code ({ cls := "RecordCalls$Connection", name := "isWholeWith", desc := "(I)Z" } : Jvm.MethodName) prog_2_method_2_code (2 : Nat) (Option.some Jvm.ClassFile.FieldType.boolean)) ∈ rc_tb := rc_tm2 (List.mem_of_getElem? (i := 228) rfl) rfl
set_option maxRecDepth 20000 in
theorem T_469 : (Jvm.Cond.methodLink "RecordCalls$Connection" (39 : Nat) ({ cls := "RecordCalls$Connection", name := "takeHead", desc := "(I)V" } : Jvm.MethodName)) ∈ rc_tb := rc_tm2 (List.mem_of_getElem? (i := 229) rfl) rfl
set_option maxRecDepth 20000 in
theorem T_470 : (Jvm.Cond.privateMethod ({ cls := "RecordCalls$Connection", name := "takeHead", desc := "(I)V" } : Jvm.MethodName)) ∈ rc_tb := rc_tm2 (List.mem_of_getElem? (i := 230) rfl) rfl
set_option maxRecDepth 20000 in
theorem T_471 : (Jvm.Cond.instanceMethod ({ cls := "RecordCalls$Connection", name := "takeHead", desc := "(I)V" } : Jvm.MethodName)) ∈ rc_tb := rc_tm2 (List.mem_of_getElem? (i := 231) rfl) rfl
set_option maxRecDepth 20000 in
theorem T_472 : (Jvm.Cond.code ({ cls := "RecordCalls$Connection", name := "takeHead", desc := "(I)V" } : Jvm.MethodName) prog_2_method_3_code (2 : Nat) (Option.none : Option Jvm.ClassFile.FieldType)) ∈ rc_tb := rc_tm2 (List.mem_of_getElem? (i := 232) rfl) rfl
set_option maxRecDepth 20000 in
theorem T_473 : (Jvm.Cond.constant "RecordCalls$Connection" (47 : Nat) (2147483647 : Int32)) ∈ rc_tb := rc_tm2 (List.mem_of_getElem? (i := 233) rfl) rfl
set_option maxRecDepth 20000 in
theorem T_474 : (Jvm.Cond.methodLink "RecordCalls$Connection" (48 : Nat) ({ cls := "RecordCalls$Row", name := "size", desc := "()I" } : Jvm.MethodName)) ∈ rc_tb := rc_tm2 (List.mem_of_getElem? (i := 234) rfl) rfl
set_option maxRecDepth 20000 in
theorem T_475 : (Jvm.Cond.methodLink "RecordCalls$Connection" (43 : Nat) ({ cls := "RecordCalls$Row", name := "add", desc := "(I)V" } : Jvm.MethodName)) ∈ rc_tb := rc_tm2 (List.mem_of_getElem? (i := 235) rfl) rfl
set_option maxRecDepth 20000 in
theorem T_476 : (Jvm.Cond.constant "RecordCalls$Connection" (46 : Nat) (-2147483648 : Int32)) ∈ rc_tb := rc_tm2 (List.mem_of_getElem? (i := 236) rfl) rfl
set_option maxRecDepth 20000 in
theorem T_477 : (Jvm.Cond.methodLink "RecordCalls" (128 : Nat) ({ cls := "RecordCalls$Server", name := "replyTo", desc := "(LRecordCalls$Row;LRecordCalls$Replies;)LRecordCalls$Row;" } : Jvm.MethodName)) ∈ rc_tb := rc_tm2 (List.mem_of_getElem? (i := 237) rfl) rfl
set_option maxRecDepth 20000 in
theorem T_478 : (Jvm.Cond.instanceMethod ({ cls := "RecordCalls$Server", name := "replyTo", desc := "(LRecordCalls$Row;LRecordCalls$Replies;)LRecordCalls$Row;" } : Jvm.MethodName)) ∈ rc_tb := rc_tm2 (List.mem_of_getElem? (i := 238) rfl) rfl
set_option maxRecDepth 20000 in
theorem T_479 : (Jvm.Cond.selects "RecordCalls$Server" ({ cls := "RecordCalls$Server", name := "replyTo", desc := "(LRecordCalls$Row;LRecordCalls$Replies;)LRecordCalls$Row;" } : Jvm.MethodName) ({ cls := "RecordCalls$Server", name := "replyTo", desc := "(LRecordCalls$Row;LRecordCalls$Replies;)LRecordCalls$Row;" } : Jvm.MethodName)) ∈ rc_tb := rc_tm2 (List.mem_of_getElem? (i := 239) rfl) rfl
set_option maxRecDepth 20000 in
theorem T_480 : (Jvm.Cond.code ({ cls := "RecordCalls$Server", name := "replyTo", desc := "(LRecordCalls$Row;LRecordCalls$Replies;)LRecordCalls$Row;" } : Jvm.MethodName) prog_7_method_2_code (6 : Nat) (Option.some (Jvm.ClassFile.FieldType.object "RecordCalls$Row"))) ∈ rc_tb := rc_tm3 (List.mem_of_getElem? (i := 0) rfl) rfl
set_option maxRecDepth 20000 in
theorem T_481 : (Jvm.Cond.methodLink "RecordCalls$Server" (65 : Nat) ({ cls := "RecordCalls$Row", name := "size", desc := "()I" } : Jvm.MethodName)) ∈ rc_tb := rc_tm3 (List.mem_of_getElem? (i := 1) rfl) rfl
set_option maxRecDepth 20000 in
theorem T_482 : (Jvm.Cond.methodLink "RecordCalls$Server" (69 : Nat) ({ cls := "RecordCalls$Row", name := "wordAt", desc := "(I)I" } : Jvm.MethodName)) ∈ rc_tb := rc_tm3 (List.mem_of_getElem? (i := 2) rfl) rfl
set_option maxRecDepth 20000 in
theorem T_483 : (Jvm.Cond.instanceMethod ({ cls := "RecordCalls$Row", name := "wordAt", desc := "(I)I" } : Jvm.MethodName)) ∈ rc_tb := rc_tm3 (List.mem_of_getElem? (i := 3) rfl) rfl
set_option maxRecDepth 20000 in
theorem T_484 : (Jvm.Cond.selects "RecordCalls$Row" ({ cls := "RecordCalls$Row", name := "wordAt", desc := "(I)I" } : Jvm.MethodName) ({ cls := "RecordCalls$Row", name := "wordAt", desc := "(I)I" } : Jvm.MethodName)) ∈ rc_tb := rc_tm3 (List.mem_of_getElem? (i := 4) rfl) rfl
set_option maxRecDepth 20000 in
theorem T_485 : (Jvm.Cond.code ({ cls := "RecordCalls$Row", name := "wordAt", desc := "(I)I" } : Jvm.MethodName) prog_6_method_6_code (2 : Nat) (Option.some Jvm.ClassFile.FieldType.int)) ∈ rc_tb := rc_tm3 (List.mem_of_getElem? (i := 5) rfl) rfl
set_option maxRecDepth 20000 in
theorem T_486 : (Jvm.Cond.methodLink "RecordCalls$Server" (73 : Nat) ({ cls := "RecordCalls$Replies", name := "find", desc := "(I)LRecordCalls$Row;" } : Jvm.MethodName)) ∈ rc_tb := rc_tm3 (List.mem_of_getElem? (i := 6) rfl) rfl
set_option maxRecDepth 20000 in
theorem T_487 : (Jvm.Cond.instanceMethod ({ cls := "RecordCalls$Replies", name := "find", desc := "(I)LRecordCalls$Row;" } : Jvm.MethodName)) ∈ rc_tb := rc_tm3 (List.mem_of_getElem? (i := 7) rfl) rfl
set_option maxRecDepth 20000 in
theorem T_488 : (Jvm.Cond.selects "RecordCalls$Replies" ({ cls := "RecordCalls$Replies", name := "find", desc := "(I)LRecordCalls$Row;" } : Jvm.MethodName) ({ cls := "RecordCalls$Replies", name := "find", desc := "(I)LRecordCalls$Row;" } : Jvm.MethodName)) ∈ rc_tb := rc_tm3 (List.mem_of_getElem? (i := 8) rfl) rfl
set_option maxRecDepth 20000 in
theorem T_489 : (Jvm.Cond.code ({ cls := "RecordCalls$Replies", name := "find", desc := "(I)LRecordCalls$Row;" } : Jvm.MethodName) prog_5_method_2_code (3 : Nat) (Option.some (Jvm.ClassFile.FieldType.object "RecordCalls$Row"))) ∈ rc_tb := rc_tm3 (List.mem_of_getElem? (i := 9) rfl) rfl
set_option maxRecDepth 20000 in
theorem T_490 : (Jvm.Cond.methodLink "RecordCalls$Server" (79 : Nat) ({ cls := "RecordCalls$Server", name := "verdictOn", desc := "(LRecordCalls$Row;)I" } : Jvm.MethodName)) ∈ rc_tb := rc_tm3 (List.mem_of_getElem? (i := 10) rfl) rfl
set_option maxRecDepth 20000 in
theorem T_491 : (Jvm.Cond.privateMethod ({ cls := "RecordCalls$Server", name := "verdictOn", desc := "(LRecordCalls$Row;)I" } : Jvm.MethodName)) ∈ rc_tb := rc_tm3 (List.mem_of_getElem? (i := 11) rfl) rfl
set_option maxRecDepth 20000 in
theorem T_492 : (Jvm.Cond.instanceMethod ({ cls := "RecordCalls$Server", name := "verdictOn", desc := "(LRecordCalls$Row;)I" } : Jvm.MethodName)) ∈ rc_tb := rc_tm3 (List.mem_of_getElem? (i := 12) rfl) rfl
set_option maxRecDepth 20000 in
theorem T_493 : (Jvm.Cond.code ({ cls := "RecordCalls$Server", name := "verdictOn", desc := "(LRecordCalls$Row;)I" } : Jvm.MethodName) prog_7_method_3_code (8 : Nat) (Option.some Jvm.ClassFile.FieldType.int)) ∈ rc_tb := rc_tm3 (List.mem_of_getElem? (i := 13) rfl) rfl
set_option maxRecDepth 20000 in
theorem T_494 : (Jvm.Cond.methodLink "RecordCalls$Server" (98 : Nat) ({ cls := "RecordCalls$Reader", name := "begin", desc := "(LRecordCalls$Row;I)V" } : Jvm.MethodName)) ∈ rc_tb := rc_tm3 (List.mem_of_getElem? (i := 14) rfl) rfl
set_option maxRecDepth 20000 in
theorem T_495 : (Jvm.Cond.instanceMethod ({ cls := "RecordCalls$Reader", name := "begin", desc := "(LRecordCalls$Row;I)V" } : Jvm.MethodName)) ∈ rc_tb := rc_tm3 (List.mem_of_getElem? (i := 15) rfl) rfl
set_option maxRecDepth 20000 in
theorem T_496 : (Jvm.Cond.selects "RecordCalls$Reader" ({ cls := "RecordCalls$Reader", name := "begin", desc := "(LRecordCalls$Row;I)V" } : Jvm.MethodName) ({ cls := "RecordCalls$Reader", name := "begin", desc := "(LRecordCalls$Row;I)V" } : Jvm.MethodName)) ∈ rc_tb := rc_tm3 (List.mem_of_getElem? (i := 16) rfl) rfl
set_option maxRecDepth 20000 in
theorem T_497 : (Jvm.Cond.code ({ cls := "RecordCalls$Reader", name := "begin", desc := "(LRecordCalls$Row;I)V" } : Jvm.MethodName) prog_4_method_2_code (3 : Nat) (Option.none : Option Jvm.ClassFile.FieldType)) ∈ rc_tb := rc_tm3 (List.mem_of_getElem? (i := 17) rfl) rfl
set_option maxRecDepth 20000 in
theorem T_498 : (Jvm.Cond.methodLink "RecordCalls$Server" (102 : Nat) ({ cls := "RecordCalls$Reader", name := "nextWord", desc := "()I" } : Jvm.MethodName)) ∈ rc_tb := rc_tm3 (List.mem_of_getElem? (i := 18) rfl) rfl
set_option maxRecDepth 20000 in
theorem T_499 : (Jvm.Cond.instanceMethod ({ cls := "RecordCalls$Reader", name := "nextWord", desc := "()I" } : Jvm.MethodName)) ∈ rc_tb := rc_tm3 (List.mem_of_getElem? (i := 19) rfl) rfl
set_option maxRecDepth 20000 in
theorem T_500 : (Jvm.Cond.selects "RecordCalls$Reader" ({ cls := "RecordCalls$Reader", name := "nextWord", desc := "()I" } : Jvm.MethodName) ({ cls := "RecordCalls$Reader", name := "nextWord", desc := "()I" } : Jvm.MethodName)) ∈ rc_tb := rc_tm3 (List.mem_of_getElem? (i := 20) rfl) rfl
set_option maxRecDepth 20000 in
theorem T_501 : (Jvm.Cond.code ({ cls := "RecordCalls$Reader", name := "nextWord", desc := "()I" } : Jvm.MethodName) prog_4_method_7_code (1 : Nat) (Option.some Jvm.ClassFile.FieldType.int)) ∈ rc_tb := rc_tm3 (List.mem_of_getElem? (i := 21) rfl) rfl
set_option maxRecDepth 20000 in
theorem T_502 : (Jvm.Cond.methodLink "RecordCalls$Reader" (26 : Nat) ({ cls := "RecordCalls$Row", name := "size", desc := "()I" } : Jvm.MethodName)) ∈ rc_tb := rc_tm3 (List.mem_of_getElem? (i := 22) rfl) rfl
set_option maxRecDepth 20000 in
theorem T_503 : (Jvm.Cond.methodLink "RecordCalls$Reader" (30 : Nat) ({ cls := "RecordCalls$Row", name := "wordAt", desc := "(I)I" } : Jvm.MethodName)) ∈ rc_tb := rc_tm3 (List.mem_of_getElem? (i := 23) rfl) rfl
set_option maxRecDepth 20000 in
theorem T_504 : (Jvm.Cond.methodLink "RecordCalls$Server" (105 : Nat) ({ cls := "RecordCalls$Reader", name := "nextBytes", desc := "(I)I" } : Jvm.MethodName)) ∈ rc_tb := rc_tm3 (List.mem_of_getElem? (i := 24) rfl) rfl
set_option maxRecDepth 20000 in
theorem T_505 : (Jvm.Cond.instanceMethod ({ cls := "RecordCalls$Reader", name := "nextBytes", desc := "(I)I" } : Jvm.MethodName)) ∈ rc_tb := rc_tm3 (List.mem_of_getElem? (i := 25) rfl) rfl
set_option maxRecDepth 20000 in
theorem T_506 : (Jvm.Cond.selects "RecordCalls$Reader" ({ cls := "RecordCalls$Reader", name := "nextBytes", desc := "(I)I" } : Jvm.MethodName) ({ cls := "RecordCalls$Reader", name := "nextBytes", desc := "(I)I" } : Jvm.MethodName)) ∈ rc_tb := rc_tm3 (List.mem_of_getElem? (i := 26) rfl) rfl
set_option maxRecDepth 20000 in
theorem T_507 : (Jvm.Cond.code ({ cls := "RecordCalls$Reader", name := "nextBytes", desc := "(I)I" } : Jvm.MethodName) prog_4_method_9_code (4 : Nat) (Option.some Jvm.ClassFile.FieldType.int)) ∈ rc_tb := rc_tm3 (List.mem_of_getElem? (i := 27) rfl) rfl
set_option maxRecDepth 20000 in
theorem T_508 : (Jvm.Cond.methodLink "RecordCalls$Reader" (34 : Nat) ({ cls := "RecordCalls$Reader", name := "nextWord", desc := "()I" } : Jvm.MethodName)) ∈ rc_tb := rc_tm3 (List.mem_of_getElem? (i := 28) rfl) rfl
set_option maxRecDepth 20000 in
theorem T_509 : (Jvm.Cond.methodLinkNest "RecordCalls$Reader" (39 : Nat) ({ cls := "RecordCalls", name := "filled", desc := "(I)I" } : Jvm.MethodName) "RecordCalls") ∈ rc_tb := rc_tm3 (List.mem_of_getElem? (i := 29) rfl) rfl
set_option maxRecDepth 20000 in
theorem T_510 : (Jvm.Cond.methodLink "RecordCalls$Reader" (42 : Nat) ({ cls := "RecordCalls$Row", name := "at", desc := "(I)I" } : Jvm.MethodName)) ∈ rc_tb := rc_tm3 (List.mem_of_getElem? (i := 30) rfl) rfl
set_option maxRecDepth 20000 in
theorem T_511 : (Jvm.Cond.methodLink "RecordCalls$Server" (108 : Nat) ({ cls := "RecordCalls$Reader", name := "isGood", desc := "()Z" } : Jvm.MethodName)) ∈ rc_tb := rc_tm3 (List.mem_of_getElem? (i := 31) rfl) rfl
set_option maxRecDepth 20000 in
theorem T_512 : (Jvm.Cond.instanceMethod ({ cls := "RecordCalls$Reader", name := "isGood", desc := "()Z" } : Jvm.MethodName)) ∈ rc_tb := rc_tm3 (List.mem_of_getElem? (i := 32) rfl) rfl
set_option maxRecDepth 20000 in
theorem T_513 : (Jvm.Cond.selects "RecordCalls$Reader" ({ cls := "RecordCalls$Reader", name := "isGood", desc := "()Z" } : Jvm.MethodName) ({ cls := "RecordCalls$Reader", name := "isGood", desc := "()Z" } : Jvm.MethodName)) ∈ rc_tb := rc_tm3 (List.mem_of_getElem? (i := 33) rfl) rfl
set_option maxRecDepth 20000 in
theorem T_514 : (Jvm.Cond.code ({ cls := "RecordCalls$Reader", name := "isGood", desc := "()Z" } : Jvm.MethodName) prog_4_method_4_code (1 : Nat) (Option.some Jvm.ClassFile.FieldType.boolean)) ∈ rc_tb := rc_tm3 (List.mem_of_getElem? (i := 34) rfl) rfl
set_option maxRecDepth 20000 in
theorem T_515 : (Jvm.Cond.constant "RecordCalls$Server" (111 : Nat) (400100 : Int32)) ∈ rc_tb := rc_tm3 (List.mem_of_getElem? (i := 35) rfl) rfl
set_option maxRecDepth 20000 in
theorem T_516 : (Jvm.Cond.methodLink "RecordCalls$Server" (112 : Nat) ({ cls := "RecordCalls$Server", name := "verdictOnVersion", desc := "(I)I" } : Jvm.MethodName)) ∈ rc_tb := rc_tm3 (List.mem_of_getElem? (i := 36) rfl) rfl
set_option maxRecDepth 20000 in
theorem T_517 : (Jvm.Cond.privateMethod ({ cls := "RecordCalls$Server", name := "verdictOnVersion", desc := "(I)I" } : Jvm.MethodName)) ∈ rc_tb := rc_tm3 (List.mem_of_getElem? (i := 37) rfl) rfl
set_option maxRecDepth 20000 in
theorem T_518 : (Jvm.Cond.instanceMethod ({ cls := "RecordCalls$Server", name := "verdictOnVersion", desc := "(I)I" } : Jvm.MethodName)) ∈ rc_tb := rc_tm3 (List.mem_of_getElem? (i := 38) rfl) rfl
set_option maxRecDepth 20000 in
theorem T_519 : (Jvm.Cond.code ({ cls := "RecordCalls$Server", name := "verdictOnVersion", desc := "(I)I" } : Jvm.MethodName) prog_7_method_4_code (3 : Nat) (Option.some Jvm.ClassFile.FieldType.int)) ∈ rc_tb := rc_tm3 (List.mem_of_getElem? (i := 39) rfl) rfl
set_option maxRecDepth 20000 in
theorem T_520 : (Jvm.Cond.methodLink "RecordCalls$Server" (83 : Nat) ({ cls := "RecordCalls$Server", name := "isTaken", desc := "()Z" } : Jvm.MethodName)) ∈ rc_tb := rc_tm3 (List.mem_of_getElem? (i := 40) rfl) rfl
set_option maxRecDepth 20000 in
theorem T_521 : (Jvm.Cond.privateMethod ({ cls := "RecordCalls$Server", name := "isTaken", desc := "()Z" } : Jvm.MethodName)) ∈ rc_tb := rc_tm3 (List.mem_of_getElem? (i := 41) rfl) rfl
set_option maxRecDepth 20000 in
theorem T_522 : (Jvm.Cond.instanceMethod ({ cls := "RecordCalls$Server", name := "isTaken", desc := "()Z" } : Jvm.MethodName)) ∈ rc_tb := rc_tm3 (List.mem_of_getElem? (i := 42) rfl) rfl
set_option maxRecDepth 20000 in
theorem T_523 : (Jvm.Cond.code ({ cls := "RecordCalls$Server", name := "isTaken", desc := "()Z" } : Jvm.MethodName) prog_7_method_6_code (1 : Nat) (Option.some Jvm.ClassFile.FieldType.boolean)) ∈ rc_tb := rc_tm3 (List.mem_of_getElem? (i := 43) rfl) rfl
set_option maxRecDepth 20000 in
theorem T_524 : (Jvm.Cond.methodLink "RecordCalls$Server" (126 : Nat) ({ cls := "RecordCalls$Server", name := "takeKey", desc := "()V" } : Jvm.MethodName)) ∈ rc_tb := rc_tm3 (List.mem_of_getElem? (i := 44) rfl) rfl
set_option maxRecDepth 20000 in
theorem T_525 : (Jvm.Cond.privateMethod ({ cls := "RecordCalls$Server", name := "takeKey", desc := "()V" } : Jvm.MethodName)) ∈ rc_tb := rc_tm3 (List.mem_of_getElem? (i := 45) rfl) rfl
set_option maxRecDepth 20000 in
theorem T_526 : (Jvm.Cond.instanceMethod ({ cls := "RecordCalls$Server", name := "takeKey", desc := "()V" } : Jvm.MethodName)) ∈ rc_tb := rc_tm3 (List.mem_of_getElem? (i := 46) rfl) rfl
set_option maxRecDepth 20000 in
theorem T_527 : (Jvm.Cond.code ({ cls := "RecordCalls$Server", name := "takeKey", desc := "()V" } : Jvm.MethodName) prog_7_method_7_code (2 : Nat) (Option.none : Option Jvm.ClassFile.FieldType)) ∈ rc_tb := rc_tm3 (List.mem_of_getElem? (i := 47) rfl) rfl
set_option maxRecDepth 20000 in
theorem T_528 : (Jvm.Cond.methodLink "RecordCalls$Server" (139 : Nat) ({ cls := "RecordCalls$Reader", name := "fail", desc := "()V" } : Jvm.MethodName)) ∈ rc_tb := rc_tm3 (List.mem_of_getElem? (i := 48) rfl) rfl
set_option maxRecDepth 20000 in
theorem T_529 : (Jvm.Cond.instanceMethod ({ cls := "RecordCalls$Reader", name := "fail", desc := "()V" } : Jvm.MethodName)) ∈ rc_tb := rc_tm3 (List.mem_of_getElem? (i := 49) rfl) rfl
set_option maxRecDepth 20000 in
theorem T_530 : (Jvm.Cond.selects "RecordCalls$Reader" ({ cls := "RecordCalls$Reader", name := "fail", desc := "()V" } : Jvm.MethodName) ({ cls := "RecordCalls$Reader", name := "fail", desc := "()V" } : Jvm.MethodName)) ∈ rc_tb := rc_tm3 (List.mem_of_getElem? (i := 50) rfl) rfl
set_option maxRecDepth 20000 in
theorem T_531 : (Jvm.Cond.code ({ cls := "RecordCalls$Reader", name := "fail", desc := "()V" } : Jvm.MethodName) prog_4_method_6_code (1 : Nat) (Option.none : Option Jvm.ClassFile.FieldType)) ∈ rc_tb := rc_tm3 (List.mem_of_getElem? (i := 51) rfl) rfl
set_option maxRecDepth 20000 in
theorem T_532 : (Jvm.Cond.methodLink "RecordCalls$Server" (142 : Nat) ({ cls := "RecordCalls$Reader", name := "startOfBytes", desc := "(I)I" } : Jvm.MethodName)) ∈ rc_tb := rc_tm3 (List.mem_of_getElem? (i := 52) rfl) rfl
set_option maxRecDepth 20000 in
theorem T_533 : (Jvm.Cond.instanceMethod ({ cls := "RecordCalls$Reader", name := "startOfBytes", desc := "(I)I" } : Jvm.MethodName)) ∈ rc_tb := rc_tm3 (List.mem_of_getElem? (i := 53) rfl) rfl
set_option maxRecDepth 20000 in
theorem T_534 : (Jvm.Cond.selects "RecordCalls$Reader" ({ cls := "RecordCalls$Reader", name := "startOfBytes", desc := "(I)I" } : Jvm.MethodName) ({ cls := "RecordCalls$Reader", name := "startOfBytes", desc := "(I)I" } : Jvm.MethodName)) ∈ rc_tb := rc_tm3 (List.mem_of_getElem? (i := 54) rfl) rfl
set_option maxRecDepth 20000 in
theorem T_535 : (Jvm.Cond.code ({ cls := "RecordCalls$Reader", name := "startOfBytes", desc := "(I)I" } : Jvm.MethodName) prog_4_method_10_code (2 : Nat) (Option.some Jvm.ClassFile.FieldType.int)) ∈ rc_tb := rc_tm3 (List.mem_of_getElem? (i := 55) rfl) rfl
set_option maxRecDepth 20000 in
theorem T_536 : (Jvm.Cond.methodLink "RecordCalls$Server" (129 : Nat) ({ cls := "RecordCalls$Reader", name := "nextLong", desc := "()J" } : Jvm.MethodName)) ∈ rc_tb := rc_tm3 (List.mem_of_getElem? (i := 56) rfl) rfl
set_option maxRecDepth 20000 in
theorem T_537 : (Jvm.Cond.instanceMethod ({ cls := "RecordCalls$Reader", name := "nextLong", desc := "()J" } : Jvm.MethodName)) ∈ rc_tb := rc_tm3 (List.mem_of_getElem? (i := 57) rfl) rfl
set_option maxRecDepth 20000 in
theorem T_538 : (Jvm.Cond.selects "RecordCalls$Reader" ({ cls := "RecordCalls$Reader", name := "nextLong", desc := "()J" } : Jvm.MethodName) ({ cls := "RecordCalls$Reader", name := "nextLong", desc := "()J" } : Jvm.MethodName)) ∈ rc_tb := rc_tm3 (List.mem_of_getElem? (i := 58) rfl) rfl
set_option maxRecDepth 20000 in
theorem T_539 : (Jvm.Cond.code ({ cls := "RecordCalls$Reader", name := "nextLong", desc := "()J" } : Jvm.MethodName) prog_4_method_8_code (5 : Nat) (Option.some Jvm.ClassFile.FieldType.long)) ∈ rc_tb := rc_tm3 (List.mem_of_getElem? (i := 59) rfl) rfl
set_option maxRecDepth 20000 in
theorem T_540 : (Jvm.Cond.constantLong "RecordCalls$Reader" (37 : Nat) (4294967295 : Int64)) ∈ rc_tb := rc_tm3 (List.mem_of_getElem? (i := 60) rfl) rfl
set_option maxRecDepth 20000 in
theorem T_541 : (Jvm.Cond.methodLink "RecordCalls$Server" (133 : Nat) ({ cls := "RecordCalls$Server", name := "takeKeys", desc := "()V" } : Jvm.MethodName)) ∈ rc_tb := rc_tm3 (List.mem_of_getElem? (i := 61) rfl) rfl
set_option maxRecDepth 20000 in
theorem T_542 : (Jvm.Cond.privateMethod ({ cls := "RecordCalls$Server", name := "takeKeys", desc := "()V" } : Jvm.MethodName)) ∈ rc_tb := rc_tm3 (List.mem_of_getElem? (i := 62) rfl) rfl
set_option maxRecDepth 20000 in
theorem T_543 : (Jvm.Cond.instanceMethod ({ cls := "RecordCalls$Server", name := "takeKeys", desc := "()V" } : Jvm.MethodName)) ∈ rc_tb := rc_tm3 (List.mem_of_getElem? (i := 63) rfl) rfl
set_option maxRecDepth 20000 in
theorem T_544 : (Jvm.Cond.code ({ cls := "RecordCalls$Server", name := "takeKeys", desc := "()V" } : Jvm.MethodName) prog_7_method_8_code (3 : Nat) (Option.none : Option Jvm.ClassFile.FieldType)) ∈ rc_tb := rc_tm3 (List.mem_of_getElem? (i := 64) rfl) rfl
set_option maxRecDepth 20000 in
theorem T_545 : (Jvm.Cond.methodLink "RecordCalls$Server" (136 : Nat) ({ cls := "RecordCalls$Reader", name := "isAtEnd", desc := "()Z" } : Jvm.MethodName)) ∈ rc_tb := rc_tm3 (List.mem_of_getElem? (i := 65) rfl) rfl
set_option maxRecDepth 20000 in
theorem T_546 : (Jvm.Cond.instanceMethod ({ cls := "RecordCalls$Reader", name := "isAtEnd", desc := "()Z" } : Jvm.MethodName)) ∈ rc_tb := rc_tm3 (List.mem_of_getElem? (i := 66) rfl) rfl
set_option maxRecDepth 20000 in
theorem T_547 : (Jvm.Cond.selects "RecordCalls$Reader" ({ cls := "RecordCalls$Reader", name := "isAtEnd", desc := "()Z" } : Jvm.MethodName) ({ cls := "RecordCalls$Reader", name := "isAtEnd", desc := "()Z" } : Jvm.MethodName)) ∈ rc_tb := rc_tm3 (List.mem_of_getElem? (i := 67) rfl) rfl
set_option maxRecDepth 20000 in
theorem T_548 : (Jvm.Cond.code ({ cls := "RecordCalls$Reader", name := "isAtEnd", desc := "()Z" } : Jvm.MethodName) prog_4_method_5_code (1 : Nat) (Option.some Jvm.ClassFile.FieldType.boolean)) ∈ rc_tb := rc_tm3 (List.mem_of_getElem? (i := 68) rfl) rfl
set_option maxRecDepth 20000 in
theorem T_549 : (Jvm.Cond.methodLink "RecordCalls$Server" (87 : Nat) ({ cls := "RecordCalls$Server", name := "beginReply", desc := "(II)V" } : Jvm.MethodName)) ∈ rc_tb := rc_tm3 (List.mem_of_getElem? (i := 69) rfl) rfl
set_option maxRecDepth 20000 in
theorem T_550 : (Jvm.Cond.privateMethod ({ cls := "RecordCalls$Server", name := "beginReply", desc := "(II)V" } : Jvm.MethodName)) ∈ rc_tb := rc_tm3 (List.mem_of_getElem? (i := 70) rfl) rfl
set_option maxRecDepth 20000 in
theorem T_551 : (Jvm.Cond.instanceMethod ({ cls := "RecordCalls$Server", name := "beginReply", desc := "(II)V" } : Jvm.MethodName)) ∈ rc_tb := rc_tm3 (List.mem_of_getElem? (i := 71) rfl) rfl
set_option maxRecDepth 20000 in
theorem T_552 : (Jvm.Cond.code ({ cls := "RecordCalls$Server", name := "beginReply", desc := "(II)V" } : Jvm.MethodName) prog_7_method_5_code (3 : Nat) (Option.none : Option Jvm.ClassFile.FieldType)) ∈ rc_tb := rc_tm3 (List.mem_of_getElem? (i := 72) rfl) rfl
set_option maxRecDepth 20000 in
theorem T_553 : (Jvm.Cond.methodLink "RecordCalls$Server" (115 : Nat) ({ cls := "RecordCalls$Row", name := "clear", desc := "()V" } : Jvm.MethodName)) ∈ rc_tb := rc_tm3 (List.mem_of_getElem? (i := 73) rfl) rfl
set_option maxRecDepth 20000 in
theorem T_554 : (Jvm.Cond.methodLink "RecordCalls$Server" (118 : Nat) ({ cls := "RecordCalls$Row", name := "addWord", desc := "(I)V" } : Jvm.MethodName)) ∈ rc_tb := rc_tm3 (List.mem_of_getElem? (i := 74) rfl) rfl
set_option maxRecDepth 20000 in
theorem T_555 : (Jvm.Cond.methodLinkNest "RecordCalls$Server" (122 : Nat) ({ cls := "RecordCalls", name := "addNobody", desc := "(LRecordCalls$Row;)V" } : Jvm.MethodName) "RecordCalls") ∈ rc_tb := rc_tm3 (List.mem_of_getElem? (i := 75) rfl) rfl
set_option maxRecDepth 20000 in
theorem T_556 : (Jvm.Cond.methodLink "RecordCalls$Server" (91 : Nat) ({ cls := "RecordCalls$Server", name := "give", desc := "()V" } : Jvm.MethodName)) ∈ rc_tb := rc_tm3 (List.mem_of_getElem? (i := 76) rfl) rfl
set_option maxRecDepth 20000 in
theorem T_557 : (Jvm.Cond.privateMethod ({ cls := "RecordCalls$Server", name := "give", desc := "()V" } : Jvm.MethodName)) ∈ rc_tb := rc_tm3 (List.mem_of_getElem? (i := 77) rfl) rfl
set_option maxRecDepth 20000 in
theorem T_558 : (Jvm.Cond.instanceMethod ({ cls := "RecordCalls$Server", name := "give", desc := "()V" } : Jvm.MethodName)) ∈ rc_tb := rc_tm3 (List.mem_of_getElem? (i := 78) rfl) rfl
set_option maxRecDepth 20000 in
theorem T_559 : (Jvm.Cond.code ({ cls := "RecordCalls$Server", name := "give", desc := "()V" } : Jvm.MethodName) prog_7_method_9_code (1 : Nat) (Option.none : Option Jvm.ClassFile.FieldType)) ∈ rc_tb := rc_tm3 (List.mem_of_getElem? (i := 79) rfl) rfl
set_option maxRecDepth 20000 in
theorem T_560 : (Jvm.Cond.methodLink "RecordCalls$Server" (145 : Nat) ({ cls := "RecordCalls$Server", name := "giveSet", desc := "()V" } : Jvm.MethodName)) ∈ rc_tb := rc_tm3 (List.mem_of_getElem? (i := 80) rfl) rfl
set_option maxRecDepth 20000 in
theorem T_561 : (Jvm.Cond.privateMethod ({ cls := "RecordCalls$Server", name := "giveSet", desc := "()V" } : Jvm.MethodName)) ∈ rc_tb := rc_tm3 (List.mem_of_getElem? (i := 81) rfl) rfl
set_option maxRecDepth 20000 in
theorem T_562 : (Jvm.Cond.instanceMethod ({ cls := "RecordCalls$Server", name := "giveSet", desc := "()V" } : Jvm.MethodName)) ∈ rc_tb := rc_tm3 (List.mem_of_getElem? (i := 82) rfl) rfl
set_option maxRecDepth 20000 in
theorem T_563 : (Jvm.Cond.code ({ cls := "RecordCalls$Server", name := "giveSet", desc := "()V" } : Jvm.MethodName) prog_7_method_11_code (3 : Nat) (Option.none : Option Jvm.ClassFile.FieldType)) ∈ rc_tb := rc_tm3 (List.mem_of_getElem? (i := 83) rfl) rfl
set_option maxRecDepth 20000 in
theorem T_564 : (Jvm.Cond.methodLink "RecordCalls$Server" (148 : Nat) ({ cls := "RecordCalls$Server", name := "placeTaken", desc := "(I)I" } : Jvm.MethodName)) ∈ rc_tb := rc_tm3 (List.mem_of_getElem? (i := 84) rfl) rfl
set_option maxRecDepth 20000 in
theorem T_565 : (Jvm.Cond.privateMethod ({ cls := "RecordCalls$Server", name := "placeTaken", desc := "(I)I" } : Jvm.MethodName)) ∈ rc_tb := rc_tm3 (List.mem_of_getElem? (i := 85) rfl) rfl
set_option maxRecDepth 20000 in
theorem T_566 : (Jvm.Cond.instanceMethod ({ cls := "RecordCalls$Server", name := "placeTaken", desc := "(I)I" } : Jvm.MethodName)) ∈ rc_tb := rc_tm3 (List.mem_of_getElem? (i := 86) rfl) rfl
set_option maxRecDepth 20000 in
theorem T_567 : (Jvm.Cond.code ({ cls := "RecordCalls$Server", name := "placeTaken", desc := "(I)I" } : Jvm.MethodName) prog_7_method_10_code (2 : Nat) (Option.some Jvm.ClassFile.FieldType.int)) ∈ rc_tb := rc_tm3 (List.mem_of_getElem? (i := 87) rfl) rfl
set_option maxRecDepth 20000 in
theorem T_568 : (Jvm.Cond.methodLink "RecordCalls$Server" (167 : Nat) ({ cls := "RecordCalls$Reader", name := "row", desc := "()LRecordCalls$Row;" } : Jvm.MethodName)) ∈ rc_tb := rc_tm3 (List.mem_of_getElem? (i := 88) rfl) rfl
set_option maxRecDepth 20000 in
theorem T_569 : (Jvm.Cond.instanceMethod ({ cls := "RecordCalls$Reader", name := "row", desc := "()LRecordCalls$Row;" } : Jvm.MethodName)) ∈ rc_tb := rc_tm3 (List.mem_of_getElem? (i := 89) rfl) rfl
set_option maxRecDepth 20000 in
theorem T_570 : (Jvm.Cond.selects "RecordCalls$Reader" ({ cls := "RecordCalls$Reader", name := "row", desc := "()LRecordCalls$Row;" } : Jvm.MethodName) ({ cls := "RecordCalls$Reader", name := "row", desc := "()LRecordCalls$Row;" } : Jvm.MethodName)) ∈ rc_tb := rc_tm3 (List.mem_of_getElem? (i := 90) rfl) rfl
set_option maxRecDepth 20000 in
theorem T_571 : (Jvm.Cond.code ({ cls := "RecordCalls$Reader", name := "row", desc := "()LRecordCalls$Row;" } : Jvm.MethodName) prog_4_method_3_code (1 : Nat) (Option.some (Jvm.ClassFile.FieldType.object "RecordCalls$Row"))) ∈ rc_tb := rc_tm3 (List.mem_of_getElem? (i := 91) rfl) rfl
set_option maxRecDepth 20000 in
theorem T_572 : (Jvm.Cond.methodLink "RecordCalls$Server" (171 : Nat) ({ cls := "RecordCalls$KeyMap", name := "placeOf", desc := "(LRecordCalls$Row;II)I" } : Jvm.MethodName)) ∈ rc_tb := rc_tm3 (List.mem_of_getElem? (i := 92) rfl) rfl
set_option maxRecDepth 20000 in
theorem T_573 : (Jvm.Cond.methodLink "RecordCalls$Server" (175 : Nat) ({ cls := "RecordCalls$KeyMap", name := "isFull", desc := "()Z" } : Jvm.MethodName)) ∈ rc_tb := rc_tm3 (List.mem_of_getElem? (i := 93) rfl) rfl
set_option maxRecDepth 20000 in
theorem T_574 : (Jvm.Cond.instanceMethod ({ cls := "RecordCalls$KeyMap", name := "isFull", desc := "()Z" } : Jvm.MethodName)) ∈ rc_tb := rc_tm3 (List.mem_of_getElem? (i := 94) rfl) rfl
set_option maxRecDepth 20000 in
theorem T_575 : (Jvm.Cond.selects "RecordCalls$KeyMap" ({ cls := "RecordCalls$KeyMap", name := "isFull", desc := "()Z" } : Jvm.MethodName) ({ cls := "RecordCalls$KeyMap", name := "isFull", desc := "()Z" } : Jvm.MethodName)) ∈ rc_tb := rc_tm3 (List.mem_of_getElem? (i := 95) rfl) rfl
set_option maxRecDepth 20000 in
theorem T_576 : (Jvm.Cond.code ({ cls := "RecordCalls$KeyMap", name := "isFull", desc := "()Z" } : Jvm.MethodName) prog_3_method_3_code (1 : Nat) (Option.some Jvm.ClassFile.FieldType.boolean)) ∈ rc_tb := rc_tm3 (List.mem_of_getElem? (i := 96) rfl) rfl
set_option maxRecDepth 20000 in
theorem T_577 : (Jvm.Cond.methodLink "RecordCalls$Server" (178 : Nat) ({ cls := "RecordCalls$Row", name := "addTruth", desc := "(Z)V" } : Jvm.MethodName)) ∈ rc_tb := rc_tm3 (List.mem_of_getElem? (i := 97) rfl) rfl
set_option maxRecDepth 20000 in
theorem T_578 : (Jvm.Cond.instanceMethod ({ cls := "RecordCalls$Row", name := "addTruth", desc := "(Z)V" } : Jvm.MethodName)) ∈ rc_tb := rc_tm3 (List.mem_of_getElem? (i := 98) rfl) rfl
set_option maxRecDepth 20000 in
theorem T_579 : (Jvm.Cond.selects "RecordCalls$Row" ({ cls := "RecordCalls$Row", name := "addTruth", desc := "(Z)V" } : Jvm.MethodName) ({ cls := "RecordCalls$Row", name := "addTruth", desc := "(Z)V" } : Jvm.MethodName)) ∈ rc_tb := rc_tm3 (List.mem_of_getElem? (i := 99) rfl) rfl
set_option maxRecDepth 20000 in
theorem T_580 : (Jvm.Cond.code ({ cls := "RecordCalls$Row", name := "addTruth", desc := "(Z)V" } : Jvm.MethodName) prog_6_method_11_code (2 : Nat) (Option.none : Option Jvm.ClassFile.FieldType)) ∈ rc_tb := rc_tm3 (List.mem_of_getElem? (i := 100) rfl) rfl
set_option maxRecDepth 20000 in
theorem T_581 : (Jvm.Cond.methodLink "RecordCalls$Server" (182 : Nat) ({ cls := "RecordCalls$KeyMap", name := "valueAt", desc := "(I)J" } : Jvm.MethodName)) ∈ rc_tb := rc_tm3 (List.mem_of_getElem? (i := 101) rfl) rfl
set_option maxRecDepth 20000 in
theorem T_582 : (Jvm.Cond.methodLink "RecordCalls$Server" (186 : Nat) ({ cls := "RecordCalls$Row", name := "addLong", desc := "(J)V" } : Jvm.MethodName)) ∈ rc_tb := rc_tm3 (List.mem_of_getElem? (i := 102) rfl) rfl
set_option maxRecDepth 20000 in
theorem T_583 : (Jvm.Cond.methodLink "RecordCalls$Server" (190 : Nat) ({ cls := "RecordCalls$KeyMap", name := "setValue", desc := "(IJ)V" } : Jvm.MethodName)) ∈ rc_tb := rc_tm3 (List.mem_of_getElem? (i := 103) rfl) rfl
set_option maxRecDepth 20000 in
theorem T_584 : (Jvm.Cond.instanceMethod ({ cls := "RecordCalls$KeyMap", name := "setValue", desc := "(IJ)V" } : Jvm.MethodName)) ∈ rc_tb := rc_tm3 (List.mem_of_getElem? (i := 104) rfl) rfl
set_option maxRecDepth 20000 in
theorem T_585 : (Jvm.Cond.selects "RecordCalls$KeyMap" ({ cls := "RecordCalls$KeyMap", name := "setValue", desc := "(IJ)V" } : Jvm.MethodName) ({ cls := "RecordCalls$KeyMap", name := "setValue", desc := "(IJ)V" } : Jvm.MethodName)) ∈ rc_tb := rc_tm3 (List.mem_of_getElem? (i := 105) rfl) rfl
set_option maxRecDepth 20000 in
theorem T_586 : (Jvm.Cond.code ({ cls := "RecordCalls$KeyMap", name := "setValue", desc := "(IJ)V" } : Jvm.MethodName) prog_3_method_7_code (4 : Nat) (Option.none : Option Jvm.ClassFile.FieldType)) ∈ rc_tb := rc_tm3 (List.mem_of_getElem? (i := 106) rfl) rfl
set_option maxRecDepth 20000 in
theorem T_587 : (Jvm.Cond.methodLink "RecordCalls$Server" (193 : Nat) ({ cls := "RecordCalls$KeyMap", name := "addNew", desc := "(LRecordCalls$Row;IIJ)V" } : Jvm.MethodName)) ∈ rc_tb := rc_tm3 (List.mem_of_getElem? (i := 107) rfl) rfl
set_option maxRecDepth 20000 in
theorem T_588 : (Jvm.Cond.instanceMethod ({ cls := "RecordCalls$KeyMap", name := "addNew", desc := "(LRecordCalls$Row;IIJ)V" } : Jvm.MethodName)) ∈ rc_tb := rc_tm3 (List.mem_of_getElem? (i := 108) rfl) rfl
set_option maxRecDepth 20000 in
theorem T_589 : (Jvm.Cond.selects "RecordCalls$KeyMap" ({ cls := "RecordCalls$KeyMap", name := "addNew", desc := "(LRecordCalls$Row;IIJ)V" } : Jvm.MethodName) ({ cls := "RecordCalls$KeyMap", name := "addNew", desc := "(LRecordCalls$Row;IIJ)V" } : Jvm.MethodName)) ∈ rc_tb := rc_tm3 (List.mem_of_getElem? (i := 109) rfl) rfl
set_option maxRecDepth 20000 in
theorem T_590 : (Jvm.Cond.code ({ cls := "RecordCalls$KeyMap", name := "addNew", desc := "(LRecordCalls$Row;IIJ)V" } : Jvm.MethodName) prog_3_method_9_code (6 : Nat) (Option.none : Option Jvm.ClassFile.FieldType)) ∈ rc_tb := rc_tm3 (List.mem_of_getElem? (i := 110) rfl) rfl
set_option maxRecDepth 20000 in
theorem T_591 : (Jvm.Cond.methodLink "RecordCalls$KeyMap" (34 : Nat) ({ cls := "RecordCalls$KeyMap", name := "isFull", desc := "()Z" } : Jvm.MethodName)) ∈ rc_tb := rc_tm3 (List.mem_of_getElem? (i := 111) rfl) rfl
set_option maxRecDepth 20000 in
theorem T_592 : (Jvm.Cond.methodLink "RecordCalls$KeyMap" (38 : Nat) ({ cls := "RecordCalls$Row", name := "clear", desc := "()V" } : Jvm.MethodName)) ∈ rc_tb := rc_tm3 (List.mem_of_getElem? (i := 112) rfl) rfl
set_option maxRecDepth 20000 in
theorem T_593 : (Jvm.Cond.methodLink "RecordCalls$KeyMap" (41 : Nat) ({ cls := "RecordCalls$Row", name := "addPart", desc := "(LRecordCalls$Row;II)V" } : Jvm.MethodName)) ∈ rc_tb := rc_tm3 (List.mem_of_getElem? (i := 113) rfl) rfl
set_option maxRecDepth 20000 in
theorem T_594 : (Jvm.Cond.methodLink "RecordCalls$Server" (151 : Nat) ({ cls := "RecordCalls$Server", name := "giveValueAt", desc := "(I)V" } : Jvm.MethodName)) ∈ rc_tb := rc_tm3 (List.mem_of_getElem? (i := 114) rfl) rfl
set_option maxRecDepth 20000 in
theorem T_595 : (Jvm.Cond.privateMethod ({ cls := "RecordCalls$Server", name := "giveValueAt", desc := "(I)V" } : Jvm.MethodName)) ∈ rc_tb := rc_tm3 (List.mem_of_getElem? (i := 115) rfl) rfl
set_option maxRecDepth 20000 in
theorem T_596 : (Jvm.Cond.instanceMethod ({ cls := "RecordCalls$Server", name := "giveValueAt", desc := "(I)V" } : Jvm.MethodName)) ∈ rc_tb := rc_tm3 (List.mem_of_getElem? (i := 116) rfl) rfl
set_option maxRecDepth 20000 in
theorem T_597 : (Jvm.Cond.code ({ cls := "RecordCalls$Server", name := "giveValueAt", desc := "(I)V" } : Jvm.MethodName) prog_7_method_12_code (2 : Nat) (Option.none : Option Jvm.ClassFile.FieldType)) ∈ rc_tb := rc_tm3 (List.mem_of_getElem? (i := 117) rfl) rfl
set_option maxRecDepth 20000 in
theorem T_598 : (Jvm.Cond.methodLink "RecordCalls$Server" (154 : Nat) ({ cls := "RecordCalls$KeyMap", name := "addToValue", desc := "(IJ)V" } : Jvm.MethodName)) ∈ rc_tb := rc_tm3 (List.mem_of_getElem? (i := 118) rfl) rfl
set_option maxRecDepth 20000 in
theorem T_599 : (Jvm.Cond.instanceMethod ({ cls := "RecordCalls$KeyMap", name := "addToValue", desc := "(IJ)V" } : Jvm.MethodName)) ∈ rc_tb := rc_tm3 (List.mem_of_getElem? (i := 119) rfl) rfl
set_option maxRecDepth 20000 in
theorem T_600 : (Jvm.Cond.selects "RecordCalls$KeyMap" ({ cls := "RecordCalls$KeyMap", name := "addToValue", desc := "(IJ)V" } : Jvm.MethodName) ({ cls := "RecordCalls$KeyMap", name := "addToValue", desc := "(IJ)V" } : Jvm.MethodName)) ∈ rc_tb := rc_tm3 (List.mem_of_getElem? (i := 120) rfl) rfl
set_option maxRecDepth 20000 in
theorem T_601 : (Jvm.Cond.code ({ cls := "RecordCalls$KeyMap", name := "addToValue", desc := "(IJ)V" } : Jvm.MethodName) prog_3_method_8_code (4 : Nat) (Option.none : Option Jvm.ClassFile.FieldType)) ∈ rc_tb := rc_tm3 (List.mem_of_getElem? (i := 121) rfl) rfl
set_option maxRecDepth 20000 in
theorem T_602 : (Jvm.Cond.methodLink "RecordCalls$Server" (158 : Nat) ({ cls := "RecordCalls$Server", name := "giveSum", desc := "()V" } : Jvm.MethodName)) ∈ rc_tb := rc_tm3 (List.mem_of_getElem? (i := 122) rfl) rfl
set_option maxRecDepth 20000 in
theorem T_603 : (Jvm.Cond.privateMethod ({ cls := "RecordCalls$Server", name := "giveSum", desc := "()V" } : Jvm.MethodName)) ∈ rc_tb := rc_tm3 (List.mem_of_getElem? (i := 123) rfl) rfl
set_option maxRecDepth 20000 in
theorem T_604 : (Jvm.Cond.instanceMethod ({ cls := "RecordCalls$Server", name := "giveSum", desc := "()V" } : Jvm.MethodName)) ∈ rc_tb := rc_tm3 (List.mem_of_getElem? (i := 124) rfl) rfl
set_option maxRecDepth 20000 in
theorem T_605 : (Jvm.Cond.code ({ cls := "RecordCalls$Server", name := "giveSum", desc := "()V" } : Jvm.MethodName) prog_7_method_13_code (6 : Nat) (Option.none : Option Jvm.ClassFile.FieldType)) ∈ rc_tb := rc_tm3 (List.mem_of_getElem? (i := 125) rfl) rfl
set_option maxRecDepth 20000 in
theorem T_606 : (Jvm.Cond.methodLink "RecordCalls$Server" (161 : Nat) ({ cls := "RecordCalls$Server", name := "giveList", desc := "()V" } : Jvm.MethodName)) ∈ rc_tb := rc_tm3 (List.mem_of_getElem? (i := 126) rfl) rfl
set_option maxRecDepth 20000 in
theorem T_607 : (Jvm.Cond.privateMethod ({ cls := "RecordCalls$Server", name := "giveList", desc := "()V" } : Jvm.MethodName)) ∈ rc_tb := rc_tm3 (List.mem_of_getElem? (i := 127) rfl) rfl
set_option maxRecDepth 20000 in
theorem T_608 : (Jvm.Cond.instanceMethod ({ cls := "RecordCalls$Server", name := "giveList", desc := "()V" } : Jvm.MethodName)) ∈ rc_tb := rc_tm3 (List.mem_of_getElem? (i := 128) rfl) rfl
set_option maxRecDepth 20000 in
theorem T_609 : (Jvm.Cond.code ({ cls := "RecordCalls$Server", name := "giveList", desc := "()V" } : Jvm.MethodName) prog_7_method_14_code (6 : Nat) (Option.none : Option Jvm.ClassFile.FieldType)) ∈ rc_tb := rc_tm3 (List.mem_of_getElem? (i := 129) rfl) rfl
set_option maxRecDepth 20000 in
theorem T_610 : (Jvm.Cond.methodLink "RecordCalls$Server" (197 : Nat) ({ cls := "RecordCalls$KeyMap", name := "size", desc := "()I" } : Jvm.MethodName)) ∈ rc_tb := rc_tm3 (List.mem_of_getElem? (i := 130) rfl) rfl
set_option maxRecDepth 20000 in
theorem T_611 : (Jvm.Cond.instanceMethod ({ cls := "RecordCalls$KeyMap", name := "size", desc := "()I" } : Jvm.MethodName)) ∈ rc_tb := rc_tm3 (List.mem_of_getElem? (i := 131) rfl) rfl
set_option maxRecDepth 20000 in
theorem T_612 : (Jvm.Cond.selects "RecordCalls$KeyMap" ({ cls := "RecordCalls$KeyMap", name := "size", desc := "()I" } : Jvm.MethodName) ({ cls := "RecordCalls$KeyMap", name := "size", desc := "()I" } : Jvm.MethodName)) ∈ rc_tb := rc_tm3 (List.mem_of_getElem? (i := 132) rfl) rfl
set_option maxRecDepth 20000 in
theorem T_613 : (Jvm.Cond.code ({ cls := "RecordCalls$KeyMap", name := "size", desc := "()I" } : Jvm.MethodName) prog_3_method_2_code (1 : Nat) (Option.some Jvm.ClassFile.FieldType.int)) ∈ rc_tb := rc_tm3 (List.mem_of_getElem? (i := 133) rfl) rfl
set_option maxRecDepth 20000 in
theorem T_614 : (Jvm.Cond.methodLink "RecordCalls$Server" (198 : Nat) ({ cls := "java/lang/Math", name := "max", desc := "(II)I" } : Jvm.MethodName)) ∈ rc_tb := rc_tm3 (List.mem_of_getElem? (i := 134) rfl) rfl
set_option maxRecDepth 20000 in
theorem T_615 : (Jvm.Cond.methodLink "RecordCalls$Server" (204 : Nat) ({ cls := "java/lang/Math", name := "min", desc := "(II)I" } : Jvm.MethodName)) ∈ rc_tb := rc_tm3 (List.mem_of_getElem? (i := 135) rfl) rfl
set_option maxRecDepth 20000 in
theorem T_616 : (Jvm.Cond.methodLink "RecordCalls$Server" (207 : Nat) ({ cls := "RecordCalls$KeyMap", name := "keyAt", desc := "(I)LRecordCalls$Row;" } : Jvm.MethodName)) ∈ rc_tb := rc_tm3 (List.mem_of_getElem? (i := 136) rfl) rfl
set_option maxRecDepth 20000 in
theorem T_617 : (Jvm.Cond.instanceMethod ({ cls := "RecordCalls$KeyMap", name := "keyAt", desc := "(I)LRecordCalls$Row;" } : Jvm.MethodName)) ∈ rc_tb := rc_tm3 (List.mem_of_getElem? (i := 137) rfl) rfl
set_option maxRecDepth 20000 in
theorem T_618 : (Jvm.Cond.selects "RecordCalls$KeyMap" ({ cls := "RecordCalls$KeyMap", name := "keyAt", desc := "(I)LRecordCalls$Row;" } : Jvm.MethodName) ({ cls := "RecordCalls$KeyMap", name := "keyAt", desc := "(I)LRecordCalls$Row;" } : Jvm.MethodName)) ∈ rc_tb := rc_tm3 (List.mem_of_getElem? (i := 138) rfl) rfl
set_option maxRecDepth 20000 in
theorem T_619 : (Jvm.Cond.code ({ cls := "RecordCalls$KeyMap", name := "keyAt", desc := "(I)LRecordCalls$Row;" } : Jvm.MethodName) prog_3_method_11_code (2 : Nat) (Option.some (Jvm.ClassFile.FieldType.object "RecordCalls$Row"))) ∈ rc_tb := rc_tm3 (List.mem_of_getElem? (i := 139) rfl) rfl
set_option maxRecDepth 20000 in
theorem T_620 : (Jvm.Cond.methodLink "RecordCalls$Server" (210 : Nat) ({ cls := "RecordCalls$Row", name := "addBytes", desc := "(LRecordCalls$Row;II)V" } : Jvm.MethodName)) ∈ rc_tb := rc_tm3 (List.mem_of_getElem? (i := 140) rfl) rfl
set_option maxRecDepth 20000 in
theorem T_621 : (Jvm.Cond.methodLink "RecordCalls$Server" (164 : Nat) ({ cls := "RecordCalls$Server", name := "giveRemoved", desc := "()V" } : Jvm.MethodName)) ∈ rc_tb := rc_tm3 (List.mem_of_getElem? (i := 141) rfl) rfl
set_option maxRecDepth 20000 in
theorem T_622 : (Jvm.Cond.privateMethod ({ cls := "RecordCalls$Server", name := "giveRemoved", desc := "()V" } : Jvm.MethodName)) ∈ rc_tb := rc_tm3 (List.mem_of_getElem? (i := 142) rfl) rfl
set_option maxRecDepth 20000 in
theorem T_623 : (Jvm.Cond.instanceMethod ({ cls := "RecordCalls$Server", name := "giveRemoved", desc := "()V" } : Jvm.MethodName)) ∈ rc_tb := rc_tm3 (List.mem_of_getElem? (i := 143) rfl) rfl
set_option maxRecDepth 20000 in
theorem T_624 : (Jvm.Cond.code ({ cls := "RecordCalls$Server", name := "giveRemoved", desc := "()V" } : Jvm.MethodName) prog_7_method_15_code (2 : Nat) (Option.none : Option Jvm.ClassFile.FieldType)) ∈ rc_tb := rc_tm3 (List.mem_of_getElem? (i := 144) rfl) rfl
set_option maxRecDepth 20000 in
theorem T_625 : (Jvm.Cond.methodLink "RecordCalls$Server" (214 : Nat) ({ cls := "RecordCalls$KeyMap", name := "remove", desc := "(I)V" } : Jvm.MethodName)) ∈ rc_tb := rc_tm3 (List.mem_of_getElem? (i := 145) rfl) rfl
set_option maxRecDepth 20000 in
theorem T_626 : (Jvm.Cond.instanceMethod ({ cls := "RecordCalls$KeyMap", name := "remove", desc := "(I)V" } : Jvm.MethodName)) ∈ rc_tb := rc_tm3 (List.mem_of_getElem? (i := 146) rfl) rfl
set_option maxRecDepth 20000 in
theorem T_627 : (Jvm.Cond.selects "RecordCalls$KeyMap" ({ cls := "RecordCalls$KeyMap", name := "remove", desc := "(I)V" } : Jvm.MethodName) ({ cls := "RecordCalls$KeyMap", name := "remove", desc := "(I)V" } : Jvm.MethodName)) ∈ rc_tb := rc_tm3 (List.mem_of_getElem? (i := 147) rfl) rfl
set_option maxRecDepth 20000 in
theorem T_628 : (Jvm.Cond.code ({ cls := "RecordCalls$KeyMap", name := "remove", desc := "(I)V" } : Jvm.MethodName) prog_3_method_10_code (4 : Nat) (Option.none : Option Jvm.ClassFile.FieldType)) ∈ rc_tb := rc_tm3 (List.mem_of_getElem? (i := 148) rfl) rfl
set_option maxRecDepth 20000 in
theorem T_629 : (Jvm.Cond.methodLink "RecordCalls$Server" (94 : Nat) ({ cls := "RecordCalls$Replies", name := "keep", desc := "(ILRecordCalls$Row;)V" } : Jvm.MethodName)) ∈ rc_tb := rc_tm3 (List.mem_of_getElem? (i := 149) rfl) rfl
set_option maxRecDepth 20000 in
theorem T_630 : (Jvm.Cond.instanceMethod ({ cls := "RecordCalls$Replies", name := "keep", desc := "(ILRecordCalls$Row;)V" } : Jvm.MethodName)) ∈ rc_tb := rc_tm3 (List.mem_of_getElem? (i := 150) rfl) rfl
set_option maxRecDepth 20000 in
theorem T_631 : (Jvm.Cond.selects "RecordCalls$Replies" ({ cls := "RecordCalls$Replies", name := "keep", desc := "(ILRecordCalls$Row;)V" } : Jvm.MethodName) ({ cls := "RecordCalls$Replies", name := "keep", desc := "(ILRecordCalls$Row;)V" } : Jvm.MethodName)) ∈ rc_tb := rc_tm3 (List.mem_of_getElem? (i := 151) rfl) rfl
set_option maxRecDepth 20000 in
theorem T_632 : (Jvm.Cond.code ({ cls := "RecordCalls$Replies", name := "keep", desc := "(ILRecordCalls$Row;)V" } : Jvm.MethodName) prog_5_method_3_code (4 : Nat) (Option.none : Option Jvm.ClassFile.FieldType)) ∈ rc_tb := rc_tm3 (List.mem_of_getElem? (i := 152) rfl) rfl
set_option maxRecDepth 20000 in
theorem T_633 : (Jvm.Cond.methodLink "RecordCalls$Replies" (29 : Nat) ({ cls := "RecordCalls$Row", name := "clear", desc := "()V" } : Jvm.MethodName)) ∈ rc_tb := rc_tm3 (List.mem_of_getElem? (i := 153) rfl) rfl
set_option maxRecDepth 20000 in
theorem T_634 : (Jvm.Cond.methodLink "RecordCalls$Replies" (32 : Nat) ({ cls := "RecordCalls$Row", name := "size", desc := "()I" } : Jvm.MethodName)) ∈ rc_tb := rc_tm3 (List.mem_of_getElem? (i := 154) rfl) rfl
set_option maxRecDepth 20000 in
theorem T_635 : (Jvm.Cond.methodLink "RecordCalls$Replies" (36 : Nat) ({ cls := "RecordCalls$Row", name := "addPart", desc := "(LRecordCalls$Row;II)V" } : Jvm.MethodName)) ∈ rc_tb := rc_tm3 (List.mem_of_getElem? (i := 155) rfl) rfl
set_option maxRecDepth 20000 in
theorem T_636 : (Jvm.Cond.methodLink "RecordCalls" (132 : Nat) ({ cls := "RecordCalls$Connection", name := "forgetRecord", desc := "()V" } : Jvm.MethodName)) ∈ rc_tb := rc_tm3 (List.mem_of_getElem? (i := 156) rfl) rfl
set_option maxRecDepth 20000 in
theorem T_637 : (Jvm.Cond.instanceMethod ({ cls := "RecordCalls$Connection", name := "forgetRecord", desc := "()V" } : Jvm.MethodName)) ∈ rc_tb := rc_tm3 (List.mem_of_getElem? (i := 157) rfl) rfl
set_option maxRecDepth 20000 in
theorem T_638 : (Jvm.Cond.selects "RecordCalls$Connection" ({ cls := "RecordCalls$Connection", name := "forgetRecord", desc := "()V" } : Jvm.MethodName) ({ cls := "RecordCalls$Connection", name := "forgetRecord", desc := "()V" } : Jvm.MethodName)) ∈ rc_tb := rc_tm3 (List.mem_of_getElem? (i := 158) rfl) rfl
set_option maxRecDepth 20000 in
theorem T_639 : (Jvm.Cond.code ({ cls := "RecordCalls$Connection", name := "forgetRecord", desc := "()V" } : Jvm.MethodName) prog_2_method_4_code (1 : Nat) (Option.none : Option Jvm.ClassFile.FieldType)) ∈ rc_tb := rc_tm3 (List.mem_of_getElem? (i := 159) rfl) rfl
set_option maxRecDepth 20000 in
theorem T_640 : (Jvm.Cond.methodLink "RecordCalls$Connection" (52 : Nat) ({ cls := "RecordCalls$Row", name := "clear", desc := "()V" } : Jvm.MethodName)) ∈ rc_tb := rc_tm3 (List.mem_of_getElem? (i := 160) rfl) rfl
set_option maxRecDepth 20000 in
theorem T_641 : (Jvm.Cond.methodLink "RecordCalls" (135 : Nat) ({ cls := "RecordCalls", name := "addReply", desc := "(LRecordCalls$Row;)I" } : Jvm.MethodName)) ∈ rc_tb := rc_tm3 (List.mem_of_getElem? (i := 161) rfl) rfl
set_option maxRecDepth 20000 in
theorem T_642 : (Jvm.Cond.privateMethod ({ cls := "RecordCalls", name := "addReply", desc := "(LRecordCalls$Row;)I" } : Jvm.MethodName)) ∈ rc_tb := rc_tm3 (List.mem_of_getElem? (i := 162) rfl) rfl
set_option maxRecDepth 20000 in
theorem T_643 : (Jvm.Cond.instanceMethod ({ cls := "RecordCalls", name := "addReply", desc := "(LRecordCalls$Row;)I" } : Jvm.MethodName)) ∈ rc_tb := rc_tm3 (List.mem_of_getElem? (i := 163) rfl) rfl
set_option maxRecDepth 20000 in
theorem T_644 : (Jvm.Cond.code ({ cls := "RecordCalls", name := "addReply", desc := "(LRecordCalls$Row;)I" } : Jvm.MethodName) prog_1_method_24_code (2 : Nat) (Option.some Jvm.ClassFile.FieldType.int)) ∈ rc_tb := rc_tm3 (List.mem_of_getElem? (i := 164) rfl) rfl
set_option maxRecDepth 20000 in
theorem T_645 : (Jvm.Cond.methodLink "RecordCallsLaw" (91 : Nat) ({ cls := "RecordCallsLaw", name := "open", desc := "(LRecordCalls;I[J)I" } : Jvm.MethodName)) ∈ rc_tb := rc_tm3 (List.mem_of_getElem? (i := 165) rfl) rfl
set_option maxRecDepth 20000 in
theorem T_646 : (Jvm.Cond.static ({ cls := "RecordCallsLaw", name := "open", desc := "(LRecordCalls;I[J)I" } : Jvm.MethodName)) ∈ rc_tb := rc_tm3 (List.mem_of_getElem? (i := 166) rfl) rfl
set_option maxRecDepth 20000 in
theorem T_647 : (Jvm.Cond.codeWith ({ cls := "RecordCallsLaw", name := "open", desc := "(LRecordCalls;I[J)I" } : Jvm.MethodName) method_8_code (4 : Nat) (Option.some Jvm.ClassFile.FieldType.int) [((0 : Nat), (16 : Nat), (19 : Nat), (33 : Nat))]) ∈ rc_tb := rc_tm3 (List.mem_of_getElem? (i := 167) rfl) rfl
set_option maxRecDepth 20000 in
theorem T_648 : (Jvm.Cond.methodLink "RecordCallsLaw" (35 : Nat) ({ cls := "RecordCalls", name := "open", desc := "(I)Z" } : Jvm.MethodName)) ∈ rc_tb := rc_tm3 (List.mem_of_getElem? (i := 168) rfl) rfl
set_option maxRecDepth 20000 in
theorem T_649 : (Jvm.Cond.instanceMethod ({ cls := "RecordCalls", name := "open", desc := "(I)Z" } : Jvm.MethodName)) ∈ rc_tb := rc_tm3 (List.mem_of_getElem? (i := 169) rfl) rfl
set_option maxRecDepth 20000 in
theorem T_650 : (Jvm.Cond.selects "RecordCalls" ({ cls := "RecordCalls", name := "open", desc := "(I)Z" } : Jvm.MethodName) ({ cls := "RecordCalls", name := "open", desc := "(I)Z" } : Jvm.MethodName)) ∈ rc_tb := rc_tm3 (List.mem_of_getElem? (i := 170) rfl) rfl
set_option maxRecDepth 20000 in
theorem T_651 : (Jvm.Cond.code ({ cls := "RecordCalls", name := "open", desc := "(I)Z" } : Jvm.MethodName) prog_1_method_8_code (2 : Nat) (Option.some Jvm.ClassFile.FieldType.boolean)) ∈ rc_tb := rc_tm3 (List.mem_of_getElem? (i := 171) rfl) rfl
set_option maxRecDepth 20000 in
theorem T_652 : (Jvm.Cond.methodLink "RecordCalls" (139 : Nat) ({ cls := "RecordCalls$Connection", name := "openAnew", desc := "()Z" } : Jvm.MethodName)) ∈ rc_tb := rc_tm3 (List.mem_of_getElem? (i := 172) rfl) rfl
set_option maxRecDepth 20000 in
theorem T_653 : (Jvm.Cond.instanceMethod ({ cls := "RecordCalls$Connection", name := "openAnew", desc := "()Z" } : Jvm.MethodName)) ∈ rc_tb := rc_tm3 (List.mem_of_getElem? (i := 173) rfl) rfl
set_option maxRecDepth 20000 in
theorem T_654 : (Jvm.Cond.selects "RecordCalls$Connection" ({ cls := "RecordCalls$Connection", name := "openAnew", desc := "()Z" } : Jvm.MethodName) ({ cls := "RecordCalls$Connection", name := "openAnew", desc := "()Z" } : Jvm.MethodName)) ∈ rc_tb := rc_tm3 (List.mem_of_getElem? (i := 174) rfl) rfl
set_option maxRecDepth 20000 in
theorem T_655 : (Jvm.Cond.code ({ cls := "RecordCalls$Connection", name := "openAnew", desc := "()Z" } : Jvm.MethodName) prog_2_method_5_code (2 : Nat) (Option.some Jvm.ClassFile.FieldType.boolean)) ∈ rc_tb := rc_tm3 (List.mem_of_getElem? (i := 175) rfl) rfl
set_option maxRecDepth 20000 in
theorem T_656 : (Jvm.Cond.methodLink "RecordCalls$Connection" (55 : Nat) ({ cls := "RecordCalls$Connection", name := "forgetRecord", desc := "()V" } : Jvm.MethodName)) ∈ rc_tb := rc_tm3 (List.mem_of_getElem? (i := 176) rfl) rfl
set_option maxRecDepth 20000 in
theorem T_657 : (Jvm.Cond.methodLink "RecordCallsLaw" (94 : Nat) ({ cls := "RecordCallsLaw", name := "length", desc := "(LRecordCalls;I[J)I" } : Jvm.MethodName)) ∈ rc_tb := rc_tm3 (List.mem_of_getElem? (i := 177) rfl) rfl
set_option maxRecDepth 20000 in
theorem T_658 : (Jvm.Cond.static ({ cls := "RecordCallsLaw", name := "length", desc := "(LRecordCalls;I[J)I" } : Jvm.MethodName)) ∈ rc_tb := rc_tm3 (List.mem_of_getElem? (i := 178) rfl) rfl
set_option maxRecDepth 20000 in
theorem T_659 : (Jvm.Cond.codeWith ({ cls := "RecordCallsLaw", name := "length", desc := "(LRecordCalls;I[J)I" } : Jvm.MethodName) method_9_code (4 : Nat) (Option.some Jvm.ClassFile.FieldType.int) [((0 : Nat), (9 : Nat), (12 : Nat), (33 : Nat))]) ∈ rc_tb := rc_tm3 (List.mem_of_getElem? (i := 179) rfl) rfl
set_option maxRecDepth 20000 in
theorem T_660 : (Jvm.Cond.methodLink "RecordCallsLaw" (39 : Nat) ({ cls := "RecordCalls", name := "length", desc := "(I)I" } : Jvm.MethodName)) ∈ rc_tb := rc_tm3 (List.mem_of_getElem? (i := 180) rfl) rfl
set_option maxRecDepth 20000 in
theorem T_661 : (Jvm.Cond.instanceMethod ({ cls := "RecordCalls", name := "length", desc := "(I)I" } : Jvm.MethodName)) ∈ rc_tb := rc_tm3 (List.mem_of_getElem? (i := 181) rfl) rfl
set_option maxRecDepth 20000 in
theorem T_662 : (Jvm.Cond.selects "RecordCalls" ({ cls := "RecordCalls", name := "length", desc := "(I)I" } : Jvm.MethodName) ({ cls := "RecordCalls", name := "length", desc := "(I)I" } : Jvm.MethodName)) ∈ rc_tb := rc_tm3 (List.mem_of_getElem? (i := 182) rfl) rfl
set_option maxRecDepth 20000 in
theorem T_663 : (Jvm.Cond.code ({ cls := "RecordCalls", name := "length", desc := "(I)I" } : Jvm.MethodName) prog_1_method_9_code (2 : Nat) (Option.some Jvm.ClassFile.FieldType.int)) ∈ rc_tb := rc_tm3 (List.mem_of_getElem? (i := 183) rfl) rfl
set_option maxRecDepth 20000 in
theorem T_664 : (Jvm.Cond.methodLink "RecordCallsLaw" (97 : Nat) ({ cls := "RecordCallsLaw", name := "byteAt", desc := "(LRecordCalls;II[J)I" } : Jvm.MethodName)) ∈ rc_tb := rc_tm3 (List.mem_of_getElem? (i := 184) rfl) rfl
set_option maxRecDepth 20000 in
theorem T_665 : (Jvm.Cond.static ({ cls := "RecordCallsLaw", name := "byteAt", desc := "(LRecordCalls;II[J)I" } : Jvm.MethodName)) ∈ rc_tb := rc_tm3 (List.mem_of_getElem? (i := 185) rfl) rfl
set_option maxRecDepth 20000 in
theorem T_666 : (Jvm.Cond.codeWith ({ cls := "RecordCallsLaw", name := "byteAt", desc := "(LRecordCalls;II[J)I" } : Jvm.MethodName) method_10_code (5 : Nat) (Option.some Jvm.ClassFile.FieldType.int) [((0 : Nat), (10 : Nat), (13 : Nat), (33 : Nat))]) ∈ rc_tb := rc_tm3 (List.mem_of_getElem? (i := 186) rfl) rfl
set_option maxRecDepth 20000 in
theorem T_667 : (Jvm.Cond.methodLink "RecordCallsLaw" (42 : Nat) ({ cls := "RecordCalls", name := "byteAt", desc := "(II)I" } : Jvm.MethodName)) ∈ rc_tb := rc_tm3 (List.mem_of_getElem? (i := 187) rfl) rfl
set_option maxRecDepth 20000 in
theorem T_668 : (Jvm.Cond.instanceMethod ({ cls := "RecordCalls", name := "byteAt", desc := "(II)I" } : Jvm.MethodName)) ∈ rc_tb := rc_tm3 (List.mem_of_getElem? (i := 188) rfl) rfl
set_option maxRecDepth 20000 in
theorem T_669 : (Jvm.Cond.selects "RecordCalls" ({ cls := "RecordCalls", name := "byteAt", desc := "(II)I" } : Jvm.MethodName) ({ cls := "RecordCalls", name := "byteAt", desc := "(II)I" } : Jvm.MethodName)) ∈ rc_tb := rc_tm3 (List.mem_of_getElem? (i := 189) rfl) rfl
set_option maxRecDepth 20000 in
theorem T_670 : (Jvm.Cond.code ({ cls := "RecordCalls", name := "byteAt", desc := "(II)I" } : Jvm.MethodName) prog_1_method_10_code (3 : Nat) (Option.some Jvm.ClassFile.FieldType.int)) ∈ rc_tb := rc_tm3 (List.mem_of_getElem? (i := 190) rfl) rfl
set_option maxRecDepth 20000 in
theorem T_671 : (Jvm.Cond.methodLink "RecordCallsLaw" (101 : Nat) ({ cls := "RecordCallsLaw", name := "word", desc := "(LRecordCalls;II[J)I" } : Jvm.MethodName)) ∈ rc_tb := rc_tm3 (List.mem_of_getElem? (i := 191) rfl) rfl
set_option maxRecDepth 20000 in
theorem T_672 : (Jvm.Cond.static ({ cls := "RecordCallsLaw", name := "word", desc := "(LRecordCalls;II[J)I" } : Jvm.MethodName)) ∈ rc_tb := rc_tm3 (List.mem_of_getElem? (i := 192) rfl) rfl
set_option maxRecDepth 20000 in
theorem T_673 : (Jvm.Cond.codeWith ({ cls := "RecordCallsLaw", name := "word", desc := "(LRecordCalls;II[J)I" } : Jvm.MethodName) method_11_code (5 : Nat) (Option.some Jvm.ClassFile.FieldType.int) [((0 : Nat), (10 : Nat), (13 : Nat), (33 : Nat))]) ∈ rc_tb := rc_tm3 (List.mem_of_getElem? (i := 193) rfl) rfl
set_option maxRecDepth 20000 in
theorem T_674 : (Jvm.Cond.methodLink "RecordCallsLaw" (46 : Nat) ({ cls := "RecordCalls", name := "word", desc := "(II)I" } : Jvm.MethodName)) ∈ rc_tb := rc_tm3 (List.mem_of_getElem? (i := 194) rfl) rfl
set_option maxRecDepth 20000 in
theorem T_675 : (Jvm.Cond.instanceMethod ({ cls := "RecordCalls", name := "word", desc := "(II)I" } : Jvm.MethodName)) ∈ rc_tb := rc_tm3 (List.mem_of_getElem? (i := 195) rfl) rfl
set_option maxRecDepth 20000 in
theorem T_676 : (Jvm.Cond.selects "RecordCalls" ({ cls := "RecordCalls", name := "word", desc := "(II)I" } : Jvm.MethodName) ({ cls := "RecordCalls", name := "word", desc := "(II)I" } : Jvm.MethodName)) ∈ rc_tb := rc_tm3 (List.mem_of_getElem? (i := 196) rfl) rfl
set_option maxRecDepth 20000 in
theorem T_677 : (Jvm.Cond.code ({ cls := "RecordCalls", name := "word", desc := "(II)I" } : Jvm.MethodName) prog_1_method_11_code (3 : Nat) (Option.some Jvm.ClassFile.FieldType.int)) ∈ rc_tb := rc_tm3 (List.mem_of_getElem? (i := 197) rfl) rfl
set_option maxRecDepth 20000 in
theorem T_678 : (Jvm.Cond.methodLink "RecordCalls" (143 : Nat) ({ cls := "RecordCalls$Row", name := "wordAt", desc := "(I)I" } : Jvm.MethodName)) ∈ rc_tb := rc_tm3 (List.mem_of_getElem? (i := 198) rfl) rfl
set_option maxRecDepth 20000 in
theorem T_679 : (Jvm.Cond.methodLink "RecordCallsLaw" (104 : Nat) ({ cls := "RecordCallsLaw", name := "says", desc := "(LRecordCalls;II[J)I" } : Jvm.MethodName)) ∈ rc_tb := rc_tm3 (List.mem_of_getElem? (i := 199) rfl) rfl
set_option maxRecDepth 20000 in
theorem T_680 : (Jvm.Cond.static ({ cls := "RecordCallsLaw", name := "says", desc := "(LRecordCalls;II[J)I" } : Jvm.MethodName)) ∈ rc_tb := rc_tm3 (List.mem_of_getElem? (i := 200) rfl) rfl
set_option maxRecDepth 20000 in
theorem T_681 : (Jvm.Cond.codeWith ({ cls := "RecordCallsLaw", name := "says", desc := "(LRecordCalls;II[J)I" } : Jvm.MethodName) method_12_code (5 : Nat) (Option.some Jvm.ClassFile.FieldType.int) [((0 : Nat), (10 : Nat), (13 : Nat), (33 : Nat))]) ∈ rc_tb := rc_tm3 (List.mem_of_getElem? (i := 201) rfl) rfl
set_option maxRecDepth 20000 in
theorem T_682 : (Jvm.Cond.methodLink "RecordCallsLaw" (49 : Nat) ({ cls := "RecordCalls", name := "says", desc := "(II)I" } : Jvm.MethodName)) ∈ rc_tb := rc_tm3 (List.mem_of_getElem? (i := 202) rfl) rfl
set_option maxRecDepth 20000 in
theorem T_683 : (Jvm.Cond.instanceMethod ({ cls := "RecordCalls", name := "says", desc := "(II)I" } : Jvm.MethodName)) ∈ rc_tb := rc_tm3 (List.mem_of_getElem? (i := 203) rfl) rfl
set_option maxRecDepth 20000 in
theorem T_684 : (Jvm.Cond.selects "RecordCalls" ({ cls := "RecordCalls", name := "says", desc := "(II)I" } : Jvm.MethodName) ({ cls := "RecordCalls", name := "says", desc := "(II)I" } : Jvm.MethodName)) ∈ rc_tb := rc_tm3 (List.mem_of_getElem? (i := 204) rfl) rfl
set_option maxRecDepth 20000 in
theorem T_685 : (Jvm.Cond.code ({ cls := "RecordCalls", name := "says", desc := "(II)I" } : Jvm.MethodName) prog_1_method_12_code (4 : Nat) (Option.some Jvm.ClassFile.FieldType.int)) ∈ rc_tb := rc_tm3 (List.mem_of_getElem? (i := 205) rfl) rfl
set_option maxRecDepth 20000 in
theorem T_686 : (Jvm.Cond.methodLink "RecordCalls" (146 : Nat) ({ cls := "RecordCalls", name := "isJoined", desc := "(LRecordCalls$Row;)Z" } : Jvm.MethodName)) ∈ rc_tb := rc_tm3 (List.mem_of_getElem? (i := 206) rfl) rfl
set_option maxRecDepth 20000 in
theorem T_687 : (Jvm.Cond.privateMethod ({ cls := "RecordCalls", name := "isJoined", desc := "(LRecordCalls$Row;)Z" } : Jvm.MethodName)) ∈ rc_tb := rc_tm3 (List.mem_of_getElem? (i := 207) rfl) rfl
set_option maxRecDepth 20000 in
theorem T_688 : (Jvm.Cond.instanceMethod ({ cls := "RecordCalls", name := "isJoined", desc := "(LRecordCalls$Row;)Z" } : Jvm.MethodName)) ∈ rc_tb := rc_tm3 (List.mem_of_getElem? (i := 208) rfl) rfl
set_option maxRecDepth 20000 in
theorem T_689 : (Jvm.Cond.code ({ cls := "RecordCalls", name := "isJoined", desc := "(LRecordCalls$Row;)Z" } : Jvm.MethodName) prog_1_method_26_code (6 : Nat) (Option.some Jvm.ClassFile.FieldType.boolean)) ∈ rc_tb := rc_tm3 (List.mem_of_getElem? (i := 209) rfl) rfl
set_option maxRecDepth 20000 in
theorem T_690 : (Jvm.Cond.constant "RecordCalls" (183 : Nat) (2147483647 : Int32)) ∈ rc_tb := rc_tm3 (List.mem_of_getElem? (i := 210) rfl) rfl
set_option maxRecDepth 20000 in
theorem T_691 : (Jvm.Cond.methodLink "RecordCalls" (150 : Nat) ({ cls := "RecordCalls", name := "saidBy", desc := "(LRecordCalls$Row;)I" } : Jvm.MethodName)) ∈ rc_tb := rc_tm3 (List.mem_of_getElem? (i := 211) rfl) rfl
set_option maxRecDepth 20000 in
theorem T_692 : (Jvm.Cond.static ({ cls := "RecordCalls", name := "saidBy", desc := "(LRecordCalls$Row;)I" } : Jvm.MethodName)) ∈ rc_tb := rc_tm3 (List.mem_of_getElem? (i := 212) rfl) rfl
set_option maxRecDepth 20000 in
theorem T_693 : (Jvm.Cond.code ({ cls := "RecordCalls", name := "saidBy", desc := "(LRecordCalls$Row;)I" } : Jvm.MethodName) prog_1_method_27_code (1 : Nat) (Option.some Jvm.ClassFile.FieldType.int)) ∈ rc_tb := rc_tm3 (List.mem_of_getElem? (i := 213) rfl) rfl
set_option maxRecDepth 20000 in
theorem T_694 : (Jvm.Cond.methodLink "RecordCalls" (184 : Nat) ({ cls := "RecordCalls", name := "saidByAccepted", desc := "(LRecordCalls$Row;)I" } : Jvm.MethodName)) ∈ rc_tb := rc_tm3 (List.mem_of_getElem? (i := 214) rfl) rfl
set_option maxRecDepth 20000 in
theorem T_695 : (Jvm.Cond.static ({ cls := "RecordCalls", name := "saidByAccepted", desc := "(LRecordCalls$Row;)I" } : Jvm.MethodName)) ∈ rc_tb := rc_tm3 (List.mem_of_getElem? (i := 215) rfl) rfl
set_option maxRecDepth 20000 in
theorem T_696 : (Jvm.Cond.code ({ cls := "RecordCalls", name := "saidByAccepted", desc := "(LRecordCalls$Row;)I" } : Jvm.MethodName) prog_1_method_28_code (5 : Nat) (Option.some Jvm.ClassFile.FieldType.int)) ∈ rc_tb := rc_tm3 (List.mem_of_getElem? (i := 216) rfl) rfl
set_option maxRecDepth 20000 in
theorem T_697 : (Jvm.Cond.methodLink "RecordCalls" (187 : Nat) ({ cls := "RecordCalls", name := "saidByRefused", desc := "(LRecordCalls$Row;)I" } : Jvm.MethodName)) ∈ rc_tb := rc_tm3 (List.mem_of_getElem? (i := 217) rfl) rfl
set_option maxRecDepth 20000 in
theorem T_698 : (Jvm.Cond.static ({ cls := "RecordCalls", name := "saidByRefused", desc := "(LRecordCalls$Row;)I" } : Jvm.MethodName)) ∈ rc_tb := rc_tm3 (List.mem_of_getElem? (i := 218) rfl) rfl
set_option maxRecDepth 20000 in
theorem T_699 : (Jvm.Cond.code ({ cls := "RecordCalls", name := "saidByRefused", desc := "(LRecordCalls$Row;)I" } : Jvm.MethodName) prog_1_method_29_code (3 : Nat) (Option.some Jvm.ClassFile.FieldType.int)) ∈ rc_tb := rc_tm3 (List.mem_of_getElem? (i := 219) rfl) rfl
set_option maxRecDepth 20000 in
theorem T_700 : (Jvm.Cond.methodLink "RecordCallsLaw" (117 : Nat) ({ cls := "RecordCallsLaw", name := "count", desc := "(LRecordCalls;I[J)I" } : Jvm.MethodName)) ∈ rc_tb := rc_tm3 (List.mem_of_getElem? (i := 220) rfl) rfl
set_option maxRecDepth 20000 in
theorem T_701 : (Jvm.Cond.static ({ cls := "RecordCallsLaw", name := "count", desc := "(LRecordCalls;I[J)I" } : Jvm.MethodName)) ∈ rc_tb := rc_tm3 (List.mem_of_getElem? (i := 221) rfl) rfl
set_option maxRecDepth 20000 in
theorem T_702 : (Jvm.Cond.codeWith ({ cls := "RecordCallsLaw", name := "count", desc := "(LRecordCalls;I[J)I" } : Jvm.MethodName) method_13_code (4 : Nat) (Option.some Jvm.ClassFile.FieldType.int) [((0 : Nat), (9 : Nat), (12 : Nat), (19 : Nat))]) ∈ rc_tb := rc_tm3 (List.mem_of_getElem? (i := 222) rfl) rfl
set_option maxRecDepth 20000 in
theorem T_703 : (Jvm.Cond.methodLink "RecordCallsLaw" (52 : Nat) ({ cls := "RecordCalls", name := "count", desc := "(I)I" } : Jvm.MethodName)) ∈ rc_tb := rc_tm3 (List.mem_of_getElem? (i := 223) rfl) rfl
set_option maxRecDepth 20000 in
theorem T_704 : (Jvm.Cond.instanceMethod ({ cls := "RecordCalls", name := "count", desc := "(I)I" } : Jvm.MethodName)) ∈ rc_tb := rc_tm3 (List.mem_of_getElem? (i := 224) rfl) rfl
set_option maxRecDepth 20000 in
theorem T_705 : (Jvm.Cond.selects "RecordCalls" ({ cls := "RecordCalls", name := "count", desc := "(I)I" } : Jvm.MethodName) ({ cls := "RecordCalls", name := "count", desc := "(I)I" } : Jvm.MethodName)) ∈ rc_tb := rc_tm3 (List.mem_of_getElem? (i := 225) rfl) rfl
set_option maxRecDepth 20000 in
theorem T_706 : (Jvm.Cond.code ({ cls := "RecordCalls", name := "count", desc := "(I)I" } : Jvm.MethodName) prog_1_method_15_code (3 : Nat) (Option.some Jvm.ClassFile.FieldType.int)) ∈ rc_tb := rc_tm3 (List.mem_of_getElem? (i := 226) rfl) rfl
set_option maxRecDepth 20000 in
theorem T_707 : (Jvm.Cond.methodLink "RecordCalls" (166 : Nat) ({ cls := "RecordCalls$KeyMap", name := "size", desc := "()I" } : Jvm.MethodName)) ∈ rc_tb := rc_tm3 (List.mem_of_getElem? (i := 227) rfl) rfl
set_option maxRecDepth 20000 in
theorem T_708 : (Jvm.Cond.methodLink "RecordCalls" (176 : Nat) ({ cls := "RecordCalls$Connection", name := "bytesWaiting", desc := "()I" } : Jvm.MethodName)) ∈ rc_tb := rc_tm3 (List.mem_of_getElem? (i := 228) rfl) rfl
set_option maxRecDepth 20000 in
theorem T_709 : (Jvm.Cond.instanceMethod ({ cls := "RecordCalls$Connection", name := "bytesWaiting", desc := "()I" } : Jvm.MethodName)) ∈ rc_tb := rc_tm3 (List.mem_of_getElem? (i := 229) rfl) rfl
set_option maxRecDepth 20000 in
theorem T_710 : (Jvm.Cond.selects "RecordCalls$Connection" ({ cls := "RecordCalls$Connection", name := "bytesWaiting", desc := "()I" } : Jvm.MethodName) ({ cls := "RecordCalls$Connection", name := "bytesWaiting", desc := "()I" } : Jvm.MethodName)) ∈ rc_tb := rc_tm3 (List.mem_of_getElem? (i := 230) rfl) rfl
set_option maxRecDepth 20000 in
theorem T_711 : (Jvm.Cond.code ({ cls := "RecordCalls$Connection", name := "bytesWaiting", desc := "()I" } : Jvm.MethodName) prog_2_method_6_code (1 : Nat) (Option.some Jvm.ClassFile.FieldType.int)) ∈ rc_tb := rc_tm3 (List.mem_of_getElem? (i := 231) rfl) rfl
set_option maxRecDepth 20000 in
theorem T_712 : (Jvm.Cond.classLink "RecordCallsLaw" (56 : Nat) "RecordCallsModel") ∈ rc_tb := rc_tm3 (List.mem_of_getElem? (i := 232) rfl) rfl
set_option maxRecDepth 20000 in
theorem T_713 : (Jvm.Cond.instantiable "RecordCallsModel" (34 : Nat)) ∈ rc_tb := rc_tm3 (List.mem_of_getElem? (i := 233) rfl) rfl
set_option maxRecDepth 20000 in
theorem T_714 : (Jvm.Cond.methodLink "RecordCallsLaw" (58 : Nat) ({ cls := "RecordCallsModel", name := "<init>", desc := "()V" } : Jvm.MethodName)) ∈ rc_tb := rc_tm3 (List.mem_of_getElem? (i := 234) rfl) rfl
set_option maxRecDepth 20000 in
theorem T_715 : (Jvm.Cond.instanceMethod ({ cls := "RecordCallsModel", name := "<init>", desc := "()V" } : Jvm.MethodName)) ∈ rc_tb := rc_tm3 (List.mem_of_getElem? (i := 235) rfl) rfl
set_option maxRecDepth 20000 in
theorem T_716 : (Jvm.Cond.code ({ cls := "RecordCallsModel", name := "<init>", desc := "()V" } : Jvm.MethodName) prog_9_method_1_code (1 : Nat) (Option.none : Option Jvm.ClassFile.FieldType)) ∈ rc_tb := rc_tm3 (List.mem_of_getElem? (i := 236) rfl) rfl
set_option maxRecDepth 20000 in
theorem T_717 : (Jvm.Cond.methodLink "RecordCallsModel" (1 : Nat) ({ cls := "java/lang/Object", name := "<init>", desc := "()V" } : Jvm.MethodName)) ∈ rc_tb := rc_tm3 (List.mem_of_getElem? (i := 237) rfl) rfl
set_option maxRecDepth 20000 in
theorem T_718 : (Jvm.Cond.constant "RecordCallsModel" (13 : Nat) (102400 : Int32)) ∈ rc_tb := rc_tm3 (List.mem_of_getElem? (i := 238) rfl) rfl
set_option maxRecDepth 20000 in
theorem T_719 : (Jvm.Cond.fieldLink "RecordCallsModel" (74 : Nat) "RecordCallsModel" "thrown" "I") ∈ rc_tb := rc_tm3 (List.mem_of_getElem? (i := 239) rfl) rfl
set_option maxRecDepth 20000 in
theorem T_720 : (Jvm.Cond.fieldLink "RecordCallsModel" (7 : Nat) "RecordCallsModel" "tape" "[I") ∈ rc_tb := rc_tm4 (List.mem_of_getElem? (i := 0) rfl) rfl
set_option maxRecDepth 20000 in
theorem T_721 : (Jvm.Cond.fieldLink "RecordCallsModel" (93 : Nat) "RecordCallsModel" "tapeSize" "I") ∈ rc_tb := rc_tm4 (List.mem_of_getElem? (i := 1) rfl) rfl
set_option maxRecDepth 20000 in
theorem T_722 : (Jvm.Cond.fieldLink "RecordCallsModel" (14 : Nat) "RecordCallsModel" "slots" "[B") ∈ rc_tb := rc_tm4 (List.mem_of_getElem? (i := 2) rfl) rfl
set_option maxRecDepth 20000 in
theorem T_723 : (Jvm.Cond.fieldLink "RecordCallsModel" (18 : Nat) "RecordCallsModel" "lengths" "[I") ∈ rc_tb := rc_tm4 (List.mem_of_getElem? (i := 3) rfl) rfl
set_option maxRecDepth 20000 in
theorem T_724 : (Jvm.Cond.fieldLink "RecordCallsModel" (78 : Nat) "RecordCallsModel" "made" "I") ∈ rc_tb := rc_tm4 (List.mem_of_getElem? (i := 4) rfl) rfl
set_option maxRecDepth 20000 in
theorem T_725 : (Jvm.Cond.fieldLink "RecordCallsModel" (21 : Nat) "RecordCallsModel" "pushed" "[B") ∈ rc_tb := rc_tm4 (List.mem_of_getElem? (i := 5) rfl) rfl
set_option maxRecDepth 20000 in
theorem T_726 : (Jvm.Cond.fieldLink "RecordCallsModel" (24 : Nat) "RecordCallsModel" "keyBytes" "[B") ∈ rc_tb := rc_tm4 (List.mem_of_getElem? (i := 6) rfl) rfl
set_option maxRecDepth 20000 in
theorem T_727 : (Jvm.Cond.fieldLink "RecordCallsModel" (27 : Nat) "RecordCallsModel" "keySizes" "[I") ∈ rc_tb := rc_tm4 (List.mem_of_getElem? (i := 7) rfl) rfl
set_option maxRecDepth 20000 in
theorem T_728 : (Jvm.Cond.fieldLink "RecordCallsModel" (30 : Nat) "RecordCallsModel" "values" "[J") ∈ rc_tb := rc_tm4 (List.mem_of_getElem? (i := 8) rfl) rfl
set_option maxRecDepth 20000 in
theorem T_729 : (Jvm.Cond.fieldLink "RecordCallsModel" (188 : Nat) "RecordCallsModel" "keys" "I") ∈ rc_tb := rc_tm4 (List.mem_of_getElem? (i := 9) rfl) rfl
set_option maxRecDepth 20000 in
theorem T_730 : (Jvm.Cond.fieldLink "RecordCallsModel" (34 : Nat) "RecordCallsModel" "records" "[B") ∈ rc_tb := rc_tm4 (List.mem_of_getElem? (i := 10) rfl) rfl
set_option maxRecDepth 20000 in
theorem T_731 : (Jvm.Cond.fieldLink "RecordCallsModel" (37 : Nat) "RecordCallsModel" "sizes" "[I") ∈ rc_tb := rc_tm4 (List.mem_of_getElem? (i := 11) rfl) rfl
set_option maxRecDepth 20000 in
theorem T_732 : (Jvm.Cond.fieldLink "RecordCallsModel" (40 : Nat) "RecordCallsModel" "wordSizes" "[I") ∈ rc_tb := rc_tm4 (List.mem_of_getElem? (i := 12) rfl) rfl
set_option maxRecDepth 20000 in
theorem T_733 : (Jvm.Cond.fieldLink "RecordCallsModel" (43 : Nat) "RecordCallsModel" "words" "[I") ∈ rc_tb := rc_tm4 (List.mem_of_getElem? (i := 13) rfl) rfl
set_option maxRecDepth 20000 in
theorem T_734 : (Jvm.Cond.fieldLink "RecordCallsModel" (46 : Nat) "RecordCallsModel" "left" "[I") ∈ rc_tb := rc_tm4 (List.mem_of_getElem? (i := 14) rfl) rfl
set_option maxRecDepth 20000 in
theorem T_735 : (Jvm.Cond.fieldLink "RecordCallsModel" (49 : Nat) "RecordCallsModel" "last" "[Z") ∈ rc_tb := rc_tm4 (List.mem_of_getElem? (i := 15) rfl) rfl
set_option maxRecDepth 20000 in
theorem T_736 : (Jvm.Cond.fieldLink "RecordCallsModel" (53 : Nat) "RecordCallsModel" "inside" "[Z") ∈ rc_tb := rc_tm4 (List.mem_of_getElem? (i := 16) rfl) rfl
set_option maxRecDepth 20000 in
theorem T_737 : (Jvm.Cond.fieldLink "RecordCallsModel" (56 : Nat) "RecordCallsModel" "broken" "[Z") ∈ rc_tb := rc_tm4 (List.mem_of_getElem? (i := 17) rfl) rfl
set_option maxRecDepth 20000 in
theorem T_738 : (Jvm.Cond.fieldLink "RecordCallsModel" (59 : Nat) "RecordCallsModel" "replyNumber" "[I") ∈ rc_tb := rc_tm4 (List.mem_of_getElem? (i := 18) rfl) rfl
set_option maxRecDepth 20000 in
theorem T_739 : (Jvm.Cond.fieldLink "RecordCallsModel" (62 : Nat) "RecordCallsModel" "replySize" "[I") ∈ rc_tb := rc_tm4 (List.mem_of_getElem? (i := 19) rfl) rfl
set_option maxRecDepth 20000 in
theorem T_740 : (Jvm.Cond.fieldLink "RecordCallsModel" (65 : Nat) "RecordCallsModel" "replyBytes" "[B") ∈ rc_tb := rc_tm4 (List.mem_of_getElem? (i := 20) rfl) rfl
set_option maxRecDepth 20000 in
theorem T_741 : (Jvm.Cond.fieldLink "RecordCallsModel" (68 : Nat) "RecordCallsModel" "replies" "[I") ∈ rc_tb := rc_tm4 (List.mem_of_getElem? (i := 21) rfl) rfl
set_option maxRecDepth 20000 in
theorem T_742 : (Jvm.Cond.fieldLink "RecordCallsModel" (175 : Nat) "RecordCallsModel" "done" "I") ∈ rc_tb := rc_tm4 (List.mem_of_getElem? (i := 22) rfl) rfl
set_option maxRecDepth 20000 in
theorem T_743 : (Jvm.Cond.fieldLink "RecordCallsModel" (150 : Nat) "RecordCallsModel" "repeated" "I") ∈ rc_tb := rc_tm4 (List.mem_of_getElem? (i := 23) rfl) rfl
set_option maxRecDepth 20000 in
theorem T_744 : (Jvm.Cond.fieldLink "RecordCallsModel" (147 : Nat) "RecordCallsModel" "bad" "I") ∈ rc_tb := rc_tm4 (List.mem_of_getElem? (i := 24) rfl) rfl
set_option maxRecDepth 20000 in
theorem T_745 : (Jvm.Cond.fieldLink "RecordCallsModel" (109 : Nat) "RecordCallsModel" "of" "I") ∈ rc_tb := rc_tm4 (List.mem_of_getElem? (i := 25) rfl) rfl
set_option maxRecDepth 20000 in
theorem T_746 : (Jvm.Cond.fieldLink "RecordCallsModel" (116 : Nat) "RecordCallsModel" "at" "I") ∈ rc_tb := rc_tm4 (List.mem_of_getElem? (i := 26) rfl) rfl
set_option maxRecDepth 20000 in
theorem T_747 : (Jvm.Cond.fieldLink "RecordCallsModel" (119 : Nat) "RecordCallsModel" "right" "Z") ∈ rc_tb := rc_tm4 (List.mem_of_getElem? (i := 27) rfl) rfl
set_option maxRecDepth 20000 in
theorem T_748 : (Jvm.Cond.fieldLink "RecordCallsModel" (134 : Nat) "RecordCallsModel" "keyAt" "I") ∈ rc_tb := rc_tm4 (List.mem_of_getElem? (i := 28) rfl) rfl
set_option maxRecDepth 20000 in
theorem T_749 : (Jvm.Cond.fieldLink "RecordCallsModel" (137 : Nat) "RecordCallsModel" "keySize" "I") ∈ rc_tb := rc_tm4 (List.mem_of_getElem? (i := 29) rfl) rfl
set_option maxRecDepth 20000 in
theorem T_750 : (Jvm.Cond.fieldLink "RecordCallsModel" (71 : Nat) "RecordCallsModel" "out" "[B") ∈ rc_tb := rc_tm4 (List.mem_of_getElem? (i := 30) rfl) rfl
set_option maxRecDepth 20000 in
theorem T_751 : (Jvm.Cond.fieldLink "RecordCallsModel" (140 : Nat) "RecordCallsModel" "outSize" "I") ∈ rc_tb := rc_tm4 (List.mem_of_getElem? (i := 31) rfl) rfl
set_option maxRecDepth 20000 in
theorem T_752 : (Jvm.Cond.fieldLink "RecordCallsModel" (181 : Nat) "RecordCallsModel" "taken" "I") ∈ rc_tb := rc_tm4 (List.mem_of_getElem? (i := 32) rfl) rfl
set_option maxRecDepth 20000 in
theorem T_753 : (Jvm.Cond.lays "RecordCallsModel" "RecordCallsModel" "thrown" "I") ∈ rc_tb := rc_tm4 (List.mem_of_getElem? (i := 33) rfl) rfl
set_option maxRecDepth 20000 in
theorem T_754 : (Jvm.Cond.soleField "RecordCallsModel" "thrown") ∈ rc_tb := rc_tm4 (List.mem_of_getElem? (i := 34) rfl) rfl
set_option maxRecDepth 20000 in
theorem T_755 : (Jvm.Cond.laysFinal "RecordCallsModel" "RecordCallsModel" "tape" "[I") ∈ rc_tb := rc_tm4 (List.mem_of_getElem? (i := 35) rfl) rfl
set_option maxRecDepth 20000 in
theorem T_756 : (Jvm.Cond.soleField "RecordCallsModel" "tape") ∈ rc_tb := rc_tm4 (List.mem_of_getElem? (i := 36) rfl) rfl
set_option maxRecDepth 20000 in
theorem T_757 : (Jvm.Cond.lays "RecordCallsModel" "RecordCallsModel" "tapeSize" "I") ∈ rc_tb := rc_tm4 (List.mem_of_getElem? (i := 37) rfl) rfl
set_option maxRecDepth 20000 in
theorem T_758 : (Jvm.Cond.soleField "RecordCallsModel" "tapeSize") ∈ rc_tb := rc_tm4 (List.mem_of_getElem? (i := 38) rfl) rfl
set_option maxRecDepth 20000 in
theorem T_759 : (Jvm.Cond.laysFinal "RecordCallsModel" "RecordCallsModel" "slots" "[B") ∈ rc_tb := rc_tm4 (List.mem_of_getElem? (i := 39) rfl) rfl
set_option maxRecDepth 20000 in
theorem T_760 : (Jvm.Cond.soleField "RecordCallsModel" "slots") ∈ rc_tb := rc_tm4 (List.mem_of_getElem? (i := 40) rfl) rfl
set_option maxRecDepth 20000 in
theorem T_761 : (Jvm.Cond.laysFinal "RecordCallsModel" "RecordCallsModel" "lengths" "[I") ∈ rc_tb := rc_tm4 (List.mem_of_getElem? (i := 41) rfl) rfl
set_option maxRecDepth 20000 in
theorem T_762 : (Jvm.Cond.soleField "RecordCallsModel" "lengths") ∈ rc_tb := rc_tm4 (List.mem_of_getElem? (i := 42) rfl) rfl
set_option maxRecDepth 20000 in
theorem T_763 : (Jvm.Cond.lays "RecordCallsModel" "RecordCallsModel" "made" "I") ∈ rc_tb := rc_tm4 (List.mem_of_getElem? (i := 43) rfl) rfl
set_option maxRecDepth 20000 in
theorem T_764 : (Jvm.Cond.soleField "RecordCallsModel" "made") ∈ rc_tb := rc_tm4 (List.mem_of_getElem? (i := 44) rfl) rfl
set_option maxRecDepth 20000 in
theorem T_765 : (Jvm.Cond.laysFinal "RecordCallsModel" "RecordCallsModel" "pushed" "[B") ∈ rc_tb := rc_tm4 (List.mem_of_getElem? (i := 45) rfl) rfl
set_option maxRecDepth 20000 in
theorem T_766 : (Jvm.Cond.soleField "RecordCallsModel" "pushed") ∈ rc_tb := rc_tm4 (List.mem_of_getElem? (i := 46) rfl) rfl
set_option maxRecDepth 20000 in
theorem T_767 : (Jvm.Cond.laysFinal "RecordCallsModel" "RecordCallsModel" "keyBytes" "[B") ∈ rc_tb := rc_tm4 (List.mem_of_getElem? (i := 47) rfl) rfl
set_option maxRecDepth 20000 in
theorem T_768 : (Jvm.Cond.soleField "RecordCallsModel" "keyBytes") ∈ rc_tb := rc_tm4 (List.mem_of_getElem? (i := 48) rfl) rfl
set_option maxRecDepth 20000 in
theorem T_769 : (Jvm.Cond.laysFinal "RecordCallsModel" "RecordCallsModel" "keySizes" "[I") ∈ rc_tb := rc_tm4 (List.mem_of_getElem? (i := 49) rfl) rfl
set_option maxRecDepth 20000 in
theorem T_770 : (Jvm.Cond.soleField "RecordCallsModel" "keySizes") ∈ rc_tb := rc_tm4 (List.mem_of_getElem? (i := 50) rfl) rfl
set_option maxRecDepth 20000 in
theorem T_771 : (Jvm.Cond.laysFinal "RecordCallsModel" "RecordCallsModel" "values" "[J") ∈ rc_tb := rc_tm4 (List.mem_of_getElem? (i := 51) rfl) rfl
set_option maxRecDepth 20000 in
theorem T_772 : (Jvm.Cond.soleField "RecordCallsModel" "values") ∈ rc_tb := rc_tm4 (List.mem_of_getElem? (i := 52) rfl) rfl
set_option maxRecDepth 20000 in
theorem T_773 : (Jvm.Cond.lays "RecordCallsModel" "RecordCallsModel" "keys" "I") ∈ rc_tb := rc_tm4 (List.mem_of_getElem? (i := 53) rfl) rfl
set_option maxRecDepth 20000 in
theorem T_774 : (Jvm.Cond.soleField "RecordCallsModel" "keys") ∈ rc_tb := rc_tm4 (List.mem_of_getElem? (i := 54) rfl) rfl
set_option maxRecDepth 20000 in
theorem T_775 : (Jvm.Cond.laysFinal "RecordCallsModel" "RecordCallsModel" "records" "[B") ∈ rc_tb := rc_tm4 (List.mem_of_getElem? (i := 55) rfl) rfl
set_option maxRecDepth 20000 in
theorem T_776 : (Jvm.Cond.soleField "RecordCallsModel" "records") ∈ rc_tb := rc_tm4 (List.mem_of_getElem? (i := 56) rfl) rfl
set_option maxRecDepth 20000 in
theorem T_777 : (Jvm.Cond.laysFinal "RecordCallsModel" "RecordCallsModel" "sizes" "[I") ∈ rc_tb := rc_tm4 (List.mem_of_getElem? (i := 57) rfl) rfl
set_option maxRecDepth 20000 in
theorem T_778 : (Jvm.Cond.soleField "RecordCallsModel" "sizes") ∈ rc_tb := rc_tm4 (List.mem_of_getElem? (i := 58) rfl) rfl
set_option maxRecDepth 20000 in
theorem T_779 : (Jvm.Cond.laysFinal "RecordCallsModel" "RecordCallsModel" "wordSizes" "[I") ∈ rc_tb := rc_tm4 (List.mem_of_getElem? (i := 59) rfl) rfl
set_option maxRecDepth 20000 in
theorem T_780 : (Jvm.Cond.soleField "RecordCallsModel" "wordSizes") ∈ rc_tb := rc_tm4 (List.mem_of_getElem? (i := 60) rfl) rfl
set_option maxRecDepth 20000 in
theorem T_781 : (Jvm.Cond.laysFinal "RecordCallsModel" "RecordCallsModel" "words" "[I") ∈ rc_tb := rc_tm4 (List.mem_of_getElem? (i := 61) rfl) rfl
set_option maxRecDepth 20000 in
theorem T_782 : (Jvm.Cond.soleField "RecordCallsModel" "words") ∈ rc_tb := rc_tm4 (List.mem_of_getElem? (i := 62) rfl) rfl
set_option maxRecDepth 20000 in
theorem T_783 : (Jvm.Cond.laysFinal "RecordCallsModel" "RecordCallsModel" "left" "[I") ∈ rc_tb := rc_tm4 (List.mem_of_getElem? (i := 63) rfl) rfl
set_option maxRecDepth 20000 in
theorem T_784 : (Jvm.Cond.soleField "RecordCallsModel" "left") ∈ rc_tb := rc_tm4 (List.mem_of_getElem? (i := 64) rfl) rfl
set_option maxRecDepth 20000 in
theorem T_785 : (Jvm.Cond.laysFinal "RecordCallsModel" "RecordCallsModel" "last" "[Z") ∈ rc_tb := rc_tm4 (List.mem_of_getElem? (i := 65) rfl) rfl
set_option maxRecDepth 20000 in
theorem T_786 : (Jvm.Cond.soleField "RecordCallsModel" "last") ∈ rc_tb := rc_tm4 (List.mem_of_getElem? (i := 66) rfl) rfl
set_option maxRecDepth 20000 in
theorem T_787 : (Jvm.Cond.laysFinal "RecordCallsModel" "RecordCallsModel" "inside" "[Z") ∈ rc_tb := rc_tm4 (List.mem_of_getElem? (i := 67) rfl) rfl
set_option maxRecDepth 20000 in
theorem T_788 : (Jvm.Cond.soleField "RecordCallsModel" "inside") ∈ rc_tb := rc_tm4 (List.mem_of_getElem? (i := 68) rfl) rfl
set_option maxRecDepth 20000 in
theorem T_789 : (Jvm.Cond.laysFinal "RecordCallsModel" "RecordCallsModel" "broken" "[Z") ∈ rc_tb := rc_tm4 (List.mem_of_getElem? (i := 69) rfl) rfl
set_option maxRecDepth 20000 in
theorem T_790 : (Jvm.Cond.soleField "RecordCallsModel" "broken") ∈ rc_tb := rc_tm4 (List.mem_of_getElem? (i := 70) rfl) rfl
set_option maxRecDepth 20000 in
theorem T_791 : (Jvm.Cond.laysFinal "RecordCallsModel" "RecordCallsModel" "replyNumber" "[I") ∈ rc_tb := rc_tm4 (List.mem_of_getElem? (i := 71) rfl) rfl
set_option maxRecDepth 20000 in
theorem T_792 : (Jvm.Cond.soleField "RecordCallsModel" "replyNumber") ∈ rc_tb := rc_tm4 (List.mem_of_getElem? (i := 72) rfl) rfl
set_option maxRecDepth 20000 in
theorem T_793 : (Jvm.Cond.laysFinal "RecordCallsModel" "RecordCallsModel" "replySize" "[I") ∈ rc_tb := rc_tm4 (List.mem_of_getElem? (i := 73) rfl) rfl
set_option maxRecDepth 20000 in
theorem T_794 : (Jvm.Cond.soleField "RecordCallsModel" "replySize") ∈ rc_tb := rc_tm4 (List.mem_of_getElem? (i := 74) rfl) rfl
set_option maxRecDepth 20000 in
theorem T_795 : (Jvm.Cond.laysFinal "RecordCallsModel" "RecordCallsModel" "replyBytes" "[B") ∈ rc_tb := rc_tm4 (List.mem_of_getElem? (i := 75) rfl) rfl
set_option maxRecDepth 20000 in
theorem T_796 : (Jvm.Cond.soleField "RecordCallsModel" "replyBytes") ∈ rc_tb := rc_tm4 (List.mem_of_getElem? (i := 76) rfl) rfl
set_option maxRecDepth 20000 in
theorem T_797 : (Jvm.Cond.laysFinal "RecordCallsModel" "RecordCallsModel" "replies" "[I") ∈ rc_tb := rc_tm4 (List.mem_of_getElem? (i := 77) rfl) rfl
set_option maxRecDepth 20000 in
theorem T_798 : (Jvm.Cond.soleField "RecordCallsModel" "replies") ∈ rc_tb := rc_tm4 (List.mem_of_getElem? (i := 78) rfl) rfl
set_option maxRecDepth 20000 in
theorem T_799 : (Jvm.Cond.lays "RecordCallsModel" "RecordCallsModel" "done" "I") ∈ rc_tb := rc_tm4 (List.mem_of_getElem? (i := 79) rfl) rfl
set_option maxRecDepth 20000 in
theorem T_800 : (Jvm.Cond.soleField "RecordCallsModel" "done") ∈ rc_tb := rc_tm4 (List.mem_of_getElem? (i := 80) rfl) rfl
set_option maxRecDepth 20000 in
theorem T_801 : (Jvm.Cond.lays "RecordCallsModel" "RecordCallsModel" "repeated" "I") ∈ rc_tb := rc_tm4 (List.mem_of_getElem? (i := 81) rfl) rfl
set_option maxRecDepth 20000 in
theorem T_802 : (Jvm.Cond.soleField "RecordCallsModel" "repeated") ∈ rc_tb := rc_tm4 (List.mem_of_getElem? (i := 82) rfl) rfl
set_option maxRecDepth 20000 in
theorem T_803 : (Jvm.Cond.lays "RecordCallsModel" "RecordCallsModel" "bad" "I") ∈ rc_tb := rc_tm4 (List.mem_of_getElem? (i := 83) rfl) rfl
set_option maxRecDepth 20000 in
theorem T_804 : (Jvm.Cond.soleField "RecordCallsModel" "bad") ∈ rc_tb := rc_tm4 (List.mem_of_getElem? (i := 84) rfl) rfl
set_option maxRecDepth 20000 in
theorem T_805 : (Jvm.Cond.lays "RecordCallsModel" "RecordCallsModel" "of" "I") ∈ rc_tb := rc_tm4 (List.mem_of_getElem? (i := 85) rfl) rfl
set_option maxRecDepth 20000 in
theorem T_806 : (Jvm.Cond.soleField "RecordCallsModel" "of") ∈ rc_tb := rc_tm4 (List.mem_of_getElem? (i := 86) rfl) rfl
set_option maxRecDepth 20000 in
theorem T_807 : (Jvm.Cond.lays "RecordCallsModel" "RecordCallsModel" "at" "I") ∈ rc_tb := rc_tm4 (List.mem_of_getElem? (i := 87) rfl) rfl
set_option maxRecDepth 20000 in
theorem T_808 : (Jvm.Cond.soleField "RecordCallsModel" "at") ∈ rc_tb := rc_tm4 (List.mem_of_getElem? (i := 88) rfl) rfl
set_option maxRecDepth 20000 in
theorem T_809 : (Jvm.Cond.lays "RecordCallsModel" "RecordCallsModel" "right" "Z") ∈ rc_tb := rc_tm4 (List.mem_of_getElem? (i := 89) rfl) rfl
set_option maxRecDepth 20000 in
theorem T_810 : (Jvm.Cond.soleField "RecordCallsModel" "right") ∈ rc_tb := rc_tm4 (List.mem_of_getElem? (i := 90) rfl) rfl
set_option maxRecDepth 20000 in
theorem T_811 : (Jvm.Cond.lays "RecordCallsModel" "RecordCallsModel" "keyAt" "I") ∈ rc_tb := rc_tm4 (List.mem_of_getElem? (i := 91) rfl) rfl
set_option maxRecDepth 20000 in
theorem T_812 : (Jvm.Cond.soleField "RecordCallsModel" "keyAt") ∈ rc_tb := rc_tm4 (List.mem_of_getElem? (i := 92) rfl) rfl
set_option maxRecDepth 20000 in
theorem T_813 : (Jvm.Cond.lays "RecordCallsModel" "RecordCallsModel" "keySize" "I") ∈ rc_tb := rc_tm4 (List.mem_of_getElem? (i := 93) rfl) rfl
set_option maxRecDepth 20000 in
theorem T_814 : (Jvm.Cond.soleField "RecordCallsModel" "keySize") ∈ rc_tb := rc_tm4 (List.mem_of_getElem? (i := 94) rfl) rfl
set_option maxRecDepth 20000 in
theorem T_815 : (Jvm.Cond.laysFinal "RecordCallsModel" "RecordCallsModel" "out" "[B") ∈ rc_tb := rc_tm4 (List.mem_of_getElem? (i := 95) rfl) rfl
set_option maxRecDepth 20000 in
theorem T_816 : (Jvm.Cond.soleField "RecordCallsModel" "out") ∈ rc_tb := rc_tm4 (List.mem_of_getElem? (i := 96) rfl) rfl
set_option maxRecDepth 20000 in
theorem T_817 : (Jvm.Cond.lays "RecordCallsModel" "RecordCallsModel" "outSize" "I") ∈ rc_tb := rc_tm4 (List.mem_of_getElem? (i := 97) rfl) rfl
set_option maxRecDepth 20000 in
theorem T_818 : (Jvm.Cond.soleField "RecordCallsModel" "outSize") ∈ rc_tb := rc_tm4 (List.mem_of_getElem? (i := 98) rfl) rfl
set_option maxRecDepth 20000 in
theorem T_819 : (Jvm.Cond.lays "RecordCallsModel" "RecordCallsModel" "taken" "I") ∈ rc_tb := rc_tm4 (List.mem_of_getElem? (i := 99) rfl) rfl
set_option maxRecDepth 20000 in
theorem T_820 : (Jvm.Cond.soleField "RecordCallsModel" "taken") ∈ rc_tb := rc_tm4 (List.mem_of_getElem? (i := 100) rfl) rfl
set_option maxRecDepth 20000 in
theorem T_821 : (Jvm.Cond.superclass "RecordCallsModel" "java/lang/Object") ∈ rc_tb := rc_tm4 (List.mem_of_getElem? (i := 101) rfl) rfl
set_option maxRecDepth 20000 in
theorem T_822 : (Jvm.Cond.arrayClass Jvm.ClassFile.FieldType.boolean) ∈ rc_tb := rc_tm4 (List.mem_of_getElem? (i := 102) rfl) rfl
set_option maxRecDepth 20000 in
theorem T_823 : (Jvm.Cond.methodLink "RecordCallsLaw" (65 : Nat) ({ cls := "RecordCallsModel", name := "thrown", desc := "()I" } : Jvm.MethodName)) ∈ rc_tb := rc_tm4 (List.mem_of_getElem? (i := 103) rfl) rfl
set_option maxRecDepth 20000 in
theorem T_824 : (Jvm.Cond.instanceMethod ({ cls := "RecordCallsModel", name := "thrown", desc := "()I" } : Jvm.MethodName)) ∈ rc_tb := rc_tm4 (List.mem_of_getElem? (i := 104) rfl) rfl
set_option maxRecDepth 20000 in
theorem T_825 : (Jvm.Cond.selects "RecordCallsModel" ({ cls := "RecordCallsModel", name := "thrown", desc := "()I" } : Jvm.MethodName) ({ cls := "RecordCallsModel", name := "thrown", desc := "()I" } : Jvm.MethodName)) ∈ rc_tb := rc_tm4 (List.mem_of_getElem? (i := 105) rfl) rfl
set_option maxRecDepth 20000 in
theorem T_826 : (Jvm.Cond.code ({ cls := "RecordCallsModel", name := "thrown", desc := "()I" } : Jvm.MethodName) prog_9_method_2_code (1 : Nat) (Option.some Jvm.ClassFile.FieldType.int)) ∈ rc_tb := rc_tm4 (List.mem_of_getElem? (i := 106) rfl) rfl
set_option maxRecDepth 20000 in
theorem T_827 : (Jvm.Cond.methodLink "RecordCallsLaw" (76 : Nat) ({ cls := "RecordCallsModel", name := "raw", desc := "()I" } : Jvm.MethodName)) ∈ rc_tb := rc_tm4 (List.mem_of_getElem? (i := 107) rfl) rfl
set_option maxRecDepth 20000 in
theorem T_828 : (Jvm.Cond.instanceMethod ({ cls := "RecordCallsModel", name := "raw", desc := "()I" } : Jvm.MethodName)) ∈ rc_tb := rc_tm4 (List.mem_of_getElem? (i := 108) rfl) rfl
set_option maxRecDepth 20000 in
theorem T_829 : (Jvm.Cond.selects "RecordCallsModel" ({ cls := "RecordCallsModel", name := "raw", desc := "()I" } : Jvm.MethodName) ({ cls := "RecordCallsModel", name := "raw", desc := "()I" } : Jvm.MethodName)) ∈ rc_tb := rc_tm4 (List.mem_of_getElem? (i := 109) rfl) rfl
set_option maxRecDepth 20000 in
theorem T_830 : (Jvm.Cond.code ({ cls := "RecordCallsModel", name := "raw", desc := "()I" } : Jvm.MethodName) prog_9_method_8_code (3 : Nat) (Option.some Jvm.ClassFile.FieldType.int)) ∈ rc_tb := rc_tm4 (List.mem_of_getElem? (i := 110) rfl) rfl
set_option maxRecDepth 20000 in
theorem T_831 : (Jvm.Cond.methodLink "RecordCallsModel" (89 : Nat) ({ cls := "RecordCallsModel", name := "newSlot", desc := "()I" } : Jvm.MethodName)) ∈ rc_tb := rc_tm4 (List.mem_of_getElem? (i := 111) rfl) rfl
set_option maxRecDepth 20000 in
theorem T_832 : (Jvm.Cond.privateMethod ({ cls := "RecordCallsModel", name := "newSlot", desc := "()I" } : Jvm.MethodName)) ∈ rc_tb := rc_tm4 (List.mem_of_getElem? (i := 112) rfl) rfl
set_option maxRecDepth 20000 in
theorem T_833 : (Jvm.Cond.instanceMethod ({ cls := "RecordCallsModel", name := "newSlot", desc := "()I" } : Jvm.MethodName)) ∈ rc_tb := rc_tm4 (List.mem_of_getElem? (i := 113) rfl) rfl
set_option maxRecDepth 20000 in
theorem T_834 : (Jvm.Cond.code ({ cls := "RecordCallsModel", name := "newSlot", desc := "()I" } : Jvm.MethodName) prog_9_method_5_code (1 : Nat) (Option.some Jvm.ClassFile.FieldType.int)) ∈ rc_tb := rc_tm4 (List.mem_of_getElem? (i := 114) rfl) rfl
set_option maxRecDepth 20000 in
theorem T_835 : (Jvm.Cond.methodLink "RecordCallsModel" (85 : Nat) ({ cls := "RecordCallsModel", name := "slotByte", desc := "(II)V" } : Jvm.MethodName)) ∈ rc_tb := rc_tm4 (List.mem_of_getElem? (i := 115) rfl) rfl
set_option maxRecDepth 20000 in
theorem T_836 : (Jvm.Cond.privateMethod ({ cls := "RecordCallsModel", name := "slotByte", desc := "(II)V" } : Jvm.MethodName)) ∈ rc_tb := rc_tm4 (List.mem_of_getElem? (i := 116) rfl) rfl
set_option maxRecDepth 20000 in
theorem T_837 : (Jvm.Cond.instanceMethod ({ cls := "RecordCallsModel", name := "slotByte", desc := "(II)V" } : Jvm.MethodName)) ∈ rc_tb := rc_tm4 (List.mem_of_getElem? (i := 117) rfl) rfl
set_option maxRecDepth 20000 in
theorem T_838 : (Jvm.Cond.code ({ cls := "RecordCallsModel", name := "slotByte", desc := "(II)V" } : Jvm.MethodName) prog_9_method_6_code (3 : Nat) (Option.none : Option Jvm.ClassFile.FieldType)) ∈ rc_tb := rc_tm4 (List.mem_of_getElem? (i := 118) rfl) rfl
set_option maxRecDepth 20000 in
theorem T_839 : (Jvm.Cond.methodLink "RecordCallsModel" (81 : Nat) ({ cls := "RecordCallsModel", name := "base", desc := "(I)I" } : Jvm.MethodName)) ∈ rc_tb := rc_tm4 (List.mem_of_getElem? (i := 119) rfl) rfl
set_option maxRecDepth 20000 in
theorem T_840 : (Jvm.Cond.static ({ cls := "RecordCallsModel", name := "base", desc := "(I)I" } : Jvm.MethodName)) ∈ rc_tb := rc_tm4 (List.mem_of_getElem? (i := 120) rfl) rfl
set_option maxRecDepth 20000 in
theorem T_841 : (Jvm.Cond.code ({ cls := "RecordCallsModel", name := "base", desc := "(I)I" } : Jvm.MethodName) prog_9_method_4_code (1 : Nat) (Option.some Jvm.ClassFile.FieldType.int)) ∈ rc_tb := rc_tm4 (List.mem_of_getElem? (i := 121) rfl) rfl
set_option maxRecDepth 20000 in
theorem T_842 : (Jvm.Cond.methodLink "RecordCallsLaw" (80 : Nat) ({ cls := "RecordCallsModel", name := "record", desc := "(I)I" } : Jvm.MethodName)) ∈ rc_tb := rc_tm4 (List.mem_of_getElem? (i := 122) rfl) rfl
set_option maxRecDepth 20000 in
theorem T_843 : (Jvm.Cond.instanceMethod ({ cls := "RecordCallsModel", name := "record", desc := "(I)I" } : Jvm.MethodName)) ∈ rc_tb := rc_tm4 (List.mem_of_getElem? (i := 123) rfl) rfl
set_option maxRecDepth 20000 in
theorem T_844 : (Jvm.Cond.selects "RecordCallsModel" ({ cls := "RecordCallsModel", name := "record", desc := "(I)I" } : Jvm.MethodName) ({ cls := "RecordCallsModel", name := "record", desc := "(I)I" } : Jvm.MethodName)) ∈ rc_tb := rc_tm4 (List.mem_of_getElem? (i := 124) rfl) rfl
set_option maxRecDepth 20000 in
theorem T_845 : (Jvm.Cond.code ({ cls := "RecordCallsModel", name := "record", desc := "(I)I" } : Jvm.MethodName) prog_9_method_9_code (9 : Nat) (Option.some Jvm.ClassFile.FieldType.int)) ∈ rc_tb := rc_tm4 (List.mem_of_getElem? (i := 125) rfl) rfl
set_option maxRecDepth 20000 in
theorem T_846 : (Jvm.Cond.constant "RecordCallsModel" (96 : Nat) (2147483647 : Int32)) ∈ rc_tb := rc_tm4 (List.mem_of_getElem? (i := 126) rfl) rfl
set_option maxRecDepth 20000 in
theorem T_847 : (Jvm.Cond.methodLink "RecordCallsModel" (97 : Nat) ({ cls := "RecordCallsModel", name := "slotWord", desc := "(II)V" } : Jvm.MethodName)) ∈ rc_tb := rc_tm4 (List.mem_of_getElem? (i := 127) rfl) rfl
set_option maxRecDepth 20000 in
theorem T_848 : (Jvm.Cond.privateMethod ({ cls := "RecordCallsModel", name := "slotWord", desc := "(II)V" } : Jvm.MethodName)) ∈ rc_tb := rc_tm4 (List.mem_of_getElem? (i := 128) rfl) rfl
set_option maxRecDepth 20000 in
theorem T_849 : (Jvm.Cond.instanceMethod ({ cls := "RecordCallsModel", name := "slotWord", desc := "(II)V" } : Jvm.MethodName)) ∈ rc_tb := rc_tm4 (List.mem_of_getElem? (i := 129) rfl) rfl
set_option maxRecDepth 20000 in
theorem T_850 : (Jvm.Cond.code ({ cls := "RecordCallsModel", name := "slotWord", desc := "(II)V" } : Jvm.MethodName) prog_9_method_7_code (4 : Nat) (Option.none : Option Jvm.ClassFile.FieldType)) ∈ rc_tb := rc_tm4 (List.mem_of_getElem? (i := 130) rfl) rfl
set_option maxRecDepth 20000 in
theorem T_851 : (Jvm.Cond.methodLink "RecordCallsLaw" (86 : Nat) ({ cls := "RecordCallsModel", name := "call", desc := "(IIIZJ)I" } : Jvm.MethodName)) ∈ rc_tb := rc_tm4 (List.mem_of_getElem? (i := 131) rfl) rfl
set_option maxRecDepth 20000 in
theorem T_852 : (Jvm.Cond.instanceMethod ({ cls := "RecordCallsModel", name := "call", desc := "(IIIZJ)I" } : Jvm.MethodName)) ∈ rc_tb := rc_tm4 (List.mem_of_getElem? (i := 132) rfl) rfl
set_option maxRecDepth 20000 in
theorem T_853 : (Jvm.Cond.selects "RecordCallsModel" ({ cls := "RecordCallsModel", name := "call", desc := "(IIIZJ)I" } : Jvm.MethodName) ({ cls := "RecordCallsModel", name := "call", desc := "(IIIZJ)I" } : Jvm.MethodName)) ∈ rc_tb := rc_tm4 (List.mem_of_getElem? (i := 133) rfl) rfl
set_option maxRecDepth 20000 in
theorem T_854 : (Jvm.Cond.code ({ cls := "RecordCallsModel", name := "call", desc := "(IIIZJ)I" } : Jvm.MethodName) prog_9_method_10_code (10 : Nat) (Option.some Jvm.ClassFile.FieldType.int)) ∈ rc_tb := rc_tm4 (List.mem_of_getElem? (i := 134) rfl) rfl
set_option maxRecDepth 20000 in
theorem T_855 : (Jvm.Cond.constant "RecordCallsModel" (100 : Nat) (400100 : Int32)) ∈ rc_tb := rc_tm4 (List.mem_of_getElem? (i := 135) rfl) rfl
set_option maxRecDepth 20000 in
theorem T_856 : (Jvm.Cond.methodLink "RecordCallsLaw" (90 : Nat) ({ cls := "RecordCallsModel", name := "push", desc := "(IIII)I" } : Jvm.MethodName)) ∈ rc_tb := rc_tm4 (List.mem_of_getElem? (i := 136) rfl) rfl
set_option maxRecDepth 20000 in
theorem T_857 : (Jvm.Cond.instanceMethod ({ cls := "RecordCallsModel", name := "push", desc := "(IIII)I" } : Jvm.MethodName)) ∈ rc_tb := rc_tm4 (List.mem_of_getElem? (i := 137) rfl) rfl
set_option maxRecDepth 20000 in
theorem T_858 : (Jvm.Cond.selects "RecordCallsModel" ({ cls := "RecordCallsModel", name := "push", desc := "(IIII)I" } : Jvm.MethodName) ({ cls := "RecordCallsModel", name := "push", desc := "(IIII)I" } : Jvm.MethodName)) ∈ rc_tb := rc_tm4 (List.mem_of_getElem? (i := 138) rfl) rfl
set_option maxRecDepth 20000 in
theorem T_859 : (Jvm.Cond.code ({ cls := "RecordCallsModel", name := "push", desc := "(IIII)I" } : Jvm.MethodName) prog_9_method_11_code (8 : Nat) (Option.some Jvm.ClassFile.FieldType.int)) ∈ rc_tb := rc_tm4 (List.mem_of_getElem? (i := 139) rfl) rfl
set_option maxRecDepth 20000 in
theorem T_860 : (Jvm.Cond.methodLink "RecordCallsModel" (101 : Nat) ({ cls := "RecordCallsModel", name := "isSlot", desc := "(I)Z" } : Jvm.MethodName)) ∈ rc_tb := rc_tm4 (List.mem_of_getElem? (i := 140) rfl) rfl
set_option maxRecDepth 20000 in
theorem T_861 : (Jvm.Cond.privateMethod ({ cls := "RecordCallsModel", name := "isSlot", desc := "(I)Z" } : Jvm.MethodName)) ∈ rc_tb := rc_tm4 (List.mem_of_getElem? (i := 141) rfl) rfl
set_option maxRecDepth 20000 in
theorem T_862 : (Jvm.Cond.instanceMethod ({ cls := "RecordCallsModel", name := "isSlot", desc := "(I)Z" } : Jvm.MethodName)) ∈ rc_tb := rc_tm4 (List.mem_of_getElem? (i := 142) rfl) rfl
set_option maxRecDepth 20000 in
theorem T_863 : (Jvm.Cond.code ({ cls := "RecordCallsModel", name := "isSlot", desc := "(I)Z" } : Jvm.MethodName) prog_9_method_3_code (2 : Nat) (Option.some Jvm.ClassFile.FieldType.boolean)) ∈ rc_tb := rc_tm4 (List.mem_of_getElem? (i := 143) rfl) rfl
set_option maxRecDepth 20000 in
theorem T_864 : (Jvm.Cond.methodLink "RecordCallsModel" (105 : Nat) ({ cls := "RecordCallsModel", name := "take", desc := "(II)Z" } : Jvm.MethodName)) ∈ rc_tb := rc_tm4 (List.mem_of_getElem? (i := 144) rfl) rfl
set_option maxRecDepth 20000 in
theorem T_865 : (Jvm.Cond.privateMethod ({ cls := "RecordCallsModel", name := "take", desc := "(II)Z" } : Jvm.MethodName)) ∈ rc_tb := rc_tm4 (List.mem_of_getElem? (i := 145) rfl) rfl
set_option maxRecDepth 20000 in
theorem T_866 : (Jvm.Cond.instanceMethod ({ cls := "RecordCallsModel", name := "take", desc := "(II)Z" } : Jvm.MethodName)) ∈ rc_tb := rc_tm4 (List.mem_of_getElem? (i := 146) rfl) rfl
set_option maxRecDepth 20000 in
theorem T_867 : (Jvm.Cond.code ({ cls := "RecordCallsModel", name := "take", desc := "(II)Z" } : Jvm.MethodName) prog_9_method_12_code (3 : Nat) (Option.some Jvm.ClassFile.FieldType.boolean)) ∈ rc_tb := rc_tm4 (List.mem_of_getElem? (i := 147) rfl) rfl
set_option maxRecDepth 20000 in
theorem T_868 : (Jvm.Cond.methodLink "RecordCallsModel" (112 : Nat) ({ cls := "RecordCallsModel", name := "serve", desc := "()Z" } : Jvm.MethodName)) ∈ rc_tb := rc_tm4 (List.mem_of_getElem? (i := 148) rfl) rfl
set_option maxRecDepth 20000 in
theorem T_869 : (Jvm.Cond.privateMethod ({ cls := "RecordCallsModel", name := "serve", desc := "()Z" } : Jvm.MethodName)) ∈ rc_tb := rc_tm4 (List.mem_of_getElem? (i := 149) rfl) rfl
set_option maxRecDepth 20000 in
theorem T_870 : (Jvm.Cond.instanceMethod ({ cls := "RecordCallsModel", name := "serve", desc := "()Z" } : Jvm.MethodName)) ∈ rc_tb := rc_tm4 (List.mem_of_getElem? (i := 150) rfl) rfl
set_option maxRecDepth 20000 in
theorem T_871 : (Jvm.Cond.code ({ cls := "RecordCallsModel", name := "serve", desc := "()Z" } : Jvm.MethodName) prog_9_method_21_code (4 : Nat) (Option.some Jvm.ClassFile.FieldType.boolean)) ∈ rc_tb := rc_tm4 (List.mem_of_getElem? (i := 151) rfl) rfl
set_option maxRecDepth 20000 in
theorem T_872 : (Jvm.Cond.methodLink "RecordCallsModel" (126 : Nat) ({ cls := "RecordCallsModel", name := "recordWord", desc := "(I)I" } : Jvm.MethodName)) ∈ rc_tb := rc_tm4 (List.mem_of_getElem? (i := 152) rfl) rfl
set_option maxRecDepth 20000 in
theorem T_873 : (Jvm.Cond.privateMethod ({ cls := "RecordCallsModel", name := "recordWord", desc := "(I)I" } : Jvm.MethodName)) ∈ rc_tb := rc_tm4 (List.mem_of_getElem? (i := 153) rfl) rfl
set_option maxRecDepth 20000 in
theorem T_874 : (Jvm.Cond.instanceMethod ({ cls := "RecordCallsModel", name := "recordWord", desc := "(I)I" } : Jvm.MethodName)) ∈ rc_tb := rc_tm4 (List.mem_of_getElem? (i := 154) rfl) rfl
set_option maxRecDepth 20000 in
theorem T_875 : (Jvm.Cond.code ({ cls := "RecordCallsModel", name := "recordWord", desc := "(I)I" } : Jvm.MethodName) prog_9_method_14_code (4 : Nat) (Option.some Jvm.ClassFile.FieldType.int)) ∈ rc_tb := rc_tm4 (List.mem_of_getElem? (i := 155) rfl) rfl
set_option maxRecDepth 20000 in
theorem T_876 : (Jvm.Cond.methodLink "RecordCallsModel" (153 : Nat) ({ cls := "RecordCallsModel", name := "send", desc := "(I)V" } : Jvm.MethodName)) ∈ rc_tb := rc_tm4 (List.mem_of_getElem? (i := 156) rfl) rfl
set_option maxRecDepth 20000 in
theorem T_877 : (Jvm.Cond.privateMethod ({ cls := "RecordCallsModel", name := "send", desc := "(I)V" } : Jvm.MethodName)) ∈ rc_tb := rc_tm4 (List.mem_of_getElem? (i := 157) rfl) rfl
set_option maxRecDepth 20000 in
theorem T_878 : (Jvm.Cond.instanceMethod ({ cls := "RecordCallsModel", name := "send", desc := "(I)V" } : Jvm.MethodName)) ∈ rc_tb := rc_tm4 (List.mem_of_getElem? (i := 158) rfl) rfl
set_option maxRecDepth 20000 in
theorem T_879 : (Jvm.Cond.code ({ cls := "RecordCallsModel", name := "send", desc := "(I)V" } : Jvm.MethodName) prog_9_method_23_code (4 : Nat) (Option.none : Option Jvm.ClassFile.FieldType)) ∈ rc_tb := rc_tm4 (List.mem_of_getElem? (i := 159) rfl) rfl
set_option maxRecDepth 20000 in
theorem T_880 : (Jvm.Cond.methodLink "RecordCallsModel" (156 : Nat) ({ cls := "RecordCallsModel", name := "judge", desc := "(I)Z" } : Jvm.MethodName)) ∈ rc_tb := rc_tm4 (List.mem_of_getElem? (i := 160) rfl) rfl
set_option maxRecDepth 20000 in
theorem T_881 : (Jvm.Cond.privateMethod ({ cls := "RecordCallsModel", name := "judge", desc := "(I)Z" } : Jvm.MethodName)) ∈ rc_tb := rc_tm4 (List.mem_of_getElem? (i := 161) rfl) rfl
set_option maxRecDepth 20000 in
theorem T_882 : (Jvm.Cond.instanceMethod ({ cls := "RecordCallsModel", name := "judge", desc := "(I)Z" } : Jvm.MethodName)) ∈ rc_tb := rc_tm4 (List.mem_of_getElem? (i := 162) rfl) rfl
set_option maxRecDepth 20000 in
theorem T_883 : (Jvm.Cond.code ({ cls := "RecordCallsModel", name := "judge", desc := "(I)Z" } : Jvm.MethodName) prog_9_method_26_code (10 : Nat) (Option.some Jvm.ClassFile.FieldType.boolean)) ∈ rc_tb := rc_tm4 (List.mem_of_getElem? (i := 163) rfl) rfl
set_option maxRecDepth 20000 in
theorem T_884 : (Jvm.Cond.methodLink "RecordCallsModel" (129 : Nat) ({ cls := "RecordCallsModel", name := "nextWord", desc := "()I" } : Jvm.MethodName)) ∈ rc_tb := rc_tm4 (List.mem_of_getElem? (i := 164) rfl) rfl
set_option maxRecDepth 20000 in
theorem T_885 : (Jvm.Cond.privateMethod ({ cls := "RecordCallsModel", name := "nextWord", desc := "()I" } : Jvm.MethodName)) ∈ rc_tb := rc_tm4 (List.mem_of_getElem? (i := 165) rfl) rfl
set_option maxRecDepth 20000 in
theorem T_886 : (Jvm.Cond.instanceMethod ({ cls := "RecordCallsModel", name := "nextWord", desc := "()I" } : Jvm.MethodName)) ∈ rc_tb := rc_tm4 (List.mem_of_getElem? (i := 166) rfl) rfl
set_option maxRecDepth 20000 in
theorem T_887 : (Jvm.Cond.code ({ cls := "RecordCallsModel", name := "nextWord", desc := "()I" } : Jvm.MethodName) prog_9_method_16_code (1 : Nat) (Option.some Jvm.ClassFile.FieldType.int)) ∈ rc_tb := rc_tm4 (List.mem_of_getElem? (i := 167) rfl) rfl
set_option maxRecDepth 20000 in
theorem T_888 : (Jvm.Cond.methodLink "RecordCallsModel" (123 : Nat) ({ cls := "RecordCallsModel", name := "hasBytes", desc := "(I)Z" } : Jvm.MethodName)) ∈ rc_tb := rc_tm4 (List.mem_of_getElem? (i := 168) rfl) rfl
set_option maxRecDepth 20000 in
theorem T_889 : (Jvm.Cond.privateMethod ({ cls := "RecordCallsModel", name := "hasBytes", desc := "(I)Z" } : Jvm.MethodName)) ∈ rc_tb := rc_tm4 (List.mem_of_getElem? (i := 169) rfl) rfl
set_option maxRecDepth 20000 in
theorem T_890 : (Jvm.Cond.instanceMethod ({ cls := "RecordCallsModel", name := "hasBytes", desc := "(I)Z" } : Jvm.MethodName)) ∈ rc_tb := rc_tm4 (List.mem_of_getElem? (i := 170) rfl) rfl
set_option maxRecDepth 20000 in
theorem T_891 : (Jvm.Cond.code ({ cls := "RecordCallsModel", name := "hasBytes", desc := "(I)Z" } : Jvm.MethodName) prog_9_method_15_code (2 : Nat) (Option.some Jvm.ClassFile.FieldType.boolean)) ∈ rc_tb := rc_tm4 (List.mem_of_getElem? (i := 171) rfl) rfl
set_option maxRecDepth 20000 in
theorem T_892 : (Jvm.Cond.methodLink "RecordCallsModel" (162 : Nat) ({ cls := "RecordCallsModel", name := "refuse", desc := "(III)Z" } : Jvm.MethodName)) ∈ rc_tb := rc_tm4 (List.mem_of_getElem? (i := 172) rfl) rfl
set_option maxRecDepth 20000 in
theorem T_893 : (Jvm.Cond.privateMethod ({ cls := "RecordCallsModel", name := "refuse", desc := "(III)Z" } : Jvm.MethodName)) ∈ rc_tb := rc_tm4 (List.mem_of_getElem? (i := 173) rfl) rfl
set_option maxRecDepth 20000 in
theorem T_894 : (Jvm.Cond.instanceMethod ({ cls := "RecordCallsModel", name := "refuse", desc := "(III)Z" } : Jvm.MethodName)) ∈ rc_tb := rc_tm4 (List.mem_of_getElem? (i := 174) rfl) rfl
set_option maxRecDepth 20000 in
theorem T_895 : (Jvm.Cond.code ({ cls := "RecordCallsModel", name := "refuse", desc := "(III)Z" } : Jvm.MethodName) prog_9_method_24_code (4 : Nat) (Option.some Jvm.ClassFile.FieldType.boolean)) ∈ rc_tb := rc_tm4 (List.mem_of_getElem? (i := 175) rfl) rfl
set_option maxRecDepth 20000 in
theorem T_896 : (Jvm.Cond.methodLink "RecordCallsModel" (143 : Nat) ({ cls := "RecordCallsModel", name := "outWord", desc := "(I)V" } : Jvm.MethodName)) ∈ rc_tb := rc_tm4 (List.mem_of_getElem? (i := 176) rfl) rfl
set_option maxRecDepth 20000 in
theorem T_897 : (Jvm.Cond.privateMethod ({ cls := "RecordCallsModel", name := "outWord", desc := "(I)V" } : Jvm.MethodName)) ∈ rc_tb := rc_tm4 (List.mem_of_getElem? (i := 177) rfl) rfl
set_option maxRecDepth 20000 in
theorem T_898 : (Jvm.Cond.instanceMethod ({ cls := "RecordCallsModel", name := "outWord", desc := "(I)V" } : Jvm.MethodName)) ∈ rc_tb := rc_tm4 (List.mem_of_getElem? (i := 178) rfl) rfl
set_option maxRecDepth 20000 in
theorem T_899 : (Jvm.Cond.code ({ cls := "RecordCallsModel", name := "outWord", desc := "(I)V" } : Jvm.MethodName) prog_9_method_19_code (3 : Nat) (Option.none : Option Jvm.ClassFile.FieldType)) ∈ rc_tb := rc_tm4 (List.mem_of_getElem? (i := 179) rfl) rfl
set_option maxRecDepth 20000 in
theorem T_900 : (Jvm.Cond.methodLink "RecordCallsModel" (166 : Nat) ({ cls := "RecordCallsModel", name := "nextBytes", desc := "(I)I" } : Jvm.MethodName)) ∈ rc_tb := rc_tm4 (List.mem_of_getElem? (i := 180) rfl) rfl
set_option maxRecDepth 20000 in
theorem T_901 : (Jvm.Cond.privateMethod ({ cls := "RecordCallsModel", name := "nextBytes", desc := "(I)I" } : Jvm.MethodName)) ∈ rc_tb := rc_tm4 (List.mem_of_getElem? (i := 181) rfl) rfl
set_option maxRecDepth 20000 in
theorem T_902 : (Jvm.Cond.instanceMethod ({ cls := "RecordCallsModel", name := "nextBytes", desc := "(I)I" } : Jvm.MethodName)) ∈ rc_tb := rc_tm4 (List.mem_of_getElem? (i := 182) rfl) rfl
set_option maxRecDepth 20000 in
theorem T_903 : (Jvm.Cond.code ({ cls := "RecordCallsModel", name := "nextBytes", desc := "(I)I" } : Jvm.MethodName) prog_9_method_18_code (5 : Nat) (Option.some Jvm.ClassFile.FieldType.int)) ∈ rc_tb := rc_tm4 (List.mem_of_getElem? (i := 183) rfl) rfl
set_option maxRecDepth 20000 in
theorem T_904 : (Jvm.Cond.methodLink "RecordCallsModel" (169 : Nat) ({ cls := "RecordCallsModel", name := "accept", desc := "(II)Z" } : Jvm.MethodName)) ∈ rc_tb := rc_tm4 (List.mem_of_getElem? (i := 184) rfl) rfl
set_option maxRecDepth 20000 in
theorem T_905 : (Jvm.Cond.privateMethod ({ cls := "RecordCallsModel", name := "accept", desc := "(II)Z" } : Jvm.MethodName)) ∈ rc_tb := rc_tm4 (List.mem_of_getElem? (i := 185) rfl) rfl
set_option maxRecDepth 20000 in
theorem T_906 : (Jvm.Cond.instanceMethod ({ cls := "RecordCallsModel", name := "accept", desc := "(II)Z" } : Jvm.MethodName)) ∈ rc_tb := rc_tm4 (List.mem_of_getElem? (i := 186) rfl) rfl
set_option maxRecDepth 20000 in
theorem T_907 : (Jvm.Cond.code ({ cls := "RecordCallsModel", name := "accept", desc := "(II)Z" } : Jvm.MethodName) prog_9_method_25_code (3 : Nat) (Option.some Jvm.ClassFile.FieldType.boolean)) ∈ rc_tb := rc_tm4 (List.mem_of_getElem? (i := 187) rfl) rfl
set_option maxRecDepth 20000 in
theorem T_908 : (Jvm.Cond.methodLink "RecordCallsModel" (172 : Nat) ({ cls := "RecordCallsModel", name := "takes", desc := "(I)Z" } : Jvm.MethodName)) ∈ rc_tb := rc_tm4 (List.mem_of_getElem? (i := 188) rfl) rfl
set_option maxRecDepth 20000 in
theorem T_909 : (Jvm.Cond.privateMethod ({ cls := "RecordCallsModel", name := "takes", desc := "(I)Z" } : Jvm.MethodName)) ∈ rc_tb := rc_tm4 (List.mem_of_getElem? (i := 189) rfl) rfl
set_option maxRecDepth 20000 in
theorem T_910 : (Jvm.Cond.instanceMethod ({ cls := "RecordCallsModel", name := "takes", desc := "(I)Z" } : Jvm.MethodName)) ∈ rc_tb := rc_tm4 (List.mem_of_getElem? (i := 190) rfl) rfl
set_option maxRecDepth 20000 in
theorem T_911 : (Jvm.Cond.code ({ cls := "RecordCallsModel", name := "takes", desc := "(I)Z" } : Jvm.MethodName) prog_9_method_27_code (4 : Nat) (Option.some Jvm.ClassFile.FieldType.boolean)) ∈ rc_tb := rc_tm4 (List.mem_of_getElem? (i := 191) rfl) rfl
set_option maxRecDepth 20000 in
theorem T_912 : (Jvm.Cond.methodLink "RecordCallsModel" (184 : Nat) ({ cls := "RecordCallsModel", name := "nextLong", desc := "()J" } : Jvm.MethodName)) ∈ rc_tb := rc_tm4 (List.mem_of_getElem? (i := 192) rfl) rfl
set_option maxRecDepth 20000 in
theorem T_913 : (Jvm.Cond.privateMethod ({ cls := "RecordCallsModel", name := "nextLong", desc := "()J" } : Jvm.MethodName)) ∈ rc_tb := rc_tm4 (List.mem_of_getElem? (i := 193) rfl) rfl
set_option maxRecDepth 20000 in
theorem T_914 : (Jvm.Cond.instanceMethod ({ cls := "RecordCallsModel", name := "nextLong", desc := "()J" } : Jvm.MethodName)) ∈ rc_tb := rc_tm4 (List.mem_of_getElem? (i := 194) rfl) rfl
set_option maxRecDepth 20000 in
theorem T_915 : (Jvm.Cond.code ({ cls := "RecordCallsModel", name := "nextLong", desc := "()J" } : Jvm.MethodName) prog_9_method_17_code (5 : Nat) (Option.some Jvm.ClassFile.FieldType.long)) ∈ rc_tb := rc_tm4 (List.mem_of_getElem? (i := 195) rfl) rfl
set_option maxRecDepth 20000 in
theorem T_916 : (Jvm.Cond.constantLong "RecordCallsModel" (132 : Nat) (4294967295 : Int64)) ∈ rc_tb := rc_tm4 (List.mem_of_getElem? (i := 196) rfl) rfl
set_option maxRecDepth 20000 in
theorem T_917 : (Jvm.Cond.methodLink "RecordCallsModel" (178 : Nat) ({ cls := "RecordCallsModel", name := "run", desc := "(I)V" } : Jvm.MethodName)) ∈ rc_tb := rc_tm4 (List.mem_of_getElem? (i := 197) rfl) rfl
set_option maxRecDepth 20000 in
theorem T_918 : (Jvm.Cond.privateMethod ({ cls := "RecordCallsModel", name := "run", desc := "(I)V" } : Jvm.MethodName)) ∈ rc_tb := rc_tm4 (List.mem_of_getElem? (i := 198) rfl) rfl
set_option maxRecDepth 20000 in
theorem T_919 : (Jvm.Cond.instanceMethod ({ cls := "RecordCallsModel", name := "run", desc := "(I)V" } : Jvm.MethodName)) ∈ rc_tb := rc_tm4 (List.mem_of_getElem? (i := 199) rfl) rfl
set_option maxRecDepth 20000 in
theorem T_920 : (Jvm.Cond.code ({ cls := "RecordCallsModel", name := "run", desc := "(I)V" } : Jvm.MethodName) prog_9_method_29_code (3 : Nat) (Option.none : Option Jvm.ClassFile.FieldType)) ∈ rc_tb := rc_tm4 (List.mem_of_getElem? (i := 200) rfl) rfl
set_option maxRecDepth 20000 in
theorem T_921 : (Jvm.Cond.methodLink "RecordCallsModel" (191 : Nat) ({ cls := "RecordCallsModel", name := "runSum", desc := "()V" } : Jvm.MethodName)) ∈ rc_tb := rc_tm4 (List.mem_of_getElem? (i := 201) rfl) rfl
set_option maxRecDepth 20000 in
theorem T_922 : (Jvm.Cond.privateMethod ({ cls := "RecordCallsModel", name := "runSum", desc := "()V" } : Jvm.MethodName)) ∈ rc_tb := rc_tm4 (List.mem_of_getElem? (i := 202) rfl) rfl
set_option maxRecDepth 20000 in
theorem T_923 : (Jvm.Cond.instanceMethod ({ cls := "RecordCallsModel", name := "runSum", desc := "()V" } : Jvm.MethodName)) ∈ rc_tb := rc_tm4 (List.mem_of_getElem? (i := 203) rfl) rfl
set_option maxRecDepth 20000 in
theorem T_924 : (Jvm.Cond.code ({ cls := "RecordCallsModel", name := "runSum", desc := "()V" } : Jvm.MethodName) prog_9_method_32_code (7 : Nat) (Option.none : Option Jvm.ClassFile.FieldType)) ∈ rc_tb := rc_tm4 (List.mem_of_getElem? (i := 204) rfl) rfl
set_option maxRecDepth 20000 in
theorem T_925 : (Jvm.Cond.methodLink "RecordCallsModel" (197 : Nat) ({ cls := "RecordCallsModel", name := "place", desc := "()I" } : Jvm.MethodName)) ∈ rc_tb := rc_tm4 (List.mem_of_getElem? (i := 205) rfl) rfl
set_option maxRecDepth 20000 in
theorem T_926 : (Jvm.Cond.privateMethod ({ cls := "RecordCallsModel", name := "place", desc := "()I" } : Jvm.MethodName)) ∈ rc_tb := rc_tm4 (List.mem_of_getElem? (i := 206) rfl) rfl
set_option maxRecDepth 20000 in
theorem T_927 : (Jvm.Cond.instanceMethod ({ cls := "RecordCallsModel", name := "place", desc := "()I" } : Jvm.MethodName)) ∈ rc_tb := rc_tm4 (List.mem_of_getElem? (i := 207) rfl) rfl
set_option maxRecDepth 20000 in
theorem T_928 : (Jvm.Cond.code ({ cls := "RecordCallsModel", name := "place", desc := "()I" } : Jvm.MethodName) prog_9_method_28_code (4 : Nat) (Option.some Jvm.ClassFile.FieldType.int)) ∈ rc_tb := rc_tm4 (List.mem_of_getElem? (i := 208) rfl) rfl
set_option maxRecDepth 20000 in
theorem T_929 : (Jvm.Cond.methodLink "RecordCallsModel" (207 : Nat) ({ cls := "RecordCallsModel", name := "outLong", desc := "(J)V" } : Jvm.MethodName)) ∈ rc_tb := rc_tm4 (List.mem_of_getElem? (i := 209) rfl) rfl
set_option maxRecDepth 20000 in
theorem T_930 : (Jvm.Cond.privateMethod ({ cls := "RecordCallsModel", name := "outLong", desc := "(J)V" } : Jvm.MethodName)) ∈ rc_tb := rc_tm4 (List.mem_of_getElem? (i := 210) rfl) rfl
set_option maxRecDepth 20000 in
theorem T_931 : (Jvm.Cond.instanceMethod ({ cls := "RecordCallsModel", name := "outLong", desc := "(J)V" } : Jvm.MethodName)) ∈ rc_tb := rc_tm4 (List.mem_of_getElem? (i := 211) rfl) rfl
set_option maxRecDepth 20000 in
theorem T_932 : (Jvm.Cond.code ({ cls := "RecordCallsModel", name := "outLong", desc := "(J)V" } : Jvm.MethodName) prog_9_method_20_code (3 : Nat) (Option.none : Option Jvm.ClassFile.FieldType)) ∈ rc_tb := rc_tm4 (List.mem_of_getElem? (i := 212) rfl) rfl
set_option maxRecDepth 20000 in
theorem T_933 : (Jvm.Cond.methodLink "RecordCallsModel" (194 : Nat) ({ cls := "RecordCallsModel", name := "runList", desc := "()V" } : Jvm.MethodName)) ∈ rc_tb := rc_tm4 (List.mem_of_getElem? (i := 213) rfl) rfl
set_option maxRecDepth 20000 in
theorem T_934 : (Jvm.Cond.privateMethod ({ cls := "RecordCallsModel", name := "runList", desc := "()V" } : Jvm.MethodName)) ∈ rc_tb := rc_tm4 (List.mem_of_getElem? (i := 214) rfl) rfl
set_option maxRecDepth 20000 in
theorem T_935 : (Jvm.Cond.instanceMethod ({ cls := "RecordCallsModel", name := "runList", desc := "()V" } : Jvm.MethodName)) ∈ rc_tb := rc_tm4 (List.mem_of_getElem? (i := 215) rfl) rfl
set_option maxRecDepth 20000 in
theorem T_936 : (Jvm.Cond.code ({ cls := "RecordCallsModel", name := "runList", desc := "()V" } : Jvm.MethodName) prog_9_method_33_code (11 : Nat) (Option.none : Option Jvm.ClassFile.FieldType)) ∈ rc_tb := rc_tm4 (List.mem_of_getElem? (i := 216) rfl) rfl
set_option maxRecDepth 20000 in
theorem T_937 : (Jvm.Cond.methodLink "RecordCallsModel" (200 : Nat) ({ cls := "RecordCallsModel", name := "runPut", desc := "(IJ)V" } : Jvm.MethodName)) ∈ rc_tb := rc_tm4 (List.mem_of_getElem? (i := 217) rfl) rfl
set_option maxRecDepth 20000 in
theorem T_938 : (Jvm.Cond.privateMethod ({ cls := "RecordCallsModel", name := "runPut", desc := "(IJ)V" } : Jvm.MethodName)) ∈ rc_tb := rc_tm4 (List.mem_of_getElem? (i := 218) rfl) rfl
set_option maxRecDepth 20000 in
theorem T_939 : (Jvm.Cond.instanceMethod ({ cls := "RecordCallsModel", name := "runPut", desc := "(IJ)V" } : Jvm.MethodName)) ∈ rc_tb := rc_tm4 (List.mem_of_getElem? (i := 219) rfl) rfl
set_option maxRecDepth 20000 in
theorem T_940 : (Jvm.Cond.code ({ cls := "RecordCallsModel", name := "runPut", desc := "(IJ)V" } : Jvm.MethodName) prog_9_method_30_code (5 : Nat) (Option.none : Option Jvm.ClassFile.FieldType)) ∈ rc_tb := rc_tm4 (List.mem_of_getElem? (i := 220) rfl) rfl
set_option maxRecDepth 20000 in
theorem T_941 : (Jvm.Cond.methodLink "RecordCallsModel" (204 : Nat) ({ cls := "RecordCallsModel", name := "remove", desc := "(I)V" } : Jvm.MethodName)) ∈ rc_tb := rc_tm4 (List.mem_of_getElem? (i := 221) rfl) rfl
set_option maxRecDepth 20000 in
theorem T_942 : (Jvm.Cond.privateMethod ({ cls := "RecordCallsModel", name := "remove", desc := "(I)V" } : Jvm.MethodName)) ∈ rc_tb := rc_tm4 (List.mem_of_getElem? (i := 222) rfl) rfl
set_option maxRecDepth 20000 in
theorem T_943 : (Jvm.Cond.instanceMethod ({ cls := "RecordCallsModel", name := "remove", desc := "(I)V" } : Jvm.MethodName)) ∈ rc_tb := rc_tm4 (List.mem_of_getElem? (i := 223) rfl) rfl
set_option maxRecDepth 20000 in
theorem T_944 : (Jvm.Cond.code ({ cls := "RecordCallsModel", name := "remove", desc := "(I)V" } : Jvm.MethodName) prog_9_method_31_code (4 : Nat) (Option.none : Option Jvm.ClassFile.FieldType)) ∈ rc_tb := rc_tm4 (List.mem_of_getElem? (i := 224) rfl) rfl
set_option maxRecDepth 20000 in
theorem T_945 : (Jvm.Cond.methodLink "RecordCallsModel" (159 : Nat) ({ cls := "RecordCallsModel", name := "keep", desc := "(II)V" } : Jvm.MethodName)) ∈ rc_tb := rc_tm4 (List.mem_of_getElem? (i := 225) rfl) rfl
set_option maxRecDepth 20000 in
theorem T_946 : (Jvm.Cond.privateMethod ({ cls := "RecordCallsModel", name := "keep", desc := "(II)V" } : Jvm.MethodName)) ∈ rc_tb := rc_tm4 (List.mem_of_getElem? (i := 226) rfl) rfl
set_option maxRecDepth 20000 in
theorem T_947 : (Jvm.Cond.instanceMethod ({ cls := "RecordCallsModel", name := "keep", desc := "(II)V" } : Jvm.MethodName)) ∈ rc_tb := rc_tm4 (List.mem_of_getElem? (i := 227) rfl) rfl
set_option maxRecDepth 20000 in
theorem T_948 : (Jvm.Cond.code ({ cls := "RecordCallsModel", name := "keep", desc := "(II)V" } : Jvm.MethodName) prog_9_method_22_code (5 : Nat) (Option.none : Option Jvm.ClassFile.FieldType)) ∈ rc_tb := rc_tm4 (List.mem_of_getElem? (i := 228) rfl) rfl
set_option maxRecDepth 20000 in
theorem T_949 : (Jvm.Cond.methodLink "RecordCallsLaw" (93 : Nat) ({ cls := "RecordCallsModel", name := "open", desc := "(I)Z" } : Jvm.MethodName)) ∈ rc_tb := rc_tm4 (List.mem_of_getElem? (i := 229) rfl) rfl
set_option maxRecDepth 20000 in
theorem T_950 : (Jvm.Cond.instanceMethod ({ cls := "RecordCallsModel", name := "open", desc := "(I)Z" } : Jvm.MethodName)) ∈ rc_tb := rc_tm4 (List.mem_of_getElem? (i := 230) rfl) rfl
set_option maxRecDepth 20000 in
theorem T_951 : (Jvm.Cond.selects "RecordCallsModel" ({ cls := "RecordCallsModel", name := "open", desc := "(I)Z" } : Jvm.MethodName) ({ cls := "RecordCallsModel", name := "open", desc := "(I)Z" } : Jvm.MethodName)) ∈ rc_tb := rc_tm4 (List.mem_of_getElem? (i := 231) rfl) rfl
set_option maxRecDepth 20000 in
theorem T_952 : (Jvm.Cond.code ({ cls := "RecordCallsModel", name := "open", desc := "(I)Z" } : Jvm.MethodName) prog_9_method_13_code (3 : Nat) (Option.some Jvm.ClassFile.FieldType.boolean)) ∈ rc_tb := rc_tm4 (List.mem_of_getElem? (i := 232) rfl) rfl
set_option maxRecDepth 20000 in
theorem T_953 : (Jvm.Cond.methodLink "RecordCallsLaw" (64 : Nat) ({ cls := "RecordCallsModel", name := "feed", desc := "(IIIII)I" } : Jvm.MethodName)) ∈ rc_tb := rc_tm4 (List.mem_of_getElem? (i := 233) rfl) rfl
set_option maxRecDepth 20000 in
theorem T_954 : (Jvm.Cond.instanceMethod ({ cls := "RecordCallsModel", name := "feed", desc := "(IIIII)I" } : Jvm.MethodName)) ∈ rc_tb := rc_tm4 (List.mem_of_getElem? (i := 234) rfl) rfl
set_option maxRecDepth 20000 in
theorem T_955 : (Jvm.Cond.selects "RecordCallsModel" ({ cls := "RecordCallsModel", name := "feed", desc := "(IIIII)I" } : Jvm.MethodName) ({ cls := "RecordCallsModel", name := "feed", desc := "(IIIII)I" } : Jvm.MethodName)) ∈ rc_tb := rc_tm4 (List.mem_of_getElem? (i := 235) rfl) rfl
set_option maxRecDepth 20000 in
theorem T_956 : (Jvm.Cond.code ({ cls := "RecordCallsModel", name := "feed", desc := "(IIIII)I" } : Jvm.MethodName) prog_9_method_34_code (8 : Nat) (Option.some Jvm.ClassFile.FieldType.int)) ∈ rc_tb := rc_tm4 (List.mem_of_getElem? (i := 236) rfl) rfl
set_option maxRecDepth 20000 in
theorem T_957 : (Jvm.Cond.methodLink "RecordCallsLaw" (72 : Nat) ({ cls := "RecordCallsModel", name := "end", desc := "(I)V" } : Jvm.MethodName)) ∈ rc_tb := rc_tm4 (List.mem_of_getElem? (i := 237) rfl) rfl
set_option maxRecDepth 20000 in
theorem T_958 : (Jvm.Cond.instanceMethod ({ cls := "RecordCallsModel", name := "end", desc := "(I)V" } : Jvm.MethodName)) ∈ rc_tb := rc_tm4 (List.mem_of_getElem? (i := 238) rfl) rfl
set_option maxRecDepth 20000 in
theorem T_959 : (Jvm.Cond.selects "RecordCallsModel" ({ cls := "RecordCallsModel", name := "end", desc := "(I)V" } : Jvm.MethodName) ({ cls := "RecordCallsModel", name := "end", desc := "(I)V" } : Jvm.MethodName)) ∈ rc_tb := rc_tm4 (List.mem_of_getElem? (i := 239) rfl) rfl
set_option maxRecDepth 20000 in
theorem T_960 : (Jvm.Cond.code ({ cls := "RecordCallsModel", name := "end", desc := "(I)V" } : Jvm.MethodName) prog_9_method_35_code (2 : Nat) (Option.none : Option Jvm.ClassFile.FieldType)) ∈ rc_tb := rc_tm5 (List.mem_of_getElem? (i := 0) rfl) rfl
set_option maxRecDepth 20000 in
theorem T_961 : (Jvm.Cond.methodLink "RecordCallsLaw" (96 : Nat) ({ cls := "RecordCallsModel", name := "length", desc := "(I)I" } : Jvm.MethodName)) ∈ rc_tb := rc_tm5 (List.mem_of_getElem? (i := 1) rfl) rfl
set_option maxRecDepth 20000 in
theorem T_962 : (Jvm.Cond.instanceMethod ({ cls := "RecordCallsModel", name := "length", desc := "(I)I" } : Jvm.MethodName)) ∈ rc_tb := rc_tm5 (List.mem_of_getElem? (i := 2) rfl) rfl
set_option maxRecDepth 20000 in
theorem T_963 : (Jvm.Cond.selects "RecordCallsModel" ({ cls := "RecordCallsModel", name := "length", desc := "(I)I" } : Jvm.MethodName) ({ cls := "RecordCallsModel", name := "length", desc := "(I)I" } : Jvm.MethodName)) ∈ rc_tb := rc_tm5 (List.mem_of_getElem? (i := 3) rfl) rfl
set_option maxRecDepth 20000 in
theorem T_964 : (Jvm.Cond.code ({ cls := "RecordCallsModel", name := "length", desc := "(I)I" } : Jvm.MethodName) prog_9_method_36_code (2 : Nat) (Option.some Jvm.ClassFile.FieldType.int)) ∈ rc_tb := rc_tm5 (List.mem_of_getElem? (i := 4) rfl) rfl
set_option maxRecDepth 20000 in
theorem T_965 : (Jvm.Cond.methodLink "RecordCallsLaw" (100 : Nat) ({ cls := "RecordCallsModel", name := "byteAt", desc := "(II)I" } : Jvm.MethodName)) ∈ rc_tb := rc_tm5 (List.mem_of_getElem? (i := 5) rfl) rfl
set_option maxRecDepth 20000 in
theorem T_966 : (Jvm.Cond.instanceMethod ({ cls := "RecordCallsModel", name := "byteAt", desc := "(II)I" } : Jvm.MethodName)) ∈ rc_tb := rc_tm5 (List.mem_of_getElem? (i := 6) rfl) rfl
set_option maxRecDepth 20000 in
theorem T_967 : (Jvm.Cond.selects "RecordCallsModel" ({ cls := "RecordCallsModel", name := "byteAt", desc := "(II)I" } : Jvm.MethodName) ({ cls := "RecordCallsModel", name := "byteAt", desc := "(II)I" } : Jvm.MethodName)) ∈ rc_tb := rc_tm5 (List.mem_of_getElem? (i := 7) rfl) rfl
set_option maxRecDepth 20000 in
theorem T_968 : (Jvm.Cond.code ({ cls := "RecordCallsModel", name := "byteAt", desc := "(II)I" } : Jvm.MethodName) prog_9_method_37_code (3 : Nat) (Option.some Jvm.ClassFile.FieldType.int)) ∈ rc_tb := rc_tm5 (List.mem_of_getElem? (i := 8) rfl) rfl
set_option maxRecDepth 20000 in
theorem T_969 : (Jvm.Cond.methodLink "RecordCallsLaw" (103 : Nat) ({ cls := "RecordCallsModel", name := "word", desc := "(II)I" } : Jvm.MethodName)) ∈ rc_tb := rc_tm5 (List.mem_of_getElem? (i := 9) rfl) rfl
set_option maxRecDepth 20000 in
theorem T_970 : (Jvm.Cond.instanceMethod ({ cls := "RecordCallsModel", name := "word", desc := "(II)I" } : Jvm.MethodName)) ∈ rc_tb := rc_tm5 (List.mem_of_getElem? (i := 10) rfl) rfl
set_option maxRecDepth 20000 in
theorem T_971 : (Jvm.Cond.selects "RecordCallsModel" ({ cls := "RecordCallsModel", name := "word", desc := "(II)I" } : Jvm.MethodName) ({ cls := "RecordCallsModel", name := "word", desc := "(II)I" } : Jvm.MethodName)) ∈ rc_tb := rc_tm5 (List.mem_of_getElem? (i := 11) rfl) rfl
set_option maxRecDepth 20000 in
theorem T_972 : (Jvm.Cond.code ({ cls := "RecordCallsModel", name := "word", desc := "(II)I" } : Jvm.MethodName) prog_9_method_39_code (3 : Nat) (Option.some Jvm.ClassFile.FieldType.int)) ∈ rc_tb := rc_tm5 (List.mem_of_getElem? (i := 12) rfl) rfl
set_option maxRecDepth 20000 in
theorem T_973 : (Jvm.Cond.methodLink "RecordCallsModel" (211 : Nat) ({ cls := "RecordCallsModel", name := "wordIn", desc := "(II)I" } : Jvm.MethodName)) ∈ rc_tb := rc_tm5 (List.mem_of_getElem? (i := 13) rfl) rfl
set_option maxRecDepth 20000 in
theorem T_974 : (Jvm.Cond.privateMethod ({ cls := "RecordCallsModel", name := "wordIn", desc := "(II)I" } : Jvm.MethodName)) ∈ rc_tb := rc_tm5 (List.mem_of_getElem? (i := 14) rfl) rfl
set_option maxRecDepth 20000 in
theorem T_975 : (Jvm.Cond.instanceMethod ({ cls := "RecordCallsModel", name := "wordIn", desc := "(II)I" } : Jvm.MethodName)) ∈ rc_tb := rc_tm5 (List.mem_of_getElem? (i := 15) rfl) rfl
set_option maxRecDepth 20000 in
theorem T_976 : (Jvm.Cond.code ({ cls := "RecordCallsModel", name := "wordIn", desc := "(II)I" } : Jvm.MethodName) prog_9_method_38_code (5 : Nat) (Option.some Jvm.ClassFile.FieldType.int)) ∈ rc_tb := rc_tm5 (List.mem_of_getElem? (i := 16) rfl) rfl
set_option maxRecDepth 20000 in
theorem T_977 : (Jvm.Cond.methodLink "RecordCallsLaw" (106 : Nat) ({ cls := "RecordCallsModel", name := "says", desc := "(II)I" } : Jvm.MethodName)) ∈ rc_tb := rc_tm5 (List.mem_of_getElem? (i := 17) rfl) rfl
set_option maxRecDepth 20000 in
theorem T_978 : (Jvm.Cond.instanceMethod ({ cls := "RecordCallsModel", name := "says", desc := "(II)I" } : Jvm.MethodName)) ∈ rc_tb := rc_tm5 (List.mem_of_getElem? (i := 18) rfl) rfl
set_option maxRecDepth 20000 in
theorem T_979 : (Jvm.Cond.selects "RecordCallsModel" ({ cls := "RecordCallsModel", name := "says", desc := "(II)I" } : Jvm.MethodName) ({ cls := "RecordCallsModel", name := "says", desc := "(II)I" } : Jvm.MethodName)) ∈ rc_tb := rc_tm5 (List.mem_of_getElem? (i := 19) rfl) rfl
set_option maxRecDepth 20000 in
theorem T_980 : (Jvm.Cond.code ({ cls := "RecordCallsModel", name := "says", desc := "(II)I" } : Jvm.MethodName) prog_9_method_42_code (10 : Nat) (Option.some Jvm.ClassFile.FieldType.int)) ∈ rc_tb := rc_tm5 (List.mem_of_getElem? (i := 20) rfl) rfl
set_option maxRecDepth 20000 in
theorem T_981 : (Jvm.Cond.methodLink "RecordCallsModel" (215 : Nat) ({ cls := "RecordCallsModel", name := "wholeRecord", desc := "(I)I" } : Jvm.MethodName)) ∈ rc_tb := rc_tm5 (List.mem_of_getElem? (i := 21) rfl) rfl
set_option maxRecDepth 20000 in
theorem T_982 : (Jvm.Cond.privateMethod ({ cls := "RecordCallsModel", name := "wholeRecord", desc := "(I)I" } : Jvm.MethodName)) ∈ rc_tb := rc_tm5 (List.mem_of_getElem? (i := 22) rfl) rfl
set_option maxRecDepth 20000 in
theorem T_983 : (Jvm.Cond.instanceMethod ({ cls := "RecordCallsModel", name := "wholeRecord", desc := "(I)I" } : Jvm.MethodName)) ∈ rc_tb := rc_tm5 (List.mem_of_getElem? (i := 23) rfl) rfl
set_option maxRecDepth 20000 in
theorem T_984 : (Jvm.Cond.code ({ cls := "RecordCallsModel", name := "wholeRecord", desc := "(I)I" } : Jvm.MethodName) prog_9_method_40_code (9 : Nat) (Option.some Jvm.ClassFile.FieldType.int)) ∈ rc_tb := rc_tm5 (List.mem_of_getElem? (i := 24) rfl) rfl
set_option maxRecDepth 20000 in
theorem T_985 : (Jvm.Cond.methodLink "RecordCallsModel" (218 : Nat) ({ cls := "RecordCallsModel", name := "pushedWord", desc := "(I)I" } : Jvm.MethodName)) ∈ rc_tb := rc_tm5 (List.mem_of_getElem? (i := 25) rfl) rfl
set_option maxRecDepth 20000 in
theorem T_986 : (Jvm.Cond.privateMethod ({ cls := "RecordCallsModel", name := "pushedWord", desc := "(I)I" } : Jvm.MethodName)) ∈ rc_tb := rc_tm5 (List.mem_of_getElem? (i := 26) rfl) rfl
set_option maxRecDepth 20000 in
theorem T_987 : (Jvm.Cond.instanceMethod ({ cls := "RecordCallsModel", name := "pushedWord", desc := "(I)I" } : Jvm.MethodName)) ∈ rc_tb := rc_tm5 (List.mem_of_getElem? (i := 27) rfl) rfl
set_option maxRecDepth 20000 in
theorem T_988 : (Jvm.Cond.code ({ cls := "RecordCallsModel", name := "pushedWord", desc := "(I)I" } : Jvm.MethodName) prog_9_method_41_code (4 : Nat) (Option.some Jvm.ClassFile.FieldType.int)) ∈ rc_tb := rc_tm5 (List.mem_of_getElem? (i := 28) rfl) rfl
set_option maxRecDepth 20000 in
theorem T_989 : (Jvm.Cond.methodLink "RecordCallsLaw" (111 : Nat) ({ cls := "RecordCallsModel", name := "value", desc := "()J" } : Jvm.MethodName)) ∈ rc_tb := rc_tm5 (List.mem_of_getElem? (i := 29) rfl) rfl
set_option maxRecDepth 20000 in
theorem T_990 : (Jvm.Cond.instanceMethod ({ cls := "RecordCallsModel", name := "value", desc := "()J" } : Jvm.MethodName)) ∈ rc_tb := rc_tm5 (List.mem_of_getElem? (i := 30) rfl) rfl
set_option maxRecDepth 20000 in
theorem T_991 : (Jvm.Cond.selects "RecordCallsModel" ({ cls := "RecordCallsModel", name := "value", desc := "()J" } : Jvm.MethodName) ({ cls := "RecordCallsModel", name := "value", desc := "()J" } : Jvm.MethodName)) ∈ rc_tb := rc_tm5 (List.mem_of_getElem? (i := 31) rfl) rfl
set_option maxRecDepth 20000 in
theorem T_992 : (Jvm.Cond.code ({ cls := "RecordCallsModel", name := "value", desc := "()J" } : Jvm.MethodName) prog_9_method_44_code (1 : Nat) (Option.some Jvm.ClassFile.FieldType.long)) ∈ rc_tb := rc_tm5 (List.mem_of_getElem? (i := 32) rfl) rfl
set_option maxRecDepth 20000 in
theorem T_993 : (Jvm.Cond.methodLink "RecordCallsModel" (221 : Nat) ({ cls := "RecordCallsModel", name := "tapePlace", desc := "()I" } : Jvm.MethodName)) ∈ rc_tb := rc_tm5 (List.mem_of_getElem? (i := 33) rfl) rfl
set_option maxRecDepth 20000 in
theorem T_994 : (Jvm.Cond.privateMethod ({ cls := "RecordCallsModel", name := "tapePlace", desc := "()I" } : Jvm.MethodName)) ∈ rc_tb := rc_tm5 (List.mem_of_getElem? (i := 34) rfl) rfl
set_option maxRecDepth 20000 in
theorem T_995 : (Jvm.Cond.instanceMethod ({ cls := "RecordCallsModel", name := "tapePlace", desc := "()I" } : Jvm.MethodName)) ∈ rc_tb := rc_tm5 (List.mem_of_getElem? (i := 35) rfl) rfl
set_option maxRecDepth 20000 in
theorem T_996 : (Jvm.Cond.code ({ cls := "RecordCallsModel", name := "tapePlace", desc := "()I" } : Jvm.MethodName) prog_9_method_43_code (4 : Nat) (Option.some Jvm.ClassFile.FieldType.int)) ∈ rc_tb := rc_tm5 (List.mem_of_getElem? (i := 36) rfl) rfl
set_option maxRecDepth 20000 in
theorem T_997 : (Jvm.Cond.methodLink "RecordCallsLaw" (116 : Nat) ({ cls := "RecordCallsModel", name := "has", desc := "()Z" } : Jvm.MethodName)) ∈ rc_tb := rc_tm5 (List.mem_of_getElem? (i := 37) rfl) rfl
set_option maxRecDepth 20000 in
theorem T_998 : (Jvm.Cond.instanceMethod ({ cls := "RecordCallsModel", name := "has", desc := "()Z" } : Jvm.MethodName)) ∈ rc_tb := rc_tm5 (List.mem_of_getElem? (i := 38) rfl) rfl
set_option maxRecDepth 20000 in
theorem T_999 : (Jvm.Cond.selects "RecordCallsModel" ({ cls := "RecordCallsModel", name := "has", desc := "()Z" } : Jvm.MethodName) ({ cls := "RecordCallsModel", name := "has", desc := "()Z" } : Jvm.MethodName)) ∈ rc_tb := rc_tm5 (List.mem_of_getElem? (i := 39) rfl) rfl
set_option maxRecDepth 20000 in
theorem T_1000 : (Jvm.Cond.code ({ cls := "RecordCallsModel", name := "has", desc := "()Z" } : Jvm.MethodName) prog_9_method_45_code (1 : Nat) (Option.some Jvm.ClassFile.FieldType.boolean)) ∈ rc_tb := rc_tm5 (List.mem_of_getElem? (i := 40) rfl) rfl
set_option maxRecDepth 20000 in
theorem T_1001 : (Jvm.Cond.methodLink "RecordCallsLaw" (119 : Nat) ({ cls := "RecordCallsModel", name := "count", desc := "(I)I" } : Jvm.MethodName)) ∈ rc_tb := rc_tm5 (List.mem_of_getElem? (i := 41) rfl) rfl
set_option maxRecDepth 20000 in
theorem T_1002 : (Jvm.Cond.instanceMethod ({ cls := "RecordCallsModel", name := "count", desc := "(I)I" } : Jvm.MethodName)) ∈ rc_tb := rc_tm5 (List.mem_of_getElem? (i := 42) rfl) rfl
set_option maxRecDepth 20000 in
theorem T_1003 : (Jvm.Cond.selects "RecordCallsModel" ({ cls := "RecordCallsModel", name := "count", desc := "(I)I" } : Jvm.MethodName) ({ cls := "RecordCallsModel", name := "count", desc := "(I)I" } : Jvm.MethodName)) ∈ rc_tb := rc_tm5 (List.mem_of_getElem? (i := 43) rfl) rfl
set_option maxRecDepth 20000 in
theorem T_1004 : (Jvm.Cond.code ({ cls := "RecordCallsModel", name := "count", desc := "(I)I" } : Jvm.MethodName) prog_9_method_46_code (2 : Nat) (Option.some Jvm.ClassFile.FieldType.int)) ∈ rc_tb := rc_tm5 (List.mem_of_getElem? (i := 44) rfl) rfl
set_option maxRecDepth 20000 in
theorem T_1005 : (Jvm.Cond.constantLong "RecordCallsLaw" (81 : Nat) (4294967295 : Int64)) ∈ rc_tb := rc_tm5 (List.mem_of_getElem? (i := 45) rfl) rfl
set_option maxRecDepth 20000 in
theorem T_1006 : (Jvm.Cond.sameMethod "java/lang/Throwable" "java/lang/Throwable" "fillInStackTrace" "(I)Ljava/lang/Throwable;") ∈ rc_tb := rc_tm5 (List.mem_of_getElem? (i := 46) rfl) rfl
end
section
/-! THE WORLD: addresses to cells (objects, arrays, rows with their bytes hidden), how many cells there are, how many slots since the start, the limits of both -/
abbrev rc_A : Type := (Nat → Int32) ⊕ (Nat → Int64) ⊕ (Nat → Option Nat)
abbrev rc_E : Type := (Nat × (Nat → Value)) ⊕ (Nat × Nat × rc_A) ⊕ (Nat × List UInt8)
abbrev rc_M : Type := (Nat → Option rc_E) × Nat × Nat × Nat × Nat
abbrev rc_z (w : rc_M) : Nat := w.2.1
abbrev rc_tz (w : rc_M) : Nat := w.2.2.1
abbrev rc_zc (w : rc_M) : Nat := w.2.2.2.1
abbrev rc_zs (w : rc_M) : Nat := w.2.2.2.2
/-- the classes' numbers and slots, the array classes' numbers, the first own address, the limits -/
abbrev rc_G : Type := va_G × (Nat → ClassId) × Nat × Nat × Nat
abbrev rc_b (G : rc_G) : Nat := G.2.2.1
def rc_sx (b : UInt8) : Int32 := b.toInt8.toInt32
def rc_cell (cA : ClassId) (n : Nat) (a : rc_A) : Cell := match a with
  | .inl f => arrV cA n (fun j => .int (f j))
  | .inr (.inl f) => arrV cA n (fun j => .long (f j))
  | .inr (.inr f) => arrV cA n (fun j => va_rf (f j))
theorem rc_cell_size (cA : ClassId) (n : Nat) (a : rc_A) : (rc_cell cA n a).slots.size = n := by
  rcases a with f | f | f <;> exact arrV_size _ _ _
def rc_at (G : rc_G) (β : Nat → Nat) (a : Nat) (e : rc_E) (H : Heap) : Prop := match e with
  | .inl o => o.1 < 8 ∧ t_OB a (G.1.1 o.1) (rc_N o.1) (G.1.2 o.1) H o.2
  | .inr (.inl x) => H[a]? = some (rc_cell (G.2.1 x.1) x.2.1 x.2.2)
  | .inr (.inr w) => t_OB a (G.1.1 1) 2 (G.1.2 1) H (fun j => if j = 0 then .ref (β a) else .int (nI w.2.length)) ∧ w.2.length ≤ w.1 ∧
      ∃ f : Nat → Int32, H[β a]? = some (rc_cell (G.2.1 2) w.1 (.inl f)) ∧ sb_Fit f ∧ ∀ (i : Nat) (x : UInt8), w.2[i]? = some x → f i = rc_sx x
def rc_isRow (e : Option rc_E) : Prop := ∃ w, e = some (.inr (.inr w))
/-- the slots of the cells from z on -/
def rc_nw (z : Nat) (H : Heap) : Nat := ((H.toList.drop z).map (·.slots.size)).sum
def rc_B (G : rc_G) (M : Nat → Option rc_E) (β : Nat → Nat) (H : Heap) : Prop :=
  (∀ (a : Nat) (e : rc_E), M a = some e → rc_b G ≤ a ∧ rc_at G β a e H) ∧
  ∀ a : Nat, rc_isRow (M a) → rc_b G ≤ β a ∧ M (β a) = none ∧ ∀ a' : Nat, rc_isRow (M a') → β a = β a' → a = a'
/-- no cell from b on is a class's statics -/
def rc_pl (b : Nat) (H : Heap) : Prop := ∀ (q : Nat) (c : Cell), b ≤ q → H[q]? = some c → c.vm = .none
def rc_H (G : rc_G) (w : rc_M) (H : Heap) : Prop :=
  rc_b G ≤ H.size ∧ w.2.1 = H.size ∧ w.2.2.1 = rc_nw (rc_b G) H ∧ (w.2.1 ≤ rc_zc w ∧ w.2.2.1 ≤ rc_zs w ∧ rc_pl (rc_b G) H) ∧ w.2.2.2 = G.2.2.2 ∧ ∃ β : Nat → Nat, rc_B G w.1 β H
theorem rc_at.kept {G : rc_G} {β : Nat → Nat} {a : Nat} {e : rc_E} {H H1 : Heap} (h : rc_at G β a e H) (h1 : H1[a]? = H[a]?) (h2 : rc_isRow (some e) → H1[β a]? = H[β a]?) : rc_at G β a e H1 := by
  rcases e with o | x | w
  · exact ⟨h.1, h.2.kept h1⟩
  · exact h1.trans h
  · obtain ⟨q1, q2, f, q3, q4⟩ := h
    exact ⟨q1.kept h1, q2, f, (h2 ⟨w, rfl⟩).trans q3, q4⟩
theorem rc_at.lt {G : rc_G} {β : Nat → Nat} {a : Nat} {e : rc_E} {H : Heap} (h : rc_at G β a e H) : a < H.size := by
  rcases e with o | x | w
  · obtain ⟨-, cell, q, -⟩ := h
    exact (Array.getElem?_eq_some_iff.mp q).1
  · exact (Array.getElem?_eq_some_iff.mp h).1
  · obtain ⟨⟨cell, q, -⟩, -⟩ := h
    exact (Array.getElem?_eq_some_iff.mp q).1
theorem rc_at.plain {G : rc_G} {β : Nat → Nat} {a : Nat} {e : rc_E} {H : Heap} (h : rc_at G β a e H) (hr : ¬ rc_isRow (some e)) {c : Cell} (hc : H[a]? = some c) : c.vm = .none := by
  rcases e with o | x | w
  · obtain ⟨-, cell, q, -, q3, -⟩ := h
    cases q.symm.trans hc
    exact q3
  · have h' : H[a]? = some (rc_cell (G.2.1 x.1) x.2.1 x.2.2) := h
    cases h'.symm.trans hc
    rcases x.2.2 with f | f | f <;> rfl
  · exact absurd ⟨w, rfl⟩ hr
theorem rc_at.bytes {G : rc_G} {β : Nat → Nat} {a : Nat} {e : rc_E} {H : Heap} (h : rc_at G β a e H) (hr : rc_isRow (some e)) : β a < H.size := by
  obtain ⟨w, hw⟩ := hr
  cases hw
  obtain ⟨-, -, f, q, -⟩ := h
  exact (Array.getElem?_eq_some_iff.mp q).1
/-- of what is no row the hidden addresses say nothing -/
theorem rc_at.beta {G : rc_G} {β β' : Nat → Nat} {a : Nat} {e : rc_E} {H : Heap} (h : rc_at G β a e H) (hr : rc_isRow (some e) → β' a = β a) : rc_at G β' a e H := by
  rcases e with o | x | w
  · exact h
  · exact h
  · have e1 := hr ⟨w, rfl⟩
    unfold rc_at at h ⊢
    simp only [e1]
    exact h
theorem rc_nw_set {z : Nat} {H H1 : Heap} (hz : H1.size = H.size) (h : ∀ q : Nat, (H1[q]?).map (fun c : Cell => c.slots.size) = (H[q]?).map (fun c : Cell => c.slots.size)) : rc_nw z H1 = rc_nw z H := by
  unfold rc_nw
  congr 1
  apply List.ext_getElem?
  intro i
  have := h (z + i)
  simp only [List.getElem?_map, List.getElem?_drop, Array.getElem?_toList] at this ⊢
  exact this
theorem rc_nw_push {z : Nat} {H H1 : Heap} {c : Cell} (hb : z ≤ H.size) (hz : H1.size = H.size + 1) (hn : H1[H.size]? = some c) (h : ∀ q : Nat, q < H.size → H1[q]? = H[q]?) : rc_nw z H1 = rc_nw z H + c.slots.size := by
  have e1 : H1.toList = H.toList ++ [c] := by
    apply List.ext_getElem?
    intro i
    rcases Nat.lt_trichotomy i H.size with hi | hi | hi
    · rw [Array.getElem?_toList, h i hi, List.getElem?_append_left (by simpa using hi), Array.getElem?_toList]
    · subst hi
      rw [Array.getElem?_toList, hn]
      simp
    · rw [List.getElem?_eq_none (by simp; omega), List.getElem?_eq_none (by simp; omega)]
  unfold rc_nw
  rw [e1, List.drop_append_of_le_length (by simpa using hb)]
  simp
theorem rc_nw_split {z : Nat} {H0 H : Heap} (hz : z ≤ H0.size) (h01 : H0.size ≤ H.size) (h : ∀ q : Nat, q < H0.size → (H[q]?).map (fun c : Cell => c.slots.size) = (H0[q]?).map (fun c : Cell => c.slots.size)) : rc_nw z H = rc_nw z H0 + rc_nw H0.size H := by
  unfold rc_nw
  have e1 : (H.toList.drop z).map (fun c : Cell => c.slots.size) = (H0.toList.drop z).map (fun c : Cell => c.slots.size) ++ (H.toList.drop H0.size).map (fun c : Cell => c.slots.size) := by
    apply List.ext_getElem?
    intro i
    by_cases hi : z + i < H0.size
    · rw [List.getElem?_append_left (by simp; omega)]
      have := h (z + i) hi
      simp only [List.getElem?_map, List.getElem?_drop, Array.getElem?_toList] at this ⊢
      exact this
    · rw [List.getElem?_append_right (by simp; omega)]
      simp only [List.getElem?_map, List.getElem?_drop, Array.getElem?_toList, List.length_map, List.length_drop, Array.length_toList]
      congr 2
      omega
  rw [e1, List.sum_append]
/-- one cell of a world is another one -/
def rc_up (w : rc_M) (a : Nat) (e : rc_E) : rc_M := (va_up w.1 a (some e), w.2)
theorem rc_H.set {G : rc_G} {w : rc_M} {H H1 : Heap} {a : Nat} {e0 e : rc_E} (h : rc_H G w H) (h0 : w.1 a = some e0) (hr0 : ¬ rc_isRow (some e0)) (hr : ¬ rc_isRow (some e)) (hz : H1.size = H.size)
    (hs : ∀ c0 : Cell, H[a]? = some c0 → ∃ c1 : Cell, H1[a]? = some c1 ∧ c1.slots.size = c0.slots.size) (ho : ∀ q : Nat, q ≠ a → H1[q]? = H[q]?) (he : ∀ β : Nat → Nat, rc_at G β a e H1) : rc_H G (rc_up w a e) H1 := by
  obtain ⟨h1, h2, h3, h4, h5, β, hB, hR⟩ := h
  have hlt : a < H.size := (hB a e0 h0).2.lt
  have rowne : ∀ q : Nat, rc_isRow (va_up w.1 a (some e) q) → q ≠ a ∧ rc_isRow (w.1 q) := by
    intro q hq
    by_cases e1 : q = a
    · subst e1
      rw [va_up, if_pos rfl] at hq
      exact absurd hq hr
    · rw [va_up, if_neg e1] at hq
      exact ⟨e1, hq⟩
  refine ⟨by rw [hz]; exact h1, by rw [hz]; exact h2, ?_, ⟨h4.1, h4.2.1, fun q c hq hc => ?_⟩, h5, β, fun q x hx => ?_, fun q hq => ?_⟩
  · rw [rc_nw_set hz]
    · exact h3
    · intro q
      by_cases e1 : q = a
      · subst e1
        obtain ⟨c1, g1, g2⟩ := hs _ (Array.getElem?_eq_getElem hlt)
        rw [g1, Array.getElem?_eq_getElem hlt]
        simp [g2]
      · rw [ho q e1]
  · by_cases e1 : q = a
    · subst e1
      exact (he β).plain hr hc
    · rw [ho q e1] at hc
      exact h4.2.2 q c hq hc
  · by_cases e1 : q = a
    · subst e1
      rw [show (rc_up w q e).1 q = some e by simp [rc_up, va_up]] at hx
      cases hx
      exact ⟨(hB q e0 h0).1, he β⟩
    · rw [show (rc_up w a e).1 q = w.1 q by simp [rc_up, va_up, e1]] at hx
      obtain ⟨g1, g2⟩ := hB q x hx
      refine ⟨g1, g2.kept (ho q e1) (fun hrw => ho _ (fun e2 => ?_))⟩
      have := (hR q (by rw [hx]; exact hrw)).2.1
      rw [e2, h0] at this
      cases this
  · obtain ⟨g0, g1⟩ := rowne q hq
    obtain ⟨g2, g3, g4⟩ := hR q g1
    refine ⟨g2, ?_, fun q' hq' => g4 q' (rowne q' hq').2⟩
    by_cases e2 : β q = a
    · rw [e2, h0] at g3
      cases g3
    · rw [show (rc_up w a e).1 (β q) = w.1 (β q) by simp [rc_up, va_up, e2]]
      exact g3
/-- one cell more -/
def rc_push (w : rc_M) (e : rc_E) (n : Nat) : rc_M := (va_up w.1 w.2.1 (some e), w.2.1 + 1, w.2.2.1 + n, w.2.2.2)
theorem rc_H.push {G : rc_G} {w : rc_M} {H H1 : Heap} {e : rc_E} {c : Cell} (h : rc_H G w H) (hr : ¬ rc_isRow (some e)) (hz : H1.size = H.size + 1) (hn : H1[H.size]? = some c) (ho : ∀ q : Nat, q < H.size → H1[q]? = H[q]?)
    (hc : w.2.1 + 1 ≤ rc_zc w) (hs : w.2.2.1 + c.slots.size ≤ rc_zs w) (he : ∀ β : Nat → Nat, rc_at G β H.size e H1) : rc_H G (rc_push w e c.slots.size) H1 := by
  obtain ⟨h1, h2, h3, h4, h5, β, hB, hR⟩ := h
  have hlt : ∀ (q : Nat) (x : rc_E), w.1 q = some x → q < H.size := fun q x hx => (hB q x hx).2.lt
  have old : ∀ q : Nat, q < H.size → (rc_push w e c.slots.size).1 q = w.1 q := by
    intro q hq
    simp [rc_push, va_up, h2, Nat.ne_of_lt hq]
  have rowne : ∀ q : Nat, rc_isRow ((rc_push w e c.slots.size).1 q) → q < H.size ∧ rc_isRow (w.1 q) := by
    intro q hq
    by_cases e1 : q = H.size
    · subst e1
      rw [show (rc_push w e c.slots.size).1 H.size = some e by simp [rc_push, va_up, h2]] at hq
      exact absurd hq hr
    · have e2 : (rc_push w e c.slots.size).1 q = w.1 q := by simp [rc_push, va_up, h2, e1]
      rw [e2] at hq
      obtain ⟨x, hx⟩ := hq
      exact ⟨hlt q _ hx, x, hx⟩
  refine ⟨by omega, by show w.2.1 + 1 = _; omega, ?_, ⟨hc, hs, fun q c' hq hc' => ?_⟩, h5, β, fun q x hx => ?_, fun q hq => ?_⟩
  · show w.2.2.1 + c.slots.size = _
    rw [rc_nw_push h1 hz hn ho, h3]
  · by_cases e1 : q = H.size
    · subst e1
      exact (he β).plain hr hc'
    · have hl : q < H1.size := (Array.getElem?_eq_some_iff.mp hc').1
      rw [ho q (by omega)] at hc'
      exact h4.2.2 q c' hq hc'
  · by_cases e1 : q = H.size
    · subst e1
      rw [show (rc_push w e c.slots.size).1 H.size = some e by simp [rc_push, va_up, h2]] at hx
      cases hx
      exact ⟨h1, he β⟩
    · have e2 : (rc_push w e c.slots.size).1 q = w.1 q := by simp [rc_push, va_up, h2, e1]
      rw [e2] at hx
      obtain ⟨g1, g2⟩ := hB q x hx
      exact ⟨g1, g2.kept (ho q g2.lt) (fun hrw => ho _ (g2.bytes hrw))⟩
  · obtain ⟨g0, g1⟩ := rowne q hq
    obtain ⟨g2, g3, g4⟩ := hR q g1
    obtain ⟨x, hx⟩ := g1
    have hb1 : β q < H.size := (hB q _ hx).2.bytes ⟨x, rfl⟩
    exact ⟨g2, by rw [old _ hb1]; exact g3, fun q' hq' => g4 q' (rowne q' hq').2⟩
end
section
/-! WHAT THE MACHINE'S STEPS ARE ON WORLDS: none where it would throw by itself, or where the room ends -/
def rc_gV (w : rc_M) (r : Option Nat) (ci k : Nat) : Option Value := match r with
  | none => none
  | some a => match w.1 a with
    | some (.inl o) => if o.1 = ci then some (o.2 k) else none
    | _ => none
def rc_gI (w : rc_M) (r : Option Nat) (ci k : Nat) : Option Int32 := match rc_gV w r ci k with
  | some (.int x) => some x
  | _ => none
def rc_gL (w : rc_M) (r : Option Nat) (ci k : Nat) : Option Int64 := match rc_gV w r ci k with
  | some (.long x) => some x
  | _ => none
def rc_gR (w : rc_M) (r : Option Nat) (ci k : Nat) : Option (Option Nat) := match rc_gV w r ci k with
  | some (.ref a) => some (some a)
  | some .null => some none
  | _ => none
def rc_pV (w : rc_M) (r : Option Nat) (ci k : Nat) (v : Value) : Option rc_M := match r with
  | none => none
  | some a => match w.1 a with
    | some (.inl o) => if o.1 = ci then some (rc_up w a (.inl (ci, updV o.2 k v))) else none
    | _ => none
def rc_pI (w : rc_M) (r : Option Nat) (ci k : Nat) (x : Int32) : Option rc_M := rc_pV w r ci k (.int x)
def rc_pZ (w : rc_M) (r : Option Nat) (ci k : Nat) (x : Int32) : Option rc_M := if x = 0 ∨ x = 1 then rc_pV w r ci k (.int x) else none
def rc_pL (w : rc_M) (r : Option Nat) (ci k : Nat) (x : Int64) : Option rc_M := rc_pV w r ci k (.long x)
def rc_pR (w : rc_M) (r : Option Nat) (ci k : Nat) (x : Option Nat) : Option rc_M := rc_pV w r ci k (va_rf x)
/-- an array of a kind -/
def rc_gA (w : rc_M) (r : Option Nat) (kd : Nat) : Option (Nat × Nat × rc_A) := match r with
  | none => none
  | some a => match w.1 a with
    | some (.inr (.inl x)) => if x.1 = kd then some (a, x.2) else none
    | _ => none
def rc_out (i : Int32) (n : Nat) : Prop := i < 0 ∨ n ≤ i.toNatClampNeg
theorem rc_out_in {i : Int32} {n : Nat} : ¬ rc_out i n ↔ vp_in i n := Iff.rfl
def rc_aI (w : rc_M) (r : Option Nat) (kd : Nat) (i : Int32) : Option Int32 := match rc_gA w r kd with
  | some (_, n, .inl f) => if i < 0 ∨ n ≤ i.toNatClampNeg then none else some (f i.toNatClampNeg)
  | _ => none
def rc_aL (w : rc_M) (r : Option Nat) (i : Int32) : Option Int64 := match rc_gA w r 1 with
  | some (_, n, .inr (.inl f)) => if i < 0 ∨ n ≤ i.toNatClampNeg then none else some (f i.toNatClampNeg)
  | _ => none
def rc_aR (w : rc_M) (r : Option Nat) (kd : Nat) (i : Int32) : Option (Option Nat) := match rc_gA w r kd with
  | some (_, n, .inr (.inr f)) => if i < 0 ∨ n ≤ i.toNatClampNeg then none else some (f i.toNatClampNeg)
  | _ => none
def rc_nar (kd : Nat) (x : Int32) : Int32 := if kd = 2 then vp_nar .byte x else if kd = 3 then vp_nar .boolean x else x
def rc_sI (w : rc_M) (r : Option Nat) (kd : Nat) (i x : Int32) : Option rc_M := match rc_gA w r kd with
  | some (a, n, .inl f) => if i < 0 ∨ n ≤ i.toNatClampNeg then none else some (rc_up w a (.inr (.inl (kd, n, .inl (upd f i.toNatClampNeg (rc_nar kd x))))))
  | _ => none
def rc_sL (w : rc_M) (r : Option Nat) (i : Int32) (x : Int64) : Option rc_M := match rc_gA w r 1 with
  | some (a, n, .inr (.inl f)) => if i < 0 ∨ n ≤ i.toNatClampNeg then none else some (rc_up w a (.inr (.inl (1, n, .inr (.inl (vp_updL f i.toNatClampNeg x))))))
  | _ => none
/-- what is stored into an array of objects of class ci (kind kd) is an object of that class, or a row -/
def rc_isC (w : rc_M) (a ci : Nat) : Bool := match w.1 a with
  | some (.inl o) => o.1 == ci
  | some (.inr (.inr _)) => ci == 1
  | _ => false
def rc_sR (w : rc_M) (r : Option Nat) (kd ci : Nat) (i : Int32) (x : Option Nat) : Option rc_M := match rc_gA w r kd with
  | some (a, n, .inr (.inr f)) => if i < 0 ∨ n ≤ i.toNatClampNeg then none else match x with
    | none => none
    | some y => if rc_isC w y ci = true then some (rc_up w a (.inr (.inl (kd, n, .inr (.inr (va_up f i.toNatClampNeg (some y))))))) else none
  | _ => none
def rc_ln (w : rc_M) (r : Option Nat) (kd : Nat) : Option Int32 := match rc_gA w r kd with
  | some (_, n, _) => some (Int32.ofNat n)
  | none => none
/-- a receiver of a class -/
def rc_rc (w : rc_M) (r : Option Nat) (ci : Nat) : Option Nat := match r with
  | none => none
  | some a => if rc_isC w a ci = true then some a else none
def rc_dflt (ci : Nat) : Nat → Value := fun k => defaultValue (rc_t ci k)
def rc_new (w : rc_M) (ci : Nat) : Option (Nat × rc_M) :=
  if w.2.1 + 1 ≤ rc_zc w ∧ w.2.2.1 + rc_N ci ≤ rc_zs w then some (w.2.1, rc_push w (.inl (ci, rc_dflt ci)) (rc_N ci)) else none
def rc_arr0 (kd : Nat) : rc_A := if kd = 1 then .inr (.inl (fun _ => 0)) else if kd = 4 ∨ kd = 5 then .inr (.inr (fun _ => none)) else .inl (fun _ => 0)
def rc_newA (w : rc_M) (kd : Nat) (n : Int32) : Option (Nat × rc_M) :=
  if n < 0 then none else if w.2.1 + 1 ≤ rc_zc w ∧ w.2.2.1 + n.toNatClampNeg ≤ rc_zs w ∧ n.toNatClampNeg ≤ 1000000 then some (w.2.1, rc_push w (.inr (.inl (kd, n.toNatClampNeg, rc_arr0 kd))) n.toNatClampNeg) else none
/-- a boolean's answer -/
def rc_z1 (x : Int32) (w : rc_M) : Option (Int32 × rc_M) := if x = 0 ∨ x = 1 then some (x, w) else none
/-- System.arraycopy of bytes -/
def rc_cp (w : rc_M) (r0 : Option Nat) (sp : Int32) (r1 : Option Nat) (dp n : Int32) : Option rc_M := match rc_gA w r0 2, rc_gA w r1 2 with
  | some (_, n0, .inl f), some (a, n1, .inl g) =>
    if sp < 0 ∨ dp < 0 ∨ n < 0 ∨ n0 < sp.toNatClampNeg + n.toNatClampNeg ∨ n1 < dp.toNatClampNeg + n.toNatClampNeg then none
    else if ∀ i, i < n.toNatClampNeg → fits .byte (.int (f (sp.toNatClampNeg + i))) = true then some (rc_up w a (.inr (.inl (2, n1, .inl (va_cpy f g sp.toNatClampNeg dp.toNatClampNeg n.toNatClampNeg))))) else none
  | _, _ => none
end
section
/-! THE JUDGEMENT: at a program counter, with a world, a stack and known locals, the machine comes to what is asked -/
abbrev rc_X : Type := (Program × Launch × Env × Room × State) × (MethodId × Array Value × List Frame × Method × Code) × rc_G × Nat × (State → Prop)
abbrev q_p (X : rc_X) : Program := X.1.1
abbrev q_l (X : rc_X) : Launch := X.1.2.1
abbrev q_e (X : rc_X) : Env := X.1.2.2.1
abbrev q_R (X : rc_X) : Room := X.1.2.2.2.1
abbrev q_s (X : rc_X) : State := X.1.2.2.2.2
abbrev q_m (X : rc_X) : MethodId := X.2.1.1
abbrev q_a (X : rc_X) : Array Value := X.2.1.2.1
abbrev q_b (X : rc_X) : List Frame := X.2.1.2.2.1
abbrev q_t (X : rc_X) : Method := X.2.1.2.2.2.1
abbrev q_c (X : rc_X) : Code := X.2.1.2.2.2.2
abbrev q_G (X : rc_X) : rc_G := X.2.2.1
abbrev q_n (X : rc_X) : Nat := X.2.2.2.1
abbrev q_Q (X : rc_X) : State → Prop := X.2.2.2.2
def rc_tys (G : rc_G) : List (ClassId × FieldType) := [(G.2.1 0, .int), (G.2.1 1, .long), (G.2.1 2, .byte), (G.2.1 3, .boolean), (G.2.1 4, .object (rc_R 1)), (G.2.1 5, .object (rc_R 5))]
def rc_K (G : rc_G) (U : State) : Prop := va_K G.1 rc_cl (rc_tys G) U
def rc_T (U : State) : Prop := ∀ w ∈ rc_tb, w.before #[] U = true
theorem rc_args {w : Cond} (h : rc_kind w = true) (A A' : Array Value) (U : State) : w.before A U = w.before A' U := by
  unfold rc_kind at h
  split at h <;> first | rfl | cases h
theorem rc_T.use {U : State} (h : rc_T U) (A : Array Value) : ∀ w ∈ rc_tb, w.before A U = true := fun w hw => by rw [rc_args (rc_kinds w hw) A #[] U]; exact h w hw
theorem rc_move {w : Cond} {s U : State} (h : rc_kind w = true) (hW : s.WarmedH U.vm) (hb : w.before #[] s = true) : w.before #[] U = true := by
  have face : w.onTables = true → w.keepsFace = true → w.before #[] U = true := fun h1 h2 => va_tabs h1 (rfl : (s.setVm U.vm).vm = U.vm) (Cond.before_shiftedFace (State.Shifted.of_warmed hW) _ h2 hb)
  unfold rc_kind at h
  split at h <;> first
    | exact word_at hW (Or.inl rfl) hb
    | exact word_at hW (Or.inr ⟨_, rfl⟩) hb
    | exact va_Nw.warmF hW hb
    | exact va_Nw.warmM hW hb
    | exact va_AO.moved hW.alike hb
    | exact face rfl rfl
    | cases h
theorem rc_T.moved {s U : State} (h : rc_T s) (hW : s.WarmedH U.vm) : rc_T U := fun w hw => rc_move (rc_kinds w hw) hW (h w hw)
/-- what holds all through a method: the machine, its code, its class, the tables, the start's world and its room -/
def rc_C (X : rc_X) (own : String) (cc : ByteArray) (w0 : rc_M) : Prop :=
  (q_p X).tables.exec = Jvm.exec ∧ (q_c X).code = cc ∧ (q_s X).vm.findClass own = some (q_m X).cls ∧ rc_T (q_s X) ∧ rc_K (q_G X) (q_s X) ∧ (q_c X).maxLocals = q_n X ∧ (q_t X).locks = false ∧
  rc_H (q_G X) w0 (q_s X).heap ∧ (q_R X).cells = rc_zc w0 - rc_z w0 ∧ (q_R X).slots = rc_zs w0 - rc_tz w0
theorem rc_C.ts {X : rc_X} {own : String} {cc : ByteArray} {w0 : rc_M} (C : rc_C X own cc w0) : ∀ w ∈ rc_tb, w.before (q_a X) (q_s X) = true := C.2.2.2.1.use _
abbrev rc_V (X : rc_X) (H : Heap) (locs : List Loc) (cells slots : Nat) (g : JFrame) : Prop := W (q_p X) (q_l X) (q_e X) (q_R X) (q_s X) (q_m X) (q_a X) (q_b X) (q_t X) (q_c X) H locs cells slots (q_Q X) g
def rc_J (X : rc_X) (w : rc_M) (pc : Nat) (st : List Value) (lv : List (Nat × Value)) : Prop := ∀ (H : Heap) (locs : List Loc) (ls : Array Slot), rc_H (q_G X) w H → va_S (fun q => rc_b (q_G X) ≤ q) (q_s X).heap H locs → lv_has ls (q_n X) lv → rc_V X H locs (q_R X).cells (q_R X).slots (F0 (q_m X) pc ls st)
theorem rc_J.sub {X : rc_X} {w : rc_M} {pc : Nat} {st : List Value} {lv lv' : List (Nat × Value)} (ks : List Nat) (hl : lv_pick lv ks = lv') (k : rc_J X w pc st lv') : rc_J X w pc st lv := fun H locs ls h1 h2 h3 => k H locs ls h1 h2 (lv_sub h3 ks hl)
section RCJ
variable {X : rc_X} {own : String} {cc : ByteArray} {w0 w : rc_M} {pc n : Nat} {st : List Value} {lv : List (Nat × Value)}
theorem j_iadd (C : rc_C X own cc w0) {x y : Int32} (hd : decode cc pc = .ok (.iadd, 1)) (hn : pc + 1 = n) (k : rc_J X w n (.int (x + y) :: st) lv) : rc_J X w pc (.int y :: .int x :: st) lv := by
  subst hn
  exact fun H locs ls h1 h2 h3 => lv_iadd C.1 C.2.1 hd (k H locs ls h1 h2 h3)
theorem j_isub (C : rc_C X own cc w0) {x y : Int32} (hd : decode cc pc = .ok (.isub, 1)) (hn : pc + 1 = n) (k : rc_J X w n (.int (x - y) :: st) lv) : rc_J X w pc (.int y :: .int x :: st) lv := by
  subst hn
  exact fun H locs ls h1 h2 h3 => lv_isub C.1 C.2.1 hd (k H locs ls h1 h2 h3)
theorem j_imul (C : rc_C X own cc w0) {x y : Int32} (hd : decode cc pc = .ok (.imul, 1)) (hn : pc + 1 = n) (k : rc_J X w n (.int (x * y) :: st) lv) : rc_J X w pc (.int y :: .int x :: st) lv := by
  subst hn
  exact fun H locs ls h1 h2 h3 => lv_imul C.1 C.2.1 hd (k H locs ls h1 h2 h3)
theorem j_iand (C : rc_C X own cc w0) {x y : Int32} (hd : decode cc pc = .ok (.iand, 1)) (hn : pc + 1 = n) (k : rc_J X w n (.int (x &&& y) :: st) lv) : rc_J X w pc (.int y :: .int x :: st) lv := by
  subst hn
  exact fun H locs ls h1 h2 h3 => lv_iand C.1 C.2.1 hd (k H locs ls h1 h2 h3)
theorem j_ior (C : rc_C X own cc w0) {x y : Int32} (hd : decode cc pc = .ok (.ior, 1)) (hn : pc + 1 = n) (k : rc_J X w n (.int (x ||| y) :: st) lv) : rc_J X w pc (.int y :: .int x :: st) lv := by
  subst hn
  exact fun H locs ls h1 h2 h3 => lv_ior C.1 C.2.1 hd (k H locs ls h1 h2 h3)
theorem j_ixor (C : rc_C X own cc w0) {x y : Int32} (hd : decode cc pc = .ok (.ixor, 1)) (hn : pc + 1 = n) (k : rc_J X w n (.int (x ^^^ y) :: st) lv) : rc_J X w pc (.int y :: .int x :: st) lv := by
  subst hn
  exact fun H locs ls h1 h2 h3 => lv_ixor C.1 C.2.1 hd (k H locs ls h1 h2 h3)
theorem j_ishl (C : rc_C X own cc w0) {x y : Int32} (hd : decode cc pc = .ok (.ishl, 1)) (hn : pc + 1 = n) (k : rc_J X w n (.int (x <<< (y &&& 31)) :: st) lv) : rc_J X w pc (.int y :: .int x :: st) lv := by
  subst hn
  exact fun H locs ls h1 h2 h3 => lv_ishl C.1 C.2.1 hd (k H locs ls h1 h2 h3)
theorem j_ishr (C : rc_C X own cc w0) {x y : Int32} (hd : decode cc pc = .ok (.ishr, 1)) (hn : pc + 1 = n) (k : rc_J X w n (.int (x >>> (y &&& 31)) :: st) lv) : rc_J X w pc (.int y :: .int x :: st) lv := by
  subst hn
  exact fun H locs ls h1 h2 h3 => lv_ishr C.1 C.2.1 hd (k H locs ls h1 h2 h3)
theorem j_iushr (C : rc_C X own cc w0) {x y : Int32} (hd : decode cc pc = .ok (.iushr, 1)) (hn : pc + 1 = n) (k : rc_J X w n (.int (x.toUInt32 >>> (y.toUInt32 &&& Int32.toUInt32 31)).toInt32 :: st) lv) : rc_J X w pc (.int y :: .int x :: st) lv := by
  subst hn
  exact fun H locs ls h1 h2 h3 => lv_iushr C.1 C.2.1 hd rfl (k H locs ls h1 h2 h3)
theorem j_idiv (C : rc_C X own cc w0) {x y : Int32} (hd : decode cc pc = .ok (.idiv, 1)) (hn : pc + 1 = n) (hne : ¬ y = 0) (k : rc_J X w n (.int (x / y) :: st) lv) : rc_J X w pc (.int y :: .int x :: st) lv := by
  subst hn
  exact fun H locs ls h1 h2 h3 => lv_idiv C.1 C.2.1 hd hne (k H locs ls h1 h2 h3)
theorem j_irem (C : rc_C X own cc w0) {x y : Int32} (hd : decode cc pc = .ok (.irem, 1)) (hn : pc + 1 = n) (hne : ¬ y = 0) (k : rc_J X w n (.int (x - x / y * y) :: st) lv) : rc_J X w pc (.int y :: .int x :: st) lv := by
  subst hn
  exact fun H locs ls h1 h2 h3 => lv_irem C.1 C.2.1 hd hne (k H locs ls h1 h2 h3)
theorem j_ineg (C : rc_C X own cc w0) {x : Int32} (hd : decode cc pc = .ok (.ineg, 1)) (hn : pc + 1 = n) (k : rc_J X w n (.int (-x) :: st) lv) : rc_J X w pc (.int x :: st) lv := by
  subst hn
  exact fun H locs ls h1 h2 h3 => lv_ineg C.1 C.2.1 hd (k H locs ls h1 h2 h3)
theorem j_ladd (C : rc_C X own cc w0) {x y : Int64} (hd : decode cc pc = .ok (.ladd, 1)) (hn : pc + 1 = n) (k : rc_J X w n (.long (x + y) :: st) lv) : rc_J X w pc (.long y :: .long x :: st) lv := by
  subst hn
  exact fun H locs ls h1 h2 h3 => lv_ladd C.1 C.2.1 hd (k H locs ls h1 h2 h3)
theorem j_lsub (C : rc_C X own cc w0) {x y : Int64} (hd : decode cc pc = .ok (.lsub, 1)) (hn : pc + 1 = n) (k : rc_J X w n (.long (x - y) :: st) lv) : rc_J X w pc (.long y :: .long x :: st) lv := by
  subst hn
  exact fun H locs ls h1 h2 h3 => lv_lsub C.1 C.2.1 hd (k H locs ls h1 h2 h3)
theorem j_lmul (C : rc_C X own cc w0) {x y : Int64} (hd : decode cc pc = .ok (.lmul, 1)) (hn : pc + 1 = n) (k : rc_J X w n (.long (x * y) :: st) lv) : rc_J X w pc (.long y :: .long x :: st) lv := by
  subst hn
  exact fun H locs ls h1 h2 h3 => lv_lmul C.1 C.2.1 hd (k H locs ls h1 h2 h3)
theorem j_land (C : rc_C X own cc w0) {x y : Int64} (hd : decode cc pc = .ok (.land, 1)) (hn : pc + 1 = n) (k : rc_J X w n (.long (x &&& y) :: st) lv) : rc_J X w pc (.long y :: .long x :: st) lv := by
  subst hn
  exact fun H locs ls h1 h2 h3 => lv_land C.1 C.2.1 hd (k H locs ls h1 h2 h3)
theorem j_lor (C : rc_C X own cc w0) {x y : Int64} (hd : decode cc pc = .ok (.lor, 1)) (hn : pc + 1 = n) (k : rc_J X w n (.long (x ||| y) :: st) lv) : rc_J X w pc (.long y :: .long x :: st) lv := by
  subst hn
  exact fun H locs ls h1 h2 h3 => lv_lor C.1 C.2.1 hd (k H locs ls h1 h2 h3)
theorem j_lxor (C : rc_C X own cc w0) {x y : Int64} (hd : decode cc pc = .ok (.lxor, 1)) (hn : pc + 1 = n) (k : rc_J X w n (.long (x ^^^ y) :: st) lv) : rc_J X w pc (.long y :: .long x :: st) lv := by
  subst hn
  exact fun H locs ls h1 h2 h3 => lv_lxor C.1 C.2.1 hd (k H locs ls h1 h2 h3)
theorem j_lshl (C : rc_C X own cc w0) {x : Int64} {y : Int32} (hd : decode cc pc = .ok (.lshl, 1)) (hn : pc + 1 = n) (k : rc_J X w n (.long (x <<< (y.toInt64 &&& 63)) :: st) lv) : rc_J X w pc (.int y :: .long x :: st) lv := by
  subst hn
  exact fun H locs ls h1 h2 h3 => lv_lshl C.1 C.2.1 hd rfl (k H locs ls h1 h2 h3)
theorem j_lshr (C : rc_C X own cc w0) {x : Int64} {y : Int32} (hd : decode cc pc = .ok (.lshr, 1)) (hn : pc + 1 = n) (k : rc_J X w n (.long (x >>> (y.toInt64 &&& 63)) :: st) lv) : rc_J X w pc (.int y :: .long x :: st) lv := by
  subst hn
  exact fun H locs ls h1 h2 h3 => lv_lshr C.1 C.2.1 hd rfl (k H locs ls h1 h2 h3)
theorem j_lushr (C : rc_C X own cc w0) {x : Int64} {y : Int32} (hd : decode cc pc = .ok (.lushr, 1)) (hn : pc + 1 = n) (k : rc_J X w n (.long (x.toUInt64 >>> (y.toInt64.toUInt64 &&& Int64.toUInt64 63)).toInt64 :: st) lv) : rc_J X w pc (.int y :: .long x :: st) lv := by
  subst hn
  exact fun H locs ls h1 h2 h3 => lv_lushr C.1 C.2.1 hd rfl (k H locs ls h1 h2 h3)
theorem j_lcmp (C : rc_C X own cc w0) {x y : Int64} (hd : decode cc pc = .ok (.lcmp, 1)) (hn : pc + 1 = n) (k : rc_J X w n (.int (lg_cmp x y) :: st) lv) : rc_J X w pc (.long y :: .long x :: st) lv := by
  subst hn
  exact fun H locs ls h1 h2 h3 => W.lcmp C.1 C.2.1 hd (k H locs ls h1 h2 h3)
theorem j_i2l (C : rc_C X own cc w0) {x : Int32} (hd : decode cc pc = .ok (.i2l, 1)) (hn : pc + 1 = n) (k : rc_J X w n (.long x.toInt64 :: st) lv) : rc_J X w pc (.int x :: st) lv := by
  subst hn
  exact fun H locs ls h1 h2 h3 => lv_i2l C.1 C.2.1 hd rfl (k H locs ls h1 h2 h3)
theorem j_l2i (C : rc_C X own cc w0) {x : Int64} (hd : decode cc pc = .ok (.l2i, 1)) (hn : pc + 1 = n) (k : rc_J X w n (.int x.toInt32 :: st) lv) : rc_J X w pc (.long x :: st) lv := by
  subst hn
  exact fun H locs ls h1 h2 h3 => lv_l2i C.1 C.2.1 hd rfl (k H locs ls h1 h2 h3)
theorem j_i2b (C : rc_C X own cc w0) {x : Int32} (hd : decode cc pc = .ok (.i2b, 1)) (hn : pc + 1 = n) (k : rc_J X w n (.int x.toInt8.toInt32 :: st) lv) : rc_J X w pc (.int x :: st) lv := by
  subst hn
  exact fun H locs ls h1 h2 h3 => lv_i2b C.1 C.2.1 hd rfl (k H locs ls h1 h2 h3)
theorem j_iconst (C : rc_C X own cc w0) {i : Int} {v : Int32} (hd : decode cc pc = .ok (.iconst i, 1)) (hn : pc + 1 = n) (hv : Int32.ofInt i = v) (k : rc_J X w n (.int v :: st) lv) : rc_J X w pc (st) lv := by
  subst hn
  exact fun H locs ls h1 h2 h3 => lv_iconst C.1 C.2.1 hd hv (k H locs ls h1 h2 h3)
theorem j_bipush (C : rc_C X own cc w0) {i : Int} {v : Int32} (hd : decode cc pc = .ok (.bipush i, 2)) (hn : pc + 2 = n) (hv : (Int8.ofInt i).toInt32 = v) (k : rc_J X w n (.int v :: st) lv) : rc_J X w pc (st) lv := by
  subst hn
  exact fun H locs ls h1 h2 h3 => lv_bipush C.1 C.2.1 hd hv (k H locs ls h1 h2 h3)
theorem j_sipush (C : rc_C X own cc w0) {i : Int} {v : Int32} (hd : decode cc pc = .ok (.sipush i, 3)) (hn : pc + 3 = n) (hv : (Int16.ofInt i).toInt32 = v) (k : rc_J X w n (.int v :: st) lv) : rc_J X w pc (st) lv := by
  subst hn
  exact fun H locs ls h1 h2 h3 => lv_sipush C.1 C.2.1 hd hv (k H locs ls h1 h2 h3)
theorem j_lconst (C : rc_C X own cc w0) {i : Fin 2} {v : Int64} (hd : decode cc pc = .ok (.lconst i, 1)) (hn : pc + 1 = n) (hv : Int64.ofNat (i : Nat) = v) (k : rc_J X w n (.long v :: st) lv) : rc_J X w pc (st) lv := by
  subst hn
  exact fun H locs ls h1 h2 h3 => lv_lconst C.1 C.2.1 hd hv (k H locs ls h1 h2 h3)
theorem j_ldc (C : rc_C X own cc w0) {i : Nat} {v : Int32} (hd : decode cc pc = .ok (.ldc i, 2)) (hn : pc + 2 = n) (hc : Cond.constant own i v ∈ rc_tb) (k : rc_J X w n (.int v :: st) lv) : rc_J X w pc (st) lv := by
  subst hn
  exact fun H locs ls h1 h2 h3 => lv_ldc C.1 C.2.1 C.2.2.1 (C.ts _ hc) hd (k H locs ls h1 h2 h3)
theorem j_ldc2 (C : rc_C X own cc w0) {i : Nat} {v : Int64} (hd : decode cc pc = .ok (.ldc2_w i, 3)) (hn : pc + 3 = n) (hc : Cond.constantLong own i v ∈ rc_tb) (k : rc_J X w n (.long v :: st) lv) : rc_J X w pc (st) lv := by
  subst hn
  exact fun H locs ls h1 h2 h3 => lv_ldc2 C.1 C.2.1 C.2.2.1 (C.ts _ hc) hd (k H locs ls h1 h2 h3)
theorem j_null (C : rc_C X own cc w0)  (hd : decode cc pc = .ok (.aconst_null, 1)) (hn : pc + 1 = n) (k : rc_J X w n (va_rf none :: st) lv) : rc_J X w pc (st) lv := by
  subst hn
  exact fun H locs ls h1 h2 h3 => lv_null C.1 C.2.1 hd (k H locs ls h1 h2 h3)
theorem j_dup (C : rc_C X own cc w0) {v : Value} (hd : decode cc pc = .ok (.dup, 1)) (hn : pc + 1 = n) (hv : v.category = 1) (k : rc_J X w n (v :: v :: st) lv) : rc_J X w pc (v :: st) lv := by
  subst hn
  exact fun H locs ls h1 h2 h3 => lv_dup C.1 C.2.1 hd hv (k H locs ls h1 h2 h3)
theorem j_pop (C : rc_C X own cc w0) {v : Value} (hd : decode cc pc = .ok (.pop, 1)) (hn : pc + 1 = n) (hv : v.category = 1) (k : rc_J X w n (st) lv) : rc_J X w pc (v :: st) lv := by
  subst hn
  exact fun H locs ls h1 h2 h3 => lv_pop C.1 C.2.1 hd hv (k H locs ls h1 h2 h3)
theorem j_pop2 (C : rc_C X own cc w0) {v : Value} (hd : decode cc pc = .ok (.pop2, 1)) (hn : pc + 1 = n) (hv : v.category = 2) (k : rc_J X w n (st) lv) : rc_J X w pc (v :: st) lv := by
  subst hn
  exact fun H locs ls h1 h2 h3 => lv_pop2_2 C.1 C.2.1 hd hv (k H locs ls h1 h2 h3)
theorem j_dup_x1 (C : rc_C X own cc w0) {v u : Value} (hd : decode cc pc = .ok (.dup_x1, 1)) (hn : pc + 1 = n) (hv : v.category = 1) (hu : u.category = 1) (k : rc_J X w n (v :: u :: v :: st) lv) : rc_J X w pc (v :: u :: st) lv := by
  subst hn
  exact fun H locs ls h1 h2 h3 => lv_dup_x1 C.1 C.2.1 hd hv hu (k H locs ls h1 h2 h3)
theorem j_dup2 (C : rc_C X own cc w0) {v u : Value} (hd : decode cc pc = .ok (.dup2, 1)) (hn : pc + 1 = n) (hv : v.category = 1) (hu : u.category = 1) (k : rc_J X w n (v :: u :: v :: u :: st) lv) : rc_J X w pc (v :: u :: st) lv := by
  subst hn
  exact fun H locs ls h1 h2 h3 => lv_dup2_11 C.1 C.2.1 hd hv hu (k H locs ls h1 h2 h3)
theorem va_rf_cat (r : Option Nat) : (va_rf r).category = 1 := by cases r <;> rfl
theorem j_iload (C : rc_C X own cc w0) {i : Nat} {x : Int32} (hd : decode cc pc = .ok (.iload i, 2)) (hn : pc + 2 = n) (q : Nat) (hl : lv[q]? = some (i, .int x)) (k : rc_J X w n (.int x :: st) lv) : rc_J X w pc st lv := by
  subst hn
  exact fun H locs ls h1 h2 h3 => lv_iload C.1 C.2.1 hd (lv_at h3 q hl) (k H locs ls h1 h2 h3)
theorem j_iload_n (C : rc_C X own cc w0) {f : Fin 4} {x : Int32} (hd : decode cc pc = .ok (.iload_n f, 1)) (hn : pc + 1 = n) (q : Nat) (hl : lv[q]? = some ((f : Nat), .int x)) (k : rc_J X w n (.int x :: st) lv) : rc_J X w pc st lv := by
  subst hn
  exact fun H locs ls h1 h2 h3 => lv_iload_n C.1 C.2.1 hd rfl (lv_at h3 q hl) (k H locs ls h1 h2 h3)
theorem j_lload (C : rc_C X own cc w0) {i : Nat} {x : Int64} (hd : decode cc pc = .ok (.lload i, 2)) (hn : pc + 2 = n) (q : Nat) (hl : lv[q]? = some (i, .long x)) (k : rc_J X w n (.long x :: st) lv) : rc_J X w pc st lv := by
  subst hn
  exact fun H locs ls h1 h2 h3 => lv_lload C.1 C.2.1 hd (lv_at h3 q hl) (k H locs ls h1 h2 h3)
theorem j_lload_n (C : rc_C X own cc w0) {f : Fin 4} {x : Int64} (hd : decode cc pc = .ok (.lload_n f, 1)) (hn : pc + 1 = n) (q : Nat) (hl : lv[q]? = some ((f : Nat), .long x)) (k : rc_J X w n (.long x :: st) lv) : rc_J X w pc st lv := by
  subst hn
  exact fun H locs ls h1 h2 h3 => lv_lload_n C.1 C.2.1 hd rfl (lv_at h3 q hl) (k H locs ls h1 h2 h3)
theorem j_aload (C : rc_C X own cc w0) {i : Nat} {r : Option Nat} (hd : decode cc pc = .ok (.aload i, 2)) (hn : pc + 2 = n) (q : Nat) (hl : lv[q]? = some (i, va_rf r)) (k : rc_J X w n (va_rf r :: st) lv) : rc_J X w pc st lv := by
  subst hn
  intro H locs ls h1 h2 h3
  cases r with
  | none => exact lv_aloadN C.1 C.2.1 hd (lv_at h3 q hl) (k H locs ls h1 h2 h3)
  | some a => exact lv_aload C.1 C.2.1 hd (lv_at h3 q hl) (k H locs ls h1 h2 h3)
theorem j_aload_n (C : rc_C X own cc w0) {f : Fin 4} {r : Option Nat} (hd : decode cc pc = .ok (.aload_n f, 1)) (hn : pc + 1 = n) (q : Nat) (hl : lv[q]? = some ((f : Nat), va_rf r)) (k : rc_J X w n (va_rf r :: st) lv) : rc_J X w pc st lv := by
  subst hn
  intro H locs ls h1 h2 h3
  cases r with
  | none => exact lv_aload_nN C.1 C.2.1 hd rfl (lv_at h3 q hl) (k H locs ls h1 h2 h3)
  | some a => exact lv_aload_n C.1 C.2.1 hd rfl (lv_at h3 q hl) (k H locs ls h1 h2 h3)
theorem j_istore (C : rc_C X own cc w0) {i : Nat} {x : Int32} (hd : decode cc pc = .ok (.istore i, 2)) (hn : pc + 2 = n) (lv' : List (Nat × Value)) (hi : i < q_n X) (hl : (i, Value.int x) :: lv.filter (fun q => !(q.1 == i) && !(q.1 + 1 == i && q.2.category == 2)) = lv') (k : rc_J X w n st lv') : rc_J X w pc (.int x :: st) lv := by
  subst hn
  exact fun H locs ls h1 h2 h3 => lv_istore C.1 C.2.1 hd h3 hi hl (fun ls' h4 => k H locs ls' h1 h2 h4)
theorem j_istore_n (C : rc_C X own cc w0) {g : Fin 4} {i : Nat} {x : Int32} (hd : decode cc pc = .ok (.istore_n g, 1)) (hg : (g : Nat) = i) (hn : pc + 1 = n) (lv' : List (Nat × Value)) (hi : i < q_n X) (hl : (i, Value.int x) :: lv.filter (fun q => !(q.1 == i) && !(q.1 + 1 == i && q.2.category == 2)) = lv') (k : rc_J X w n st lv') : rc_J X w pc (.int x :: st) lv := by
  subst hn
  exact fun H locs ls h1 h2 h3 => lv_istore_n C.1 C.2.1 hd hg h3 hi hl (fun ls' h4 => k H locs ls' h1 h2 h4)
theorem j_lstore (C : rc_C X own cc w0) {i : Nat} {x : Int64} (hd : decode cc pc = .ok (.lstore i, 2)) (hn : pc + 2 = n) (lv' : List (Nat × Value)) (hi : i + 1 < q_n X) (hl : (i, Value.long x) :: lv.filter (fun q => !(q.1 == i) && (!(q.1 == i + 1) && !(q.1 + 1 == i && q.2.category == 2))) = lv') (k : rc_J X w n st lv') : rc_J X w pc (.long x :: st) lv := by
  subst hn
  exact fun H locs ls h1 h2 h3 => lv_lstore C.1 C.2.1 hd h3 hi hl (fun ls' h4 => k H locs ls' h1 h2 h4)
theorem j_lstore_n (C : rc_C X own cc w0) {g : Fin 4} {i : Nat} {x : Int64} (hd : decode cc pc = .ok (.lstore_n g, 1)) (hg : (g : Nat) = i) (hn : pc + 1 = n) (lv' : List (Nat × Value)) (hi : i + 1 < q_n X) (hl : (i, Value.long x) :: lv.filter (fun q => !(q.1 == i) && (!(q.1 == i + 1) && !(q.1 + 1 == i && q.2.category == 2))) = lv') (k : rc_J X w n st lv') : rc_J X w pc (.long x :: st) lv := by
  subst hn
  exact fun H locs ls h1 h2 h3 => lv_lstore_n C.1 C.2.1 hd hg h3 hi hl (fun ls' h4 => k H locs ls' h1 h2 h4)
theorem j_astore (C : rc_C X own cc w0) {i : Nat} {r : Option Nat} (hd : decode cc pc = .ok (.astore i, 2)) (hn : pc + 2 = n) (lv' : List (Nat × Value)) (hi : i < q_n X) (hl : (i, va_rf r) :: lv.filter (fun q => !(q.1 == i) && !(q.1 + 1 == i && q.2.category == 2)) = lv') (k : rc_J X w n st lv') : rc_J X w pc (va_rf r :: st) lv := by
  subst hn
  intro H locs ls h1 h2 h3
  cases r with
  | none => exact lv_astoreN C.1 C.2.1 hd h3 hi hl (fun ls' h4 => k H locs ls' h1 h2 h4)
  | some a => exact lv_astore C.1 C.2.1 hd h3 hi hl (fun ls' h4 => k H locs ls' h1 h2 h4)
theorem j_astore_n (C : rc_C X own cc w0) {g : Fin 4} {i : Nat} {r : Option Nat} (hd : decode cc pc = .ok (.astore_n g, 1)) (hg : (g : Nat) = i) (hn : pc + 1 = n) (lv' : List (Nat × Value)) (hi : i < q_n X) (hl : (i, va_rf r) :: lv.filter (fun q => !(q.1 == i) && !(q.1 + 1 == i && q.2.category == 2)) = lv') (k : rc_J X w n st lv') : rc_J X w pc (va_rf r :: st) lv := by
  subst hn
  intro H locs ls h1 h2 h3
  cases r with
  | none => exact lv_astore_nN C.1 C.2.1 hd hg h3 hi hl (fun ls' h4 => k H locs ls' h1 h2 h4)
  | some a => exact lv_astore_n C.1 C.2.1 hd hg h3 hi hl (fun ls' h4 => k H locs ls' h1 h2 h4)
theorem j_iinc (C : rc_C X own cc w0) {i : Nat} {d : Int} {x v : Int32} (hd : decode cc pc = .ok (.iinc i d, 3)) (hn : pc + 3 = n) (q : Nat) (lv' : List (Nat × Value)) (hq : lv[q]? = some (i, .int x)) (hv : x + Int32.ofInt d = v) (hi : i < q_n X) (hl : (i, Value.int v) :: lv.filter (fun q => !(q.1 == i) && !(q.1 + 1 == i && q.2.category == 2)) = lv') (k : rc_J X w n st lv') : rc_J X w pc st lv := by
  subst hn
  exact fun H locs ls h1 h2 h3 => lv_iinc C.1 C.2.1 hd h3 hq hv hi hl (fun ls' h4 => k H locs ls' h1 h2 h4)
theorem j_if_eq (C : rc_C X own cc w0) {x : Int32} {off : Int} {tgt : Nat} (hd : decode cc pc = .ok (.ifCond .eq off, 3)) (ht : (pc : Int) + off = (tgt : Int)) (hn : pc + 3 = n) (kt : x = 0 → rc_J X w tgt st lv) (kf : ¬ x = 0 → rc_J X w n st lv) : rc_J X w pc (.int x :: st) lv := by
  subst hn
  exact fun H locs ls h1 h2 h3 => lv_if_eq C.1 C.2.1 hd ht (fun q => kt q H locs ls h1 h2 h3) (fun q => kf q H locs ls h1 h2 h3)
theorem j_icmp_eq (C : rc_C X own cc w0) {x y : Int32} {off : Int} {tgt : Nat} (hd : decode cc pc = .ok (.if_icmp .eq off, 3)) (ht : (pc : Int) + off = (tgt : Int)) (hn : pc + 3 = n) (kt : x = y → rc_J X w tgt st lv) (kf : ¬ x = y → rc_J X w n st lv) : rc_J X w pc (.int y :: .int x :: st) lv := by
  subst hn
  exact fun H locs ls h1 h2 h3 => lv_icmp_eq C.1 C.2.1 hd ht (fun q => kt q H locs ls h1 h2 h3) (fun q => kf q H locs ls h1 h2 h3)
theorem j_if_ne (C : rc_C X own cc w0) {x : Int32} {off : Int} {tgt : Nat} (hd : decode cc pc = .ok (.ifCond .ne off, 3)) (ht : (pc : Int) + off = (tgt : Int)) (hn : pc + 3 = n) (kt : ¬ x = 0 → rc_J X w tgt st lv) (kf : x = 0 → rc_J X w n st lv) : rc_J X w pc (.int x :: st) lv := by
  subst hn
  exact fun H locs ls h1 h2 h3 => lv_if_ne C.1 C.2.1 hd ht (fun q => kt q H locs ls h1 h2 h3) (fun q => kf q H locs ls h1 h2 h3)
theorem j_icmp_ne (C : rc_C X own cc w0) {x y : Int32} {off : Int} {tgt : Nat} (hd : decode cc pc = .ok (.if_icmp .ne off, 3)) (ht : (pc : Int) + off = (tgt : Int)) (hn : pc + 3 = n) (kt : ¬ x = y → rc_J X w tgt st lv) (kf : x = y → rc_J X w n st lv) : rc_J X w pc (.int y :: .int x :: st) lv := by
  subst hn
  exact fun H locs ls h1 h2 h3 => lv_icmp_ne C.1 C.2.1 hd ht (fun q => kt q H locs ls h1 h2 h3) (fun q => kf q H locs ls h1 h2 h3)
theorem j_if_lt (C : rc_C X own cc w0) {x : Int32} {off : Int} {tgt : Nat} (hd : decode cc pc = .ok (.ifCond .lt off, 3)) (ht : (pc : Int) + off = (tgt : Int)) (hn : pc + 3 = n) (kt : x < 0 → rc_J X w tgt st lv) (kf : ¬ x < 0 → rc_J X w n st lv) : rc_J X w pc (.int x :: st) lv := by
  subst hn
  exact fun H locs ls h1 h2 h3 => lv_if_lt C.1 C.2.1 hd ht (fun q => kt q H locs ls h1 h2 h3) (fun q => kf q H locs ls h1 h2 h3)
theorem j_icmp_lt (C : rc_C X own cc w0) {x y : Int32} {off : Int} {tgt : Nat} (hd : decode cc pc = .ok (.if_icmp .lt off, 3)) (ht : (pc : Int) + off = (tgt : Int)) (hn : pc + 3 = n) (kt : x < y → rc_J X w tgt st lv) (kf : ¬ x < y → rc_J X w n st lv) : rc_J X w pc (.int y :: .int x :: st) lv := by
  subst hn
  exact fun H locs ls h1 h2 h3 => lv_icmp_lt C.1 C.2.1 hd ht (fun q => kt q H locs ls h1 h2 h3) (fun q => kf q H locs ls h1 h2 h3)
theorem j_if_ge (C : rc_C X own cc w0) {x : Int32} {off : Int} {tgt : Nat} (hd : decode cc pc = .ok (.ifCond .ge off, 3)) (ht : (pc : Int) + off = (tgt : Int)) (hn : pc + 3 = n) (kt : 0 ≤ x → rc_J X w tgt st lv) (kf : ¬ 0 ≤ x → rc_J X w n st lv) : rc_J X w pc (.int x :: st) lv := by
  subst hn
  exact fun H locs ls h1 h2 h3 => lv_if_ge C.1 C.2.1 hd ht (fun q => kt q H locs ls h1 h2 h3) (fun q => kf q H locs ls h1 h2 h3)
theorem j_icmp_ge (C : rc_C X own cc w0) {x y : Int32} {off : Int} {tgt : Nat} (hd : decode cc pc = .ok (.if_icmp .ge off, 3)) (ht : (pc : Int) + off = (tgt : Int)) (hn : pc + 3 = n) (kt : y ≤ x → rc_J X w tgt st lv) (kf : ¬ y ≤ x → rc_J X w n st lv) : rc_J X w pc (.int y :: .int x :: st) lv := by
  subst hn
  exact fun H locs ls h1 h2 h3 => lv_icmp_ge C.1 C.2.1 hd ht (fun q => kt q H locs ls h1 h2 h3) (fun q => kf q H locs ls h1 h2 h3)
theorem j_if_gt (C : rc_C X own cc w0) {x : Int32} {off : Int} {tgt : Nat} (hd : decode cc pc = .ok (.ifCond .gt off, 3)) (ht : (pc : Int) + off = (tgt : Int)) (hn : pc + 3 = n) (kt : 0 < x → rc_J X w tgt st lv) (kf : ¬ 0 < x → rc_J X w n st lv) : rc_J X w pc (.int x :: st) lv := by
  subst hn
  exact fun H locs ls h1 h2 h3 => lv_if_gt C.1 C.2.1 hd ht (fun q => kt q H locs ls h1 h2 h3) (fun q => kf q H locs ls h1 h2 h3)
theorem j_icmp_gt (C : rc_C X own cc w0) {x y : Int32} {off : Int} {tgt : Nat} (hd : decode cc pc = .ok (.if_icmp .gt off, 3)) (ht : (pc : Int) + off = (tgt : Int)) (hn : pc + 3 = n) (kt : y < x → rc_J X w tgt st lv) (kf : ¬ y < x → rc_J X w n st lv) : rc_J X w pc (.int y :: .int x :: st) lv := by
  subst hn
  exact fun H locs ls h1 h2 h3 => lv_icmp_gt C.1 C.2.1 hd ht (fun q => kt q H locs ls h1 h2 h3) (fun q => kf q H locs ls h1 h2 h3)
theorem j_if_le (C : rc_C X own cc w0) {x : Int32} {off : Int} {tgt : Nat} (hd : decode cc pc = .ok (.ifCond .le off, 3)) (ht : (pc : Int) + off = (tgt : Int)) (hn : pc + 3 = n) (kt : x ≤ 0 → rc_J X w tgt st lv) (kf : ¬ x ≤ 0 → rc_J X w n st lv) : rc_J X w pc (.int x :: st) lv := by
  subst hn
  exact fun H locs ls h1 h2 h3 => lv_if_le C.1 C.2.1 hd ht (fun q => kt q H locs ls h1 h2 h3) (fun q => kf q H locs ls h1 h2 h3)
theorem j_icmp_le (C : rc_C X own cc w0) {x y : Int32} {off : Int} {tgt : Nat} (hd : decode cc pc = .ok (.if_icmp .le off, 3)) (ht : (pc : Int) + off = (tgt : Int)) (hn : pc + 3 = n) (kt : x ≤ y → rc_J X w tgt st lv) (kf : ¬ x ≤ y → rc_J X w n st lv) : rc_J X w pc (.int y :: .int x :: st) lv := by
  subst hn
  exact fun H locs ls h1 h2 h3 => lv_icmp_le C.1 C.2.1 hd ht (fun q => kt q H locs ls h1 h2 h3) (fun q => kf q H locs ls h1 h2 h3)
theorem j_goto (C : rc_C X own cc w0) {off : Int} {tgt : Nat} (hd : decode cc pc = .ok (.goto off, 3)) (ht : (pc : Int) + off = (tgt : Int)) (k : rc_J X w tgt st lv) : rc_J X w pc st lv := fun H locs ls h1 h2 h3 => lv_goto C.1 C.2.1 hd ht (k H locs ls h1 h2 h3)
theorem j_ifnull (C : rc_C X own cc w0) {r : Option Nat} {off : Int} {tgt : Nat} (hd : decode cc pc = .ok (.ifnull off, 3)) (ht : (pc : Int) + off = (tgt : Int)) (hn : pc + 3 = n) (kt : r = none → rc_J X w tgt st lv) (kf : ¬ r = none → rc_J X w n st lv) : rc_J X w pc (va_rf r :: st) lv := by
  subst hn
  intro H locs ls h1 h2 h3
  cases r with
  | none => exact lv_ifnullN C.1 C.2.1 hd ht (kt rfl H locs ls h1 h2 h3)
  | some a => exact lv_ifnull C.1 C.2.1 hd (kf (fun q => by cases q) H locs ls h1 h2 h3)
theorem j_ifnonnull (C : rc_C X own cc w0) {r : Option Nat} {off : Int} {tgt : Nat} (hd : decode cc pc = .ok (.ifnonnull off, 3)) (ht : (pc : Int) + off = (tgt : Int)) (hn : pc + 3 = n) (kt : ¬ r = none → rc_J X w tgt st lv) (kf : r = none → rc_J X w n st lv) : rc_J X w pc (va_rf r :: st) lv := by
  subst hn
  intro H locs ls h1 h2 h3
  cases r with
  | none => exact lv_ifnonnullN C.1 C.2.1 hd (kf rfl H locs ls h1 h2 h3)
  | some a => exact lv_ifnonnull C.1 C.2.1 hd ht (kt (fun q => by cases q) H locs ls h1 h2 h3)
theorem j_tableIn (C : rc_C X own cc w0) {dflt lo hi : Int} {offs : Array Int} {len : Nat} {x : Int32} {off : Int} {tgt : Nat} (hd : decode cc pc = .ok (.tableswitch dflt lo hi offs, len)) (h1 : ¬ x.toInt < lo) (h2 : ¬ hi < x.toInt) (ho : offs[(x.toInt - lo).toNat]? = some off) (ht : (pc : Int) + off = (tgt : Int)) (k : rc_J X w tgt st lv) : rc_J X w pc (.int x :: st) lv := fun H locs ls g1 g2 g3 => lv_tableIn C.1 C.2.1 hd h1 h2 ho ht (k H locs ls g1 g2 g3)
theorem j_tableOut (C : rc_C X own cc w0) {dflt lo hi : Int} {offs : Array Int} {len : Nat} {x : Int32} {tgt : Nat} (hd : decode cc pc = .ok (.tableswitch dflt lo hi offs, len)) (h : x.toInt < lo ∨ hi < x.toInt) (ht : (pc : Int) + dflt = (tgt : Int)) (k : rc_J X w tgt st lv) : rc_J X w pc (.int x :: st) lv := fun H locs ls g1 g2 g3 => lv_tableOut C.1 C.2.1 hd h ht (k H locs ls g1 g2 g3)
theorem j_lookup (C : rc_C X own cc w0) {dflt : Int} {ps : Array (Int × Int)} {len : Nat} {x : Int32} {off : Int} {tgt : Nat} (hd : decode cc pc = .ok (.lookupswitch dflt ps, len)) (hp : (ps.toList.zip (ps.toList.drop 1)).all (fun (a, next) => a.1 < next.1) = true) (ho : Op.lookupswitch.offset ps.toList dflt x.toInt = off) (ht : (pc : Int) + off = (tgt : Int)) (k : rc_J X w tgt st lv) : rc_J X w pc (.int x :: st) lv := fun H locs ls g1 g2 g3 => lv_lookup C.1 C.2.1 hd hp ho ht (k H locs ls g1 g2 g3)
end RCJ
end
section
theorem rc_gV_spec {w : rc_M} {r : Option Nat} {ci k : Nat} {v : Value} (h : rc_gV w r ci k = some v) : ∃ (a : Nat) (F : Nat → Value), r = some a ∧ w.1 a = some (.inl (ci, F)) ∧ v = F k := by
  unfold rc_gV at h
  split at h
  · cases h
  · rename_i a
    split at h
    · rename_i o hw
      split at h
      · rename_i hc
        cases h
        exact ⟨a, o.2, rfl, by rw [hw, ← hc], rfl⟩
      · cases h
    · cases h
theorem rc_gI_spec {w : rc_M} {r : Option Nat} {ci k : Nat} {x : Int32} (h : rc_gI w r ci k = some x) : rc_gV w r ci k = some (.int x) := by
  unfold rc_gI at h
  split at h
  · rename_i e
    cases h
    exact e
  · cases h
theorem rc_gL_spec {w : rc_M} {r : Option Nat} {ci k : Nat} {x : Int64} (h : rc_gL w r ci k = some x) : rc_gV w r ci k = some (.long x) := by
  unfold rc_gL at h
  split at h
  · rename_i e
    cases h
    exact e
  · cases h
theorem rc_gR_spec {w : rc_M} {r : Option Nat} {ci k : Nat} {x : Option Nat} (h : rc_gR w r ci k = some x) : rc_gV w r ci k = some (va_rf x) := by
  unfold rc_gR at h
  split at h
  · rename_i e
    cases h
    exact e
  · rename_i e
    cases h
    exact e
  · cases h
theorem rc_pV_spec {w w' : rc_M} {r : Option Nat} {ci k : Nat} {v : Value} (h : rc_pV w r ci k v = some w') : ∃ (a : Nat) (F : Nat → Value), r = some a ∧ w.1 a = some (.inl (ci, F)) ∧ w' = rc_up w a (.inl (ci, updV F k v)) := by
  unfold rc_pV at h
  split at h
  · cases h
  · rename_i a
    split at h
    · rename_i o hw
      split at h
      · rename_i hc
        cases h
        exact ⟨a, o.2, rfl, by rw [hw, ← hc], rfl⟩
      · cases h
    · cases h
theorem rc_gA_spec {w : rc_M} {r : Option Nat} {kd : Nat} {x : Nat × Nat × rc_A} (h : rc_gA w r kd = some x) : r = some x.1 ∧ w.1 x.1 = some (.inr (.inl (kd, x.2))) := by
  unfold rc_gA at h
  split at h
  · cases h
  · rename_i a
    split at h
    · rename_i y hw
      split at h
      · rename_i hc
        cases h
        exact ⟨rfl, by rw [hw, ← hc]⟩
      · cases h
    · cases h
theorem rc_aI_spec {w : rc_M} {r : Option Nat} {kd : Nat} {i x : Int32} (h : rc_aI w r kd i = some x) : ∃ (a n : Nat) (f : Nat → Int32), r = some a ∧ w.1 a = some (.inr (.inl (kd, n, .inl f))) ∧ vp_in i n ∧ x = f i.toNatClampNeg := by
  unfold rc_aI at h
  split at h
  · rename_i a n f e
    obtain ⟨h1, h2⟩ := rc_gA_spec e
    split at h
    · cases h
    · rename_i hc
      cases h
      exact ⟨a, n, f, h1, h2, hc, rfl⟩
  · cases h
theorem rc_aL_spec {w : rc_M} {r : Option Nat} {i : Int32} {x : Int64} (h : rc_aL w r i = some x) : ∃ (a n : Nat) (f : Nat → Int64), r = some a ∧ w.1 a = some (.inr (.inl (1, n, .inr (.inl f)))) ∧ vp_in i n ∧ x = f i.toNatClampNeg := by
  unfold rc_aL at h
  split at h
  · rename_i a n f e
    obtain ⟨h1, h2⟩ := rc_gA_spec e
    split at h
    · cases h
    · rename_i hc
      cases h
      exact ⟨a, n, f, h1, h2, hc, rfl⟩
  · cases h
theorem rc_aR_spec {w : rc_M} {r : Option Nat} {kd : Nat} {i : Int32} {x : Option Nat} (h : rc_aR w r kd i = some x) : ∃ (a n : Nat) (f : Nat → Option Nat), r = some a ∧ w.1 a = some (.inr (.inl (kd, n, .inr (.inr f)))) ∧ vp_in i n ∧ x = f i.toNatClampNeg := by
  unfold rc_aR at h
  split at h
  · rename_i a n f e
    obtain ⟨h1, h2⟩ := rc_gA_spec e
    split at h
    · cases h
    · rename_i hc
      cases h
      exact ⟨a, n, f, h1, h2, hc, rfl⟩
  · cases h
theorem rc_sI_spec {w w' : rc_M} {r : Option Nat} {kd : Nat} {i x : Int32} (h : rc_sI w r kd i x = some w') : ∃ (a n : Nat) (f : Nat → Int32), r = some a ∧ w.1 a = some (.inr (.inl (kd, n, .inl f))) ∧ vp_in i n ∧ w' = rc_up w a (.inr (.inl (kd, n, .inl (upd f i.toNatClampNeg (rc_nar kd x))))) := by
  unfold rc_sI at h
  split at h
  · rename_i a n f e
    obtain ⟨h1, h2⟩ := rc_gA_spec e
    split at h
    · cases h
    · rename_i hc
      cases h
      exact ⟨a, n, f, h1, h2, hc, rfl⟩
  · cases h
theorem rc_sL_spec {w w' : rc_M} {r : Option Nat} {i : Int32} {x : Int64} (h : rc_sL w r i x = some w') : ∃ (a n : Nat) (f : Nat → Int64), r = some a ∧ w.1 a = some (.inr (.inl (1, n, .inr (.inl f)))) ∧ vp_in i n ∧ w' = rc_up w a (.inr (.inl (1, n, .inr (.inl (vp_updL f i.toNatClampNeg x))))) := by
  unfold rc_sL at h
  split at h
  · rename_i a n f e
    obtain ⟨h1, h2⟩ := rc_gA_spec e
    split at h
    · cases h
    · rename_i hc
      cases h
      exact ⟨a, n, f, h1, h2, hc, rfl⟩
  · cases h
theorem rc_sR_spec {w w' : rc_M} {r : Option Nat} {kd ci : Nat} {i : Int32} {x : Option Nat} (h : rc_sR w r kd ci i x = some w') : ∃ (a n y : Nat) (f : Nat → Option Nat), r = some a ∧ x = some y ∧ rc_isC w y ci = true ∧ w.1 a = some (.inr (.inl (kd, n, .inr (.inr f)))) ∧ vp_in i n ∧ w' = rc_up w a (.inr (.inl (kd, n, .inr (.inr (va_up f i.toNatClampNeg (some y)))))) := by
  unfold rc_sR at h
  split at h
  · rename_i a n f e
    obtain ⟨h1, h2⟩ := rc_gA_spec e
    split at h
    · cases h
    · rename_i hc
      split at h
      · cases h
      · rename_i y
        split at h
        · rename_i hy
          cases h
          exact ⟨a, n, y, f, h1, rfl, hy, h2, hc, rfl⟩
        · cases h
  · cases h
theorem rc_ln_spec {w : rc_M} {r : Option Nat} {kd : Nat} {x : Int32} (h : rc_ln w r kd = some x) : ∃ (a n : Nat) (f : rc_A), r = some a ∧ w.1 a = some (.inr (.inl (kd, n, f))) ∧ x = Int32.ofNat n := by
  unfold rc_ln at h
  split at h
  · rename_i a n f e
    obtain ⟨h1, h2⟩ := rc_gA_spec e
    cases h
    exact ⟨a, n, f, h1, h2, rfl⟩
  · cases h
theorem rc_rc_spec {w : rc_M} {r : Option Nat} {ci a : Nat} (h : rc_rc w r ci = some a) : r = some a ∧ rc_isC w a ci = true := by
  unfold rc_rc at h
  split at h
  · cases h
  · split at h
    · rename_i hc
      cases h
      exact ⟨rfl, hc⟩
    · cases h
theorem rc_new_spec {w w' : rc_M} {ci a : Nat} (h : rc_new w ci = some (a, w')) : (w.2.1 + 1 ≤ rc_zc w ∧ w.2.2.1 + rc_N ci ≤ rc_zs w) ∧ a = w.2.1 ∧ w' = rc_push w (.inl (ci, rc_dflt ci)) (rc_N ci) := by
  unfold rc_new at h
  split at h
  · rename_i hc
    cases h
    exact ⟨hc, rfl, rfl⟩
  · cases h
theorem rc_newA_spec {w w' : rc_M} {kd a : Nat} {n : Int32} (h : rc_newA w kd n = some (a, w')) : ¬ n < 0 ∧ (w.2.1 + 1 ≤ rc_zc w ∧ w.2.2.1 + n.toNatClampNeg ≤ rc_zs w ∧ n.toNatClampNeg ≤ 1000000) ∧ a = w.2.1 ∧ w' = rc_push w (.inr (.inl (kd, n.toNatClampNeg, rc_arr0 kd))) n.toNatClampNeg := by
  unfold rc_newA at h
  split at h
  · cases h
  · rename_i h0
    split at h
    · rename_i hc
      cases h
      exact ⟨h0, hc, rfl, rfl⟩
    · cases h
/-- an object of a class at an address, or a row: its cell -/
theorem rc_isC_cell {G : rc_G} {w : rc_M} {H : Heap} {U : State} {a ci : Nat} (h : rc_isC w a ci = true) (hH : rc_H G w H) (hK : rc_K G U) : ci < 8 ∧ ∃ cell : Cell, H[a]? = some cell ∧ cell.vm = .none ∧ cell.cls = G.1.1 ci ∧ U.vm.findClass (rc_R ci) = some cell.cls ∧ ∃ kC : Class, U.vm.classes[cell.cls]? = some kC := by
  obtain ⟨-, -, -, -, -, β, hB, -⟩ := hH
  unfold rc_isC at h
  split at h
  · rename_i o hw
    have hc : o.1 = ci := by simpa using h
    subst hc
    obtain ⟨-, hci, cell, q1, q2, q3, -⟩ := hB a _ hw
    obtain ⟨-, hfc, kC, hkC, -⟩ := hK.1 o.1 _ (rc_cl_at o.1 hci)
    exact ⟨hci, cell, q1, q3, q2, by rw [q2]; exact hfc, kC, by rw [q2]; exact hkC⟩
  · rename_i x hw
    have hc : ci = 1 := by simpa using h
    subst hc
    obtain ⟨-, ⟨cell, q1, q2, q3, -⟩, -⟩ := hB a _ hw
    obtain ⟨-, hfc, kC, hkC, -⟩ := hK.1 1 _ (rc_cl_at 1 (by decide))
    exact ⟨by decide, cell, q1, q3, q2, by rw [q2]; exact hfc, kC, by rw [q2]; exact hkC⟩
  · cases h
theorem rc_own : ∀ ci, ci < 8 → ∀ k, k < rc_N ci → ((rc_F ci) k).1 = rc_R ci := by decide +kernel
/-- what the tables say of a field as an instruction names it -/
def rc_FL (own : String) (idx ci k : Nat) : Prop := ci < 8 ∧ k < rc_N ci ∧ (Cond.fieldLink own idx (rc_R ci) ((rc_F ci) k).2.1 ((rc_F ci) k).2.2.1 ∈ rc_tb ∨ Cond.fieldLinkNest own idx (rc_R ci) ((rc_F ci) k).2.1 ((rc_F ci) k).2.2.1 "RecordCalls" ∈ rc_tb)
section RCH
variable {X : rc_X} {own : String} {cc : ByteArray} {w0 w w' : rc_M} {pc n : Nat} {st : List Value} {lv : List (Nat × Value)}
theorem j_getV (C : rc_C X own cc w0) {idx ci k : Nat} {r : Option Nat} {v : Value} (F : rc_FL own idx ci k) (h : rc_gV w r ci k = some v) (hd : decode cc pc = .ok (.getfield idx, 3)) (hn : pc + 3 = n) (kk : rc_J X w n (v :: st) lv) : rc_J X w pc (va_rf r :: st) lv := by
  subst hn
  intro H locs ls h1 h2 h3
  obtain ⟨a, V, rfl, ha, rfl⟩ := rc_gV_spec h
  obtain ⟨hci, hk, hl⟩ := F
  obtain ⟨-, -, -, -, -, β, hB, -⟩ := id h1
  obtain ⟨-, -, cell, q1, q2, q3, q4⟩ := hB a _ ha
  obtain ⟨hS, hfc, kC, hkC, hkind⟩ := C.2.2.2.2.1.1 ci _ (rc_cl_at ci hci)
  obtain ⟨cf, kf, fi, f, hi, hsl⟩ := hS k hk
  have hst := (u_facts hfc hkC (u_lays C.ts (rc_in ci hci) hk) hi).1
  have hi' := hi
  rw [rc_own ci hci k hk] at hi'
  have hv : cell.slots[f.slot]? = some (V k) := by rw [hsl]; exact q4 k hk
  rcases hl with hl | hl
  · exact W.getf C.1 C.2.1 C.2.2.1 (C.ts _ hl) hi' hst q1 (by rw [q3]; exact fun h => by cases h) hv rfl rfl hd (kk H locs ls h1 h2 h3)
  · exact va_Wgetf C.1 C.2.1 C.2.2.1 (C.ts _ hl) hi' hst q1 (by rw [q3]; exact fun h => by cases h) hv rfl rfl hd (kk H locs ls h1 h2 h3)
theorem j_getI (C : rc_C X own cc w0) {idx ci k : Nat} {r : Option Nat} {x : Int32} (F : rc_FL own idx ci k) (h : rc_gI w r ci k = some x) (hd : decode cc pc = .ok (.getfield idx, 3)) (hn : pc + 3 = n) (kk : rc_J X w n (.int x :: st) lv) : rc_J X w pc (va_rf r :: st) lv := j_getV C F (rc_gI_spec h) hd hn kk
theorem j_getL (C : rc_C X own cc w0) {idx ci k : Nat} {r : Option Nat} {x : Int64} (F : rc_FL own idx ci k) (h : rc_gL w r ci k = some x) (hd : decode cc pc = .ok (.getfield idx, 3)) (hn : pc + 3 = n) (kk : rc_J X w n (.long x :: st) lv) : rc_J X w pc (va_rf r :: st) lv := j_getV C F (rc_gL_spec h) hd hn kk
theorem j_getR (C : rc_C X own cc w0) {idx ci k : Nat} {r : Option Nat} {x : Option Nat} (F : rc_FL own idx ci k) (h : rc_gR w r ci k = some x) (hd : decode cc pc = .ok (.getfield idx, 3)) (hn : pc + 3 = n) (kk : rc_J X w n (va_rf x :: st) lv) : rc_J X w pc (va_rf r :: st) lv := j_getV C F (rc_gR_spec h) hd hn kk
theorem rc_setSlot_size (c : Cell) (i : Nat) (v : Value) : (c.setSlot i v).slots.size = c.slots.size := by simp [Cell.setSlot]
theorem j_putV (C : rc_C X own cc w0) {idx ci k : Nat} {r : Option Nat} {v : Value} (hci : ci < 8) (hk : k < rc_N ci) (hl : Cond.fieldLink own idx (rc_R ci) ((rc_F ci) k).2.1 ((rc_F ci) k).2.2.1 ∈ rc_tb) (hfin : ((rc_F ci) k).2.2.2 = false ∨ (((rc_F ci) k).2.2.2 = true ∧ (q_t X).name = "<init>" ∧ rc_R ci = own)) (hnr : narrow (rc_t ci k) v = v) (hft : fits (rc_t ci k) v = true) (h : rc_pV w r ci k v = some w') (hd : decode cc pc = .ok (.putfield idx, 3)) (hn : pc + 3 = n) (kk : rc_J X w' n st lv) : rc_J X w pc (v :: va_rf r :: st) lv := by
  subst hn
  intro H locs ls h1 h2 h3
  obtain ⟨a, V, rfl, ha, rfl⟩ := rc_pV_spec h
  obtain ⟨-, -, -, -, -, β, hB, -⟩ := id h1
  obtain ⟨hba, -, cell, q1, q2, q3, q4⟩ := hB a _ ha
  obtain ⟨hS, hfc, kC, hkC, hkind⟩ := C.2.2.2.2.1.1 ci _ (rc_cl_at ci hci)
  obtain ⟨cf, kf, fi, f, hi, hsl⟩ := hS k hk
  have hap := va_apart (own := own) (args := q_a X) (s := q_s X) C.ts (rc_in ci hci) (rc_t ci) (rc_ty ci hci) (rc_nm ci hci) C.2.2.2.2.1 (rc_cl_at ci hci)
  have hlay := u_lays C.ts (rc_in ci hci) hk
  have hst := (u_facts hfc hkC hlay hi).1
  have hi' := hi
  rw [rc_own ci hci k hk] at hi'
  have fin : ∀ H' : Heap, H'[a]? = some (cell.setSlot f.slot v) → H'.size = H.size → (∀ q, q ≠ a → H'[q]? = H[q]?) → rc_V X H' (locs ++ [⟨a, f.slot⟩]) (q_R X).cells (q_R X).slots (F0 (q_m X) (pc + 3) ls st) := by
    intro H' e1 e2 e3
    refine kk H' _ ls (h1.set ha (fun ⟨_, q⟩ => by cases q) (fun ⟨_, q⟩ => by cases q) e2 (fun c0 hc0 => ⟨_, e1, ?_⟩) e3 (fun β' => ⟨hci, _, e1, q2, q3, ?_⟩)) (h2.put e2 e3 hba) h3
    · cases q1.symm.trans hc0
      exact rc_setSlot_size _ _ _
    · rw [hsl]
      exact t_set q4 hap hk v
  rcases hfin with hfin | ⟨hft0, hnm, hro⟩
  · have hlay2 := C.ts _ (rc_in ci hci _ (u_in_lay hk))
    unfold u_lay at hlay2
    rw [if_neg (by rw [hfin]; decide)] at hlay2
    have h6 := u_store hfc hkC hkind hlay2 hi (rc_ty ci hci k hk) hnr hft
    exact W.putK C.1 C.2.1 (f := f) ⟨C.2.2.1, C.ts _ hl, ⟨_, _, _, hi'⟩, hst⟩ (by rw [q2]; exact h6) q1 q3 (by rw [hsl]; exact k2_hasslot (q4 k hk)) rfl rfl hd fin
  · have hlay2 := C.ts _ (rc_in ci hci _ (u_in_lay hk))
    unfold u_lay at hlay2
    rw [if_pos hft0] at hlay2
    have hcf : (q_m X).cls = cf := by
      obtain ⟨_, _, c', _, _, _, -, -, hf', -, -, -, hown2, -⟩ := Cond.laysFinal_spec hlay2
      have e1 : c' = cf := by have := hi.symm.trans hf'; simp at this; exact this.1.symm
      rw [rc_own ci hci k hk, hro] at hown2
      rw [← e1]; exact Option.some.inj (C.2.2.1.symm.trans hown2)
    have h6 := u_fits hfc hkC hkind hlay hi (rc_ty ci hci k hk) hnr hft
    exact W.putFinK C.1 C.2.1 C.2.2.1 (C.ts _ hl) hi' hst hcf hnm (by rw [q2]; exact h6) q1 q3 (by rw [hsl]; exact k2_hasslot (q4 k hk)) rfl rfl hd fin
end RCH
end
section
section RCA
variable {X : rc_X} {own : String} {cc : ByteArray} {w0 w w' : rc_M} {pc n : Nat} {st : List Value} {lv : List (Nat × Value)}
/-- the array at an address, by its kind -/
theorem rc_arr {G : rc_G} {H : Heap} {a kd m : Nat} {x : rc_A} (h : rc_H G w H) (ha : w.1 a = some (.inr (.inl (kd, m, x)))) : rc_b G ≤ a ∧ H[a]? = some (rc_cell (G.2.1 kd) m x) := by
  obtain ⟨-, -, -, -, -, β, hB, -⟩ := h
  exact hB a _ ha
theorem rc_arr_set {G : rc_G} {H H1 : Heap} {a kd m : Nat} {x y : rc_A} (h : rc_H G w H) (ha : w.1 a = some (.inr (.inl (kd, m, x)))) (hz : H1.size = H.size) (he : H1[a]? = some (rc_cell (G.2.1 kd) m y)) (ho : ∀ q : Nat, q ≠ a → H1[q]? = H[q]?) : rc_H G (rc_up w a (.inr (.inl (kd, m, y)))) H1 := by
  refine h.set ha (fun ⟨_, q⟩ => by cases q) (fun ⟨_, q⟩ => by cases q) hz (fun c0 hc0 => ⟨_, he, ?_⟩) ho (fun β => he)
  cases (rc_arr h ha).2.symm.trans hc0
  rw [rc_cell_size, rc_cell_size]
theorem rc_K.arr {G : rc_G} {U : State} (h : rc_K G U) (kd : Nat) {cA : ClassId} {ty : FieldType} (hk : (rc_tys G)[kd]? = some (cA, ty)) : ArrOfT U cA ty := (h.2 kd _ hk).1
theorem j_iald (C : rc_C X own cc w0) {r : Option Nat} {i x : Int32} (h : rc_aI w r 0 i = some x) (hd : decode cc pc = .ok (.iaload, 1)) (hn : pc + 1 = n) (kk : rc_J X w n (.int x :: st) lv) : rc_J X w pc (.int i :: va_rf r :: st) lv := by
  subst hn
  intro H locs ls h1 h2 h3
  obtain ⟨a, m, f, rfl, ha, hin, rfl⟩ := rc_aI_spec h
  have hlt : i.toNatClampNeg < m := Nat.not_le.mp fun q => hin (Or.inr q)
  exact W.iald C.1 C.2.1 (rc_arr h1 ha).2 (C.2.2.2.2.1.arr 0 rfl m (fun j => .int (f j))) (fun q => by cases q) (by rw [rc_cell_size]; exact hin) (by show (arrV _ _ _).slots[_]? = _; rw [arrV_read _ _ hlt]) rfl rfl hd (kk H locs ls h1 h2 h3)
theorem j_bald (C : rc_C X own cc w0) {r : Option Nat} {i x : Int32} (h : rc_aI w r 2 i = some x) (hd : decode cc pc = .ok (.baload, 1)) (hn : pc + 1 = n) (kk : rc_J X w n (.int x :: st) lv) : rc_J X w pc (.int i :: va_rf r :: st) lv := by
  subst hn
  intro H locs ls h1 h2 h3
  obtain ⟨a, m, f, rfl, ha, hin, rfl⟩ := rc_aI_spec h
  have hlt : i.toNatClampNeg < m := Nat.not_le.mp fun q => hin (Or.inr q)
  exact W.bald C.1 C.2.1 (rc_arr h1 ha).2 (C.2.2.2.2.1.arr 2 rfl m (fun j => .int (f j))) (fun q => by cases q) (by rw [rc_cell_size]; exact hin) (by show (arrV _ _ _).slots[_]? = _; rw [arrV_read _ _ hlt]) rfl rfl hd (kk H locs ls h1 h2 h3)
theorem j_zald (C : rc_C X own cc w0) {r : Option Nat} {i x : Int32} (h : rc_aI w r 3 i = some x) (hd : decode cc pc = .ok (.baload, 1)) (hn : pc + 1 = n) (kk : rc_J X w n (.int x :: st) lv) : rc_J X w pc (.int i :: va_rf r :: st) lv := by
  subst hn
  intro H locs ls h1 h2 h3
  obtain ⟨a, m, f, rfl, ha, hin, rfl⟩ := rc_aI_spec h
  have hlt : i.toNatClampNeg < m := Nat.not_le.mp fun q => hin (Or.inr q)
  exact W.zald C.1 C.2.1 (rc_arr h1 ha).2 (C.2.2.2.2.1.arr 3 rfl m (fun j => .int (f j))) (fun q => by cases q) (by rw [rc_cell_size]; exact hin) (by show (arrV _ _ _).slots[_]? = _; rw [arrV_read _ _ hlt]) rfl rfl hd (kk H locs ls h1 h2 h3)
theorem j_lald (C : rc_C X own cc w0) {r : Option Nat} {i : Int32} {x : Int64} (h : rc_aL w r i = some x) (hd : decode cc pc = .ok (.laload, 1)) (hn : pc + 1 = n) (kk : rc_J X w n (.long x :: st) lv) : rc_J X w pc (.int i :: va_rf r :: st) lv := by
  subst hn
  intro H locs ls h1 h2 h3
  obtain ⟨a, m, f, rfl, ha, hin, rfl⟩ := rc_aL_spec h
  have hlt : i.toNatClampNeg < m := Nat.not_le.mp fun q => hin (Or.inr q)
  exact W.lald C.1 C.2.1 (rc_arr h1 ha).2 (C.2.2.2.2.1.arr 1 rfl m (fun j => .long (f j))) (fun q => by cases q) (by rw [rc_cell_size]; exact hin) (by show (arrV _ _ _).slots[_]? = _; rw [arrV_read _ _ hlt]) rfl rfl hd (kk H locs ls h1 h2 h3)
theorem j_aald (C : rc_C X own cc w0) {r : Option Nat} {kd : Nat} {E : String} {i : Int32} {x : Option Nat} (hkd : (rc_tys (q_G X))[kd]? = some ((q_G X).2.1 kd, .object E)) (h : rc_aR w r kd i = some x) (hd : decode cc pc = .ok (.aaload, 1)) (hn : pc + 1 = n) (kk : rc_J X w n (va_rf x :: st) lv) : rc_J X w pc (.int i :: va_rf r :: st) lv := by
  subst hn
  intro H locs ls h1 h2 h3
  obtain ⟨a, m, f, rfl, ha, hin, rfl⟩ := rc_aR_spec h
  have hlt : i.toNatClampNeg < m := Nat.not_le.mp fun q => hin (Or.inr q)
  exact W.aald (ty := .object E) C.1 C.2.1 (rc_arr h1 ha).2 (C.2.2.2.2.1.arr kd hkd m (fun j => va_rf (f j))) rfl (fun q => by cases q) (by rw [rc_cell_size]; exact hin) (by show (arrV _ _ _).slots[_]? = _; rw [arrV_read _ _ hlt]) rfl rfl hd (kk H locs ls h1 h2 h3)
theorem rc_cell_i (cA : ClassId) (m : Nat) (f : Nat → Int32) : rc_cell cA m (.inl f) = arrV cA m (fun j => .int (f j)) := rfl
theorem rc_cell_l (cA : ClassId) (m : Nat) (f : Nat → Int64) : rc_cell cA m (.inr (.inl f)) = arrV cA m (fun j => .long (f j)) := rfl
theorem rc_cell_q (cA : ClassId) (m : Nat) (f : Nat → Option Nat) : rc_cell cA m (.inr (.inr f)) = arrV cA m (fun j => va_rf (f j)) := rfl
theorem rc_cell_upd (cA : ClassId) (m i : Nat) (f : Nat → Int32) (x : Int32) : (rc_cell cA m (.inl f)).setSlot i (.int x) = rc_cell cA m (.inl (upd f i x)) := by
  rw [rc_cell_i, rc_cell_i, arrV_store]
  congr 1
  funext q
  by_cases hq : q = i <;> simp [updV, upd, hq]
theorem j_iast (C : rc_C X own cc w0) {r : Option Nat} {i x : Int32} (h : rc_sI w r 0 i x = some w') (hd : decode cc pc = .ok (.iastore, 1)) (hn : pc + 1 = n) (kk : rc_J X w' n st lv) : rc_J X w pc (.int x :: .int i :: va_rf r :: st) lv := by
  subst hn
  intro H locs ls h1 h2 h3
  obtain ⟨a, m, f, rfl, ha, hin, rfl⟩ := rc_sI_spec h
  have hA := rc_arr h1 ha
  refine W.iast C.1 C.2.1 hA.2 (C.2.2.2.2.1.arr 0 rfl m (fun j => .int (f j))) (fun q => by cases q) (by rw [rc_cell_size]; exact hin) rfl rfl hd fun H1 e z oq => ?_
  exact kk H1 _ ls (rc_arr_set h1 ha z (by rw [e, rc_cell_upd]; rfl) oq) (h2.put z oq hA.1) h3
theorem j_bast (C : rc_C X own cc w0) {r : Option Nat} {i x : Int32} (h : rc_sI w r 2 i x = some w') (hd : decode cc pc = .ok (.bastore, 1)) (hn : pc + 1 = n) (kk : rc_J X w' n st lv) : rc_J X w pc (.int x :: .int i :: va_rf r :: st) lv := by
  subst hn
  intro H locs ls h1 h2 h3
  obtain ⟨a, m, f, rfl, ha, hin, rfl⟩ := rc_sI_spec h
  have hA := rc_arr h1 ha
  refine W.bast C.1 C.2.1 hA.2 (C.2.2.2.2.1.arr 2 rfl m (fun j => .int (f j))) (fun q => by cases q) (by rw [rc_cell_size]; exact hin) rfl rfl hd fun H1 e z oq => ?_
  exact kk H1 _ ls (rc_arr_set h1 ha z (by rw [e, show narrow .byte (.int x) = .int (vp_nar .byte x) from rfl, rc_cell_upd]; rfl) oq) (h2.put z oq hA.1) h3
theorem j_zast (C : rc_C X own cc w0) {r : Option Nat} {i x : Int32} (h : rc_sI w r 3 i x = some w') (hd : decode cc pc = .ok (.bastore, 1)) (hn : pc + 1 = n) (kk : rc_J X w' n st lv) : rc_J X w pc (.int x :: .int i :: va_rf r :: st) lv := by
  subst hn
  intro H locs ls h1 h2 h3
  obtain ⟨a, m, f, rfl, ha, hin, rfl⟩ := rc_sI_spec h
  have hA := rc_arr h1 ha
  refine W.zast C.1 C.2.1 hA.2 (C.2.2.2.2.1.arr 3 rfl m (fun j => .int (f j))) (fun q => by cases q) (by rw [rc_cell_size]; exact hin) rfl rfl hd fun H1 e z oq => ?_
  exact kk H1 _ ls (rc_arr_set h1 ha z (by rw [e, show narrow .boolean (.int x) = .int (vp_nar .boolean x) from rfl, rc_cell_upd]; rfl) oq) (h2.put z oq hA.1) h3
theorem j_last (C : rc_C X own cc w0) {r : Option Nat} {i : Int32} {x : Int64} (h : rc_sL w r i x = some w') (hd : decode cc pc = .ok (.lastore, 1)) (hn : pc + 1 = n) (kk : rc_J X w' n st lv) : rc_J X w pc (.long x :: .int i :: va_rf r :: st) lv := by
  subst hn
  intro H locs ls h1 h2 h3
  obtain ⟨a, m, f, rfl, ha, hin, rfl⟩ := rc_sL_spec h
  have hA := rc_arr h1 ha
  refine W.last C.1 C.2.1 hA.2 (C.2.2.2.2.1.arr 1 rfl m (fun j => .long (f j))) (fun q => by cases q) (by rw [rc_cell_size]; exact hin) rfl rfl hd fun H1 e z oq => ?_
  refine kk H1 _ ls (rc_arr_set h1 ha z ?_ oq) (h2.put z oq hA.1) h3
  rw [e, rc_cell_l, rc_cell_l, arrV_store]
  congr 2
  funext q
  by_cases hq : q = i.toNatClampNeg <;> simp [updV, vp_updL, hq]
theorem j_aast (C : rc_C X own cc w0) {r x : Option Nat} {kd ci : Nat} {i : Int32} (hkd : (rc_tys (q_G X))[kd]? = some ((q_G X).2.1 kd, .object (rc_R ci))) (h : rc_sR w r kd ci i x = some w') (hd : decode cc pc = .ok (.aastore, 1)) (hn : pc + 1 = n) (kk : rc_J X w' n st lv) : rc_J X w pc (va_rf x :: .int i :: va_rf r :: st) lv := by
  subst hn
  intro H locs ls h1 h2 h3
  obtain ⟨a, m, y, f, rfl, rfl, hy, ha, hin, rfl⟩ := rc_sR_spec h
  have hA := rc_arr h1 ha
  have hlt : i.toNatClampNeg < m := Nat.not_le.mp fun q => hin (Or.inr q)
  have h0 : ¬ i < 0 := fun q => hin (Or.inl q)
  obtain ⟨hci, cellV, g1, g3, g2, hf2, -⟩ := rc_isC_cell hy h1 C.2.2.2.2.1
  have hcls := (C.2.2.2.2.1.1 ci _ (rc_cl_at ci hci)).2
  obtain ⟨kA, comp, k1, k2, k3, -⟩ := (C.2.2.2.2.1.2 kd _ hkd).2
  have hcomp : comp = (q_G X).1.1 ci := Option.some.inj (k3.symm.trans hcls.1)
  subst hcomp
  obtain ⟨kC, hkC, -⟩ := hcls.2
  refine W.aast C.1 C.2.1 hA.2 (fun q h => by cases h) (fun h => by cases h) k1 k2 rfl hkC ⟨h0, by rw [rc_cell_size]; exact hlt⟩ g1 (fun q h => by rw [g3] at h; cases h) (by rw [g2]; exact hkC) (by rw [g2]; exact va_assign hcls) rfl rfl hd fun H1 e z oq => ?_
  refine kk H1 _ ls (rc_arr_set h1 ha z ?_ oq) (h2.put z oq hA.1) h3
  rw [e, rc_cell_q, rc_cell_q, arrV_store]
  congr 2
  funext q
  by_cases hq : q = i.toNatClampNeg <;> simp [updV, va_up, va_rf, hq]
theorem j_alen (C : rc_C X own cc w0) {r : Option Nat} {kd : Nat} {ty : FieldType} {x : Int32} (hkd : (rc_tys (q_G X))[kd]? = some ((q_G X).2.1 kd, ty)) (h : rc_ln w r kd = some x) (hd : decode cc pc = .ok (.arraylength, 1)) (hn : pc + 1 = n) (kk : rc_J X w n (.int x :: st) lv) : rc_J X w pc (va_rf r :: st) lv := by
  subst hn
  intro H locs ls h1 h2 h3
  obtain ⟨a, m, f, rfl, ha, rfl⟩ := rc_ln_spec h
  have hA := (rc_arr h1 ha).2
  have hs : (rc_cell ((q_G X).2.1 kd) m f).slots.size.toInt32 = Int32.ofNat m := by rw [rc_cell_size]
  rcases f with f | f | f
  · exact W.alen C.1 C.2.1 hA (C.2.2.2.2.1.arr kd hkd m (fun j => .int (f j))) hs rfl rfl hd (kk H locs ls h1 h2 h3)
  · exact W.alen C.1 C.2.1 hA (C.2.2.2.2.1.arr kd hkd m (fun j => .long (f j))) hs rfl rfl hd (kk H locs ls h1 h2 h3)
  · exact W.alen C.1 C.2.1 hA (C.2.2.2.2.1.arr kd hkd m (fun j => va_rf (f j))) hs rfl rfl hd (kk H locs ls h1 h2 h3)
/-- the room that is really taken -/
theorem rc_narrow (C : rc_C X own cc w0) {H : Heap} {locs : List Loc} {cells slots : Nat} {g : JFrame} (h1 : rc_H (q_G X) w H) (k : rc_tz w0 ≤ rc_tz w → rc_V X H locs (rc_z w - rc_z w0) (rc_tz w - rc_tz w0) g) : rc_V X H locs cells slots g := by
  intro T hT S
  obtain ⟨e1, e2, e3, e4, e5, e6⟩ := S.same
  have e2' : (q_s X).heap.size ≤ T.heap.size := e2
  obtain ⟨b0, b1, b2, -⟩ := C.2.2.2.2.2.2.2.1
  obtain ⟨a0, a1, a2, -⟩ := h1
  have hsp := rc_nw_split (z := rc_b (q_G X)) (H0 := (q_s X).heap) (H := T.heap) b0 e2' (fun q hq => by
    obtain ⟨c', g1, -, g3, -⟩ := e6 q _ (Array.getElem?_eq_getElem hq)
    have g1' : T.heap[q]? = some c' := g1
    rw [g1', Array.getElem?_eq_getElem hq]
    simp [g3])
  rw [hT] at hsp
  have g1 : rc_tz w0 = rc_nw (rc_b (q_G X)) (q_s X).heap := b2
  have g2 : rc_tz w = rc_nw (rc_b (q_G X)) H := a2
  refine k (by omega) T hT { S with same := ?_ }
  refine ⟨e1, e2, ?_, e4, ?_, e6⟩
  · show T.heap.size ≤ _
    rw [hT] at e2' ⊢
    have : rc_z w0 = (q_s X).heap.size := b1
    have : rc_z w = H.size := a1
    omega
  · show rc_nw (q_s X).heap.size T.heap ≤ _
    rw [hT]
    omega
theorem rc_lim (C : rc_C X own cc w0) {H : Heap} {locs : List Loc} (h1 : rc_H (q_G X) w H) (h2 : va_S (fun q => rc_b (q_G X) ≤ q) (q_s X).heap H locs) : rc_zc w = rc_zc w0 ∧ rc_zs w = rc_zs w0 ∧ rc_z w0 ≤ rc_z w ∧ rc_z w ≤ rc_zc w ∧ rc_tz w ≤ rc_zs w := by
  obtain ⟨b0, b1, b2, b3, b4, -⟩ := C.2.2.2.2.2.2.2.1
  obtain ⟨a0, a1, a2, a3, a4, -⟩ := h1
  have e : w.2.2.2 = w0.2.2.2 := a4.trans b4.symm
  refine ⟨by show w.2.2.2.1 = w0.2.2.2.1; rw [e], by show w.2.2.2.2 = w0.2.2.2.2; rw [e], ?_, a3.1, a3.2.1⟩
  have := h2.1
  show w0.2.1 ≤ w.2.1
  rw [a1, b1]
  exact this
end RCA
end
section
/-! NEW OBJECTS AND ARRAYS, CALLS, ANSWERS, ENTRIES -/
def rc_Pc (G : rc_G) (av : List Value) (w : rc_M) : Array Value → State → Prop := va_Pc av (fun U => rc_H G w U.heap ∧ rc_K G U ∧ rc_T U)
def rc_Qc (G : rc_G) (v : Option Value) (w' : rc_M) : Array Value → State → Outcome → State → Prop := fun _ st oc t => oc = .returned v ∧ rc_H G w' t.heap ∧ va_F (fun q => rc_b G ≤ q) st t
abbrev rc_rm (fr lo : Nat) (w : rc_M) : Room := { frames := fr, cells := rc_zc w - rc_z w, slots := rc_zs w - rc_tz w, locals := lo }
/-- THE CONTRACT: from a world, with these arguments, the method answers v and leaves the world w' -/
def rc_Ct (l : Launch) (G : rc_G) (y : MethodName) (cc : ByteArray) (mL : Nat) (ret : Option FieldType) (fr lo : Nat) (av : List Value) (w : rc_M) (v : Option Value) (w' : rc_M) : Prop :=
  Met l y [.code y cc mL ret] (rc_rm fr lo w) (rc_Pc G av w) (rc_Qc G v w') (rc_zc w - rc_z w) (rc_zs w - rc_tz w) (fun q => rc_b G ≤ q)
def rc_E0 (X : rc_X) (y : MethodName) (ret : Option FieldType) (v : Option Value) (w' : rc_M) : Prop := (q_t X).sig.returnType = ret ∧ (q_t X).name = y.name ∧ q_Q X = MQ (q_b X) (rc_Qc (q_G X) v w') (q_a X) (q_s X) (q_R X).cells (q_R X).slots (fun q => rc_b (q_G X) ≤ q)
theorem rc_enter {l : Launch} {G : rc_G} {y : MethodName} {cc : ByteArray} {mL : Nat} {ret : Option FieldType} {fr lo : Nat} {av : List Value} {w : rc_M} {v : Option Value} {w' : rc_M} (hy : plainFor y = true) (hlen : (lg_sl av).length ≤ mL)
    (body : ∀ X : rc_X, q_l X = l → q_G X = G → q_n X = mL → (q_R X).frames = fr → (q_R X).locals = lo → rc_C X y.cls cc w → rc_E0 X y ret v w' → rc_J X w 0 [] (lv_args 0 av)) : rc_Ct l G y cc mL ret fr lo av w v w' := by
  refine va_MetF (cc := cc) (maxL := mL) (ret := ret) hy rfl ?_
  intro p e s m args below meth c s₁ B hml hv
  obtain ⟨rfl, hH, hK, hT⟩ := hv
  have hl := lv_entry av (n := mL) hlen
  rw [lg_entry_eq]
  refine W.widen (Nat.zero_le (rc_zc w - rc_z w)) (Nat.zero_le (rc_zs w - rc_tz w)) ?_
  exact body ((p, l, e, (headSpec [.code y cc mL ret] (rc_rm fr lo w)).room, s), (m, av.toArray, below, meth, c), G, mL, _) rfl rfl rfl rfl rfl ⟨B.exec, B.bytes, findClass_of_methodNamed B.named, hT, hK, hml, B.notSynchronized, hH, rfl, rfl⟩ ⟨B.returns, (name_of_methodNamed B.named B.method).1, rfl⟩ s.heap [] _ hH va_S.rf hl
section RCC
variable {X : rc_X} {own : String} {cc : ByteArray} {w0 w w' : rc_M} {pc n : Nat} {st : List Value} {lv : List (Nat × Value)} {y : MethodName}
theorem j_iret (C : rc_C X own cc w0) {x : Int32} (E : rc_E0 X y (some .int) (some (.int x)) w) (hd : decode cc pc = .ok (.ireturn, 1)) : rc_J X w pc [.int x] lv := by
  intro H locs ls h1 h2 h3
  rw [rc_V, E.2.2]
  exact W.iret C.1 C.2.1 E.1 (fun t ht hW => ⟨rfl, by rw [ht]; exact h1, h2.F ht⟩) h2.2.2 hd C.2.2.2.2.2.2.1
theorem j_zret (C : rc_C X own cc w0) {x : Int32} (hx : x = 0 ∨ x = 1) (E : rc_E0 X y (some .boolean) (some (.int x)) w) (hd : decode cc pc = .ok (.ireturn, 1)) : rc_J X w pc [.int x] lv := by
  intro H locs ls h1 h2 h3
  rw [rc_V, E.2.2]
  exact W.zret C.1 C.2.1 E.1 (by rcases hx with rfl | rfl <;> rfl) (fun t ht hW => ⟨rfl, by rw [ht]; exact h1, h2.F ht⟩) h2.2.2 hd C.2.2.2.2.2.2.1
theorem j_lret (C : rc_C X own cc w0) {x : Int64} (E : rc_E0 X y (some .long) (some (.long x)) w) (hd : decode cc pc = .ok (.lreturn, 1)) : rc_J X w pc [.long x] lv := by
  intro H locs ls h1 h2 h3
  rw [rc_V, E.2.2]
  exact W.lret C.1 C.2.1 E.1 (fun t ht hW => ⟨rfl, by rw [ht]; exact h1, h2.F ht⟩) h2.2.2 hd C.2.2.2.2.2.2.1
theorem j_aret (C : rc_C X own cc w0) {r : Option Nat} {rt : FieldType} (hrt : (∃ n, rt = .object n) ∨ ∃ t, rt = .array t) (E : rc_E0 X y (some rt) (some (va_rf r)) w) (hd : decode cc pc = .ok (.areturn, 1)) : rc_J X w pc [va_rf r] lv := by
  intro H locs ls h1 h2 h3
  rw [rc_V, E.2.2]
  exact W.aret C.1 C.2.1 E.1 hrt (va_rf_or r) (fun t ht hW => ⟨rfl, by rw [ht]; exact h1, h2.F ht⟩) h2.2.2 hd C.2.2.2.2.2.2.1
theorem j_vret (C : rc_C X own cc w0) (E : rc_E0 X y none none w) (hd : decode cc pc = .ok (.return_, 1)) : rc_J X w pc [] lv := by
  intro H locs ls h1 h2 h3
  rw [rc_V, E.2.2]
  exact W.vret C.1 C.2.1 E.1 (fun t ht hW => ⟨rfl, by rw [ht]; exact h1, h2.F ht⟩) h2.2.2 hd C.2.2.2.2.2.2.1
theorem j_new (C : rc_C X own cc w0) {idx ci a : Nat} (hci : ci < 8) (hl : Cond.classLink own idx (rc_R ci) ∈ rc_tb) (hins : Cond.instantiable (rc_R ci) (rc_N ci) ∈ rc_tb) (hini : Cond.initialized (rc_R ci) ∈ rc_tb) (h : rc_new w ci = some (a, w')) (hd : decode cc pc = .ok (.new idx, 3)) (hn : pc + 3 = n) (kk : rc_J X w' n (va_rf (some a) :: st) lv) : rc_J X w pc st lv := by
  subst hn
  intro H locs ls h1 h2 h3
  obtain ⟨⟨hc, hs⟩, rfl, rfl⟩ := rc_new_spec h
  obtain ⟨l1, l2, l3, l4, l5⟩ := rc_lim C h1 h2
  have hc' : rc_z w + 1 ≤ rc_zc w := hc
  have hs' : rc_tz w + rc_N ci ≤ rc_zs w := hs
  have hKn := C.2.2.2.2.1.1 ci _ (rc_cl_at ci hci)
  have ez : H.size = rc_z w := h1.2.1.symm
  refine rc_narrow C h1 (fun l6 => W.newcK C.1 C.2.1 C.2.2.1 (C.ts _ hl) (C.ts _ hins) (C.ts _ hini) rfl hd (by rw [C.2.2.2.2.2.2.2.2.1]; omega) (by rw [C.2.2.2.2.2.2.2.2.2]; omega) hKn.2.1 rfl fun H1 kC hkC e1 z1 o1 => ?_)
  refine W.widen (k := (q_R X).cells) (n := (q_R X).slots) (by rw [C.2.2.2.2.2.2.2.2.1]; omega) (by rw [C.2.2.2.2.2.2.2.2.2]; omega) ?_
  have hsz : (blank ((q_G X).1.1 ci) kC).slots.size = rc_N ci := by
    obtain ⟨c1, k1, g1, g2, -, -, -, g3⟩ := Cond.instantiable_spec (C.ts _ hins)
    cases g1.symm.trans hKn.2.1
    cases g2.symm.trans hkC
    simp [blank, g3]
  have hw := h1.push (e := .inl (ci, rc_dflt ci)) (fun ⟨_, q⟩ => by cases q) z1 e1 o1 hc (by rw [hsz]; exact hs) (fun β => ⟨hci, u_born (rc_t ci) C.ts (rc_in ci hci) hKn hkC e1 (rc_ty ci hci)⟩)
  rw [hsz] at hw
  have hk := kk H1 locs ls hw ⟨Nat.le_trans h2.1 (by omega), fun q g1 g2 => (o1 q (Nat.lt_of_lt_of_le g1 h2.1)).trans (h2.2.1 q g1 g2), h2.2.2⟩ h3
  rw [show w.2.1 = H.size from h1.2.1] at hk
  exact hk
end RCC
end
section
section RCD
variable {X : rc_X} {own : String} {cc : ByteArray} {w0 w w' : rc_M} {pc n : Nat} {st : List Value} {lv : List (Nat × Value)}
theorem j_newA (C : rc_C X own cc w0) {kd a : Nat} {atype : ArrayType} {m : Int32} {ty : FieldType} (hty : newarray.typeOf atype = ty) (hkd : (rc_tys (q_G X))[kd]? = some ((q_G X).2.1 kd, ty)) (hra : ∀ (U : State) (cA : ClassId), va_RA U cA ty → U.vm.findClass ("[" ++ ty.toString) = some cA) (h0 : ∀ (cA : ClassId) (k : Nat), arrV cA k (fun _ => defaultValue ty) = rc_cell cA k (rc_arr0 kd)) (hby : componentBytes ty ≤ 8) (hl : Cond.arrayClass ty ∈ rc_tb) (h : rc_newA w kd m = some (a, w')) (hd : decode cc pc = .ok (.newarray atype, 2)) (hn : pc + 2 = n) (kk : rc_J X w' n (va_rf (some a) :: st) lv) : rc_J X w pc (.int m :: st) lv := by
  subst hn
  subst hty
  intro H locs ls h1 h2 h3
  obtain ⟨hm, ⟨hc, hs, hbig⟩, rfl, rfl⟩ := rc_newA_spec h
  obtain ⟨l1, l2, l3, l4, l5⟩ := rc_lim C h1 h2
  have hc' : rc_z w + 1 ≤ rc_zc w := hc
  have hs' : rc_tz w + m.toNatClampNeg ≤ rc_zs w := hs
  have ez : H.size = rc_z w := h1.2.1.symm
  refine rc_narrow C h1 (fun l6 => va_newaK C.1 C.2.1 (C.ts _ hl) rfl hd rfl hm rfl (Nat.le_trans (Nat.mul_le_mul hbig hby) (by decide)) (by rw [C.2.2.2.2.2.2.2.2.1]; omega) (by rw [C.2.2.2.2.2.2.2.2.2]; omega) rfl fun H1 cA e1 z1 o1 hAr hNm => ?_)
  refine W.widen (k := (q_R X).cells) (n := (q_R X).slots) (by rw [C.2.2.2.2.2.2.2.2.1]; omega) (by rw [C.2.2.2.2.2.2.2.2.2]; omega) ?_
  have hcA : cA = (q_G X).2.1 kd := Option.some.inj (hNm.symm.trans (hra _ _ (C.2.2.2.2.1.2 kd _ hkd).2))
  subst hcA
  rw [h0] at e1
  have hsz := rc_cell_size ((q_G X).2.1 kd) m.toNatClampNeg (rc_arr0 kd)
  have hw := h1.push (e := .inr (.inl (kd, m.toNatClampNeg, rc_arr0 kd))) (fun ⟨_, q⟩ => by cases q) z1 e1 o1 hc (by rw [hsz]; exact hs) (fun β => e1)
  rw [hsz] at hw
  have hk := kk H1 locs ls hw ⟨Nat.le_trans h2.1 (by omega), fun q g1 g2 => (o1 q (Nat.lt_of_lt_of_le g1 h2.1)).trans (h2.2.1 q g1 g2), h2.2.2⟩ h3
  rw [show w.2.1 = H.size from h1.2.1] at hk
  exact hk
theorem j_anewA (C : rc_C X own cc w0) {kd ci idx a : Nat} {m : Int32} (hkd : (rc_tys (q_G X))[kd]? = some ((q_G X).2.1 kd, .object (rc_R ci))) (h0 : rc_arr0 kd = .inr (.inr (fun _ => none))) (hl : Cond.classLink own idx (rc_R ci) ∈ rc_tb) (hov : Cond.arrayOver (.object (rc_R ci)) ∈ rc_tb) (h : rc_newA w kd m = some (a, w')) (hd : decode cc pc = .ok (.anewarray idx, 3)) (hn : pc + 3 = n) (kk : rc_J X w' n (va_rf (some a) :: st) lv) : rc_J X w pc (.int m :: st) lv := by
  subst hn
  intro H locs ls h1 h2 h3
  obtain ⟨hm, ⟨hc, hs, hbig⟩, rfl, rfl⟩ := rc_newA_spec h
  obtain ⟨l1, l2, l3, l4, l5⟩ := rc_lim C h1 h2
  have hc' : rc_z w + 1 ≤ rc_zc w := hc
  have hs' : rc_tz w + m.toNatClampNeg ≤ rc_zs w := hs
  have ez : H.size = rc_z w := h1.2.1.symm
  refine rc_narrow C h1 (fun l6 => W.anew C.1 C.2.1 C.2.2.1 (C.ts _ hl) (C.ts _ hov) rfl hd rfl hm (by omega) (by rw [C.2.2.2.2.2.2.2.2.1]; omega) (by rw [C.2.2.2.2.2.2.2.2.2]; omega) fun cA kA comp g1 g2 g3 g4 => ?_)
  refine W.widen (k := (q_R X).cells) (n := (q_R X).slots) (by rw [C.2.2.2.2.2.2.2.2.1]; omega) (by rw [C.2.2.2.2.2.2.2.2.2]; omega) ?_
  have hcA : cA = (q_G X).2.1 kd := by
    obtain ⟨-, -, -, -, -, q5⟩ := (C.2.2.2.2.1.2 kd _ hkd).2
    exact Option.some.inj (g1.symm.trans q5)
  subst hcA
  rw [show ({ cls := (q_G X).2.1 kd, slots := Array.replicate m.toNatClampNeg .null, vm := .none } : Cell) = rc_cell ((q_G X).2.1 kd) m.toNatClampNeg (rc_arr0 kd) by rw [h0, arrV_new]; rfl]
  have hsz := rc_cell_size ((q_G X).2.1 kd) m.toNatClampNeg (rc_arr0 kd)
  have o1 : ∀ q : Nat, q < H.size → (H.push (rc_cell ((q_G X).2.1 kd) m.toNatClampNeg (rc_arr0 kd)))[q]? = H[q]? := fun q hq => by rw [Array.getElem?_push, if_neg (Nat.ne_of_lt hq)]
  have e1 : (H.push (rc_cell ((q_G X).2.1 kd) m.toNatClampNeg (rc_arr0 kd)))[H.size]? = some (rc_cell ((q_G X).2.1 kd) m.toNatClampNeg (rc_arr0 kd)) := by simp
  have z1 : (H.push (rc_cell ((q_G X).2.1 kd) m.toNatClampNeg (rc_arr0 kd))).size = H.size + 1 := by simp
  have hw := h1.push (e := .inr (.inl (kd, m.toNatClampNeg, rc_arr0 kd))) (fun ⟨_, q⟩ => by cases q) z1 e1 o1 hc (by rw [hsz]; exact hs) (fun β => e1)
  rw [hsz] at hw
  have hk := kk _ locs ls hw ⟨Nat.le_trans h2.1 (by omega), fun q g1 g2 => (o1 q (Nat.lt_of_lt_of_le g1 h2.1)).trans (h2.2.1 q g1 g2), h2.2.2⟩ h3
  rw [show w.2.1 = H.size from h1.2.1] at hk
  exact hk
/-- Object.<init> -/
theorem j_oinit (C : rc_C X own cc w0) {idx : Nat} {r : Option Nat} {a : Nat} (hr : r = some a) (hl : Cond.methodLink own idx Lib.objectInit ∈ rc_tb) (hi : Cond.instanceMethod Lib.objectInit ∈ rc_tb) (hc : Cond.code Lib.objectInit ⟨#[0xb1]⟩ 1 none ∈ rc_tb) (hf : 1 ≤ (q_R X).frames) (hlo : (st.map fun v => v.category).sum + 12 ≤ (q_R X).locals) (hd : decode cc pc = .ok (.invokespecial idx, 3)) (hn : pc + 3 = n) (kk : rc_J X w n st lv) : rc_J X w pc (va_rf r :: st) lv := by
  subst hn
  subst hr
  intro H locs ls h1 h2 h3
  exact W.objInit C.1 C.2.1 C.2.2.1 (C.ts _ hl) (C.ts _ hi) (C.ts _ hc) rfl (by rw [C.2.2.2.2.2.1]; exact h3.1) rfl hd hf (by show 2 * 0 + _ + 12 ≤ _; omega) (kk H locs ls h1 h2 h3)
/-- what the tables say of a method -/
def rc_MK (y : MethodName) (cc : ByteArray) (mL : Nat) (ret : Option FieldType) (np : Nat) : Prop := Cond.code y cc mL ret ∈ rc_tb ∧ Cond.initialized y.cls ∈ rc_tb ∧ (y.cls ≠ "java/lang/invoke/MethodHandle" ∧ y.cls ≠ "java/lang/invoke/VarHandle") ∧ (parseMethodDescriptor y.desc).map (fun d => d.parameters.length) = some np
def rc_ML (own : String) (idx : Nat) (y : MethodName) : Prop := Cond.methodLink own idx y ∈ rc_tb ∨ Cond.methodLinkNest own idx y "RecordCalls" ∈ rc_tb
variable {y : MethodName} {cc' : ByteArray} {mL' fr lo np : Nat} {ret' : Option FieldType} {As : List Value} {v : Option Value}
theorem rc_after (C : rc_C X own cc w0) {H : Heap} {locs : List Loc} {ls : Array Slot} {g : JFrame} {av : Array Value} (h1 : rc_H (q_G X) w H) (h2 : va_S (fun q => rc_b (q_G X) ≤ q) (q_s X).heap H locs) (h3 : lv_has ls (q_n X) lv) (l6 : rc_tz w0 ≤ rc_tz w) (hg : g = F0 (q_m X) pc ls g.stack)
    (hr : va_Run (q_p X) (q_l X) (q_e X) (q_R X) (q_s X) (q_m X) (q_a X) (q_b X) (q_t X) (q_c X) H locs (rc_z w - rc_z w0) (rc_tz w - rc_tz w0) (rc_zc w - rc_z w) (rc_zs w - rc_tz w) g st (rc_Qc (q_G X) v w' av) (fun q => rc_b (q_G X) ≤ q))
    (kk : rc_J X w' (pc + 3) (v.toList ++ st) lv) : rc_V X H locs (rc_z w - rc_z w0) (rc_tz w - rc_tz w0) g := by
  intro T hT S
  obtain ⟨v', st₀, t, T', L, h0, S', hL, e1, e2, ⟨hv, hH, hz, hk⟩, step⟩ := hr T hT S
  cases hv
  rw [h0] at hz hk
  obtain ⟨l1, l2, l3, l4, l5⟩ := rc_lim C h1 h2
  have S2 := stand_widen (k := (q_R X).cells) (n := (q_R X).slots) S' (by rw [C.2.2.2.2.2.2.2.2.1]; omega) (by rw [C.2.2.2.2.2.2.2.2.2]; omega)
  rw [hg] at step ⊢
  obtain ⟨t2, a1, b1⟩ := kk T'.heap (locs ++ L) ls (by rw [e1]; exact hH) ⟨Nat.le_trans h2.1 (by rw [e1]; exact hz), fun q g1 g2 => by rw [e1, hk q (Nat.lt_of_lt_of_le g1 h2.1) g2]; exact h2.2.1 q g1 g2, fun q hq => by
      rcases List.mem_append.mp hq with h | h
      · exact h2.2.2 q h
      · exact hL q h⟩ h3 T' rfl S2
  exact ⟨t2, step t2 a1, b1⟩
theorem rc_pre (C : rc_C X own cc w0) {H : Heap} {av : List Value} (h1 : rc_H (q_G X) w H) : PreS (q_s X) H (rc_Pc (q_G X) av w) av := by
  refine ⟨fun a U g mk q => ⟨q.1, q.2.1, va_K.moved (Vm.Alike.refl U.vm) q.2.2.1, fun c hc => ?_⟩, fun U hU hW => ⟨rfl, by rw [hU]; exact h1, va_K.moved hW.alike C.2.2.2.2.1, C.2.2.2.1.moved hW⟩⟩
  exact rc_move (rc_kinds c hc) (State.WarmedH.refl U) (q.2.2.2 c hc)
theorem rc_cb (C : rc_C X own cc w0) (hM : rc_MK y cc' mL' ret' np) (hfr : fr + 1 ≤ (q_R X).frames) (hlo : 8 + (mL' + 11) + lo ≤ (q_R X).locals) {idx : Nat} (hl : Cond.methodLink own idx y ∈ rc_tb) : CallB (q_R X) (q_s X) (q_a X) own idx y cc' mL' ret' [.code y cc' mL' ret'] (rc_rm fr lo w) (rc_zc w - rc_z w) (rc_zs w - rc_tz w) np := by
  obtain ⟨m1, m2, m3, m4⟩ := hM
  refine ⟨rfl, rfl, hfr, hlo, fun c hc a' U hW => ?_, List.mem_cons_self, C.ts _ m1, C.ts _ m2, m3, fun sig h => ?_, C.ts _ hl⟩
  · rw [List.mem_singleton.mp hc]
    exact (C.2.2.2.1.moved hW).use a' _ m1
  · rw [h] at m4
    exact (Option.some.inj m4).symm
theorem rc_cn (C : rc_C X own cc w0) (hM : rc_MK y cc' mL' ret' np) (hfr : fr + 1 ≤ (q_R X).frames) (hlo : 8 + (mL' + 11) + lo ≤ (q_R X).locals) {idx : Nat} (hl : Cond.methodLinkNest own idx y "RecordCalls" ∈ rc_tb) : va_CN (q_R X) (q_s X) (q_a X) own idx y "RecordCalls" cc' mL' ret' [.code y cc' mL' ret'] (rc_rm fr lo w) (rc_zc w - rc_z w) (rc_zs w - rc_tz w) np := by
  obtain ⟨m1, m2, m3, m4⟩ := hM
  refine ⟨⟨rfl, rfl, hfr, hlo, fun c hc a' U hW => ?_, List.mem_cons_self⟩, C.ts _ m1, C.ts _ m2, m3, fun sig h => ?_, C.ts _ hl⟩
  · rw [List.mem_singleton.mp hc]
    exact (C.2.2.2.1.moved hW).use a' _ m1
  · rw [h] at m4
    exact (Option.some.inj m4).symm
theorem rc_room (C : rc_C X own cc w0) {H : Heap} {locs : List Loc} (h1 : rc_H (q_G X) w H) (h2 : va_S (fun q => rc_b (q_G X) ≤ q) (q_s X).heap H locs) (l6 : rc_tz w0 ≤ rc_tz w) : (rc_z w - rc_z w0) + (rc_zc w - rc_z w) ≤ (q_R X).cells ∧ (rc_tz w - rc_tz w0) + (rc_zs w - rc_tz w) ≤ (q_R X).slots := by
  obtain ⟨l1, l2, l3, l4, l5⟩ := rc_lim C h1 h2
  rw [C.2.2.2.2.2.2.2.2.1, C.2.2.2.2.2.2.2.2.2]
  omega
/-- a static method -/
theorem j_callS (C : rc_C X own cc w0) {idx : Nat} (hM : rc_MK y cc' mL' ret' np) (hl : rc_ML own idx y) (hs : Cond.static y ∈ rc_tb) (hfr : fr + 1 ≤ (q_R X).frames) (hlo : 8 + (mL' + 11) + lo ≤ (q_R X).locals) (hK : rc_Ct (q_l X) (q_G X) y cc' mL' ret' fr lo As w v w') (hnp : As.length = np) {sk : List Value} (hsk : sk = As.reverse ++ st) (hroom : (st.map fun v => v.category).sum ≤ 8) (hd : decode cc pc = .ok (.invokestatic idx, 3)) (hn : pc + 3 = n) {sk' : List Value} (hsk' : v.toList ++ st = sk') (kk : rc_J X w' n sk' lv) : rc_J X w pc sk lv := by
  subst hn
  subst hsk'
  intro H locs ls h1 h2 h3
  refine rc_narrow C h1 (fun l6 => rc_after C (av := As.toArray) h1 h2 h3 l6 rfl ?_ kk)
  rcases hl with hl | hl
  · exact va_runS (nL := q_n X) ⟨C.1, C.2.1, C.2.2.2.2.2.1, C.2.2.1, C.ts⟩ hK ⟨rc_cb C hM hfr hlo hl, C.ts _ hs⟩ (rc_pre C h1) rfl hnp h3.1 hsk (lv_room hroom) hd (rc_room C h1 h2 l6)
  · exact va_runSN (nL := q_n X) ⟨C.1, C.2.1, C.2.2.2.2.2.1, C.2.2.1, C.ts⟩ hK ⟨rc_cn C hM hfr hlo hl, C.ts _ hs, trivial⟩ (rc_pre C h1) rfl hnp h3.1 hsk (lv_room hroom) hd (rc_room C h1 h2 l6)
/-- a method of an object -/
theorem j_callV (C : rc_C X own cc w0) {idx ci a : Nat} {r : Option Nat} (hM : rc_MK y cc' mL' ret' np) (hl : rc_ML own idx y) (hs : Cond.instanceMethod y ∈ rc_tb) (hse : Cond.selects y.cls y y ∈ rc_tb) (hcl : y.cls = rc_R ci) (hrc : rc_rc w r ci = some a) (hfr : fr + 1 ≤ (q_R X).frames) (hlo : 8 + (mL' + 11) + lo ≤ (q_R X).locals) (hK : rc_Ct (q_l X) (q_G X) y cc' mL' ret' fr lo (va_rf (some a) :: As) w v w') (hnp : As.length = np) {sk : List Value} (hsk : sk = As.reverse ++ va_rf r :: st) (hroom : (st.map fun v => v.category).sum ≤ 8) (hd : decode cc pc = .ok (.invokevirtual idx, 3)) (hn : pc + 3 = n) {sk' : List Value} (hsk' : v.toList ++ st = sk') (kk : rc_J X w' n sk' lv) : rc_J X w pc sk lv := by
  subst hn
  subst hsk'
  intro H locs ls h1 h2 h3
  obtain ⟨rfl, hC⟩ := rc_rc_spec hrc
  obtain ⟨hci, cell, g1, g2, g3, g4, -⟩ := rc_isC_cell hC h1 C.2.2.2.2.1
  refine rc_narrow C h1 (fun l6 => rc_after C (av := (Value.ref a :: As).toArray) h1 h2 h3 l6 rfl ?_ kk)
  have hp : PreV (q_s X) H y.cls a (rc_Pc (q_G X) (va_rf (some a) :: As) w) As := ⟨(rc_pre C h1).1, ⟨cell, g1, by rw [g2]; rfl, by rw [hcl]; exact g4⟩, (rc_pre (av := va_rf (some a) :: As) C h1).2⟩
  rcases hl with hl | hl
  · exact va_runV (nL := q_n X) ⟨C.1, C.2.1, C.2.2.2.2.2.1, C.2.2.1, C.ts⟩ hK ⟨rc_cb C hM hfr hlo hl, C.ts _ hs, C.ts _ hse⟩ hp rfl hnp h3.1 hsk (lv_room hroom) hd (rc_room C h1 h2 l6)
  · exact va_runVN (nL := q_n X) ⟨C.1, C.2.1, C.2.2.2.2.2.1, C.2.2.1, C.ts⟩ hK ⟨rc_cn C hM hfr hlo hl, C.ts _ hs, C.ts _ hse⟩ hp rfl hnp h3.1 hsk (lv_room hroom) hd (rc_room C h1 h2 l6)
/-- a constructor -/
theorem j_callI (C : rc_C X own cc w0) {idx : Nat} {r : Option Nat} {a : Nat} (hM : rc_MK y cc' mL' none np) (hl : rc_ML own idx y) (hs : Cond.instanceMethod y ∈ rc_tb) (hy : y.name = "<init>") (hra : r = some a) (hfr : fr + 1 ≤ (q_R X).frames) (hlo : 8 + (mL' + 11) + lo ≤ (q_R X).locals) (hK : rc_Ct (q_l X) (q_G X) y cc' mL' none fr lo (va_rf (some a) :: As) w none w') (hnp : As.length = np) {sk : List Value} (hsk : sk = As.reverse ++ va_rf r :: st) (hroom : (st.map fun v => v.category).sum ≤ 8) (hd : decode cc pc = .ok (.invokespecial idx, 3)) (hn : pc + 3 = n) (kk : rc_J X w' n st lv) : rc_J X w pc sk lv := by
  subst hn
  subst hra
  intro H locs ls h1 h2 h3
  refine rc_narrow C h1 (fun l6 => rc_after C (v := none) (av := (Value.ref a :: As).toArray) h1 h2 h3 l6 rfl ?_ kk)
  rcases hl with hl | hl
  · exact va_runI (nL := q_n X) ⟨C.1, C.2.1, C.2.2.2.2.2.1, C.2.2.1, C.ts⟩ hK ⟨rc_cb C hM hfr hlo hl, hy, C.ts _ hs⟩ (rc_pre C h1) rfl hnp h3.1 hsk (lv_room hroom) hd (rc_room C h1 h2 l6)
  · exact va_runIN (nL := q_n X) ⟨C.1, C.2.1, C.2.2.2.2.2.1, C.2.2.1, C.ts⟩ hK ⟨rc_cn C hM hfr hlo hl, hy, C.ts _ hs⟩ (rc_pre C h1) rfl hnp h3.1 hsk (lv_room hroom) hd (rc_room C h1 h2 l6)
end RCD
end
section
theorem rc_cp_spec {w w' : rc_M} {r0 r1 : Option Nat} {sp dp n : Int32} (h : rc_cp w r0 sp r1 dp n = some w') : ∃ (a0 n0 a n1 : Nat) (f g : Nat → Int32), r0 = some a0 ∧ r1 = some a ∧ w.1 a0 = some (.inr (.inl (2, n0, .inl f))) ∧ w.1 a = some (.inr (.inl (2, n1, .inl g))) ∧ ¬ (sp < 0 ∨ dp < 0 ∨ n < 0 ∨ n0 < sp.toNatClampNeg + n.toNatClampNeg ∨ n1 < dp.toNatClampNeg + n.toNatClampNeg) ∧ (∀ i, i < n.toNatClampNeg → fits .byte (.int (f (sp.toNatClampNeg + i))) = true) ∧ w' = rc_up w a (.inr (.inl (2, n1, .inl (va_cpy f g sp.toNatClampNeg dp.toNatClampNeg n.toNatClampNeg)))) := by
  unfold rc_cp at h
  split at h
  · rename_i a0 n0 f a n1 g e1 e2
    obtain ⟨h1, h2⟩ := rc_gA_spec e1
    obtain ⟨h3, h4⟩ := rc_gA_spec e2
    split at h
    · cases h
    · rename_i hc
      split at h
      · rename_i hf
        cases h
        exact ⟨a0, n0, a, n1, f, g, h1, h3, h2, h4, hc, hf, rfl⟩
      · cases h
  · cases h
theorem rc_nn {z : Int32} (hz : ¬ z < 0) : z.toInt = (z.toNatClampNeg : Int) := by
  have hz0 : (0 : Int) ≤ z.toInt := by
    have := Int32.not_lt.mp hz
    simpa using Int32.le_iff_toInt_le.mp this
  show z.toInt = ((z.toInt.toNat : Nat) : Int)
  omega
section RCP
variable {X : rc_X} {own : String} {cc : ByteArray} {w0 w w' : rc_M} {pc n : Nat} {st : List Value} {lv : List (Nat × Value)}
theorem j_copy (C : rc_C X own cc w0) {idx : Nat} {r0 r1 : Option Nat} {sp dp k : Int32} (hl : Cond.methodLink own idx arraycopyName ∈ rc_tb) (hnat : Cond.native arraycopyName ∈ rc_tb) (hstat : Cond.static arraycopyName ∈ rc_tb) (hini : Cond.initialized "java/lang/System" ∈ rc_tb) (hf : 1 ≤ (q_R X).frames) (hlo : (st.map fun v => v.category).sum + (nativeFrameWords "java/lang/System" "arraycopy" 5 + 11) ≤ (q_R X).locals) (h : rc_cp w r0 sp r1 dp k = some w') (hd : decode cc pc = .ok (.invokestatic idx, 3)) (hn : pc + 3 = n) (kk : rc_J X w' n st lv) : rc_J X w pc (.int k :: .int dp :: va_rf r1 :: .int sp :: va_rf r0 :: st) lv := by
  subst hn
  intro H locs ls h1 h2 h3
  obtain ⟨a0, n0, a, n1, f, g, rfl, rfl, ha0, ha1, hc, hfit, rfl⟩ := rc_cp_spec h
  simp only [not_or] at hc
  obtain ⟨c1, c2, c3, c4, c5⟩ := hc
  intro T hT S
  obtain ⟨-, hc0⟩ := rc_arr h1 ha0
  obtain ⟨hba, hc1⟩ := rc_arr h1 ha1
  obtain ⟨-, k0, hk0, cm0, hkk0⟩ := C.2.2.2.2.1.arr 2 rfl n0 (fun j => .int (f j))
  obtain ⟨-, k1, hk1, cm1, hkk1⟩ := C.2.2.2.2.1.arr 2 rfl n1 (fun j => .int (g j))
  obtain ⟨vm', X', step⟩ := S.arraycopy C.1 C.2.2.1 (C.ts _ hl) (C.ts _ hnat) (C.ts _ hstat) (C.ts _ hini) (src := a0) (dst := a) (cs := rc_cell ((q_G X).2.1 2) n0 (.inl f)) (cd := rc_cell ((q_G X).2.1 2) n1 (.inl g)) (srcPos := sp) (destPos := dp) (n := k) (by rw [hT]; exact hc0) (by rw [hT]; exact hc1)
    (fun _ h => by cases h) (fun _ h => by cases h) (fun h => by cases h) (fun h => by cases h) hk0 hk1 hkk0 hkk1 (by decide) c1 c2 c3
    (by rw [rc_nn c1, rc_nn c3, rc_cell_size]; omega)
    (by rw [rc_nn c2, rc_nn c3, rc_cell_size]; omega)
    (fun vm₁ _ i hi => by
      have e : (rc_cell ((q_G X).2.1 2) n0 (.inl f)).slots.getD (sp.toNatClampNeg + i) .null = .int (f (sp.toNatClampNeg + i)) := by
        rw [rc_cell_i, Array.getD_eq_getD_getElem?, arrV_read _ _ (by omega)]
        rfl
      refine ⟨?_, ?_⟩
      · rw [e]
        exact hfit i hi
      · rw [e]
        exact trivial)
    (g := F0 (q_m X) pc ls (.int k :: .int dp :: .ref a :: .int sp :: .ref a0 :: st)) rfl (by rw [C.2.2.2.2.2.1]; exact h3.1) (rest := st) rfl (by rw [C.2.1]; exact hd) hf (by show 2 * 0 + _ + _ ≤ _; omega)
  have e1 : copied (rc_cell ((q_G X).2.1 2) n0 (.inl f)) (rc_cell ((q_G X).2.1 2) n1 (.inl g)) sp dp k = rc_cell ((q_G X).2.1 2) n1 (.inl (va_cpy f g sp.toNatClampNeg dp.toNatClampNeg k.toNatClampNeg)) := va_copied (fun z => .int z) _ _ f g (by omega)
  rw [e1] at X' step
  have hlt : a < H.size := (Array.getElem?_eq_some_iff.mp hc1).1
  have oq : ∀ q : Nat, q ≠ a → (H.setIfInBounds a (rc_cell ((q_G X).2.1 2) n1 (.inl (va_cpy f g sp.toNatClampNeg dp.toNatClampNeg k.toNatClampNeg))))[q]? = H[q]? := fun q hq => by simp [Array.getElem?_setIfInBounds, Ne.symm hq]
  have eq1 : (H.setIfInBounds a (rc_cell ((q_G X).2.1 2) n1 (.inl (va_cpy f g sp.toNatClampNeg dp.toNatClampNeg k.toNatClampNeg))))[a]? = some (rc_cell ((q_G X).2.1 2) n1 (.inl (va_cpy f g sp.toNatClampNeg dp.toNatClampNeg k.toNatClampNeg))) := by simp [Array.getElem?_setIfInBounds, hlt]
  obtain ⟨t, a1, b1⟩ := kk _ _ ls (rc_arr_set h1 ha1 (by simp) eq1 oq) ⟨by simp; exact h2.1, fun q g1 g2 => by
      rw [oq q (fun e => g2 (by rw [e]; exact hba))]
      exact h2.2.1 q g1 g2, fun q hq => by
      rcases List.mem_append.mp hq with h | h
      · exact h2.2.2 q h
      · obtain ⟨z, -, hz⟩ := List.mem_map.mp h
        rw [← hz]
        exact hba⟩ h3 _ (by rw [← hT]; rfl) X'
  exact ⟨t, step t a1, b1⟩
end RCP
theorem rc_le {a b c : Nat} (h : c = b) (h2 : a ≤ b) : a ≤ c := h ▸ h2
theorem rc_lt {a b c : Nat} (h : c = b) (h2 : a < b) : a < c := h ▸ h2
theorem rc_fo (n : String) (r : Option Nat) : fits (.object n) (va_rf r) = true := by cases r <;> rfl
theorem rc_fa (t : FieldType) (r : Option Nat) : fits (.array t) (va_rf r) = true := by cases r <;> rfl
theorem rc_z1_spec {x : Int32} {w : rc_M} {res : Int32 × rc_M} (h : rc_z1 x w = some res) : (x = 0 ∨ x = 1) ∧ res = (x, w) := by
  unfold rc_z1 at h
  split at h
  · rename_i hx
    cases h
    exact ⟨hx, rfl⟩
  · cases h
theorem rc_pZ_spec {w w' : rc_M} {r : Option Nat} {ci k : Nat} {x : Int32} (h : rc_pZ w r ci k x = some w') : (x = 0 ∨ x = 1) ∧ rc_pV w r ci k (.int x) = some w' := by
  unfold rc_pZ at h
  split at h
  · rename_i hx
    exact ⟨hx, h⟩
  · cases h
theorem rc_nz {x : Int32} (h : x = 0 ∨ x = 1) : narrow .boolean (.int x) = .int x := by rcases h with rfl | rfl <;> rfl
theorem rc_fz {x : Int32} (h : x = 0 ∨ x = 1) : fits .boolean (.int x) = true := by rcases h with rfl | rfl <;> rfl
theorem rc_cat_i (x : Int32) : (Value.int x).category = 1 := rfl
theorem rc_cat_l (x : Int64) : (Value.long x).category = 2 := rfl
end
section
theorem rc_sm {w : Cond} (h : w ∈ k2_sels lw_privs) (hk : rc_kind w = true) : w ∈ rc_tb := List.mem_filter.mpr ⟨List.mem_append_left _ h, hk⟩
set_option maxRecDepth 20000 in
theorem S_0 : Cond.selects "RecordCalls" ({ cls := "RecordCalls", name := "newSlot", desc := "()LRecordCalls$Row;" } : Jvm.MethodName) ({ cls := "RecordCalls", name := "newSlot", desc := "()LRecordCalls$Row;" } : Jvm.MethodName) ∈ rc_tb := rc_sm (List.mem_of_getElem? (i := 0) rfl) rfl
set_option maxRecDepth 20000 in
theorem S_1 : Cond.selects "RecordCalls" ({ cls := "RecordCalls", name := "slotRow", desc := "(I)LRecordCalls$Row;" } : Jvm.MethodName) ({ cls := "RecordCalls", name := "slotRow", desc := "(I)LRecordCalls$Row;" } : Jvm.MethodName) ∈ rc_tb := rc_sm (List.mem_of_getElem? (i := 1) rfl) rfl
set_option maxRecDepth 20000 in
theorem S_2 : Cond.selects "RecordCalls$Row" ({ cls := "RecordCalls$Row", name := "makeRoom", desc := "(I)V" } : Jvm.MethodName) ({ cls := "RecordCalls$Row", name := "makeRoom", desc := "(I)V" } : Jvm.MethodName) ∈ rc_tb := rc_sm (List.mem_of_getElem? (i := 2) rfl) rfl
set_option maxRecDepth 20000 in
theorem S_3 : Cond.selects "RecordCalls" ({ cls := "RecordCalls", name := "tapeIsSlot", desc := "()I" } : Jvm.MethodName) ({ cls := "RecordCalls", name := "tapeIsSlot", desc := "()I" } : Jvm.MethodName) ∈ rc_tb := rc_sm (List.mem_of_getElem? (i := 3) rfl) rfl
set_option maxRecDepth 20000 in
theorem S_4 : Cond.selects "RecordCalls" ({ cls := "RecordCalls", name := "placeOfTape", desc := "()I" } : Jvm.MethodName) ({ cls := "RecordCalls", name := "placeOfTape", desc := "()I" } : Jvm.MethodName) ∈ rc_tb := rc_sm (List.mem_of_getElem? (i := 4) rfl) rfl
set_option maxRecDepth 20000 in
theorem S_6 : Cond.selects "RecordCalls" ({ cls := "RecordCalls", name := "addOneFragment", desc := "(LRecordCalls$Row;)V" } : Jvm.MethodName) ({ cls := "RecordCalls", name := "addOneFragment", desc := "(LRecordCalls$Row;)V" } : Jvm.MethodName) ∈ rc_tb := rc_sm (List.mem_of_getElem? (i := 6) rfl) rfl
set_option maxRecDepth 20000 in
theorem S_7 : Cond.selects "RecordCalls" ({ cls := "RecordCalls", name := "isSlot", desc := "(I)Z" } : Jvm.MethodName) ({ cls := "RecordCalls", name := "isSlot", desc := "(I)Z" } : Jvm.MethodName) ∈ rc_tb := rc_sm (List.mem_of_getElem? (i := 7) rfl) rfl
set_option maxRecDepth 20000 in
theorem S_8 : Cond.selects "RecordCalls$Connection" ({ cls := "RecordCalls$Connection", name := "takeHead", desc := "(I)V" } : Jvm.MethodName) ({ cls := "RecordCalls$Connection", name := "takeHead", desc := "(I)V" } : Jvm.MethodName) ∈ rc_tb := rc_sm (List.mem_of_getElem? (i := 8) rfl) rfl
set_option maxRecDepth 20000 in
theorem S_9 : Cond.selects "RecordCalls$Server" ({ cls := "RecordCalls$Server", name := "verdictOn", desc := "(LRecordCalls$Row;)I" } : Jvm.MethodName) ({ cls := "RecordCalls$Server", name := "verdictOn", desc := "(LRecordCalls$Row;)I" } : Jvm.MethodName) ∈ rc_tb := rc_sm (List.mem_of_getElem? (i := 9) rfl) rfl
set_option maxRecDepth 20000 in
theorem S_10 : Cond.selects "RecordCalls$Server" ({ cls := "RecordCalls$Server", name := "verdictOnVersion", desc := "(I)I" } : Jvm.MethodName) ({ cls := "RecordCalls$Server", name := "verdictOnVersion", desc := "(I)I" } : Jvm.MethodName) ∈ rc_tb := rc_sm (List.mem_of_getElem? (i := 10) rfl) rfl
set_option maxRecDepth 20000 in
theorem S_11 : Cond.selects "RecordCalls$Server" ({ cls := "RecordCalls$Server", name := "isTaken", desc := "()Z" } : Jvm.MethodName) ({ cls := "RecordCalls$Server", name := "isTaken", desc := "()Z" } : Jvm.MethodName) ∈ rc_tb := rc_sm (List.mem_of_getElem? (i := 11) rfl) rfl
set_option maxRecDepth 20000 in
theorem S_12 : Cond.selects "RecordCalls$Server" ({ cls := "RecordCalls$Server", name := "takeKey", desc := "()V" } : Jvm.MethodName) ({ cls := "RecordCalls$Server", name := "takeKey", desc := "()V" } : Jvm.MethodName) ∈ rc_tb := rc_sm (List.mem_of_getElem? (i := 12) rfl) rfl
set_option maxRecDepth 20000 in
theorem S_13 : Cond.selects "RecordCalls$Server" ({ cls := "RecordCalls$Server", name := "takeKeys", desc := "()V" } : Jvm.MethodName) ({ cls := "RecordCalls$Server", name := "takeKeys", desc := "()V" } : Jvm.MethodName) ∈ rc_tb := rc_sm (List.mem_of_getElem? (i := 13) rfl) rfl
set_option maxRecDepth 20000 in
theorem S_14 : Cond.selects "RecordCalls$Server" ({ cls := "RecordCalls$Server", name := "beginReply", desc := "(II)V" } : Jvm.MethodName) ({ cls := "RecordCalls$Server", name := "beginReply", desc := "(II)V" } : Jvm.MethodName) ∈ rc_tb := rc_sm (List.mem_of_getElem? (i := 14) rfl) rfl
set_option maxRecDepth 20000 in
theorem S_15 : Cond.selects "RecordCalls$Server" ({ cls := "RecordCalls$Server", name := "give", desc := "()V" } : Jvm.MethodName) ({ cls := "RecordCalls$Server", name := "give", desc := "()V" } : Jvm.MethodName) ∈ rc_tb := rc_sm (List.mem_of_getElem? (i := 15) rfl) rfl
set_option maxRecDepth 20000 in
theorem S_16 : Cond.selects "RecordCalls$Server" ({ cls := "RecordCalls$Server", name := "giveSet", desc := "()V" } : Jvm.MethodName) ({ cls := "RecordCalls$Server", name := "giveSet", desc := "()V" } : Jvm.MethodName) ∈ rc_tb := rc_sm (List.mem_of_getElem? (i := 16) rfl) rfl
set_option maxRecDepth 20000 in
theorem S_17 : Cond.selects "RecordCalls$Server" ({ cls := "RecordCalls$Server", name := "placeTaken", desc := "(I)I" } : Jvm.MethodName) ({ cls := "RecordCalls$Server", name := "placeTaken", desc := "(I)I" } : Jvm.MethodName) ∈ rc_tb := rc_sm (List.mem_of_getElem? (i := 17) rfl) rfl
set_option maxRecDepth 20000 in
theorem S_18 : Cond.selects "RecordCalls$Server" ({ cls := "RecordCalls$Server", name := "giveValueAt", desc := "(I)V" } : Jvm.MethodName) ({ cls := "RecordCalls$Server", name := "giveValueAt", desc := "(I)V" } : Jvm.MethodName) ∈ rc_tb := rc_sm (List.mem_of_getElem? (i := 18) rfl) rfl
set_option maxRecDepth 20000 in
theorem S_19 : Cond.selects "RecordCalls$Server" ({ cls := "RecordCalls$Server", name := "giveSum", desc := "()V" } : Jvm.MethodName) ({ cls := "RecordCalls$Server", name := "giveSum", desc := "()V" } : Jvm.MethodName) ∈ rc_tb := rc_sm (List.mem_of_getElem? (i := 19) rfl) rfl
set_option maxRecDepth 20000 in
theorem S_20 : Cond.selects "RecordCalls$Server" ({ cls := "RecordCalls$Server", name := "giveList", desc := "()V" } : Jvm.MethodName) ({ cls := "RecordCalls$Server", name := "giveList", desc := "()V" } : Jvm.MethodName) ∈ rc_tb := rc_sm (List.mem_of_getElem? (i := 20) rfl) rfl
set_option maxRecDepth 20000 in
theorem S_21 : Cond.selects "RecordCalls$Server" ({ cls := "RecordCalls$Server", name := "giveRemoved", desc := "()V" } : Jvm.MethodName) ({ cls := "RecordCalls$Server", name := "giveRemoved", desc := "()V" } : Jvm.MethodName) ∈ rc_tb := rc_sm (List.mem_of_getElem? (i := 21) rfl) rfl
set_option maxRecDepth 20000 in
theorem S_22 : Cond.selects "RecordCalls" ({ cls := "RecordCalls", name := "addReply", desc := "(LRecordCalls$Row;)I" } : Jvm.MethodName) ({ cls := "RecordCalls", name := "addReply", desc := "(LRecordCalls$Row;)I" } : Jvm.MethodName) ∈ rc_tb := rc_sm (List.mem_of_getElem? (i := 22) rfl) rfl
set_option maxRecDepth 20000 in
theorem S_23 : Cond.selects "RecordCalls" ({ cls := "RecordCalls", name := "isJoined", desc := "(LRecordCalls$Row;)Z" } : Jvm.MethodName) ({ cls := "RecordCalls", name := "isJoined", desc := "(LRecordCalls$Row;)Z" } : Jvm.MethodName) ∈ rc_tb := rc_sm (List.mem_of_getElem? (i := 23) rfl) rfl
set_option maxRecDepth 20000 in
theorem S_24 : Cond.selects "RecordCallsModel" ({ cls := "RecordCallsModel", name := "newSlot", desc := "()I" } : Jvm.MethodName) ({ cls := "RecordCallsModel", name := "newSlot", desc := "()I" } : Jvm.MethodName) ∈ rc_tb := rc_sm (List.mem_of_getElem? (i := 24) rfl) rfl
set_option maxRecDepth 20000 in
theorem S_25 : Cond.selects "RecordCallsModel" ({ cls := "RecordCallsModel", name := "slotByte", desc := "(II)V" } : Jvm.MethodName) ({ cls := "RecordCallsModel", name := "slotByte", desc := "(II)V" } : Jvm.MethodName) ∈ rc_tb := rc_sm (List.mem_of_getElem? (i := 25) rfl) rfl
set_option maxRecDepth 20000 in
theorem S_26 : Cond.selects "RecordCallsModel" ({ cls := "RecordCallsModel", name := "slotWord", desc := "(II)V" } : Jvm.MethodName) ({ cls := "RecordCallsModel", name := "slotWord", desc := "(II)V" } : Jvm.MethodName) ∈ rc_tb := rc_sm (List.mem_of_getElem? (i := 26) rfl) rfl
set_option maxRecDepth 20000 in
theorem S_27 : Cond.selects "RecordCallsModel" ({ cls := "RecordCallsModel", name := "isSlot", desc := "(I)Z" } : Jvm.MethodName) ({ cls := "RecordCallsModel", name := "isSlot", desc := "(I)Z" } : Jvm.MethodName) ∈ rc_tb := rc_sm (List.mem_of_getElem? (i := 27) rfl) rfl
set_option maxRecDepth 20000 in
theorem S_28 : Cond.selects "RecordCallsModel" ({ cls := "RecordCallsModel", name := "take", desc := "(II)Z" } : Jvm.MethodName) ({ cls := "RecordCallsModel", name := "take", desc := "(II)Z" } : Jvm.MethodName) ∈ rc_tb := rc_sm (List.mem_of_getElem? (i := 28) rfl) rfl
set_option maxRecDepth 20000 in
theorem S_29 : Cond.selects "RecordCallsModel" ({ cls := "RecordCallsModel", name := "serve", desc := "()Z" } : Jvm.MethodName) ({ cls := "RecordCallsModel", name := "serve", desc := "()Z" } : Jvm.MethodName) ∈ rc_tb := rc_sm (List.mem_of_getElem? (i := 29) rfl) rfl
set_option maxRecDepth 20000 in
theorem S_30 : Cond.selects "RecordCallsModel" ({ cls := "RecordCallsModel", name := "recordWord", desc := "(I)I" } : Jvm.MethodName) ({ cls := "RecordCallsModel", name := "recordWord", desc := "(I)I" } : Jvm.MethodName) ∈ rc_tb := rc_sm (List.mem_of_getElem? (i := 30) rfl) rfl
set_option maxRecDepth 20000 in
theorem S_31 : Cond.selects "RecordCallsModel" ({ cls := "RecordCallsModel", name := "send", desc := "(I)V" } : Jvm.MethodName) ({ cls := "RecordCallsModel", name := "send", desc := "(I)V" } : Jvm.MethodName) ∈ rc_tb := rc_sm (List.mem_of_getElem? (i := 31) rfl) rfl
set_option maxRecDepth 20000 in
theorem S_32 : Cond.selects "RecordCallsModel" ({ cls := "RecordCallsModel", name := "judge", desc := "(I)Z" } : Jvm.MethodName) ({ cls := "RecordCallsModel", name := "judge", desc := "(I)Z" } : Jvm.MethodName) ∈ rc_tb := rc_sm (List.mem_of_getElem? (i := 32) rfl) rfl
set_option maxRecDepth 20000 in
theorem S_33 : Cond.selects "RecordCallsModel" ({ cls := "RecordCallsModel", name := "nextWord", desc := "()I" } : Jvm.MethodName) ({ cls := "RecordCallsModel", name := "nextWord", desc := "()I" } : Jvm.MethodName) ∈ rc_tb := rc_sm (List.mem_of_getElem? (i := 33) rfl) rfl
set_option maxRecDepth 20000 in
theorem S_34 : Cond.selects "RecordCallsModel" ({ cls := "RecordCallsModel", name := "hasBytes", desc := "(I)Z" } : Jvm.MethodName) ({ cls := "RecordCallsModel", name := "hasBytes", desc := "(I)Z" } : Jvm.MethodName) ∈ rc_tb := rc_sm (List.mem_of_getElem? (i := 34) rfl) rfl
set_option maxRecDepth 20000 in
theorem S_35 : Cond.selects "RecordCallsModel" ({ cls := "RecordCallsModel", name := "refuse", desc := "(III)Z" } : Jvm.MethodName) ({ cls := "RecordCallsModel", name := "refuse", desc := "(III)Z" } : Jvm.MethodName) ∈ rc_tb := rc_sm (List.mem_of_getElem? (i := 35) rfl) rfl
set_option maxRecDepth 20000 in
theorem S_36 : Cond.selects "RecordCallsModel" ({ cls := "RecordCallsModel", name := "outWord", desc := "(I)V" } : Jvm.MethodName) ({ cls := "RecordCallsModel", name := "outWord", desc := "(I)V" } : Jvm.MethodName) ∈ rc_tb := rc_sm (List.mem_of_getElem? (i := 36) rfl) rfl
set_option maxRecDepth 20000 in
theorem S_37 : Cond.selects "RecordCallsModel" ({ cls := "RecordCallsModel", name := "nextBytes", desc := "(I)I" } : Jvm.MethodName) ({ cls := "RecordCallsModel", name := "nextBytes", desc := "(I)I" } : Jvm.MethodName) ∈ rc_tb := rc_sm (List.mem_of_getElem? (i := 37) rfl) rfl
set_option maxRecDepth 20000 in
theorem S_38 : Cond.selects "RecordCallsModel" ({ cls := "RecordCallsModel", name := "accept", desc := "(II)Z" } : Jvm.MethodName) ({ cls := "RecordCallsModel", name := "accept", desc := "(II)Z" } : Jvm.MethodName) ∈ rc_tb := rc_sm (List.mem_of_getElem? (i := 38) rfl) rfl
set_option maxRecDepth 20000 in
theorem S_39 : Cond.selects "RecordCallsModel" ({ cls := "RecordCallsModel", name := "takes", desc := "(I)Z" } : Jvm.MethodName) ({ cls := "RecordCallsModel", name := "takes", desc := "(I)Z" } : Jvm.MethodName) ∈ rc_tb := rc_sm (List.mem_of_getElem? (i := 39) rfl) rfl
set_option maxRecDepth 20000 in
theorem S_40 : Cond.selects "RecordCallsModel" ({ cls := "RecordCallsModel", name := "nextLong", desc := "()J" } : Jvm.MethodName) ({ cls := "RecordCallsModel", name := "nextLong", desc := "()J" } : Jvm.MethodName) ∈ rc_tb := rc_sm (List.mem_of_getElem? (i := 40) rfl) rfl
set_option maxRecDepth 20000 in
theorem S_41 : Cond.selects "RecordCallsModel" ({ cls := "RecordCallsModel", name := "run", desc := "(I)V" } : Jvm.MethodName) ({ cls := "RecordCallsModel", name := "run", desc := "(I)V" } : Jvm.MethodName) ∈ rc_tb := rc_sm (List.mem_of_getElem? (i := 41) rfl) rfl
set_option maxRecDepth 20000 in
theorem S_42 : Cond.selects "RecordCallsModel" ({ cls := "RecordCallsModel", name := "runSum", desc := "()V" } : Jvm.MethodName) ({ cls := "RecordCallsModel", name := "runSum", desc := "()V" } : Jvm.MethodName) ∈ rc_tb := rc_sm (List.mem_of_getElem? (i := 42) rfl) rfl
set_option maxRecDepth 20000 in
theorem S_43 : Cond.selects "RecordCallsModel" ({ cls := "RecordCallsModel", name := "place", desc := "()I" } : Jvm.MethodName) ({ cls := "RecordCallsModel", name := "place", desc := "()I" } : Jvm.MethodName) ∈ rc_tb := rc_sm (List.mem_of_getElem? (i := 43) rfl) rfl
set_option maxRecDepth 20000 in
theorem S_44 : Cond.selects "RecordCallsModel" ({ cls := "RecordCallsModel", name := "outLong", desc := "(J)V" } : Jvm.MethodName) ({ cls := "RecordCallsModel", name := "outLong", desc := "(J)V" } : Jvm.MethodName) ∈ rc_tb := rc_sm (List.mem_of_getElem? (i := 44) rfl) rfl
set_option maxRecDepth 20000 in
theorem S_45 : Cond.selects "RecordCallsModel" ({ cls := "RecordCallsModel", name := "runList", desc := "()V" } : Jvm.MethodName) ({ cls := "RecordCallsModel", name := "runList", desc := "()V" } : Jvm.MethodName) ∈ rc_tb := rc_sm (List.mem_of_getElem? (i := 45) rfl) rfl
set_option maxRecDepth 20000 in
theorem S_46 : Cond.selects "RecordCallsModel" ({ cls := "RecordCallsModel", name := "runPut", desc := "(IJ)V" } : Jvm.MethodName) ({ cls := "RecordCallsModel", name := "runPut", desc := "(IJ)V" } : Jvm.MethodName) ∈ rc_tb := rc_sm (List.mem_of_getElem? (i := 46) rfl) rfl
set_option maxRecDepth 20000 in
theorem S_47 : Cond.selects "RecordCallsModel" ({ cls := "RecordCallsModel", name := "remove", desc := "(I)V" } : Jvm.MethodName) ({ cls := "RecordCallsModel", name := "remove", desc := "(I)V" } : Jvm.MethodName) ∈ rc_tb := rc_sm (List.mem_of_getElem? (i := 47) rfl) rfl
set_option maxRecDepth 20000 in
theorem S_48 : Cond.selects "RecordCallsModel" ({ cls := "RecordCallsModel", name := "keep", desc := "(II)V" } : Jvm.MethodName) ({ cls := "RecordCallsModel", name := "keep", desc := "(II)V" } : Jvm.MethodName) ∈ rc_tb := rc_sm (List.mem_of_getElem? (i := 48) rfl) rfl
set_option maxRecDepth 20000 in
theorem S_49 : Cond.selects "RecordCallsModel" ({ cls := "RecordCallsModel", name := "wordIn", desc := "(II)I" } : Jvm.MethodName) ({ cls := "RecordCallsModel", name := "wordIn", desc := "(II)I" } : Jvm.MethodName) ∈ rc_tb := rc_sm (List.mem_of_getElem? (i := 49) rfl) rfl
set_option maxRecDepth 20000 in
theorem S_50 : Cond.selects "RecordCallsModel" ({ cls := "RecordCallsModel", name := "wholeRecord", desc := "(I)I" } : Jvm.MethodName) ({ cls := "RecordCallsModel", name := "wholeRecord", desc := "(I)I" } : Jvm.MethodName) ∈ rc_tb := rc_sm (List.mem_of_getElem? (i := 50) rfl) rfl
set_option maxRecDepth 20000 in
theorem S_51 : Cond.selects "RecordCallsModel" ({ cls := "RecordCallsModel", name := "pushedWord", desc := "(I)I" } : Jvm.MethodName) ({ cls := "RecordCallsModel", name := "pushedWord", desc := "(I)I" } : Jvm.MethodName) ∈ rc_tb := rc_sm (List.mem_of_getElem? (i := 51) rfl) rfl
set_option maxRecDepth 20000 in
theorem S_52 : Cond.selects "RecordCallsModel" ({ cls := "RecordCallsModel", name := "tapePlace", desc := "()I" } : Jvm.MethodName) ({ cls := "RecordCallsModel", name := "tapePlace", desc := "()I" } : Jvm.MethodName) ∈ rc_tb := rc_sm (List.mem_of_getElem? (i := 52) rfl) rfl
abbrev y_rec_init : MethodName := { cls := "RecordCalls", name := "<init>", desc := "()V" }
theorem mk_rec_init : rc_MK y_rec_init prog_1_method_1_code 2 none 0 := ⟨T_22, T_1, by decide, by decide +kernel⟩
abbrev y_row_init : MethodName := { cls := "RecordCalls$Row", name := "<init>", desc := "()V" }
theorem mk_row_init : rc_MK y_row_init prog_6_method_1_code 1 none 0 := ⟨T_30, T_2, by decide, by decide +kernel⟩
abbrev y_srv_init : MethodName := { cls := "RecordCalls$Server", name := "<init>", desc := "()V" }
theorem mk_srv_init : rc_MK y_srv_init prog_7_method_1_code 1 none 0 := ⟨T_47, T_3, by decide, by decide +kernel⟩
abbrev y_map_init : MethodName := { cls := "RecordCalls$KeyMap", name := "<init>", desc := "()V" }
theorem mk_map_init : rc_MK y_map_init prog_3_method_1_code 2 none 0 := ⟨T_53, T_4, by decide, by decide +kernel⟩
abbrev y_rdr_init : MethodName := { cls := "RecordCalls$Reader", name := "<init>", desc := "()V" }
theorem mk_rdr_init : rc_MK y_rdr_init prog_4_method_1_code 1 none 0 := ⟨T_72, T_5, by decide, by decide +kernel⟩
abbrev y_con_init : MethodName := { cls := "RecordCalls$Connection", name := "<init>", desc := "()V" }
theorem mk_con_init : rc_MK y_con_init prog_2_method_1_code 1 none 0 := ⟨T_136, T_6, by decide, by decide +kernel⟩
abbrev y_rpl_init : MethodName := { cls := "RecordCalls$Replies", name := "<init>", desc := "()V" }
theorem mk_rpl_init : rc_MK y_rpl_init prog_5_method_1_code 2 none 0 := ⟨T_144, T_7, by decide, by decide +kernel⟩
abbrev y_rec_raw : MethodName := { cls := "RecordCalls", name := "raw", desc := "()I" }
theorem mk_rec_raw : rc_MK y_rec_raw prog_1_method_4_code 1 (some .int) 0 := ⟨T_207, T_1, by decide, by decide +kernel⟩
abbrev y_rec_newSlot : MethodName := { cls := "RecordCalls", name := "newSlot", desc := "()LRecordCalls$Row;" }
theorem mk_rec_newSlot : rc_MK y_rec_newSlot prog_1_method_19_code 2 (some (.object "RecordCalls$Row")) 0 := ⟨T_211, T_1, by decide, by decide +kernel⟩
abbrev y_rec_slotRow : MethodName := { cls := "RecordCalls", name := "slotRow", desc := "(I)LRecordCalls$Row;" }
theorem mk_rec_slotRow : rc_MK y_rec_slotRow prog_1_method_18_code 2 (some (.object "RecordCalls$Row")) 1 := ⟨T_215, T_1, by decide, by decide +kernel⟩
abbrev y_row_clear : MethodName := { cls := "RecordCalls$Row", name := "clear", desc := "()V" }
theorem mk_row_clear : rc_MK y_row_clear prog_6_method_3_code 1 none 0 := ⟨T_219, T_2, by decide, by decide +kernel⟩
abbrev y_row_size : MethodName := { cls := "RecordCalls$Row", name := "size", desc := "()I" }
theorem mk_row_size : rc_MK y_row_size prog_6_method_2_code 1 (some .int) 0 := ⟨T_223, T_2, by decide, by decide +kernel⟩
abbrev y_row_addPart : MethodName := { cls := "RecordCalls$Row", name := "addPart", desc := "(LRecordCalls$Row;II)V" }
theorem mk_row_addPart : rc_MK y_row_addPart prog_6_method_12_code 4 none 3 := ⟨T_227, T_2, by decide, by decide +kernel⟩
abbrev y_row_makeRoom : MethodName := { cls := "RecordCalls$Row", name := "makeRoom", desc := "(I)V" }
theorem mk_row_makeRoom : rc_MK y_row_makeRoom prog_6_method_7_code 4 none 1 := ⟨T_231, T_2, by decide, by decide +kernel⟩
abbrev y_mat_max : MethodName := { cls := "java/lang/Math", name := "max", desc := "(II)I" }
theorem mk_mat_max : rc_MK y_mat_max prog_14_method_65_code 2 (some .int) 2 := ⟨T_234, T_13, by decide, by decide +kernel⟩
abbrev y_arr_copyOf : MethodName := { cls := "java/util/Arrays", name := "copyOf", desc := "([BI)[B" }
theorem mk_arr_copyOf : rc_MK y_arr_copyOf prog_19_method_121_code 3 (some (.array (.byte))) 2 := ⟨T_237, T_14, by decide, by decide +kernel⟩
abbrev y_mat_min : MethodName := { cls := "java/lang/Math", name := "min", desc := "(II)I" }
theorem mk_mat_min : rc_MK y_mat_min prog_14_method_69_code 2 (some .int) 2 := ⟨T_247, T_13, by decide, by decide +kernel⟩
abbrev y_rec_tapeIsSlot : MethodName := { cls := "RecordCalls", name := "tapeIsSlot", desc := "()I" }
theorem mk_rec_tapeIsSlot : rc_MK y_rec_tapeIsSlot prog_1_method_20_code 1 (some .int) 0 := ⟨T_255, T_1, by decide, by decide +kernel⟩
abbrev y_rec_value : MethodName := { cls := "RecordCalls", name := "value", desc := "()J" }
theorem mk_rec_value : rc_MK y_rec_value prog_1_method_13_code 1 (some .long) 0 := ⟨T_259, T_1, by decide, by decide +kernel⟩
abbrev y_rec_placeOfTape : MethodName := { cls := "RecordCalls", name := "placeOfTape", desc := "()I" }
theorem mk_rec_placeOfTape : rc_MK y_rec_placeOfTape prog_1_method_25_code 1 (some .int) 0 := ⟨T_263, T_1, by decide, by decide +kernel⟩
abbrev y_map_placeOf : MethodName := { cls := "RecordCalls$KeyMap", name := "placeOf", desc := "(LRecordCalls$Row;II)I" }
theorem mk_map_placeOf : rc_MK y_map_placeOf prog_3_method_5_code 5 (some .int) 3 := ⟨T_267, T_4, by decide, by decide +kernel⟩
abbrev y_row_isPart : MethodName := { cls := "RecordCalls$Row", name := "isPart", desc := "(LRecordCalls$Row;II)Z" }
theorem mk_row_isPart : rc_MK y_row_isPart prog_6_method_14_code 5 (some .boolean) 3 := ⟨T_271, T_2, by decide, by decide +kernel⟩
abbrev y_row_at : MethodName := { cls := "RecordCalls$Row", name := "at", desc := "(I)I" }
theorem mk_row_at : rc_MK y_row_at prog_6_method_5_code 2 (some .int) 1 := ⟨T_275, T_2, by decide, by decide +kernel⟩
abbrev y_map_valueAt : MethodName := { cls := "RecordCalls$KeyMap", name := "valueAt", desc := "(I)J" }
theorem mk_map_valueAt : rc_MK y_map_valueAt prog_3_method_6_code 2 (some .long) 1 := ⟨T_279, T_4, by decide, by decide +kernel⟩
abbrev y_map_isPlace : MethodName := { cls := "RecordCalls$KeyMap", name := "isPlace", desc := "(I)Z" }
theorem mk_map_isPlace : rc_MK y_map_isPlace prog_3_method_4_code 2 (some .boolean) 1 := ⟨T_283, T_4, by decide, by decide +kernel⟩
abbrev y_rec_has : MethodName := { cls := "RecordCalls", name := "has", desc := "()Z" }
theorem mk_rec_has : rc_MK y_rec_has prog_1_method_14_code 1 (some .boolean) 0 := ⟨T_287, T_1, by decide, by decide +kernel⟩
abbrev y_law_feed : MethodName := { cls := "RecordCallsLaw", name := "feed", desc := "(LRecordCalls;IIIII[J)I" }
abbrev y_rec_feed : MethodName := { cls := "RecordCalls", name := "feed", desc := "(IIIII)I" }
theorem mk_rec_feed : rc_MK y_rec_feed prog_1_method_2_code 6 (some .int) 5 := ⟨T_295, T_1, by decide, by decide +kernel⟩
abbrev y_row_addWord : MethodName := { cls := "RecordCalls$Row", name := "addWord", desc := "(I)V" }
theorem mk_row_addWord : rc_MK y_row_addWord prog_6_method_9_code 2 none 1 := ⟨T_362, T_2, by decide, by decide +kernel⟩
abbrev y_law_end : MethodName := { cls := "RecordCallsLaw", name := "end", desc := "(LRecordCalls;I)I" }
abbrev y_rec_end : MethodName := { cls := "RecordCalls", name := "end", desc := "(I)V" }
theorem mk_rec_end : rc_MK y_rec_end prog_1_method_3_code 2 none 1 := ⟨T_370, T_1, by decide, by decide +kernel⟩
abbrev y_row_cutTo : MethodName := { cls := "RecordCalls$Row", name := "cutTo", desc := "(I)V" }
theorem mk_row_cutTo : rc_MK y_row_cutTo prog_6_method_4_code 2 none 1 := ⟨T_389, T_2, by decide, by decide +kernel⟩
abbrev y_law_record : MethodName := { cls := "RecordCallsLaw", name := "record", desc := "(LRecordCalls;I[J)I" }
abbrev y_rec_record : MethodName := { cls := "RecordCalls", name := "record", desc := "(I)I" }
theorem mk_rec_record : rc_MK y_rec_record prog_1_method_5_code 8 (some .int) 1 := ⟨T_396, T_1, by decide, by decide +kernel⟩
abbrev y_rec_fragments : MethodName := { cls := "RecordCalls", name := "fragments", desc := "(II)I" }
theorem mk_rec_fragments : rc_MK y_rec_fragments prog_1_method_23_code 2 (some .int) 2 := ⟨T_399, T_1, by decide, by decide +kernel⟩
abbrev y_law_call : MethodName := { cls := "RecordCallsLaw", name := "call", desc := "(LRecordCalls;IIIZJ[J)I" }
abbrev y_rec_call : MethodName := { cls := "RecordCalls", name := "call", desc := "(IIIZJ)I" }
theorem mk_rec_call : rc_MK y_rec_call prog_1_method_6_code 7 (some .int) 5 := ⟨T_408, T_1, by decide, by decide +kernel⟩
abbrev y_rec_addNobody : MethodName := { cls := "RecordCalls", name := "addNobody", desc := "(LRecordCalls$Row;)V" }
theorem mk_rec_addNobody : rc_MK y_rec_addNobody prog_1_method_22_code 1 none 1 := ⟨T_412, T_1, by decide, by decide +kernel⟩
abbrev y_row_addBytes : MethodName := { cls := "RecordCalls$Row", name := "addBytes", desc := "(LRecordCalls$Row;II)V" }
theorem mk_row_addBytes : rc_MK y_row_addBytes prog_6_method_13_code 5 none 3 := ⟨T_416, T_2, by decide, by decide +kernel⟩
abbrev y_rec_filled : MethodName := { cls := "RecordCalls", name := "filled", desc := "(I)I" }
theorem mk_rec_filled : rc_MK y_rec_filled prog_1_method_30_code 1 (some .int) 1 := ⟨T_421, T_1, by decide, by decide +kernel⟩
abbrev y_row_add : MethodName := { cls := "RecordCalls$Row", name := "add", desc := "(I)V" }
theorem mk_row_add : rc_MK y_row_add prog_6_method_8_code 2 none 1 := ⟨T_425, T_2, by decide, by decide +kernel⟩
abbrev y_row_addLong : MethodName := { cls := "RecordCalls$Row", name := "addLong", desc := "(J)V" }
theorem mk_row_addLong : rc_MK y_row_addLong prog_6_method_10_code 3 none 1 := ⟨T_429, T_2, by decide, by decide +kernel⟩
abbrev y_rec_addOneFragment : MethodName := { cls := "RecordCalls", name := "addOneFragment", desc := "(LRecordCalls$Row;)V" }
theorem mk_rec_addOneFragment : rc_MK y_rec_addOneFragment prog_1_method_21_code 3 none 1 := ⟨T_433, T_1, by decide, by decide +kernel⟩
abbrev y_law_push : MethodName := { cls := "RecordCallsLaw", name := "push", desc := "(LRecordCalls;IIII[J)I" }
abbrev y_rec_push : MethodName := { cls := "RecordCalls", name := "push", desc := "(IIII)I" }
theorem mk_rec_push : rc_MK y_rec_push prog_1_method_7_code 10 (some .int) 4 := ⟨T_441, T_1, by decide, by decide +kernel⟩
abbrev y_rec_isConnection : MethodName := { cls := "RecordCalls", name := "isConnection", desc := "(I)Z" }
theorem mk_rec_isConnection : rc_MK y_rec_isConnection prog_1_method_16_code 1 (some .boolean) 1 := ⟨T_444, T_1, by decide, by decide +kernel⟩
abbrev y_rec_isSlot : MethodName := { cls := "RecordCalls", name := "isSlot", desc := "(I)Z" }
theorem mk_rec_isSlot : rc_MK y_rec_isSlot prog_1_method_17_code 2 (some .boolean) 1 := ⟨T_448, T_1, by decide, by decide +kernel⟩
abbrev y_con_isWholeWith : MethodName := { cls := "RecordCalls$Connection", name := "isWholeWith", desc := "(I)Z" }
theorem mk_con_isWholeWith : rc_MK y_con_isWholeWith prog_2_method_2_code 2 (some .boolean) 1 := ⟨T_468, T_6, by decide, by decide +kernel⟩
abbrev y_con_takeHead : MethodName := { cls := "RecordCalls$Connection", name := "takeHead", desc := "(I)V" }
theorem mk_con_takeHead : rc_MK y_con_takeHead prog_2_method_3_code 2 none 1 := ⟨T_472, T_6, by decide, by decide +kernel⟩
abbrev y_srv_replyTo : MethodName := { cls := "RecordCalls$Server", name := "replyTo", desc := "(LRecordCalls$Row;LRecordCalls$Replies;)LRecordCalls$Row;" }
theorem mk_srv_replyTo : rc_MK y_srv_replyTo prog_7_method_2_code 6 (some (.object "RecordCalls$Row")) 2 := ⟨T_480, T_3, by decide, by decide +kernel⟩
abbrev y_row_wordAt : MethodName := { cls := "RecordCalls$Row", name := "wordAt", desc := "(I)I" }
theorem mk_row_wordAt : rc_MK y_row_wordAt prog_6_method_6_code 2 (some .int) 1 := ⟨T_485, T_2, by decide, by decide +kernel⟩
abbrev y_rpl_find : MethodName := { cls := "RecordCalls$Replies", name := "find", desc := "(I)LRecordCalls$Row;" }
theorem mk_rpl_find : rc_MK y_rpl_find prog_5_method_2_code 3 (some (.object "RecordCalls$Row")) 1 := ⟨T_489, T_7, by decide, by decide +kernel⟩
abbrev y_srv_verdictOn : MethodName := { cls := "RecordCalls$Server", name := "verdictOn", desc := "(LRecordCalls$Row;)I" }
theorem mk_srv_verdictOn : rc_MK y_srv_verdictOn prog_7_method_3_code 8 (some .int) 1 := ⟨T_493, T_3, by decide, by decide +kernel⟩
abbrev y_rdr_begin : MethodName := { cls := "RecordCalls$Reader", name := "begin", desc := "(LRecordCalls$Row;I)V" }
theorem mk_rdr_begin : rc_MK y_rdr_begin prog_4_method_2_code 3 none 2 := ⟨T_497, T_5, by decide, by decide +kernel⟩
abbrev y_rdr_nextWord : MethodName := { cls := "RecordCalls$Reader", name := "nextWord", desc := "()I" }
theorem mk_rdr_nextWord : rc_MK y_rdr_nextWord prog_4_method_7_code 1 (some .int) 0 := ⟨T_501, T_5, by decide, by decide +kernel⟩
abbrev y_rdr_nextBytes : MethodName := { cls := "RecordCalls$Reader", name := "nextBytes", desc := "(I)I" }
theorem mk_rdr_nextBytes : rc_MK y_rdr_nextBytes prog_4_method_9_code 4 (some .int) 1 := ⟨T_507, T_5, by decide, by decide +kernel⟩
abbrev y_rdr_isGood : MethodName := { cls := "RecordCalls$Reader", name := "isGood", desc := "()Z" }
theorem mk_rdr_isGood : rc_MK y_rdr_isGood prog_4_method_4_code 1 (some .boolean) 0 := ⟨T_514, T_5, by decide, by decide +kernel⟩
abbrev y_srv_verdictOnVersion : MethodName := { cls := "RecordCalls$Server", name := "verdictOnVersion", desc := "(I)I" }
theorem mk_srv_verdictOnVersion : rc_MK y_srv_verdictOnVersion prog_7_method_4_code 3 (some .int) 1 := ⟨T_519, T_3, by decide, by decide +kernel⟩
abbrev y_srv_isTaken : MethodName := { cls := "RecordCalls$Server", name := "isTaken", desc := "()Z" }
theorem mk_srv_isTaken : rc_MK y_srv_isTaken prog_7_method_6_code 1 (some .boolean) 0 := ⟨T_523, T_3, by decide, by decide +kernel⟩
abbrev y_srv_takeKey : MethodName := { cls := "RecordCalls$Server", name := "takeKey", desc := "()V" }
theorem mk_srv_takeKey : rc_MK y_srv_takeKey prog_7_method_7_code 2 none 0 := ⟨T_527, T_3, by decide, by decide +kernel⟩
abbrev y_rdr_fail : MethodName := { cls := "RecordCalls$Reader", name := "fail", desc := "()V" }
theorem mk_rdr_fail : rc_MK y_rdr_fail prog_4_method_6_code 1 none 0 := ⟨T_531, T_5, by decide, by decide +kernel⟩
abbrev y_rdr_startOfBytes : MethodName := { cls := "RecordCalls$Reader", name := "startOfBytes", desc := "(I)I" }
theorem mk_rdr_startOfBytes : rc_MK y_rdr_startOfBytes prog_4_method_10_code 2 (some .int) 1 := ⟨T_535, T_5, by decide, by decide +kernel⟩
abbrev y_rdr_nextLong : MethodName := { cls := "RecordCalls$Reader", name := "nextLong", desc := "()J" }
theorem mk_rdr_nextLong : rc_MK y_rdr_nextLong prog_4_method_8_code 5 (some .long) 0 := ⟨T_539, T_5, by decide, by decide +kernel⟩
abbrev y_srv_takeKeys : MethodName := { cls := "RecordCalls$Server", name := "takeKeys", desc := "()V" }
theorem mk_srv_takeKeys : rc_MK y_srv_takeKeys prog_7_method_8_code 3 none 0 := ⟨T_544, T_3, by decide, by decide +kernel⟩
abbrev y_rdr_isAtEnd : MethodName := { cls := "RecordCalls$Reader", name := "isAtEnd", desc := "()Z" }
theorem mk_rdr_isAtEnd : rc_MK y_rdr_isAtEnd prog_4_method_5_code 1 (some .boolean) 0 := ⟨T_548, T_5, by decide, by decide +kernel⟩
abbrev y_srv_beginReply : MethodName := { cls := "RecordCalls$Server", name := "beginReply", desc := "(II)V" }
theorem mk_srv_beginReply : rc_MK y_srv_beginReply prog_7_method_5_code 3 none 2 := ⟨T_552, T_3, by decide, by decide +kernel⟩
abbrev y_srv_give : MethodName := { cls := "RecordCalls$Server", name := "give", desc := "()V" }
theorem mk_srv_give : rc_MK y_srv_give prog_7_method_9_code 1 none 0 := ⟨T_559, T_3, by decide, by decide +kernel⟩
abbrev y_srv_giveSet : MethodName := { cls := "RecordCalls$Server", name := "giveSet", desc := "()V" }
theorem mk_srv_giveSet : rc_MK y_srv_giveSet prog_7_method_11_code 3 none 0 := ⟨T_563, T_3, by decide, by decide +kernel⟩
abbrev y_srv_placeTaken : MethodName := { cls := "RecordCalls$Server", name := "placeTaken", desc := "(I)I" }
theorem mk_srv_placeTaken : rc_MK y_srv_placeTaken prog_7_method_10_code 2 (some .int) 1 := ⟨T_567, T_3, by decide, by decide +kernel⟩
abbrev y_rdr_row : MethodName := { cls := "RecordCalls$Reader", name := "row", desc := "()LRecordCalls$Row;" }
theorem mk_rdr_row : rc_MK y_rdr_row prog_4_method_3_code 1 (some (.object "RecordCalls$Row")) 0 := ⟨T_571, T_5, by decide, by decide +kernel⟩
abbrev y_map_isFull : MethodName := { cls := "RecordCalls$KeyMap", name := "isFull", desc := "()Z" }
theorem mk_map_isFull : rc_MK y_map_isFull prog_3_method_3_code 1 (some .boolean) 0 := ⟨T_576, T_4, by decide, by decide +kernel⟩
abbrev y_row_addTruth : MethodName := { cls := "RecordCalls$Row", name := "addTruth", desc := "(Z)V" }
theorem mk_row_addTruth : rc_MK y_row_addTruth prog_6_method_11_code 2 none 1 := ⟨T_580, T_2, by decide, by decide +kernel⟩
abbrev y_map_setValue : MethodName := { cls := "RecordCalls$KeyMap", name := "setValue", desc := "(IJ)V" }
theorem mk_map_setValue : rc_MK y_map_setValue prog_3_method_7_code 4 none 2 := ⟨T_586, T_4, by decide, by decide +kernel⟩
abbrev y_map_addNew : MethodName := { cls := "RecordCalls$KeyMap", name := "addNew", desc := "(LRecordCalls$Row;IIJ)V" }
theorem mk_map_addNew : rc_MK y_map_addNew prog_3_method_9_code 6 none 4 := ⟨T_590, T_4, by decide, by decide +kernel⟩
abbrev y_srv_giveValueAt : MethodName := { cls := "RecordCalls$Server", name := "giveValueAt", desc := "(I)V" }
theorem mk_srv_giveValueAt : rc_MK y_srv_giveValueAt prog_7_method_12_code 2 none 1 := ⟨T_597, T_3, by decide, by decide +kernel⟩
abbrev y_map_addToValue : MethodName := { cls := "RecordCalls$KeyMap", name := "addToValue", desc := "(IJ)V" }
theorem mk_map_addToValue : rc_MK y_map_addToValue prog_3_method_8_code 4 none 2 := ⟨T_601, T_4, by decide, by decide +kernel⟩
abbrev y_srv_giveSum : MethodName := { cls := "RecordCalls$Server", name := "giveSum", desc := "()V" }
theorem mk_srv_giveSum : rc_MK y_srv_giveSum prog_7_method_13_code 6 none 0 := ⟨T_605, T_3, by decide, by decide +kernel⟩
abbrev y_srv_giveList : MethodName := { cls := "RecordCalls$Server", name := "giveList", desc := "()V" }
theorem mk_srv_giveList : rc_MK y_srv_giveList prog_7_method_14_code 6 none 0 := ⟨T_609, T_3, by decide, by decide +kernel⟩
abbrev y_map_size : MethodName := { cls := "RecordCalls$KeyMap", name := "size", desc := "()I" }
theorem mk_map_size : rc_MK y_map_size prog_3_method_2_code 1 (some .int) 0 := ⟨T_613, T_4, by decide, by decide +kernel⟩
abbrev y_map_keyAt : MethodName := { cls := "RecordCalls$KeyMap", name := "keyAt", desc := "(I)LRecordCalls$Row;" }
theorem mk_map_keyAt : rc_MK y_map_keyAt prog_3_method_11_code 2 (some (.object "RecordCalls$Row")) 1 := ⟨T_619, T_4, by decide, by decide +kernel⟩
abbrev y_srv_giveRemoved : MethodName := { cls := "RecordCalls$Server", name := "giveRemoved", desc := "()V" }
theorem mk_srv_giveRemoved : rc_MK y_srv_giveRemoved prog_7_method_15_code 2 none 0 := ⟨T_624, T_3, by decide, by decide +kernel⟩
abbrev y_map_remove : MethodName := { cls := "RecordCalls$KeyMap", name := "remove", desc := "(I)V" }
theorem mk_map_remove : rc_MK y_map_remove prog_3_method_10_code 4 none 1 := ⟨T_628, T_4, by decide, by decide +kernel⟩
abbrev y_rpl_keep : MethodName := { cls := "RecordCalls$Replies", name := "keep", desc := "(ILRecordCalls$Row;)V" }
theorem mk_rpl_keep : rc_MK y_rpl_keep prog_5_method_3_code 4 none 2 := ⟨T_632, T_7, by decide, by decide +kernel⟩
abbrev y_con_forgetRecord : MethodName := { cls := "RecordCalls$Connection", name := "forgetRecord", desc := "()V" }
theorem mk_con_forgetRecord : rc_MK y_con_forgetRecord prog_2_method_4_code 1 none 0 := ⟨T_639, T_6, by decide, by decide +kernel⟩
abbrev y_rec_addReply : MethodName := { cls := "RecordCalls", name := "addReply", desc := "(LRecordCalls$Row;)I" }
theorem mk_rec_addReply : rc_MK y_rec_addReply prog_1_method_24_code 2 (some .int) 1 := ⟨T_644, T_1, by decide, by decide +kernel⟩
abbrev y_law_open : MethodName := { cls := "RecordCallsLaw", name := "open", desc := "(LRecordCalls;I[J)I" }
abbrev y_rec_open : MethodName := { cls := "RecordCalls", name := "open", desc := "(I)Z" }
theorem mk_rec_open : rc_MK y_rec_open prog_1_method_8_code 2 (some .boolean) 1 := ⟨T_651, T_1, by decide, by decide +kernel⟩
abbrev y_con_openAnew : MethodName := { cls := "RecordCalls$Connection", name := "openAnew", desc := "()Z" }
theorem mk_con_openAnew : rc_MK y_con_openAnew prog_2_method_5_code 2 (some .boolean) 0 := ⟨T_655, T_6, by decide, by decide +kernel⟩
abbrev y_law_length : MethodName := { cls := "RecordCallsLaw", name := "length", desc := "(LRecordCalls;I[J)I" }
abbrev y_rec_length : MethodName := { cls := "RecordCalls", name := "length", desc := "(I)I" }
theorem mk_rec_length : rc_MK y_rec_length prog_1_method_9_code 2 (some .int) 1 := ⟨T_663, T_1, by decide, by decide +kernel⟩
abbrev y_law_byteAt : MethodName := { cls := "RecordCallsLaw", name := "byteAt", desc := "(LRecordCalls;II[J)I" }
abbrev y_rec_byteAt : MethodName := { cls := "RecordCalls", name := "byteAt", desc := "(II)I" }
theorem mk_rec_byteAt : rc_MK y_rec_byteAt prog_1_method_10_code 3 (some .int) 2 := ⟨T_670, T_1, by decide, by decide +kernel⟩
abbrev y_law_word : MethodName := { cls := "RecordCallsLaw", name := "word", desc := "(LRecordCalls;II[J)I" }
abbrev y_rec_word : MethodName := { cls := "RecordCalls", name := "word", desc := "(II)I" }
theorem mk_rec_word : rc_MK y_rec_word prog_1_method_11_code 3 (some .int) 2 := ⟨T_677, T_1, by decide, by decide +kernel⟩
abbrev y_law_says : MethodName := { cls := "RecordCallsLaw", name := "says", desc := "(LRecordCalls;II[J)I" }
abbrev y_rec_says : MethodName := { cls := "RecordCalls", name := "says", desc := "(II)I" }
theorem mk_rec_says : rc_MK y_rec_says prog_1_method_12_code 4 (some .int) 2 := ⟨T_685, T_1, by decide, by decide +kernel⟩
abbrev y_rec_isJoined : MethodName := { cls := "RecordCalls", name := "isJoined", desc := "(LRecordCalls$Row;)Z" }
theorem mk_rec_isJoined : rc_MK y_rec_isJoined prog_1_method_26_code 6 (some .boolean) 1 := ⟨T_689, T_1, by decide, by decide +kernel⟩
abbrev y_rec_saidBy : MethodName := { cls := "RecordCalls", name := "saidBy", desc := "(LRecordCalls$Row;)I" }
theorem mk_rec_saidBy : rc_MK y_rec_saidBy prog_1_method_27_code 1 (some .int) 1 := ⟨T_693, T_1, by decide, by decide +kernel⟩
abbrev y_rec_saidByAccepted : MethodName := { cls := "RecordCalls", name := "saidByAccepted", desc := "(LRecordCalls$Row;)I" }
theorem mk_rec_saidByAccepted : rc_MK y_rec_saidByAccepted prog_1_method_28_code 5 (some .int) 1 := ⟨T_696, T_1, by decide, by decide +kernel⟩
abbrev y_rec_saidByRefused : MethodName := { cls := "RecordCalls", name := "saidByRefused", desc := "(LRecordCalls$Row;)I" }
theorem mk_rec_saidByRefused : rc_MK y_rec_saidByRefused prog_1_method_29_code 3 (some .int) 1 := ⟨T_699, T_1, by decide, by decide +kernel⟩
abbrev y_law_count : MethodName := { cls := "RecordCallsLaw", name := "count", desc := "(LRecordCalls;I[J)I" }
abbrev y_rec_count : MethodName := { cls := "RecordCalls", name := "count", desc := "(I)I" }
theorem mk_rec_count : rc_MK y_rec_count prog_1_method_15_code 3 (some .int) 1 := ⟨T_706, T_1, by decide, by decide +kernel⟩
abbrev y_con_bytesWaiting : MethodName := { cls := "RecordCalls$Connection", name := "bytesWaiting", desc := "()I" }
theorem mk_con_bytesWaiting : rc_MK y_con_bytesWaiting prog_2_method_6_code 1 (some .int) 0 := ⟨T_711, T_6, by decide, by decide +kernel⟩
abbrev y_mdl_init : MethodName := { cls := "RecordCallsModel", name := "<init>", desc := "()V" }
theorem mk_mdl_init : rc_MK y_mdl_init prog_9_method_1_code 1 none 0 := ⟨T_716, T_8, by decide, by decide +kernel⟩
abbrev y_mdl_thrown : MethodName := { cls := "RecordCallsModel", name := "thrown", desc := "()I" }
theorem mk_mdl_thrown : rc_MK y_mdl_thrown prog_9_method_2_code 1 (some .int) 0 := ⟨T_826, T_8, by decide, by decide +kernel⟩
abbrev y_mdl_raw : MethodName := { cls := "RecordCallsModel", name := "raw", desc := "()I" }
theorem mk_mdl_raw : rc_MK y_mdl_raw prog_9_method_8_code 3 (some .int) 0 := ⟨T_830, T_8, by decide, by decide +kernel⟩
abbrev y_mdl_newSlot : MethodName := { cls := "RecordCallsModel", name := "newSlot", desc := "()I" }
theorem mk_mdl_newSlot : rc_MK y_mdl_newSlot prog_9_method_5_code 1 (some .int) 0 := ⟨T_834, T_8, by decide, by decide +kernel⟩
abbrev y_mdl_slotByte : MethodName := { cls := "RecordCallsModel", name := "slotByte", desc := "(II)V" }
theorem mk_mdl_slotByte : rc_MK y_mdl_slotByte prog_9_method_6_code 3 none 2 := ⟨T_838, T_8, by decide, by decide +kernel⟩
abbrev y_mdl_base : MethodName := { cls := "RecordCallsModel", name := "base", desc := "(I)I" }
theorem mk_mdl_base : rc_MK y_mdl_base prog_9_method_4_code 1 (some .int) 1 := ⟨T_841, T_8, by decide, by decide +kernel⟩
abbrev y_mdl_record : MethodName := { cls := "RecordCallsModel", name := "record", desc := "(I)I" }
theorem mk_mdl_record : rc_MK y_mdl_record prog_9_method_9_code 9 (some .int) 1 := ⟨T_845, T_8, by decide, by decide +kernel⟩
abbrev y_mdl_slotWord : MethodName := { cls := "RecordCallsModel", name := "slotWord", desc := "(II)V" }
theorem mk_mdl_slotWord : rc_MK y_mdl_slotWord prog_9_method_7_code 4 none 2 := ⟨T_850, T_8, by decide, by decide +kernel⟩
abbrev y_mdl_call : MethodName := { cls := "RecordCallsModel", name := "call", desc := "(IIIZJ)I" }
theorem mk_mdl_call : rc_MK y_mdl_call prog_9_method_10_code 10 (some .int) 5 := ⟨T_854, T_8, by decide, by decide +kernel⟩
abbrev y_mdl_push : MethodName := { cls := "RecordCallsModel", name := "push", desc := "(IIII)I" }
theorem mk_mdl_push : rc_MK y_mdl_push prog_9_method_11_code 8 (some .int) 4 := ⟨T_859, T_8, by decide, by decide +kernel⟩
abbrev y_mdl_isSlot : MethodName := { cls := "RecordCallsModel", name := "isSlot", desc := "(I)Z" }
theorem mk_mdl_isSlot : rc_MK y_mdl_isSlot prog_9_method_3_code 2 (some .boolean) 1 := ⟨T_863, T_8, by decide, by decide +kernel⟩
abbrev y_mdl_take : MethodName := { cls := "RecordCallsModel", name := "take", desc := "(II)Z" }
theorem mk_mdl_take : rc_MK y_mdl_take prog_9_method_12_code 3 (some .boolean) 2 := ⟨T_867, T_8, by decide, by decide +kernel⟩
abbrev y_mdl_serve : MethodName := { cls := "RecordCallsModel", name := "serve", desc := "()Z" }
theorem mk_mdl_serve : rc_MK y_mdl_serve prog_9_method_21_code 4 (some .boolean) 0 := ⟨T_871, T_8, by decide, by decide +kernel⟩
abbrev y_mdl_recordWord : MethodName := { cls := "RecordCallsModel", name := "recordWord", desc := "(I)I" }
theorem mk_mdl_recordWord : rc_MK y_mdl_recordWord prog_9_method_14_code 4 (some .int) 1 := ⟨T_875, T_8, by decide, by decide +kernel⟩
abbrev y_mdl_send : MethodName := { cls := "RecordCallsModel", name := "send", desc := "(I)V" }
theorem mk_mdl_send : rc_MK y_mdl_send prog_9_method_23_code 4 none 1 := ⟨T_879, T_8, by decide, by decide +kernel⟩
abbrev y_mdl_judge : MethodName := { cls := "RecordCallsModel", name := "judge", desc := "(I)Z" }
theorem mk_mdl_judge : rc_MK y_mdl_judge prog_9_method_26_code 10 (some .boolean) 1 := ⟨T_883, T_8, by decide, by decide +kernel⟩
abbrev y_mdl_nextWord : MethodName := { cls := "RecordCallsModel", name := "nextWord", desc := "()I" }
theorem mk_mdl_nextWord : rc_MK y_mdl_nextWord prog_9_method_16_code 1 (some .int) 0 := ⟨T_887, T_8, by decide, by decide +kernel⟩
abbrev y_mdl_hasBytes : MethodName := { cls := "RecordCallsModel", name := "hasBytes", desc := "(I)Z" }
theorem mk_mdl_hasBytes : rc_MK y_mdl_hasBytes prog_9_method_15_code 2 (some .boolean) 1 := ⟨T_891, T_8, by decide, by decide +kernel⟩
abbrev y_mdl_refuse : MethodName := { cls := "RecordCallsModel", name := "refuse", desc := "(III)Z" }
theorem mk_mdl_refuse : rc_MK y_mdl_refuse prog_9_method_24_code 4 (some .boolean) 3 := ⟨T_895, T_8, by decide, by decide +kernel⟩
abbrev y_mdl_outWord : MethodName := { cls := "RecordCallsModel", name := "outWord", desc := "(I)V" }
theorem mk_mdl_outWord : rc_MK y_mdl_outWord prog_9_method_19_code 3 none 1 := ⟨T_899, T_8, by decide, by decide +kernel⟩
abbrev y_mdl_nextBytes : MethodName := { cls := "RecordCallsModel", name := "nextBytes", desc := "(I)I" }
theorem mk_mdl_nextBytes : rc_MK y_mdl_nextBytes prog_9_method_18_code 5 (some .int) 1 := ⟨T_903, T_8, by decide, by decide +kernel⟩
abbrev y_mdl_accept : MethodName := { cls := "RecordCallsModel", name := "accept", desc := "(II)Z" }
theorem mk_mdl_accept : rc_MK y_mdl_accept prog_9_method_25_code 3 (some .boolean) 2 := ⟨T_907, T_8, by decide, by decide +kernel⟩
abbrev y_mdl_takes : MethodName := { cls := "RecordCallsModel", name := "takes", desc := "(I)Z" }
theorem mk_mdl_takes : rc_MK y_mdl_takes prog_9_method_27_code 4 (some .boolean) 1 := ⟨T_911, T_8, by decide, by decide +kernel⟩
abbrev y_mdl_nextLong : MethodName := { cls := "RecordCallsModel", name := "nextLong", desc := "()J" }
theorem mk_mdl_nextLong : rc_MK y_mdl_nextLong prog_9_method_17_code 5 (some .long) 0 := ⟨T_915, T_8, by decide, by decide +kernel⟩
abbrev y_mdl_run : MethodName := { cls := "RecordCallsModel", name := "run", desc := "(I)V" }
theorem mk_mdl_run : rc_MK y_mdl_run prog_9_method_29_code 3 none 1 := ⟨T_920, T_8, by decide, by decide +kernel⟩
abbrev y_mdl_runSum : MethodName := { cls := "RecordCallsModel", name := "runSum", desc := "()V" }
theorem mk_mdl_runSum : rc_MK y_mdl_runSum prog_9_method_32_code 7 none 0 := ⟨T_924, T_8, by decide, by decide +kernel⟩
abbrev y_mdl_place : MethodName := { cls := "RecordCallsModel", name := "place", desc := "()I" }
theorem mk_mdl_place : rc_MK y_mdl_place prog_9_method_28_code 4 (some .int) 0 := ⟨T_928, T_8, by decide, by decide +kernel⟩
abbrev y_mdl_outLong : MethodName := { cls := "RecordCallsModel", name := "outLong", desc := "(J)V" }
theorem mk_mdl_outLong : rc_MK y_mdl_outLong prog_9_method_20_code 3 none 1 := ⟨T_932, T_8, by decide, by decide +kernel⟩
abbrev y_mdl_runList : MethodName := { cls := "RecordCallsModel", name := "runList", desc := "()V" }
theorem mk_mdl_runList : rc_MK y_mdl_runList prog_9_method_33_code 11 none 0 := ⟨T_936, T_8, by decide, by decide +kernel⟩
abbrev y_mdl_runPut : MethodName := { cls := "RecordCallsModel", name := "runPut", desc := "(IJ)V" }
theorem mk_mdl_runPut : rc_MK y_mdl_runPut prog_9_method_30_code 5 none 2 := ⟨T_940, T_8, by decide, by decide +kernel⟩
abbrev y_mdl_remove : MethodName := { cls := "RecordCallsModel", name := "remove", desc := "(I)V" }
theorem mk_mdl_remove : rc_MK y_mdl_remove prog_9_method_31_code 4 none 1 := ⟨T_944, T_8, by decide, by decide +kernel⟩
abbrev y_mdl_keep : MethodName := { cls := "RecordCallsModel", name := "keep", desc := "(II)V" }
theorem mk_mdl_keep : rc_MK y_mdl_keep prog_9_method_22_code 5 none 2 := ⟨T_948, T_8, by decide, by decide +kernel⟩
abbrev y_mdl_open : MethodName := { cls := "RecordCallsModel", name := "open", desc := "(I)Z" }
theorem mk_mdl_open : rc_MK y_mdl_open prog_9_method_13_code 3 (some .boolean) 1 := ⟨T_952, T_8, by decide, by decide +kernel⟩
abbrev y_mdl_feed : MethodName := { cls := "RecordCallsModel", name := "feed", desc := "(IIIII)I" }
theorem mk_mdl_feed : rc_MK y_mdl_feed prog_9_method_34_code 8 (some .int) 5 := ⟨T_956, T_8, by decide, by decide +kernel⟩
abbrev y_mdl_end : MethodName := { cls := "RecordCallsModel", name := "end", desc := "(I)V" }
theorem mk_mdl_end : rc_MK y_mdl_end prog_9_method_35_code 2 none 1 := ⟨T_960, T_8, by decide, by decide +kernel⟩
abbrev y_mdl_length : MethodName := { cls := "RecordCallsModel", name := "length", desc := "(I)I" }
theorem mk_mdl_length : rc_MK y_mdl_length prog_9_method_36_code 2 (some .int) 1 := ⟨T_964, T_8, by decide, by decide +kernel⟩
abbrev y_mdl_byteAt : MethodName := { cls := "RecordCallsModel", name := "byteAt", desc := "(II)I" }
theorem mk_mdl_byteAt : rc_MK y_mdl_byteAt prog_9_method_37_code 3 (some .int) 2 := ⟨T_968, T_8, by decide, by decide +kernel⟩
abbrev y_mdl_word : MethodName := { cls := "RecordCallsModel", name := "word", desc := "(II)I" }
theorem mk_mdl_word : rc_MK y_mdl_word prog_9_method_39_code 3 (some .int) 2 := ⟨T_972, T_8, by decide, by decide +kernel⟩
abbrev y_mdl_wordIn : MethodName := { cls := "RecordCallsModel", name := "wordIn", desc := "(II)I" }
theorem mk_mdl_wordIn : rc_MK y_mdl_wordIn prog_9_method_38_code 5 (some .int) 2 := ⟨T_976, T_8, by decide, by decide +kernel⟩
abbrev y_mdl_says : MethodName := { cls := "RecordCallsModel", name := "says", desc := "(II)I" }
theorem mk_mdl_says : rc_MK y_mdl_says prog_9_method_42_code 10 (some .int) 2 := ⟨T_980, T_8, by decide, by decide +kernel⟩
abbrev y_mdl_wholeRecord : MethodName := { cls := "RecordCallsModel", name := "wholeRecord", desc := "(I)I" }
theorem mk_mdl_wholeRecord : rc_MK y_mdl_wholeRecord prog_9_method_40_code 9 (some .int) 1 := ⟨T_984, T_8, by decide, by decide +kernel⟩
abbrev y_mdl_pushedWord : MethodName := { cls := "RecordCallsModel", name := "pushedWord", desc := "(I)I" }
theorem mk_mdl_pushedWord : rc_MK y_mdl_pushedWord prog_9_method_41_code 4 (some .int) 1 := ⟨T_988, T_8, by decide, by decide +kernel⟩
abbrev y_mdl_value : MethodName := { cls := "RecordCallsModel", name := "value", desc := "()J" }
theorem mk_mdl_value : rc_MK y_mdl_value prog_9_method_44_code 1 (some .long) 0 := ⟨T_992, T_8, by decide, by decide +kernel⟩
abbrev y_mdl_tapePlace : MethodName := { cls := "RecordCallsModel", name := "tapePlace", desc := "()I" }
theorem mk_mdl_tapePlace : rc_MK y_mdl_tapePlace prog_9_method_43_code 4 (some .int) 0 := ⟨T_996, T_8, by decide, by decide +kernel⟩
abbrev y_mdl_has : MethodName := { cls := "RecordCallsModel", name := "has", desc := "()Z" }
theorem mk_mdl_has : rc_MK y_mdl_has prog_9_method_45_code 1 (some .boolean) 0 := ⟨T_1000, T_8, by decide, by decide +kernel⟩
abbrev y_mdl_count : MethodName := { cls := "RecordCallsModel", name := "count", desc := "(I)I" }
theorem mk_mdl_count : rc_MK y_mdl_count prog_9_method_46_code 2 (some .int) 1 := ⟨T_1004, T_8, by decide, by decide +kernel⟩
end
section
theorem fl_row_9 : rc_FL "RecordCalls$Row" 9 1 0 := ⟨by decide, by decide, Or.inl T_32⟩
theorem fl_row_15 : rc_FL "RecordCalls$Row" 15 1 1 := ⟨by decide, by decide, Or.inl T_33⟩
theorem d_row_init_0 : decode prog_6_method_1_code 0 = .ok (.aload_n 0, 1) := by decide +kernel
theorem d_row_init_1 : decode prog_6_method_1_code 1 = .ok (.invokespecial 3, 3) := by decide +kernel
theorem d_row_init_4 : decode prog_6_method_1_code 4 = .ok (.aload_n 0, 1) := by decide +kernel
theorem d_row_init_5 : decode prog_6_method_1_code 5 = .ok (.iconst 0, 1) := by decide +kernel
theorem d_row_init_6 : decode prog_6_method_1_code 6 = .ok (.newarray .byte, 2) := by decide +kernel
theorem d_row_init_8 : decode prog_6_method_1_code 8 = .ok (.putfield 9, 3) := by decide +kernel
theorem d_row_init_11 : decode prog_6_method_1_code 11 = .ok (.aload_n 0, 1) := by decide +kernel
theorem d_row_init_12 : decode prog_6_method_1_code 12 = .ok (.iconst 0, 1) := by decide +kernel
theorem d_row_init_13 : decode prog_6_method_1_code 13 = .ok (.putfield 15, 3) := by decide +kernel
theorem d_row_init_16 : decode prog_6_method_1_code 16 = .ok (.return_, 1) := by decide +kernel
theorem d_row_size_0 : decode prog_6_method_2_code 0 = .ok (.aload_n 0, 1) := by decide +kernel
theorem d_row_size_1 : decode prog_6_method_2_code 1 = .ok (.getfield 15, 3) := by decide +kernel
theorem d_row_size_4 : decode prog_6_method_2_code 4 = .ok (.ireturn, 1) := by decide +kernel
theorem d_row_clear_0 : decode prog_6_method_3_code 0 = .ok (.aload_n 0, 1) := by decide +kernel
theorem d_row_clear_1 : decode prog_6_method_3_code 1 = .ok (.iconst 0, 1) := by decide +kernel
theorem d_row_clear_2 : decode prog_6_method_3_code 2 = .ok (.putfield 15, 3) := by decide +kernel
theorem d_row_clear_5 : decode prog_6_method_3_code 5 = .ok (.return_, 1) := by decide +kernel
theorem d_row_cutTo_0 : decode prog_6_method_4_code 0 = .ok (.iload_n 1, 1) := by decide +kernel
theorem d_row_cutTo_1 : decode prog_6_method_4_code 1 = .ok (.ifCond .lt 16, 3) := by decide +kernel
theorem d_row_cutTo_4 : decode prog_6_method_4_code 4 = .ok (.iload_n 1, 1) := by decide +kernel
theorem d_row_cutTo_5 : decode prog_6_method_4_code 5 = .ok (.aload_n 0, 1) := by decide +kernel
theorem d_row_cutTo_6 : decode prog_6_method_4_code 6 = .ok (.getfield 15, 3) := by decide +kernel
theorem d_row_cutTo_9 : decode prog_6_method_4_code 9 = .ok (.if_icmp .ge 8, 3) := by decide +kernel
theorem d_row_cutTo_12 : decode prog_6_method_4_code 12 = .ok (.aload_n 0, 1) := by decide +kernel
theorem d_row_cutTo_13 : decode prog_6_method_4_code 13 = .ok (.iload_n 1, 1) := by decide +kernel
theorem d_row_cutTo_14 : decode prog_6_method_4_code 14 = .ok (.putfield 15, 3) := by decide +kernel
theorem d_row_cutTo_17 : decode prog_6_method_4_code 17 = .ok (.return_, 1) := by decide +kernel
theorem d_row_at_0 : decode prog_6_method_5_code 0 = .ok (.iload_n 1, 1) := by decide +kernel
theorem d_row_at_1 : decode prog_6_method_5_code 1 = .ok (.ifCond .lt 24, 3) := by decide +kernel
theorem d_row_at_4 : decode prog_6_method_5_code 4 = .ok (.iload_n 1, 1) := by decide +kernel
theorem d_row_at_5 : decode prog_6_method_5_code 5 = .ok (.aload_n 0, 1) := by decide +kernel
theorem d_row_at_6 : decode prog_6_method_5_code 6 = .ok (.getfield 15, 3) := by decide +kernel
theorem d_row_at_9 : decode prog_6_method_5_code 9 = .ok (.if_icmp .ge 16, 3) := by decide +kernel
theorem d_row_at_12 : decode prog_6_method_5_code 12 = .ok (.aload_n 0, 1) := by decide +kernel
theorem d_row_at_13 : decode prog_6_method_5_code 13 = .ok (.getfield 9, 3) := by decide +kernel
theorem d_row_at_16 : decode prog_6_method_5_code 16 = .ok (.iload_n 1, 1) := by decide +kernel
theorem d_row_at_17 : decode prog_6_method_5_code 17 = .ok (.baload, 1) := by decide +kernel
theorem d_row_at_18 : decode prog_6_method_5_code 18 = .ok (.sipush 255, 3) := by decide +kernel
theorem d_row_at_21 : decode prog_6_method_5_code 21 = .ok (.iand, 1) := by decide +kernel
theorem d_row_at_22 : decode prog_6_method_5_code 22 = .ok (.goto 4, 3) := by decide +kernel
theorem d_row_at_25 : decode prog_6_method_5_code 25 = .ok (.iconst 0, 1) := by decide +kernel
theorem d_row_at_26 : decode prog_6_method_5_code 26 = .ok (.ireturn, 1) := by decide +kernel
theorem d_row_wordAt_0 : decode prog_6_method_6_code 0 = .ok (.iload_n 1, 1) := by decide +kernel
theorem d_row_wordAt_1 : decode prog_6_method_6_code 1 = .ok (.ifCond .lt 13, 3) := by decide +kernel
theorem d_row_wordAt_4 : decode prog_6_method_6_code 4 = .ok (.iload_n 1, 1) := by decide +kernel
theorem d_row_wordAt_5 : decode prog_6_method_6_code 5 = .ok (.aload_n 0, 1) := by decide +kernel
theorem d_row_wordAt_6 : decode prog_6_method_6_code 6 = .ok (.getfield 15, 3) := by decide +kernel
theorem d_row_wordAt_9 : decode prog_6_method_6_code 9 = .ok (.iconst 4, 1) := by decide +kernel
theorem d_row_wordAt_10 : decode prog_6_method_6_code 10 = .ok (.isub, 1) := by decide +kernel
theorem d_row_wordAt_11 : decode prog_6_method_6_code 11 = .ok (.if_icmp .le 5, 3) := by decide +kernel
theorem d_row_wordAt_14 : decode prog_6_method_6_code 14 = .ok (.iconst 0, 1) := by decide +kernel
theorem d_row_wordAt_15 : decode prog_6_method_6_code 15 = .ok (.ireturn, 1) := by decide +kernel
theorem d_row_wordAt_16 : decode prog_6_method_6_code 16 = .ok (.aload_n 0, 1) := by decide +kernel
theorem d_row_wordAt_17 : decode prog_6_method_6_code 17 = .ok (.getfield 9, 3) := by decide +kernel
theorem d_row_wordAt_20 : decode prog_6_method_6_code 20 = .ok (.iload_n 1, 1) := by decide +kernel
theorem d_row_wordAt_21 : decode prog_6_method_6_code 21 = .ok (.baload, 1) := by decide +kernel
theorem d_row_wordAt_22 : decode prog_6_method_6_code 22 = .ok (.sipush 255, 3) := by decide +kernel
theorem d_row_wordAt_25 : decode prog_6_method_6_code 25 = .ok (.iand, 1) := by decide +kernel
theorem d_row_wordAt_26 : decode prog_6_method_6_code 26 = .ok (.bipush 24, 2) := by decide +kernel
theorem d_row_wordAt_28 : decode prog_6_method_6_code 28 = .ok (.ishl, 1) := by decide +kernel
theorem d_row_wordAt_29 : decode prog_6_method_6_code 29 = .ok (.aload_n 0, 1) := by decide +kernel
theorem d_row_wordAt_30 : decode prog_6_method_6_code 30 = .ok (.getfield 9, 3) := by decide +kernel
theorem d_row_wordAt_33 : decode prog_6_method_6_code 33 = .ok (.iload_n 1, 1) := by decide +kernel
theorem d_row_wordAt_34 : decode prog_6_method_6_code 34 = .ok (.iconst 1, 1) := by decide +kernel
theorem d_row_wordAt_35 : decode prog_6_method_6_code 35 = .ok (.iadd, 1) := by decide +kernel
theorem d_row_wordAt_36 : decode prog_6_method_6_code 36 = .ok (.baload, 1) := by decide +kernel
theorem d_row_wordAt_37 : decode prog_6_method_6_code 37 = .ok (.sipush 255, 3) := by decide +kernel
theorem d_row_wordAt_40 : decode prog_6_method_6_code 40 = .ok (.iand, 1) := by decide +kernel
theorem d_row_wordAt_41 : decode prog_6_method_6_code 41 = .ok (.bipush 16, 2) := by decide +kernel
theorem d_row_wordAt_43 : decode prog_6_method_6_code 43 = .ok (.ishl, 1) := by decide +kernel
theorem d_row_wordAt_44 : decode prog_6_method_6_code 44 = .ok (.ior, 1) := by decide +kernel
theorem d_row_wordAt_45 : decode prog_6_method_6_code 45 = .ok (.aload_n 0, 1) := by decide +kernel
theorem d_row_wordAt_46 : decode prog_6_method_6_code 46 = .ok (.getfield 9, 3) := by decide +kernel
theorem d_row_wordAt_49 : decode prog_6_method_6_code 49 = .ok (.iload_n 1, 1) := by decide +kernel
theorem d_row_wordAt_50 : decode prog_6_method_6_code 50 = .ok (.iconst 2, 1) := by decide +kernel
theorem d_row_wordAt_51 : decode prog_6_method_6_code 51 = .ok (.iadd, 1) := by decide +kernel
theorem d_row_wordAt_52 : decode prog_6_method_6_code 52 = .ok (.baload, 1) := by decide +kernel
theorem d_row_wordAt_53 : decode prog_6_method_6_code 53 = .ok (.sipush 255, 3) := by decide +kernel
theorem d_row_wordAt_56 : decode prog_6_method_6_code 56 = .ok (.iand, 1) := by decide +kernel
theorem d_row_wordAt_57 : decode prog_6_method_6_code 57 = .ok (.bipush 8, 2) := by decide +kernel
theorem d_row_wordAt_59 : decode prog_6_method_6_code 59 = .ok (.ishl, 1) := by decide +kernel
theorem d_row_wordAt_60 : decode prog_6_method_6_code 60 = .ok (.ior, 1) := by decide +kernel
theorem d_row_wordAt_61 : decode prog_6_method_6_code 61 = .ok (.aload_n 0, 1) := by decide +kernel
theorem d_row_wordAt_62 : decode prog_6_method_6_code 62 = .ok (.getfield 9, 3) := by decide +kernel
theorem d_row_wordAt_65 : decode prog_6_method_6_code 65 = .ok (.iload_n 1, 1) := by decide +kernel
theorem d_row_wordAt_66 : decode prog_6_method_6_code 66 = .ok (.iconst 3, 1) := by decide +kernel
theorem d_row_wordAt_67 : decode prog_6_method_6_code 67 = .ok (.iadd, 1) := by decide +kernel
theorem d_row_wordAt_68 : decode prog_6_method_6_code 68 = .ok (.baload, 1) := by decide +kernel
theorem d_row_wordAt_69 : decode prog_6_method_6_code 69 = .ok (.sipush 255, 3) := by decide +kernel
theorem d_row_wordAt_72 : decode prog_6_method_6_code 72 = .ok (.iand, 1) := by decide +kernel
theorem d_row_wordAt_73 : decode prog_6_method_6_code 73 = .ok (.ior, 1) := by decide +kernel
theorem d_row_wordAt_74 : decode prog_6_method_6_code 74 = .ok (.ireturn, 1) := by decide +kernel
theorem d_mat_max_0 : decode prog_14_method_65_code 0 = .ok (.iload_n 0, 1) := by decide +kernel
theorem d_mat_max_1 : decode prog_14_method_65_code 1 = .ok (.iload_n 1, 1) := by decide +kernel
theorem d_mat_max_2 : decode prog_14_method_65_code 2 = .ok (.if_icmp .lt 7, 3) := by decide +kernel
theorem d_mat_max_5 : decode prog_14_method_65_code 5 = .ok (.iload_n 0, 1) := by decide +kernel
theorem d_mat_max_6 : decode prog_14_method_65_code 6 = .ok (.goto 4, 3) := by decide +kernel
theorem d_mat_max_9 : decode prog_14_method_65_code 9 = .ok (.iload_n 1, 1) := by decide +kernel
theorem d_mat_max_10 : decode prog_14_method_65_code 10 = .ok (.ireturn, 1) := by decide +kernel
theorem d_mat_min_0 : decode prog_14_method_69_code 0 = .ok (.iload_n 0, 1) := by decide +kernel
theorem d_mat_min_1 : decode prog_14_method_69_code 1 = .ok (.iload_n 1, 1) := by decide +kernel
theorem d_mat_min_2 : decode prog_14_method_69_code 2 = .ok (.if_icmp .gt 7, 3) := by decide +kernel
theorem d_mat_min_5 : decode prog_14_method_69_code 5 = .ok (.iload_n 0, 1) := by decide +kernel
theorem d_mat_min_6 : decode prog_14_method_69_code 6 = .ok (.goto 4, 3) := by decide +kernel
theorem d_mat_min_9 : decode prog_14_method_69_code 9 = .ok (.iload_n 1, 1) := by decide +kernel
theorem d_mat_min_10 : decode prog_14_method_69_code 10 = .ok (.ireturn, 1) := by decide +kernel
theorem d_arr_copyOf_0 : decode prog_19_method_121_code 0 = .ok (.iload_n 1, 1) := by decide +kernel
theorem d_arr_copyOf_1 : decode prog_19_method_121_code 1 = .ok (.aload_n 0, 1) := by decide +kernel
theorem d_arr_copyOf_2 : decode prog_19_method_121_code 2 = .ok (.arraylength, 1) := by decide +kernel
theorem d_arr_copyOf_3 : decode prog_19_method_121_code 3 = .ok (.if_icmp .ne 11, 3) := by decide +kernel
theorem d_arr_copyOf_6 : decode prog_19_method_121_code 6 = .ok (.aload_n 0, 1) := by decide +kernel
theorem d_arr_copyOf_14 : decode prog_19_method_121_code 14 = .ok (.iload_n 1, 1) := by decide +kernel
theorem d_arr_copyOf_15 : decode prog_19_method_121_code 15 = .ok (.newarray .byte, 2) := by decide +kernel
theorem d_arr_copyOf_17 : decode prog_19_method_121_code 17 = .ok (.astore_n 2, 1) := by decide +kernel
theorem d_arr_copyOf_18 : decode prog_19_method_121_code 18 = .ok (.aload_n 0, 1) := by decide +kernel
theorem d_arr_copyOf_19 : decode prog_19_method_121_code 19 = .ok (.iconst 0, 1) := by decide +kernel
theorem d_arr_copyOf_20 : decode prog_19_method_121_code 20 = .ok (.aload_n 2, 1) := by decide +kernel
theorem d_arr_copyOf_21 : decode prog_19_method_121_code 21 = .ok (.iconst 0, 1) := by decide +kernel
theorem d_arr_copyOf_22 : decode prog_19_method_121_code 22 = .ok (.aload_n 0, 1) := by decide +kernel
theorem d_arr_copyOf_23 : decode prog_19_method_121_code 23 = .ok (.arraylength, 1) := by decide +kernel
theorem d_arr_copyOf_24 : decode prog_19_method_121_code 24 = .ok (.iload_n 1, 1) := by decide +kernel
theorem d_arr_copyOf_25 : decode prog_19_method_121_code 25 = .ok (.invokestatic 304, 3) := by decide +kernel
theorem d_arr_copyOf_28 : decode prog_19_method_121_code 28 = .ok (.invokestatic 150, 3) := by decide +kernel
theorem d_arr_copyOf_31 : decode prog_19_method_121_code 31 = .ok (.aload_n 2, 1) := by decide +kernel
theorem d_arr_copyOf_32 : decode prog_19_method_121_code 32 = .ok (.areturn, 1) := by decide +kernel
theorem d_row_makeRoom_0 : decode prog_6_method_7_code 0 = .ok (.aload_n 0, 1) := by decide +kernel
theorem d_row_makeRoom_1 : decode prog_6_method_7_code 1 = .ok (.getfield 15, 3) := by decide +kernel
theorem d_row_makeRoom_4 : decode prog_6_method_7_code 4 = .ok (.iload_n 1, 1) := by decide +kernel
theorem d_row_makeRoom_5 : decode prog_6_method_7_code 5 = .ok (.iadd, 1) := by decide +kernel
theorem d_row_makeRoom_6 : decode prog_6_method_7_code 6 = .ok (.istore_n 2, 1) := by decide +kernel
theorem d_row_makeRoom_7 : decode prog_6_method_7_code 7 = .ok (.iload_n 2, 1) := by decide +kernel
theorem d_row_makeRoom_8 : decode prog_6_method_7_code 8 = .ok (.aload_n 0, 1) := by decide +kernel
theorem d_row_makeRoom_9 : decode prog_6_method_7_code 9 = .ok (.getfield 9, 3) := by decide +kernel
theorem d_row_makeRoom_12 : decode prog_6_method_7_code 12 = .ok (.arraylength, 1) := by decide +kernel
theorem d_row_makeRoom_13 : decode prog_6_method_7_code 13 = .ok (.if_icmp .le 32, 3) := by decide +kernel
theorem d_row_makeRoom_16 : decode prog_6_method_7_code 16 = .ok (.bipush 16, 2) := by decide +kernel
theorem d_row_makeRoom_18 : decode prog_6_method_7_code 18 = .ok (.iconst 2, 1) := by decide +kernel
theorem d_row_makeRoom_19 : decode prog_6_method_7_code 19 = .ok (.aload_n 0, 1) := by decide +kernel
theorem d_row_makeRoom_20 : decode prog_6_method_7_code 20 = .ok (.getfield 9, 3) := by decide +kernel
theorem d_row_makeRoom_23 : decode prog_6_method_7_code 23 = .ok (.arraylength, 1) := by decide +kernel
theorem d_row_makeRoom_24 : decode prog_6_method_7_code 24 = .ok (.imul, 1) := by decide +kernel
theorem d_row_makeRoom_25 : decode prog_6_method_7_code 25 = .ok (.invokestatic 19, 3) := by decide +kernel
theorem d_row_makeRoom_28 : decode prog_6_method_7_code 28 = .ok (.istore_n 3, 1) := by decide +kernel
theorem d_row_makeRoom_29 : decode prog_6_method_7_code 29 = .ok (.aload_n 0, 1) := by decide +kernel
theorem d_row_makeRoom_30 : decode prog_6_method_7_code 30 = .ok (.aload_n 0, 1) := by decide +kernel
theorem d_row_makeRoom_31 : decode prog_6_method_7_code 31 = .ok (.getfield 9, 3) := by decide +kernel
theorem d_row_makeRoom_34 : decode prog_6_method_7_code 34 = .ok (.iload_n 2, 1) := by decide +kernel
theorem d_row_makeRoom_35 : decode prog_6_method_7_code 35 = .ok (.iload_n 3, 1) := by decide +kernel
theorem d_row_makeRoom_36 : decode prog_6_method_7_code 36 = .ok (.invokestatic 19, 3) := by decide +kernel
theorem d_row_makeRoom_39 : decode prog_6_method_7_code 39 = .ok (.invokestatic 25, 3) := by decide +kernel
theorem d_row_makeRoom_42 : decode prog_6_method_7_code 42 = .ok (.putfield 9, 3) := by decide +kernel
theorem d_row_makeRoom_45 : decode prog_6_method_7_code 45 = .ok (.return_, 1) := by decide +kernel
theorem d_row_add_0 : decode prog_6_method_8_code 0 = .ok (.aload_n 0, 1) := by decide +kernel
theorem d_row_add_1 : decode prog_6_method_8_code 1 = .ok (.iconst 1, 1) := by decide +kernel
theorem d_row_add_2 : decode prog_6_method_8_code 2 = .ok (.invokevirtual 31, 3) := by decide +kernel
theorem d_row_add_5 : decode prog_6_method_8_code 5 = .ok (.aload_n 0, 1) := by decide +kernel
theorem d_row_add_6 : decode prog_6_method_8_code 6 = .ok (.getfield 9, 3) := by decide +kernel
theorem d_row_add_9 : decode prog_6_method_8_code 9 = .ok (.aload_n 0, 1) := by decide +kernel
theorem d_row_add_10 : decode prog_6_method_8_code 10 = .ok (.getfield 15, 3) := by decide +kernel
theorem d_row_add_13 : decode prog_6_method_8_code 13 = .ok (.iload_n 1, 1) := by decide +kernel
theorem d_row_add_14 : decode prog_6_method_8_code 14 = .ok (.i2b, 1) := by decide +kernel
theorem d_row_add_15 : decode prog_6_method_8_code 15 = .ok (.bastore, 1) := by decide +kernel
theorem d_row_add_16 : decode prog_6_method_8_code 16 = .ok (.aload_n 0, 1) := by decide +kernel
theorem d_row_add_17 : decode prog_6_method_8_code 17 = .ok (.dup, 1) := by decide +kernel
theorem d_row_add_18 : decode prog_6_method_8_code 18 = .ok (.getfield 15, 3) := by decide +kernel
theorem d_row_add_21 : decode prog_6_method_8_code 21 = .ok (.iconst 1, 1) := by decide +kernel
theorem d_row_add_22 : decode prog_6_method_8_code 22 = .ok (.iadd, 1) := by decide +kernel
theorem d_row_add_23 : decode prog_6_method_8_code 23 = .ok (.putfield 15, 3) := by decide +kernel
theorem d_row_add_26 : decode prog_6_method_8_code 26 = .ok (.return_, 1) := by decide +kernel
theorem d_row_addWord_0 : decode prog_6_method_9_code 0 = .ok (.aload_n 0, 1) := by decide +kernel
theorem d_row_addWord_1 : decode prog_6_method_9_code 1 = .ok (.iconst 4, 1) := by decide +kernel
theorem d_row_addWord_2 : decode prog_6_method_9_code 2 = .ok (.invokevirtual 31, 3) := by decide +kernel
theorem d_row_addWord_5 : decode prog_6_method_9_code 5 = .ok (.aload_n 0, 1) := by decide +kernel
theorem d_row_addWord_6 : decode prog_6_method_9_code 6 = .ok (.getfield 9, 3) := by decide +kernel
theorem d_row_addWord_9 : decode prog_6_method_9_code 9 = .ok (.aload_n 0, 1) := by decide +kernel
theorem d_row_addWord_10 : decode prog_6_method_9_code 10 = .ok (.getfield 15, 3) := by decide +kernel
theorem d_row_addWord_13 : decode prog_6_method_9_code 13 = .ok (.iload_n 1, 1) := by decide +kernel
theorem d_row_addWord_14 : decode prog_6_method_9_code 14 = .ok (.bipush 24, 2) := by decide +kernel
theorem d_row_addWord_16 : decode prog_6_method_9_code 16 = .ok (.iushr, 1) := by decide +kernel
theorem d_row_addWord_17 : decode prog_6_method_9_code 17 = .ok (.i2b, 1) := by decide +kernel
theorem d_row_addWord_18 : decode prog_6_method_9_code 18 = .ok (.bastore, 1) := by decide +kernel
theorem d_row_addWord_19 : decode prog_6_method_9_code 19 = .ok (.aload_n 0, 1) := by decide +kernel
theorem d_row_addWord_20 : decode prog_6_method_9_code 20 = .ok (.getfield 9, 3) := by decide +kernel
theorem d_row_addWord_23 : decode prog_6_method_9_code 23 = .ok (.aload_n 0, 1) := by decide +kernel
theorem d_row_addWord_24 : decode prog_6_method_9_code 24 = .ok (.getfield 15, 3) := by decide +kernel
theorem d_row_addWord_27 : decode prog_6_method_9_code 27 = .ok (.iconst 1, 1) := by decide +kernel
theorem d_row_addWord_28 : decode prog_6_method_9_code 28 = .ok (.iadd, 1) := by decide +kernel
theorem d_row_addWord_29 : decode prog_6_method_9_code 29 = .ok (.iload_n 1, 1) := by decide +kernel
theorem d_row_addWord_30 : decode prog_6_method_9_code 30 = .ok (.bipush 16, 2) := by decide +kernel
theorem d_row_addWord_32 : decode prog_6_method_9_code 32 = .ok (.iushr, 1) := by decide +kernel
theorem d_row_addWord_33 : decode prog_6_method_9_code 33 = .ok (.i2b, 1) := by decide +kernel
theorem d_row_addWord_34 : decode prog_6_method_9_code 34 = .ok (.bastore, 1) := by decide +kernel
theorem d_row_addWord_35 : decode prog_6_method_9_code 35 = .ok (.aload_n 0, 1) := by decide +kernel
theorem d_row_addWord_36 : decode prog_6_method_9_code 36 = .ok (.getfield 9, 3) := by decide +kernel
theorem d_row_addWord_39 : decode prog_6_method_9_code 39 = .ok (.aload_n 0, 1) := by decide +kernel
theorem d_row_addWord_40 : decode prog_6_method_9_code 40 = .ok (.getfield 15, 3) := by decide +kernel
theorem d_row_addWord_43 : decode prog_6_method_9_code 43 = .ok (.iconst 2, 1) := by decide +kernel
theorem d_row_addWord_44 : decode prog_6_method_9_code 44 = .ok (.iadd, 1) := by decide +kernel
theorem d_row_addWord_45 : decode prog_6_method_9_code 45 = .ok (.iload_n 1, 1) := by decide +kernel
theorem d_row_addWord_46 : decode prog_6_method_9_code 46 = .ok (.bipush 8, 2) := by decide +kernel
theorem d_row_addWord_48 : decode prog_6_method_9_code 48 = .ok (.iushr, 1) := by decide +kernel
theorem d_row_addWord_49 : decode prog_6_method_9_code 49 = .ok (.i2b, 1) := by decide +kernel
theorem d_row_addWord_50 : decode prog_6_method_9_code 50 = .ok (.bastore, 1) := by decide +kernel
theorem d_row_addWord_51 : decode prog_6_method_9_code 51 = .ok (.aload_n 0, 1) := by decide +kernel
theorem d_row_addWord_52 : decode prog_6_method_9_code 52 = .ok (.getfield 9, 3) := by decide +kernel
theorem d_row_addWord_55 : decode prog_6_method_9_code 55 = .ok (.aload_n 0, 1) := by decide +kernel
theorem d_row_addWord_56 : decode prog_6_method_9_code 56 = .ok (.getfield 15, 3) := by decide +kernel
theorem d_row_addWord_59 : decode prog_6_method_9_code 59 = .ok (.iconst 3, 1) := by decide +kernel
theorem d_row_addWord_60 : decode prog_6_method_9_code 60 = .ok (.iadd, 1) := by decide +kernel
theorem d_row_addWord_61 : decode prog_6_method_9_code 61 = .ok (.iload_n 1, 1) := by decide +kernel
theorem d_row_addWord_62 : decode prog_6_method_9_code 62 = .ok (.i2b, 1) := by decide +kernel
theorem d_row_addWord_63 : decode prog_6_method_9_code 63 = .ok (.bastore, 1) := by decide +kernel
theorem d_row_addWord_64 : decode prog_6_method_9_code 64 = .ok (.aload_n 0, 1) := by decide +kernel
theorem d_row_addWord_65 : decode prog_6_method_9_code 65 = .ok (.dup, 1) := by decide +kernel
theorem d_row_addWord_66 : decode prog_6_method_9_code 66 = .ok (.getfield 15, 3) := by decide +kernel
theorem d_row_addWord_69 : decode prog_6_method_9_code 69 = .ok (.iconst 4, 1) := by decide +kernel
theorem d_row_addWord_70 : decode prog_6_method_9_code 70 = .ok (.iadd, 1) := by decide +kernel
theorem d_row_addWord_71 : decode prog_6_method_9_code 71 = .ok (.putfield 15, 3) := by decide +kernel
theorem d_row_addWord_74 : decode prog_6_method_9_code 74 = .ok (.return_, 1) := by decide +kernel
theorem d_row_addLong_0 : decode prog_6_method_10_code 0 = .ok (.aload_n 0, 1) := by decide +kernel
theorem d_row_addLong_1 : decode prog_6_method_10_code 1 = .ok (.lload_n 1, 1) := by decide +kernel
theorem d_row_addLong_2 : decode prog_6_method_10_code 2 = .ok (.bipush 32, 2) := by decide +kernel
theorem d_row_addLong_4 : decode prog_6_method_10_code 4 = .ok (.lushr, 1) := by decide +kernel
theorem d_row_addLong_5 : decode prog_6_method_10_code 5 = .ok (.l2i, 1) := by decide +kernel
theorem d_row_addLong_6 : decode prog_6_method_10_code 6 = .ok (.invokevirtual 35, 3) := by decide +kernel
theorem d_row_addLong_9 : decode prog_6_method_10_code 9 = .ok (.aload_n 0, 1) := by decide +kernel
theorem d_row_addLong_10 : decode prog_6_method_10_code 10 = .ok (.lload_n 1, 1) := by decide +kernel
theorem d_row_addLong_11 : decode prog_6_method_10_code 11 = .ok (.l2i, 1) := by decide +kernel
theorem d_row_addLong_12 : decode prog_6_method_10_code 12 = .ok (.invokevirtual 35, 3) := by decide +kernel
theorem d_row_addLong_15 : decode prog_6_method_10_code 15 = .ok (.return_, 1) := by decide +kernel
theorem d_row_addTruth_0 : decode prog_6_method_11_code 0 = .ok (.aload_n 0, 1) := by decide +kernel
theorem d_row_addTruth_1 : decode prog_6_method_11_code 1 = .ok (.iload_n 1, 1) := by decide +kernel
theorem d_row_addTruth_2 : decode prog_6_method_11_code 2 = .ok (.ifCond .eq 7, 3) := by decide +kernel
theorem d_row_addTruth_5 : decode prog_6_method_11_code 5 = .ok (.iconst 1, 1) := by decide +kernel
theorem d_row_addTruth_6 : decode prog_6_method_11_code 6 = .ok (.goto 4, 3) := by decide +kernel
theorem d_row_addTruth_9 : decode prog_6_method_11_code 9 = .ok (.iconst 0, 1) := by decide +kernel
theorem d_row_addTruth_10 : decode prog_6_method_11_code 10 = .ok (.invokevirtual 35, 3) := by decide +kernel
theorem d_row_addTruth_13 : decode prog_6_method_11_code 13 = .ok (.return_, 1) := by decide +kernel
theorem d_row_addPart_0 : decode prog_6_method_12_code 0 = .ok (.iload_n 2, 1) := by decide +kernel
theorem d_row_addPart_1 : decode prog_6_method_12_code 1 = .ok (.ifCond .lt 17, 3) := by decide +kernel
theorem d_row_addPart_4 : decode prog_6_method_12_code 4 = .ok (.iload_n 3, 1) := by decide +kernel
theorem d_row_addPart_5 : decode prog_6_method_12_code 5 = .ok (.ifCond .lt 13, 3) := by decide +kernel
theorem d_row_addPart_8 : decode prog_6_method_12_code 8 = .ok (.iload_n 3, 1) := by decide +kernel
theorem d_row_addPart_9 : decode prog_6_method_12_code 9 = .ok (.aload_n 1, 1) := by decide +kernel
theorem d_row_addPart_10 : decode prog_6_method_12_code 10 = .ok (.getfield 15, 3) := by decide +kernel
theorem d_row_addPart_13 : decode prog_6_method_12_code 13 = .ok (.iload_n 2, 1) := by decide +kernel
theorem d_row_addPart_14 : decode prog_6_method_12_code 14 = .ok (.isub, 1) := by decide +kernel
theorem d_row_addPart_15 : decode prog_6_method_12_code 15 = .ok (.if_icmp .le 4, 3) := by decide +kernel
theorem d_row_addPart_18 : decode prog_6_method_12_code 18 = .ok (.return_, 1) := by decide +kernel
theorem d_row_addPart_19 : decode prog_6_method_12_code 19 = .ok (.aload_n 0, 1) := by decide +kernel
theorem d_row_addPart_20 : decode prog_6_method_12_code 20 = .ok (.iload_n 3, 1) := by decide +kernel
theorem d_row_addPart_21 : decode prog_6_method_12_code 21 = .ok (.invokevirtual 31, 3) := by decide +kernel
theorem d_row_addPart_24 : decode prog_6_method_12_code 24 = .ok (.aload_n 1, 1) := by decide +kernel
theorem d_row_addPart_25 : decode prog_6_method_12_code 25 = .ok (.getfield 9, 3) := by decide +kernel
theorem d_row_addPart_28 : decode prog_6_method_12_code 28 = .ok (.iload_n 2, 1) := by decide +kernel
theorem d_row_addPart_29 : decode prog_6_method_12_code 29 = .ok (.aload_n 0, 1) := by decide +kernel
theorem d_row_addPart_30 : decode prog_6_method_12_code 30 = .ok (.getfield 9, 3) := by decide +kernel
theorem d_row_addPart_33 : decode prog_6_method_12_code 33 = .ok (.aload_n 0, 1) := by decide +kernel
theorem d_row_addPart_34 : decode prog_6_method_12_code 34 = .ok (.getfield 15, 3) := by decide +kernel
theorem d_row_addPart_37 : decode prog_6_method_12_code 37 = .ok (.iload_n 3, 1) := by decide +kernel
theorem d_row_addPart_38 : decode prog_6_method_12_code 38 = .ok (.invokestatic 38, 3) := by decide +kernel
theorem d_row_addPart_41 : decode prog_6_method_12_code 41 = .ok (.aload_n 0, 1) := by decide +kernel
theorem d_row_addPart_42 : decode prog_6_method_12_code 42 = .ok (.dup, 1) := by decide +kernel
theorem d_row_addPart_43 : decode prog_6_method_12_code 43 = .ok (.getfield 15, 3) := by decide +kernel
theorem d_row_addPart_46 : decode prog_6_method_12_code 46 = .ok (.iload_n 3, 1) := by decide +kernel
theorem d_row_addPart_47 : decode prog_6_method_12_code 47 = .ok (.iadd, 1) := by decide +kernel
theorem d_row_addPart_48 : decode prog_6_method_12_code 48 = .ok (.putfield 15, 3) := by decide +kernel
theorem d_row_addPart_51 : decode prog_6_method_12_code 51 = .ok (.return_, 1) := by decide +kernel
theorem d_rec_filled_0 : decode prog_1_method_30_code 0 = .ok (.iload_n 0, 1) := by decide +kernel
theorem d_rec_filled_1 : decode prog_1_method_30_code 1 = .ok (.iconst 4, 1) := by decide +kernel
theorem d_rec_filled_2 : decode prog_1_method_30_code 2 = .ok (.iadd, 1) := by decide +kernel
theorem d_rec_filled_3 : decode prog_1_method_30_code 3 = .ok (.iconst 1, 1) := by decide +kernel
theorem d_rec_filled_4 : decode prog_1_method_30_code 4 = .ok (.isub, 1) := by decide +kernel
theorem d_rec_filled_5 : decode prog_1_method_30_code 5 = .ok (.bipush (-4), 2) := by decide +kernel
theorem d_rec_filled_7 : decode prog_1_method_30_code 7 = .ok (.iand, 1) := by decide +kernel
theorem d_rec_filled_8 : decode prog_1_method_30_code 8 = .ok (.ireturn, 1) := by decide +kernel
theorem d_row_addBytes_0 : decode prog_6_method_13_code 0 = .ok (.aload_n 0, 1) := by decide +kernel
theorem d_row_addBytes_1 : decode prog_6_method_13_code 1 = .ok (.iload_n 3, 1) := by decide +kernel
theorem d_row_addBytes_2 : decode prog_6_method_13_code 2 = .ok (.invokevirtual 35, 3) := by decide +kernel
theorem d_row_addBytes_5 : decode prog_6_method_13_code 5 = .ok (.aload_n 0, 1) := by decide +kernel
theorem d_row_addBytes_6 : decode prog_6_method_13_code 6 = .ok (.aload_n 1, 1) := by decide +kernel
theorem d_row_addBytes_7 : decode prog_6_method_13_code 7 = .ok (.iload_n 2, 1) := by decide +kernel
theorem d_row_addBytes_8 : decode prog_6_method_13_code 8 = .ok (.iload_n 3, 1) := by decide +kernel
theorem d_row_addBytes_9 : decode prog_6_method_13_code 9 = .ok (.invokevirtual 44, 3) := by decide +kernel
theorem d_row_addBytes_12 : decode prog_6_method_13_code 12 = .ok (.iload_n 3, 1) := by decide +kernel
theorem d_row_addBytes_13 : decode prog_6_method_13_code 13 = .ok (.istore 4, 2) := by decide +kernel
theorem d_row_addBytes_15 : decode prog_6_method_13_code 15 = .ok (.iload 4, 2) := by decide +kernel
theorem d_row_addBytes_17 : decode prog_6_method_13_code 17 = .ok (.iload_n 3, 1) := by decide +kernel
theorem d_row_addBytes_18 : decode prog_6_method_13_code 18 = .ok (.invokestatic 48, 3) := by decide +kernel
theorem d_row_addBytes_21 : decode prog_6_method_13_code 21 = .ok (.if_icmp .ge 14, 3) := by decide +kernel
theorem d_row_addBytes_24 : decode prog_6_method_13_code 24 = .ok (.aload_n 0, 1) := by decide +kernel
theorem d_row_addBytes_25 : decode prog_6_method_13_code 25 = .ok (.iconst 0, 1) := by decide +kernel
theorem d_row_addBytes_26 : decode prog_6_method_13_code 26 = .ok (.invokevirtual 52, 3) := by decide +kernel
theorem d_row_addBytes_29 : decode prog_6_method_13_code 29 = .ok (.iinc 4 1, 3) := by decide +kernel
theorem d_row_addBytes_32 : decode prog_6_method_13_code 32 = .ok (.goto (-17), 3) := by decide +kernel
theorem d_row_addBytes_35 : decode prog_6_method_13_code 35 = .ok (.return_, 1) := by decide +kernel
theorem d_row_isPart_0 : decode prog_6_method_14_code 0 = .ok (.iload_n 3, 1) := by decide +kernel
theorem d_row_isPart_1 : decode prog_6_method_14_code 1 = .ok (.aload_n 0, 1) := by decide +kernel
theorem d_row_isPart_2 : decode prog_6_method_14_code 2 = .ok (.getfield 15, 3) := by decide +kernel
theorem d_row_isPart_5 : decode prog_6_method_14_code 5 = .ok (.if_icmp .eq 5, 3) := by decide +kernel
theorem d_row_isPart_8 : decode prog_6_method_14_code 8 = .ok (.iconst 0, 1) := by decide +kernel
theorem d_row_isPart_9 : decode prog_6_method_14_code 9 = .ok (.ireturn, 1) := by decide +kernel
theorem d_row_isPart_10 : decode prog_6_method_14_code 10 = .ok (.iconst 0, 1) := by decide +kernel
theorem d_row_isPart_11 : decode prog_6_method_14_code 11 = .ok (.istore 4, 2) := by decide +kernel
theorem d_row_isPart_13 : decode prog_6_method_14_code 13 = .ok (.iload 4, 2) := by decide +kernel
theorem d_row_isPart_15 : decode prog_6_method_14_code 15 = .ok (.iload_n 3, 1) := by decide +kernel
theorem d_row_isPart_16 : decode prog_6_method_14_code 16 = .ok (.if_icmp .ge 28, 3) := by decide +kernel
theorem d_row_isPart_19 : decode prog_6_method_14_code 19 = .ok (.aload_n 0, 1) := by decide +kernel
theorem d_row_isPart_20 : decode prog_6_method_14_code 20 = .ok (.iload 4, 2) := by decide +kernel
theorem d_row_isPart_22 : decode prog_6_method_14_code 22 = .ok (.invokevirtual 55, 3) := by decide +kernel
theorem d_row_isPart_25 : decode prog_6_method_14_code 25 = .ok (.aload_n 1, 1) := by decide +kernel
theorem d_row_isPart_26 : decode prog_6_method_14_code 26 = .ok (.iload_n 2, 1) := by decide +kernel
theorem d_row_isPart_27 : decode prog_6_method_14_code 27 = .ok (.iload 4, 2) := by decide +kernel
theorem d_row_isPart_29 : decode prog_6_method_14_code 29 = .ok (.iadd, 1) := by decide +kernel
theorem d_row_isPart_30 : decode prog_6_method_14_code 30 = .ok (.invokevirtual 55, 3) := by decide +kernel
theorem d_row_isPart_33 : decode prog_6_method_14_code 33 = .ok (.if_icmp .eq 5, 3) := by decide +kernel
theorem d_row_isPart_36 : decode prog_6_method_14_code 36 = .ok (.iconst 0, 1) := by decide +kernel
theorem d_row_isPart_37 : decode prog_6_method_14_code 37 = .ok (.ireturn, 1) := by decide +kernel
theorem d_row_isPart_38 : decode prog_6_method_14_code 38 = .ok (.iinc 4 1, 3) := by decide +kernel
theorem d_row_isPart_41 : decode prog_6_method_14_code 41 = .ok (.goto (-28), 3) := by decide +kernel
theorem d_row_isPart_44 : decode prog_6_method_14_code 44 = .ok (.iconst 1, 1) := by decide +kernel
theorem d_row_isPart_45 : decode prog_6_method_14_code 45 = .ok (.ireturn, 1) := by decide +kernel
def f_row_init (w : rc_M) (a0 : Nat) : Option (rc_M) :=
  (rc_newA w 2 0).bind fun p1 =>
  (rc_pR p1.2 (some a0) 1 0 (some p1.1)).bind fun w3 =>
  (rc_pI w3 (some a0) 1 1 0).bind fun w5 =>
  some w5

def f_row_size (w : rc_M) (a0 : Nat) : Option (Int32 × rc_M) :=
  (rc_gI w (some a0) 1 1).bind fun v1 =>
  some (v1, w)

def f_row_clear (w : rc_M) (a0 : Nat) : Option (rc_M) :=
  (rc_pI w (some a0) 1 1 0).bind fun w1 =>
  some w1

def b_row_cutTo_17 (w : rc_M) : Option (rc_M) :=
  some w

def f_row_cutTo (w : rc_M) (a0 : Nat) (x1 : Int32) : Option (rc_M) :=
  if x1 < 0 then
    b_row_cutTo_17 w 
  else
    (rc_gI w (some a0) 1 1).bind fun v2 =>
    if v2 ≤ x1 then
      b_row_cutTo_17 w 
    else
      (rc_pI w (some a0) 1 1 x1).bind fun w5 =>
      b_row_cutTo_17 w5 

def b_row_at_26 (w : rc_M) (s0 : Int32) : Option (Int32 × rc_M) :=
  some (s0, w)

def b_row_at_25 (w : rc_M) : Option (Int32 × rc_M) :=
  b_row_at_26 w 0

def f_row_at (w : rc_M) (a0 : Nat) (x1 : Int32) : Option (Int32 × rc_M) :=
  if x1 < 0 then
    b_row_at_25 w 
  else
    (rc_gI w (some a0) 1 1).bind fun v2 =>
    if v2 ≤ x1 then
      b_row_at_25 w 
    else
      (rc_gR w (some a0) 1 0).bind fun v5 =>
      (rc_aI w v5 2 x1).bind fun v7 =>
      b_row_at_26 w (v7 &&& 255)

def b_row_wordAt_14 (w : rc_M) : Option (Int32 × rc_M) :=
  some (0, w)

def f_row_wordAt (w : rc_M) (a0 : Nat) (x1 : Int32) : Option (Int32 × rc_M) :=
  if x1 < 0 then
    b_row_wordAt_14 w 
  else
    (rc_gI w (some a0) 1 1).bind fun v2 =>
    if x1 ≤ (v2 - 4) then
      (rc_gR w (some a0) 1 0).bind fun v5 =>
      (rc_aI w v5 2 x1).bind fun v7 =>
      (rc_gR w (some a0) 1 0).bind fun v9 =>
      (rc_aI w v9 2 (x1 + 1)).bind fun v11 =>
      (rc_gR w (some a0) 1 0).bind fun v13 =>
      (rc_aI w v13 2 (x1 + 2)).bind fun v15 =>
      (rc_gR w (some a0) 1 0).bind fun v17 =>
      (rc_aI w v17 2 (x1 + 3)).bind fun v19 =>
      some (((((v7 &&& 255) <<< (24 &&& 31)) ||| ((v11 &&& 255) <<< (16 &&& 31))) ||| ((v15 &&& 255) <<< (8 &&& 31))) ||| (v19 &&& 255), w)
    else
      b_row_wordAt_14 w 

def b_mat_max_10 (w : rc_M) (s0 : Int32) : Option (Int32 × rc_M) :=
  some (s0, w)

def f_mat_max (w : rc_M) (x0 : Int32) (x1 : Int32) : Option (Int32 × rc_M) :=
  if x0 < x1 then
    b_mat_max_10 w x1
  else
    b_mat_max_10 w x0

def b_mat_min_10 (w : rc_M) (s0 : Int32) : Option (Int32 × rc_M) :=
  some (s0, w)

def f_mat_min (w : rc_M) (x0 : Int32) (x1 : Int32) : Option (Int32 × rc_M) :=
  if x1 < x0 then
    b_mat_min_10 w x1
  else
    b_mat_min_10 w x0

def f_arr_copyOf (w : rc_M) (r0 : Option Nat) (x1 : Int32) : Option (Option Nat × rc_M) :=
  (rc_ln w r0 2).bind fun v1 =>
  if x1 = v1 then
    none
  else
    (rc_newA w 2 x1).bind fun p4 =>
    (rc_ln p4.2 r0 2).bind fun v6 =>
    (f_mat_min p4.2 v6 x1).bind fun p8 =>
    (rc_cp p8.2 r0 0 (some p4.1) 0 p8.1).bind fun w10 =>
    some (some p4.1, w10)

def b_row_makeRoom_45 (w : rc_M) : Option (rc_M) :=
  some w

def f_row_makeRoom (w : rc_M) (a0 : Nat) (x1 : Int32) : Option (rc_M) :=
  (rc_gI w (some a0) 1 1).bind fun v1 =>
  (rc_gR w (some a0) 1 0).bind fun v3 =>
  (rc_ln w v3 2).bind fun v5 =>
  if (v1 + x1) ≤ v5 then
    b_row_makeRoom_45 w 
  else
    (rc_gR w (some a0) 1 0).bind fun v8 =>
    (rc_ln w v8 2).bind fun v10 =>
    (f_mat_max w 16 (2 * v10)).bind fun p12 =>
    (rc_gR p12.2 (some a0) 1 0).bind fun v14 =>
    (f_mat_max p12.2 (v1 + x1) p12.1).bind fun p16 =>
    (f_arr_copyOf p16.2 v14 p16.1).bind fun p18 =>
    (rc_pR p18.2 (some a0) 1 0 p18.1).bind fun w20 =>
    b_row_makeRoom_45 w20 

def f_row_add (w : rc_M) (a0 : Nat) (x1 : Int32) : Option (rc_M) :=
  (rc_rc w (some a0) 1).bind fun a1 =>
  (f_row_makeRoom w a1 1).bind fun w3 =>
  (rc_gR w3 (some a0) 1 0).bind fun v5 =>
  (rc_gI w3 (some a0) 1 1).bind fun v7 =>
  (rc_sI w3 v5 2 v7 x1.toInt8.toInt32).bind fun w9 =>
  (rc_gI w9 (some a0) 1 1).bind fun v11 =>
  (rc_pI w9 (some a0) 1 1 (v11 + 1)).bind fun w13 =>
  some w13

def f_row_addWord (w : rc_M) (a0 : Nat) (x1 : Int32) : Option (rc_M) :=
  (rc_rc w (some a0) 1).bind fun a1 =>
  (f_row_makeRoom w a1 4).bind fun w3 =>
  (rc_gR w3 (some a0) 1 0).bind fun v5 =>
  (rc_gI w3 (some a0) 1 1).bind fun v7 =>
  (rc_sI w3 v5 2 v7 (((x1.toUInt32 >>> ((24 : Int32).toUInt32 &&& Int32.toUInt32 31)).toInt32).toInt8.toInt32)).bind fun w9 =>
  (rc_gR w9 (some a0) 1 0).bind fun v11 =>
  (rc_gI w9 (some a0) 1 1).bind fun v13 =>
  (rc_sI w9 v11 2 (v13 + 1) (((x1.toUInt32 >>> ((16 : Int32).toUInt32 &&& Int32.toUInt32 31)).toInt32).toInt8.toInt32)).bind fun w15 =>
  (rc_gR w15 (some a0) 1 0).bind fun v17 =>
  (rc_gI w15 (some a0) 1 1).bind fun v19 =>
  (rc_sI w15 v17 2 (v19 + 2) (((x1.toUInt32 >>> ((8 : Int32).toUInt32 &&& Int32.toUInt32 31)).toInt32).toInt8.toInt32)).bind fun w21 =>
  (rc_gR w21 (some a0) 1 0).bind fun v23 =>
  (rc_gI w21 (some a0) 1 1).bind fun v25 =>
  (rc_sI w21 v23 2 (v25 + 3) x1.toInt8.toInt32).bind fun w27 =>
  (rc_gI w27 (some a0) 1 1).bind fun v29 =>
  (rc_pI w27 (some a0) 1 1 (v29 + 4)).bind fun w31 =>
  some w31

def f_row_addLong (w : rc_M) (a0 : Nat) (x1 : Int64) : Option (rc_M) :=
  (rc_rc w (some a0) 1).bind fun a1 =>
  (f_row_addWord w a1 (((x1.toUInt64 >>> ((32 : Int32).toInt64.toUInt64 &&& Int64.toUInt64 63)).toInt64).toInt32)).bind fun w3 =>
  (rc_rc w3 (some a0) 1).bind fun a5 =>
  (f_row_addWord w3 a5 x1.toInt32).bind fun w7 =>
  some w7

def b_row_addTruth_10 (w : rc_M) (s0 : Option Nat) (s1 : Int32) : Option (rc_M) :=
  (rc_rc w s0 1).bind fun a1 =>
  (f_row_addWord w a1 s1).bind fun w3 =>
  some w3

def f_row_addTruth (w : rc_M) (a0 : Nat) (x1 : Int32) : Option (rc_M) :=
  if x1 = 0 then
    b_row_addTruth_10 w (some a0) 0
  else
    b_row_addTruth_10 w (some a0) 1

def b_row_addPart_18 (w : rc_M) : Option (rc_M) :=
  some w

def f_row_addPart (w : rc_M) (a0 : Nat) (r1 : Option Nat) (x2 : Int32) (x3 : Int32) : Option (rc_M) :=
  if x2 < 0 then
    b_row_addPart_18 w 
  else
    if x3 < 0 then
      b_row_addPart_18 w 
    else
      (rc_gI w r1 1 1).bind fun v3 =>
      if x3 ≤ (v3 - x2) then
        (rc_rc w (some a0) 1).bind fun a6 =>
        (f_row_makeRoom w a6 x3).bind fun w8 =>
        (rc_gR w8 r1 1 0).bind fun v10 =>
        (rc_gR w8 (some a0) 1 0).bind fun v12 =>
        (rc_gI w8 (some a0) 1 1).bind fun v14 =>
        (rc_cp w8 v10 x2 v12 v14 x3).bind fun w16 =>
        (rc_gI w16 (some a0) 1 1).bind fun v18 =>
        (rc_pI w16 (some a0) 1 1 (v18 + x3)).bind fun w20 =>
        some w20
      else
        b_row_addPart_18 w 

def f_rec_filled (w : rc_M) (x0 : Int32) : Option (Int32 × rc_M) :=
  some (((x0 + 4) - 1) &&& ((-4)), w)

def b_row_addBytes_15 : Nat → rc_M → Nat → Int32 → Int32 → Option (rc_M)
  | 0, _, _, _, _ => none
  | fuel + 1, w, a0, x3, x4 =>
    (f_rec_filled w x3).bind fun p1 =>
    if p1.1 ≤ x4 then
      some p1.2
    else
      (rc_rc p1.2 (some a0) 1).bind fun a4 =>
      (f_row_add p1.2 a4 0).bind fun w6 =>
      b_row_addBytes_15 fuel w6 a0 x3 (x4 + 1)

def f_row_addBytes (w : rc_M) (a0 : Nat) (r1 : Option Nat) (x2 : Int32) (x3 : Int32) : Option (rc_M) :=
  (rc_rc w (some a0) 1).bind fun a1 =>
  (f_row_addWord w a1 x3).bind fun w3 =>
  (rc_rc w3 (some a0) 1).bind fun a5 =>
  (f_row_addPart w3 a5 r1 x2 x3).bind fun w7 =>
  b_row_addBytes_15 5000 w7 a0 x3 x3

def b_row_isPart_13 : Nat → rc_M → Nat → Option Nat → Int32 → Int32 → Int32 → Option (Int32 × rc_M)
  | 0, _, _, _, _, _, _ => none
  | fuel + 1, w, a0, r1, x2, x3, x4 =>
    if x3 ≤ x4 then
      rc_z1 1 w
    else
      (rc_rc w (some a0) 1).bind fun a2 =>
      (f_row_at w a2 x4).bind fun p4 =>
      (rc_rc p4.2 r1 1).bind fun a6 =>
      (f_row_at p4.2 a6 (x2 + x4)).bind fun p8 =>
      if p4.1 = p8.1 then
        b_row_isPart_13 fuel p8.2 a0 r1 x2 x3 (x4 + 1)
      else
        rc_z1 0 p8.2

def f_row_isPart (w : rc_M) (a0 : Nat) (r1 : Option Nat) (x2 : Int32) (x3 : Int32) : Option (Int32 × rc_M) :=
  (rc_gI w (some a0) 1 1).bind fun v1 =>
  if x3 = v1 then
    b_row_isPart_13 5000 w a0 r1 x2 x3 0
  else
    rc_z1 0 w

set_option maxRecDepth 100000 in
set_option maxHeartbeats 4000000 in
theorem ct_row_init {l : Launch} {G : rc_G} {w : rc_M} {a0 : Nat} {res : rc_M} (h : f_row_init w a0 = some res) : rc_Ct l G y_row_init prog_6_method_1_code 1 none 1 20 [va_rf (some a0)] w none res := by
  refine rc_enter (by decide +kernel) (by simp [lg_sl, va_rf_cat, rc_cat_i, rc_cat_l]) ?_
  intro X _ _ hN hF hL C E
  have hlv : lv_args 0 [va_rf (some a0)] = [(0, va_rf (some a0))] := by simp [lv_args, va_rf_cat, rc_cat_i, rc_cat_l]
  rw [hlv]
  clear hlv
  unfold f_row_init at h
  refine j_aload_n C d_row_init_0 rfl 0 rfl ?_
  refine j_oinit C rfl T_31 T_24 T_25 (rc_le hF (by decide)) (rc_le hL (by simp [va_rf_cat, rc_cat_i, rc_cat_l])) d_row_init_1 rfl ?_
  refine j_aload_n C d_row_init_4 rfl 0 rfl ?_
  refine j_iconst (v := 0) C d_row_init_5 rfl (by decide) ?_
  obtain ⟨p1, h2, h⟩ := Option.bind_eq_some_iff.mp h
  refine j_newA C (kd := 2) (ty := .byte) rfl rfl (fun _ _ h => h) (fun _ _ => rfl) (by decide) T_39 h2 d_row_init_6 rfl ?_
  obtain ⟨w3, h4, h⟩ := Option.bind_eq_some_iff.mp h
  refine j_putV C (ci := 1) (k := 0) (by decide) (by decide) T_32 (Or.inl rfl) rfl (by first | rfl | exact rc_fo _ _ | exact rc_fa _ _) h4 d_row_init_8 rfl ?_
  refine j_aload_n C d_row_init_11 rfl 0 rfl ?_
  refine j_iconst (v := 0) C d_row_init_12 rfl (by decide) ?_
  obtain ⟨w5, h6, h⟩ := Option.bind_eq_some_iff.mp h
  refine j_putV C (ci := 1) (k := 1) (by decide) (by decide) T_33 (Or.inl rfl) rfl rfl h6 d_row_init_13 rfl ?_
  cases h
  exact j_vret C E d_row_init_16

set_option maxRecDepth 100000 in
set_option maxHeartbeats 4000000 in
theorem ct_row_size {l : Launch} {G : rc_G} {w : rc_M} {a0 : Nat} {res : Int32 × rc_M} (h : f_row_size w a0 = some res) : rc_Ct l G y_row_size prog_6_method_2_code 1 (some .int) 0 0 [va_rf (some a0)] w (some (.int res.1)) res.2 := by
  refine rc_enter (by decide +kernel) (by simp [lg_sl, va_rf_cat, rc_cat_i, rc_cat_l]) ?_
  intro X _ _ hN hF hL C E
  have hlv : lv_args 0 [va_rf (some a0)] = [(0, va_rf (some a0))] := by simp [lv_args, va_rf_cat, rc_cat_i, rc_cat_l]
  rw [hlv]
  clear hlv
  unfold f_row_size at h
  refine j_aload_n C d_row_size_0 rfl 0 rfl ?_
  obtain ⟨v1, h2, h⟩ := Option.bind_eq_some_iff.mp h
  refine j_getI C fl_row_15 h2 d_row_size_1 rfl ?_
  cases h
  exact j_iret C E d_row_size_4

set_option maxRecDepth 100000 in
set_option maxHeartbeats 4000000 in
theorem ct_row_clear {l : Launch} {G : rc_G} {w : rc_M} {a0 : Nat} {res : rc_M} (h : f_row_clear w a0 = some res) : rc_Ct l G y_row_clear prog_6_method_3_code 1 none 0 0 [va_rf (some a0)] w none res := by
  refine rc_enter (by decide +kernel) (by simp [lg_sl, va_rf_cat, rc_cat_i, rc_cat_l]) ?_
  intro X _ _ hN hF hL C E
  have hlv : lv_args 0 [va_rf (some a0)] = [(0, va_rf (some a0))] := by simp [lv_args, va_rf_cat, rc_cat_i, rc_cat_l]
  rw [hlv]
  clear hlv
  unfold f_row_clear at h
  refine j_aload_n C d_row_clear_0 rfl 0 rfl ?_
  refine j_iconst (v := 0) C d_row_clear_1 rfl (by decide) ?_
  obtain ⟨w1, h2, h⟩ := Option.bind_eq_some_iff.mp h
  refine j_putV C (ci := 1) (k := 1) (by decide) (by decide) T_33 (Or.inl rfl) rfl rfl h2 d_row_clear_2 rfl ?_
  cases h
  exact j_vret C E d_row_clear_5

set_option maxRecDepth 100000 in
set_option maxHeartbeats 4000000 in
theorem k_row_cutTo_17 {X : rc_X} {w0 : rc_M} (hF : (q_R X).frames = 0) (hL : (q_R X).locals = 0) (hN : q_n X = 2) (C : rc_C X "RecordCalls$Row" prog_6_method_4_code w0) {res : rc_M} (E : rc_E0 X y_row_cutTo none none res) {w : rc_M}  (h : b_row_cutTo_17 w  = some res) : rc_J X w 17 [] [] := by
  unfold b_row_cutTo_17 at h
  cases h
  exact j_vret C E d_row_cutTo_17

set_option maxRecDepth 100000 in
set_option maxHeartbeats 4000000 in
theorem ct_row_cutTo {l : Launch} {G : rc_G} {w : rc_M} {a0 : Nat} {x1 : Int32} {res : rc_M} (h : f_row_cutTo w a0 x1 = some res) : rc_Ct l G y_row_cutTo prog_6_method_4_code 2 none 0 0 [va_rf (some a0), .int x1] w none res := by
  refine rc_enter (by decide +kernel) (by simp [lg_sl, va_rf_cat, rc_cat_i, rc_cat_l]) ?_
  intro X _ _ hN hF hL C E
  have hlv : lv_args 0 [va_rf (some a0), .int x1] = [(0, va_rf (some a0)), (1, .int x1)] := by simp [lv_args, va_rf_cat, rc_cat_i, rc_cat_l]
  rw [hlv]
  clear hlv
  unfold f_row_cutTo at h
  refine j_iload_n C d_row_cutTo_0 rfl 1 rfl ?_
  refine j_if_lt (tgt := 17) C d_row_cutTo_1 (by decide) rfl (fun c1 => ?_) (fun c1 => ?_)
  · rw [if_pos c1] at h
    refine rc_J.sub (lv' := []) [] rfl ?_
    exact k_row_cutTo_17 hF hL hN C E h
  · rw [if_neg c1] at h
    refine j_iload_n C d_row_cutTo_4 rfl 1 rfl ?_
    refine j_aload_n C d_row_cutTo_5 rfl 0 rfl ?_
    obtain ⟨v2, h3, h⟩ := Option.bind_eq_some_iff.mp h
    refine j_getI C fl_row_15 h3 d_row_cutTo_6 rfl ?_
    refine j_icmp_ge (tgt := 17) C d_row_cutTo_9 (by decide) rfl (fun c4 => ?_) (fun c4 => ?_)
    · rw [if_pos c4] at h
      refine rc_J.sub (lv' := []) [] rfl ?_
      exact k_row_cutTo_17 hF hL hN C E h
    · rw [if_neg c4] at h
      refine j_aload_n C d_row_cutTo_12 rfl 0 rfl ?_
      refine j_iload_n C d_row_cutTo_13 rfl 1 rfl ?_
      obtain ⟨w5, h6, h⟩ := Option.bind_eq_some_iff.mp h
      refine j_putV C (ci := 1) (k := 1) (by decide) (by decide) T_33 (Or.inl rfl) rfl rfl h6 d_row_cutTo_14 rfl ?_
      refine rc_J.sub (lv' := []) [] rfl ?_
      exact k_row_cutTo_17 hF hL hN C E h

set_option maxRecDepth 100000 in
set_option maxHeartbeats 4000000 in
theorem k_row_at_26 {X : rc_X} {w0 : rc_M} (hF : (q_R X).frames = 0) (hL : (q_R X).locals = 0) (hN : q_n X = 2) (C : rc_C X "RecordCalls$Row" prog_6_method_5_code w0) {res : Int32 × rc_M} (E : rc_E0 X y_row_at (some .int) (some (.int res.1)) res.2) {w : rc_M} {s0 : Int32} (h : b_row_at_26 w s0 = some res) : rc_J X w 26 [.int s0] [] := by
  unfold b_row_at_26 at h
  cases h
  exact j_iret C E d_row_at_26

set_option maxRecDepth 100000 in
set_option maxHeartbeats 4000000 in
theorem k_row_at_25 {X : rc_X} {w0 : rc_M} (hF : (q_R X).frames = 0) (hL : (q_R X).locals = 0) (hN : q_n X = 2) (C : rc_C X "RecordCalls$Row" prog_6_method_5_code w0) {res : Int32 × rc_M} (E : rc_E0 X y_row_at (some .int) (some (.int res.1)) res.2) {w : rc_M}  (h : b_row_at_25 w  = some res) : rc_J X w 25 [] [] := by
  unfold b_row_at_25 at h
  refine j_iconst (v := 0) C d_row_at_25 rfl (by decide) ?_
  exact k_row_at_26 hF hL hN C E h

set_option maxRecDepth 100000 in
set_option maxHeartbeats 4000000 in
theorem ct_row_at {l : Launch} {G : rc_G} {w : rc_M} {a0 : Nat} {x1 : Int32} {res : Int32 × rc_M} (h : f_row_at w a0 x1 = some res) : rc_Ct l G y_row_at prog_6_method_5_code 2 (some .int) 0 0 [va_rf (some a0), .int x1] w (some (.int res.1)) res.2 := by
  refine rc_enter (by decide +kernel) (by simp [lg_sl, va_rf_cat, rc_cat_i, rc_cat_l]) ?_
  intro X _ _ hN hF hL C E
  have hlv : lv_args 0 [va_rf (some a0), .int x1] = [(0, va_rf (some a0)), (1, .int x1)] := by simp [lv_args, va_rf_cat, rc_cat_i, rc_cat_l]
  rw [hlv]
  clear hlv
  unfold f_row_at at h
  refine j_iload_n C d_row_at_0 rfl 1 rfl ?_
  refine j_if_lt (tgt := 25) C d_row_at_1 (by decide) rfl (fun c1 => ?_) (fun c1 => ?_)
  · rw [if_pos c1] at h
    refine rc_J.sub (lv' := []) [] rfl ?_
    exact k_row_at_25 hF hL hN C E h
  · rw [if_neg c1] at h
    refine j_iload_n C d_row_at_4 rfl 1 rfl ?_
    refine j_aload_n C d_row_at_5 rfl 0 rfl ?_
    obtain ⟨v2, h3, h⟩ := Option.bind_eq_some_iff.mp h
    refine j_getI C fl_row_15 h3 d_row_at_6 rfl ?_
    refine j_icmp_ge (tgt := 25) C d_row_at_9 (by decide) rfl (fun c4 => ?_) (fun c4 => ?_)
    · rw [if_pos c4] at h
      refine rc_J.sub (lv' := []) [] rfl ?_
      exact k_row_at_25 hF hL hN C E h
    · rw [if_neg c4] at h
      refine j_aload_n C d_row_at_12 rfl 0 rfl ?_
      obtain ⟨v5, h6, h⟩ := Option.bind_eq_some_iff.mp h
      refine j_getR C fl_row_9 h6 d_row_at_13 rfl ?_
      refine j_iload_n C d_row_at_16 rfl 1 rfl ?_
      obtain ⟨v7, h8, h⟩ := Option.bind_eq_some_iff.mp h
      refine j_bald C h8 d_row_at_17 rfl ?_
      refine j_sipush (v := 255) C d_row_at_18 rfl (by decide) ?_
      refine j_iand C d_row_at_21 rfl ?_
      refine j_goto (tgt := 26) C d_row_at_22 (by decide) ?_
      refine rc_J.sub (lv' := []) [] rfl ?_
      exact k_row_at_26 hF hL hN C E h

set_option maxRecDepth 100000 in
set_option maxHeartbeats 4000000 in
theorem k_row_wordAt_14 {X : rc_X} {w0 : rc_M} (hF : (q_R X).frames = 0) (hL : (q_R X).locals = 0) (hN : q_n X = 2) (C : rc_C X "RecordCalls$Row" prog_6_method_6_code w0) {res : Int32 × rc_M} (E : rc_E0 X y_row_wordAt (some .int) (some (.int res.1)) res.2) {w : rc_M}  (h : b_row_wordAt_14 w  = some res) : rc_J X w 14 [] [] := by
  unfold b_row_wordAt_14 at h
  refine j_iconst (v := 0) C d_row_wordAt_14 rfl (by decide) ?_
  cases h
  exact j_iret C E d_row_wordAt_15

set_option maxRecDepth 100000 in
set_option maxHeartbeats 4000000 in
theorem ct_row_wordAt {l : Launch} {G : rc_G} {w : rc_M} {a0 : Nat} {x1 : Int32} {res : Int32 × rc_M} (h : f_row_wordAt w a0 x1 = some res) : rc_Ct l G y_row_wordAt prog_6_method_6_code 2 (some .int) 0 0 [va_rf (some a0), .int x1] w (some (.int res.1)) res.2 := by
  refine rc_enter (by decide +kernel) (by simp [lg_sl, va_rf_cat, rc_cat_i, rc_cat_l]) ?_
  intro X _ _ hN hF hL C E
  have hlv : lv_args 0 [va_rf (some a0), .int x1] = [(0, va_rf (some a0)), (1, .int x1)] := by simp [lv_args, va_rf_cat, rc_cat_i, rc_cat_l]
  rw [hlv]
  clear hlv
  unfold f_row_wordAt at h
  refine j_iload_n C d_row_wordAt_0 rfl 1 rfl ?_
  refine j_if_lt (tgt := 14) C d_row_wordAt_1 (by decide) rfl (fun c1 => ?_) (fun c1 => ?_)
  · rw [if_pos c1] at h
    refine rc_J.sub (lv' := []) [] rfl ?_
    exact k_row_wordAt_14 hF hL hN C E h
  · rw [if_neg c1] at h
    refine j_iload_n C d_row_wordAt_4 rfl 1 rfl ?_
    refine j_aload_n C d_row_wordAt_5 rfl 0 rfl ?_
    obtain ⟨v2, h3, h⟩ := Option.bind_eq_some_iff.mp h
    refine j_getI C fl_row_15 h3 d_row_wordAt_6 rfl ?_
    refine j_iconst (v := 4) C d_row_wordAt_9 rfl (by decide) ?_
    refine j_isub C d_row_wordAt_10 rfl ?_
    refine j_icmp_le (tgt := 16) C d_row_wordAt_11 (by decide) rfl (fun c4 => ?_) (fun c4 => ?_)
    · rw [if_pos c4] at h
      refine j_aload_n C d_row_wordAt_16 rfl 0 rfl ?_
      obtain ⟨v5, h6, h⟩ := Option.bind_eq_some_iff.mp h
      refine j_getR C fl_row_9 h6 d_row_wordAt_17 rfl ?_
      refine j_iload_n C d_row_wordAt_20 rfl 1 rfl ?_
      obtain ⟨v7, h8, h⟩ := Option.bind_eq_some_iff.mp h
      refine j_bald C h8 d_row_wordAt_21 rfl ?_
      refine j_sipush (v := 255) C d_row_wordAt_22 rfl (by decide) ?_
      refine j_iand C d_row_wordAt_25 rfl ?_
      refine j_bipush (v := 24) C d_row_wordAt_26 rfl (by decide) ?_
      refine j_ishl C d_row_wordAt_28 rfl ?_
      refine j_aload_n C d_row_wordAt_29 rfl 0 rfl ?_
      obtain ⟨v9, h10, h⟩ := Option.bind_eq_some_iff.mp h
      refine j_getR C fl_row_9 h10 d_row_wordAt_30 rfl ?_
      refine j_iload_n C d_row_wordAt_33 rfl 1 rfl ?_
      refine j_iconst (v := 1) C d_row_wordAt_34 rfl (by decide) ?_
      refine j_iadd C d_row_wordAt_35 rfl ?_
      obtain ⟨v11, h12, h⟩ := Option.bind_eq_some_iff.mp h
      refine j_bald C h12 d_row_wordAt_36 rfl ?_
      refine j_sipush (v := 255) C d_row_wordAt_37 rfl (by decide) ?_
      refine j_iand C d_row_wordAt_40 rfl ?_
      refine j_bipush (v := 16) C d_row_wordAt_41 rfl (by decide) ?_
      refine j_ishl C d_row_wordAt_43 rfl ?_
      refine j_ior C d_row_wordAt_44 rfl ?_
      refine j_aload_n C d_row_wordAt_45 rfl 0 rfl ?_
      obtain ⟨v13, h14, h⟩ := Option.bind_eq_some_iff.mp h
      refine j_getR C fl_row_9 h14 d_row_wordAt_46 rfl ?_
      refine j_iload_n C d_row_wordAt_49 rfl 1 rfl ?_
      refine j_iconst (v := 2) C d_row_wordAt_50 rfl (by decide) ?_
      refine j_iadd C d_row_wordAt_51 rfl ?_
      obtain ⟨v15, h16, h⟩ := Option.bind_eq_some_iff.mp h
      refine j_bald C h16 d_row_wordAt_52 rfl ?_
      refine j_sipush (v := 255) C d_row_wordAt_53 rfl (by decide) ?_
      refine j_iand C d_row_wordAt_56 rfl ?_
      refine j_bipush (v := 8) C d_row_wordAt_57 rfl (by decide) ?_
      refine j_ishl C d_row_wordAt_59 rfl ?_
      refine j_ior C d_row_wordAt_60 rfl ?_
      refine j_aload_n C d_row_wordAt_61 rfl 0 rfl ?_
      obtain ⟨v17, h18, h⟩ := Option.bind_eq_some_iff.mp h
      refine j_getR C fl_row_9 h18 d_row_wordAt_62 rfl ?_
      refine j_iload_n C d_row_wordAt_65 rfl 1 rfl ?_
      refine j_iconst (v := 3) C d_row_wordAt_66 rfl (by decide) ?_
      refine j_iadd C d_row_wordAt_67 rfl ?_
      obtain ⟨v19, h20, h⟩ := Option.bind_eq_some_iff.mp h
      refine j_bald C h20 d_row_wordAt_68 rfl ?_
      refine j_sipush (v := 255) C d_row_wordAt_69 rfl (by decide) ?_
      refine j_iand C d_row_wordAt_72 rfl ?_
      refine j_ior C d_row_wordAt_73 rfl ?_
      cases h
      exact j_iret C E d_row_wordAt_74
    · rw [if_neg c4] at h
      refine rc_J.sub (lv' := []) [] rfl ?_
      exact k_row_wordAt_14 hF hL hN C E h

set_option maxRecDepth 100000 in
set_option maxHeartbeats 4000000 in
theorem k_mat_max_10 {X : rc_X} {w0 : rc_M} (hF : (q_R X).frames = 0) (hL : (q_R X).locals = 0) (hN : q_n X = 2) (C : rc_C X "java/lang/Math" prog_14_method_65_code w0) {res : Int32 × rc_M} (E : rc_E0 X y_mat_max (some .int) (some (.int res.1)) res.2) {w : rc_M} {s0 : Int32} (h : b_mat_max_10 w s0 = some res) : rc_J X w 10 [.int s0] [] := by
  unfold b_mat_max_10 at h
  cases h
  exact j_iret C E d_mat_max_10

set_option maxRecDepth 100000 in
set_option maxHeartbeats 4000000 in
theorem ct_mat_max {l : Launch} {G : rc_G} {w : rc_M} {x0 : Int32} {x1 : Int32} {res : Int32 × rc_M} (h : f_mat_max w x0 x1 = some res) : rc_Ct l G y_mat_max prog_14_method_65_code 2 (some .int) 0 0 [.int x0, .int x1] w (some (.int res.1)) res.2 := by
  refine rc_enter (by decide +kernel) (by simp [lg_sl, va_rf_cat, rc_cat_i, rc_cat_l]) ?_
  intro X _ _ hN hF hL C E
  have hlv : lv_args 0 [.int x0, .int x1] = [(0, .int x0), (1, .int x1)] := by simp [lv_args, va_rf_cat, rc_cat_i, rc_cat_l]
  rw [hlv]
  clear hlv
  unfold f_mat_max at h
  refine j_iload_n C d_mat_max_0 rfl 0 rfl ?_
  refine j_iload_n C d_mat_max_1 rfl 1 rfl ?_
  refine j_icmp_lt (tgt := 9) C d_mat_max_2 (by decide) rfl (fun c1 => ?_) (fun c1 => ?_)
  · rw [if_pos c1] at h
    refine j_iload_n C d_mat_max_9 rfl 1 rfl ?_
    refine rc_J.sub (lv' := []) [] rfl ?_
    exact k_mat_max_10 hF hL hN C E h
  · rw [if_neg c1] at h
    refine j_iload_n C d_mat_max_5 rfl 0 rfl ?_
    refine j_goto (tgt := 10) C d_mat_max_6 (by decide) ?_
    refine rc_J.sub (lv' := []) [] rfl ?_
    exact k_mat_max_10 hF hL hN C E h

set_option maxRecDepth 100000 in
set_option maxHeartbeats 4000000 in
theorem k_mat_min_10 {X : rc_X} {w0 : rc_M} (hF : (q_R X).frames = 0) (hL : (q_R X).locals = 0) (hN : q_n X = 2) (C : rc_C X "java/lang/Math" prog_14_method_69_code w0) {res : Int32 × rc_M} (E : rc_E0 X y_mat_min (some .int) (some (.int res.1)) res.2) {w : rc_M} {s0 : Int32} (h : b_mat_min_10 w s0 = some res) : rc_J X w 10 [.int s0] [] := by
  unfold b_mat_min_10 at h
  cases h
  exact j_iret C E d_mat_min_10

set_option maxRecDepth 100000 in
set_option maxHeartbeats 4000000 in
theorem ct_mat_min {l : Launch} {G : rc_G} {w : rc_M} {x0 : Int32} {x1 : Int32} {res : Int32 × rc_M} (h : f_mat_min w x0 x1 = some res) : rc_Ct l G y_mat_min prog_14_method_69_code 2 (some .int) 0 0 [.int x0, .int x1] w (some (.int res.1)) res.2 := by
  refine rc_enter (by decide +kernel) (by simp [lg_sl, va_rf_cat, rc_cat_i, rc_cat_l]) ?_
  intro X _ _ hN hF hL C E
  have hlv : lv_args 0 [.int x0, .int x1] = [(0, .int x0), (1, .int x1)] := by simp [lv_args, va_rf_cat, rc_cat_i, rc_cat_l]
  rw [hlv]
  clear hlv
  unfold f_mat_min at h
  refine j_iload_n C d_mat_min_0 rfl 0 rfl ?_
  refine j_iload_n C d_mat_min_1 rfl 1 rfl ?_
  refine j_icmp_gt (tgt := 9) C d_mat_min_2 (by decide) rfl (fun c1 => ?_) (fun c1 => ?_)
  · rw [if_pos c1] at h
    refine j_iload_n C d_mat_min_9 rfl 1 rfl ?_
    refine rc_J.sub (lv' := []) [] rfl ?_
    exact k_mat_min_10 hF hL hN C E h
  · rw [if_neg c1] at h
    refine j_iload_n C d_mat_min_5 rfl 0 rfl ?_
    refine j_goto (tgt := 10) C d_mat_min_6 (by decide) ?_
    refine rc_J.sub (lv' := []) [] rfl ?_
    exact k_mat_min_10 hF hL hN C E h

set_option maxRecDepth 100000 in
set_option maxHeartbeats 4000000 in
theorem ct_arr_copyOf {l : Launch} {G : rc_G} {w : rc_M} {r0 : Option Nat} {x1 : Int32} {res : Option Nat × rc_M} (h : f_arr_copyOf w r0 x1 = some res) : rc_Ct l G y_arr_copyOf prog_19_method_121_code 3 (some (.array (.byte))) 1 26 [va_rf r0, .int x1] w (some (va_rf res.1)) res.2 := by
  refine rc_enter (by decide +kernel) (by simp [lg_sl, va_rf_cat, rc_cat_i, rc_cat_l]) ?_
  intro X _ _ hN hF hL C E
  have hlv : lv_args 0 [va_rf r0, .int x1] = [(0, va_rf r0), (1, .int x1)] := by simp [lv_args, va_rf_cat, rc_cat_i, rc_cat_l]
  rw [hlv]
  clear hlv
  unfold f_arr_copyOf at h
  refine j_iload_n C d_arr_copyOf_0 rfl 1 rfl ?_
  refine j_aload_n C d_arr_copyOf_1 rfl 0 rfl ?_
  obtain ⟨v1, h2, h⟩ := Option.bind_eq_some_iff.mp h
  refine j_alen C (kd := 2) rfl h2 d_arr_copyOf_2 rfl ?_
  refine j_icmp_ne (tgt := 14) C d_arr_copyOf_3 (by decide) rfl (fun c3 => ?_) (fun c3 => ?_)
  · rw [if_neg c3] at h
    refine j_iload_n C d_arr_copyOf_14 rfl 1 rfl ?_
    obtain ⟨p4, h5, h⟩ := Option.bind_eq_some_iff.mp h
    refine j_newA C (kd := 2) (ty := .byte) rfl rfl (fun _ _ h => h) (fun _ _ => rfl) (by decide) T_39 h5 d_arr_copyOf_15 rfl ?_
    refine j_astore_n C (i := 2) d_arr_copyOf_17 rfl rfl [(2, va_rf (some p4.1)), (0, va_rf r0), (1, .int x1)] (rc_lt hN (by decide)) (by first | rfl | simp [va_rf_cat, rc_cat_i, rc_cat_l]) ?_
    refine j_aload_n C d_arr_copyOf_18 rfl 1 rfl ?_
    refine j_iconst (v := 0) C d_arr_copyOf_19 rfl (by decide) ?_
    refine j_aload_n C d_arr_copyOf_20 rfl 0 rfl ?_
    refine j_iconst (v := 0) C d_arr_copyOf_21 rfl (by decide) ?_
    refine j_aload_n C d_arr_copyOf_22 rfl 1 rfl ?_
    obtain ⟨v6, h7, h⟩ := Option.bind_eq_some_iff.mp h
    refine j_alen C (kd := 2) rfl h7 d_arr_copyOf_23 rfl ?_
    refine j_iload_n C d_arr_copyOf_24 rfl 2 rfl ?_
    obtain ⟨p8, h9, h⟩ := Option.bind_eq_some_iff.mp h
    refine j_callS C (As := [.int v6, .int x1]) (st := [.int 0, va_rf (some p4.1), .int 0, va_rf r0]) (sk' := [.int p8.1, .int 0, va_rf (some p4.1), .int 0, va_rf r0]) mk_mat_min (Or.inl T_245) T_246 (rc_le hF (by decide)) (rc_le hL (by decide)) (ct_mat_min h9) rfl rfl (by simp [va_rf_cat, rc_cat_i, rc_cat_l]) d_arr_copyOf_25 rfl rfl ?_
    obtain ⟨w10, h11, h⟩ := Option.bind_eq_some_iff.mp h
    refine j_copy C T_248 T_250 T_249 T_15 (rc_le hF (by decide)) (rc_le hL (by simp [va_rf_cat, rc_cat_i, rc_cat_l, nativeFrameWords])) h11 d_arr_copyOf_28 rfl ?_
    refine j_aload_n C d_arr_copyOf_31 rfl 0 rfl ?_
    cases h
    exact j_aret C (by first | exact Or.inl ⟨_, rfl⟩ | exact Or.inr ⟨_, rfl⟩) E d_arr_copyOf_32
  · rw [if_pos c3] at h
    cases h

set_option maxRecDepth 100000 in
set_option maxHeartbeats 4000000 in
theorem k_row_makeRoom_45 {X : rc_X} {w0 : rc_M} (hF : (q_R X).frames = 2) (hL : (q_R X).locals = 48) (hN : q_n X = 4) (C : rc_C X "RecordCalls$Row" prog_6_method_7_code w0) {res : rc_M} (E : rc_E0 X y_row_makeRoom none none res) {w : rc_M}  (h : b_row_makeRoom_45 w  = some res) : rc_J X w 45 [] [] := by
  unfold b_row_makeRoom_45 at h
  cases h
  exact j_vret C E d_row_makeRoom_45

set_option maxRecDepth 100000 in
set_option maxHeartbeats 4000000 in
theorem ct_row_makeRoom {l : Launch} {G : rc_G} {w : rc_M} {a0 : Nat} {x1 : Int32} {res : rc_M} (h : f_row_makeRoom w a0 x1 = some res) : rc_Ct l G y_row_makeRoom prog_6_method_7_code 4 none 2 48 [va_rf (some a0), .int x1] w none res := by
  refine rc_enter (by decide +kernel) (by simp [lg_sl, va_rf_cat, rc_cat_i, rc_cat_l]) ?_
  intro X _ _ hN hF hL C E
  have hlv : lv_args 0 [va_rf (some a0), .int x1] = [(0, va_rf (some a0)), (1, .int x1)] := by simp [lv_args, va_rf_cat, rc_cat_i, rc_cat_l]
  rw [hlv]
  clear hlv
  unfold f_row_makeRoom at h
  refine j_aload_n C d_row_makeRoom_0 rfl 0 rfl ?_
  obtain ⟨v1, h2, h⟩ := Option.bind_eq_some_iff.mp h
  refine j_getI C fl_row_15 h2 d_row_makeRoom_1 rfl ?_
  refine j_iload_n C d_row_makeRoom_4 rfl 1 rfl ?_
  refine j_iadd C d_row_makeRoom_5 rfl ?_
  refine j_istore_n C (i := 2) d_row_makeRoom_6 rfl rfl [(2, .int (v1 + x1)), (0, va_rf (some a0)), (1, .int x1)] (rc_lt hN (by decide)) (by first | rfl | simp [va_rf_cat, rc_cat_i, rc_cat_l]) ?_
  refine j_iload_n C d_row_makeRoom_7 rfl 0 rfl ?_
  refine j_aload_n C d_row_makeRoom_8 rfl 1 rfl ?_
  obtain ⟨v3, h4, h⟩ := Option.bind_eq_some_iff.mp h
  refine j_getR C fl_row_9 h4 d_row_makeRoom_9 rfl ?_
  obtain ⟨v5, h6, h⟩ := Option.bind_eq_some_iff.mp h
  refine j_alen C (kd := 2) rfl h6 d_row_makeRoom_12 rfl ?_
  refine j_icmp_le (tgt := 45) C d_row_makeRoom_13 (by decide) rfl (fun c7 => ?_) (fun c7 => ?_)
  · rw [if_pos c7] at h
    refine rc_J.sub (lv' := []) [] rfl ?_
    exact k_row_makeRoom_45 hF hL hN C E h
  · rw [if_neg c7] at h
    refine j_bipush (v := 16) C d_row_makeRoom_16 rfl (by decide) ?_
    refine j_iconst (v := 2) C d_row_makeRoom_18 rfl (by decide) ?_
    refine j_aload_n C d_row_makeRoom_19 rfl 1 rfl ?_
    obtain ⟨v8, h9, h⟩ := Option.bind_eq_some_iff.mp h
    refine j_getR C fl_row_9 h9 d_row_makeRoom_20 rfl ?_
    obtain ⟨v10, h11, h⟩ := Option.bind_eq_some_iff.mp h
    refine j_alen C (kd := 2) rfl h11 d_row_makeRoom_23 rfl ?_
    refine j_imul C d_row_makeRoom_24 rfl ?_
    obtain ⟨p12, h13, h⟩ := Option.bind_eq_some_iff.mp h
    refine j_callS C (As := [.int 16, .int (2 * v10)]) (st := []) (sk' := [.int p12.1]) mk_mat_max (Or.inl T_232) T_233 (rc_le hF (by decide)) (rc_le hL (by decide)) (ct_mat_max h13) rfl rfl (by decide) d_row_makeRoom_25 rfl rfl ?_
    refine j_istore_n C (i := 3) d_row_makeRoom_28 rfl rfl [(3, .int p12.1), (2, .int (v1 + x1)), (0, va_rf (some a0)), (1, .int x1)] (rc_lt hN (by decide)) (by first | rfl | simp [va_rf_cat, rc_cat_i, rc_cat_l]) ?_
    refine j_aload_n C d_row_makeRoom_29 rfl 2 rfl ?_
    refine j_aload_n C d_row_makeRoom_30 rfl 2 rfl ?_
    obtain ⟨v14, h15, h⟩ := Option.bind_eq_some_iff.mp h
    refine j_getR C fl_row_9 h15 d_row_makeRoom_31 rfl ?_
    refine j_iload_n C d_row_makeRoom_34 rfl 1 rfl ?_
    refine j_iload_n C d_row_makeRoom_35 rfl 0 rfl ?_
    obtain ⟨p16, h17, h⟩ := Option.bind_eq_some_iff.mp h
    refine j_callS C (As := [.int (v1 + x1), .int p12.1]) (st := [va_rf v14, va_rf (some a0)]) (sk' := [.int p16.1, va_rf v14, va_rf (some a0)]) mk_mat_max (Or.inl T_232) T_233 (rc_le hF (by decide)) (rc_le hL (by decide)) (ct_mat_max h17) rfl rfl (by simp [va_rf_cat, rc_cat_i, rc_cat_l]) d_row_makeRoom_36 rfl rfl ?_
    obtain ⟨p18, h19, h⟩ := Option.bind_eq_some_iff.mp h
    refine j_callS C (As := [va_rf v14, .int p16.1]) (st := [va_rf (some a0)]) (sk' := [va_rf p18.1, va_rf (some a0)]) mk_arr_copyOf (Or.inl T_235) T_236 (rc_le hF (by decide)) (rc_le hL (by decide)) (ct_arr_copyOf h19) rfl rfl (by simp [va_rf_cat, rc_cat_i, rc_cat_l]) d_row_makeRoom_39 rfl rfl ?_
    obtain ⟨w20, h21, h⟩ := Option.bind_eq_some_iff.mp h
    refine j_putV C (ci := 1) (k := 0) (by decide) (by decide) T_32 (Or.inl rfl) rfl (by first | rfl | exact rc_fo _ _ | exact rc_fa _ _) h21 d_row_makeRoom_42 rfl ?_
    refine rc_J.sub (lv' := []) [] rfl ?_
    exact k_row_makeRoom_45 hF hL hN C E h

set_option maxRecDepth 100000 in
set_option maxHeartbeats 4000000 in
theorem ct_row_add {l : Launch} {G : rc_G} {w : rc_M} {a0 : Nat} {x1 : Int32} {res : rc_M} (h : f_row_add w a0 x1 = some res) : rc_Ct l G y_row_add prog_6_method_8_code 2 none 3 71 [va_rf (some a0), .int x1] w none res := by
  refine rc_enter (by decide +kernel) (by simp [lg_sl, va_rf_cat, rc_cat_i, rc_cat_l]) ?_
  intro X _ _ hN hF hL C E
  have hlv : lv_args 0 [va_rf (some a0), .int x1] = [(0, va_rf (some a0)), (1, .int x1)] := by simp [lv_args, va_rf_cat, rc_cat_i, rc_cat_l]
  rw [hlv]
  clear hlv
  unfold f_row_add at h
  refine j_aload_n C d_row_add_0 rfl 0 rfl ?_
  refine j_iconst (v := 1) C d_row_add_1 rfl (by decide) ?_
  obtain ⟨a1, h2, h⟩ := Option.bind_eq_some_iff.mp h
  obtain ⟨w3, h4, h⟩ := Option.bind_eq_some_iff.mp h
  refine j_callV C (As := [.int 1]) (st := []) (sk' := []) mk_row_makeRoom (Or.inl T_228) T_230 S_2 (ci := 1) rfl h2 (rc_le hF (by decide)) (rc_le hL (by decide)) (ct_row_makeRoom h4) rfl rfl (by decide) d_row_add_2 rfl rfl ?_
  refine j_aload_n C d_row_add_5 rfl 0 rfl ?_
  obtain ⟨v5, h6, h⟩ := Option.bind_eq_some_iff.mp h
  refine j_getR C fl_row_9 h6 d_row_add_6 rfl ?_
  refine j_aload_n C d_row_add_9 rfl 0 rfl ?_
  obtain ⟨v7, h8, h⟩ := Option.bind_eq_some_iff.mp h
  refine j_getI C fl_row_15 h8 d_row_add_10 rfl ?_
  refine j_iload_n C d_row_add_13 rfl 1 rfl ?_
  refine j_i2b C d_row_add_14 rfl ?_
  obtain ⟨w9, h10, h⟩ := Option.bind_eq_some_iff.mp h
  refine j_bast C h10 d_row_add_15 rfl ?_
  refine j_aload_n C d_row_add_16 rfl 0 rfl ?_
  refine j_dup C d_row_add_17 rfl (by first | rfl | exact va_rf_cat _) ?_
  obtain ⟨v11, h12, h⟩ := Option.bind_eq_some_iff.mp h
  refine j_getI C fl_row_15 h12 d_row_add_18 rfl ?_
  refine j_iconst (v := 1) C d_row_add_21 rfl (by decide) ?_
  refine j_iadd C d_row_add_22 rfl ?_
  obtain ⟨w13, h14, h⟩ := Option.bind_eq_some_iff.mp h
  refine j_putV C (ci := 1) (k := 1) (by decide) (by decide) T_33 (Or.inl rfl) rfl rfl h14 d_row_add_23 rfl ?_
  cases h
  exact j_vret C E d_row_add_26

set_option maxRecDepth 100000 in
set_option maxHeartbeats 4000000 in
theorem ct_row_addWord {l : Launch} {G : rc_G} {w : rc_M} {a0 : Nat} {x1 : Int32} {res : rc_M} (h : f_row_addWord w a0 x1 = some res) : rc_Ct l G y_row_addWord prog_6_method_9_code 2 none 3 71 [va_rf (some a0), .int x1] w none res := by
  refine rc_enter (by decide +kernel) (by simp [lg_sl, va_rf_cat, rc_cat_i, rc_cat_l]) ?_
  intro X _ _ hN hF hL C E
  have hlv : lv_args 0 [va_rf (some a0), .int x1] = [(0, va_rf (some a0)), (1, .int x1)] := by simp [lv_args, va_rf_cat, rc_cat_i, rc_cat_l]
  rw [hlv]
  clear hlv
  unfold f_row_addWord at h
  refine j_aload_n C d_row_addWord_0 rfl 0 rfl ?_
  refine j_iconst (v := 4) C d_row_addWord_1 rfl (by decide) ?_
  obtain ⟨a1, h2, h⟩ := Option.bind_eq_some_iff.mp h
  obtain ⟨w3, h4, h⟩ := Option.bind_eq_some_iff.mp h
  refine j_callV C (As := [.int 4]) (st := []) (sk' := []) mk_row_makeRoom (Or.inl T_228) T_230 S_2 (ci := 1) rfl h2 (rc_le hF (by decide)) (rc_le hL (by decide)) (ct_row_makeRoom h4) rfl rfl (by decide) d_row_addWord_2 rfl rfl ?_
  refine j_aload_n C d_row_addWord_5 rfl 0 rfl ?_
  obtain ⟨v5, h6, h⟩ := Option.bind_eq_some_iff.mp h
  refine j_getR C fl_row_9 h6 d_row_addWord_6 rfl ?_
  refine j_aload_n C d_row_addWord_9 rfl 0 rfl ?_
  obtain ⟨v7, h8, h⟩ := Option.bind_eq_some_iff.mp h
  refine j_getI C fl_row_15 h8 d_row_addWord_10 rfl ?_
  refine j_iload_n C d_row_addWord_13 rfl 1 rfl ?_
  refine j_bipush (v := 24) C d_row_addWord_14 rfl (by decide) ?_
  refine j_iushr C d_row_addWord_16 rfl ?_
  refine j_i2b C d_row_addWord_17 rfl ?_
  obtain ⟨w9, h10, h⟩ := Option.bind_eq_some_iff.mp h
  refine j_bast C h10 d_row_addWord_18 rfl ?_
  refine j_aload_n C d_row_addWord_19 rfl 0 rfl ?_
  obtain ⟨v11, h12, h⟩ := Option.bind_eq_some_iff.mp h
  refine j_getR C fl_row_9 h12 d_row_addWord_20 rfl ?_
  refine j_aload_n C d_row_addWord_23 rfl 0 rfl ?_
  obtain ⟨v13, h14, h⟩ := Option.bind_eq_some_iff.mp h
  refine j_getI C fl_row_15 h14 d_row_addWord_24 rfl ?_
  refine j_iconst (v := 1) C d_row_addWord_27 rfl (by decide) ?_
  refine j_iadd C d_row_addWord_28 rfl ?_
  refine j_iload_n C d_row_addWord_29 rfl 1 rfl ?_
  refine j_bipush (v := 16) C d_row_addWord_30 rfl (by decide) ?_
  refine j_iushr C d_row_addWord_32 rfl ?_
  refine j_i2b C d_row_addWord_33 rfl ?_
  obtain ⟨w15, h16, h⟩ := Option.bind_eq_some_iff.mp h
  refine j_bast C h16 d_row_addWord_34 rfl ?_
  refine j_aload_n C d_row_addWord_35 rfl 0 rfl ?_
  obtain ⟨v17, h18, h⟩ := Option.bind_eq_some_iff.mp h
  refine j_getR C fl_row_9 h18 d_row_addWord_36 rfl ?_
  refine j_aload_n C d_row_addWord_39 rfl 0 rfl ?_
  obtain ⟨v19, h20, h⟩ := Option.bind_eq_some_iff.mp h
  refine j_getI C fl_row_15 h20 d_row_addWord_40 rfl ?_
  refine j_iconst (v := 2) C d_row_addWord_43 rfl (by decide) ?_
  refine j_iadd C d_row_addWord_44 rfl ?_
  refine j_iload_n C d_row_addWord_45 rfl 1 rfl ?_
  refine j_bipush (v := 8) C d_row_addWord_46 rfl (by decide) ?_
  refine j_iushr C d_row_addWord_48 rfl ?_
  refine j_i2b C d_row_addWord_49 rfl ?_
  obtain ⟨w21, h22, h⟩ := Option.bind_eq_some_iff.mp h
  refine j_bast C h22 d_row_addWord_50 rfl ?_
  refine j_aload_n C d_row_addWord_51 rfl 0 rfl ?_
  obtain ⟨v23, h24, h⟩ := Option.bind_eq_some_iff.mp h
  refine j_getR C fl_row_9 h24 d_row_addWord_52 rfl ?_
  refine j_aload_n C d_row_addWord_55 rfl 0 rfl ?_
  obtain ⟨v25, h26, h⟩ := Option.bind_eq_some_iff.mp h
  refine j_getI C fl_row_15 h26 d_row_addWord_56 rfl ?_
  refine j_iconst (v := 3) C d_row_addWord_59 rfl (by decide) ?_
  refine j_iadd C d_row_addWord_60 rfl ?_
  refine j_iload_n C d_row_addWord_61 rfl 1 rfl ?_
  refine j_i2b C d_row_addWord_62 rfl ?_
  obtain ⟨w27, h28, h⟩ := Option.bind_eq_some_iff.mp h
  refine j_bast C h28 d_row_addWord_63 rfl ?_
  refine j_aload_n C d_row_addWord_64 rfl 0 rfl ?_
  refine j_dup C d_row_addWord_65 rfl (by first | rfl | exact va_rf_cat _) ?_
  obtain ⟨v29, h30, h⟩ := Option.bind_eq_some_iff.mp h
  refine j_getI C fl_row_15 h30 d_row_addWord_66 rfl ?_
  refine j_iconst (v := 4) C d_row_addWord_69 rfl (by decide) ?_
  refine j_iadd C d_row_addWord_70 rfl ?_
  obtain ⟨w31, h32, h⟩ := Option.bind_eq_some_iff.mp h
  refine j_putV C (ci := 1) (k := 1) (by decide) (by decide) T_33 (Or.inl rfl) rfl rfl h32 d_row_addWord_71 rfl ?_
  cases h
  exact j_vret C E d_row_addWord_74

set_option maxRecDepth 100000 in
set_option maxHeartbeats 4000000 in
theorem ct_row_addLong {l : Launch} {G : rc_G} {w : rc_M} {a0 : Nat} {x1 : Int64} {res : rc_M} (h : f_row_addLong w a0 x1 = some res) : rc_Ct l G y_row_addLong prog_6_method_10_code 3 none 4 92 [va_rf (some a0), .long x1] w none res := by
  refine rc_enter (by decide +kernel) (by simp [lg_sl, va_rf_cat, rc_cat_i, rc_cat_l]) ?_
  intro X _ _ hN hF hL C E
  have hlv : lv_args 0 [va_rf (some a0), .long x1] = [(0, va_rf (some a0)), (1, .long x1)] := by simp [lv_args, va_rf_cat, rc_cat_i, rc_cat_l]
  rw [hlv]
  clear hlv
  unfold f_row_addLong at h
  refine j_aload_n C d_row_addLong_0 rfl 0 rfl ?_
  refine j_lload_n C d_row_addLong_1 rfl 1 rfl ?_
  refine j_bipush (v := 32) C d_row_addLong_2 rfl (by decide) ?_
  refine j_lushr C d_row_addLong_4 rfl ?_
  refine j_l2i C d_row_addLong_5 rfl ?_
  obtain ⟨a1, h2, h⟩ := Option.bind_eq_some_iff.mp h
  obtain ⟨w3, h4, h⟩ := Option.bind_eq_some_iff.mp h
  refine j_callV C (As := [.int (((x1.toUInt64 >>> ((32 : Int32).toInt64.toUInt64 &&& Int64.toUInt64 63)).toInt64).toInt32)]) (st := []) (sk' := []) mk_row_addWord (Or.inl T_417) T_360 T_361 (ci := 1) rfl h2 (rc_le hF (by decide)) (rc_le hL (by decide)) (ct_row_addWord h4) rfl rfl (by decide) d_row_addLong_6 rfl rfl ?_
  refine j_aload_n C d_row_addLong_9 rfl 0 rfl ?_
  refine j_lload_n C d_row_addLong_10 rfl 1 rfl ?_
  refine j_l2i C d_row_addLong_11 rfl ?_
  obtain ⟨a5, h6, h⟩ := Option.bind_eq_some_iff.mp h
  obtain ⟨w7, h8, h⟩ := Option.bind_eq_some_iff.mp h
  refine j_callV C (As := [.int x1.toInt32]) (st := []) (sk' := []) mk_row_addWord (Or.inl T_417) T_360 T_361 (ci := 1) rfl h6 (rc_le hF (by decide)) (rc_le hL (by decide)) (ct_row_addWord h8) rfl rfl (by decide) d_row_addLong_12 rfl rfl ?_
  cases h
  exact j_vret C E d_row_addLong_15

set_option maxRecDepth 100000 in
set_option maxHeartbeats 4000000 in
theorem k_row_addTruth_10 {X : rc_X} {w0 : rc_M} (hF : (q_R X).frames = 4) (hL : (q_R X).locals = 92) (hN : q_n X = 2) (C : rc_C X "RecordCalls$Row" prog_6_method_11_code w0) {res : rc_M} (E : rc_E0 X y_row_addTruth none none res) {w : rc_M} {s0 : Option Nat} {s1 : Int32} (h : b_row_addTruth_10 w s0 s1 = some res) : rc_J X w 10 [.int s1, va_rf s0] [] := by
  unfold b_row_addTruth_10 at h
  obtain ⟨a1, h2, h⟩ := Option.bind_eq_some_iff.mp h
  obtain ⟨w3, h4, h⟩ := Option.bind_eq_some_iff.mp h
  refine j_callV C (As := [.int s1]) (st := []) (sk' := []) mk_row_addWord (Or.inl T_417) T_360 T_361 (ci := 1) rfl h2 (rc_le hF (by decide)) (rc_le hL (by decide)) (ct_row_addWord h4) rfl rfl (by decide) d_row_addTruth_10 rfl rfl ?_
  cases h
  exact j_vret C E d_row_addTruth_13

set_option maxRecDepth 100000 in
set_option maxHeartbeats 4000000 in
theorem ct_row_addTruth {l : Launch} {G : rc_G} {w : rc_M} {a0 : Nat} {x1 : Int32} {res : rc_M} (h : f_row_addTruth w a0 x1 = some res) : rc_Ct l G y_row_addTruth prog_6_method_11_code 2 none 4 92 [va_rf (some a0), .int x1] w none res := by
  refine rc_enter (by decide +kernel) (by simp [lg_sl, va_rf_cat, rc_cat_i, rc_cat_l]) ?_
  intro X _ _ hN hF hL C E
  have hlv : lv_args 0 [va_rf (some a0), .int x1] = [(0, va_rf (some a0)), (1, .int x1)] := by simp [lv_args, va_rf_cat, rc_cat_i, rc_cat_l]
  rw [hlv]
  clear hlv
  unfold f_row_addTruth at h
  refine j_aload_n C d_row_addTruth_0 rfl 0 rfl ?_
  refine j_iload_n C d_row_addTruth_1 rfl 1 rfl ?_
  refine j_if_eq (tgt := 9) C d_row_addTruth_2 (by decide) rfl (fun c1 => ?_) (fun c1 => ?_)
  · rw [if_pos c1] at h
    refine j_iconst (v := 0) C d_row_addTruth_9 rfl (by decide) ?_
    refine rc_J.sub (lv' := []) [] rfl ?_
    exact k_row_addTruth_10 hF hL hN C E h
  · rw [if_neg c1] at h
    refine j_iconst (v := 1) C d_row_addTruth_5 rfl (by decide) ?_
    refine j_goto (tgt := 10) C d_row_addTruth_6 (by decide) ?_
    refine rc_J.sub (lv' := []) [] rfl ?_
    exact k_row_addTruth_10 hF hL hN C E h

set_option maxRecDepth 100000 in
set_option maxHeartbeats 4000000 in
theorem k_row_addPart_18 {X : rc_X} {w0 : rc_M} (hF : (q_R X).frames = 3) (hL : (q_R X).locals = 71) (hN : q_n X = 4) (C : rc_C X "RecordCalls$Row" prog_6_method_12_code w0) {res : rc_M} (E : rc_E0 X y_row_addPart none none res) {w : rc_M}  (h : b_row_addPart_18 w  = some res) : rc_J X w 18 [] [] := by
  unfold b_row_addPart_18 at h
  cases h
  exact j_vret C E d_row_addPart_18

set_option maxRecDepth 100000 in
set_option maxHeartbeats 4000000 in
theorem ct_row_addPart {l : Launch} {G : rc_G} {w : rc_M} {a0 : Nat} {r1 : Option Nat} {x2 : Int32} {x3 : Int32} {res : rc_M} (h : f_row_addPart w a0 r1 x2 x3 = some res) : rc_Ct l G y_row_addPart prog_6_method_12_code 4 none 3 71 [va_rf (some a0), va_rf r1, .int x2, .int x3] w none res := by
  refine rc_enter (by decide +kernel) (by simp [lg_sl, va_rf_cat, rc_cat_i, rc_cat_l]) ?_
  intro X _ _ hN hF hL C E
  have hlv : lv_args 0 [va_rf (some a0), va_rf r1, .int x2, .int x3] = [(0, va_rf (some a0)), (1, va_rf r1), (2, .int x2), (3, .int x3)] := by simp [lv_args, va_rf_cat, rc_cat_i, rc_cat_l]
  rw [hlv]
  clear hlv
  unfold f_row_addPart at h
  refine j_iload_n C d_row_addPart_0 rfl 2 rfl ?_
  refine j_if_lt (tgt := 18) C d_row_addPart_1 (by decide) rfl (fun c1 => ?_) (fun c1 => ?_)
  · rw [if_pos c1] at h
    refine rc_J.sub (lv' := []) [] rfl ?_
    exact k_row_addPart_18 hF hL hN C E h
  · rw [if_neg c1] at h
    refine j_iload_n C d_row_addPart_4 rfl 3 rfl ?_
    refine j_if_lt (tgt := 18) C d_row_addPart_5 (by decide) rfl (fun c2 => ?_) (fun c2 => ?_)
    · rw [if_pos c2] at h
      refine rc_J.sub (lv' := []) [] rfl ?_
      exact k_row_addPart_18 hF hL hN C E h
    · rw [if_neg c2] at h
      refine j_iload_n C d_row_addPart_8 rfl 3 rfl ?_
      refine j_aload_n C d_row_addPart_9 rfl 1 rfl ?_
      obtain ⟨v3, h4, h⟩ := Option.bind_eq_some_iff.mp h
      refine j_getI C fl_row_15 h4 d_row_addPart_10 rfl ?_
      refine j_iload_n C d_row_addPart_13 rfl 2 rfl ?_
      refine j_isub C d_row_addPart_14 rfl ?_
      refine j_icmp_le (tgt := 19) C d_row_addPart_15 (by decide) rfl (fun c5 => ?_) (fun c5 => ?_)
      · rw [if_pos c5] at h
        refine j_aload_n C d_row_addPart_19 rfl 0 rfl ?_
        refine j_iload_n C d_row_addPart_20 rfl 3 rfl ?_
        obtain ⟨a6, h7, h⟩ := Option.bind_eq_some_iff.mp h
        obtain ⟨w8, h9, h⟩ := Option.bind_eq_some_iff.mp h
        refine j_callV C (As := [.int x3]) (st := []) (sk' := []) mk_row_makeRoom (Or.inl T_228) T_230 S_2 (ci := 1) rfl h7 (rc_le hF (by decide)) (rc_le hL (by decide)) (ct_row_makeRoom h9) rfl rfl (by decide) d_row_addPart_21 rfl rfl ?_
        refine j_aload_n C d_row_addPart_24 rfl 1 rfl ?_
        obtain ⟨v10, h11, h⟩ := Option.bind_eq_some_iff.mp h
        refine j_getR C fl_row_9 h11 d_row_addPart_25 rfl ?_
        refine j_iload_n C d_row_addPart_28 rfl 2 rfl ?_
        refine j_aload_n C d_row_addPart_29 rfl 0 rfl ?_
        obtain ⟨v12, h13, h⟩ := Option.bind_eq_some_iff.mp h
        refine j_getR C fl_row_9 h13 d_row_addPart_30 rfl ?_
        refine j_aload_n C d_row_addPart_33 rfl 0 rfl ?_
        obtain ⟨v14, h15, h⟩ := Option.bind_eq_some_iff.mp h
        refine j_getI C fl_row_15 h15 d_row_addPart_34 rfl ?_
        refine j_iload_n C d_row_addPart_37 rfl 3 rfl ?_
        obtain ⟨w16, h17, h⟩ := Option.bind_eq_some_iff.mp h
        refine j_copy C T_251 T_250 T_249 T_15 (rc_le hF (by decide)) (rc_le hL (by simp [va_rf_cat, rc_cat_i, rc_cat_l, nativeFrameWords])) h17 d_row_addPart_38 rfl ?_
        refine j_aload_n C d_row_addPart_41 rfl 0 rfl ?_
        refine j_dup C d_row_addPart_42 rfl (by first | rfl | exact va_rf_cat _) ?_
        obtain ⟨v18, h19, h⟩ := Option.bind_eq_some_iff.mp h
        refine j_getI C fl_row_15 h19 d_row_addPart_43 rfl ?_
        refine j_iload_n C d_row_addPart_46 rfl 3 rfl ?_
        refine j_iadd C d_row_addPart_47 rfl ?_
        obtain ⟨w20, h21, h⟩ := Option.bind_eq_some_iff.mp h
        refine j_putV C (ci := 1) (k := 1) (by decide) (by decide) T_33 (Or.inl rfl) rfl rfl h21 d_row_addPart_48 rfl ?_
        cases h
        exact j_vret C E d_row_addPart_51
      · rw [if_neg c5] at h
        refine rc_J.sub (lv' := []) [] rfl ?_
        exact k_row_addPart_18 hF hL hN C E h

set_option maxRecDepth 100000 in
set_option maxHeartbeats 4000000 in
theorem ct_rec_filled {l : Launch} {G : rc_G} {w : rc_M} {x0 : Int32} {res : Int32 × rc_M} (h : f_rec_filled w x0 = some res) : rc_Ct l G y_rec_filled prog_1_method_30_code 1 (some .int) 0 0 [.int x0] w (some (.int res.1)) res.2 := by
  refine rc_enter (by decide +kernel) (by simp [lg_sl, va_rf_cat, rc_cat_i, rc_cat_l]) ?_
  intro X _ _ hN hF hL C E
  have hlv : lv_args 0 [.int x0] = [(0, .int x0)] := by simp [lv_args, va_rf_cat, rc_cat_i, rc_cat_l]
  rw [hlv]
  clear hlv
  unfold f_rec_filled at h
  refine j_iload_n C d_rec_filled_0 rfl 0 rfl ?_
  refine j_iconst (v := 4) C d_rec_filled_1 rfl (by decide) ?_
  refine j_iadd C d_rec_filled_2 rfl ?_
  refine j_iconst (v := 1) C d_rec_filled_3 rfl (by decide) ?_
  refine j_isub C d_rec_filled_4 rfl ?_
  refine j_bipush (v := (-4)) C d_rec_filled_5 rfl (by decide) ?_
  refine j_iand C d_rec_filled_7 rfl ?_
  cases h
  exact j_iret C E d_rec_filled_8

set_option maxRecDepth 100000 in
set_option maxHeartbeats 4000000 in
theorem k_row_addBytes_15 {X : rc_X} {w0 : rc_M} (hF : (q_R X).frames = 4) (hL : (q_R X).locals = 94) (hN : q_n X = 5) (C : rc_C X "RecordCalls$Row" prog_6_method_13_code w0) {res : rc_M} (E : rc_E0 X y_row_addBytes none none res) : ∀ (fuel : Nat) (w : rc_M) (a0 : Nat) (x3 : Int32) (x4 : Int32), b_row_addBytes_15 fuel w a0 x3 x4 = some res → rc_J X w 15 [] [(0, va_rf (some a0)), (3, .int x3), (4, .int x4)] := by
  intro fuel
  induction fuel with
  | zero => intro w a0 x3 x4 h; simp [b_row_addBytes_15] at h
  | succ fuel ih =>
    intro w a0 x3 x4 h
    unfold b_row_addBytes_15 at h
    refine j_iload C d_row_addBytes_15 rfl 2 rfl ?_
    refine j_iload_n C d_row_addBytes_17 rfl 1 rfl ?_
    obtain ⟨p1, h2, h⟩ := Option.bind_eq_some_iff.mp h
    refine j_callS C (As := [.int x3]) (st := [.int x4]) (sk' := [.int p1.1, .int x4]) mk_rec_filled (Or.inr T_419) T_420 (rc_le hF (by decide)) (rc_le hL (by decide)) (ct_rec_filled h2) rfl rfl (by simp [va_rf_cat, rc_cat_i, rc_cat_l]) d_row_addBytes_18 rfl rfl ?_
    refine j_icmp_ge (tgt := 35) C d_row_addBytes_21 (by decide) rfl (fun c3 => ?_) (fun c3 => ?_)
    · rw [if_pos c3] at h
      cases h
      exact j_vret C E d_row_addBytes_35
    · rw [if_neg c3] at h
      refine j_aload_n C d_row_addBytes_24 rfl 0 rfl ?_
      refine j_iconst (v := 0) C d_row_addBytes_25 rfl (by decide) ?_
      obtain ⟨a4, h5, h⟩ := Option.bind_eq_some_iff.mp h
      obtain ⟨w6, h7, h⟩ := Option.bind_eq_some_iff.mp h
      refine j_callV C (As := [.int 0]) (st := []) (sk' := []) mk_row_add (Or.inl T_422) T_423 T_424 (ci := 1) rfl h5 (rc_le hF (by decide)) (rc_le hL (by decide)) (ct_row_add h7) rfl rfl (by decide) d_row_addBytes_26 rfl rfl ?_
      refine j_iinc C d_row_addBytes_29 rfl 2 [(4, .int (x4 + 1)), (0, va_rf (some a0)), (3, .int x3)] rfl rfl (rc_lt hN (by decide)) (by first | rfl | simp [va_rf_cat, rc_cat_i, rc_cat_l]) ?_
      refine j_goto (tgt := 15) C d_row_addBytes_32 (by decide) ?_
      refine rc_J.sub (lv' := [(0, va_rf (some a0)), (3, .int x3), (4, .int (x4 + 1))]) [1, 2, 0] rfl ?_
      exact ih _ _ _ _ h

set_option maxRecDepth 100000 in
set_option maxHeartbeats 4000000 in
theorem ct_row_addBytes {l : Launch} {G : rc_G} {w : rc_M} {a0 : Nat} {r1 : Option Nat} {x2 : Int32} {x3 : Int32} {res : rc_M} (h : f_row_addBytes w a0 r1 x2 x3 = some res) : rc_Ct l G y_row_addBytes prog_6_method_13_code 5 none 4 94 [va_rf (some a0), va_rf r1, .int x2, .int x3] w none res := by
  refine rc_enter (by decide +kernel) (by simp [lg_sl, va_rf_cat, rc_cat_i, rc_cat_l]) ?_
  intro X _ _ hN hF hL C E
  have hlv : lv_args 0 [va_rf (some a0), va_rf r1, .int x2, .int x3] = [(0, va_rf (some a0)), (1, va_rf r1), (2, .int x2), (3, .int x3)] := by simp [lv_args, va_rf_cat, rc_cat_i, rc_cat_l]
  rw [hlv]
  clear hlv
  unfold f_row_addBytes at h
  refine j_aload_n C d_row_addBytes_0 rfl 0 rfl ?_
  refine j_iload_n C d_row_addBytes_1 rfl 3 rfl ?_
  obtain ⟨a1, h2, h⟩ := Option.bind_eq_some_iff.mp h
  obtain ⟨w3, h4, h⟩ := Option.bind_eq_some_iff.mp h
  refine j_callV C (As := [.int x3]) (st := []) (sk' := []) mk_row_addWord (Or.inl T_417) T_360 T_361 (ci := 1) rfl h2 (rc_le hF (by decide)) (rc_le hL (by decide)) (ct_row_addWord h4) rfl rfl (by decide) d_row_addBytes_2 rfl rfl ?_
  refine j_aload_n C d_row_addBytes_5 rfl 0 rfl ?_
  refine j_aload_n C d_row_addBytes_6 rfl 1 rfl ?_
  refine j_iload_n C d_row_addBytes_7 rfl 2 rfl ?_
  refine j_iload_n C d_row_addBytes_8 rfl 3 rfl ?_
  obtain ⟨a5, h6, h⟩ := Option.bind_eq_some_iff.mp h
  obtain ⟨w7, h8, h⟩ := Option.bind_eq_some_iff.mp h
  refine j_callV C (As := [va_rf r1, .int x2, .int x3]) (st := []) (sk' := []) mk_row_addPart (Or.inl T_418) T_225 T_226 (ci := 1) rfl h6 (rc_le hF (by decide)) (rc_le hL (by decide)) (ct_row_addPart h8) rfl rfl (by decide) d_row_addBytes_9 rfl rfl ?_
  refine j_iload_n C d_row_addBytes_12 rfl 3 rfl ?_
  refine j_istore C (i := 4) d_row_addBytes_13 rfl [(4, .int x3), (0, va_rf (some a0)), (1, va_rf r1), (2, .int x2), (3, .int x3)] (rc_lt hN (by decide)) (by first | rfl | simp [va_rf_cat, rc_cat_i, rc_cat_l]) ?_
  refine rc_J.sub (lv' := [(0, va_rf (some a0)), (3, .int x3), (4, .int x3)]) [1, 4, 0] rfl ?_
  exact k_row_addBytes_15 hF hL hN C E _ _ _ _ _ h

set_option maxRecDepth 100000 in
set_option maxHeartbeats 4000000 in
theorem k_row_isPart_13 {X : rc_X} {w0 : rc_M} (hF : (q_R X).frames = 1) (hL : (q_R X).locals = 21) (hN : q_n X = 5) (C : rc_C X "RecordCalls$Row" prog_6_method_14_code w0) {res : Int32 × rc_M} (E : rc_E0 X y_row_isPart (some .boolean) (some (.int res.1)) res.2) : ∀ (fuel : Nat) (w : rc_M) (a0 : Nat) (r1 : Option Nat) (x2 : Int32) (x3 : Int32) (x4 : Int32), b_row_isPart_13 fuel w a0 r1 x2 x3 x4 = some res → rc_J X w 13 [] [(0, va_rf (some a0)), (1, va_rf r1), (2, .int x2), (3, .int x3), (4, .int x4)] := by
  intro fuel
  induction fuel with
  | zero => intro w a0 r1 x2 x3 x4 h; simp [b_row_isPart_13] at h
  | succ fuel ih =>
    intro w a0 r1 x2 x3 x4 h
    unfold b_row_isPart_13 at h
    refine j_iload C d_row_isPart_13 rfl 4 rfl ?_
    refine j_iload_n C d_row_isPart_15 rfl 3 rfl ?_
    refine j_icmp_ge (tgt := 44) C d_row_isPart_16 (by decide) rfl (fun c1 => ?_) (fun c1 => ?_)
    · rw [if_pos c1] at h
      refine j_iconst (v := 1) C d_row_isPart_44 rfl (by decide) ?_
      obtain ⟨hz, rfl⟩ := rc_z1_spec h
      exact j_zret C hz E d_row_isPart_45
    · rw [if_neg c1] at h
      refine j_aload_n C d_row_isPart_19 rfl 0 rfl ?_
      refine j_iload C d_row_isPart_20 rfl 4 rfl ?_
      obtain ⟨a2, h3, h⟩ := Option.bind_eq_some_iff.mp h
      obtain ⟨p4, h5, h⟩ := Option.bind_eq_some_iff.mp h
      refine j_callV C (As := [.int x4]) (st := []) (sk' := [.int p4.1]) mk_row_at (Or.inl T_272) T_273 T_274 (ci := 1) rfl h3 (rc_le hF (by decide)) (rc_le hL (by decide)) (ct_row_at h5) rfl rfl (by decide) d_row_isPart_22 rfl rfl ?_
      refine j_aload_n C d_row_isPart_25 rfl 1 rfl ?_
      refine j_iload_n C d_row_isPart_26 rfl 2 rfl ?_
      refine j_iload C d_row_isPart_27 rfl 4 rfl ?_
      refine j_iadd C d_row_isPart_29 rfl ?_
      obtain ⟨a6, h7, h⟩ := Option.bind_eq_some_iff.mp h
      obtain ⟨p8, h9, h⟩ := Option.bind_eq_some_iff.mp h
      refine j_callV C (As := [.int (x2 + x4)]) (st := [.int p4.1]) (sk' := [.int p8.1, .int p4.1]) mk_row_at (Or.inl T_272) T_273 T_274 (ci := 1) rfl h7 (rc_le hF (by decide)) (rc_le hL (by decide)) (ct_row_at h9) rfl rfl (by simp [va_rf_cat, rc_cat_i, rc_cat_l]) d_row_isPart_30 rfl rfl ?_
      refine j_icmp_eq (tgt := 38) C d_row_isPart_33 (by decide) rfl (fun c10 => ?_) (fun c10 => ?_)
      · rw [if_pos c10] at h
        refine j_iinc C d_row_isPart_38 rfl 4 [(4, .int (x4 + 1)), (0, va_rf (some a0)), (1, va_rf r1), (2, .int x2), (3, .int x3)] rfl rfl (rc_lt hN (by decide)) (by first | rfl | simp [va_rf_cat, rc_cat_i, rc_cat_l]) ?_
        refine j_goto (tgt := 13) C d_row_isPart_41 (by decide) ?_
        refine rc_J.sub (lv' := [(0, va_rf (some a0)), (1, va_rf r1), (2, .int x2), (3, .int x3), (4, .int (x4 + 1))]) [1, 2, 3, 4, 0] rfl ?_
        exact ih _ _ _ _ _ _ h
      · rw [if_neg c10] at h
        refine j_iconst (v := 0) C d_row_isPart_36 rfl (by decide) ?_
        obtain ⟨hz, rfl⟩ := rc_z1_spec h
        exact j_zret C hz E d_row_isPart_37

set_option maxRecDepth 100000 in
set_option maxHeartbeats 4000000 in
theorem ct_row_isPart {l : Launch} {G : rc_G} {w : rc_M} {a0 : Nat} {r1 : Option Nat} {x2 : Int32} {x3 : Int32} {res : Int32 × rc_M} (h : f_row_isPart w a0 r1 x2 x3 = some res) : rc_Ct l G y_row_isPart prog_6_method_14_code 5 (some .boolean) 1 21 [va_rf (some a0), va_rf r1, .int x2, .int x3] w (some (.int res.1)) res.2 := by
  refine rc_enter (by decide +kernel) (by simp [lg_sl, va_rf_cat, rc_cat_i, rc_cat_l]) ?_
  intro X _ _ hN hF hL C E
  have hlv : lv_args 0 [va_rf (some a0), va_rf r1, .int x2, .int x3] = [(0, va_rf (some a0)), (1, va_rf r1), (2, .int x2), (3, .int x3)] := by simp [lv_args, va_rf_cat, rc_cat_i, rc_cat_l]
  rw [hlv]
  clear hlv
  unfold f_row_isPart at h
  refine j_iload_n C d_row_isPart_0 rfl 3 rfl ?_
  refine j_aload_n C d_row_isPart_1 rfl 0 rfl ?_
  obtain ⟨v1, h2, h⟩ := Option.bind_eq_some_iff.mp h
  refine j_getI C fl_row_15 h2 d_row_isPart_2 rfl ?_
  refine j_icmp_eq (tgt := 10) C d_row_isPart_5 (by decide) rfl (fun c3 => ?_) (fun c3 => ?_)
  · rw [if_pos c3] at h
    refine j_iconst (v := 0) C d_row_isPart_10 rfl (by decide) ?_
    refine j_istore C (i := 4) d_row_isPart_11 rfl [(4, .int 0), (0, va_rf (some a0)), (1, va_rf r1), (2, .int x2), (3, .int x3)] (rc_lt hN (by decide)) (by first | rfl | simp [va_rf_cat, rc_cat_i, rc_cat_l]) ?_
    refine rc_J.sub (lv' := [(0, va_rf (some a0)), (1, va_rf r1), (2, .int x2), (3, .int x3), (4, .int 0)]) [1, 2, 3, 4, 0] rfl ?_
    exact k_row_isPart_13 hF hL hN C E _ _ _ _ _ _ _ h
  · rw [if_neg c3] at h
    refine j_iconst (v := 0) C d_row_isPart_8 rfl (by decide) ?_
    obtain ⟨hz, rfl⟩ := rc_z1_spec h
    exact j_zret C hz E d_row_isPart_9
end
section
/-! ROWS CLOSED: a row is its capacity and its bytes; where the bytes lie is hidden -/
def rc_u (b : UInt8) : Int32 := nI b.toNat
def rc_lowb (x : Int32) : UInt8 := x.toUInt32.toUInt8
theorem rc_sx_low (x : Int32) : rc_sx (rc_lowb x) = x.toInt8.toInt32 := by
  unfold rc_sx rc_lowb
  congr 1
  apply Int8.toBitVec_inj.mp
  simp [BitVec.signExtend_eq_setWidth_of_le]
theorem rc_u_sx : ∀ b : UInt8, rc_sx b &&& 255 = rc_u b := by
  have h : ∀ n, n < 256 → rc_sx (UInt8.ofNat n) &&& 255 = rc_u (UInt8.ofNat n) := by decide +kernel
  intro b
  have := h b.toNat b.toNat_lt
  simpa using this
def rc_row (w : rc_M) (a : Nat) : Option (Nat × List UInt8) := match w.1 a with
  | some (.inr (.inr x)) => if x.1 ≤ 1000000 then some x else none
  | _ => none
theorem rc_row_spec {w : rc_M} {a : Nat} {x : Nat × List UInt8} (h : rc_row w a = some x) : w.1 a = some (.inr (.inr x)) ∧ x.1 ≤ 1000000 := by
  unfold rc_row at h
  split at h
  · rename_i y e
    split at h
    · rename_i hc
      cases h
      exact ⟨e, hc⟩
    · cases h
  · cases h
def rc_setRow (w : rc_M) (a : Nat) (x : Nat × List UInt8) : rc_M := rc_up w a (.inr (.inr x))
def rc_rowF (b n : Nat) : Nat → Value := fun j => if j = 0 then .ref b else .int (nI n)
/-- a row opened: its object and its array -/
def rc_Op (w : rc_M) (a b cap n : Nat) (f : Nat → Int32) : Prop := a ≠ b ∧ (∃ F : Nat → Value, w.1 a = some (.inl (1, F)) ∧ F 0 = .ref b ∧ F 1 = .int (nI n)) ∧ w.1 b = some (.inr (.inl (2, cap, .inl f)))
def rc_opn (w : rc_M) (a b cap n : Nat) (f : Nat → Int32) : rc_M := (va_up (va_up w.1 a (some (.inl (1, rc_rowF b n)))) b (some (.inr (.inl (2, cap, .inl f)))), w.2)
def rc_agr (bs : List UInt8) (f : Nat → Int32) : Prop := ∀ (i : Nat) (x : UInt8), bs[i]? = some x → f i = rc_sx x
theorem rc_H.opened {G : rc_G} {w : rc_M} {H : Heap} {a : Nat} {x : Nat × List UInt8} (h : rc_H G w H) (ha : w.1 a = some (.inr (.inr x))) :
    ∃ (b : Nat) (f : Nat → Int32), a ≠ b ∧ w.1 b = none ∧ x.2.length ≤ x.1 ∧ sb_Fit f ∧ rc_agr x.2 f ∧ rc_H G (rc_opn w a b x.1 x.2.length f) H := by
  obtain ⟨h1, h2, h3, h4, h5, β, hB, hR⟩ := h
  obtain ⟨g1, g2, g3, f, g4, g5, g6⟩ := hB a _ ha
  obtain ⟨r1, r2, r3⟩ := hR a ⟨x, ha⟩
  have hab : a ≠ β a := fun e => by rw [← e, ha] at r2; cases r2
  have key : ∀ (q : Nat) (e : rc_E), (rc_opn w a (β a) x.1 x.2.length f).1 q = some e → (q = a ∧ e = .inl (1, rc_rowF (β a) x.2.length)) ∨ (q = β a ∧ e = .inr (.inl (2, x.1, .inl f))) ∨ (q ≠ a ∧ q ≠ β a ∧ w.1 q = some e) := by
    intro q e he
    unfold rc_opn at he
    by_cases e1 : q = β a
    · subst e1
      simp only [va_up, if_true] at he
      cases he
      exact Or.inr (Or.inl ⟨rfl, rfl⟩)
    · by_cases e2 : q = a
      · subst e2
        simp only [va_up, e1, if_false, if_true] at he
        cases he
        exact Or.inl ⟨rfl, rfl⟩
      · simp only [va_up, e1, e2, if_false] at he
        exact Or.inr (Or.inr ⟨e2, e1, he⟩)
  have rows : ∀ q : Nat, rc_isRow ((rc_opn w a (β a) x.1 x.2.length f).1 q) → q ≠ a ∧ q ≠ β a ∧ rc_isRow (w.1 q) := by
    rintro q ⟨y, hy⟩
    rcases key q _ hy with ⟨-, e⟩ | ⟨-, e⟩ | ⟨e1, e2, e3⟩
    · cases e
    · cases e
    · exact ⟨e1, e2, y, e3⟩
  refine ⟨β a, f, hab, r2, g3, g5, g6, h1, h2, h3, h4, h5, β, fun q e he => ?_, fun q hq => ?_⟩
  · rcases key q e he with ⟨rfl, rfl⟩ | ⟨rfl, rfl⟩ | ⟨-, -, e3⟩
    · exact ⟨g1, (by decide : (1 : Nat) < 8), g2⟩
    · exact ⟨r1, g4⟩
    · exact hB q e e3
  · obtain ⟨q1, q2, q3⟩ := rows q hq
    obtain ⟨s1, s2, s3⟩ := hR q q3
    refine ⟨s1, ?_, fun q' hq' => s3 q' (rows q' hq').2.2⟩
    have e1 : β q ≠ a := fun e => by rw [e, ha] at s2; cases s2
    have e2 : β q ≠ β a := fun e => q1 (s3 a ⟨x, ha⟩ e)
    simp only [rc_opn, va_up, e1, e2, if_false]
    exact s2
theorem rc_opn_op {w : rc_M} {a b cap n : Nat} {f : Nat → Int32} (h : a ≠ b) : rc_Op (rc_opn w a b cap n f) a b cap n f := by
  refine ⟨h, ?_, ?_⟩
  · exact ⟨rc_rowF b n, by simp [rc_opn, va_up, h], rfl, rfl⟩
  · simp [rc_opn, va_up]
/-- fewer cells are known -/
theorem rc_H.less {G : rc_G} {w w' : rc_M} {H : Heap} (h : rc_H G w H) (hz : w'.2 = w.2) (hs : ∀ (a : Nat) (e : rc_E), w'.1 a = some e → w.1 a = some e) : rc_H G w' H := by
  obtain ⟨h1, h2, h3, h4, h5, β, hB, hR⟩ := h
  refine ⟨h1, by rw [hz]; exact h2, by rw [hz]; exact h3, by show _ ≤ w'.2.2.2.1 ∧ _ ≤ w'.2.2.2.2 ∧ _; rw [hz]; exact h4, by rw [hz]; exact h5, β, fun a e he => hB a e (hs a e he), fun a ⟨x, hx⟩ => ?_⟩
  obtain ⟨g1, g2, g3⟩ := hR a ⟨x, hs a _ hx⟩
  refine ⟨g1, ?_, fun a' ⟨x', hx'⟩ => g3 a' ⟨x', hs a' _ hx'⟩⟩
  cases e : w'.1 (β a) with
  | none => rfl
  | some y => rw [hs _ _ e] at g2; cases g2
theorem rc_H.closed {G : rc_G} {w : rc_M} {H : Heap} {a b cap : Nat} {f : Nat → Int32} {bs : List UInt8} (h : rc_H G w H) (ho : rc_Op w a b cap bs.length f) (hl : bs.length ≤ cap) (hf : sb_Fit f) (hg : rc_agr bs f) : rc_H G (va_up (va_up w.1 b none) a (some (.inr (.inr (cap, bs)))), w.2) H := by
  obtain ⟨h1, h2, h3, h4, h5, β, hB, hR⟩ := h
  obtain ⟨hab, ⟨F, ha, hF0, hF1⟩, hb⟩ := ho
  obtain ⟨g1, -, g2⟩ := hB a _ ha
  obtain ⟨r1, g4⟩ := hB b _ hb
  have key : ∀ (q : Nat) (e : rc_E), va_up (va_up w.1 b none) a (some (.inr (.inr (cap, bs)))) q = some e → (q = a ∧ e = .inr (.inr (cap, bs))) ∨ (q ≠ a ∧ q ≠ b ∧ w.1 q = some e) := by
    intro q e he
    by_cases e1 : q = a
    · subst e1
      simp only [va_up, if_true] at he
      cases he
      exact Or.inl ⟨rfl, rfl⟩
    · by_cases e2 : q = b
      · subst e2
        simp only [va_up, e1, if_false, if_true] at he
        cases he
      · simp only [va_up, e1, e2, if_false] at he
        exact Or.inr ⟨e1, e2, he⟩
  have old : ∀ q : Nat, q ≠ a → rc_isRow (w.1 q) → β q ≠ a ∧ β q ≠ b := by
    intro q _ hq
    obtain ⟨-, s2, -⟩ := hR q hq
    refine ⟨fun e => ?_, fun e => ?_⟩
    · rw [e, ha] at s2
      cases s2
    · rw [e, hb] at s2
      cases s2
  refine ⟨h1, h2, h3, h4, h5, va_up β a b, fun q e he => ?_, fun q hq => ?_⟩
  · rcases key q e he with ⟨rfl, rfl⟩ | ⟨e1, e2, e3⟩
    · refine ⟨g1, ?_⟩
      have e0 : va_up β q b q = b := by simp [va_up]
      show t_OB q _ 2 _ H (fun j => if j = 0 then .ref (va_up β q b q) else _) ∧ _ ∧ ∃ f, H[va_up β q b q]? = _ ∧ _
      rw [e0]
      exact ⟨g2.to (fun k hk => by rcases (show k = 0 ∨ k = 1 by change k < 2 at hk; omega) with rfl | rfl <;> simp [hF0, hF1]), hl, f, g4, hf, hg⟩
    · obtain ⟨s1, s2⟩ := hB q e e3
      exact ⟨s1, s2.beta (fun _ => by simp [va_up, e1])⟩
  · obtain ⟨y, hy⟩ := hq
    rcases key q _ hy with ⟨rfl, -⟩ | ⟨e1, e2, e3⟩
    · have e0 : va_up β q b q = b := by simp [va_up]
      rw [e0]
      refine ⟨r1, ?_, fun q' ⟨y', hy'⟩ e => ?_⟩
      · simp [va_up, hab.symm]
      · rcases key q' _ hy' with ⟨rfl, -⟩ | ⟨d1, d2, d3⟩
        · rfl
        · rw [show va_up β q b q' = β q' by simp [va_up, d1]] at e
          exact absurd e.symm (old q' d1 ⟨y', d3⟩).2
    · have e0 : va_up β a b q = β q := by simp [va_up, e1]
      rw [e0]
      obtain ⟨s1, s2, s3⟩ := hR q ⟨y, e3⟩
      obtain ⟨o1, o2⟩ := old q e1 ⟨y, e3⟩
      refine ⟨s1, by simp only [va_up, o1, o2, if_false]; exact s2, fun q' ⟨y', hy'⟩ e => ?_⟩
      rcases key q' _ hy' with ⟨rfl, -⟩ | ⟨d1, d2, d3⟩
      · rw [show va_up β q' b q' = b by simp [va_up]] at e
        exact absurd e o2
      · rw [show va_up β a b q' = β q' by simp [va_up, d1]] at e
        exact s3 q' ⟨y', d3⟩ e
/-- a contract by way of other worlds of the same heap -/
theorem rc_Ct.via {l : Launch} {G : rc_G} {y : MethodName} {cc : ByteArray} {mL : Nat} {ret : Option FieldType} {fr lo : Nat} {av : List Value} {w : rc_M} {v : Option Value} {w' : rc_M}
    (h : ∀ H : Heap, rc_H G w H → ∃ w1 w2 : rc_M, w1.2 = w.2 ∧ rc_H G w1 H ∧ rc_Ct l G y cc mL ret fr lo av w1 v w2 ∧ ∀ H' : Heap, rc_H G w2 H' → rc_H G w' H') : rc_Ct l G y cc mL ret fr lo av w v w' := by
  intro p e ha hc hk s m args below hf happ hP hK
  obtain ⟨hav, hH, hKK, hT⟩ := hP
  obtain ⟨w1, w2, e1, h1, h2, h3⟩ := h s.heap hH
  have er : rc_rm fr lo w1 = rc_rm fr lo w := by simp only [rc_rm, rc_zc, rc_zs, rc_z, rc_tz, e1]
  have h2' := h2 p e ha hc hk s m args below hf (by rw [er]; exact happ) ⟨hav, h1, hKK, hT⟩ trivial
  obtain ⟨n, o, q1, q2, q3, ⟨q4, q5, q6⟩, L, q7, q8⟩ := h2'
  refine ⟨n, o, q1, q2, q3, ⟨q4, h3 _ q5, q6⟩, L, ?_, q8⟩
  have ec : rc_zc w1 - rc_z w1 = rc_zc w - rc_z w := by simp only [rc_zc, rc_z, e1]
  have es : rc_zs w1 - rc_tz w1 = rc_zs w - rc_tz w := by simp only [rc_zs, rc_tz, e1]
  rw [ec, es] at q7
  exact q7
end
section
section RCO
variable {w : rc_M} {a b cap n : Nat} {f : Nat → Int32}
theorem rc_Op.used (h : rc_Op w a b cap n f) : rc_gI w (some a) 1 1 = some (nI n) := by
  obtain ⟨-, ⟨F, h1, h2, h3⟩, -⟩ := h
  simp [rc_gI, rc_gV, h1, h3]
theorem rc_Op.bytes (h : rc_Op w a b cap n f) : rc_gR w (some a) 1 0 = some (some b) := by
  obtain ⟨-, ⟨F, h1, h2, h3⟩, -⟩ := h
  simp [rc_gR, rc_gV, h1, h2]
theorem rc_Op.rc (h : rc_Op w a b cap n f) : rc_rc w (some a) 1 = some a := by
  obtain ⟨-, ⟨F, h1, h2, h3⟩, -⟩ := h
  simp [rc_rc, rc_isC, h1]
theorem rc_Op.ld (h : rc_Op w a b cap n f) {i : Nat} (hi : i < cap) (hc : cap ≤ 1000000) : rc_aI w (some b) 2 (nI i) = some (f i) := by
  simp [rc_aI, rc_gA, h.2.2, nI_clamp (show i < 2 ^ 31 by omega), nI_pos (show i < 2 ^ 31 by omega)]
  omega
theorem rc_Op.len (h : rc_Op w a b cap n f) : rc_ln w (some b) 2 = some (nI cap) := by simp [rc_ln, rc_gA, h.2.2, nI]
/-- the same but for one object and one array -/
def rc_but (a b : Nat) (w w' : rc_M) : Prop := w'.2 = w.2 ∧ ∀ q, q ≠ a → q ≠ b → w'.1 q = w.1 q
theorem rc_but.rf {a b : Nat} {w : rc_M} : rc_but a b w w := ⟨rfl, fun _ _ _ => rfl⟩
theorem rc_but.tr {a b : Nat} {w w1 w2 : rc_M} (h1 : rc_but a b w w1) (h2 : rc_but a b w1 w2) : rc_but a b w w2 := ⟨h2.1.trans h1.1, fun q q1 q2 => (h2.2 q q1 q2).trans (h1.2 q q1 q2)⟩
theorem rc_Op.put (h : rc_Op w a b cap n f) {v : Int32} (x : Nat) (hv : v = nI x) : ∃ w' : rc_M, rc_pI w (some a) 1 1 v = some w' ∧ rc_Op w' a b cap x f ∧ rc_but a b w w' := by
  subst hv
  obtain ⟨h0, ⟨F, h1, h2, h3⟩, h4⟩ := h
  refine ⟨rc_up w a (.inl (1, updV F 1 (.int (nI x)))), ?_, ⟨h0, ⟨updV F 1 (.int (nI x)), by simp [rc_up, va_up], by simp [updV, h2], by simp [updV]⟩, ?_⟩, rfl, fun q hq _ => ?_⟩
  · simp [rc_pI, rc_pV, h1]
  · simp [rc_up, va_up, h0.symm, h4]
  · simp [rc_up, va_up, hq]
theorem rc_Op.st (h : rc_Op w a b cap n f) {j v : Int32} (i : Nat) (hj : j = nI i) (hi : i < cap) (hc : cap ≤ 1000000) : ∃ w' : rc_M, rc_sI w (some b) 2 j v = some w' ∧ rc_Op w' a b cap n (upd f i (v.toInt8.toInt32)) ∧ rc_but a b w w' := by
  subst hj
  obtain ⟨h0, ⟨F, h1, h2, h3⟩, h4⟩ := h
  refine ⟨rc_up w b (.inr (.inl (2, cap, .inl (upd f i (v.toInt8.toInt32))))), ?_, ⟨h0, ⟨F, by simp [rc_up, va_up, h0, h1], h2, h3⟩, by simp [rc_up, va_up]⟩, rfl, fun q _ hq => ?_⟩
  · have e : ¬ (nI i < 0 ∨ cap ≤ i) := by
      rintro (q | q)
      · exact nI_pos (by omega) q
      · omega
    simp [rc_sI, rc_gA, h4, nI_clamp (show i < 2 ^ 31 by omega), e, rc_nar, vp_nar_byte]
  · simp [rc_up, va_up, hq]
end RCO
/-- how far a row's capacity grows -/
def rc_capN (cap m : Nat) : Nat := if m ≤ cap then cap else max m (max 16 (2 * cap))
theorem rc_max {w : rc_M} (x y : Nat) (hx : x < 2 ^ 31) (hy : y < 2 ^ 31) : f_mat_max w (nI x) (nI y) = some (nI (max x y), w) := by
  unfold f_mat_max b_mat_max_10
  by_cases h : x < y
  · rw [if_pos ((nI_ltI hx hy).mpr h), Nat.max_eq_right (by omega)]
  · rw [if_neg (fun q => h ((nI_ltI hx hy).mp q)), Nat.max_eq_left (by omega)]
theorem rc_min {w : rc_M} (x y : Nat) (hx : x < 2 ^ 31) (hy : y < 2 ^ 31) : f_mat_min w (nI x) (nI y) = some (nI (min x y), w) := by
  unfold f_mat_min b_mat_min_10
  by_cases h : y < x
  · rw [if_pos ((nI_ltI hy hx).mpr h), Nat.min_eq_right (by omega)]
  · rw [if_neg (fun q => h ((nI_ltI hy hx).mp q)), Nat.min_eq_left (by omega)]
def rc_dom (w : rc_M) : Prop := ∀ q, w.1 q ≠ none → q < w.2.1
theorem rc_H.dom {G : rc_G} {w : rc_M} {H : Heap} (h : rc_H G w H) : rc_dom w := by
  intro q hq
  obtain ⟨-, h2, -, -, -, β, hB, -⟩ := h
  cases e : w.1 q with
  | none => exact absurd e hq
  | some x => rw [h2]; exact (hB q x e).2.lt
theorem rc_dom.ne {w : rc_M} (h : rc_dom w) {q : Nat} {e : rc_E} (hq : w.1 q = some e) : q ≠ w.2.1 := Nat.ne_of_lt (h q (by rw [hq]; simp))
theorem rc_fit0 {f : Nat → Int32} (h : sb_Fit f) (i : Nat) : fits .byte (.int (f i)) = true := h i
theorem p_copyOf {w : rc_M} {b cap c : Nat} {f : Nat → Int32} (hb : w.1 b = some (.inr (.inl (2, cap, .inl f)))) (hbz : b ≠ w.2.1) (hf : sb_Fit f) (hcc : cap < c) (hc : c ≤ 1000000) (hr : w.2.1 + 1 ≤ rc_zc w ∧ w.2.2.1 + c ≤ rc_zs w) :
    f_arr_copyOf w (some b) (nI c) = some (some w.2.1, rc_up (rc_push w (.inr (.inl (2, c, .inl (fun _ => 0)))) c) w.2.1 (.inr (.inl (2, c, .inl (va_cpy f (fun _ => 0) 0 0 cap))))) := by
  have e0 : rc_ln w (some b) 2 = some (nI cap) := by simp [rc_ln, rc_gA, hb, nI]
  have e1 : ¬ nI c = nI cap := fun q => by have := (nI_eq (show c < 2 ^ 31 by omega) (show cap < 2 ^ 31 by omega)).mp q; omega
  have e2 : rc_newA w 2 (nI c) = some (w.2.1, rc_push w (.inr (.inl (2, c, .inl (fun _ => 0)))) c) := by
    unfold rc_newA
    rw [if_neg (nI_pos (by omega)), nI_clamp (by omega), if_pos ⟨hr.1, hr.2, hc⟩]
    rfl
  have hb2 : (rc_push w (.inr (.inl (2, c, .inl (fun _ => 0)))) c).1 b = some (.inr (.inl (2, cap, .inl f))) := by simp [rc_push, va_up, hbz, hb]
  have hz2 : (rc_push w (.inr (.inl (2, c, .inl (fun _ => 0)))) c).1 w.2.1 = some (.inr (.inl (2, c, .inl (fun _ => 0)))) := by simp [rc_push, va_up]
  have e3 : rc_ln (rc_push w (.inr (.inl (2, c, .inl (fun _ => 0)))) c) (some b) 2 = some (nI cap) := by simp [rc_ln, rc_gA, hb2, nI]
  have e4 : rc_cp (rc_push w (.inr (.inl (2, c, .inl (fun _ => 0)))) c) (some b) 0 (some w.2.1) 0 (nI cap) = some (rc_up (rc_push w (.inr (.inl (2, c, .inl (fun _ => 0)))) c) w.2.1 (.inr (.inl (2, c, .inl (va_cpy f (fun _ => 0) 0 0 cap))))) := by
    have g1 : rc_gA (rc_push w (.inr (.inl (2, c, .inl (fun _ => 0)))) c) (some b) 2 = some (b, cap, .inl f) := by simp [rc_gA, hb2]
    have g2 : rc_gA (rc_push w (.inr (.inl (2, c, .inl (fun _ => 0)))) c) (some w.2.1) 2 = some (w.2.1, c, .inl (fun _ => 0)) := by simp [rc_gA, hz2]
    unfold rc_cp
    rw [g1, g2]
    have c0 : (0 : Int32).toNatClampNeg = 0 := rfl
    have hne : ¬ ((0 : Int32) < 0 ∨ (0 : Int32) < 0 ∨ nI cap < 0 ∨ cap < (0 : Int32).toNatClampNeg + (nI cap).toNatClampNeg ∨ c < (0 : Int32).toNatClampNeg + (nI cap).toNatClampNeg) := by
      rw [nI_clamp (show cap < 2 ^ 31 by omega), c0]
      rintro (q | q | q | q | q)
      · exact absurd q (by decide)
      · exact absurd q (by decide)
      · exact nI_pos (by omega) q
      · omega
      · omega
    simp only []
    rw [if_neg hne, if_pos (fun i _ => hf _), nI_clamp (show cap < 2 ^ 31 by omega), c0]
  unfold f_arr_copyOf
  simp only [e0, Option.bind_some, e1, if_false, e2, e3, rc_min cap c (by omega) (by omega), Nat.min_eq_left (Nat.le_of_lt hcc), e4]
end
section
theorem rc_capN_big {cap m : Nat} (h : ¬ m ≤ cap) : rc_capN cap m = max m (max 16 (2 * cap)) ∧ cap < rc_capN cap m ∧ m ≤ rc_capN cap m := by
  unfold rc_capN
  rw [if_neg h]
  omega
/-- the world behind a growth: one array more -/
def rc_grown (w : rc_M) (c : Nat) : Nat × Nat × Nat × Nat := (w.2.1 + 1, w.2.2.1 + c, w.2.2.2)
def rc_rest (w : rc_M) (cap m : Nat) : Nat × Nat × Nat × Nat := if m ≤ cap then w.2 else rc_grown w (rc_capN cap m)
def rc_may (w : rc_M) (cap m : Nat) : Prop := m ≤ cap ∨ (w.2.1 + 1 ≤ rc_zc w ∧ w.2.2.1 + rc_capN cap m ≤ rc_zs w ∧ rc_capN cap m ≤ 1000000)
/-- room is made for k bytes more -/
theorem p_makeRoom {w : rc_M} {a b cap n k : Nat} {f : Nat → Int32} (h : rc_Op w a b cap n f) (hd : rc_dom w) (hn : n ≤ cap) (hc : cap ≤ 1000000) (hk : k ≤ 1000000) (hf : sb_Fit f) (hm : rc_may w cap (n + k)) :
    ∃ (w' : rc_M) (b' : Nat) (f' : Nat → Int32), f_row_makeRoom w a (nI k) = some w' ∧ rc_Op w' a b' (rc_capN cap (n + k)) n f' ∧ sb_Fit f' ∧ (∀ i, i < n → f' i = f i) ∧ w'.2 = rc_rest w cap (n + k) ∧ (b' = b ∨ b' = w.2.1) ∧ ∀ q, q ≠ a → q ≠ b → q ≠ b' → w'.1 q = w.1 q := by
  have e1 : nI n + nI k = nI (n + k) := nI_add n k
  by_cases hle : n + k ≤ cap
  · refine ⟨w, b, f, ?_, ?_, hf, fun _ _ => rfl, by simp [rc_rest, hle], Or.inl rfl, fun _ _ _ _ => rfl⟩
    · unfold f_row_makeRoom b_row_makeRoom_45
      simp only [h.used, h.bytes, h.len, Option.bind_some, e1]
      rw [if_pos (nI_le hle (by omega))]
    · rw [show rc_capN cap (n + k) = cap by simp [rc_capN, hle]]
      exact h
  · obtain ⟨m1, m2, m3⟩ := hm.resolve_left hle
    obtain ⟨c1, c2, c3⟩ := rc_capN_big hle
    obtain ⟨h0, ⟨F, h1, h2, h3⟩, h4⟩ := id h
    have haz : a ≠ w.2.1 := hd.ne h1
    have hbz : b ≠ w.2.1 := hd.ne h4
    have e2 : (2 : Int32) * nI cap = nI (2 * cap) := pk_mul 2 cap
    have e3 := p_copyOf (w := w) h4 hbz hf c2 m3 ⟨m1, m2⟩
    generalize hC : rc_capN cap (n + k) = c at *
    generalize hW : rc_up (rc_push w (.inr (.inl (2, c, .inl (fun _ => 0)))) c) w.2.1 (.inr (.inl (2, c, .inl (va_cpy f (fun _ => 0) 0 0 cap)))) = W at e3
    have hWa : W.1 a = some (.inl (1, F)) := by rw [← hW]; simp [rc_up, rc_push, va_up, haz, h1]
    have hWz : W.1 w.2.1 = some (.inr (.inl (2, c, .inl (va_cpy f (fun _ => 0) 0 0 cap)))) := by rw [← hW]; simp [rc_up, va_up]
    refine ⟨rc_up W a (.inl (1, updV F 0 (.ref w.2.1))), w.2.1, va_cpy f (fun _ => 0) 0 0 cap, ?_, ⟨haz, ⟨updV F 0 (.ref w.2.1), by simp [rc_up, va_up], by simp [updV], by simp [updV, h3]⟩, ?_⟩, sb_fitC hf sb_fit0, fun i hi => sb_cpy0 (by omega), ?_, Or.inr rfl, fun q q1 q2 q3 => ?_⟩
    · unfold f_row_makeRoom b_row_makeRoom_45
      simp only [h.used, h.bytes, h.len, Option.bind_some, e1]
      rw [if_neg (nI_ge (by omega) (by omega))]
      have e4 : f_mat_max w 16 (2 * nI cap) = some (nI (max 16 (2 * cap)), w) := by rw [e2]; exact rc_max 16 (2 * cap) (by omega) (by omega)
      simp only [e4, Option.bind_some, h.bytes]
      rw [rc_max (n + k) (max 16 (2 * cap)) (by omega) (by omega), ← c1]
      simp only [Option.bind_some, e3]
      simp [rc_pR, rc_pV, hWa, va_rf]
    · simp [rc_up, va_up, haz.symm, hWz]
    · rw [show (rc_up W a (.inl (1, updV F 0 (.ref w.2.1)))).2 = W.2 from rfl, ← hW]
      simp [rc_up, rc_push, rc_rest, hle, rc_grown, hC]
    · rw [← hW]
      simp [rc_up, rc_push, va_up, q1, q3]
/-- bytes behind the bytes of a row -/
def rc_app (w : rc_M) (a : Nat) (l : List UInt8) : Option rc_M := (rc_row w a).bind fun x =>
  if x.2.length + l.length ≤ x.1 then some (rc_setRow w a (x.1, x.2 ++ l))
  else if w.2.1 + 1 ≤ rc_zc w ∧ w.2.2.1 + rc_capN x.1 (x.2.length + l.length) ≤ rc_zs w ∧ rc_capN x.1 (x.2.length + l.length) ≤ 1000000 then some (va_up w.1 a (some (.inr (.inr (rc_capN x.1 (x.2.length + l.length), x.2 ++ l)))), rc_grown w (rc_capN x.1 (x.2.length + l.length)))
  else none
theorem rc_app_spec {w w' : rc_M} {a : Nat} {l : List UInt8} (h : rc_app w a l = some w') : ∃ x : Nat × List UInt8, rc_row w a = some x ∧ rc_may w x.1 (x.2.length + l.length) ∧ w' = (va_up w.1 a (some (.inr (.inr (rc_capN x.1 (x.2.length + l.length), x.2 ++ l)))), rc_rest w x.1 (x.2.length + l.length)) := by
  unfold rc_app at h
  obtain ⟨x, hx, h⟩ := Option.bind_eq_some_iff.mp h
  refine ⟨x, hx, ?_⟩
  split at h
  · rename_i hle
    cases h
    exact ⟨Or.inl hle, by simp [rc_setRow, rc_up, rc_capN, rc_rest, hle]⟩
  · rename_i hle
    split at h
    · rename_i hr
      cases h
      exact ⟨Or.inr hr, by simp [rc_rest, hle]⟩
    · cases h
theorem rc_app_ct {l0 : Launch} {G : rc_G} {y : MethodName} {cc : ByteArray} {mL : Nat} {ret : Option FieldType} {fr lo : Nat} {av : List Value} {w w' : rc_M} {v : Option Value} {a : Nat} {l : List UInt8} (happ : rc_app w a l = some w')
    (hraw : ∀ (x : Nat × List UInt8) (w1 : rc_M) (b : Nat) (f : Nat → Int32), rc_row w a = some x → rc_Op w1 a b x.1 x.2.length f → sb_Fit f → rc_agr x.2 f → x.2.length ≤ x.1 → rc_dom w1 → w1.2 = w.2 → (∀ q, q ≠ a → q ≠ b → w1.1 q = w.1 q) → rc_may w1 x.1 (x.2.length + l.length) →
      ∃ (w2 : rc_M) (b' : Nat) (f' : Nat → Int32), rc_Ct l0 G y cc mL ret fr lo av w1 v w2 ∧ rc_Op w2 a b' (rc_capN x.1 (x.2.length + l.length)) (x.2.length + l.length) f' ∧ sb_Fit f' ∧ rc_agr (x.2 ++ l) f' ∧ w2.2 = rc_rest w1 x.1 (x.2.length + l.length) ∧ (b' = b ∨ b' = w1.2.1) ∧ ∀ q, q ≠ a → q ≠ b → q ≠ b' → w2.1 q = w1.1 q) : rc_Ct l0 G y cc mL ret fr lo av w v w' := by
  obtain ⟨x, hx, hm, rfl⟩ := rc_app_spec happ
  obtain ⟨hr, hcap⟩ := rc_row_spec hx
  refine rc_Ct.via fun H hH => ?_
  obtain ⟨b, f, hab, hb, hlen, hf, hg, hH1⟩ := hH.opened hr
  have hq1 : ∀ q, q ≠ a → q ≠ b → (rc_opn w a b x.1 x.2.length f).1 q = w.1 q := fun q q1 q2 => by simp [rc_opn, va_up, q1, q2]
  obtain ⟨w2, b', f', k1, k2, k3, k4, k5, k6, k7⟩ := hraw x _ b f hx (rc_opn_op hab) hf hg hlen hH1.dom rfl hq1 hm
  refine ⟨rc_opn w a b x.1 x.2.length f, w2, rfl, hH1, k1, fun H' hH' => ?_⟩
  have hle : (x.2 ++ l).length ≤ rc_capN x.1 (x.2.length + l.length) := by
    rw [List.length_append]
    unfold rc_capN
    split <;> omega
  have hc := hH'.closed (bs := x.2 ++ l) (by rw [List.length_append]; exact k2) hle k3 k4
  refine hc.less ?_ (fun q e he => ?_)
  · exact k5.symm
  · by_cases e1 : q = a
    · subst e1
      simp only [va_up, if_true] at he ⊢
      exact he
    · have he' : w.1 q = some e := by simpa [va_up, e1] using he
      have e2 : q ≠ b := fun z => by rw [z, hb] at he'; cases he'
      have e3 : q ≠ b' := by
        rcases k6 with rfl | rfl
        · exact e2
        · exact hH.dom.ne he'
      have : w2.1 q = some e := by rw [k7 q e1 e2 e3, hq1 q e1 e2]; exact he'
      simp [va_up, e1, e3, this]
theorem rc_agr_app {bs : List UInt8} {x : UInt8} {f g : Nat → Int32} (h : rc_agr bs f) (hg : ∀ i, i < bs.length → g i = f i) (hx : g bs.length = rc_sx x) : rc_agr (bs ++ [x]) g := by
  intro i y hy
  by_cases hi : i < bs.length
  · rw [List.getElem?_append_left hi] at hy
    rw [hg i hi]
    exact h i y hy
  · have : i = bs.length := by
      have := (List.getElem?_eq_some_iff.mp hy).1
      simp at this
      omega
    subst this
    simp at hy
    subst hy
    exact hx
theorem rc_fitB (x : Int32) : fits .byte (.int x.toInt8.toInt32) = true := pk_fb x
def g_row_add (w : rc_M) (a : Nat) (x : Int32) : Option rc_M := rc_app w a [rc_lowb x]
theorem rc_b2 (x : Int32) : x.toInt8.toInt32.toInt8.toInt32 = x.toInt8.toInt32 := by simp
theorem cg_row_add {l : Launch} {G : rc_G} {w : rc_M} {a0 : Nat} {x1 : Int32} {res : rc_M} (h : g_row_add w a0 x1 = some res) : rc_Ct l G y_row_add prog_6_method_8_code 2 none 3 71 [va_rf (some a0), .int x1] w none res := by
  refine rc_app_ct h ?_
  intro x w1 b f hx ho hf hg hlen hd hz hq hm
  have hcap := (rc_row_spec hx).2
  obtain ⟨w2, b2, f2, p1, p2, p3, p4, p5, p6, p7⟩ := p_makeRoom (k := 1) ho hd hlen hcap (by omega) hf hm
  have hc2 : rc_capN x.1 (x.2.length + 1) ≤ 1000000 := by
    rcases hm with hm | hm
    · simp only [List.length_singleton] at hm
      unfold rc_capN; rw [if_pos hm]; exact hcap
    · exact hm.2.2
  have hlt : x.2.length < rc_capN x.1 (x.2.length + 1) := by unfold rc_capN; split <;> omega
  obtain ⟨w3, s1, s2, s3⟩ := p2.st (j := nI x.2.length) (v := x1.toInt8.toInt32) x.2.length rfl hlt hc2
  obtain ⟨w4, t1, t2, t3⟩ := s2.put (v := nI x.2.length + 1) (x.2.length + 1) (nI_1 _)
  have hrun : f_row_add w1 a0 x1 = some w4 := by
    unfold f_row_add
    simp only [ho.rc, Option.bind_some, show (1 : Int32) = nI 1 from rfl, p1, p2.bytes, p2.used]
    rw [s1]
    simp only [Option.bind_some, s2.used]
    rw [show nI x.2.length + nI 1 = nI x.2.length + 1 from rfl, t1]
    rfl
  refine ⟨w4, b2, _, ct_row_add hrun, t2, sb_fitU p3 (by rw [rc_b2]; exact pk_fb x1), ?_, ?_, p6, fun q q1 q2 q3 => ?_⟩
  · refine rc_agr_app hg (fun i hi => ?_) ?_
    · rw [pk_un (by omega), p4 i hi]
    · rw [pk_us, rc_sx_low, rc_b2]
  · rw [t3.1, s3.1, p5]; rfl
  · rw [t3.2 q q1 q3, s3.2 q q1 q3, p7 q q1 q2 q3]
end
section
theorem rc_agr_snoc {bs l : List UInt8} {f g : Nat → Int32} (h : rc_agr bs f) (hg : ∀ i, i < bs.length → g i = f i) (hx : ∀ (i : Nat) (x : UInt8), l[i]? = some x → g (bs.length + i) = rc_sx x) : rc_agr (bs ++ l) g := by
  intro i y hy
  by_cases hi : i < bs.length
  · rw [List.getElem?_append_left hi] at hy
    rw [hg i hi]
    exact h i y hy
  · rw [List.getElem?_append_right (by omega)] at hy
    have := hx _ _ hy
    rwa [show bs.length + (i - bs.length) = i by omega] at this
def rc_sh (x : Int32) (k : Int32) : Int32 := (x.toUInt32 >>> (k.toUInt32 &&& Int32.toUInt32 31)).toInt32
/-- the four bytes of a word -/
def rc_bw (x : Int32) : List UInt8 := [rc_lowb (rc_sh x 24), rc_lowb (rc_sh x 16), rc_lowb (rc_sh x 8), rc_lowb x]
def g_row_addWord (w : rc_M) (a : Nat) (x : Int32) : Option rc_M := rc_app w a (rc_bw x)
theorem cg_row_addWord {l : Launch} {G : rc_G} {w : rc_M} {a0 : Nat} {x1 : Int32} {res : rc_M} (h : g_row_addWord w a0 x1 = some res) : rc_Ct l G y_row_addWord prog_6_method_9_code 2 none 3 71 [va_rf (some a0), .int x1] w none res := by
  refine rc_app_ct h ?_
  intro x w1 b f hx ho hf hg hlen hd hz hq hm
  have hcap := (rc_row_spec hx).2
  have hL : (rc_bw x1).length = 4 := rfl
  rw [hL] at hm ⊢
  obtain ⟨w2, b2, f2, p1, p2, p3, p4, p5, p6, p7⟩ := p_makeRoom (k := 4) ho hd hlen hcap (by omega) hf hm
  generalize hn : x.2.length = n at *
  have hc2 : rc_capN x.1 (n + 4) ≤ 1000000 := by
    rcases hm with hm | hm
    · unfold rc_capN; rw [if_pos hm]; exact hcap
    · exact hm.2.2
  have hlt : n + 4 ≤ rc_capN x.1 (n + 4) := by unfold rc_capN; split <;> omega
  obtain ⟨w3, s1, s2, s3⟩ := p2.st (j := nI n) (v := (rc_sh x1 24).toInt8.toInt32) n rfl (by omega) hc2
  obtain ⟨w4, t1, t2, t3⟩ := s2.st (j := nI n + 1) (v := (rc_sh x1 16).toInt8.toInt32) (n + 1) (nI_add n 1) (by omega) hc2
  obtain ⟨w5, u1, u2, u3⟩ := t2.st (j := nI n + 2) (v := (rc_sh x1 8).toInt8.toInt32) (n + 2) (nI_add n 2) (by omega) hc2
  obtain ⟨w6, v1, v2, v3⟩ := u2.st (j := nI n + 3) (v := x1.toInt8.toInt32) (n + 3) (nI_add n 3) (by omega) hc2
  obtain ⟨w7, z1, z2, z3⟩ := v2.put (v := nI n + 4) (n + 4) (nI_add n 4)
  have hrun : f_row_addWord w1 a0 x1 = some w7 := by
    unfold f_row_addWord
    simp only [rc_sh] at s1 t1 u1
    simp only [ho.rc, Option.bind_some]
    rw [show f_row_makeRoom w1 a0 4 = some w2 from p1]
    simp only [Option.bind_some, p2.bytes, p2.used]
    rw [s1]
    simp only [Option.bind_some, s2.bytes, s2.used]
    rw [t1]
    simp only [Option.bind_some, t2.bytes, t2.used]
    rw [u1]
    simp only [Option.bind_some, u2.bytes, u2.used]
    rw [v1]
    simp only [Option.bind_some, v2.used]
    rw [z1]
    rfl
  refine ⟨w7, b2, _, ct_row_addWord hrun, z2, ?_, ?_, ?_, p6, fun q q1 q2 q3 => ?_⟩
  · exact sb_fitU (sb_fitU (sb_fitU (sb_fitU p3 (by rw [rc_b2]; exact pk_fb _)) (by rw [rc_b2]; exact pk_fb _)) (by rw [rc_b2]; exact pk_fb _)) (by rw [rc_b2]; exact pk_fb _)
  · refine rc_agr_snoc hg (fun i hi => ?_) (fun i y hy => ?_)
    · rw [hn] at hi
      rw [pk_un (by omega), pk_un (by omega), pk_un (by omega), pk_un (by omega), p4 i hi]
    · rw [hn]
      unfold rc_bw at hy
      rcases i with _ | _ | _ | _ | i
      · simp at hy; subst hy
        rw [pk_un (by omega), pk_un (by omega), pk_un (by omega), Nat.add_zero, pk_us, rc_b2, rc_sx_low]
      · simp at hy; subst hy
        rw [pk_un (by omega), pk_un (by omega), pk_us, rc_b2, rc_sx_low]
      · simp at hy; subst hy
        rw [pk_un (by omega), pk_us, rc_b2, rc_sx_low]
      · simp at hy; subst hy
        rw [pk_us, rc_b2, rc_sx_low]
      · simp at hy
  · rw [z3.1, v3.1, u3.1, t3.1, s3.1, p5]
  · rw [z3.2 q q1 q3, v3.2 q q1 q3, u3.2 q q1 q3, t3.2 q q1 q3, s3.2 q q1 q3, p7 q q1 q2 q3]
/-- reading a row: the world stays -/
theorem rc_rd_ct {l0 : Launch} {G : rc_G} {y : MethodName} {cc : ByteArray} {mL : Nat} {ret : Option FieldType} {fr lo : Nat} {av : List Value} {w : rc_M} {v : Option Value} {a : Nat} {x : Nat × List UInt8} (hx : rc_row w a = some x)
    (hraw : ∀ (w1 : rc_M) (b : Nat) (f : Nat → Int32), rc_Op w1 a b x.1 x.2.length f → rc_agr x.2 f → x.2.length ≤ x.1 → rc_Ct l0 G y cc mL ret fr lo av w1 v w1) : rc_Ct l0 G y cc mL ret fr lo av w v w := by
  obtain ⟨hr, hcap⟩ := rc_row_spec hx
  refine rc_Ct.via fun H hH => ?_
  obtain ⟨b, f, hab, hb, hlen, hf, hg, hH1⟩ := hH.opened hr
  refine ⟨rc_opn w a b x.1 x.2.length f, rc_opn w a b x.1 x.2.length f, rfl, hH1, hraw _ b f (rc_opn_op hab) hg hlen, fun H' hH' => ?_⟩
  refine (hH'.closed (bs := x.2) (rc_opn_op hab) hlen hf hg).less rfl (fun q e he => ?_)
  by_cases e1 : q = a
  · subst e1
    simp only [va_up, if_true]
    rw [hr] at he
    exact he
  · have e2 : q ≠ b := fun z => by rw [z, hb] at he; cases he
    simp [va_up, e1, e2, rc_opn, he]
def g_row_size (w : rc_M) (a : Nat) : Option (Int32 × rc_M) := (rc_row w a).bind fun x => some (nI x.2.length, w)
theorem cg_row_size {l : Launch} {G : rc_G} {w : rc_M} {a0 : Nat} {res : Int32 × rc_M} (h : g_row_size w a0 = some res) : rc_Ct l G y_row_size prog_6_method_2_code 1 (some .int) 0 0 [va_rf (some a0)] w (some (.int res.1)) res.2 := by
  obtain ⟨x, hx, h⟩ := Option.bind_eq_some_iff.mp h
  cases h
  refine rc_rd_ct hx fun w1 b f ho hg hl => ct_row_size (res := (nI x.2.length, w1)) ?_
  unfold f_row_size
  simp [ho.used]
theorem rc_agr_get {bs : List UInt8} {f : Nat → Int32} (h : rc_agr bs f) {i : Nat} (hi : i < bs.length) : f i &&& 255 = rc_u (bs.getD i 0) := by
  have e : bs[i]? = some (bs.getD i 0) := by simp [List.getD, hi]
  rw [h i _ e, rc_u_sx]
def rc_atR (bs : List UInt8) (i : Int32) : Int32 := if i < 0 then 0 else if nI bs.length ≤ i then 0 else rc_u (bs.getD i.toNatClampNeg 0)
def g_row_at (w : rc_M) (a : Nat) (i : Int32) : Option (Int32 × rc_M) := (rc_row w a).bind fun x => some (rc_atR x.2 i, w)
theorem p_at {w : rc_M} {a b : Nat} {x : Nat × List UInt8} {f : Nat → Int32} (ho : rc_Op w a b x.1 x.2.length f) (hg : rc_agr x.2 f) (hl : x.2.length ≤ x.1) (hcap : x.1 ≤ 1000000) (i : Int32) : f_row_at w a i = some (rc_atR x.2 i, w) := by
  unfold f_row_at b_row_at_25 b_row_at_26 rc_atR
  by_cases c1 : i < 0
  · simp [c1]
  · simp only [c1, if_false, ho.used, Option.bind_some]
    by_cases c2 : nI x.2.length ≤ i
    · simp [c2]
    · simp only [c2, if_false, ho.bytes, Option.bind_some]
      obtain ⟨j, hj, rfl⟩ := nI_of c1
      have hlt : j < x.2.length := by
        apply Nat.lt_of_not_le
        intro q
        exact c2 (nI_le q hj)
      rw [ho.ld (by omega) hcap]
      simp only [Option.bind_some, nI_clamp hj, rc_agr_get hg hlt]
theorem cg_row_at {l : Launch} {G : rc_G} {w : rc_M} {a0 : Nat} {x1 : Int32} {res : Int32 × rc_M} (h : g_row_at w a0 x1 = some res) : rc_Ct l G y_row_at prog_6_method_5_code 2 (some .int) 0 0 [va_rf (some a0), .int x1] w (some (.int res.1)) res.2 := by
  obtain ⟨x, hx, h⟩ := Option.bind_eq_some_iff.mp h
  cases h
  exact rc_rd_ct hx fun w1 b f ho hg hl => ct_row_at (res := (rc_atR x.2 x1, w1)) (p_at ho hg hl (rc_row_spec hx).2 x1)
end
section
theorem rc_subI {m : Nat} {x : Int32} (hm : m ≤ 2 ^ 30) (hx : ¬ x < 0) : (nI m - x).toInt = (m : Int) - x.toInt := by
  obtain ⟨j, hj, rfl⟩ := nI_of hx
  rw [Int32.toInt_sub, nI_toInt (by omega), nI_toInt hj]
  exact Int.bmod_eq_of_le (by omega) (by omega)
/-- the word of four bytes -/
def rc_w4 (b0 b1 b2 b3 : UInt8) : Int32 := (((rc_u b0 <<< ((24 : Int32) &&& 31)) ||| (rc_u b1 <<< ((16 : Int32) &&& 31))) ||| (rc_u b2 <<< ((8 : Int32) &&& 31))) ||| rc_u b3
def rc_wd (bs : List UInt8) (i : Nat) : Int32 := rc_w4 (bs.getD i 0) (bs.getD (i + 1) 0) (bs.getD (i + 2) 0) (bs.getD (i + 3) 0)
def rc_wdR (bs : List UInt8) (i : Int32) : Int32 := if i < 0 then 0 else if bs.length < i.toNatClampNeg + 4 then 0 else rc_wd bs i.toNatClampNeg
def g_row_wordAt (w : rc_M) (a : Nat) (i : Int32) : Option (Int32 × rc_M) := (rc_row w a).bind fun x => some (rc_wdR x.2 i, w)
theorem p_wordAt {w : rc_M} {a b : Nat} {x : Nat × List UInt8} {f : Nat → Int32} (ho : rc_Op w a b x.1 x.2.length f) (hg : rc_agr x.2 f) (hl : x.2.length ≤ x.1) (hcap : x.1 ≤ 1000000) (i : Int32) : f_row_wordAt w a i = some (rc_wdR x.2 i, w) := by
  unfold f_row_wordAt b_row_wordAt_14 rc_wdR
  by_cases c1 : i < 0
  · simp [c1]
  · simp only [c1, if_false, ho.used, Option.bind_some]
    obtain ⟨j, hj, rfl⟩ := nI_of c1
    rw [nI_clamp hj]
    have hiff : nI j ≤ nI x.2.length - 4 ↔ ¬ x.2.length < j + 4 := by
      rw [Int32.le_iff_toInt_le, nI_toInt hj, rc_subI (by omega) (by decide), show (4 : Int32).toInt = 4 from by decide]
      omega
    by_cases c2 : x.2.length < j + 4
    · rw [if_neg (fun q => hiff.mp q c2), if_pos c2]
    · rw [if_pos (hiff.mpr c2), if_neg c2]
      simp only [ho.bytes, Option.bind_some]
      rw [ho.ld (show j < x.1 by omega) hcap]
      simp only [Option.bind_some]
      rw [show nI j + 1 = nI (j + 1) from nI_add j 1, ho.ld (show j + 1 < x.1 by omega) hcap]
      simp only [Option.bind_some]
      rw [show nI j + 2 = nI (j + 2) from nI_add j 2, ho.ld (show j + 2 < x.1 by omega) hcap]
      simp only [Option.bind_some]
      rw [show nI j + 3 = nI (j + 3) from nI_add j 3, ho.ld (show j + 3 < x.1 by omega) hcap]
      simp only [Option.bind_some]
      rw [rc_agr_get hg (show j < x.2.length by omega), rc_agr_get hg (show j + 1 < x.2.length by omega), rc_agr_get hg (show j + 2 < x.2.length by omega), rc_agr_get hg (show j + 3 < x.2.length by omega)]
      rfl
theorem cg_row_wordAt {l : Launch} {G : rc_G} {w : rc_M} {a0 : Nat} {x1 : Int32} {res : Int32 × rc_M} (h : g_row_wordAt w a0 x1 = some res) : rc_Ct l G y_row_wordAt prog_6_method_6_code 2 (some .int) 0 0 [va_rf (some a0), .int x1] w (some (.int res.1)) res.2 := by
  obtain ⟨x, hx, h⟩ := Option.bind_eq_some_iff.mp h
  cases h
  exact rc_rd_ct hx fun w1 b f ho hg hl => ct_row_wordAt (res := (rc_wdR x.2 x1, w1)) (p_wordAt ho hg hl (rc_row_spec hx).2 x1)
/-- a row is shorter -/
theorem rc_cut_ct {l0 : Launch} {G : rc_G} {y : MethodName} {cc : ByteArray} {mL : Nat} {ret : Option FieldType} {fr lo : Nat} {av : List Value} {w : rc_M} {v : Option Value} {a : Nat} {x : Nat × List UInt8} (m : Nat) (hx : rc_row w a = some x) (hm : m ≤ x.2.length)
    (hraw : ∀ (w1 : rc_M) (b : Nat) (f : Nat → Int32), rc_Op w1 a b x.1 x.2.length f → ∃ w2, rc_Ct l0 G y cc mL ret fr lo av w1 v w2 ∧ rc_Op w2 a b x.1 m f ∧ rc_but a b w1 w2) : rc_Ct l0 G y cc mL ret fr lo av w v (rc_setRow w a (x.1, x.2.take m)) := by
  obtain ⟨hr, hcap⟩ := rc_row_spec hx
  refine rc_Ct.via fun H hH => ?_
  obtain ⟨b, f, hab, hb, hlen, hf, hg, hH1⟩ := hH.opened hr
  obtain ⟨w2, k1, k2, k3⟩ := hraw _ b f (rc_opn_op hab)
  refine ⟨rc_opn w a b x.1 x.2.length f, w2, rfl, hH1, k1, fun H' hH' => ?_⟩
  have hlm : (x.2.take m).length = m := by rw [List.length_take]; omega
  refine (hH'.closed (bs := x.2.take m) (by rw [hlm]; exact k2) (by omega) hf (fun i z hz => ?_)).less ?_ (fun q e he => ?_)
  · rw [List.getElem?_take] at hz
    split at hz
    · exact hg i z hz
    · cases hz
  · show w.2 = w2.2
    rw [k3.1]
    rfl
  · by_cases e1 : q = a
    · subst e1
      simp only [rc_setRow, rc_up, va_up, if_true] at he ⊢
      exact he
    · have he' : w.1 q = some e := by simpa [rc_setRow, rc_up, va_up, e1] using he
      have e2 : q ≠ b := fun z => by rw [z, hb] at he'; cases he'
      have : w2.1 q = some e := by rw [k3.2 q e1 e2]; simp [rc_opn, va_up, e1, e2, he']
      simp [va_up, e1, e2, this]
def g_row_clear (w : rc_M) (a : Nat) : Option rc_M := (rc_row w a).bind fun x => some (rc_setRow w a (x.1, []))
theorem cg_row_clear {l : Launch} {G : rc_G} {w : rc_M} {a0 : Nat} {res : rc_M} (h : g_row_clear w a0 = some res) : rc_Ct l G y_row_clear prog_6_method_3_code 1 none 0 0 [va_rf (some a0)] w none res := by
  obtain ⟨x, hx, h⟩ := Option.bind_eq_some_iff.mp h
  cases h
  have := rc_cut_ct (l0 := l) (G := G) (y := y_row_clear) (cc := prog_6_method_3_code) (mL := 1) (ret := none) (fr := 0) (lo := 0) (av := [va_rf (some a0)]) (v := none) 0 hx (Nat.zero_le _) (fun w1 b f ho => by
    obtain ⟨w2, s1, s2, s3⟩ := ho.put (v := 0) 0 rfl
    exact ⟨w2, ct_row_clear (by unfold f_row_clear; rw [s1]; rfl), s2, s3⟩)
  simpa using this
def g_row_cutTo (w : rc_M) (a : Nat) (m : Int32) : Option rc_M := (rc_row w a).bind fun x => if m < 0 then some w else if nI x.2.length ≤ m then some w else some (rc_setRow w a (x.1, x.2.take m.toNatClampNeg))
theorem cg_row_cutTo {l : Launch} {G : rc_G} {w : rc_M} {a0 : Nat} {x1 : Int32} {res : rc_M} (h : g_row_cutTo w a0 x1 = some res) : rc_Ct l G y_row_cutTo prog_6_method_4_code 2 none 0 0 [va_rf (some a0), .int x1] w none res := by
  obtain ⟨x, hx, h⟩ := Option.bind_eq_some_iff.mp h
  by_cases c1 : x1 < 0
  · rw [if_pos c1] at h
    cases h
    exact rc_rd_ct hx fun w1 b f ho hg hl => ct_row_cutTo (by unfold f_row_cutTo b_row_cutTo_17; rw [if_pos c1])
  · rw [if_neg c1] at h
    by_cases c2 : nI x.2.length ≤ x1
    · rw [if_pos c2] at h
      cases h
      exact rc_rd_ct hx fun w1 b f ho hg hl => ct_row_cutTo (by unfold f_row_cutTo b_row_cutTo_17; rw [if_neg c1, ho.used]; simp only [Option.bind_some]; rw [if_pos c2])
    · rw [if_neg c2] at h
      cases h
      obtain ⟨j, hj, rfl⟩ := nI_of c1
      rw [nI_clamp hj]
      have hlt : j < x.2.length := by
        apply Nat.lt_of_not_le
        intro q
        exact c2 (nI_le q hj)
      exact rc_cut_ct j hx (by omega) (fun w1 b f ho => by
        obtain ⟨w2, s1, s2, s3⟩ := ho.put (v := nI j) j rfl
        exact ⟨w2, ct_row_cutTo (by unfold f_row_cutTo b_row_cutTo_17; rw [if_neg c1, ho.used]; simp only [Option.bind_some]; rw [if_neg c2, s1]; rfl), s2, s3⟩)
/-- a new row -/
def g_row_init (w : rc_M) (a : Nat) : Option rc_M := match w.1 a with
  | some (.inl (1, _)) => if w.2.1 + 1 ≤ rc_zc w ∧ w.2.2.1 ≤ rc_zs w ∧ a ≠ w.2.1 then some (va_up w.1 a (some (.inr (.inr (0, [])))), w.2.1 + 1, w.2.2.1, w.2.2.2) else none
  | _ => none
theorem cg_row_init {l : Launch} {G : rc_G} {w : rc_M} {a0 : Nat} {res : rc_M} (h : g_row_init w a0 = some res) : rc_Ct l G y_row_init prog_6_method_1_code 1 none 1 20 [va_rf (some a0)] w none res := by
  unfold g_row_init at h
  split at h
  · rename_i F hF
    split at h
    · rename_i hr
      cases h
      obtain ⟨r1, r2, r3⟩ := hr
      have e2 : rc_newA w 2 0 = some (w.2.1, rc_push w (.inr (.inl (2, 0, .inl (fun _ => 0)))) 0) := by
        unfold rc_newA
        rw [if_neg (by decide), show (0 : Int32).toNatClampNeg = 0 from rfl, if_pos ⟨r1, r2, by decide⟩]
        rfl
      refine rc_Ct.via fun H hH => ?_
      generalize hP : rc_push w (.inr (.inl (2, 0, .inl (fun _ => 0)))) 0 = P at e2
      have hPa : P.1 a0 = some (.inl (1, F)) := by rw [← hP]; simp [rc_push, va_up, r3, hF]
      have hPz : P.1 w.2.1 = some (.inr (.inl (2, 0, .inl (fun _ => 0)))) := by rw [← hP]; simp [rc_push, va_up]
      have hrun : f_row_init w a0 = some (rc_up (rc_up P a0 (.inl (1, updV F 0 (.ref w.2.1)))) a0 (.inl (1, updV (updV F 0 (.ref w.2.1)) 1 (.int 0)))) := by
        unfold f_row_init
        simp only [e2, Option.bind_some]
        simp [rc_pR, rc_pI, rc_pV, hPa, rc_up, va_up, va_rf]
      refine ⟨w, _, rfl, hH, ct_row_init hrun, fun H' hH' => ?_⟩
      refine (hH'.closed (a := a0) (b := w.2.1) (cap := 0) (f := fun _ => 0) (bs := []) ⟨r3, ⟨updV (updV F 0 (.ref w.2.1)) 1 (.int 0), by simp [rc_up, va_up], by simp [updV], by simp [updV, nI_0]⟩, by simp [rc_up, va_up, r3.symm, hPz]⟩ (Nat.le_refl 0) sb_fit0 (fun i z hz => by simp at hz)).less ?_ (fun q e he => ?_)
      · rw [← hP]; rfl
      · by_cases e1 : q = a0
        · subst e1
          simp only [va_up, if_true] at he ⊢
          exact he
        · have he' : w.1 q = some e := by simpa [va_up, e1] using he
          have e3 : q ≠ w.2.1 := hH.dom.ne he'
          rw [← hP]
          simp [va_up, e1, e3, rc_up, rc_push, he']
    · cases h
  · cases h
end
section
theorem rc_rd_ct2 {l0 : Launch} {G : rc_G} {y : MethodName} {cc : ByteArray} {mL : Nat} {ret : Option FieldType} {fr lo : Nat} {av : List Value} {w : rc_M} {v : Option Value} {a : Nat} {x : Nat × List UInt8} (hx : rc_row w a = some x)
    (hraw : ∀ (w1 : rc_M) (b : Nat) (f : Nat → Int32), rc_Op w1 a b x.1 x.2.length f → rc_agr x.2 f → sb_Fit f → x.2.length ≤ x.1 → w.1 b = none → (∀ q, q ≠ a → q ≠ b → w1.1 q = w.1 q) → rc_Ct l0 G y cc mL ret fr lo av w1 v w1) : rc_Ct l0 G y cc mL ret fr lo av w v w := by
  obtain ⟨hr, hcap⟩ := rc_row_spec hx
  refine rc_Ct.via fun H hH => ?_
  obtain ⟨b, f, hab, hb, hlen, hf, hg, hH1⟩ := hH.opened hr
  refine ⟨rc_opn w a b x.1 x.2.length f, rc_opn w a b x.1 x.2.length f, rfl, hH1, hraw _ b f (rc_opn_op hab) hg hf hlen hb (fun q q1 q2 => by simp [rc_opn, va_up, q1, q2]), fun H' hH' => ?_⟩
  refine (hH'.closed (bs := x.2) (rc_opn_op hab) hlen hf hg).less rfl (fun q e he => ?_)
  by_cases e1 : q = a
  · subst e1
    simp only [va_up, if_true]
    rw [hr] at he
    exact he
  · have e2 : q ≠ b := fun z => by rw [z, hb] at he; cases he
    simp [va_up, e1, e2, rc_opn, he]
theorem rc_row_of {w : rc_M} {a : Nat} {x : Nat × List UInt8} (h : w.1 a = some (.inr (.inr x))) (hc : x.1 ≤ 1000000) : rc_row w a = some x := by simp [rc_row, h, hc]
theorem rc_Op.keep {w w1 : rc_M} {a b cap n a' b' : Nat} {f : Nat → Int32} {x : Nat × List UInt8} (h : rc_Op w a b cap n f) (ha' : w.1 a' = some (.inr (.inr x))) (hb' : w.1 b' = none) (hq : ∀ q, q ≠ a' → q ≠ b' → w1.1 q = w.1 q) : rc_Op w1 a b cap n f := by
  obtain ⟨h0, ⟨F, h1, h2, h3⟩, h4⟩ := h
  refine ⟨h0, ⟨F, ?_, h2, h3⟩, ?_⟩
  · rw [hq a (fun e => by rw [e, ha'] at h1; cases h1) (fun e => by rw [e, hb'] at h1; cases h1)]
    exact h1
  · rw [hq b (fun e => by rw [e, ha'] at h4; cases h4) (fun e => by rw [e, hb'] at h4; cases h4)]
    exact h4
/-- two rows are the same stretch -/
def rc_same (xs ys : List UInt8) (s i : Nat) : Prop := ∀ j, i ≤ j → j < xs.length → xs.getD j 0 = ys.getD (s + j) 0
theorem rc_same_drop {xs ys : List UInt8} {s : Nat} (h : s + xs.length ≤ ys.length) : rc_same xs ys s 0 ↔ (ys.drop s).take xs.length = xs := by
  constructor
  · intro q
    apply List.ext_getElem?
    intro i
    rw [List.getElem?_take]
    split
    · rename_i hi
      have := q i (Nat.zero_le i) hi
      rw [List.getElem?_drop, List.getElem?_eq_getElem hi, List.getElem?_eq_getElem (show s + i < ys.length by omega)]
      simp only [List.getD, List.getElem?_eq_getElem hi, List.getElem?_eq_getElem (show s + i < ys.length by omega), Option.getD_some] at this
      rw [this]
    · rename_i hi
      rw [List.getElem?_eq_none (by omega)]
  · intro q j _ hj
    have e : xs[j]? = ((ys.drop s).take xs.length)[j]? := by rw [q]
    rw [List.getElem?_take, if_pos hj, List.getElem?_drop] at e
    simp [List.getD, e]
theorem rc_u_inj {b c : UInt8} (h : rc_u b = rc_u c) : b = c := by
  have h1 := b.toNat_lt
  have h2 := c.toNat_lt
  have := (nI_eq (show b.toNat < 2 ^ 31 by omega) (show c.toNat < 2 ^ 31 by omega)).mp h
  exact UInt8.toNat_inj.mp this
theorem rc_atR_in {bs : List UInt8} {i : Nat} (h : i < bs.length) (hb : bs.length ≤ 1000000) : rc_atR bs (nI i) = rc_u (bs.getD i 0) := by
  unfold rc_atR
  rw [if_neg (nI_pos (by omega)), if_neg (nI_ge h (by omega)), nI_clamp (by omega)]
def rc_partR (xs ys : List UInt8) (s : Nat) : Int32 := if (ys.drop s).take xs.length = xs then 1 else 0
def g_row_isPart (w : rc_M) (a : Nat) (r : Option Nat) (s m : Int32) : Option (Int32 × rc_M) := r.bind fun a' => (rc_row w a).bind fun x => (rc_row w a').bind fun y =>
  if a = a' then none else if m = nI x.2.length then (if s < 0 ∨ y.2.length < s.toNatClampNeg + x.2.length ∨ 5000 ≤ x.2.length then none else some (rc_partR x.2 y.2 s.toNatClampNeg, w)) else some (0, w)
theorem p_isPart {w : rc_M} {a a' b b' : Nat} {x y : Nat × List UInt8} {f f' : Nat → Int32} (ho : rc_Op w a b x.1 x.2.length f) (hg : rc_agr x.2 f) (hl : x.2.length ≤ x.1) (hcap : x.1 ≤ 1000000) (ho' : rc_Op w a' b' y.1 y.2.length f') (hg' : rc_agr y.2 f') (hl' : y.2.length ≤ y.1) (hcap' : y.1 ≤ 1000000) {s : Nat} (hs : s + x.2.length ≤ y.2.length):
    ∀ (fuel i : Nat) (v : Int32), i ≤ x.2.length → x.2.length - i < fuel → (rc_same x.2 y.2 s i → v = 1) → (¬ rc_same x.2 y.2 s i → v = 0) → b_row_isPart_13 fuel w a (some a') (nI s) (nI x.2.length) (nI i) = some (v, w) := by
  intro fuel
  induction fuel with
  | zero => intro i v _ h; omega
  | succ fuel ih =>
    intro i v hi hf hv1 hv0
    unfold b_row_isPart_13
    by_cases c : i = x.2.length
    · subst c
      rw [if_pos (nI_le (Nat.le_refl _) (by omega)), hv1 (fun j h1 h2 => by omega)]
      rfl
    · rw [if_neg (nI_ge (by omega) (by omega))]
      simp only [ho.rc, Option.bind_some, p_at ho hg hl hcap, ho'.rc, nI_add, p_at ho' hg' hl' hcap', nI_1]
      rw [rc_atR_in (show i < x.2.length by omega) (by omega), rc_atR_in (show s + i < y.2.length by omega) (by omega)]
      by_cases e : rc_u (x.2.getD i 0) = rc_u (y.2.getD (s + i) 0)
      · have hiff : rc_same x.2 y.2 s (i + 1) ↔ rc_same x.2 y.2 s i := by
          constructor
          · intro q j h1 h2
            by_cases z : j = i
            · subst z
              exact rc_u_inj e
            · exact q j (by omega) h2
          · exact fun q j h1 h2 => q j (by omega) h2
        rw [if_pos e]
        exact ih (i + 1) v (by omega) (by omega) (fun q => hv1 (hiff.mp q)) (fun q => hv0 (fun z => q (hiff.mpr z)))
      · rw [if_neg e, hv0 (fun q => e (by rw [q i (Nat.le_refl i) (by omega)]))]
        rfl
theorem cg_row_isPart {l : Launch} {G : rc_G} {w : rc_M} {a0 : Nat} {r1 : Option Nat} {x2 x3 : Int32} {res : Int32 × rc_M} (h : g_row_isPart w a0 r1 x2 x3 = some res) : rc_Ct l G y_row_isPart prog_6_method_14_code 5 (some .boolean) 1 21 [va_rf (some a0), va_rf r1, .int x2, .int x3] w (some (.int res.1)) res.2 := by
  unfold g_row_isPart at h
  obtain ⟨a', hr, h1⟩ := Option.bind_eq_some_iff.mp h
  clear h
  subst hr
  obtain ⟨x, hx, h2⟩ := Option.bind_eq_some_iff.mp h1
  obtain ⟨y, hy, h⟩ := Option.bind_eq_some_iff.mp h2
  obtain ⟨hxr, hxc⟩ := rc_row_spec hx
  obtain ⟨hyr, hyc⟩ := rc_row_spec hy
  by_cases e0 : a0 = a'
  · rw [if_pos e0] at h; cases h
  rw [if_neg e0] at h
  by_cases c : x3 = nI x.2.length
  · rw [if_pos c] at h
    by_cases c2 : x2 < 0 ∨ y.2.length < x2.toNatClampNeg + x.2.length ∨ 5000 ≤ x.2.length
    · rw [if_pos c2] at h; cases h
    · rw [if_neg c2] at h
      cases h
      simp only [not_or] at c2
      obtain ⟨j, hj, rfl⟩ := nI_of c2.1
      subst c
      rw [nI_clamp hj] at c2 ⊢
      refine rc_rd_ct2 hx fun w1 b f ho hg hf hl hb hq => ?_
      have hy1 : w1.1 a' = some (.inr (.inr y)) := by rw [hq a' (Ne.symm e0) (fun z => by rw [z, hb] at hyr; cases hyr)]; exact hyr
      refine rc_rd_ct2 (rc_row_of hy1 hyc) fun w2 b' f' ho' hg' hf' hl' hb' hq' => ?_
      have ho2 := ho.keep hy1 hb' hq'
      refine ct_row_isPart (res := (rc_partR x.2 y.2 j, w2)) ?_
      unfold f_row_isPart
      simp only [ho2.used, Option.bind_some, if_true]
      refine p_isPart ho2 hg hl hxc ho' hg' hl' hyc (s := j) (by omega) 5000 0 _ (Nat.zero_le _) (by omega) (fun q => ?_) (fun q => ?_)
      · unfold rc_partR
        rw [if_pos ((rc_same_drop (by omega)).mp q)]
      · unfold rc_partR
        rw [if_neg (fun z => q ((rc_same_drop (by omega)).mpr z))]
  · rw [if_neg c] at h
    cases h
    refine rc_rd_ct hx fun w1 b f ho hg hl => ct_row_isPart (res := (0, w1)) ?_
    unfold f_row_isPart
    simp only [ho.used, Option.bind_some, c, if_false]
    rfl
end
section
def g_row_addPart (w : rc_M) (a : Nat) (r : Option Nat) (s m : Int32) : Option rc_M := r.bind fun a' => (rc_row w a).bind fun x => (rc_row w a').bind fun y =>
  if a = a' then none else if s < 0 ∨ m < 0 ∨ y.2.length < s.toNatClampNeg + m.toNatClampNeg then some w else rc_app w a ((y.2.drop s.toNatClampNeg).take m.toNatClampNeg)
theorem rc_cond {n j k : Nat} (hn : n ≤ 1000000) (hj : j < 2 ^ 31) (hk : k < 2 ^ 31) : nI k ≤ nI n - nI j ↔ ¬ n < j + k := by
  rw [Int32.le_iff_toInt_le, nI_toInt hk, rc_subI (by omega) (nI_pos hj), nI_toInt hj]
  omega
theorem p_addPart0 {w : rc_M} {a a' b' cap' n' : Nat} {f' : Nat → Int32} {s m : Int32} (ho' : rc_Op w a' b' cap' n' f') (hn : n' ≤ 1000000) (hc : s < 0 ∨ m < 0 ∨ n' < s.toNatClampNeg + m.toNatClampNeg) : f_row_addPart w a (some a') s m = some w := by
  unfold f_row_addPart b_row_addPart_18
  by_cases c1 : s < 0
  · rw [if_pos c1]
  · rw [if_neg c1]
    by_cases c2 : m < 0
    · rw [if_pos c2]
    · rw [if_neg c2]
      obtain ⟨j, hj, rfl⟩ := nI_of c1
      obtain ⟨k, hk, rfl⟩ := nI_of c2
      rw [nI_clamp hj, nI_clamp hk] at hc
      simp only [ho'.used, Option.bind_some]
      rw [if_neg (fun q => (rc_cond hn hj hk).mp q ((hc.resolve_left c1).resolve_left c2))]
theorem cg_row_addPart {l : Launch} {G : rc_G} {w : rc_M} {a0 : Nat} {r1 : Option Nat} {x2 x3 : Int32} {res : rc_M} (h : g_row_addPart w a0 r1 x2 x3 = some res) : rc_Ct l G y_row_addPart prog_6_method_12_code 4 none 3 71 [va_rf (some a0), va_rf r1, .int x2, .int x3] w none res := by
  unfold g_row_addPart at h
  obtain ⟨a', hr, h1⟩ := Option.bind_eq_some_iff.mp h
  clear h
  subst hr
  obtain ⟨x, hx, h2⟩ := Option.bind_eq_some_iff.mp h1
  obtain ⟨y, hy, h⟩ := Option.bind_eq_some_iff.mp h2
  obtain ⟨hxr, hxc⟩ := rc_row_spec hx
  obtain ⟨hyr, hyc⟩ := rc_row_spec hy
  by_cases e0 : a0 = a'
  · rw [if_pos e0] at h; cases h
  rw [if_neg e0] at h
  by_cases c : x2 < 0 ∨ x3 < 0 ∨ y.2.length < x2.toNatClampNeg + x3.toNatClampNeg
  · rw [if_pos c] at h
    cases h
    refine rc_rd_ct2 hy fun w1 b f ho hg hf hl hb hq => ct_row_addPart (p_addPart0 ho (by omega) c)
  · rw [if_neg c] at h
    simp only [not_or] at c
    obtain ⟨c1, c2, c3⟩ := c
    obtain ⟨j, hj, rfl⟩ := nI_of c1
    obtain ⟨k, hk, rfl⟩ := nI_of c2
    rw [nI_clamp hj, nI_clamp hk] at c3 h
    have hL : ((y.2.drop j).take k).length = k := by rw [List.length_take, List.length_drop]; omega
    obtain ⟨x', hx', hm, rfl⟩ := rc_app_spec h
    cases hx.symm.trans hx'
    rw [hL] at hm ⊢
    refine rc_Ct.via fun H hH => ?_
    obtain ⟨b, f, hab, hb, hlen, hf, hg, hH1⟩ := hH.opened hxr
    have hq1 : ∀ q, q ≠ a0 → q ≠ b → (rc_opn w a0 b x.1 x.2.length f).1 q = w.1 q := fun q q1 q2 => by simp [rc_opn, va_up, q1, q2]
    have hbn : a' ≠ b := fun z => by rw [z, hb] at hyr; cases hyr
    have hy1 : (rc_opn w a0 b x.1 x.2.length f).1 a' = some (.inr (.inr y)) := by rw [hq1 a' (Ne.symm e0) hbn]; exact hyr
    have ho1 : rc_Op (rc_opn w a0 b x.1 x.2.length f) a0 b x.1 x.2.length f := rc_opn_op hab
    have hz1 : (rc_opn w a0 b x.1 x.2.length f).2 = w.2 := rfl
    generalize rc_opn w a0 b x.1 x.2.length f = w1 at hH1 hq1 hy1 ho1 hz1
    obtain ⟨b2, f2, hab2, hb2, hlen2, hf2, hg2, hH2⟩ := hH1.opened hy1
    have hq2 : ∀ q, q ≠ a' → q ≠ b2 → (rc_opn w1 a' b2 y.1 y.2.length f2).1 q = w1.1 q := fun q q1 q2 => by simp [rc_opn, va_up, q1, q2]
    have ho2 : rc_Op (rc_opn w1 a' b2 y.1 y.2.length f2) a' b2 y.1 y.2.length f2 := rc_opn_op hab2
    have ho3 := ho1.keep hy1 hb2 hq2
    have hz2 : (rc_opn w1 a' b2 y.1 y.2.length f2).2 = w.2 := hz1
    generalize rc_opn w1 a' b2 y.1 y.2.length f2 = w1' at hH2 hq2 ho2 ho3 hz2
    have hdom := hH2.dom
    obtain ⟨w2, b', f', p1, p2, p3, p4, p5, p6, p7⟩ := p_makeRoom (k := k) ho3 hdom hlen hxc (by omega) hf (by rcases hm with hm | hm; exact Or.inl hm; exact Or.inr (by rw [hz2]; exact ⟨by show _ ≤ w1'.2.2.2.1; rw [hz2]; exact hm.1, by show _ ≤ w1'.2.2.2.2; rw [hz2]; exact hm.2.1, hm.2.2⟩))
    have hcap' : rc_capN x.1 (x.2.length + k) ≤ 1000000 := by
      rcases hm with hm | hm
      · unfold rc_capN; rw [if_pos hm]; exact hxc
      · exact hm.2.2
    have hle' : x.2.length + k ≤ rc_capN x.1 (x.2.length + k) := by unfold rc_capN; split <;> omega
    obtain ⟨-, ⟨Fo, f1, -, -⟩, f3⟩ := id ho2
    obtain ⟨-, ⟨Fa, g1, -, -⟩, g3⟩ := id ho3
    have n1 : a' ≠ a0 := Ne.symm e0
    have n2 : b2 ≠ a0 := fun z => by rw [z, g1] at f3; cases f3
    have n3 : b2 ≠ b := fun z => by
      have := ho1.2.2
      rw [← z, hb2] at this
      cases this
    have n4 : a' ≠ b' := by
      rcases p6 with rfl | rfl
      · exact hbn
      · exact hdom.ne f1
    have n5 : b2 ≠ b' := by
      rcases p6 with rfl | rfl
      · exact n3
      · exact hdom.ne f3
    have ho2' : rc_Op w2 a' b2 y.1 y.2.length f2 := by
      obtain ⟨o1, ⟨F, o2, o3, o4⟩, o5⟩ := ho2
      exact ⟨o1, ⟨F, by rw [p7 a' n1 hbn n4]; exact o2, o3, o4⟩, by rw [p7 b2 n2 n3 n5]; exact o5⟩
    -- the copy
    have hcp : rc_cp w2 (some b2) (nI j) (some b') (nI x.2.length) (nI k) = some (rc_up w2 b' (.inr (.inl (2, rc_capN x.1 (x.2.length + k), .inl (va_cpy f2 f' j x.2.length k))))) := by
      have q1 : rc_gA w2 (some b2) 2 = some (b2, y.1, .inl f2) := by simp [rc_gA, ho2'.2.2]
      have q2 : rc_gA w2 (some b') 2 = some (b', rc_capN x.1 (x.2.length + k), .inl f') := by simp [rc_gA, p2.2.2]
      unfold rc_cp
      rw [q1, q2]
      simp only []
      rw [nI_clamp hj, nI_clamp hk, nI_clamp (show x.2.length < 2 ^ 31 by omega)]
      rw [if_neg, if_pos (fun i _ => hf2 _)]
      rintro (q | q | q | q | q)
      · exact c1 q
      · exact nI_pos (by omega) q
      · exact c2 q
      · omega
      · omega
    generalize hw3 : rc_up w2 b' (.inr (.inl (2, rc_capN x.1 (x.2.length + k), .inl (va_cpy f2 f' j x.2.length k)))) = w3 at hcp
    have o3 : rc_Op w3 a0 b' (rc_capN x.1 (x.2.length + k)) x.2.length (va_cpy f2 f' j x.2.length k) := by
      obtain ⟨o1, ⟨F, o2, o3, o4⟩, o5⟩ := p2
      exact ⟨o1, ⟨F, by rw [← hw3]; simp [rc_up, va_up, o1, o2], o3, o4⟩, by rw [← hw3]; simp [rc_up, va_up]⟩
    have b3 : rc_but a0 b' w2 w3 := by rw [← hw3]; exact ⟨rfl, fun q _ q2 => by simp [rc_up, va_up, q2]⟩
    obtain ⟨w4, t1, t2, t3⟩ := o3.put (v := nI x.2.length + nI k) (x.2.length + k) (nI_add _ _)
    have hrun : f_row_addPart w1' a0 (some a') (nI j) (nI k) = some w4 := by
      unfold f_row_addPart
      rw [if_neg c1, if_neg c2]
      simp only [ho2.used, Option.bind_some]
      rw [if_pos ((rc_cond (by omega) hj hk).mpr c3)]
      simp only [ho3.rc, Option.bind_some, p1, ho2'.bytes, p2.bytes, p2.used, hcp, o3.used, t1]
    refine ⟨w1', w4, hz2, hH2, ct_row_addPart hrun, fun H' hH' => ?_⟩
    have b4 := b3.tr t3
    have oA : rc_Op w4 a' b2 y.1 y.2.length f2 := by
      obtain ⟨o1, ⟨F, o2, o3, o4⟩, o5⟩ := ho2'
      exact ⟨o1, ⟨F, by rw [b4.2 a' n1 n4]; exact o2, o3, o4⟩, by rw [b4.2 b2 n2 n5]; exact o5⟩
    have hc1 := hH'.closed (bs := y.2) oA hlen2 hf2 hg2
    have oB : rc_Op (va_up (va_up w4.1 b2 none) a' (some (.inr (.inr (y.1, y.2)))), w4.2) a0 b' (rc_capN x.1 (x.2.length + k)) (x.2 ++ (y.2.drop j).take k).length (va_cpy f2 f' j x.2.length k) := by
      rw [List.length_append, hL]
      obtain ⟨o1, ⟨F, o2, o3, o4⟩, o5⟩ := t2
      exact ⟨o1, ⟨F, by simp [va_up, n1.symm, n2.symm, o2], o3, o4⟩, by simp [va_up, n4.symm, n5.symm, o5]⟩
    have hc2 := hc1.closed oB (by rw [List.length_append, hL]; exact hle') (sb_fitC hf2 p3) (rc_agr_snoc hg (fun i hi => ?_) (fun i z hz => ?_))
    · refine hc2.less ?_ (fun q e he => ?_)
      · show rc_rest w x.1 (x.2.length + k) = w4.2
        rw [b4.1, p5]
        unfold rc_rest rc_grown
        rw [hz2]
      · by_cases e1 : q = a0
        · subst e1
          simp only [va_up, if_true] at he ⊢
          exact he
        · have he' : w.1 q = some e := by simpa [va_up, e1] using he
          have e2 : q ≠ b := fun z => by rw [z, hb] at he'; cases he'
          have e3 : q ≠ b' := by
            rcases p6 with rfl | rfl
            · exact e2
            · have := hH.dom.ne he'
              rw [hz2]
              exact this
          by_cases e4 : q = a'
          · subst e4
            simp only [va_up, e1, e3, if_false, if_true]
            rw [hyr] at he'
            exact he'
          · have e5 : q ≠ b2 := fun z => by
              have h9 := hq1 q e1 e2
              rw [z, hb2, ← z, he'] at h9
              cases h9
            have : w4.1 q = some e := by rw [b4.2 q e1 e3, p7 q e1 e2 e3, hq2 q e4 e5, hq1 q e1 e2]; exact he'
            simp [va_up, e1, e3, e4, e5, this]
    · rw [pk_cpy_out (Or.inl hi), p4 i hi]
    · have hi : i < k := by
        have := (List.getElem?_eq_some_iff.mp hz).1
        rw [hL] at this
        exact this
      rw [pk_cpy_in (by omega) (by omega)]
      rw [List.getElem?_take, if_pos hi, List.getElem?_drop] at hz
      rw [show x.2.length + i - x.2.length = i by omega]
      exact hg2 _ _ hz
end
section
/-! A METHOD THROWS: new E(); athrow. What stays of the heap: all but the new cell. -/
section RCT
variable {p : Program} {l : Launch} {e : Env} {R : Room} {s : State} {m0 : MethodId} {args : Array Value} {below : List Frame} {meth : Method} {c : Code} {W : State} {locs : List Loc} {cells slots : Nat}
set_option maxHeartbeats 1000000 in
theorem rc_thr (X : Stand p l e R s m0 args below meth c W locs cells slots) (hexec : p.tables.exec = Jvm.exec) (htr : e.platform.stackTraces = false) {own cls : String} {names : List String} {ic : Nat}
    (hown : s.vm.findClass own = some m0.cls) (hcls : Bundle.fit cls = true) (hnames : ∀ n ∈ names, Bundle.fit n = true) (h : ∀ a ∈ Bundle.ownAtoms0 own ic cls names, a.before args s = true)
    (hlocs : ∀ x ∈ locs, ∀ cell, s.heap[x.base]? = some cell → cell.vm.isStatics = false)
    {a : Addr} {cX : ClassId} {kX : Class} (hfX : s.vm.findClass cls = some cX) (hkX : s.vm.classes[cX]? = some kX) (hcell : W.heap[a]? = some (freshCell cX kX)) (hnew : s.heap.size ≤ a)
    {g : JFrame} (hg : g.method = m0) (hsize : g.locals.size = c.maxLocals) (hlocked : g.locked = none) (hentered : g.entered = []) {rest : List Value} (hstack : g.stack = .ref a :: .ref a :: rest)
    (hd6 : decode c.code g.pc = .ok (.invokespecial ic, 3)) (hd9 : decode c.code (g.pc + 3) = .ok (.athrow, 1)) (hout : ∀ x ∈ c.exceptionTable.toList, covers x (g.pc + 3) = false)
    (hRf : names.length + 3 < R.frames) (hRl : 2 * g.monitorRoom + ((Value.ref a :: rest).map fun v => v.category).sum + (13 * (names.length + 1) + 41) ≤ R.locals) (hlocks : meth.locks = false) :
    ∃ U : State, Steps p.tables e below (W.setTop g) U ∧ U.status = .running ∧ Ended U below (.threw a) ∧ s.WarmedH U.vm ∧ s.sameButNew ({ U with vm := s.vm } : State) locs cells slots ∧
      U.heap.size = W.heap.size ∧ (∀ q, q ≠ a → U.heap[q]? = W.heap[q]?) ∧ ∃ ce : Cell, U.heap[a]? = some ce ∧ ce.vm = .none ∧ ce.cls = cX ∧ ce.slots.size = 6 := by
  have howns : e.platform.frameOwnsMonitors = true := by rw [X.admits.platform]
  have hfin : e.platform.finalization = false := by rw [X.admits.platform]
  have hpl : e.platform.magicAccessors = ({} : Platform).magicAccessors := by rw [X.admits.platform]
  have a' : ∀ x, x ∈ Bundle.ownAtoms0 own ic cls names → x.holds args s none s [] = true := fun x hx => h x hx
  have hsub : ∀ x, x ∈ Bundle.throwableAtoms → x ∈ Bundle.ownAtoms0 own ic cls names := fun x hx => by simp [Bundle.ownAtoms0, hx]
  obtain ⟨T, Z, L, LZ, Y⟩ := ThrowableC.of_atoms (args := args) howns hfin hpl (fun x hx => h x (hsub x hx))
  obtain ⟨P1, Ps, hlen, L1, hL, hP1m, hlink1, hlink⟩ := Bundle.chain0 (args := args) hpl Y.init0 names cls hcls hnames (fun x hx => h x (by simp [Bundle.ownAtoms0, hx]))
  have hfound : s.vm.findClass cls = some P1.m.cls := findClass_of_methodNamed hP1m
  have hcX : cX = P1.m.cls := Option.some.inj (hfX.symm.trans hfound)
  subst hcX
  obtain ⟨c1, kX', hc1, hk, hord, -, -, hn6⟩ := Cond.instantiable_spec (a' (.instantiable cls 6) (by simp [Bundle.ownAtoms0]))
  cases Option.some.inj (hc1.symm.trans hfound)
  cases Option.some.inj (hkX.symm.trans hk)
  have sel : ∀ (x : MethodName) (r : MethodId), x.cls ≠ "java/lang/invoke/MethodHandle" ∧ x.cls ≠ "java/lang/invoke/VarHandle" → s.methodNamed? x = some r → (Cond.selects cls x x).holds args s none s [] = true → selectMethod e.platform s.vm P1.m.cls r = .method r := by
    intro x r hx hr hs
    obtain ⟨c2, r2, m2, q1, q2, q3, q4, -⟩ := Cond.selects_spec hs
    cases Option.some.inj (q1.symm.trans hfound)
    cases Option.some.inj (q2.symm.trans (State.methodFound?_of_named hr hx))
    cases Option.some.inj (q3.symm.trans hr)
    rw [Launch.admits_selectMethod X.admits]
    exact q4
  have hsel0 := sel Bundle.tFill0 T.fill0 (by decide) Y.fill0 (a' (.selects cls Bundle.tFill0 Bundle.tFill0) (by simp [Bundle.ownAtoms0]))
  have hselF := sel Bundle.tFill T.fill (by decide) Y.fill (a' (.selects cls Bundle.tFill Bundle.tFill) (by simp [Bundle.ownAtoms0]))
  obtain ⟨cellS0, hcS0, hiss⟩ := Y.statics
  obtain ⟨u0, hu0⟩ := Cond.staticRefV Y.unassigned L.unassignedStatic L.statics hcS0 hiss (a' (.isRef (.static Bundle.tN "UNASSIGNED_STACK" Bundle.steD)) (by simp [Bundle.ownAtoms0]))
  obtain ⟨sen, hsen⟩ := Cond.staticRefV Y.sentinel L.sentinelStatic L.statics hcS0 hiss (a' (.isRef (.static Bundle.tN "SUPPRESSED_SENTINEL" Bundle.listD)) (by simp [Bundle.ownAtoms0]))
  obtain ⟨ci198, i198, fB, hk198, hg198, ha198, hsB, -, hnB, htB, hffB⟩ := Cond.ownField (t := .object "java/lang/Object") Y.found L.cls (by decide +kernel) (a' (.fieldLink Bundle.tN 198 Bundle.tN "backtrace" "Ljava/lang/Object;") (by simp [Bundle.ownAtoms0])) (a' (.lays Bundle.tN Bundle.tN "backtrace" "Ljava/lang/Object;") (by simp [Bundle.ownAtoms0])) e.platform hpl
  obtain ⟨cellS, hcS', heS, -, hkeep⟩ := X.same.2.2.2.2.2 T.aS cellS0 hcS0
  have hcellS : W.heap[T.aS]? = some cellS := hcS'
  have hout' : ∀ i, (⟨T.aS, i⟩ : Loc) ∉ locs := fun i hmem => by
    have := hlocs _ hmem cellS0 hcS0
    rw [hiss] at this
    cases this
  have hknownS : cellS.vm ≠ .unknown := by
    rw [heS]
    intro hu
    rw [show cellS0.vm = .unknown from hu] at hiss
    cases hiss
  have hneS : T.aS ≠ a := Nat.ne_of_lt (Nat.lt_of_lt_of_le (Array.getElem?_eq_some_iff.mp hcS0).1 hnew)
  obtain ⟨tyC, dC, hdC, hdnC⟩ := Cond.laysAt hfound hk Y.cause (a' (.lays cls Bundle.tN "cause" "Ljava/lang/Throwable;") (by simp [Bundle.ownAtoms0]))
  obtain ⟨tyS, dS, hdS, hdnS⟩ := Cond.laysAt hfound hk Y.stack (a' (.lays cls Bundle.tN "stackTrace" Bundle.steD) (by simp [Bundle.ownAtoms0]))
  obtain ⟨tyP, dP, hdP, hdnP⟩ := Cond.laysAt hfound hk Y.supp (a' (.lays cls Bundle.tN "suppressedExceptions" Bundle.listD) (by simp [Bundle.ownAtoms0]))
  obtain ⟨tyB, dB, hdB, hdnB⟩ := Cond.laysAt hfound hk hffB (a' (.lays cls Bundle.tN "backtrace" "Ljava/lang/Object;") (by simp [Bundle.ownAtoms0]))
  have bC := Cond.laysApart hdB hdC hdnB hdnC (by rw [hnB, Y.causeName]; decide)
  have bS := Cond.laysApart hdB hdS hdnB hdnS (by rw [hnB, Y.stackName]; decide)
  have bP := Cond.laysApart hdB hdP hdnB hdnP (by rw [hnB, Y.suppName]; decide)
  have hskip : SkipFacts T e.platform s (fun u => u) u0 ((preparedCellV T.toThrowableT (freshCell P1.m.cls kX) a u0 sen).withEntry W.cur) :=
    ⟨{ ci198 := ci198, i198 := i198, fBack := fB }, ⟨hk198, hg198, ha198, hsB⟩, by
      have := fresh_default (c := P1.m.cls) tyB
      rw [htB] at this
      simpa [preparedCellV, Cell.setSlot, Cell.withEntry, Array.getElem?_setIfInBounds, bC, bS, bP, bC.symm, bS.symm, bP.symm, defaultValue] using this, fun _ _ => rfl⟩
  obtain ⟨tm, methC, cdC, kC, vm1, hnC, -, -, -, -, -, -, -, hW1, st1⟩ := Steps.initCold (tb := p.tables) (e := e) (below := below) (s := s) (U := W) X.here hexec X.warmed hpl hown (t := Bundle.init0 cls) rfl rfl (Bundle.fit_spec hcls).2
    (a' (.methodLink own ic (Bundle.init0 cls)) (by simp [Bundle.ownAtoms0])) (h (.instanceMethod (Bundle.init0 cls)) (by cases names <;> simp [Bundle.ownAtoms0, Bundle.chain0Atoms, Bundle.passAtoms])) (bytes := Bundle.five) (maxL := 1) (h (.code (Bundle.init0 cls) Bundle.five 1 none) (by cases names <;> simp [Bundle.ownAtoms0, Bundle.chain0Atoms, Bundle.passAtoms]))
    (f := g) hg (a := a) (rest := .ref a :: rest) hstack hd6
  cases Option.some.inj (hnC.symm.trans hP1m)
  have X1 := X.noted hW1
  obtain ⟨vm2, X2, st2⟩ := X1.ctorPlainOffV hexec (g := { g with stack := .ref a :: rest }) hg hsize T L Z LZ (P1 :: Ps)
    (fun P hP => by rcases List.mem_cons.mp hP with rfl | hP; exact L1; exact hL P hP) ⟨hlink1, hlink⟩ (u0 := u0) (sen := sen) (self := a) (cell := freshCell P1.m.cls kX) (cellS := cellS)
    hcell (fun _ => by simp) (by simp) rfl rfl hsel0 hselF hcellS hneS hknownS (by rw [hkeep _ (hout' _)]; exact hu0) (by rw [hkeep _ (hout' _)]; exact hsen)
    (Takes.of_laid hk hord tyC (by rw [Y.causeType]; rfl)) (Takes.of_laid hk hord tyS (by rw [Y.stackType]; exact fits_refV_array _ u0)) (Takes.of_laid hk hord tyP (by rw [Y.suppType]; exact fits_refV_object _ sen)) Y.objLocals hskip htr [] hd6
    (by simp only [List.length_cons, hlen]; omega) (by simp only [List.length_cons, hlen]; exact hRl)
  obtain ⟨hwalk, hrun, hended, hWU, hsame⟩ := X2.athrowLeaves hexec (g := { g with stack := .ref a :: rest, pc := g.pc + 3 }) hg hlocked hentered hout (a := a) (rest := rest) rfl hd9 hlocks
  have hlt : a < W.heap.size := (Array.getElem?_eq_some_iff.mp hcell).1
  refine ⟨_, st1 _ (fun acts => ?_), hrun, hended, hWU, hsame.weaken (fun y hy hlt' => ?_) (Nat.le_refl _) (Nat.le_refl _), ?_, fun q hq => ?_, (preparedCellV T.toThrowableT (freshCell P1.m.cls kX) a u0 sen).setSlot T.fStack.slot u0.v, ?_, rfl, rfl, ?_⟩
  · rw [doInvoke_state]
    exact st2 _ hwalk
  · rcases List.mem_append.mp hy with h1 | h1
    · exact h1
    · exfalso
      have hb : y.base = a := by
        simp only [List.mem_cons, List.not_mem_nil, or_false] at h1
        rcases h1 with rfl | rfl | rfl | rfl <;> rfl
      rw [hb] at hlt'
      exact Nat.not_lt.mpr hnew hlt'
  · show (W.heap.setIfInBounds a _).size = _
    simp
  · show (W.heap.setIfInBounds a _)[q]? = _
    simp [Array.getElem?_setIfInBounds, Ne.symm hq]
  · show (W.heap.setIfInBounds a _)[a]? = _
    simp [Array.getElem?_setIfInBounds, hlt]
  · simp [preparedCellV, Cell.setSlot, hn6]
end RCT
end
section
section RCU
variable {p : Program} {l : Launch} {e : Env} {R : Room} {s : State} {m : MethodId} {args : Array Value} {below : List Frame} {meth : Method} {c : Code} {T : State} {locs : List Loc} {cells slots : Nat}
/-- the search finds the one entry, its class resolved before or now -/
theorem rc_find {Q : Handler → Pre} {E : CtlPost} {d : Bool} {acts : List Action} {u : State} {f : JFrame} {a : Addr} {x : ExceptionTableEntry} {cT : ClassId} {cell : Cell} (hx : covers x f.pc = true) (h0 : x.catchType ≠ 0) (hl : u.vm.ClassLinks e.platform f.method.cls x.catchType cT) (hcell : u.heap[a]? = some cell) (hobj : ∀ k, cell.vm ≠ .statics k)
    (hk : ∃ k, u.vm.classes[cell.cls]? = some k) (hc : ∃ k, u.vm.classes[cT]? = some k) (hfit : u.vm.assignable cell.cls cT = true) :
    wp (findHandler.go f a [x]) Q E e d acts u ↔ Q (.found x.handlerPc) d acts (u.setVm (u.vm.noted f.method.cls x.catchType (.cls cT))) := by
  simp only [covers] at hx
  obtain ⟨ha, ht⟩ := (resolveClass_links e.toSetting hl).op (op := VmOp.resolveClass f.method.cls x.catchType) rfl
  have hal : u.vm.Alike (u.vm.noted f.method.cls x.catchType (.cls cT)) := (Vm.Alike.refl u.vm).noted _ _ _
  obtain ⟨k1, hk1⟩ := hk
  obtain ⟨k2, hk2⟩ := hc
  obtain ⟨k1', hk1', -⟩ := hal.2.2 _ _ hk1
  obtain ⟨k2', hk2', -⟩ := hal.2.2 _ _ hk2
  have hfit' : (u.vm.noted f.method.cls x.catchType (.cls cT)).assignable cell.cls cT = true := by rw [hal.assignable]; exact hfit
  simp [findHandler.go, hx, h0, ha, ht, hcell, hobj, hk1', hk2', hfit', VmOp.dirties, VmOp.acts]
theorem rc_caught (S : Stand p l e R s m args below meth c T locs cells slots) (a : Addr) {g : JFrame} (hg : g.method = m) {own name : String} (hown : s.vm.findClass own = some m.cls) {x : ExceptionTableEntry} (htab : c.exceptionTable.toList = [x]) (hx : covers x g.pc = true) (h0 : x.catchType ≠ 0)
    (hlink : (Cond.classLink own x.catchType name).before args s = true) {cT : ClassId} {cell : Cell} (hcT : s.vm.findClass name = some cT) (hcell : T.heap[a]? = some cell) (hobj : cell.vm = .none) (hfit : s.vm.assignable cell.cls cT = true) :
    ∃ vm', Stand p l e R s m args below meth c (T.setVm vm') locs cells slots ∧
      ∀ target, Steps p.tables e below ((T.setVm vm').setTop { g with pc := x.handlerPc, stack := [.ref a] }) target → Steps p.tables e below ((T.setTop g).pushFrame (.throwing a)) target := by
  have hpl : e.platform.magicAccessors = ({} : Platform).magicAccessors := by rw [S.admits.platform]
  obtain ⟨c', hc', hcl⟩ := Cond.classLink_spec hown hlink e.platform hpl
  cases hcT.symm.trans hc'
  obtain ⟨dk, _, _, kt, hd, _, _, _, _, hkt, _, hopen⟩ := hcl.here
  have hcl0 := S.warmed.classLinks hcl
  have hW' : s.WarmedH (T.vm.noted m.cls x.catchType (.cls cT)) := S.warmed.noted hd hopen (State.rightAt_cls hcl)
  have hal := S.warmed.alike
  obtain ⟨kt', hkt', -⟩ := hal.2.2 _ _ hkt
  have hfit' : T.vm.assignable cell.cls cT = true := by rw [hal.assignable]; exact hfit
  refine ⟨_, S.noted hW', fun target hrest => ?_⟩
  subst hg
  have h := S.here
  have hfind : ∀ (Q : Handler → Pre) (E : CtlPost) (d : Bool) (acts : List Action), wp (findHandler g a) Q E e d acts ((T.setTop g).pushFrame (.throwing a)) ↔ Q (.found x.handlerPc) d acts (((T.setTop g).pushFrame (.throwing a)).setVm (T.vm.noted g.method.cls x.catchType (.cls cT))) := by
    intro Q E d acts
    rw [W.findHandler_eq (s := (T.setTop g).pushFrame (.throwing a)) (meth := meth) (code := c) S.method' S.code, htab]
    exact rc_find (u := (T.setTop g).pushFrame (.throwing a)) hx h0 hcl0 hcell (VmData.ne_statics_of (by rw [hobj]; rfl)) (Vm.classAt_of_assignable hfit' ⟨kt', hkt'⟩) ⟨kt', hkt'⟩ hfit'
  obtain ⟨hgo, hw⟩ := h.throwing a
  refine Steps.head hgo hw ?_
  have hstep : ((stepThrowing e ((T.setTop g).pushFrame (.throwing a)) a (.java g :: T.frames.tail)).Is ((((T.setTop g).pushFrame (.throwing a)).setVm (T.vm.noted g.method.cls x.catchType (.cls cT))).setFrames (.java { g with pc := x.handlerPc, stack := [.ref a] } :: T.frames.tail)) []) := by
    simp only [stepThrowing, searchFrame, vmDo]
    generalize hr : Sem.go _ e false [] _ = res
    obtain ⟨as, rfl, ha⟩ := Sem.eq_ok_of hr (a := Handler.found x.handlerPc) (s' := ((T.setTop g).pushFrame (.throwing a)).setVm (T.vm.noted g.method.cls x.catchType (.cls cT))) (acts' := []) (by simp [hfind _ _ _ _])
    exact ⟨rfl, ha⟩
  rw [stepThread_throwing (frames_entered h.top _), hstep.1]
  obtain ⟨g0, hg0⟩ := Option.isSome_iff_exists.mp h.top
  obtain ⟨r, hr⟩ := State.topJava?_eq_some.mp hg0
  have e1 : (((T.setTop g).pushFrame (.throwing a)).setVm (T.vm.noted g.method.cls x.catchType (.cls cT))).setFrames (.java { g with pc := x.handlerPc, stack := [.ref a] } :: T.frames.tail) = (T.setVm (T.vm.noted g.method.cls x.catchType (.cls cT))).setTop { g with pc := x.handlerPc, stack := [.ref a] } := by
    have hr' : (T.setVm (T.vm.noted g.method.cls x.catchType (.cls cT))).frames = .java g0 :: r := hr
    rw [State.setTop_of_frames _ hr', hr, List.tail_cons, State.pushFrame, State.setTop_of_frames _ hr]
    have h1 : ∀ (u : State) (vm' : Vm) (F G : List Frame), ((u.setFrames F).setVm vm').setFrames G = (u.setVm vm').setFrames G := fun u vm' F G => by
      have : (u.setFrames F).setVm vm' = (u.setVm vm').setFrames F := rfl
      rw [this, State.setFrames_setFrames]
    rw [h1, h1]
  rw [e1]
  exact hrest
end RCU
end
section
/-! CONTRACTS OF METHODS THAT MAY THROW -/
def rc_st : List Cond := [.laysStatic Bundle.tN "UNASSIGNED_STACK" Bundle.steD, .laysStatic Bundle.tN "SUPPRESSED_SENTINEL" Bundle.listD, .isRef (.static Bundle.tN "UNASSIGNED_STACK" Bundle.steD), .isRef (.static Bundle.tN "SUPPRESSED_SENTINEL" Bundle.listD)]
def rc_S0 (U : State) : Prop := ∀ w ∈ rc_st, w.before #[] U = true
theorem rc_S0.use {U : State} (h : rc_S0 U) (A : Array Value) : ∀ w ∈ rc_st, w.before A U = true := by
  intro w hw
  have h1 := h w hw
  simp only [rc_st, List.mem_cons, List.not_mem_nil, or_false] at hw
  rcases hw with rfl | rfl | rfl | rfl <;> exact h1
theorem rc_S0_one {s U : State} {b : Nat} {nm d : String} (hpl : rc_pl b s.heap) (hW : s.WarmedH U.vm) (hh : ∀ q, q < b → q < s.heap.size → U.heap[q]? = s.heap[q]?) (h1 : (Cond.laysStatic Bundle.tN nm d).before #[] s = true) (h2 : (Cond.isRef (.static Bundle.tN nm d)).before #[] s = true) :
    (Cond.laysStatic Bundle.tN nm d).before #[] U = true ∧ (Cond.isRef (.static Bundle.tN nm d)).before #[] U = true := by
  have g1 : (Cond.laysStatic Bundle.tN nm d).before #[] (s.setVm U.vm) = true := Cond.laysStatic_setVm hW.alike h1
  have g2 : (Cond.isRef (.static Bundle.tN nm d)).before #[] (s.setVm U.vm) = true := Cond.holds_shifted (State.Shifted.of_warmed hW) _ [] rfl h2
  obtain ⟨c, k, i, f, a, cell, q1, q2, q3, q4, q5, q6, q7, q8, q9⟩ := Cond.laysStatic_spec (show (Cond.laysStatic Bundle.tN nm d).holds #[] (s.setVm U.vm) none (s.setVm U.vm) [] = true from g1)
  have q5' : s.heap[a]? = some cell := q5
  have hlt : a < s.heap.size := (Array.getElem?_eq_some_iff.mp q5').1
  have hab : a < b := by
    apply Nat.lt_of_not_le
    intro z
    have := hpl a cell z q5'
    rw [this] at q6
    cases q6
  have qU : U.heap[a]? = some cell := by rw [hh a hab hlt]; exact q5'
  have q1' : U.vm.findClass Bundle.tN = some c := q1
  have q2' : U.fieldFound? Bundle.tN nm d = some (c, k, i, f) := q2
  refine ⟨Cond.laysStatic_of q1' q2' q3 q4 qU q6 q7 q8 q9, ?_⟩
  have e1 : (Term.static Bundle.tN nm d).eval #[] U none [] U = (Term.static Bundle.tN nm d).eval #[] (s.setVm U.vm) none [] (s.setVm U.vm) := by
    simp [Term.eval, State.fieldNamed?, q2', q2, q3, q4, qU, q5', q6]
  have g3 := g2
  simp only [Cond.before, Cond.holds, Cond.value] at g3 ⊢
  rw [e1]
  exact g3
theorem rc_S0.moved {s U : State} {b : Nat} (h : rc_S0 s) (hpl : rc_pl b s.heap) (hW : s.WarmedH U.vm) (hh : ∀ q, q < b → q < s.heap.size → U.heap[q]? = s.heap[q]?) : rc_S0 U := by
  obtain ⟨a1, a2⟩ := rc_S0_one hpl hW hh (h (.laysStatic Bundle.tN "UNASSIGNED_STACK" Bundle.steD) (by simp [rc_st])) (h (.isRef (.static Bundle.tN "UNASSIGNED_STACK" Bundle.steD)) (by simp [rc_st]))
  obtain ⟨b1, b2⟩ := rc_S0_one hpl hW hh (h (.laysStatic Bundle.tN "SUPPRESSED_SENTINEL" Bundle.listD) (by simp [rc_st])) (h (.isRef (.static Bundle.tN "SUPPRESSED_SENTINEL" Bundle.listD)) (by simp [rc_st]))
  intro w hw
  simp only [rc_st, List.mem_cons, List.not_mem_nil, or_false] at hw
  rcases hw with rfl | rfl | rfl | rfl
  · exact a1
  · exact b1
  · exact a2
  · exact b2
def rc_PcT (G : rc_G) (av : List Value) (w : rc_M) : Array Value → State → Prop := va_Pc av (fun U => rc_H G w U.heap ∧ rc_K G U ∧ rc_T U ∧ rc_S0 U)
/-- o: what it answers, none where it throws -/
def rc_Qt (G : rc_G) (cls : String) (o : Option (Option Value)) (w' : rc_M) : Array Value → State → Outcome → State → Prop := fun _ st oc t => ((∃ v, o = some v ∧ oc = .returned v) ∨ (o = none ∧ ∃ (a : Addr) (ce : Cell), oc = .threw a ∧ t.heap[a]? = some ce ∧ ce.vm = .none ∧ st.vm.findClass cls = some ce.cls)) ∧ rc_H G w' t.heap ∧ va_F (fun q => rc_b G ≤ q) st t
def rc_Fr (b : Nat) (st t : State) (mc ms : Nat) : Prop := ∃ L : List Loc, (st.WarmedH t.vm ∧ st.sameButNew ({ t with vm := st.vm } : State) L mc ms) ∧ ∀ q ∈ L, b ≤ q.base
def rc_CtT (l : Launch) (G : rc_G) (y : MethodName) (cc : ByteArray) (mL : Nat) (ret : Option FieldType) (fr lo : Nat) (cls : String) (av : List Value) (w : rc_M) (o : Option (Option Value)) (w' : rc_M) : Prop :=
  MetFree l y (headSpec [.code y cc mL ret] (rc_rm fr lo w)) (rc_PcT G av w) (fun _ _ _ _ _ => True) (fun a st oc t => rc_Qt G cls o w' a st oc t ∧ rc_Fr (rc_b G) st t (rc_zc w - rc_z w) (rc_zs w - rc_tz w))
def rc_MQ (below : List Frame) (G : rc_G) (cls : String) (o : Option (Option Value)) (w' : rc_M) (args : Array Value) (s : State) (mc ms : Nat) : State → Prop := fun t => ∃ oc, t.status = .running ∧ Ended t below oc ∧ rc_Qt G cls o w' args s oc t ∧ rc_Fr (rc_b G) s t mc ms
def rc_E1 (X : rc_X) (ret : Option FieldType) (cls : String) (o : Option (Option Value)) (w' : rc_M) : Prop := (q_t X).sig.returnType = ret ∧ (q_c X).exceptionTable.isEmpty = true ∧ rc_S0 (q_s X) ∧ (q_l X).flags = flags0 ∧ q_Q X = rc_MQ (q_b X) (q_G X) cls o w' (q_a X) (q_s X) (q_R X).cells (q_R X).slots
theorem rc_enterT {l : Launch} {G : rc_G} {y : MethodName} {cc : ByteArray} {mL : Nat} {ret : Option FieldType} {fr lo : Nat} {cls : String} {av : List Value} {w : rc_M} {o : Option (Option Value)} {w' : rc_M} (hfl : l.flags = flags0) (hy : plainFor y = true) (hlen : (lg_sl av).length ≤ mL)
    (body : ∀ X : rc_X, q_l X = l → q_G X = G → q_n X = mL → (q_R X).frames = fr → (q_R X).locals = lo → rc_C X y.cls cc w → rc_E1 X ret cls o w' → rc_J X w 0 [] (lv_args 0 av)) : rc_CtT l G y cc mL ret fr lo cls av w o w' := by
  refine MetFree.of_bodySF (code := cc) (maxLocals := mL) (ret := ret) hy ?_ ?_
  · intro args s m h hn
    obtain ⟨meth, c, h1, h2, h3, h4, h5, h6, -, -⟩ := Cond.code_spec hn (atoms_spec (ws := [.code y cc mL ret]) h _ List.mem_cons_self)
    exact ⟨meth, c, h1, h2, h3, h4, h5, h6⟩
  · intro p e s m args below meth c s₁ B hml hP _
    have hh0 : s₁.heap = s.heap := by rw [B.state]; rfl
    obtain ⟨rfl, hH, hK, hT, hS0⟩ := hP
    have hl := lv_entry av (n := mL) hlen
    have hnh := B.noHandlers (atoms_spec (ws := [.code y cc mL ret]) B.pre _ List.mem_cons_self)
    have key : W p l e (headSpec [.code y cc mL ret] (rc_rm fr lo w)).room s m av.toArray below meth c s.heap [] 0 0 (rc_MQ below G cls o w' av.toArray s (rc_zc w - rc_z w) (rc_zs w - rc_tz w)) (entryFrame m av.toArray mL) := by
      rw [lg_entry_eq]
      refine W.widen (Nat.zero_le (rc_zc w - rc_z w)) (Nat.zero_le (rc_zs w - rc_tz w)) ?_
      exact body ((p, l, e, (headSpec [.code y cc mL ret] (rc_rm fr lo w)).room, s), (m, av.toArray, below, meth, c), G, mL, _) rfl rfl rfl rfl rfl ⟨B.exec, B.bytes, findClass_of_methodNamed B.named, hT, hK, hml, B.notSynchronized, hH, rfl, rfl⟩ ⟨B.returns, hnh, hS0, hfl, rfl⟩ s.heap [] _ hH va_S.rf hl
    obtain ⟨t, a1, o1, b1, b2, b3⟩ := key s₁ hh0 (Stand.of_body B)
    exact ⟨t, o1, a1, b1, b2, b3⟩
section RCQ
variable {X : rc_X} {own : String} {cc : ByteArray} {w0 w w' : rc_M} {pc n : Nat} {st : List Value} {lv : List (Nat × Value)}
theorem rc_mq {cls : String} {v : Option Value} {t : State} (h : MQ (q_b X) (rc_Qt (q_G X) cls (some v) w) (q_a X) (q_s X) (q_R X).cells (q_R X).slots (fun q => rc_b (q_G X) ≤ q) t) : rc_MQ (q_b X) (q_G X) cls (some v) w (q_a X) (q_s X) (q_R X).cells (q_R X).slots t := by
  obtain ⟨o, h1, h2, h3, L, ⟨-, h4, h5⟩, h6⟩ := h
  exact ⟨o, h1, h2, h3, L, ⟨h4, h5⟩, h6⟩
theorem j_iretT (C : rc_C X own cc w0) {cls : String} {x : Int32} (E : rc_E1 X (some .int) cls (some (some (.int x))) w) (hd : decode cc pc = .ok (.ireturn, 1)) : rc_J X w pc [.int x] lv := by
  intro H locs ls h1 h2 h3 T hT S
  obtain ⟨t, a1, b1⟩ := W.iret (Qc := rc_Qt (q_G X) cls (some (some (.int x))) w) (free := fun q => rc_b (q_G X) ≤ q) C.1 C.2.1 E.1 (fun t ht hW => ⟨Or.inl ⟨_, rfl, rfl⟩, by rw [ht]; exact h1, h2.F ht⟩) h2.2.2 hd C.2.2.2.2.2.2.1 T hT S
  exact ⟨t, a1, by rw [E.2.2.2.2]; exact rc_mq b1⟩
theorem j_zretT (C : rc_C X own cc w0) {cls : String} {x : Int32} (hx : x = 0 ∨ x = 1) (E : rc_E1 X (some .boolean) cls (some (some (.int x))) w) (hd : decode cc pc = .ok (.ireturn, 1)) : rc_J X w pc [.int x] lv := by
  intro H locs ls h1 h2 h3 T hT S
  obtain ⟨t, a1, b1⟩ := W.zret (Qc := rc_Qt (q_G X) cls (some (some (.int x))) w) (free := fun q => rc_b (q_G X) ≤ q) C.1 C.2.1 E.1 (by rcases hx with rfl | rfl <;> rfl) (fun t ht hW => ⟨Or.inl ⟨_, rfl, rfl⟩, by rw [ht]; exact h1, h2.F ht⟩) h2.2.2 hd C.2.2.2.2.2.2.1 T hT S
  exact ⟨t, a1, by rw [E.2.2.2.2]; exact rc_mq b1⟩
theorem j_vretT (C : rc_C X own cc w0) {cls : String} (E : rc_E1 X none cls (some none) w) (hd : decode cc pc = .ok (.return_, 1)) : rc_J X w pc [] lv := by
  intro H locs ls h1 h2 h3 T hT S
  obtain ⟨t, a1, b1⟩ := W.vret (Qc := rc_Qt (q_G X) cls (some none) w) (free := fun q => rc_b (q_G X) ≤ q) C.1 C.2.1 E.1 (fun t ht hW => ⟨Or.inl ⟨_, rfl, rfl⟩, by rw [ht]; exact h1, h2.F ht⟩) h2.2.2 hd C.2.2.2.2.2.2.1 T hT S
  exact ⟨t, a1, by rw [E.2.2.2.2]; exact rc_mq b1⟩
/-- one cell more that no one knows -/
def rc_thrown (w : rc_M) : rc_M := (w.1, w.2.1 + 1, w.2.2.1 + 6, w.2.2.2)
def rc_throw (w : rc_M) : Option rc_M := if w.2.1 + 1 ≤ rc_zc w ∧ w.2.2.1 + 6 ≤ rc_zs w then some (rc_thrown w) else none
theorem rc_H.garb {G : rc_G} {w : rc_M} {H H1 : Heap} {ce : Cell} (h : rc_H G w H) (hz : H1.size = H.size + 1) (hn : H1[H.size]? = some ce) (h6 : ce.slots.size = 6) (hv : ce.vm = .none) (ho : ∀ q : Nat, q < H.size → H1[q]? = H[q]?) (hr : w.2.1 + 1 ≤ rc_zc w ∧ w.2.2.1 + 6 ≤ rc_zs w) : rc_H G (rc_thrown w) H1 := by
  obtain ⟨h1, h2, h3, h4, h5, β, hB, hR⟩ := h
  refine ⟨by omega, by show w.2.1 + 1 = _; omega, ?_, ⟨hr.1, hr.2, fun q c hq hc => ?_⟩, h5, β, fun q x hx => ?_, hR⟩
  · show w.2.2.1 + 6 = _
    rw [rc_nw_push h1 hz hn ho, h3, h6]
  · by_cases e1 : q = H.size
    · subst e1
      cases hn.symm.trans hc
      exact hv
    · have hl : q < H1.size := (Array.getElem?_eq_some_iff.mp hc).1
      rw [ho q (by omega)] at hc
      exact h4.2.2 q c hq hc
  · obtain ⟨g1, g2⟩ := hB q x hx
    exact ⟨g1, g2.kept (ho q g2.lt) (fun hrw => ho _ (g2.bytes hrw))⟩
end RCQ
end
section
section RCV
variable {X : rc_X} {own : String} {cc : ByteArray} {w0 w w' : rc_M} {pc n : Nat} {st : List Value} {lv : List (Nat × Value)}
theorem j_throw (C : rc_C X own cc w0) {ret : Option FieldType} {cls : String} {names : List String} {idx ic : Nat} (E : rc_E1 X ret cls none w') (h : rc_throw w = some w') (hl : Cond.classLink own idx cls ∈ rc_tb) (hins : Cond.instantiable cls 6 ∈ rc_tb) (hini : Cond.initialized cls ∈ rc_tb)
    (hfit : Bundle.fit cls = true) (hnames : ∀ n ∈ names, Bundle.fit n = true) (hat : ∀ a ∈ Bundle.ownAtoms0 own ic cls names, a ∈ rc_tb ∨ a ∈ rc_st) (hRf : names.length + 3 < (q_R X).frames) (hRl : (st.map fun v => v.category).sum + (13 * (names.length + 1) + 42) ≤ (q_R X).locals)
    (hd1 : decode cc pc = .ok (.new idx, 3)) (hd2 : decode cc (pc + 3) = .ok (.dup, 1)) (hd3 : decode cc (pc + 4) = .ok (.invokespecial ic, 3)) (hd4 : decode cc (pc + 7) = .ok (.athrow, 1)) : rc_J X w pc st lv := by
  intro H locs ls h1 h2 h3
  unfold rc_throw at h
  split at h
  case isFalse => cases h
  rename_i hr
  cases h
  obtain ⟨l1, l2, l3, l4, l5⟩ := rc_lim C h1 h2
  have hc' : rc_z w + 1 ≤ rc_zc w := hr.1
  have hs' : rc_tz w + 6 ≤ rc_zs w := hr.2
  have ez : H.size = rc_z w := h1.2.1.symm
  obtain ⟨cX, kX, hfX, hkX, -, -, -, hn6⟩ := Cond.instantiable_spec (C.ts _ hins)
  refine rc_narrow C h1 (fun l6 => W.newcK C.1 C.2.1 C.2.2.1 (C.ts _ hl) (C.ts _ hins) (C.ts _ hini) rfl hd1 (by rw [C.2.2.2.2.2.2.2.2.1]; omega) (by rw [C.2.2.2.2.2.2.2.2.2]; omega) hfX rfl fun H1 kC hkC e1 z1 o1 => ?_)
  cases hkX.symm.trans hkC
  refine W.widen (k := (q_R X).cells) (n := (q_R X).slots) (by rw [C.2.2.2.2.2.2.2.2.1]; omega) (by rw [C.2.2.2.2.2.2.2.2.2]; omega) ?_
  refine lv_dup C.1 C.2.1 hd2 rfl ?_
  intro T hT S
  have hge : (q_s X).heap.size ≤ H.size := h2.1
  have hplS : rc_pl (rc_b (q_G X)) (q_s X).heap := C.2.2.2.2.2.2.2.1.2.2.2.1.2.2
  obtain ⟨U, k1, k2, k3, k4, k5, k6, k7, ce, k8, k9, k10, k11⟩ := rc_thr S C.1 (Launch.traces_off E.2.2.2.1 S.admits) (own := own) (cls := cls) (names := names) (ic := ic) C.2.2.1 hfit hnames (fun a ha => by
      rcases hat a ha with q | q
      · exact C.ts _ q
      · exact E.2.2.1.use _ _ q) (fun x hx cell hc => by rw [hplS x.base cell (h2.2.2 x hx) hc]; rfl) hfX hkX (a := H.size) (by rw [hT]; exact e1) hge
    (g := F0 (q_m X) (pc + 3 + 1) ls (.ref H.size :: .ref H.size :: st)) rfl (by rw [C.2.2.2.2.2.1]; exact h3.1) rfl rfl (rest := st) rfl (by rw [C.2.1]; exact hd3) (by rw [C.2.1]; exact hd4)
    (fun x hx => by
      have := E.2.1
      rw [Array.isEmpty_iff] at this
      rw [this] at hx
      simp at hx) hRf (by show 2 * 0 + _ + _ ≤ _; simp only [List.map_cons, List.sum_cons, show (Value.ref H.size).category = 1 from rfl]; omega) C.2.2.2.2.2.2.1
  rw [hT] at k6 k7
  refine ⟨U, k1, ?_⟩
  rw [E.2.2.2.2]
  have o2 : ∀ q : Nat, q < H.size → U.heap[q]? = H[q]? := fun q hq => by rw [k7 q (Nat.ne_of_lt hq), o1 q hq]
  refine ⟨.threw H.size, k2, k3, ⟨Or.inr ⟨rfl, H.size, ce, rfl, k8, k9, by rw [k10]; exact hfX⟩, h1.garb (by rw [k6, z1]) k8 k11 k9 o2 hr, ?_⟩, locs, ⟨k4, k5⟩, h2.2.2⟩
  exact ⟨by rw [k6, z1]; omega, fun q g1 g2 => (o2 q (Nat.lt_of_lt_of_le g1 h2.1)).trans (h2.2.1 q g1 g2)⟩
end RCV
end
section
/-! A CALL THAT MAY THROW, AND ITS CATCH -/
section RCW
variable {p : Program} {l : Launch} {e : Env} {R : Room} {s : State} {m : MethodId} {args : Array Value} {below : List Frame} {meth : Method} {c : Code} {T : State} {locs : List Loc} {cells slots : Nat}
/-- behind a call, whatever its outcome: the state is the caller's, with another heap and warmer tables -/
theorem rc_back {G : rc_G} {y : MethodName} {bytes : ByteArray} {mL fr lo : Nat} {ret : Option FieldType} {cls : String} {av : List Value} {w w' : rc_M} {o : Option (Option Value)} (hM : rc_CtT l G y bytes mL ret fr lo cls av w o w') {U : State} {g : JFrame} {mk : MethodId} {ig : Instr} {len : Nat}
    (S : Stand p l e R s m args below meth c U locs cells slots) (hg : g.method = m) (hsize : g.locals.size = c.maxLocals) (hdg : decode c.code g.pc = .ok (ig, len)) (hW : 2 * g.monitorRoom + (g.stack.map fun v => v.category).sum ≤ 8) (hn : U.methodNamed? y = some mk)
    (hcode : (Cond.code y bytes mL ret).before args U = true) (hinit : (Cond.initialized y.cls).before args U = true) (hfr : fr + 1 ≤ R.frames) (hlo : 8 + (mL + 11) + lo ≤ R.locals) (hcl : cells + (rc_zc w - rc_z w) ≤ R.cells) (hsl : slots + (rc_zs w - rc_tz w) ≤ R.slots)
    (hP : rc_PcT G av w av.toArray (U.calling g mk av.toArray)) :
    ∃ (s2 T2 : State) (L : List Loc) (oc : Outcome), rc_Qt G cls o w' av.toArray (U.calling g mk av.toArray) oc s2 ∧ T2.heap = s2.heap ∧ T2.vm = s2.vm ∧ Stand p l e R s m args below meth c T2 (locs ++ L) (cells + (rc_zc w - rc_z w)) (slots + (rc_zs w - rc_tz w)) ∧ (∀ q ∈ L, rc_b G ≤ q.base) ∧
      (∀ v, oc = .returned v → Steps p.tables e below (doInvoke e (U.setTop g) [] mk av.toArray).1 (T2.setTop { g with pc := g.pc + len, stack := v.toList ++ g.stack })) ∧
      (∀ a, oc = .threw a → Steps p.tables e below (doInvoke e (U.setTop g) [] mk av.toArray).1 ((T2.setTop g).pushFrame (.throwing a))) := by
  obtain ⟨methY, cY, hmY, hcY, -, hlY, -⟩ := Cond.code_spec hn hcode
  obtain ⟨kY, hkY, -⟩ := className_of_methodNamed hn
  have hinitY : kY.init = .initialized := Cond.initialized_spec (findClass_of_methodNamed hn) hkY hinit
  have h : At U g.method c below := by rw [hg]; exact S.here
  have happ : (headSpec [.code y bytes mL ret] (rc_rm fr lo w)).appliesLoose y e.platform (U.calling g mk av.toArray) = true :=
    Spec.appliesLoose_calling (g := g) h hdg hn hkY hinitY
      (S.room_calling (g := g) (R' := rc_rm fr lo w) hsize hmY hcY hfr (by rw [hlY]; show _ + (mL + 11) + lo ≤ _; omega) hcl hsl) (atoms_intro (fun x hx => by
        rw [List.mem_singleton.mp hx]
        exact (rc_args (w := .code y bytes mL ret) rfl _ args _).trans hcode))
  obtain ⟨mid, hmid⟩ := h.above
  have hfr' : (U.setTop g).frames = (.java g :: mid) ++ below := by rw [State.frames_setTop' g h.top, hmid]; rfl
  obtain ⟨oc, s2, hsteps, -, hend, hall⟩ := Steps.callFree hM p S.admits S.cas S.clock (acts := []) hfr' happ hP trivial
  have hall' : rc_Qt G cls o w' av.toArray (U.calling g mk av.toArray) oc s2 ∧ rc_Fr (rc_b G) (U.calling g mk av.toArray) s2 (rc_zc w - rc_z w) (rc_zs w - rc_tz w) := hall
  obtain ⟨hq, L, ⟨hW2, e2, q2, q3, q4, q5, q6⟩, hL⟩ := hall'
  have e3 : s2 = ({ (U.calling g mk av.toArray).setFrames s2.frames with heap := s2.heap, slotsUsed := s2.slotsUsed } : State).setVm s2.vm := by
    have : s2 = ({ s2 with vm := (U.calling g mk av.toArray).vm } : State).setVm s2.vm := rfl
    rw [e2] at this
    exact this
  have hW' : U.WarmedH s2.vm := hW2
  obtain ⟨g0, hg0⟩ := Option.isSome_iff_exists.mp h.top
  obtain ⟨r, hr⟩ := State.topJava?_eq_some.mp hg0
  have hr' : (({ U with heap := s2.heap, slotsUsed := s2.slotsUsed } : State).setVm s2.vm).frames = .java g0 :: r := hr
  have hsame : U.sameButNew ({ U with heap := s2.heap, slotsUsed := s2.slotsUsed } : State) L (rc_zc w - rc_z w) (rc_zs w - rc_tz w) := by
    refine ⟨?_, q2, q3, q4, q5, q6⟩
    obtain ⟨t, ht, -⟩ := State.frames_cons hr
    show ({ U with heap := s2.heap, slotsUsed := s2.slotsUsed } : State) = { U.setFrames U.frames with heap := s2.heap, slotsUsed := s2.slotsUsed }
    rw [State.setFrames_self ht]
  subst hg
  refine ⟨s2, (({ U with heap := s2.heap, slotsUsed := s2.slotsUsed } : State).setVm s2.vm), L, oc, hq, rfl, rfl,
    ⟨S.admits, S.cas, S.clock, S.frames, S.room, S.hears, S.method, S.code, (S.here.setHeapUsed s2.heap s2.slotsUsed).setVm hW'.alike, S.tail, State.WarmedH.trans S.warmed hW', S.limits, S.bytes, S.same.trans (hsame.setVm s.vm)⟩, hL, fun v hv => ?_, fun a ha => ?_⟩
  · subst hv
    rw [State.frames_setTop' g h.top] at hend
    obtain ⟨c2, i2, len2, hc2, hd2, hf2⟩ := hend
    have hcc : c2 = c := by
      have h1 : s2.code? g.method = U.code? g.method := by
        rw [State.code?_eq, State.code?_eq, hW'.alike.method?]
      exact Option.some.inj (hc2.symm.trans (h1.trans h.code))
    subst hcc
    have hlen : len2 = len := by rw [hdg] at hd2; cases hd2; rfl
    subst hlen
    have hs2 : s2 = (({ U with heap := s2.heap, slotsUsed := s2.slotsUsed } : State).setVm s2.vm).setTop { g with pc := g.pc + len2, stack := v.toList ++ g.stack } := by
      refine e3.trans ?_
      rw [hf2, State.calling_eq h.top, State.setFrames_setFrames, State.setTop_of_frames _ hr', hr]
      rfl
    rw [← hs2]
    exact hsteps
  · subst ha
    have hf2 : s2.frames = .throwing a :: (U.setTop g).frames := hend
    have hs2 : s2 = ((({ U with heap := s2.heap, slotsUsed := s2.slotsUsed } : State).setVm s2.vm).setTop g).pushFrame (.throwing a) := by
      refine e3.trans ?_
      rw [hf2, State.frames_setTop' g h.top, State.calling_eq h.top, State.setFrames_setFrames, State.pushFrame, State.frames_setTop _ hr', State.setTop_of_frames _ hr', State.setFrames_setFrames, hr]
      rfl
    rw [← hs2]
    exact hsteps
end RCW
section RCZ
variable {X : rc_X} {own : String} {cc : ByteArray} {w0 w w' : rc_M} {pc n : Nat} {st : List Value} {lv : List (Nat × Value)} {y : MethodName} {cc' : ByteArray} {mL' fr lo np : Nat} {ret' : Option FieldType} {As : List Value}
/-- a method of an object that may throw; the one entry of the caller's table catches -/
theorem j_callVT (C : rc_C X own cc w0) (S0 : rc_S0 (q_s X)) {idx ci a ct hpc : Nat} {r : Option Nat} {cls : String} {o : Option (Option Value)} {xe : ExceptionTableEntry} (htab : (q_c X).exceptionTable.toList = [xe]) (hxe : covers xe pc = true) (hx0 : xe.catchType = ct) (hct : ct ≠ 0) (hxh : xe.handlerPc = hpc) (hcl2 : Cond.classLink own ct cls ∈ rc_tb) (hcast : Cond.castable cls cls ∈ rc_tb)
    (hM : rc_MK y cc' mL' ret' np) (hl : Cond.methodLink own idx y ∈ rc_tb) (hs : Cond.instanceMethod y ∈ rc_tb) (hse : Cond.selects y.cls y y ∈ rc_tb) (hcl : y.cls = rc_R ci) (hrc : rc_rc w r ci = some a) (hfr : fr + 1 ≤ (q_R X).frames) (hlo : 8 + (mL' + 11) + lo ≤ (q_R X).locals)
    (hK : rc_CtT (q_l X) (q_G X) y cc' mL' ret' fr lo cls (va_rf (some a) :: As) w o w') (hnp : As.length = np) {sk : List Value} (hsk : sk = As.reverse ++ va_rf r :: st) (hroom : (st.map fun v => v.category).sum ≤ 8) (hd : decode cc pc = .ok (.invokevirtual idx, 3)) (hn : pc + 3 = n)
    (kr : ∀ v, o = some v → rc_J X w' n (v.toList ++ st) lv) (kt : o = none → ∀ q : Nat, rc_J X w' hpc [va_rf (some q)] lv) : rc_J X w pc sk lv := by
  subst hn
  intro H locs ls h1 h2 h3
  obtain ⟨rfl, hC⟩ := rc_rc_spec hrc
  obtain ⟨hci, cell, g1, g2, g3, g4, -⟩ := rc_isC_cell hC h1 C.2.2.2.2.1
  refine rc_narrow C h1 (fun l6 => ?_)
  intro T hT S
  obtain ⟨m1, m2, m3, m4⟩ := hM
  obtain ⟨mk, methM, hnamed, hmethM, hstM, habM⟩ := Cond.instanceMethod_spec (C.ts _ hs)
  obtain ⟨methM', cM, hmethM', -, -, -, -, -, -, hsigM⟩ := Cond.code_spec hnamed (C.ts _ m1)
  cases hmethM.symm.trans hmethM'
  obtain ⟨c2, r2, m2', q1, q2, q3, q4, kP, hkP, hkPi⟩ := Cond.selects_spec (C.ts _ hse)
  have hcls : (q_s X).vm.findClass y.cls = some cell.cls := by rw [hcl]; exact g4
  cases hcls.symm.trans q1
  cases (State.methodFound?_of_named hnamed m3).symm.trans q2
  cases hnamed.symm.trans q3
  have hselP : selectMethod (q_e X).platform (q_s X).vm cell.cls mk = .method mk := by rw [Launch.admits_selectMethod S.admits]; exact q4
  have hlen : As.length = methM.sig.parameters.length := by
    rw [hsigM] at m4
    rw [hnp]
    exact (Option.some.inj m4).symm
  obtain ⟨vm1, X1, hstep1⟩ := S.invokevirtual C.1 C.2.2.1 (C.ts _ hl) hnamed hmethM hstM hkP hkPi m3 (a := a) (cell := cell) (by rw [hT]; exact g1)
    (fun z h => by rw [g2] at h; cases h) hselP hmethM habM hkP hkPi (g := F0 (q_m X) pc ls sk) rfl (argsL := As) (rest := st) hlen hsk (by rw [C.2.1]; exact hd)
  have hTm : rc_T (T.setVm vm1) := C.2.2.2.1.moved (U := T.setVm vm1) X1.warmed
  have hplS : rc_pl (rc_b (q_G X)) (q_s X).heap := C.2.2.2.2.2.2.2.1.2.2.2.1.2.2
  have hPc : rc_PcT (q_G X) (va_rf (some a) :: As) w (va_rf (some a) :: As).toArray ((T.setVm vm1).calling { F0 (q_m X) pc ls sk with stack := st } mk (va_rf (some a) :: As).toArray) := by
    refine ⟨rfl, ?_, va_K.moved (u := q_s X) X1.warmed.alike C.2.2.2.2.1, rc_T.moved (s := T.setVm vm1) hTm (State.WarmedH.refl _), S0.moved hplS X1.warmed (fun q g1 g2 => ?_)⟩
    · show rc_H _ _ T.heap
      rw [hT]
      exact h1
    · show T.heap[q]? = _
      rw [hT]
      exact h2.2.1 q g2 (Nat.not_le.mpr g1)
  obtain ⟨r1, r2⟩ := rc_room C h1 h2 l6
  obtain ⟨s2, T2, L, oc, hq, e1, e2, S2, hL, hret, hthr⟩ := rc_back hK (ig := .invokevirtual idx) (len := 3) X1 (g := { F0 (q_m X) pc ls sk with stack := st }) rfl (by rw [C.2.2.2.2.2.1]; exact h3.1) (by rw [C.2.1]; exact hd) (lv_room hroom) (X1.named hnamed) (hTm.use _ _ m1) (hTm.use _ _ m2) hfr hlo r1 r2 hPc
  obtain ⟨l1, l2, l3, l4, l5⟩ := rc_lim C h1 h2
  have S3 := stand_widen (k := (q_R X).cells) (n := (q_R X).slots) S2 (by rw [C.2.2.2.2.2.2.2.2.1]; omega) (by rw [C.2.2.2.2.2.2.2.2.2]; omega)
  obtain ⟨hout, hH2, hz, hkp⟩ := hq
  have hz' : H.size ≤ s2.heap.size := by
    have : T.heap.size ≤ s2.heap.size := hz
    rw [hT] at this
    exact this
  have hkp' : ∀ q : Nat, q < H.size → ¬ rc_b (q_G X) ≤ q → s2.heap[q]? = H[q]? := fun q g1 g2 => by
    have := hkp q (show q < T.heap.size by rw [hT]; exact g1) g2
    rw [this]
    show T.heap[q]? = _
    rw [hT]
  have hS2 : va_S (fun q => rc_b (q_G X) ≤ q) (q_s X).heap T2.heap (locs ++ L) := ⟨Nat.le_trans h2.1 (by rw [e1]; exact hz'), fun q g1 g2 => by rw [e1, hkp' q (Nat.lt_of_lt_of_le g1 h2.1) g2]; exact h2.2.1 q g1 g2, fun q hq => by
      rcases List.mem_append.mp hq with h | h
      · exact h2.2.2 q h
      · exact hL q h⟩
  rcases hout with ⟨v, hv, hoc⟩ | ⟨hv, qa, ce, hoc, f1, f2, f3⟩
  · obtain ⟨t2, a1, b1⟩ := kr v hv T2.heap (locs ++ L) ls (by rw [e1]; exact hH2) hS2 h3 T2 rfl S3
    exact ⟨t2, hstep1 _ fun acts => by rw [doInvoke_state]; exact (hret v hoc).trans a1, b1⟩
  · obtain ⟨c3, c4, hc3, hc4, hasg⟩ := Cond.castable_spec (C.ts _ hcast)
    have f3' : (q_s X).vm.findClass cls = some ce.cls := by
      have : (T.setVm vm1).vm.findClass cls = some ce.cls := f3
      rw [X1.warmed.alike.findClass] at this
      exact this
    cases hc3.symm.trans f3'
    cases hc4.symm.trans f3'
    obtain ⟨vm', S4, hst4⟩ := rc_caught S3 qa (g := { F0 (q_m X) pc ls sk with stack := st }) rfl (own := own) (name := cls) C.2.2.1 htab hxe (by rw [hx0]; exact hct) (by rw [hx0]; exact C.ts _ hcl2) f3' (by rw [e1]; exact f1) f2 hasg
    obtain ⟨t2, a1, b1⟩ := kt hv qa T2.heap (locs ++ L) ls (by rw [e1]; exact hH2) hS2 h3 (T2.setVm vm') rfl S4
    rw [← hxh] at a1
    exact ⟨t2, hstep1 _ fun acts => by rw [doInvoke_state]; exact (hthr qa hoc).trans (hst4 t2 a1), b1⟩
end RCZ
end
section
/-! METHODS WITH A HANDLER: their contracts, and a static call of one -/
def rc_CtH (l : Launch) (G : rc_G) (y : MethodName) (cc : ByteArray) (mL : Nat) (ret : Option FieldType) (hh : List (Nat × Nat × Nat × Nat)) (fr lo : Nat) (av : List Value) (w : rc_M) (v : Option Value) (w' : rc_M) : Prop :=
  Met l y [.codeWith y cc mL ret hh] (rc_rm fr lo w) (rc_PcT G av w) (rc_Qc G v w') (rc_zc w - rc_z w) (rc_zs w - rc_tz w) (fun q => rc_b G ≤ q)
theorem rc_enterH {l : Launch} {G : rc_G} {y : MethodName} {cc : ByteArray} {mL : Nat} {ret : Option FieldType} {h1 h2 h3 h4 fr lo : Nat} {av : List Value} {w : rc_M} {v : Option Value} {w' : rc_M} (hy : plainName y.cls = true) (hlen : (lg_sl av).length ≤ mL)
    (body : ∀ X : rc_X, q_l X = l → q_G X = G → q_n X = mL → (q_R X).frames = fr → (q_R X).locals = lo → rc_C X y.cls cc w → rc_S0 (q_s X) → (∃ xe : ExceptionTableEntry, (q_c X).exceptionTable.toList = [xe] ∧ xe.startPc = h1 ∧ xe.endPc = h2 ∧ xe.handlerPc = h3 ∧ xe.catchType = h4) → rc_E0 X y ret v w' → rc_J X w 0 [] (lv_args 0 av)) : rc_CtH l G y cc mL ret [(h1, h2, h3, h4)] fr lo av w v w' := by
  refine va_MetW (cc := cc) (maxL := mL) (ret := ret) (hh := [(h1, h2, h3, h4)]) hy rfl ?_
  intro p e s m args below meth c s₁ B hml hv
  obtain ⟨rfl, hH, hK, hT, hS0⟩ := hv
  have hl := lv_entry av (n := mL) hlen
  have hx : ∃ xe : ExceptionTableEntry, c.exceptionTable.toList = [xe] ∧ xe.startPc = h1 ∧ xe.endPc = h2 ∧ xe.handlerPc = h3 ∧ xe.catchType = h4 := by
    obtain ⟨m9, meth9, c9, hn9, g1, g2, g3, g4, g5, -⟩ := Cond.codeWith_spec (atoms_spec (ws := [.codeWith y cc mL ret [(h1, h2, h3, h4)]]) B.pre _ List.mem_cons_self)
    cases B.named.symm.trans hn9
    cases B.method.symm.trans g1
    cases (Stand.of_body B).code.symm.trans g2
    cases hL : c.exceptionTable.toList with
    | nil => rw [hL] at g5; simp at g5
    | cons x t =>
      rw [hL] at g5
      cases t with
      | nil =>
        simp only [List.map_cons, List.map_nil, List.cons.injEq, Prod.mk.injEq, and_true] at g5
        exact ⟨x, rfl, g5.1, g5.2.1, g5.2.2.1, g5.2.2.2⟩
      | cons z t => simp at g5
  rw [lg_entry_eq]
  refine W.widen (Nat.zero_le (rc_zc w - rc_z w)) (Nat.zero_le (rc_zs w - rc_tz w)) ?_
  exact body ((p, l, e, (headSpec [.codeWith y cc mL ret [(h1, h2, h3, h4)]] (rc_rm fr lo w)).room, s), (m, av.toArray, below, meth, c), G, mL, _) rfl rfl rfl rfl rfl ⟨B.exec, B.bytes, findClass_of_methodNamed B.named, hT, hK, hml, B.notSynchronized, hH, rfl, rfl⟩ hS0 hx ⟨B.returns, (name_of_methodNamed B.named B.method).1, rfl⟩ s.heap [] _ hH va_S.rf hl
def rc_MKH (y : MethodName) (cc : ByteArray) (mL : Nat) (ret : Option FieldType) (hh : List (Nat × Nat × Nat × Nat)) (np : Nat) : Prop := Cond.codeWith y cc mL ret hh ∈ rc_tb ∧ Cond.initialized y.cls ∈ rc_tb ∧ (y.cls ≠ "java/lang/invoke/MethodHandle" ∧ y.cls ≠ "java/lang/invoke/VarHandle") ∧ (parseMethodDescriptor y.desc).map (fun d => d.parameters.length) = some np
section RCY
variable {X : rc_X} {own : String} {cc : ByteArray} {w0 w w' : rc_M} {pc n : Nat} {st : List Value} {lv : List (Nat × Value)} {y : MethodName} {cc' : ByteArray} {mL' fr lo np : Nat} {ret' : Option FieldType} {hh : List (Nat × Nat × Nat × Nat)} {As : List Value} {v : Option Value}
theorem j_callSH (C : rc_C X own cc w0) (S0 : rc_S0 (q_s X)) {idx : Nat} (hM : rc_MKH y cc' mL' ret' hh np) (hl : Cond.methodLink own idx y ∈ rc_tb) (hs : Cond.static y ∈ rc_tb) (hfr : fr + 1 ≤ (q_R X).frames) (hlo : 8 + (mL' + 11) + lo ≤ (q_R X).locals) (hK : rc_CtH (q_l X) (q_G X) y cc' mL' ret' hh fr lo As w v w') (hnp : As.length = np) {sk : List Value} (hsk : sk = As.reverse ++ st) (hroom : (st.map fun v => v.category).sum ≤ 8) (hd : decode cc pc = .ok (.invokestatic idx, 3)) (hn : pc + 3 = n) {sk' : List Value} (hsk' : v.toList ++ st = sk') (kk : rc_J X w' n sk' lv) : rc_J X w pc sk lv := by
  subst hn
  subst hsk'
  intro H locs ls h1 h2 h3
  refine rc_narrow C h1 (fun l6 => rc_after C (av := As.toArray) h1 h2 h3 l6 rfl ?_ kk)
  intro T hT S
  obtain ⟨m1, m2, m3, m4⟩ := hM
  have hplS : rc_pl (rc_b (q_G X)) (q_s X).heap := C.2.2.2.2.2.2.2.1.2.2.2.1.2.2
  obtain ⟨mk, methM, cM, hnamed, hmethM, -, -, -, -, -, -, hsigM⟩ := Cond.codeWith_spec (C.ts _ m1)
  have hstatic : methM.isStatic = true := Cond.static_spec hnamed hmethM (C.ts _ hs)
  obtain ⟨kP, hkP, -⟩ := className_of_methodNamed hnamed
  have hinitP : kP.init = .initialized := Cond.initialized_spec (findClass_of_methodNamed hnamed) hkP (C.ts _ m2)
  have hlen : As.length = methM.sig.parameters.length := by
    rw [hsigM] at m4
    rw [hnp]
    exact (Option.some.inj m4).symm
  obtain ⟨vm1, X1, hstep1⟩ := S.invokestatic C.1 C.2.2.1 (C.ts _ hl) hnamed hmethM hstatic hkP hinitP m3 (g := F0 (q_m X) pc ls sk) rfl (argsL := As) (rest := st) hlen hsk (by rw [C.2.1]; exact hd)
  have hB : Back (q_l X) (q_R X) (q_p X) (q_e X) (q_b X) (q_s X) (q_a X) y 3 8 (fun A a => A.cells + (rc_zc w - rc_z w) ≤ (q_R X).cells ∧ A.slots + (rc_zs w - rc_tz w) ≤ (q_R X).slots ∧ rc_PcT (q_G X) As w a A.U) (PostOf (rc_Qc (q_G X) v w') (rc_zc w - rc_z w) (rc_zs w - rc_tz w) (fun q => rc_b (q_G X) ≤ q)) :=
    va_backW (hh := hh) (bytes := cc') (maxL := mL') (ret := ret') hK (fun a U g mk q => ⟨q.1, q.2.1, va_K.moved (Vm.Alike.refl U.vm) q.2.2.1, rc_T.moved q.2.2.2.1 (State.WarmedH.refl U), fun c hc => by
      have := q.2.2.2.2 c hc
      simp only [rc_st, List.mem_cons, List.not_mem_nil, or_false] at hc
      rcases hc with rfl | rfl | rfl | rfl <;> exact this⟩) rfl rfl hfr hlo (fun c hc a' U hW => by
      rw [List.mem_singleton.mp hc]
      exact (C.2.2.2.1.moved hW).use a' _ m1) List.mem_cons_self (fun a' U hW => (C.2.2.2.1.moved hW).use a' _ m2)
  obtain ⟨r1, r2⟩ := rc_room C h1 h2 l6
  obtain ⟨v2, B, X', hpost, hsteps⟩ := hB (q_m X) (q_t X) (q_c X) ⟨T.setVm vm1, locs, rc_z w - rc_z w0, rc_tz w - rc_tz w0⟩ { F0 (q_m X) pc ls sk with stack := st } (.invokestatic idx) mk As.toArray X1 rfl (by rw [C.2.2.2.2.2.1]; exact h3.1) (by rw [C.2.1]; exact hd) (lv_room hroom) (X1.named hnamed)
    ⟨r1, r2, rfl, by show rc_H _ _ T.heap; rw [hT]; exact h1, va_K.moved (u := q_s X) X1.warmed.alike C.2.2.2.2.1, C.2.2.2.1.moved (U := T.setVm vm1) X1.warmed, S0.moved hplS X1.warmed (fun q g1 g2 => by show T.heap[q]? = _; rw [hT]; exact h2.2.1 q g2 (Nat.not_le.mpr g1))⟩
  obtain ⟨U', l2, c2, s2⟩ := B
  obtain ⟨g', mk', t, L, e1, e2, hq, k1, hL, k2, k3⟩ := hpost
  dsimp only [Pt.U, Pt.locs, Pt.cells, Pt.slots] at X' e1 e2 k1 k2 k3 hsteps
  subst k1; subst k2; subst k3
  exact ⟨v2, (T.setVm vm1).calling g' mk' As.toArray, t, U', L, hT, X', hL, e1, e2, hq, fun target h => hstep1 _ fun acts => by rw [doInvoke_state]; exact hsteps.trans h⟩
end RCY
end
