theorem rc_sm {w : Cond} (h : w ∈ k2_sels lw_privs) (hk : rc_kind w = true) : w ∈ rc_tb := List.mem_filter.mpr ⟨List.mem_append_left _ h, hk⟩
set_option maxRecDepth 20000 in
theorem S_0 : Cond.selects "RecordCalls" ({ cls := "RecordCalls", name := "newSlot", desc := "()LRecordCalls$Row;" } : Jvm.MethodName) ({ cls := "RecordCalls", name := "newSlot", desc := "()LRecordCalls$Row;" } : Jvm.MethodName) ∈ rc_tb := rc_sm (List.mem_of_getElem? (i := 0) rfl) rfl
set_option maxRecDepth 20000 in
theorem S_1 : Cond.selects "RecordCalls" ({ cls := "RecordCalls", name := "slotRow", desc := "(I)LRecordCalls$Row;" } : Jvm.MethodName) ({ cls := "RecordCalls", name := "slotRow", desc := "(I)LRecordCalls$Row;" } : Jvm.MethodName) ∈ rc_tb := rc_sm (List.mem_of_getElem? (i := 1) rfl) rfl
set_option maxRecDepth 20000 in
theorem S_2 : Cond.selects "RecordCalls$Row" ({ cls := "RecordCalls$Row", name := "makeRoom", desc := "(I)V" } : Jvm.MethodName) ({ cls := "RecordCalls$Row", name := "makeRoom", desc := "(I)V" } : Jvm.MethodName) ∈ rc_tb := rc_sm (List.mem_of_getElem? (i := 2) rfl) rfl
set_option maxRecDepth 20000 in
theorem S_3 : Cond.selects "RecordCalls" ({ cls := "RecordCalls", name := "tapeIsSlot", desc := "()I" } : Jvm.MethodName) ({ cls := "RecordCalls", name := "tapeIsSlot", desc := "()I" } : Jvm.MethodName) ∈ rc_tb := rc_sm (List.mem_of_getElem? (i := 3) rfl) rfl
set_option maxRecDepth 20000 in
theorem S_4 : Cond.selects "RecordCalls" ({ cls := "RecordCalls", name := "placeOfTape", desc := "()I" } : Jvm.MethodName) ({ cls := "RecordCalls", name := "placeOfTape", desc := "()I" } : Jvm.MethodName) ∈ rc_tb := rc_sm (List.mem_of_getElem? (i := 4) rfl) rfl
set_option maxRecDepth 20000 in
theorem S_6 : Cond.selects "RecordCalls" ({ cls := "RecordCalls", name := "addOneFragment", desc := "(LRecordCalls$Row;)V" } : Jvm.MethodName) ({ cls := "RecordCalls", name := "addOneFragment", desc := "(LRecordCalls$Row;)V" } : Jvm.MethodName) ∈ rc_tb := rc_sm (List.mem_of_getElem? (i := 6) rfl) rfl
set_option maxRecDepth 20000 in
theorem S_7 : Cond.selects "RecordCalls" ({ cls := "RecordCalls", name := "isSlot", desc := "(I)Z" } : Jvm.MethodName) ({ cls := "RecordCalls", name := "isSlot", desc := "(I)Z" } : Jvm.MethodName) ∈ rc_tb := rc_sm (List.mem_of_getElem? (i := 7) rfl) rfl
set_option maxRecDepth 20000 in
theorem S_8 : Cond.selects "RecordCalls$Connection" ({ cls := "RecordCalls$Connection", name := "takeHead", desc := "(I)V" } : Jvm.MethodName) ({ cls := "RecordCalls$Connection", name := "takeHead", desc := "(I)V" } : Jvm.MethodName) ∈ rc_tb := rc_sm (List.mem_of_getElem? (i := 8) rfl) rfl
set_option maxRecDepth 20000 in
theorem S_9 : Cond.selects "RecordCalls$Server" ({ cls := "RecordCalls$Server", name := "verdictOn", desc := "(LRecordCalls$Row;)I" } : Jvm.MethodName) ({ cls := "RecordCalls$Server", name := "verdictOn", desc := "(LRecordCalls$Row;)I" } : Jvm.MethodName) ∈ rc_tb := rc_sm (List.mem_of_getElem? (i := 9) rfl) rfl
set_option maxRecDepth 20000 in
theorem S_10 : Cond.selects "RecordCalls$Server" ({ cls := "RecordCalls$Server", name := "verdictOnVersion", desc := "(I)I" } : Jvm.MethodName) ({ cls := "RecordCalls$Server", name := "verdictOnVersion", desc := "(I)I" } : Jvm.MethodName) ∈ rc_tb := rc_sm (List.mem_of_getElem? (i := 10) rfl) rfl
set_option maxRecDepth 20000 in
theorem S_11 : Cond.selects "RecordCalls$Server" ({ cls := "RecordCalls$Server", name := "isTaken", desc := "()Z" } : Jvm.MethodName) ({ cls := "RecordCalls$Server", name := "isTaken", desc := "()Z" } : Jvm.MethodName) ∈ rc_tb := rc_sm (List.mem_of_getElem? (i := 11) rfl) rfl
set_option maxRecDepth 20000 in
theorem S_12 : Cond.selects "RecordCalls$Server" ({ cls := "RecordCalls$Server", name := "takeKey", desc := "()V" } : Jvm.MethodName) ({ cls := "RecordCalls$Server", name := "takeKey", desc := "()V" } : Jvm.MethodName) ∈ rc_tb := rc_sm (List.mem_of_getElem? (i := 12) rfl) rfl
set_option maxRecDepth 20000 in
theorem S_13 : Cond.selects "RecordCalls$Server" ({ cls := "RecordCalls$Server", name := "takeKeys", desc := "()V" } : Jvm.MethodName) ({ cls := "RecordCalls$Server", name := "takeKeys", desc := "()V" } : Jvm.MethodName) ∈ rc_tb := rc_sm (List.mem_of_getElem? (i := 13) rfl) rfl
set_option maxRecDepth 20000 in
theorem S_14 : Cond.selects "RecordCalls$Server" ({ cls := "RecordCalls$Server", name := "beginReply", desc := "(II)V" } : Jvm.MethodName) ({ cls := "RecordCalls$Server", name := "beginReply", desc := "(II)V" } : Jvm.MethodName) ∈ rc_tb := rc_sm (List.mem_of_getElem? (i := 14) rfl) rfl
set_option maxRecDepth 20000 in
theorem S_15 : Cond.selects "RecordCalls$Server" ({ cls := "RecordCalls$Server", name := "give", desc := "()V" } : Jvm.MethodName) ({ cls := "RecordCalls$Server", name := "give", desc := "()V" } : Jvm.MethodName) ∈ rc_tb := rc_sm (List.mem_of_getElem? (i := 15) rfl) rfl
set_option maxRecDepth 20000 in
theorem S_16 : Cond.selects "RecordCalls$Server" ({ cls := "RecordCalls$Server", name := "giveSet", desc := "()V" } : Jvm.MethodName) ({ cls := "RecordCalls$Server", name := "giveSet", desc := "()V" } : Jvm.MethodName) ∈ rc_tb := rc_sm (List.mem_of_getElem? (i := 16) rfl) rfl
set_option maxRecDepth 20000 in
theorem S_17 : Cond.selects "RecordCalls$Server" ({ cls := "RecordCalls$Server", name := "placeTaken", desc := "(I)I" } : Jvm.MethodName) ({ cls := "RecordCalls$Server", name := "placeTaken", desc := "(I)I" } : Jvm.MethodName) ∈ rc_tb := rc_sm (List.mem_of_getElem? (i := 17) rfl) rfl
set_option maxRecDepth 20000 in
theorem S_18 : Cond.selects "RecordCalls$Server" ({ cls := "RecordCalls$Server", name := "giveValueAt", desc := "(I)V" } : Jvm.MethodName) ({ cls := "RecordCalls$Server", name := "giveValueAt", desc := "(I)V" } : Jvm.MethodName) ∈ rc_tb := rc_sm (List.mem_of_getElem? (i := 18) rfl) rfl
set_option maxRecDepth 20000 in
theorem S_19 : Cond.selects "RecordCalls$Server" ({ cls := "RecordCalls$Server", name := "giveSum", desc := "()V" } : Jvm.MethodName) ({ cls := "RecordCalls$Server", name := "giveSum", desc := "()V" } : Jvm.MethodName) ∈ rc_tb := rc_sm (List.mem_of_getElem? (i := 19) rfl) rfl
set_option maxRecDepth 20000 in
theorem S_20 : Cond.selects "RecordCalls$Server" ({ cls := "RecordCalls$Server", name := "giveList", desc := "()V" } : Jvm.MethodName) ({ cls := "RecordCalls$Server", name := "giveList", desc := "()V" } : Jvm.MethodName) ∈ rc_tb := rc_sm (List.mem_of_getElem? (i := 20) rfl) rfl
set_option maxRecDepth 20000 in
theorem S_21 : Cond.selects "RecordCalls$Server" ({ cls := "RecordCalls$Server", name := "giveRemoved", desc := "()V" } : Jvm.MethodName) ({ cls := "RecordCalls$Server", name := "giveRemoved", desc := "()V" } : Jvm.MethodName) ∈ rc_tb := rc_sm (List.mem_of_getElem? (i := 21) rfl) rfl
set_option maxRecDepth 20000 in
theorem S_22 : Cond.selects "RecordCalls" ({ cls := "RecordCalls", name := "addReply", desc := "(LRecordCalls$Row;)I" } : Jvm.MethodName) ({ cls := "RecordCalls", name := "addReply", desc := "(LRecordCalls$Row;)I" } : Jvm.MethodName) ∈ rc_tb := rc_sm (List.mem_of_getElem? (i := 22) rfl) rfl
set_option maxRecDepth 20000 in
theorem S_23 : Cond.selects "RecordCalls" ({ cls := "RecordCalls", name := "isJoined", desc := "(LRecordCalls$Row;)Z" } : Jvm.MethodName) ({ cls := "RecordCalls", name := "isJoined", desc := "(LRecordCalls$Row;)Z" } : Jvm.MethodName) ∈ rc_tb := rc_sm (List.mem_of_getElem? (i := 23) rfl) rfl
set_option maxRecDepth 20000 in
theorem S_24 : Cond.selects "RecordCallsModel" ({ cls := "RecordCallsModel", name := "newSlot", desc := "()I" } : Jvm.MethodName) ({ cls := "RecordCallsModel", name := "newSlot", desc := "()I" } : Jvm.MethodName) ∈ rc_tb := rc_sm (List.mem_of_getElem? (i := 24) rfl) rfl
set_option maxRecDepth 20000 in
theorem S_25 : Cond.selects "RecordCallsModel" ({ cls := "RecordCallsModel", name := "slotByte", desc := "(II)V" } : Jvm.MethodName) ({ cls := "RecordCallsModel", name := "slotByte", desc := "(II)V" } : Jvm.MethodName) ∈ rc_tb := rc_sm (List.mem_of_getElem? (i := 25) rfl) rfl
set_option maxRecDepth 20000 in
theorem S_26 : Cond.selects "RecordCallsModel" ({ cls := "RecordCallsModel", name := "slotWord", desc := "(II)V" } : Jvm.MethodName) ({ cls := "RecordCallsModel", name := "slotWord", desc := "(II)V" } : Jvm.MethodName) ∈ rc_tb := rc_sm (List.mem_of_getElem? (i := 26) rfl) rfl
set_option maxRecDepth 20000 in
theorem S_27 : Cond.selects "RecordCallsModel" ({ cls := "RecordCallsModel", name := "isSlot", desc := "(I)Z" } : Jvm.MethodName) ({ cls := "RecordCallsModel", name := "isSlot", desc := "(I)Z" } : Jvm.MethodName) ∈ rc_tb := rc_sm (List.mem_of_getElem? (i := 27) rfl) rfl
set_option maxRecDepth 20000 in
theorem S_28 : Cond.selects "RecordCallsModel" ({ cls := "RecordCallsModel", name := "take", desc := "(II)Z" } : Jvm.MethodName) ({ cls := "RecordCallsModel", name := "take", desc := "(II)Z" } : Jvm.MethodName) ∈ rc_tb := rc_sm (List.mem_of_getElem? (i := 28) rfl) rfl
set_option maxRecDepth 20000 in
theorem S_29 : Cond.selects "RecordCallsModel" ({ cls := "RecordCallsModel", name := "serve", desc := "()Z" } : Jvm.MethodName) ({ cls := "RecordCallsModel", name := "serve", desc := "()Z" } : Jvm.MethodName) ∈ rc_tb := rc_sm (List.mem_of_getElem? (i := 29) rfl) rfl
set_option maxRecDepth 20000 in
theorem S_30 : Cond.selects "RecordCallsModel" ({ cls := "RecordCallsModel", name := "recordWord", desc := "(I)I" } : Jvm.MethodName) ({ cls := "RecordCallsModel", name := "recordWord", desc := "(I)I" } : Jvm.MethodName) ∈ rc_tb := rc_sm (List.mem_of_getElem? (i := 30) rfl) rfl
set_option maxRecDepth 20000 in
theorem S_31 : Cond.selects "RecordCallsModel" ({ cls := "RecordCallsModel", name := "send", desc := "(I)V" } : Jvm.MethodName) ({ cls := "RecordCallsModel", name := "send", desc := "(I)V" } : Jvm.MethodName) ∈ rc_tb := rc_sm (List.mem_of_getElem? (i := 31) rfl) rfl
set_option maxRecDepth 20000 in
theorem S_32 : Cond.selects "RecordCallsModel" ({ cls := "RecordCallsModel", name := "judge", desc := "(I)Z" } : Jvm.MethodName) ({ cls := "RecordCallsModel", name := "judge", desc := "(I)Z" } : Jvm.MethodName) ∈ rc_tb := rc_sm (List.mem_of_getElem? (i := 32) rfl) rfl
set_option maxRecDepth 20000 in
theorem S_33 : Cond.selects "RecordCallsModel" ({ cls := "RecordCallsModel", name := "nextWord", desc := "()I" } : Jvm.MethodName) ({ cls := "RecordCallsModel", name := "nextWord", desc := "()I" } : Jvm.MethodName) ∈ rc_tb := rc_sm (List.mem_of_getElem? (i := 33) rfl) rfl
set_option maxRecDepth 20000 in
theorem S_34 : Cond.selects "RecordCallsModel" ({ cls := "RecordCallsModel", name := "hasBytes", desc := "(I)Z" } : Jvm.MethodName) ({ cls := "RecordCallsModel", name := "hasBytes", desc := "(I)Z" } : Jvm.MethodName) ∈ rc_tb := rc_sm (List.mem_of_getElem? (i := 34) rfl) rfl
set_option maxRecDepth 20000 in
theorem S_35 : Cond.selects "RecordCallsModel" ({ cls := "RecordCallsModel", name := "refuse", desc := "(III)Z" } : Jvm.MethodName) ({ cls := "RecordCallsModel", name := "refuse", desc := "(III)Z" } : Jvm.MethodName) ∈ rc_tb := rc_sm (List.mem_of_getElem? (i := 35) rfl) rfl
set_option maxRecDepth 20000 in
theorem S_36 : Cond.selects "RecordCallsModel" ({ cls := "RecordCallsModel", name := "outWord", desc := "(I)V" } : Jvm.MethodName) ({ cls := "RecordCallsModel", name := "outWord", desc := "(I)V" } : Jvm.MethodName) ∈ rc_tb := rc_sm (List.mem_of_getElem? (i := 36) rfl) rfl
set_option maxRecDepth 20000 in
theorem S_37 : Cond.selects "RecordCallsModel" ({ cls := "RecordCallsModel", name := "nextBytes", desc := "(I)I" } : Jvm.MethodName) ({ cls := "RecordCallsModel", name := "nextBytes", desc := "(I)I" } : Jvm.MethodName) ∈ rc_tb := rc_sm (List.mem_of_getElem? (i := 37) rfl) rfl
set_option maxRecDepth 20000 in
theorem S_38 : Cond.selects "RecordCallsModel" ({ cls := "RecordCallsModel", name := "accept", desc := "(II)Z" } : Jvm.MethodName) ({ cls := "RecordCallsModel", name := "accept", desc := "(II)Z" } : Jvm.MethodName) ∈ rc_tb := rc_sm (List.mem_of_getElem? (i := 38) rfl) rfl
set_option maxRecDepth 20000 in
theorem S_39 : Cond.selects "RecordCallsModel" ({ cls := "RecordCallsModel", name := "takes", desc := "(I)Z" } : Jvm.MethodName) ({ cls := "RecordCallsModel", name := "takes", desc := "(I)Z" } : Jvm.MethodName) ∈ rc_tb := rc_sm (List.mem_of_getElem? (i := 39) rfl) rfl
set_option maxRecDepth 20000 in
theorem S_40 : Cond.selects "RecordCallsModel" ({ cls := "RecordCallsModel", name := "nextLong", desc := "()J" } : Jvm.MethodName) ({ cls := "RecordCallsModel", name := "nextLong", desc := "()J" } : Jvm.MethodName) ∈ rc_tb := rc_sm (List.mem_of_getElem? (i := 40) rfl) rfl
set_option maxRecDepth 20000 in
theorem S_41 : Cond.selects "RecordCallsModel" ({ cls := "RecordCallsModel", name := "run", desc := "(I)V" } : Jvm.MethodName) ({ cls := "RecordCallsModel", name := "run", desc := "(I)V" } : Jvm.MethodName) ∈ rc_tb := rc_sm (List.mem_of_getElem? (i := 41) rfl) rfl
set_option maxRecDepth 20000 in
theorem S_42 : Cond.selects "RecordCallsModel" ({ cls := "RecordCallsModel", name := "runSum", desc := "()V" } : Jvm.MethodName) ({ cls := "RecordCallsModel", name := "runSum", desc := "()V" } : Jvm.MethodName) ∈ rc_tb := rc_sm (List.mem_of_getElem? (i := 42) rfl) rfl
set_option maxRecDepth 20000 in
theorem S_43 : Cond.selects "RecordCallsModel" ({ cls := "RecordCallsModel", name := "place", desc := "()I" } : Jvm.MethodName) ({ cls := "RecordCallsModel", name := "place", desc := "()I" } : Jvm.MethodName) ∈ rc_tb := rc_sm (List.mem_of_getElem? (i := 43) rfl) rfl
set_option maxRecDepth 20000 in
theorem S_44 : Cond.selects "RecordCallsModel" ({ cls := "RecordCallsModel", name := "outLong", desc := "(J)V" } : Jvm.MethodName) ({ cls := "RecordCallsModel", name := "outLong", desc := "(J)V" } : Jvm.MethodName) ∈ rc_tb := rc_sm (List.mem_of_getElem? (i := 44) rfl) rfl
set_option maxRecDepth 20000 in
theorem S_45 : Cond.selects "RecordCallsModel" ({ cls := "RecordCallsModel", name := "runList", desc := "()V" } : Jvm.MethodName) ({ cls := "RecordCallsModel", name := "runList", desc := "()V" } : Jvm.MethodName) ∈ rc_tb := rc_sm (List.mem_of_getElem? (i := 45) rfl) rfl
set_option maxRecDepth 20000 in
theorem S_46 : Cond.selects "RecordCallsModel" ({ cls := "RecordCallsModel", name := "runPut", desc := "(IJ)V" } : Jvm.MethodName) ({ cls := "RecordCallsModel", name := "runPut", desc := "(IJ)V" } : Jvm.MethodName) ∈ rc_tb := rc_sm (List.mem_of_getElem? (i := 46) rfl) rfl
set_option maxRecDepth 20000 in
theorem S_47 : Cond.selects "RecordCallsModel" ({ cls := "RecordCallsModel", name := "remove", desc := "(I)V" } : Jvm.MethodName) ({ cls := "RecordCallsModel", name := "remove", desc := "(I)V" } : Jvm.MethodName) ∈ rc_tb := rc_sm (List.mem_of_getElem? (i := 47) rfl) rfl
set_option maxRecDepth 20000 in
theorem S_48 : Cond.selects "RecordCallsModel" ({ cls := "RecordCallsModel", name := "keep", desc := "(II)V" } : Jvm.MethodName) ({ cls := "RecordCallsModel", name := "keep", desc := "(II)V" } : Jvm.MethodName) ∈ rc_tb := rc_sm (List.mem_of_getElem? (i := 48) rfl) rfl
set_option maxRecDepth 20000 in
theorem S_49 : Cond.selects "RecordCallsModel" ({ cls := "RecordCallsModel", name := "wordIn", desc := "(II)I" } : Jvm.MethodName) ({ cls := "RecordCallsModel", name := "wordIn", desc := "(II)I" } : Jvm.MethodName) ∈ rc_tb := rc_sm (List.mem_of_getElem? (i := 49) rfl) rfl
set_option maxRecDepth 20000 in
theorem S_50 : Cond.selects "RecordCallsModel" ({ cls := "RecordCallsModel", name := "wholeRecord", desc := "(I)I" } : Jvm.MethodName) ({ cls := "RecordCallsModel", name := "wholeRecord", desc := "(I)I" } : Jvm.MethodName) ∈ rc_tb := rc_sm (List.mem_of_getElem? (i := 50) rfl) rfl
set_option maxRecDepth 20000 in
theorem S_51 : Cond.selects "RecordCallsModel" ({ cls := "RecordCallsModel", name := "pushedWord", desc := "(I)I" } : Jvm.MethodName) ({ cls := "RecordCallsModel", name := "pushedWord", desc := "(I)I" } : Jvm.MethodName) ∈ rc_tb := rc_sm (List.mem_of_getElem? (i := 51) rfl) rfl
set_option maxRecDepth 20000 in
theorem S_52 : Cond.selects "RecordCallsModel" ({ cls := "RecordCallsModel", name := "tapePlace", desc := "()I" } : Jvm.MethodName) ({ cls := "RecordCallsModel", name := "tapePlace", desc := "()I" } : Jvm.MethodName) ∈ rc_tb := rc_sm (List.mem_of_getElem? (i := 52) rfl) rfl
abbrev y_rec_init : MethodName := { cls := "RecordCalls", name := "<init>", desc := "()V" }
theorem mk_rec_init : rc_MK y_rec_init prog_1_method_1_code 2 none 0 := ⟨T_22, T_1, by decide, by decide +kernel⟩
abbrev y_row_init : MethodName := { cls := "RecordCalls$Row", name := "<init>", desc := "()V" }
theorem mk_row_init : rc_MK y_row_init prog_6_method_1_code 1 none 0 := ⟨T_30, T_2, by decide, by decide +kernel⟩
abbrev y_srv_init : MethodName := { cls := "RecordCalls$Server", name := "<init>", desc := "()V" }
theorem mk_srv_init : rc_MK y_srv_init prog_7_method_1_code 1 none 0 := ⟨T_47, T_3, by decide, by decide +kernel⟩
abbrev y_map_init : MethodName := { cls := "RecordCalls$KeyMap", name := "<init>", desc := "()V" }
theorem mk_map_init : rc_MK y_map_init prog_3_method_1_code 2 none 0 := ⟨T_53, T_4, by decide, by decide +kernel⟩
abbrev y_rdr_init : MethodName := { cls := "RecordCalls$Reader", name := "<init>", desc := "()V" }
theorem mk_rdr_init : rc_MK y_rdr_init prog_4_method_1_code 1 none 0 := ⟨T_72, T_5, by decide, by decide +kernel⟩
abbrev y_con_init : MethodName := { cls := "RecordCalls$Connection", name := "<init>", desc := "()V" }
theorem mk_con_init : rc_MK y_con_init prog_2_method_1_code 1 none 0 := ⟨T_136, T_6, by decide, by decide +kernel⟩
abbrev y_rpl_init : MethodName := { cls := "RecordCalls$Replies", name := "<init>", desc := "()V" }
theorem mk_rpl_init : rc_MK y_rpl_init prog_5_method_1_code 2 none 0 := ⟨T_144, T_7, by decide, by decide +kernel⟩
abbrev y_rec_raw : MethodName := { cls := "RecordCalls", name := "raw", desc := "()I" }
theorem mk_rec_raw : rc_MK y_rec_raw prog_1_method_4_code 1 (some .int) 0 := ⟨T_207, T_1, by decide, by decide +kernel⟩
abbrev y_rec_newSlot : MethodName := { cls := "RecordCalls", name := "newSlot", desc := "()LRecordCalls$Row;" }
theorem mk_rec_newSlot : rc_MK y_rec_newSlot prog_1_method_19_code 2 (some (.object "RecordCalls$Row")) 0 := ⟨T_211, T_1, by decide, by decide +kernel⟩
abbrev y_rec_slotRow : MethodName := { cls := "RecordCalls", name := "slotRow", desc := "(I)LRecordCalls$Row;" }
theorem mk_rec_slotRow : rc_MK y_rec_slotRow prog_1_method_18_code 2 (some (.object "RecordCalls$Row")) 1 := ⟨T_215, T_1, by decide, by decide +kernel⟩
abbrev y_row_clear : MethodName := { cls := "RecordCalls$Row", name := "clear", desc := "()V" }
theorem mk_row_clear : rc_MK y_row_clear prog_6_method_3_code 1 none 0 := ⟨T_219, T_2, by decide, by decide +kernel⟩
abbrev y_row_size : MethodName := { cls := "RecordCalls$Row", name := "size", desc := "()I" }
theorem mk_row_size : rc_MK y_row_size prog_6_method_2_code 1 (some .int) 0 := ⟨T_223, T_2, by decide, by decide +kernel⟩
abbrev y_row_addPart : MethodName := { cls := "RecordCalls$Row", name := "addPart", desc := "(LRecordCalls$Row;II)V" }
theorem mk_row_addPart : rc_MK y_row_addPart prog_6_method_12_code 4 none 3 := ⟨T_227, T_2, by decide, by decide +kernel⟩
abbrev y_row_makeRoom : MethodName := { cls := "RecordCalls$Row", name := "makeRoom", desc := "(I)V" }
theorem mk_row_makeRoom : rc_MK y_row_makeRoom prog_6_method_7_code 4 none 1 := ⟨T_231, T_2, by decide, by decide +kernel⟩
abbrev y_mat_max : MethodName := { cls := "java/lang/Math", name := "max", desc := "(II)I" }
theorem mk_mat_max : rc_MK y_mat_max prog_14_method_65_code 2 (some .int) 2 := ⟨T_234, T_13, by decide, by decide +kernel⟩
abbrev y_arr_copyOf : MethodName := { cls := "java/util/Arrays", name := "copyOf", desc := "([BI)[B" }
theorem mk_arr_copyOf : rc_MK y_arr_copyOf prog_19_method_121_code 3 (some (.array (.byte))) 2 := ⟨T_237, T_14, by decide, by decide +kernel⟩
abbrev y_mat_min : MethodName := { cls := "java/lang/Math", name := "min", desc := "(II)I" }
theorem mk_mat_min : rc_MK y_mat_min prog_14_method_69_code 2 (some .int) 2 := ⟨T_247, T_13, by decide, by decide +kernel⟩
abbrev y_rec_tapeIsSlot : MethodName := { cls := "RecordCalls", name := "tapeIsSlot", desc := "()I" }
theorem mk_rec_tapeIsSlot : rc_MK y_rec_tapeIsSlot prog_1_method_20_code 1 (some .int) 0 := ⟨T_255, T_1, by decide, by decide +kernel⟩
abbrev y_rec_value : MethodName := { cls := "RecordCalls", name := "value", desc := "()J" }
theorem mk_rec_value : rc_MK y_rec_value prog_1_method_13_code 1 (some .long) 0 := ⟨T_259, T_1, by decide, by decide +kernel⟩
abbrev y_rec_placeOfTape : MethodName := { cls := "RecordCalls", name := "placeOfTape", desc := "()I" }
theorem mk_rec_placeOfTape : rc_MK y_rec_placeOfTape prog_1_method_25_code 1 (some .int) 0 := ⟨T_263, T_1, by decide, by decide +kernel⟩
abbrev y_map_placeOf : MethodName := { cls := "RecordCalls$KeyMap", name := "placeOf", desc := "(LRecordCalls$Row;II)I" }
theorem mk_map_placeOf : rc_MK y_map_placeOf prog_3_method_5_code 5 (some .int) 3 := ⟨T_267, T_4, by decide, by decide +kernel⟩
abbrev y_row_isPart : MethodName := { cls := "RecordCalls$Row", name := "isPart", desc := "(LRecordCalls$Row;II)Z" }
theorem mk_row_isPart : rc_MK y_row_isPart prog_6_method_14_code 5 (some .boolean) 3 := ⟨T_271, T_2, by decide, by decide +kernel⟩
abbrev y_row_at : MethodName := { cls := "RecordCalls$Row", name := "at", desc := "(I)I" }
theorem mk_row_at : rc_MK y_row_at prog_6_method_5_code 2 (some .int) 1 := ⟨T_275, T_2, by decide, by decide +kernel⟩
abbrev y_map_valueAt : MethodName := { cls := "RecordCalls$KeyMap", name := "valueAt", desc := "(I)J" }
theorem mk_map_valueAt : rc_MK y_map_valueAt prog_3_method_6_code 2 (some .long) 1 := ⟨T_279, T_4, by decide, by decide +kernel⟩
abbrev y_map_isPlace : MethodName := { cls := "RecordCalls$KeyMap", name := "isPlace", desc := "(I)Z" }
theorem mk_map_isPlace : rc_MK y_map_isPlace prog_3_method_4_code 2 (some .boolean) 1 := ⟨T_283, T_4, by decide, by decide +kernel⟩
abbrev y_rec_has : MethodName := { cls := "RecordCalls", name := "has", desc := "()Z" }
theorem mk_rec_has : rc_MK y_rec_has prog_1_method_14_code 1 (some .boolean) 0 := ⟨T_287, T_1, by decide, by decide +kernel⟩
abbrev y_law_feed : MethodName := { cls := "RecordCallsLaw", name := "feed", desc := "(LRecordCalls;IIIII[J)I" }
abbrev y_rec_feed : MethodName := { cls := "RecordCalls", name := "feed", desc := "(IIIII)I" }
theorem mk_rec_feed : rc_MK y_rec_feed prog_1_method_2_code 6 (some .int) 5 := ⟨T_295, T_1, by decide, by decide +kernel⟩
abbrev y_row_addWord : MethodName := { cls := "RecordCalls$Row", name := "addWord", desc := "(I)V" }
theorem mk_row_addWord : rc_MK y_row_addWord prog_6_method_9_code 2 none 1 := ⟨T_362, T_2, by decide, by decide +kernel⟩
abbrev y_law_end : MethodName := { cls := "RecordCallsLaw", name := "end", desc := "(LRecordCalls;I)I" }
abbrev y_rec_end : MethodName := { cls := "RecordCalls", name := "end", desc := "(I)V" }
theorem mk_rec_end : rc_MK y_rec_end prog_1_method_3_code 2 none 1 := ⟨T_370, T_1, by decide, by decide +kernel⟩
abbrev y_row_cutTo : MethodName := { cls := "RecordCalls$Row", name := "cutTo", desc := "(I)V" }
theorem mk_row_cutTo : rc_MK y_row_cutTo prog_6_method_4_code 2 none 1 := ⟨T_389, T_2, by decide, by decide +kernel⟩
abbrev y_law_record : MethodName := { cls := "RecordCallsLaw", name := "record", desc := "(LRecordCalls;I[J)I" }
abbrev y_rec_record : MethodName := { cls := "RecordCalls", name := "record", desc := "(I)I" }
theorem mk_rec_record : rc_MK y_rec_record prog_1_method_5_code 8 (some .int) 1 := ⟨T_396, T_1, by decide, by decide +kernel⟩
abbrev y_rec_fragments : MethodName := { cls := "RecordCalls", name := "fragments", desc := "(II)I" }
theorem mk_rec_fragments : rc_MK y_rec_fragments prog_1_method_23_code 2 (some .int) 2 := ⟨T_399, T_1, by decide, by decide +kernel⟩
abbrev y_law_call : MethodName := { cls := "RecordCallsLaw", name := "call", desc := "(LRecordCalls;IIIZJ[J)I" }
abbrev y_rec_call : MethodName := { cls := "RecordCalls", name := "call", desc := "(IIIZJ)I" }
theorem mk_rec_call : rc_MK y_rec_call prog_1_method_6_code 7 (some .int) 5 := ⟨T_408, T_1, by decide, by decide +kernel⟩
abbrev y_rec_addNobody : MethodName := { cls := "RecordCalls", name := "addNobody", desc := "(LRecordCalls$Row;)V" }
theorem mk_rec_addNobody : rc_MK y_rec_addNobody prog_1_method_22_code 1 none 1 := ⟨T_412, T_1, by decide, by decide +kernel⟩
abbrev y_row_addBytes : MethodName := { cls := "RecordCalls$Row", name := "addBytes", desc := "(LRecordCalls$Row;II)V" }
theorem mk_row_addBytes : rc_MK y_row_addBytes prog_6_method_13_code 5 none 3 := ⟨T_416, T_2, by decide, by decide +kernel⟩
abbrev y_rec_filled : MethodName := { cls := "RecordCalls", name := "filled", desc := "(I)I" }
theorem mk_rec_filled : rc_MK y_rec_filled prog_1_method_30_code 1 (some .int) 1 := ⟨T_421, T_1, by decide, by decide +kernel⟩
abbrev y_row_add : MethodName := { cls := "RecordCalls$Row", name := "add", desc := "(I)V" }
theorem mk_row_add : rc_MK y_row_add prog_6_method_8_code 2 none 1 := ⟨T_425, T_2, by decide, by decide +kernel⟩
abbrev y_row_addLong : MethodName := { cls := "RecordCalls$Row", name := "addLong", desc := "(J)V" }
theorem mk_row_addLong : rc_MK y_row_addLong prog_6_method_10_code 3 none 1 := ⟨T_429, T_2, by decide, by decide +kernel⟩
abbrev y_rec_addOneFragment : MethodName := { cls := "RecordCalls", name := "addOneFragment", desc := "(LRecordCalls$Row;)V" }
theorem mk_rec_addOneFragment : rc_MK y_rec_addOneFragment prog_1_method_21_code 3 none 1 := ⟨T_433, T_1, by decide, by decide +kernel⟩
abbrev y_law_push : MethodName := { cls := "RecordCallsLaw", name := "push", desc := "(LRecordCalls;IIII[J)I" }
abbrev y_rec_push : MethodName := { cls := "RecordCalls", name := "push", desc := "(IIII)I" }
theorem mk_rec_push : rc_MK y_rec_push prog_1_method_7_code 10 (some .int) 4 := ⟨T_441, T_1, by decide, by decide +kernel⟩
abbrev y_rec_isConnection : MethodName := { cls := "RecordCalls", name := "isConnection", desc := "(I)Z" }
theorem mk_rec_isConnection : rc_MK y_rec_isConnection prog_1_method_16_code 1 (some .boolean) 1 := ⟨T_444, T_1, by decide, by decide +kernel⟩
abbrev y_rec_isSlot : MethodName := { cls := "RecordCalls", name := "isSlot", desc := "(I)Z" }
theorem mk_rec_isSlot : rc_MK y_rec_isSlot prog_1_method_17_code 2 (some .boolean) 1 := ⟨T_448, T_1, by decide, by decide +kernel⟩
abbrev y_con_isWholeWith : MethodName := { cls := "RecordCalls$Connection", name := "isWholeWith", desc := "(I)Z" }
theorem mk_con_isWholeWith : rc_MK y_con_isWholeWith prog_2_method_2_code 2 (some .boolean) 1 := ⟨T_468, T_6, by decide, by decide +kernel⟩
abbrev y_con_takeHead : MethodName := { cls := "RecordCalls$Connection", name := "takeHead", desc := "(I)V" }
theorem mk_con_takeHead : rc_MK y_con_takeHead prog_2_method_3_code 2 none 1 := ⟨T_472, T_6, by decide, by decide +kernel⟩
abbrev y_srv_replyTo : MethodName := { cls := "RecordCalls$Server", name := "replyTo", desc := "(LRecordCalls$Row;LRecordCalls$Replies;)LRecordCalls$Row;" }
theorem mk_srv_replyTo : rc_MK y_srv_replyTo prog_7_method_2_code 6 (some (.object "RecordCalls$Row")) 2 := ⟨T_480, T_3, by decide, by decide +kernel⟩
abbrev y_row_wordAt : MethodName := { cls := "RecordCalls$Row", name := "wordAt", desc := "(I)I" }
theorem mk_row_wordAt : rc_MK y_row_wordAt prog_6_method_6_code 2 (some .int) 1 := ⟨T_485, T_2, by decide, by decide +kernel⟩
abbrev y_rpl_find : MethodName := { cls := "RecordCalls$Replies", name := "find", desc := "(I)LRecordCalls$Row;" }
theorem mk_rpl_find : rc_MK y_rpl_find prog_5_method_2_code 3 (some (.object "RecordCalls$Row")) 1 := ⟨T_489, T_7, by decide, by decide +kernel⟩
abbrev y_srv_verdictOn : MethodName := { cls := "RecordCalls$Server", name := "verdictOn", desc := "(LRecordCalls$Row;)I" }
theorem mk_srv_verdictOn : rc_MK y_srv_verdictOn prog_7_method_3_code 8 (some .int) 1 := ⟨T_493, T_3, by decide, by decide +kernel⟩
abbrev y_rdr_begin : MethodName := { cls := "RecordCalls$Reader", name := "begin", desc := "(LRecordCalls$Row;I)V" }
theorem mk_rdr_begin : rc_MK y_rdr_begin prog_4_method_2_code 3 none 2 := ⟨T_497, T_5, by decide, by decide +kernel⟩
abbrev y_rdr_nextWord : MethodName := { cls := "RecordCalls$Reader", name := "nextWord", desc := "()I" }
theorem mk_rdr_nextWord : rc_MK y_rdr_nextWord prog_4_method_7_code 1 (some .int) 0 := ⟨T_501, T_5, by decide, by decide +kernel⟩
abbrev y_rdr_nextBytes : MethodName := { cls := "RecordCalls$Reader", name := "nextBytes", desc := "(I)I" }
theorem mk_rdr_nextBytes : rc_MK y_rdr_nextBytes prog_4_method_9_code 4 (some .int) 1 := ⟨T_507, T_5, by decide, by decide +kernel⟩
abbrev y_rdr_isGood : MethodName := { cls := "RecordCalls$Reader", name := "isGood", desc := "()Z" }
theorem mk_rdr_isGood : rc_MK y_rdr_isGood prog_4_method_4_code 1 (some .boolean) 0 := ⟨T_514, T_5, by decide, by decide +kernel⟩
abbrev y_srv_verdictOnVersion : MethodName := { cls := "RecordCalls$Server", name := "verdictOnVersion", desc := "(I)I" }
theorem mk_srv_verdictOnVersion : rc_MK y_srv_verdictOnVersion prog_7_method_4_code 3 (some .int) 1 := ⟨T_519, T_3, by decide, by decide +kernel⟩
abbrev y_srv_isTaken : MethodName := { cls := "RecordCalls$Server", name := "isTaken", desc := "()Z" }
theorem mk_srv_isTaken : rc_MK y_srv_isTaken prog_7_method_6_code 1 (some .boolean) 0 := ⟨T_523, T_3, by decide, by decide +kernel⟩
abbrev y_srv_takeKey : MethodName := { cls := "RecordCalls$Server", name := "takeKey", desc := "()V" }
theorem mk_srv_takeKey : rc_MK y_srv_takeKey prog_7_method_7_code 2 none 0 := ⟨T_527, T_3, by decide, by decide +kernel⟩
abbrev y_rdr_fail : MethodName := { cls := "RecordCalls$Reader", name := "fail", desc := "()V" }
theorem mk_rdr_fail : rc_MK y_rdr_fail prog_4_method_6_code 1 none 0 := ⟨T_531, T_5, by decide, by decide +kernel⟩
abbrev y_rdr_startOfBytes : MethodName := { cls := "RecordCalls$Reader", name := "startOfBytes", desc := "(I)I" }
theorem mk_rdr_startOfBytes : rc_MK y_rdr_startOfBytes prog_4_method_10_code 2 (some .int) 1 := ⟨T_535, T_5, by decide, by decide +kernel⟩
abbrev y_rdr_nextLong : MethodName := { cls := "RecordCalls$Reader", name := "nextLong", desc := "()J" }
theorem mk_rdr_nextLong : rc_MK y_rdr_nextLong prog_4_method_8_code 5 (some .long) 0 := ⟨T_539, T_5, by decide, by decide +kernel⟩
abbrev y_srv_takeKeys : MethodName := { cls := "RecordCalls$Server", name := "takeKeys", desc := "()V" }
theorem mk_srv_takeKeys : rc_MK y_srv_takeKeys prog_7_method_8_code 3 none 0 := ⟨T_544, T_3, by decide, by decide +kernel⟩
abbrev y_rdr_isAtEnd : MethodName := { cls := "RecordCalls$Reader", name := "isAtEnd", desc := "()Z" }
theorem mk_rdr_isAtEnd : rc_MK y_rdr_isAtEnd prog_4_method_5_code 1 (some .boolean) 0 := ⟨T_548, T_5, by decide, by decide +kernel⟩
abbrev y_srv_beginReply : MethodName := { cls := "RecordCalls$Server", name := "beginReply", desc := "(II)V" }
theorem mk_srv_beginReply : rc_MK y_srv_beginReply prog_7_method_5_code 3 none 2 := ⟨T_552, T_3, by decide, by decide +kernel⟩
abbrev y_srv_give : MethodName := { cls := "RecordCalls$Server", name := "give", desc := "()V" }
theorem mk_srv_give : rc_MK y_srv_give prog_7_method_9_code 1 none 0 := ⟨T_559, T_3, by decide, by decide +kernel⟩
abbrev y_srv_giveSet : MethodName := { cls := "RecordCalls$Server", name := "giveSet", desc := "()V" }
theorem mk_srv_giveSet : rc_MK y_srv_giveSet prog_7_method_11_code 3 none 0 := ⟨T_563, T_3, by decide, by decide +kernel⟩
abbrev y_srv_placeTaken : MethodName := { cls := "RecordCalls$Server", name := "placeTaken", desc := "(I)I" }
theorem mk_srv_placeTaken : rc_MK y_srv_placeTaken prog_7_method_10_code 2 (some .int) 1 := ⟨T_567, T_3, by decide, by decide +kernel⟩
abbrev y_rdr_row : MethodName := { cls := "RecordCalls$Reader", name := "row", desc := "()LRecordCalls$Row;" }
theorem mk_rdr_row : rc_MK y_rdr_row prog_4_method_3_code 1 (some (.object "RecordCalls$Row")) 0 := ⟨T_571, T_5, by decide, by decide +kernel⟩
abbrev y_map_isFull : MethodName := { cls := "RecordCalls$KeyMap", name := "isFull", desc := "()Z" }
theorem mk_map_isFull : rc_MK y_map_isFull prog_3_method_3_code 1 (some .boolean) 0 := ⟨T_576, T_4, by decide, by decide +kernel⟩
abbrev y_row_addTruth : MethodName := { cls := "RecordCalls$Row", name := "addTruth", desc := "(Z)V" }
theorem mk_row_addTruth : rc_MK y_row_addTruth prog_6_method_11_code 2 none 1 := ⟨T_580, T_2, by decide, by decide +kernel⟩
abbrev y_map_setValue : MethodName := { cls := "RecordCalls$KeyMap", name := "setValue", desc := "(IJ)V" }
theorem mk_map_setValue : rc_MK y_map_setValue prog_3_method_7_code 4 none 2 := ⟨T_586, T_4, by decide, by decide +kernel⟩
abbrev y_map_addNew : MethodName := { cls := "RecordCalls$KeyMap", name := "addNew", desc := "(LRecordCalls$Row;IIJ)V" }
theorem mk_map_addNew : rc_MK y_map_addNew prog_3_method_9_code 6 none 4 := ⟨T_590, T_4, by decide, by decide +kernel⟩
abbrev y_srv_giveValueAt : MethodName := { cls := "RecordCalls$Server", name := "giveValueAt", desc := "(I)V" }
theorem mk_srv_giveValueAt : rc_MK y_srv_giveValueAt prog_7_method_12_code 2 none 1 := ⟨T_597, T_3, by decide, by decide +kernel⟩
abbrev y_map_addToValue : MethodName := { cls := "RecordCalls$KeyMap", name := "addToValue", desc := "(IJ)V" }
theorem mk_map_addToValue : rc_MK y_map_addToValue prog_3_method_8_code 4 none 2 := ⟨T_601, T_4, by decide, by decide +kernel⟩
abbrev y_srv_giveSum : MethodName := { cls := "RecordCalls$Server", name := "giveSum", desc := "()V" }
theorem mk_srv_giveSum : rc_MK y_srv_giveSum prog_7_method_13_code 6 none 0 := ⟨T_605, T_3, by decide, by decide +kernel⟩
abbrev y_srv_giveList : MethodName := { cls := "RecordCalls$Server", name := "giveList", desc := "()V" }
theorem mk_srv_giveList : rc_MK y_srv_giveList prog_7_method_14_code 6 none 0 := ⟨T_609, T_3, by decide, by decide +kernel⟩
abbrev y_map_size : MethodName := { cls := "RecordCalls$KeyMap", name := "size", desc := "()I" }
theorem mk_map_size : rc_MK y_map_size prog_3_method_2_code 1 (some .int) 0 := ⟨T_613, T_4, by decide, by decide +kernel⟩
abbrev y_map_keyAt : MethodName := { cls := "RecordCalls$KeyMap", name := "keyAt", desc := "(I)LRecordCalls$Row;" }
theorem mk_map_keyAt : rc_MK y_map_keyAt prog_3_method_11_code 2 (some (.object "RecordCalls$Row")) 1 := ⟨T_619, T_4, by decide, by decide +kernel⟩
abbrev y_srv_giveRemoved : MethodName := { cls := "RecordCalls$Server", name := "giveRemoved", desc := "()V" }
theorem mk_srv_giveRemoved : rc_MK y_srv_giveRemoved prog_7_method_15_code 2 none 0 := ⟨T_624, T_3, by decide, by decide +kernel⟩
abbrev y_map_remove : MethodName := { cls := "RecordCalls$KeyMap", name := "remove", desc := "(I)V" }
theorem mk_map_remove : rc_MK y_map_remove prog_3_method_10_code 4 none 1 := ⟨T_628, T_4, by decide, by decide +kernel⟩
abbrev y_rpl_keep : MethodName := { cls := "RecordCalls$Replies", name := "keep", desc := "(ILRecordCalls$Row;)V" }
theorem mk_rpl_keep : rc_MK y_rpl_keep prog_5_method_3_code 4 none 2 := ⟨T_632, T_7, by decide, by decide +kernel⟩
abbrev y_con_forgetRecord : MethodName := { cls := "RecordCalls$Connection", name := "forgetRecord", desc := "()V" }
theorem mk_con_forgetRecord : rc_MK y_con_forgetRecord prog_2_method_4_code 1 none 0 := ⟨T_639, T_6, by decide, by decide +kernel⟩
abbrev y_rec_addReply : MethodName := { cls := "RecordCalls", name := "addReply", desc := "(LRecordCalls$Row;)I" }
theorem mk_rec_addReply : rc_MK y_rec_addReply prog_1_method_24_code 2 (some .int) 1 := ⟨T_644, T_1, by decide, by decide +kernel⟩
abbrev y_law_open : MethodName := { cls := "RecordCallsLaw", name := "open", desc := "(LRecordCalls;I[J)I" }
abbrev y_rec_open : MethodName := { cls := "RecordCalls", name := "open", desc := "(I)Z" }
theorem mk_rec_open : rc_MK y_rec_open prog_1_method_8_code 2 (some .boolean) 1 := ⟨T_651, T_1, by decide, by decide +kernel⟩
abbrev y_con_openAnew : MethodName := { cls := "RecordCalls$Connection", name := "openAnew", desc := "()Z" }
theorem mk_con_openAnew : rc_MK y_con_openAnew prog_2_method_5_code 2 (some .boolean) 0 := ⟨T_655, T_6, by decide, by decide +kernel⟩
abbrev y_law_length : MethodName := { cls := "RecordCallsLaw", name := "length", desc := "(LRecordCalls;I[J)I" }
abbrev y_rec_length : MethodName := { cls := "RecordCalls", name := "length", desc := "(I)I" }
theorem mk_rec_length : rc_MK y_rec_length prog_1_method_9_code 2 (some .int) 1 := ⟨T_663, T_1, by decide, by decide +kernel⟩
abbrev y_law_byteAt : MethodName := { cls := "RecordCallsLaw", name := "byteAt", desc := "(LRecordCalls;II[J)I" }
abbrev y_rec_byteAt : MethodName := { cls := "RecordCalls", name := "byteAt", desc := "(II)I" }
theorem mk_rec_byteAt : rc_MK y_rec_byteAt prog_1_method_10_code 3 (some .int) 2 := ⟨T_670, T_1, by decide, by decide +kernel⟩
abbrev y_law_word : MethodName := { cls := "RecordCallsLaw", name := "word", desc := "(LRecordCalls;II[J)I" }
abbrev y_rec_word : MethodName := { cls := "RecordCalls", name := "word", desc := "(II)I" }
theorem mk_rec_word : rc_MK y_rec_word prog_1_method_11_code 3 (some .int) 2 := ⟨T_677, T_1, by decide, by decide +kernel⟩
abbrev y_law_says : MethodName := { cls := "RecordCallsLaw", name := "says", desc := "(LRecordCalls;II[J)I" }
abbrev y_rec_says : MethodName := { cls := "RecordCalls", name := "says", desc := "(II)I" }
theorem mk_rec_says : rc_MK y_rec_says prog_1_method_12_code 4 (some .int) 2 := ⟨T_685, T_1, by decide, by decide +kernel⟩
abbrev y_rec_isJoined : MethodName := { cls := "RecordCalls", name := "isJoined", desc := "(LRecordCalls$Row;)Z" }
theorem mk_rec_isJoined : rc_MK y_rec_isJoined prog_1_method_26_code 6 (some .boolean) 1 := ⟨T_689, T_1, by decide, by decide +kernel⟩
abbrev y_rec_saidBy : MethodName := { cls := "RecordCalls", name := "saidBy", desc := "(LRecordCalls$Row;)I" }
theorem mk_rec_saidBy : rc_MK y_rec_saidBy prog_1_method_27_code 1 (some .int) 1 := ⟨T_693, T_1, by decide, by decide +kernel⟩
abbrev y_rec_saidByAccepted : MethodName := { cls := "RecordCalls", name := "saidByAccepted", desc := "(LRecordCalls$Row;)I" }
theorem mk_rec_saidByAccepted : rc_MK y_rec_saidByAccepted prog_1_method_28_code 5 (some .int) 1 := ⟨T_696, T_1, by decide, by decide +kernel⟩
abbrev y_rec_saidByRefused : MethodName := { cls := "RecordCalls", name := "saidByRefused", desc := "(LRecordCalls$Row;)I" }
theorem mk_rec_saidByRefused : rc_MK y_rec_saidByRefused prog_1_method_29_code 3 (some .int) 1 := ⟨T_699, T_1, by decide, by decide +kernel⟩
abbrev y_law_count : MethodName := { cls := "RecordCallsLaw", name := "count", desc := "(LRecordCalls;I[J)I" }
abbrev y_rec_count : MethodName := { cls := "RecordCalls", name := "count", desc := "(I)I" }
theorem mk_rec_count : rc_MK y_rec_count prog_1_method_15_code 3 (some .int) 1 := ⟨T_706, T_1, by decide, by decide +kernel⟩
abbrev y_con_bytesWaiting : MethodName := { cls := "RecordCalls$Connection", name := "bytesWaiting", desc := "()I" }
theorem mk_con_bytesWaiting : rc_MK y_con_bytesWaiting prog_2_method_6_code 1 (some .int) 0 := ⟨T_711, T_6, by decide, by decide +kernel⟩
abbrev y_mdl_init : MethodName := { cls := "RecordCallsModel", name := "<init>", desc := "()V" }
theorem mk_mdl_init : rc_MK y_mdl_init prog_9_method_1_code 1 none 0 := ⟨T_716, T_8, by decide, by decide +kernel⟩
abbrev y_mdl_thrown : MethodName := { cls := "RecordCallsModel", name := "thrown", desc := "()I" }
theorem mk_mdl_thrown : rc_MK y_mdl_thrown prog_9_method_2_code 1 (some .int) 0 := ⟨T_826, T_8, by decide, by decide +kernel⟩
abbrev y_mdl_raw : MethodName := { cls := "RecordCallsModel", name := "raw", desc := "()I" }
theorem mk_mdl_raw : rc_MK y_mdl_raw prog_9_method_8_code 3 (some .int) 0 := ⟨T_830, T_8, by decide, by decide +kernel⟩
abbrev y_mdl_newSlot : MethodName := { cls := "RecordCallsModel", name := "newSlot", desc := "()I" }
theorem mk_mdl_newSlot : rc_MK y_mdl_newSlot prog_9_method_5_code 1 (some .int) 0 := ⟨T_834, T_8, by decide, by decide +kernel⟩
abbrev y_mdl_slotByte : MethodName := { cls := "RecordCallsModel", name := "slotByte", desc := "(II)V" }
theorem mk_mdl_slotByte : rc_MK y_mdl_slotByte prog_9_method_6_code 3 none 2 := ⟨T_838, T_8, by decide, by decide +kernel⟩
abbrev y_mdl_base : MethodName := { cls := "RecordCallsModel", name := "base", desc := "(I)I" }
theorem mk_mdl_base : rc_MK y_mdl_base prog_9_method_4_code 1 (some .int) 1 := ⟨T_841, T_8, by decide, by decide +kernel⟩
abbrev y_mdl_record : MethodName := { cls := "RecordCallsModel", name := "record", desc := "(I)I" }
theorem mk_mdl_record : rc_MK y_mdl_record prog_9_method_9_code 9 (some .int) 1 := ⟨T_845, T_8, by decide, by decide +kernel⟩
abbrev y_mdl_slotWord : MethodName := { cls := "RecordCallsModel", name := "slotWord", desc := "(II)V" }
theorem mk_mdl_slotWord : rc_MK y_mdl_slotWord prog_9_method_7_code 4 none 2 := ⟨T_850, T_8, by decide, by decide +kernel⟩
abbrev y_mdl_call : MethodName := { cls := "RecordCallsModel", name := "call", desc := "(IIIZJ)I" }
theorem mk_mdl_call : rc_MK y_mdl_call prog_9_method_10_code 10 (some .int) 5 := ⟨T_854, T_8, by decide, by decide +kernel⟩
abbrev y_mdl_push : MethodName := { cls := "RecordCallsModel", name := "push", desc := "(IIII)I" }
theorem mk_mdl_push : rc_MK y_mdl_push prog_9_method_11_code 8 (some .int) 4 := ⟨T_859, T_8, by decide, by decide +kernel⟩
abbrev y_mdl_isSlot : MethodName := { cls := "RecordCallsModel", name := "isSlot", desc := "(I)Z" }
theorem mk_mdl_isSlot : rc_MK y_mdl_isSlot prog_9_method_3_code 2 (some .boolean) 1 := ⟨T_863, T_8, by decide, by decide +kernel⟩
abbrev y_mdl_take : MethodName := { cls := "RecordCallsModel", name := "take", desc := "(II)Z" }
theorem mk_mdl_take : rc_MK y_mdl_take prog_9_method_12_code 3 (some .boolean) 2 := ⟨T_867, T_8, by decide, by decide +kernel⟩
abbrev y_mdl_serve : MethodName := { cls := "RecordCallsModel", name := "serve", desc := "()Z" }
theorem mk_mdl_serve : rc_MK y_mdl_serve prog_9_method_21_code 4 (some .boolean) 0 := ⟨T_871, T_8, by decide, by decide +kernel⟩
abbrev y_mdl_recordWord : MethodName := { cls := "RecordCallsModel", name := "recordWord", desc := "(I)I" }
theorem mk_mdl_recordWord : rc_MK y_mdl_recordWord prog_9_method_14_code 4 (some .int) 1 := ⟨T_875, T_8, by decide, by decide +kernel⟩
abbrev y_mdl_send : MethodName := { cls := "RecordCallsModel", name := "send", desc := "(I)V" }
theorem mk_mdl_send : rc_MK y_mdl_send prog_9_method_23_code 4 none 1 := ⟨T_879, T_8, by decide, by decide +kernel⟩
abbrev y_mdl_judge : MethodName := { cls := "RecordCallsModel", name := "judge", desc := "(I)Z" }
theorem mk_mdl_judge : rc_MK y_mdl_judge prog_9_method_26_code 10 (some .boolean) 1 := ⟨T_883, T_8, by decide, by decide +kernel⟩
abbrev y_mdl_nextWord : MethodName := { cls := "RecordCallsModel", name := "nextWord", desc := "()I" }
theorem mk_mdl_nextWord : rc_MK y_mdl_nextWord prog_9_method_16_code 1 (some .int) 0 := ⟨T_887, T_8, by decide, by decide +kernel⟩
abbrev y_mdl_hasBytes : MethodName := { cls := "RecordCallsModel", name := "hasBytes", desc := "(I)Z" }
theorem mk_mdl_hasBytes : rc_MK y_mdl_hasBytes prog_9_method_15_code 2 (some .boolean) 1 := ⟨T_891, T_8, by decide, by decide +kernel⟩
abbrev y_mdl_refuse : MethodName := { cls := "RecordCallsModel", name := "refuse", desc := "(III)Z" }
theorem mk_mdl_refuse : rc_MK y_mdl_refuse prog_9_method_24_code 4 (some .boolean) 3 := ⟨T_895, T_8, by decide, by decide +kernel⟩
abbrev y_mdl_outWord : MethodName := { cls := "RecordCallsModel", name := "outWord", desc := "(I)V" }
theorem mk_mdl_outWord : rc_MK y_mdl_outWord prog_9_method_19_code 3 none 1 := ⟨T_899, T_8, by decide, by decide +kernel⟩
abbrev y_mdl_nextBytes : MethodName := { cls := "RecordCallsModel", name := "nextBytes", desc := "(I)I" }
theorem mk_mdl_nextBytes : rc_MK y_mdl_nextBytes prog_9_method_18_code 5 (some .int) 1 := ⟨T_903, T_8, by decide, by decide +kernel⟩
abbrev y_mdl_accept : MethodName := { cls := "RecordCallsModel", name := "accept", desc := "(II)Z" }
theorem mk_mdl_accept : rc_MK y_mdl_accept prog_9_method_25_code 3 (some .boolean) 2 := ⟨T_907, T_8, by decide, by decide +kernel⟩
abbrev y_mdl_takes : MethodName := { cls := "RecordCallsModel", name := "takes", desc := "(I)Z" }
theorem mk_mdl_takes : rc_MK y_mdl_takes prog_9_method_27_code 4 (some .boolean) 1 := ⟨T_911, T_8, by decide, by decide +kernel⟩
abbrev y_mdl_nextLong : MethodName := { cls := "RecordCallsModel", name := "nextLong", desc := "()J" }
theorem mk_mdl_nextLong : rc_MK y_mdl_nextLong prog_9_method_17_code 5 (some .long) 0 := ⟨T_915, T_8, by decide, by decide +kernel⟩
abbrev y_mdl_run : MethodName := { cls := "RecordCallsModel", name := "run", desc := "(I)V" }
theorem mk_mdl_run : rc_MK y_mdl_run prog_9_method_29_code 3 none 1 := ⟨T_920, T_8, by decide, by decide +kernel⟩
abbrev y_mdl_runSum : MethodName := { cls := "RecordCallsModel", name := "runSum", desc := "()V" }
theorem mk_mdl_runSum : rc_MK y_mdl_runSum prog_9_method_32_code 7 none 0 := ⟨T_924, T_8, by decide, by decide +kernel⟩
abbrev y_mdl_place : MethodName := { cls := "RecordCallsModel", name := "place", desc := "()I" }
theorem mk_mdl_place : rc_MK y_mdl_place prog_9_method_28_code 4 (some .int) 0 := ⟨T_928, T_8, by decide, by decide +kernel⟩
abbrev y_mdl_outLong : MethodName := { cls := "RecordCallsModel", name := "outLong", desc := "(J)V" }
theorem mk_mdl_outLong : rc_MK y_mdl_outLong prog_9_method_20_code 3 none 1 := ⟨T_932, T_8, by decide, by decide +kernel⟩
abbrev y_mdl_runList : MethodName := { cls := "RecordCallsModel", name := "runList", desc := "()V" }
theorem mk_mdl_runList : rc_MK y_mdl_runList prog_9_method_33_code 11 none 0 := ⟨T_936, T_8, by decide, by decide +kernel⟩
abbrev y_mdl_runPut : MethodName := { cls := "RecordCallsModel", name := "runPut", desc := "(IJ)V" }
theorem mk_mdl_runPut : rc_MK y_mdl_runPut prog_9_method_30_code 5 none 2 := ⟨T_940, T_8, by decide, by decide +kernel⟩
abbrev y_mdl_remove : MethodName := { cls := "RecordCallsModel", name := "remove", desc := "(I)V" }
theorem mk_mdl_remove : rc_MK y_mdl_remove prog_9_method_31_code 4 none 1 := ⟨T_944, T_8, by decide, by decide +kernel⟩
abbrev y_mdl_keep : MethodName := { cls := "RecordCallsModel", name := "keep", desc := "(II)V" }
theorem mk_mdl_keep : rc_MK y_mdl_keep prog_9_method_22_code 5 none 2 := ⟨T_948, T_8, by decide, by decide +kernel⟩
abbrev y_mdl_open : MethodName := { cls := "RecordCallsModel", name := "open", desc := "(I)Z" }
theorem mk_mdl_open : rc_MK y_mdl_open prog_9_method_13_code 3 (some .boolean) 1 := ⟨T_952, T_8, by decide, by decide +kernel⟩
abbrev y_mdl_feed : MethodName := { cls := "RecordCallsModel", name := "feed", desc := "(IIIII)I" }
theorem mk_mdl_feed : rc_MK y_mdl_feed prog_9_method_34_code 8 (some .int) 5 := ⟨T_956, T_8, by decide, by decide +kernel⟩
abbrev y_mdl_end : MethodName := { cls := "RecordCallsModel", name := "end", desc := "(I)V" }
theorem mk_mdl_end : rc_MK y_mdl_end prog_9_method_35_code 2 none 1 := ⟨T_960, T_8, by decide, by decide +kernel⟩
abbrev y_mdl_length : MethodName := { cls := "RecordCallsModel", name := "length", desc := "(I)I" }
theorem mk_mdl_length : rc_MK y_mdl_length prog_9_method_36_code 2 (some .int) 1 := ⟨T_964, T_8, by decide, by decide +kernel⟩
abbrev y_mdl_byteAt : MethodName := { cls := "RecordCallsModel", name := "byteAt", desc := "(II)I" }
theorem mk_mdl_byteAt : rc_MK y_mdl_byteAt prog_9_method_37_code 3 (some .int) 2 := ⟨T_968, T_8, by decide, by decide +kernel⟩
abbrev y_mdl_word : MethodName := { cls := "RecordCallsModel", name := "word", desc := "(II)I" }
theorem mk_mdl_word : rc_MK y_mdl_word prog_9_method_39_code 3 (some .int) 2 := ⟨T_972, T_8, by decide, by decide +kernel⟩
abbrev y_mdl_wordIn : MethodName := { cls := "RecordCallsModel", name := "wordIn", desc := "(II)I" }
theorem mk_mdl_wordIn : rc_MK y_mdl_wordIn prog_9_method_38_code 5 (some .int) 2 := ⟨T_976, T_8, by decide, by decide +kernel⟩
abbrev y_mdl_says : MethodName := { cls := "RecordCallsModel", name := "says", desc := "(II)I" }
theorem mk_mdl_says : rc_MK y_mdl_says prog_9_method_42_code 10 (some .int) 2 := ⟨T_980, T_8, by decide, by decide +kernel⟩
abbrev y_mdl_wholeRecord : MethodName := { cls := "RecordCallsModel", name := "wholeRecord", desc := "(I)I" }
theorem mk_mdl_wholeRecord : rc_MK y_mdl_wholeRecord prog_9_method_40_code 9 (some .int) 1 := ⟨T_984, T_8, by decide, by decide +kernel⟩
abbrev y_mdl_pushedWord : MethodName := { cls := "RecordCallsModel", name := "pushedWord", desc := "(I)I" }
theorem mk_mdl_pushedWord : rc_MK y_mdl_pushedWord prog_9_method_41_code 4 (some .int) 1 := ⟨T_988, T_8, by decide, by decide +kernel⟩
abbrev y_mdl_value : MethodName := { cls := "RecordCallsModel", name := "value", desc := "()J" }
theorem mk_mdl_value : rc_MK y_mdl_value prog_9_method_44_code 1 (some .long) 0 := ⟨T_992, T_8, by decide, by decide +kernel⟩
abbrev y_mdl_tapePlace : MethodName := { cls := "RecordCallsModel", name := "tapePlace", desc := "()I" }
theorem mk_mdl_tapePlace : rc_MK y_mdl_tapePlace prog_9_method_43_code 4 (some .int) 0 := ⟨T_996, T_8, by decide, by decide +kernel⟩
abbrev y_mdl_has : MethodName := { cls := "RecordCallsModel", name := "has", desc := "()Z" }
theorem mk_mdl_has : rc_MK y_mdl_has prog_9_method_45_code 1 (some .boolean) 0 := ⟨T_1000, T_8, by decide, by decide +kernel⟩
abbrev y_mdl_count : MethodName := { cls := "RecordCallsModel", name := "count", desc := "(I)I" }
theorem mk_mdl_count : rc_MK y_mdl_count prog_9_method_46_code 2 (some .int) 1 := ⟨T_1004, T_8, by decide, by decide +kernel⟩
