theorem fl_mdl_24 : rc_FL "RecordCallsModel" 24 7 7 := ⟨by decide, by decide, Or.inl T_726⟩
theorem fl_mdl_27 : rc_FL "RecordCallsModel" 27 7 8 := ⟨by decide, by decide, Or.inl T_727⟩
theorem fl_mdl_30 : rc_FL "RecordCallsModel" 30 7 9 := ⟨by decide, by decide, Or.inl T_728⟩
theorem fl_mdl_62 : rc_FL "RecordCallsModel" 62 7 20 := ⟨by decide, by decide, Or.inl T_739⟩
theorem fl_mdl_65 : rc_FL "RecordCallsModel" 65 7 21 := ⟨by decide, by decide, Or.inl T_740⟩
theorem fl_mdl_71 : rc_FL "RecordCallsModel" 71 7 31 := ⟨by decide, by decide, Or.inl T_750⟩
theorem fl_mdl_109 : rc_FL "RecordCallsModel" 109 7 26 := ⟨by decide, by decide, Or.inl T_745⟩
theorem fl_mdl_116 : rc_FL "RecordCallsModel" 116 7 27 := ⟨by decide, by decide, Or.inl T_746⟩
theorem fl_mdl_119 : rc_FL "RecordCallsModel" 119 7 28 := ⟨by decide, by decide, Or.inl T_747⟩
theorem fl_mdl_134 : rc_FL "RecordCallsModel" 134 7 29 := ⟨by decide, by decide, Or.inl T_748⟩
theorem fl_mdl_137 : rc_FL "RecordCallsModel" 137 7 30 := ⟨by decide, by decide, Or.inl T_749⟩
theorem fl_mdl_140 : rc_FL "RecordCallsModel" 140 7 32 := ⟨by decide, by decide, Or.inl T_751⟩
theorem fl_mdl_188 : rc_FL "RecordCallsModel" 188 7 10 := ⟨by decide, by decide, Or.inl T_729⟩
theorem d_mdl_recordWord_0 : decode prog_9_method_14_code 0 = .ok (.iconst 0, 1) := by decide +kernel
theorem d_mdl_recordWord_1 : decode prog_9_method_14_code 1 = .ok (.istore_n 2, 1) := by decide +kernel
theorem d_mdl_recordWord_2 : decode prog_9_method_14_code 2 = .ok (.iconst 0, 1) := by decide +kernel
theorem d_mdl_recordWord_3 : decode prog_9_method_14_code 3 = .ok (.istore_n 3, 1) := by decide +kernel
theorem d_mdl_recordWord_4 : decode prog_9_method_14_code 4 = .ok (.iload_n 3, 1) := by decide +kernel
theorem d_mdl_recordWord_5 : decode prog_9_method_14_code 5 = .ok (.iconst 4, 1) := by decide +kernel
theorem d_mdl_recordWord_6 : decode prog_9_method_14_code 6 = .ok (.if_icmp .ge 36, 3) := by decide +kernel
theorem d_mdl_recordWord_9 : decode prog_9_method_14_code 9 = .ok (.iload_n 2, 1) := by decide +kernel
theorem d_mdl_recordWord_10 : decode prog_9_method_14_code 10 = .ok (.bipush 8, 2) := by decide +kernel
theorem d_mdl_recordWord_12 : decode prog_9_method_14_code 12 = .ok (.ishl, 1) := by decide +kernel
theorem d_mdl_recordWord_13 : decode prog_9_method_14_code 13 = .ok (.aload_n 0, 1) := by decide +kernel
theorem d_mdl_recordWord_14 : decode prog_9_method_14_code 14 = .ok (.getfield 34, 3) := by decide +kernel
theorem d_mdl_recordWord_17 : decode prog_9_method_14_code 17 = .ok (.sipush 1200, 3) := by decide +kernel
theorem d_mdl_recordWord_20 : decode prog_9_method_14_code 20 = .ok (.aload_n 0, 1) := by decide +kernel
theorem d_mdl_recordWord_21 : decode prog_9_method_14_code 21 = .ok (.getfield 109, 3) := by decide +kernel
theorem d_mdl_recordWord_24 : decode prog_9_method_14_code 24 = .ok (.imul, 1) := by decide +kernel
theorem d_mdl_recordWord_25 : decode prog_9_method_14_code 25 = .ok (.iload_n 1, 1) := by decide +kernel
theorem d_mdl_recordWord_26 : decode prog_9_method_14_code 26 = .ok (.iadd, 1) := by decide +kernel
theorem d_mdl_recordWord_27 : decode prog_9_method_14_code 27 = .ok (.iload_n 3, 1) := by decide +kernel
theorem d_mdl_recordWord_28 : decode prog_9_method_14_code 28 = .ok (.iadd, 1) := by decide +kernel
theorem d_mdl_recordWord_29 : decode prog_9_method_14_code 29 = .ok (.baload, 1) := by decide +kernel
theorem d_mdl_recordWord_30 : decode prog_9_method_14_code 30 = .ok (.sipush 255, 3) := by decide +kernel
theorem d_mdl_recordWord_33 : decode prog_9_method_14_code 33 = .ok (.iand, 1) := by decide +kernel
theorem d_mdl_recordWord_34 : decode prog_9_method_14_code 34 = .ok (.ior, 1) := by decide +kernel
theorem d_mdl_recordWord_35 : decode prog_9_method_14_code 35 = .ok (.istore_n 2, 1) := by decide +kernel
theorem d_mdl_recordWord_36 : decode prog_9_method_14_code 36 = .ok (.iinc 3 1, 3) := by decide +kernel
theorem d_mdl_recordWord_39 : decode prog_9_method_14_code 39 = .ok (.goto (-35), 3) := by decide +kernel
theorem d_mdl_recordWord_42 : decode prog_9_method_14_code 42 = .ok (.iload_n 2, 1) := by decide +kernel
theorem d_mdl_recordWord_43 : decode prog_9_method_14_code 43 = .ok (.ireturn, 1) := by decide +kernel
theorem d_mdl_send_0 : decode prog_9_method_23_code 0 = .ok (.aload_n 0, 1) := by decide +kernel
theorem d_mdl_send_1 : decode prog_9_method_23_code 1 = .ok (.invokevirtual 89, 3) := by decide +kernel
theorem d_mdl_send_4 : decode prog_9_method_23_code 4 = .ok (.istore_n 2, 1) := by decide +kernel
theorem d_mdl_send_5 : decode prog_9_method_23_code 5 = .ok (.aload_n 0, 1) := by decide +kernel
theorem d_mdl_send_6 : decode prog_9_method_23_code 6 = .ok (.iload_n 2, 1) := by decide +kernel
theorem d_mdl_send_7 : decode prog_9_method_23_code 7 = .ok (.aload_n 0, 1) := by decide +kernel
theorem d_mdl_send_8 : decode prog_9_method_23_code 8 = .ok (.getfield 62, 3) := by decide +kernel
theorem d_mdl_send_11 : decode prog_9_method_23_code 11 = .ok (.iload_n 1, 1) := by decide +kernel
theorem d_mdl_send_12 : decode prog_9_method_23_code 12 = .ok (.iaload, 1) := by decide +kernel
theorem d_mdl_send_13 : decode prog_9_method_23_code 13 = .ok (.ldc 96, 2) := by decide +kernel
theorem d_mdl_send_15 : decode prog_9_method_23_code 15 = .ok (.isub, 1) := by decide +kernel
theorem d_mdl_send_16 : decode prog_9_method_23_code 16 = .ok (.iconst 1, 1) := by decide +kernel
theorem d_mdl_send_17 : decode prog_9_method_23_code 17 = .ok (.isub, 1) := by decide +kernel
theorem d_mdl_send_18 : decode prog_9_method_23_code 18 = .ok (.invokevirtual 97, 3) := by decide +kernel
theorem d_mdl_send_21 : decode prog_9_method_23_code 21 = .ok (.iconst 0, 1) := by decide +kernel
theorem d_mdl_send_22 : decode prog_9_method_23_code 22 = .ok (.istore_n 3, 1) := by decide +kernel
theorem d_mdl_send_23 : decode prog_9_method_23_code 23 = .ok (.iload_n 3, 1) := by decide +kernel
theorem d_mdl_send_24 : decode prog_9_method_23_code 24 = .ok (.aload_n 0, 1) := by decide +kernel
theorem d_mdl_send_25 : decode prog_9_method_23_code 25 = .ok (.getfield 62, 3) := by decide +kernel
theorem d_mdl_send_28 : decode prog_9_method_23_code 28 = .ok (.iload_n 1, 1) := by decide +kernel
theorem d_mdl_send_29 : decode prog_9_method_23_code 29 = .ok (.iaload, 1) := by decide +kernel
theorem d_mdl_send_30 : decode prog_9_method_23_code 30 = .ok (.if_icmp .ge 26, 3) := by decide +kernel
theorem d_mdl_send_33 : decode prog_9_method_23_code 33 = .ok (.aload_n 0, 1) := by decide +kernel
theorem d_mdl_send_34 : decode prog_9_method_23_code 34 = .ok (.iload_n 2, 1) := by decide +kernel
theorem d_mdl_send_35 : decode prog_9_method_23_code 35 = .ok (.aload_n 0, 1) := by decide +kernel
theorem d_mdl_send_36 : decode prog_9_method_23_code 36 = .ok (.getfield 65, 3) := by decide +kernel
theorem d_mdl_send_39 : decode prog_9_method_23_code 39 = .ok (.sipush 400, 3) := by decide +kernel
theorem d_mdl_send_42 : decode prog_9_method_23_code 42 = .ok (.iload_n 1, 1) := by decide +kernel
theorem d_mdl_send_43 : decode prog_9_method_23_code 43 = .ok (.imul, 1) := by decide +kernel
theorem d_mdl_send_44 : decode prog_9_method_23_code 44 = .ok (.iload_n 3, 1) := by decide +kernel
theorem d_mdl_send_45 : decode prog_9_method_23_code 45 = .ok (.iadd, 1) := by decide +kernel
theorem d_mdl_send_46 : decode prog_9_method_23_code 46 = .ok (.baload, 1) := by decide +kernel
theorem d_mdl_send_47 : decode prog_9_method_23_code 47 = .ok (.invokevirtual 85, 3) := by decide +kernel
theorem d_mdl_send_50 : decode prog_9_method_23_code 50 = .ok (.iinc 3 1, 3) := by decide +kernel
theorem d_mdl_send_53 : decode prog_9_method_23_code 53 = .ok (.goto (-30), 3) := by decide +kernel
theorem d_mdl_send_56 : decode prog_9_method_23_code 56 = .ok (.return_, 1) := by decide +kernel
theorem d_mdl_hasBytes_0 : decode prog_9_method_15_code 0 = .ok (.iload_n 1, 1) := by decide +kernel
theorem d_mdl_hasBytes_1 : decode prog_9_method_15_code 1 = .ok (.ifCond .lt 25, 3) := by decide +kernel
theorem d_mdl_hasBytes_4 : decode prog_9_method_15_code 4 = .ok (.iload_n 1, 1) := by decide +kernel
theorem d_mdl_hasBytes_5 : decode prog_9_method_15_code 5 = .ok (.aload_n 0, 1) := by decide +kernel
theorem d_mdl_hasBytes_6 : decode prog_9_method_15_code 6 = .ok (.getfield 37, 3) := by decide +kernel
theorem d_mdl_hasBytes_9 : decode prog_9_method_15_code 9 = .ok (.aload_n 0, 1) := by decide +kernel
theorem d_mdl_hasBytes_10 : decode prog_9_method_15_code 10 = .ok (.getfield 109, 3) := by decide +kernel
theorem d_mdl_hasBytes_13 : decode prog_9_method_15_code 13 = .ok (.iaload, 1) := by decide +kernel
theorem d_mdl_hasBytes_14 : decode prog_9_method_15_code 14 = .ok (.aload_n 0, 1) := by decide +kernel
theorem d_mdl_hasBytes_15 : decode prog_9_method_15_code 15 = .ok (.getfield 116, 3) := by decide +kernel
theorem d_mdl_hasBytes_18 : decode prog_9_method_15_code 18 = .ok (.isub, 1) := by decide +kernel
theorem d_mdl_hasBytes_19 : decode prog_9_method_15_code 19 = .ok (.if_icmp .gt 7, 3) := by decide +kernel
theorem d_mdl_hasBytes_22 : decode prog_9_method_15_code 22 = .ok (.iconst 1, 1) := by decide +kernel
theorem d_mdl_hasBytes_23 : decode prog_9_method_15_code 23 = .ok (.goto 4, 3) := by decide +kernel
theorem d_mdl_hasBytes_26 : decode prog_9_method_15_code 26 = .ok (.iconst 0, 1) := by decide +kernel
theorem d_mdl_hasBytes_27 : decode prog_9_method_15_code 27 = .ok (.ireturn, 1) := by decide +kernel
theorem d_mdl_nextWord_0 : decode prog_9_method_16_code 0 = .ok (.aload_n 0, 1) := by decide +kernel
theorem d_mdl_nextWord_1 : decode prog_9_method_16_code 1 = .ok (.aload_n 0, 1) := by decide +kernel
theorem d_mdl_nextWord_2 : decode prog_9_method_16_code 2 = .ok (.getfield 119, 3) := by decide +kernel
theorem d_mdl_nextWord_5 : decode prog_9_method_16_code 5 = .ok (.ifCond .eq 15, 3) := by decide +kernel
theorem d_mdl_nextWord_8 : decode prog_9_method_16_code 8 = .ok (.aload_n 0, 1) := by decide +kernel
theorem d_mdl_nextWord_9 : decode prog_9_method_16_code 9 = .ok (.iconst 4, 1) := by decide +kernel
theorem d_mdl_nextWord_10 : decode prog_9_method_16_code 10 = .ok (.invokevirtual 123, 3) := by decide +kernel
theorem d_mdl_nextWord_13 : decode prog_9_method_16_code 13 = .ok (.ifCond .eq 7, 3) := by decide +kernel
theorem d_mdl_nextWord_16 : decode prog_9_method_16_code 16 = .ok (.iconst 1, 1) := by decide +kernel
theorem d_mdl_nextWord_17 : decode prog_9_method_16_code 17 = .ok (.goto 4, 3) := by decide +kernel
theorem d_mdl_nextWord_20 : decode prog_9_method_16_code 20 = .ok (.iconst 0, 1) := by decide +kernel
theorem d_mdl_nextWord_21 : decode prog_9_method_16_code 21 = .ok (.putfield 119, 3) := by decide +kernel
theorem d_mdl_nextWord_24 : decode prog_9_method_16_code 24 = .ok (.aload_n 0, 1) := by decide +kernel
theorem d_mdl_nextWord_25 : decode prog_9_method_16_code 25 = .ok (.getfield 119, 3) := by decide +kernel
theorem d_mdl_nextWord_28 : decode prog_9_method_16_code 28 = .ok (.ifCond .ne 5, 3) := by decide +kernel
theorem d_mdl_nextWord_31 : decode prog_9_method_16_code 31 = .ok (.iconst 0, 1) := by decide +kernel
theorem d_mdl_nextWord_32 : decode prog_9_method_16_code 32 = .ok (.ireturn, 1) := by decide +kernel
theorem d_mdl_nextWord_33 : decode prog_9_method_16_code 33 = .ok (.aload_n 0, 1) := by decide +kernel
theorem d_mdl_nextWord_34 : decode prog_9_method_16_code 34 = .ok (.aload_n 0, 1) := by decide +kernel
theorem d_mdl_nextWord_35 : decode prog_9_method_16_code 35 = .ok (.getfield 116, 3) := by decide +kernel
theorem d_mdl_nextWord_38 : decode prog_9_method_16_code 38 = .ok (.iconst 4, 1) := by decide +kernel
theorem d_mdl_nextWord_39 : decode prog_9_method_16_code 39 = .ok (.iadd, 1) := by decide +kernel
theorem d_mdl_nextWord_40 : decode prog_9_method_16_code 40 = .ok (.putfield 116, 3) := by decide +kernel
theorem d_mdl_nextWord_43 : decode prog_9_method_16_code 43 = .ok (.aload_n 0, 1) := by decide +kernel
theorem d_mdl_nextWord_44 : decode prog_9_method_16_code 44 = .ok (.aload_n 0, 1) := by decide +kernel
theorem d_mdl_nextWord_45 : decode prog_9_method_16_code 45 = .ok (.getfield 116, 3) := by decide +kernel
theorem d_mdl_nextWord_48 : decode prog_9_method_16_code 48 = .ok (.iconst 4, 1) := by decide +kernel
theorem d_mdl_nextWord_49 : decode prog_9_method_16_code 49 = .ok (.isub, 1) := by decide +kernel
theorem d_mdl_nextWord_50 : decode prog_9_method_16_code 50 = .ok (.invokevirtual 126, 3) := by decide +kernel
theorem d_mdl_nextWord_53 : decode prog_9_method_16_code 53 = .ok (.ireturn, 1) := by decide +kernel
theorem d_mdl_outWord_0 : decode prog_9_method_19_code 0 = .ok (.bipush 24, 2) := by decide +kernel
theorem d_mdl_outWord_2 : decode prog_9_method_19_code 2 = .ok (.istore_n 2, 1) := by decide +kernel
theorem d_mdl_outWord_3 : decode prog_9_method_19_code 3 = .ok (.iload_n 2, 1) := by decide +kernel
theorem d_mdl_outWord_4 : decode prog_9_method_19_code 4 = .ok (.ifCond .lt 34, 3) := by decide +kernel
theorem d_mdl_outWord_7 : decode prog_9_method_19_code 7 = .ok (.aload_n 0, 1) := by decide +kernel
theorem d_mdl_outWord_8 : decode prog_9_method_19_code 8 = .ok (.getfield 71, 3) := by decide +kernel
theorem d_mdl_outWord_11 : decode prog_9_method_19_code 11 = .ok (.aload_n 0, 1) := by decide +kernel
theorem d_mdl_outWord_12 : decode prog_9_method_19_code 12 = .ok (.getfield 140, 3) := by decide +kernel
theorem d_mdl_outWord_15 : decode prog_9_method_19_code 15 = .ok (.iload_n 1, 1) := by decide +kernel
theorem d_mdl_outWord_16 : decode prog_9_method_19_code 16 = .ok (.iload_n 2, 1) := by decide +kernel
theorem d_mdl_outWord_17 : decode prog_9_method_19_code 17 = .ok (.ishr, 1) := by decide +kernel
theorem d_mdl_outWord_18 : decode prog_9_method_19_code 18 = .ok (.i2b, 1) := by decide +kernel
theorem d_mdl_outWord_19 : decode prog_9_method_19_code 19 = .ok (.bastore, 1) := by decide +kernel
theorem d_mdl_outWord_20 : decode prog_9_method_19_code 20 = .ok (.aload_n 0, 1) := by decide +kernel
theorem d_mdl_outWord_21 : decode prog_9_method_19_code 21 = .ok (.dup, 1) := by decide +kernel
theorem d_mdl_outWord_22 : decode prog_9_method_19_code 22 = .ok (.getfield 140, 3) := by decide +kernel
theorem d_mdl_outWord_25 : decode prog_9_method_19_code 25 = .ok (.iconst 1, 1) := by decide +kernel
theorem d_mdl_outWord_26 : decode prog_9_method_19_code 26 = .ok (.iadd, 1) := by decide +kernel
theorem d_mdl_outWord_27 : decode prog_9_method_19_code 27 = .ok (.putfield 140, 3) := by decide +kernel
theorem d_mdl_outWord_30 : decode prog_9_method_19_code 30 = .ok (.iload_n 2, 1) := by decide +kernel
theorem d_mdl_outWord_31 : decode prog_9_method_19_code 31 = .ok (.bipush 8, 2) := by decide +kernel
theorem d_mdl_outWord_33 : decode prog_9_method_19_code 33 = .ok (.isub, 1) := by decide +kernel
theorem d_mdl_outWord_34 : decode prog_9_method_19_code 34 = .ok (.istore_n 2, 1) := by decide +kernel
theorem d_mdl_outWord_35 : decode prog_9_method_19_code 35 = .ok (.goto (-32), 3) := by decide +kernel
theorem d_mdl_outWord_38 : decode prog_9_method_19_code 38 = .ok (.return_, 1) := by decide +kernel
theorem d_mdl_refuse_0 : decode prog_9_method_24_code 0 = .ok (.aload_n 0, 1) := by decide +kernel
theorem d_mdl_refuse_1 : decode prog_9_method_24_code 1 = .ok (.iload_n 1, 1) := by decide +kernel
theorem d_mdl_refuse_2 : decode prog_9_method_24_code 2 = .ok (.invokevirtual 143, 3) := by decide +kernel
theorem d_mdl_refuse_5 : decode prog_9_method_24_code 5 = .ok (.aload_n 0, 1) := by decide +kernel
theorem d_mdl_refuse_6 : decode prog_9_method_24_code 6 = .ok (.iconst 1, 1) := by decide +kernel
theorem d_mdl_refuse_7 : decode prog_9_method_24_code 7 = .ok (.invokevirtual 143, 3) := by decide +kernel
theorem d_mdl_refuse_10 : decode prog_9_method_24_code 10 = .ok (.aload_n 0, 1) := by decide +kernel
theorem d_mdl_refuse_11 : decode prog_9_method_24_code 11 = .ok (.iconst 1, 1) := by decide +kernel
theorem d_mdl_refuse_12 : decode prog_9_method_24_code 12 = .ok (.invokevirtual 143, 3) := by decide +kernel
theorem d_mdl_refuse_15 : decode prog_9_method_24_code 15 = .ok (.aload_n 0, 1) := by decide +kernel
theorem d_mdl_refuse_16 : decode prog_9_method_24_code 16 = .ok (.iload_n 2, 1) := by decide +kernel
theorem d_mdl_refuse_17 : decode prog_9_method_24_code 17 = .ok (.invokevirtual 143, 3) := by decide +kernel
theorem d_mdl_refuse_20 : decode prog_9_method_24_code 20 = .ok (.aload_n 0, 1) := by decide +kernel
theorem d_mdl_refuse_21 : decode prog_9_method_24_code 21 = .ok (.iload_n 3, 1) := by decide +kernel
theorem d_mdl_refuse_22 : decode prog_9_method_24_code 22 = .ok (.invokevirtual 143, 3) := by decide +kernel
theorem d_mdl_refuse_25 : decode prog_9_method_24_code 25 = .ok (.iload_n 2, 1) := by decide +kernel
theorem d_mdl_refuse_26 : decode prog_9_method_24_code 26 = .ok (.ifCond .ne 8, 3) := by decide +kernel
theorem d_mdl_refuse_29 : decode prog_9_method_24_code 29 = .ok (.aload_n 0, 1) := by decide +kernel
theorem d_mdl_refuse_30 : decode prog_9_method_24_code 30 = .ok (.iconst 2, 1) := by decide +kernel
theorem d_mdl_refuse_31 : decode prog_9_method_24_code 31 = .ok (.invokevirtual 143, 3) := by decide +kernel
theorem d_mdl_refuse_34 : decode prog_9_method_24_code 34 = .ok (.iconst 1, 1) := by decide +kernel
theorem d_mdl_refuse_35 : decode prog_9_method_24_code 35 = .ok (.ireturn, 1) := by decide +kernel
theorem d_mdl_nextBytes_0 : decode prog_9_method_18_code 0 = .ok (.aload_n 0, 1) := by decide +kernel
theorem d_mdl_nextBytes_1 : decode prog_9_method_18_code 1 = .ok (.invokevirtual 129, 3) := by decide +kernel
theorem d_mdl_nextBytes_4 : decode prog_9_method_18_code 4 = .ok (.istore_n 2, 1) := by decide +kernel
theorem d_mdl_nextBytes_5 : decode prog_9_method_18_code 5 = .ok (.aload_n 0, 1) := by decide +kernel
theorem d_mdl_nextBytes_6 : decode prog_9_method_18_code 6 = .ok (.aload_n 0, 1) := by decide +kernel
theorem d_mdl_nextBytes_7 : decode prog_9_method_18_code 7 = .ok (.getfield 119, 3) := by decide +kernel
theorem d_mdl_nextBytes_10 : decode prog_9_method_18_code 10 = .ok (.ifCond .eq 16, 3) := by decide +kernel
theorem d_mdl_nextBytes_13 : decode prog_9_method_18_code 13 = .ok (.iload_n 2, 1) := by decide +kernel
theorem d_mdl_nextBytes_14 : decode prog_9_method_18_code 14 = .ok (.ifCond .lt 12, 3) := by decide +kernel
theorem d_mdl_nextBytes_17 : decode prog_9_method_18_code 17 = .ok (.iload_n 2, 1) := by decide +kernel
theorem d_mdl_nextBytes_18 : decode prog_9_method_18_code 18 = .ok (.iload_n 1, 1) := by decide +kernel
theorem d_mdl_nextBytes_19 : decode prog_9_method_18_code 19 = .ok (.if_icmp .gt 7, 3) := by decide +kernel
theorem d_mdl_nextBytes_22 : decode prog_9_method_18_code 22 = .ok (.iconst 1, 1) := by decide +kernel
theorem d_mdl_nextBytes_23 : decode prog_9_method_18_code 23 = .ok (.goto 4, 3) := by decide +kernel
theorem d_mdl_nextBytes_26 : decode prog_9_method_18_code 26 = .ok (.iconst 0, 1) := by decide +kernel
theorem d_mdl_nextBytes_27 : decode prog_9_method_18_code 27 = .ok (.putfield 119, 3) := by decide +kernel
theorem d_mdl_nextBytes_30 : decode prog_9_method_18_code 30 = .ok (.iload_n 2, 1) := by decide +kernel
theorem d_mdl_nextBytes_31 : decode prog_9_method_18_code 31 = .ok (.iconst 3, 1) := by decide +kernel
theorem d_mdl_nextBytes_32 : decode prog_9_method_18_code 32 = .ok (.iadd, 1) := by decide +kernel
theorem d_mdl_nextBytes_33 : decode prog_9_method_18_code 33 = .ok (.iconst 4, 1) := by decide +kernel
theorem d_mdl_nextBytes_34 : decode prog_9_method_18_code 34 = .ok (.idiv, 1) := by decide +kernel
theorem d_mdl_nextBytes_35 : decode prog_9_method_18_code 35 = .ok (.iconst 4, 1) := by decide +kernel
theorem d_mdl_nextBytes_36 : decode prog_9_method_18_code 36 = .ok (.imul, 1) := by decide +kernel
theorem d_mdl_nextBytes_37 : decode prog_9_method_18_code 37 = .ok (.istore_n 3, 1) := by decide +kernel
theorem d_mdl_nextBytes_38 : decode prog_9_method_18_code 38 = .ok (.aload_n 0, 1) := by decide +kernel
theorem d_mdl_nextBytes_39 : decode prog_9_method_18_code 39 = .ok (.aload_n 0, 1) := by decide +kernel
theorem d_mdl_nextBytes_40 : decode prog_9_method_18_code 40 = .ok (.getfield 119, 3) := by decide +kernel
theorem d_mdl_nextBytes_43 : decode prog_9_method_18_code 43 = .ok (.ifCond .eq 15, 3) := by decide +kernel
theorem d_mdl_nextBytes_46 : decode prog_9_method_18_code 46 = .ok (.aload_n 0, 1) := by decide +kernel
theorem d_mdl_nextBytes_47 : decode prog_9_method_18_code 47 = .ok (.iload_n 3, 1) := by decide +kernel
theorem d_mdl_nextBytes_48 : decode prog_9_method_18_code 48 = .ok (.invokevirtual 123, 3) := by decide +kernel
theorem d_mdl_nextBytes_51 : decode prog_9_method_18_code 51 = .ok (.ifCond .eq 7, 3) := by decide +kernel
theorem d_mdl_nextBytes_54 : decode prog_9_method_18_code 54 = .ok (.iconst 1, 1) := by decide +kernel
theorem d_mdl_nextBytes_55 : decode prog_9_method_18_code 55 = .ok (.goto 4, 3) := by decide +kernel
theorem d_mdl_nextBytes_58 : decode prog_9_method_18_code 58 = .ok (.iconst 0, 1) := by decide +kernel
theorem d_mdl_nextBytes_59 : decode prog_9_method_18_code 59 = .ok (.putfield 119, 3) := by decide +kernel
theorem d_mdl_nextBytes_62 : decode prog_9_method_18_code 62 = .ok (.iload_n 2, 1) := by decide +kernel
theorem d_mdl_nextBytes_63 : decode prog_9_method_18_code 63 = .ok (.istore 4, 2) := by decide +kernel
theorem d_mdl_nextBytes_65 : decode prog_9_method_18_code 65 = .ok (.aload_n 0, 1) := by decide +kernel
theorem d_mdl_nextBytes_66 : decode prog_9_method_18_code 66 = .ok (.getfield 119, 3) := by decide +kernel
theorem d_mdl_nextBytes_69 : decode prog_9_method_18_code 69 = .ok (.ifCond .eq 48, 3) := by decide +kernel
theorem d_mdl_nextBytes_72 : decode prog_9_method_18_code 72 = .ok (.iload 4, 2) := by decide +kernel
theorem d_mdl_nextBytes_74 : decode prog_9_method_18_code 74 = .ok (.iload_n 3, 1) := by decide +kernel
theorem d_mdl_nextBytes_75 : decode prog_9_method_18_code 75 = .ok (.if_icmp .ge 42, 3) := by decide +kernel
theorem d_mdl_nextBytes_78 : decode prog_9_method_18_code 78 = .ok (.aload_n 0, 1) := by decide +kernel
theorem d_mdl_nextBytes_79 : decode prog_9_method_18_code 79 = .ok (.aload_n 0, 1) := by decide +kernel
theorem d_mdl_nextBytes_80 : decode prog_9_method_18_code 80 = .ok (.getfield 34, 3) := by decide +kernel
theorem d_mdl_nextBytes_83 : decode prog_9_method_18_code 83 = .ok (.sipush 1200, 3) := by decide +kernel
theorem d_mdl_nextBytes_86 : decode prog_9_method_18_code 86 = .ok (.aload_n 0, 1) := by decide +kernel
theorem d_mdl_nextBytes_87 : decode prog_9_method_18_code 87 = .ok (.getfield 109, 3) := by decide +kernel
theorem d_mdl_nextBytes_90 : decode prog_9_method_18_code 90 = .ok (.imul, 1) := by decide +kernel
theorem d_mdl_nextBytes_91 : decode prog_9_method_18_code 91 = .ok (.aload_n 0, 1) := by decide +kernel
theorem d_mdl_nextBytes_92 : decode prog_9_method_18_code 92 = .ok (.getfield 116, 3) := by decide +kernel
theorem d_mdl_nextBytes_95 : decode prog_9_method_18_code 95 = .ok (.iadd, 1) := by decide +kernel
theorem d_mdl_nextBytes_96 : decode prog_9_method_18_code 96 = .ok (.iload 4, 2) := by decide +kernel
theorem d_mdl_nextBytes_98 : decode prog_9_method_18_code 98 = .ok (.iadd, 1) := by decide +kernel
theorem d_mdl_nextBytes_99 : decode prog_9_method_18_code 99 = .ok (.baload, 1) := by decide +kernel
theorem d_mdl_nextBytes_100 : decode prog_9_method_18_code 100 = .ok (.ifCond .ne 7, 3) := by decide +kernel
theorem d_mdl_nextBytes_103 : decode prog_9_method_18_code 103 = .ok (.iconst 1, 1) := by decide +kernel
theorem d_mdl_nextBytes_104 : decode prog_9_method_18_code 104 = .ok (.goto 4, 3) := by decide +kernel
theorem d_mdl_nextBytes_107 : decode prog_9_method_18_code 107 = .ok (.iconst 0, 1) := by decide +kernel
theorem d_mdl_nextBytes_108 : decode prog_9_method_18_code 108 = .ok (.putfield 119, 3) := by decide +kernel
theorem d_mdl_nextBytes_111 : decode prog_9_method_18_code 111 = .ok (.iinc 4 1, 3) := by decide +kernel
theorem d_mdl_nextBytes_114 : decode prog_9_method_18_code 114 = .ok (.goto (-49), 3) := by decide +kernel
theorem d_mdl_nextBytes_117 : decode prog_9_method_18_code 117 = .ok (.aload_n 0, 1) := by decide +kernel
theorem d_mdl_nextBytes_118 : decode prog_9_method_18_code 118 = .ok (.aload_n 0, 1) := by decide +kernel
theorem d_mdl_nextBytes_119 : decode prog_9_method_18_code 119 = .ok (.getfield 116, 3) := by decide +kernel
theorem d_mdl_nextBytes_122 : decode prog_9_method_18_code 122 = .ok (.putfield 134, 3) := by decide +kernel
theorem d_mdl_nextBytes_125 : decode prog_9_method_18_code 125 = .ok (.aload_n 0, 1) := by decide +kernel
theorem d_mdl_nextBytes_126 : decode prog_9_method_18_code 126 = .ok (.iload_n 2, 1) := by decide +kernel
theorem d_mdl_nextBytes_127 : decode prog_9_method_18_code 127 = .ok (.putfield 137, 3) := by decide +kernel
theorem d_mdl_nextBytes_130 : decode prog_9_method_18_code 130 = .ok (.aload_n 0, 1) := by decide +kernel
theorem d_mdl_nextBytes_131 : decode prog_9_method_18_code 131 = .ok (.aload_n 0, 1) := by decide +kernel
theorem d_mdl_nextBytes_132 : decode prog_9_method_18_code 132 = .ok (.getfield 119, 3) := by decide +kernel
theorem d_mdl_nextBytes_135 : decode prog_9_method_18_code 135 = .ok (.ifCond .eq 12, 3) := by decide +kernel
theorem d_mdl_nextBytes_138 : decode prog_9_method_18_code 138 = .ok (.aload_n 0, 1) := by decide +kernel
theorem d_mdl_nextBytes_139 : decode prog_9_method_18_code 139 = .ok (.getfield 116, 3) := by decide +kernel
theorem d_mdl_nextBytes_142 : decode prog_9_method_18_code 142 = .ok (.iload_n 3, 1) := by decide +kernel
theorem d_mdl_nextBytes_143 : decode prog_9_method_18_code 143 = .ok (.iadd, 1) := by decide +kernel
theorem d_mdl_nextBytes_144 : decode prog_9_method_18_code 144 = .ok (.goto 7, 3) := by decide +kernel
theorem d_mdl_nextBytes_147 : decode prog_9_method_18_code 147 = .ok (.aload_n 0, 1) := by decide +kernel
theorem d_mdl_nextBytes_148 : decode prog_9_method_18_code 148 = .ok (.getfield 116, 3) := by decide +kernel
theorem d_mdl_nextBytes_151 : decode prog_9_method_18_code 151 = .ok (.putfield 116, 3) := by decide +kernel
theorem d_mdl_nextBytes_154 : decode prog_9_method_18_code 154 = .ok (.iload_n 2, 1) := by decide +kernel
theorem d_mdl_nextBytes_155 : decode prog_9_method_18_code 155 = .ok (.ireturn, 1) := by decide +kernel
theorem d_mdl_accept_0 : decode prog_9_method_25_code 0 = .ok (.aload_n 0, 1) := by decide +kernel
theorem d_mdl_accept_1 : decode prog_9_method_25_code 1 = .ok (.iload_n 1, 1) := by decide +kernel
theorem d_mdl_accept_2 : decode prog_9_method_25_code 2 = .ok (.invokevirtual 143, 3) := by decide +kernel
theorem d_mdl_accept_5 : decode prog_9_method_25_code 5 = .ok (.aload_n 0, 1) := by decide +kernel
theorem d_mdl_accept_6 : decode prog_9_method_25_code 6 = .ok (.iconst 1, 1) := by decide +kernel
theorem d_mdl_accept_7 : decode prog_9_method_25_code 7 = .ok (.invokevirtual 143, 3) := by decide +kernel
theorem d_mdl_accept_10 : decode prog_9_method_25_code 10 = .ok (.aload_n 0, 1) := by decide +kernel
theorem d_mdl_accept_11 : decode prog_9_method_25_code 11 = .ok (.iconst 0, 1) := by decide +kernel
theorem d_mdl_accept_12 : decode prog_9_method_25_code 12 = .ok (.invokevirtual 143, 3) := by decide +kernel
theorem d_mdl_accept_15 : decode prog_9_method_25_code 15 = .ok (.aload_n 0, 1) := by decide +kernel
theorem d_mdl_accept_16 : decode prog_9_method_25_code 16 = .ok (.iconst 0, 1) := by decide +kernel
theorem d_mdl_accept_17 : decode prog_9_method_25_code 17 = .ok (.invokevirtual 143, 3) := by decide +kernel
theorem d_mdl_accept_20 : decode prog_9_method_25_code 20 = .ok (.aload_n 0, 1) := by decide +kernel
theorem d_mdl_accept_21 : decode prog_9_method_25_code 21 = .ok (.iconst 0, 1) := by decide +kernel
theorem d_mdl_accept_22 : decode prog_9_method_25_code 22 = .ok (.invokevirtual 143, 3) := by decide +kernel
theorem d_mdl_accept_25 : decode prog_9_method_25_code 25 = .ok (.aload_n 0, 1) := by decide +kernel
theorem d_mdl_accept_26 : decode prog_9_method_25_code 26 = .ok (.iload_n 2, 1) := by decide +kernel
theorem d_mdl_accept_27 : decode prog_9_method_25_code 27 = .ok (.invokevirtual 143, 3) := by decide +kernel
theorem d_mdl_accept_30 : decode prog_9_method_25_code 30 = .ok (.iload_n 2, 1) := by decide +kernel
theorem d_mdl_accept_31 : decode prog_9_method_25_code 31 = .ok (.iconst 2, 1) := by decide +kernel
theorem d_mdl_accept_32 : decode prog_9_method_25_code 32 = .ok (.if_icmp .ne 13, 3) := by decide +kernel
theorem d_mdl_accept_35 : decode prog_9_method_25_code 35 = .ok (.aload_n 0, 1) := by decide +kernel
theorem d_mdl_accept_36 : decode prog_9_method_25_code 36 = .ok (.iconst 1, 1) := by decide +kernel
theorem d_mdl_accept_37 : decode prog_9_method_25_code 37 = .ok (.invokevirtual 143, 3) := by decide +kernel
theorem d_mdl_accept_40 : decode prog_9_method_25_code 40 = .ok (.aload_n 0, 1) := by decide +kernel
theorem d_mdl_accept_41 : decode prog_9_method_25_code 41 = .ok (.iconst 2, 1) := by decide +kernel
theorem d_mdl_accept_42 : decode prog_9_method_25_code 42 = .ok (.invokevirtual 143, 3) := by decide +kernel
theorem d_mdl_accept_45 : decode prog_9_method_25_code 45 = .ok (.iconst 1, 1) := by decide +kernel
theorem d_mdl_accept_46 : decode prog_9_method_25_code 46 = .ok (.ireturn, 1) := by decide +kernel
theorem d_mdl_nextLong_0 : decode prog_9_method_17_code 0 = .ok (.aload_n 0, 1) := by decide +kernel
theorem d_mdl_nextLong_1 : decode prog_9_method_17_code 1 = .ok (.invokevirtual 129, 3) := by decide +kernel
theorem d_mdl_nextLong_4 : decode prog_9_method_17_code 4 = .ok (.i2l, 1) := by decide +kernel
theorem d_mdl_nextLong_5 : decode prog_9_method_17_code 5 = .ok (.lstore_n 1, 1) := by decide +kernel
theorem d_mdl_nextLong_6 : decode prog_9_method_17_code 6 = .ok (.aload_n 0, 1) := by decide +kernel
theorem d_mdl_nextLong_7 : decode prog_9_method_17_code 7 = .ok (.invokevirtual 129, 3) := by decide +kernel
theorem d_mdl_nextLong_10 : decode prog_9_method_17_code 10 = .ok (.i2l, 1) := by decide +kernel
theorem d_mdl_nextLong_11 : decode prog_9_method_17_code 11 = .ok (.lstore_n 3, 1) := by decide +kernel
theorem d_mdl_nextLong_12 : decode prog_9_method_17_code 12 = .ok (.lload_n 1, 1) := by decide +kernel
theorem d_mdl_nextLong_13 : decode prog_9_method_17_code 13 = .ok (.bipush 32, 2) := by decide +kernel
theorem d_mdl_nextLong_15 : decode prog_9_method_17_code 15 = .ok (.lshl, 1) := by decide +kernel
theorem d_mdl_nextLong_16 : decode prog_9_method_17_code 16 = .ok (.lload_n 3, 1) := by decide +kernel
theorem d_mdl_nextLong_17 : decode prog_9_method_17_code 17 = .ok (.ldc2_w 132, 3) := by decide +kernel
theorem d_mdl_nextLong_20 : decode prog_9_method_17_code 20 = .ok (.land, 1) := by decide +kernel
theorem d_mdl_nextLong_21 : decode prog_9_method_17_code 21 = .ok (.lor, 1) := by decide +kernel
theorem d_mdl_nextLong_22 : decode prog_9_method_17_code 22 = .ok (.lreturn, 1) := by decide +kernel
theorem d_mdl_takes_0 : decode prog_9_method_27_code 0 = .ok (.aload_n 0, 1) := by decide +kernel
theorem d_mdl_takes_1 : decode prog_9_method_27_code 1 = .ok (.aload_n 0, 1) := by decide +kernel
theorem d_mdl_takes_2 : decode prog_9_method_27_code 2 = .ok (.getfield 116, 3) := by decide +kernel
theorem d_mdl_takes_5 : decode prog_9_method_27_code 5 = .ok (.putfield 181, 3) := by decide +kernel
theorem d_mdl_takes_8 : decode prog_9_method_27_code 8 = .ok (.iload_n 1, 1) := by decide +kernel
theorem d_mdl_takes_9 : decode prog_9_method_27_code 9 = .ok (.iconst 1, 1) := by decide +kernel
theorem d_mdl_takes_10 : decode prog_9_method_27_code 10 = .ok (.if_icmp .eq 19, 3) := by decide +kernel
theorem d_mdl_takes_13 : decode prog_9_method_27_code 13 = .ok (.iload_n 1, 1) := by decide +kernel
theorem d_mdl_takes_14 : decode prog_9_method_27_code 14 = .ok (.iconst 2, 1) := by decide +kernel
theorem d_mdl_takes_15 : decode prog_9_method_27_code 15 = .ok (.if_icmp .eq 14, 3) := by decide +kernel
theorem d_mdl_takes_18 : decode prog_9_method_27_code 18 = .ok (.iload_n 1, 1) := by decide +kernel
theorem d_mdl_takes_19 : decode prog_9_method_27_code 19 = .ok (.iconst 3, 1) := by decide +kernel
theorem d_mdl_takes_20 : decode prog_9_method_27_code 20 = .ok (.if_icmp .eq 9, 3) := by decide +kernel
theorem d_mdl_takes_23 : decode prog_9_method_27_code 23 = .ok (.iload_n 1, 1) := by decide +kernel
theorem d_mdl_takes_24 : decode prog_9_method_27_code 24 = .ok (.bipush 6, 2) := by decide +kernel
theorem d_mdl_takes_26 : decode prog_9_method_27_code 26 = .ok (.if_icmp .ne 10, 3) := by decide +kernel
theorem d_mdl_takes_29 : decode prog_9_method_27_code 29 = .ok (.aload_n 0, 1) := by decide +kernel
theorem d_mdl_takes_30 : decode prog_9_method_27_code 30 = .ok (.bipush 16, 2) := by decide +kernel
theorem d_mdl_takes_32 : decode prog_9_method_27_code 32 = .ok (.invokevirtual 166, 3) := by decide +kernel
theorem d_mdl_takes_35 : decode prog_9_method_27_code 35 = .ok (.pop, 1) := by decide +kernel
theorem d_mdl_takes_36 : decode prog_9_method_27_code 36 = .ok (.iload_n 1, 1) := by decide +kernel
theorem d_mdl_takes_37 : decode prog_9_method_27_code 37 = .ok (.iconst 1, 1) := by decide +kernel
theorem d_mdl_takes_38 : decode prog_9_method_27_code 38 = .ok (.if_icmp .eq 8, 3) := by decide +kernel
theorem d_mdl_takes_41 : decode prog_9_method_27_code 41 = .ok (.iload_n 1, 1) := by decide +kernel
theorem d_mdl_takes_42 : decode prog_9_method_27_code 42 = .ok (.iconst 3, 1) := by decide +kernel
theorem d_mdl_takes_43 : decode prog_9_method_27_code 43 = .ok (.if_icmp .ne 8, 3) := by decide +kernel
theorem d_mdl_takes_46 : decode prog_9_method_27_code 46 = .ok (.aload_n 0, 1) := by decide +kernel
theorem d_mdl_takes_47 : decode prog_9_method_27_code 47 = .ok (.invokevirtual 184, 3) := by decide +kernel
theorem d_mdl_takes_50 : decode prog_9_method_27_code 50 = .ok (.pop2, 1) := by decide +kernel
theorem d_mdl_takes_51 : decode prog_9_method_27_code 51 = .ok (.iload_n 1, 1) := by decide +kernel
theorem d_mdl_takes_52 : decode prog_9_method_27_code 52 = .ok (.iconst 4, 1) := by decide +kernel
theorem d_mdl_takes_53 : decode prog_9_method_27_code 53 = .ok (.if_icmp .ne 61, 3) := by decide +kernel
theorem d_mdl_takes_56 : decode prog_9_method_27_code 56 = .ok (.aload_n 0, 1) := by decide +kernel
theorem d_mdl_takes_57 : decode prog_9_method_27_code 57 = .ok (.invokevirtual 129, 3) := by decide +kernel
theorem d_mdl_takes_60 : decode prog_9_method_27_code 60 = .ok (.istore_n 2, 1) := by decide +kernel
theorem d_mdl_takes_61 : decode prog_9_method_27_code 61 = .ok (.aload_n 0, 1) := by decide +kernel
theorem d_mdl_takes_62 : decode prog_9_method_27_code 62 = .ok (.aload_n 0, 1) := by decide +kernel
theorem d_mdl_takes_63 : decode prog_9_method_27_code 63 = .ok (.getfield 119, 3) := by decide +kernel
theorem d_mdl_takes_66 : decode prog_9_method_27_code 66 = .ok (.ifCond .eq 17, 3) := by decide +kernel
theorem d_mdl_takes_69 : decode prog_9_method_27_code 69 = .ok (.iload_n 2, 1) := by decide +kernel
theorem d_mdl_takes_70 : decode prog_9_method_27_code 70 = .ok (.ifCond .lt 13, 3) := by decide +kernel
theorem d_mdl_takes_73 : decode prog_9_method_27_code 73 = .ok (.iload_n 2, 1) := by decide +kernel
theorem d_mdl_takes_74 : decode prog_9_method_27_code 74 = .ok (.bipush 8, 2) := by decide +kernel
theorem d_mdl_takes_76 : decode prog_9_method_27_code 76 = .ok (.if_icmp .gt 7, 3) := by decide +kernel
theorem d_mdl_takes_79 : decode prog_9_method_27_code 79 = .ok (.iconst 1, 1) := by decide +kernel
theorem d_mdl_takes_80 : decode prog_9_method_27_code 80 = .ok (.goto 4, 3) := by decide +kernel
theorem d_mdl_takes_83 : decode prog_9_method_27_code 83 = .ok (.iconst 0, 1) := by decide +kernel
theorem d_mdl_takes_84 : decode prog_9_method_27_code 84 = .ok (.putfield 119, 3) := by decide +kernel
theorem d_mdl_takes_87 : decode prog_9_method_27_code 87 = .ok (.iconst 0, 1) := by decide +kernel
theorem d_mdl_takes_88 : decode prog_9_method_27_code 88 = .ok (.istore_n 3, 1) := by decide +kernel
theorem d_mdl_takes_89 : decode prog_9_method_27_code 89 = .ok (.aload_n 0, 1) := by decide +kernel
theorem d_mdl_takes_90 : decode prog_9_method_27_code 90 = .ok (.getfield 119, 3) := by decide +kernel
theorem d_mdl_takes_93 : decode prog_9_method_27_code 93 = .ok (.ifCond .eq 21, 3) := by decide +kernel
theorem d_mdl_takes_96 : decode prog_9_method_27_code 96 = .ok (.iload_n 3, 1) := by decide +kernel
theorem d_mdl_takes_97 : decode prog_9_method_27_code 97 = .ok (.iload_n 2, 1) := by decide +kernel
theorem d_mdl_takes_98 : decode prog_9_method_27_code 98 = .ok (.if_icmp .ge 16, 3) := by decide +kernel
theorem d_mdl_takes_101 : decode prog_9_method_27_code 101 = .ok (.aload_n 0, 1) := by decide +kernel
theorem d_mdl_takes_102 : decode prog_9_method_27_code 102 = .ok (.bipush 16, 2) := by decide +kernel
theorem d_mdl_takes_104 : decode prog_9_method_27_code 104 = .ok (.invokevirtual 166, 3) := by decide +kernel
theorem d_mdl_takes_107 : decode prog_9_method_27_code 107 = .ok (.pop, 1) := by decide +kernel
theorem d_mdl_takes_108 : decode prog_9_method_27_code 108 = .ok (.iinc 3 1, 3) := by decide +kernel
theorem d_mdl_takes_111 : decode prog_9_method_27_code 111 = .ok (.goto (-22), 3) := by decide +kernel
theorem d_mdl_takes_114 : decode prog_9_method_27_code 114 = .ok (.iload_n 1, 1) := by decide +kernel
theorem d_mdl_takes_115 : decode prog_9_method_27_code 115 = .ok (.iconst 5, 1) := by decide +kernel
theorem d_mdl_takes_116 : decode prog_9_method_27_code 116 = .ok (.if_icmp .ne 13, 3) := by decide +kernel
theorem d_mdl_takes_119 : decode prog_9_method_27_code 119 = .ok (.aload_n 0, 1) := by decide +kernel
theorem d_mdl_takes_120 : decode prog_9_method_27_code 120 = .ok (.invokevirtual 129, 3) := by decide +kernel
theorem d_mdl_takes_123 : decode prog_9_method_27_code 123 = .ok (.pop, 1) := by decide +kernel
theorem d_mdl_takes_124 : decode prog_9_method_27_code 124 = .ok (.aload_n 0, 1) := by decide +kernel
theorem d_mdl_takes_125 : decode prog_9_method_27_code 125 = .ok (.invokevirtual 129, 3) := by decide +kernel
theorem d_mdl_takes_128 : decode prog_9_method_27_code 128 = .ok (.pop, 1) := by decide +kernel
theorem d_mdl_takes_129 : decode prog_9_method_27_code 129 = .ok (.aload_n 0, 1) := by decide +kernel
theorem d_mdl_takes_130 : decode prog_9_method_27_code 130 = .ok (.getfield 119, 3) := by decide +kernel
theorem d_mdl_takes_133 : decode prog_9_method_27_code 133 = .ok (.ifCond .eq 23, 3) := by decide +kernel
theorem d_mdl_takes_136 : decode prog_9_method_27_code 136 = .ok (.aload_n 0, 1) := by decide +kernel
theorem d_mdl_takes_137 : decode prog_9_method_27_code 137 = .ok (.getfield 116, 3) := by decide +kernel
theorem d_mdl_takes_140 : decode prog_9_method_27_code 140 = .ok (.aload_n 0, 1) := by decide +kernel
theorem d_mdl_takes_141 : decode prog_9_method_27_code 141 = .ok (.getfield 37, 3) := by decide +kernel
theorem d_mdl_takes_144 : decode prog_9_method_27_code 144 = .ok (.aload_n 0, 1) := by decide +kernel
theorem d_mdl_takes_145 : decode prog_9_method_27_code 145 = .ok (.getfield 109, 3) := by decide +kernel
theorem d_mdl_takes_148 : decode prog_9_method_27_code 148 = .ok (.iaload, 1) := by decide +kernel
theorem d_mdl_takes_149 : decode prog_9_method_27_code 149 = .ok (.if_icmp .ne 7, 3) := by decide +kernel
theorem d_mdl_takes_152 : decode prog_9_method_27_code 152 = .ok (.iconst 1, 1) := by decide +kernel
theorem d_mdl_takes_153 : decode prog_9_method_27_code 153 = .ok (.goto 4, 3) := by decide +kernel
theorem d_mdl_takes_156 : decode prog_9_method_27_code 156 = .ok (.iconst 0, 1) := by decide +kernel
theorem d_mdl_takes_157 : decode prog_9_method_27_code 157 = .ok (.ireturn, 1) := by decide +kernel
theorem d_mdl_place_0 : decode prog_9_method_28_code 0 = .ok (.iconst 0, 1) := by decide +kernel
theorem d_mdl_place_1 : decode prog_9_method_28_code 1 = .ok (.istore_n 1, 1) := by decide +kernel
theorem d_mdl_place_2 : decode prog_9_method_28_code 2 = .ok (.iload_n 1, 1) := by decide +kernel
theorem d_mdl_place_3 : decode prog_9_method_28_code 3 = .ok (.aload_n 0, 1) := by decide +kernel
theorem d_mdl_place_4 : decode prog_9_method_28_code 4 = .ok (.getfield 188, 3) := by decide +kernel
theorem d_mdl_place_7 : decode prog_9_method_28_code 7 = .ok (.if_icmp .ge 94, 3) := by decide +kernel
theorem d_mdl_place_10 : decode prog_9_method_28_code 10 = .ok (.aload_n 0, 1) := by decide +kernel
theorem d_mdl_place_11 : decode prog_9_method_28_code 11 = .ok (.getfield 27, 3) := by decide +kernel
theorem d_mdl_place_14 : decode prog_9_method_28_code 14 = .ok (.iload_n 1, 1) := by decide +kernel
theorem d_mdl_place_15 : decode prog_9_method_28_code 15 = .ok (.iaload, 1) := by decide +kernel
theorem d_mdl_place_16 : decode prog_9_method_28_code 16 = .ok (.aload_n 0, 1) := by decide +kernel
theorem d_mdl_place_17 : decode prog_9_method_28_code 17 = .ok (.getfield 137, 3) := by decide +kernel
theorem d_mdl_place_20 : decode prog_9_method_28_code 20 = .ok (.if_icmp .ne 7, 3) := by decide +kernel
theorem d_mdl_place_23 : decode prog_9_method_28_code 23 = .ok (.iconst 1, 1) := by decide +kernel
theorem d_mdl_place_24 : decode prog_9_method_28_code 24 = .ok (.goto 4, 3) := by decide +kernel
theorem d_mdl_place_27 : decode prog_9_method_28_code 27 = .ok (.iconst 0, 1) := by decide +kernel
theorem d_mdl_place_28 : decode prog_9_method_28_code 28 = .ok (.istore_n 2, 1) := by decide +kernel
theorem d_mdl_place_29 : decode prog_9_method_28_code 29 = .ok (.iconst 0, 1) := by decide +kernel
theorem d_mdl_place_30 : decode prog_9_method_28_code 30 = .ok (.istore_n 3, 1) := by decide +kernel
theorem d_mdl_place_31 : decode prog_9_method_28_code 31 = .ok (.iload_n 2, 1) := by decide +kernel
theorem d_mdl_place_32 : decode prog_9_method_28_code 32 = .ok (.ifCond .eq 57, 3) := by decide +kernel
theorem d_mdl_place_35 : decode prog_9_method_28_code 35 = .ok (.iload_n 3, 1) := by decide +kernel
theorem d_mdl_place_36 : decode prog_9_method_28_code 36 = .ok (.aload_n 0, 1) := by decide +kernel
theorem d_mdl_place_37 : decode prog_9_method_28_code 37 = .ok (.getfield 137, 3) := by decide +kernel
theorem d_mdl_place_40 : decode prog_9_method_28_code 40 = .ok (.if_icmp .ge 49, 3) := by decide +kernel
theorem d_mdl_place_43 : decode prog_9_method_28_code 43 = .ok (.aload_n 0, 1) := by decide +kernel
theorem d_mdl_place_44 : decode prog_9_method_28_code 44 = .ok (.getfield 24, 3) := by decide +kernel
theorem d_mdl_place_47 : decode prog_9_method_28_code 47 = .ok (.bipush 16, 2) := by decide +kernel
theorem d_mdl_place_49 : decode prog_9_method_28_code 49 = .ok (.iload_n 1, 1) := by decide +kernel
theorem d_mdl_place_50 : decode prog_9_method_28_code 50 = .ok (.imul, 1) := by decide +kernel
theorem d_mdl_place_51 : decode prog_9_method_28_code 51 = .ok (.iload_n 3, 1) := by decide +kernel
theorem d_mdl_place_52 : decode prog_9_method_28_code 52 = .ok (.iadd, 1) := by decide +kernel
theorem d_mdl_place_53 : decode prog_9_method_28_code 53 = .ok (.baload, 1) := by decide +kernel
theorem d_mdl_place_54 : decode prog_9_method_28_code 54 = .ok (.aload_n 0, 1) := by decide +kernel
theorem d_mdl_place_55 : decode prog_9_method_28_code 55 = .ok (.getfield 34, 3) := by decide +kernel
theorem d_mdl_place_58 : decode prog_9_method_28_code 58 = .ok (.sipush 1200, 3) := by decide +kernel
theorem d_mdl_place_61 : decode prog_9_method_28_code 61 = .ok (.aload_n 0, 1) := by decide +kernel
theorem d_mdl_place_62 : decode prog_9_method_28_code 62 = .ok (.getfield 109, 3) := by decide +kernel
theorem d_mdl_place_65 : decode prog_9_method_28_code 65 = .ok (.imul, 1) := by decide +kernel
theorem d_mdl_place_66 : decode prog_9_method_28_code 66 = .ok (.aload_n 0, 1) := by decide +kernel
theorem d_mdl_place_67 : decode prog_9_method_28_code 67 = .ok (.getfield 134, 3) := by decide +kernel
theorem d_mdl_place_70 : decode prog_9_method_28_code 70 = .ok (.iadd, 1) := by decide +kernel
theorem d_mdl_place_71 : decode prog_9_method_28_code 71 = .ok (.iload_n 3, 1) := by decide +kernel
theorem d_mdl_place_72 : decode prog_9_method_28_code 72 = .ok (.iadd, 1) := by decide +kernel
theorem d_mdl_place_73 : decode prog_9_method_28_code 73 = .ok (.baload, 1) := by decide +kernel
theorem d_mdl_place_74 : decode prog_9_method_28_code 74 = .ok (.if_icmp .ne 7, 3) := by decide +kernel
theorem d_mdl_place_77 : decode prog_9_method_28_code 77 = .ok (.iconst 1, 1) := by decide +kernel
theorem d_mdl_place_78 : decode prog_9_method_28_code 78 = .ok (.goto 4, 3) := by decide +kernel
theorem d_mdl_place_81 : decode prog_9_method_28_code 81 = .ok (.iconst 0, 1) := by decide +kernel
theorem d_mdl_place_82 : decode prog_9_method_28_code 82 = .ok (.istore_n 2, 1) := by decide +kernel
theorem d_mdl_place_83 : decode prog_9_method_28_code 83 = .ok (.iinc 3 1, 3) := by decide +kernel
theorem d_mdl_place_86 : decode prog_9_method_28_code 86 = .ok (.goto (-55), 3) := by decide +kernel
theorem d_mdl_place_89 : decode prog_9_method_28_code 89 = .ok (.iload_n 2, 1) := by decide +kernel
theorem d_mdl_place_90 : decode prog_9_method_28_code 90 = .ok (.ifCond .eq 5, 3) := by decide +kernel
theorem d_mdl_place_93 : decode prog_9_method_28_code 93 = .ok (.iload_n 1, 1) := by decide +kernel
theorem d_mdl_place_94 : decode prog_9_method_28_code 94 = .ok (.ireturn, 1) := by decide +kernel
theorem d_mdl_place_95 : decode prog_9_method_28_code 95 = .ok (.iinc 1 1, 3) := by decide +kernel
theorem d_mdl_place_98 : decode prog_9_method_28_code 98 = .ok (.goto (-96), 3) := by decide +kernel
theorem d_mdl_place_101 : decode prog_9_method_28_code 101 = .ok (.iconst (-1), 1) := by decide +kernel
theorem d_mdl_place_102 : decode prog_9_method_28_code 102 = .ok (.ireturn, 1) := by decide +kernel
theorem d_mdl_outLong_0 : decode prog_9_method_20_code 0 = .ok (.aload_n 0, 1) := by decide +kernel
theorem d_mdl_outLong_1 : decode prog_9_method_20_code 1 = .ok (.lload_n 1, 1) := by decide +kernel
theorem d_mdl_outLong_2 : decode prog_9_method_20_code 2 = .ok (.bipush 32, 2) := by decide +kernel
theorem d_mdl_outLong_4 : decode prog_9_method_20_code 4 = .ok (.lshr, 1) := by decide +kernel
theorem d_mdl_outLong_5 : decode prog_9_method_20_code 5 = .ok (.l2i, 1) := by decide +kernel
theorem d_mdl_outLong_6 : decode prog_9_method_20_code 6 = .ok (.invokevirtual 143, 3) := by decide +kernel
theorem d_mdl_outLong_9 : decode prog_9_method_20_code 9 = .ok (.aload_n 0, 1) := by decide +kernel
theorem d_mdl_outLong_10 : decode prog_9_method_20_code 10 = .ok (.lload_n 1, 1) := by decide +kernel
theorem d_mdl_outLong_11 : decode prog_9_method_20_code 11 = .ok (.l2i, 1) := by decide +kernel
theorem d_mdl_outLong_12 : decode prog_9_method_20_code 12 = .ok (.invokevirtual 143, 3) := by decide +kernel
theorem d_mdl_outLong_15 : decode prog_9_method_20_code 15 = .ok (.return_, 1) := by decide +kernel
theorem d_mdl_runSum_0 : decode prog_9_method_32_code 0 = .ok (.aload_n 0, 1) := by decide +kernel
theorem d_mdl_runSum_1 : decode prog_9_method_32_code 1 = .ok (.invokevirtual 129, 3) := by decide +kernel
theorem d_mdl_runSum_4 : decode prog_9_method_32_code 4 = .ok (.istore_n 1, 1) := by decide +kernel
theorem d_mdl_runSum_5 : decode prog_9_method_32_code 5 = .ok (.lconst 0, 1) := by decide +kernel
theorem d_mdl_runSum_6 : decode prog_9_method_32_code 6 = .ok (.lstore_n 2, 1) := by decide +kernel
theorem d_mdl_runSum_7 : decode prog_9_method_32_code 7 = .ok (.iconst 0, 1) := by decide +kernel
theorem d_mdl_runSum_8 : decode prog_9_method_32_code 8 = .ok (.istore 4, 2) := by decide +kernel
theorem d_mdl_runSum_10 : decode prog_9_method_32_code 10 = .ok (.iconst 0, 1) := by decide +kernel
theorem d_mdl_runSum_11 : decode prog_9_method_32_code 11 = .ok (.istore 5, 2) := by decide +kernel
theorem d_mdl_runSum_13 : decode prog_9_method_32_code 13 = .ok (.iload 5, 2) := by decide +kernel
theorem d_mdl_runSum_15 : decode prog_9_method_32_code 15 = .ok (.iload_n 1, 1) := by decide +kernel
theorem d_mdl_runSum_16 : decode prog_9_method_32_code 16 = .ok (.if_icmp .ge 57, 3) := by decide +kernel
theorem d_mdl_runSum_19 : decode prog_9_method_32_code 19 = .ok (.aload_n 0, 1) := by decide +kernel
theorem d_mdl_runSum_20 : decode prog_9_method_32_code 20 = .ok (.bipush 16, 2) := by decide +kernel
theorem d_mdl_runSum_22 : decode prog_9_method_32_code 22 = .ok (.invokevirtual 166, 3) := by decide +kernel
theorem d_mdl_runSum_25 : decode prog_9_method_32_code 25 = .ok (.pop, 1) := by decide +kernel
theorem d_mdl_runSum_26 : decode prog_9_method_32_code 26 = .ok (.aload_n 0, 1) := by decide +kernel
theorem d_mdl_runSum_27 : decode prog_9_method_32_code 27 = .ok (.invokevirtual 197, 3) := by decide +kernel
theorem d_mdl_runSum_30 : decode prog_9_method_32_code 30 = .ok (.istore 6, 2) := by decide +kernel
theorem d_mdl_runSum_32 : decode prog_9_method_32_code 32 = .ok (.iload 6, 2) := by decide +kernel
theorem d_mdl_runSum_34 : decode prog_9_method_32_code 34 = .ok (.ifCond .lt 15, 3) := by decide +kernel
theorem d_mdl_runSum_37 : decode prog_9_method_32_code 37 = .ok (.lload_n 2, 1) := by decide +kernel
theorem d_mdl_runSum_38 : decode prog_9_method_32_code 38 = .ok (.aload_n 0, 1) := by decide +kernel
theorem d_mdl_runSum_39 : decode prog_9_method_32_code 39 = .ok (.getfield 30, 3) := by decide +kernel
theorem d_mdl_runSum_42 : decode prog_9_method_32_code 42 = .ok (.iload 6, 2) := by decide +kernel
theorem d_mdl_runSum_44 : decode prog_9_method_32_code 44 = .ok (.laload, 1) := by decide +kernel
theorem d_mdl_runSum_45 : decode prog_9_method_32_code 45 = .ok (.ladd, 1) := by decide +kernel
theorem d_mdl_runSum_46 : decode prog_9_method_32_code 46 = .ok (.goto 4, 3) := by decide +kernel
theorem d_mdl_runSum_49 : decode prog_9_method_32_code 49 = .ok (.lload_n 2, 1) := by decide +kernel
theorem d_mdl_runSum_50 : decode prog_9_method_32_code 50 = .ok (.lstore_n 2, 1) := by decide +kernel
theorem d_mdl_runSum_51 : decode prog_9_method_32_code 51 = .ok (.iload 6, 2) := by decide +kernel
theorem d_mdl_runSum_53 : decode prog_9_method_32_code 53 = .ok (.ifCond .lt 8, 3) := by decide +kernel
theorem d_mdl_runSum_56 : decode prog_9_method_32_code 56 = .ok (.iload 4, 2) := by decide +kernel
theorem d_mdl_runSum_58 : decode prog_9_method_32_code 58 = .ok (.goto 7, 3) := by decide +kernel
theorem d_mdl_runSum_61 : decode prog_9_method_32_code 61 = .ok (.iload 4, 2) := by decide +kernel
theorem d_mdl_runSum_63 : decode prog_9_method_32_code 63 = .ok (.iconst 1, 1) := by decide +kernel
theorem d_mdl_runSum_64 : decode prog_9_method_32_code 64 = .ok (.iadd, 1) := by decide +kernel
theorem d_mdl_runSum_65 : decode prog_9_method_32_code 65 = .ok (.istore 4, 2) := by decide +kernel
theorem d_mdl_runSum_67 : decode prog_9_method_32_code 67 = .ok (.iinc 5 1, 3) := by decide +kernel
theorem d_mdl_runSum_70 : decode prog_9_method_32_code 70 = .ok (.goto (-57), 3) := by decide +kernel
theorem d_mdl_runSum_73 : decode prog_9_method_32_code 73 = .ok (.aload_n 0, 1) := by decide +kernel
theorem d_mdl_runSum_74 : decode prog_9_method_32_code 74 = .ok (.lload_n 2, 1) := by decide +kernel
theorem d_mdl_runSum_75 : decode prog_9_method_32_code 75 = .ok (.invokevirtual 207, 3) := by decide +kernel
theorem d_mdl_runSum_78 : decode prog_9_method_32_code 78 = .ok (.aload_n 0, 1) := by decide +kernel
theorem d_mdl_runSum_79 : decode prog_9_method_32_code 79 = .ok (.iload 4, 2) := by decide +kernel
theorem d_mdl_runSum_81 : decode prog_9_method_32_code 81 = .ok (.invokevirtual 143, 3) := by decide +kernel
theorem d_mdl_runSum_84 : decode prog_9_method_32_code 84 = .ok (.return_, 1) := by decide +kernel
def b_mdl_recordWord_4 : Nat → rc_M → Nat → Int32 → Int32 → Int32 → Option (Int32 × rc_M)
  | 0, _, _, _, _, _ => none
  | fuel + 1, w, a0, x1, x2, x3 =>
    if 4 ≤ x3 then
      some (x2, w)
    else
      (rc_gR w (some a0) 7 11).bind fun v2 =>
      (rc_gI w (some a0) 7 26).bind fun v4 =>
      (rc_aI w v2 2 (((1200 * v4) + x1) + x3)).bind fun v6 =>
      b_mdl_recordWord_4 fuel w a0 x1 ((x2 <<< (8 &&& 31)) ||| (v6 &&& 255)) (x3 + 1)

def f_mdl_recordWord (w : rc_M) (a0 : Nat) (x1 : Int32) : Option (Int32 × rc_M) :=
  b_mdl_recordWord_4 5000 w a0 x1 0 0

def b_mdl_send_23 : Nat → rc_M → Nat → Int32 → Int32 → Int32 → Option (rc_M)
  | 0, _, _, _, _, _ => none
  | fuel + 1, w, a0, x1, x2, x3 =>
    (rc_gR w (some a0) 7 20).bind fun v1 =>
    (rc_aI w v1 0 x1).bind fun v3 =>
    if v3 ≤ x3 then
      some w
    else
      (rc_gR w (some a0) 7 21).bind fun v6 =>
      (rc_aI w v6 2 ((400 * x1) + x3)).bind fun v8 =>
      (rc_rc w (some a0) 7).bind fun a10 =>
      (f_mdl_slotByte w a10 x2 v8).bind fun w12 =>
      b_mdl_send_23 fuel w12 a0 x1 x2 (x3 + 1)

def f_mdl_send (w : rc_M) (a0 : Nat) (x1 : Int32) : Option (rc_M) :=
  (rc_rc w (some a0) 7).bind fun a1 =>
  (f_mdl_newSlot w a1).bind fun p3 =>
  (rc_gR p3.2 (some a0) 7 20).bind fun v5 =>
  (rc_aI p3.2 v5 0 x1).bind fun v7 =>
  (rc_rc p3.2 (some a0) 7).bind fun a9 =>
  (f_mdl_slotWord p3.2 a9 p3.1 ((v7 - 2147483647) - 1)).bind fun w11 =>
  b_mdl_send_23 5000 w11 a0 x1 p3.1 0

def b_mdl_hasBytes_27 (w : rc_M) (s0 : Int32) : Option (Int32 × rc_M) :=
  rc_z1 s0 w

def b_mdl_hasBytes_26 (w : rc_M) : Option (Int32 × rc_M) :=
  b_mdl_hasBytes_27 w 0

def f_mdl_hasBytes (w : rc_M) (a0 : Nat) (x1 : Int32) : Option (Int32 × rc_M) :=
  if x1 < 0 then
    b_mdl_hasBytes_26 w 
  else
    (rc_gR w (some a0) 7 12).bind fun v2 =>
    (rc_gI w (some a0) 7 26).bind fun v4 =>
    (rc_aI w v2 0 v4).bind fun v6 =>
    (rc_gI w (some a0) 7 27).bind fun v8 =>
    if (v6 - v8) < x1 then
      b_mdl_hasBytes_26 w 
    else
      b_mdl_hasBytes_27 w 1

def b_mdl_nextWord_21 (w : rc_M) (a0 : Nat) (s0 : Option Nat) (s1 : Int32) : Option (Int32 × rc_M) :=
  (rc_pZ w s0 7 28 s1).bind fun w1 =>
  (rc_gI w1 (some a0) 7 28).bind fun v3 =>
  if v3 = 0 then
    some (0, w1)
  else
    (rc_gI w1 (some a0) 7 27).bind fun v6 =>
    (rc_pI w1 (some a0) 7 27 (v6 + 4)).bind fun w8 =>
    (rc_gI w8 (some a0) 7 27).bind fun v10 =>
    (rc_rc w8 (some a0) 7).bind fun a12 =>
    (f_mdl_recordWord w8 a12 (v10 - 4)).bind fun p14 =>
    some (p14.1, p14.2)

def b_mdl_nextWord_20 (w : rc_M) (a0 : Nat) (s0 : Option Nat) : Option (Int32 × rc_M) :=
  b_mdl_nextWord_21 w a0 s0 0

def f_mdl_nextWord (w : rc_M) (a0 : Nat) : Option (Int32 × rc_M) :=
  (rc_gI w (some a0) 7 28).bind fun v1 =>
  if v1 = 0 then
    b_mdl_nextWord_20 w a0 (some a0)
  else
    (rc_rc w (some a0) 7).bind fun a4 =>
    (f_mdl_hasBytes w a4 4).bind fun p6 =>
    if p6.1 = 0 then
      b_mdl_nextWord_20 p6.2 a0 (some a0)
    else
      b_mdl_nextWord_21 p6.2 a0 (some a0) 1

def b_mdl_outWord_3 : Nat → rc_M → Nat → Int32 → Int32 → Option (rc_M)
  | 0, _, _, _, _ => none
  | fuel + 1, w, a0, x1, x2 =>
    if x2 < 0 then
      some w
    else
      (rc_gR w (some a0) 7 31).bind fun v2 =>
      (rc_gI w (some a0) 7 32).bind fun v4 =>
      (rc_sI w v2 2 v4 ((x1 >>> (x2 &&& 31)).toInt8.toInt32)).bind fun w6 =>
      (rc_gI w6 (some a0) 7 32).bind fun v8 =>
      (rc_pI w6 (some a0) 7 32 (v8 + 1)).bind fun w10 =>
      b_mdl_outWord_3 fuel w10 a0 x1 (x2 - 8)

def f_mdl_outWord (w : rc_M) (a0 : Nat) (x1 : Int32) : Option (rc_M) :=
  b_mdl_outWord_3 5000 w a0 x1 24

def b_mdl_refuse_34 (w : rc_M) : Option (Int32 × rc_M) :=
  rc_z1 1 w

def f_mdl_refuse (w : rc_M) (a0 : Nat) (x1 : Int32) (x2 : Int32) (x3 : Int32) : Option (Int32 × rc_M) :=
  (rc_rc w (some a0) 7).bind fun a1 =>
  (f_mdl_outWord w a1 x1).bind fun w3 =>
  (rc_rc w3 (some a0) 7).bind fun a5 =>
  (f_mdl_outWord w3 a5 1).bind fun w7 =>
  (rc_rc w7 (some a0) 7).bind fun a9 =>
  (f_mdl_outWord w7 a9 1).bind fun w11 =>
  (rc_rc w11 (some a0) 7).bind fun a13 =>
  (f_mdl_outWord w11 a13 x2).bind fun w15 =>
  (rc_rc w15 (some a0) 7).bind fun a17 =>
  (f_mdl_outWord w15 a17 x3).bind fun w19 =>
  if x2 = 0 then
    (rc_rc w19 (some a0) 7).bind fun a22 =>
    (f_mdl_outWord w19 a22 2).bind fun w24 =>
    b_mdl_refuse_34 w24 
  else
    b_mdl_refuse_34 w19 

def b_mdl_nextBytes_108 (k65 : rc_M → Nat → Int32 → Int32 → Int32 → Option (Int32 × rc_M)) (w : rc_M) (a0 : Nat) (x2 : Int32) (x3 : Int32) (x4 : Int32) (s0 : Option Nat) (s1 : Int32) : Option (Int32 × rc_M) :=
  (rc_pZ w s0 7 28 s1).bind fun w1 =>
  k65 w1 a0 x2 x3 (x4 + 1)

def b_mdl_nextBytes_151 (w : rc_M) (x2 : Int32) (s0 : Option Nat) (s1 : Int32) : Option (Int32 × rc_M) :=
  (rc_pI w s0 7 27 s1).bind fun w1 =>
  some (x2, w1)

def b_mdl_nextBytes_117 (w : rc_M) (a0 : Nat) (x2 : Int32) (x3 : Int32) : Option (Int32 × rc_M) :=
  (rc_gI w (some a0) 7 27).bind fun v1 =>
  (rc_pI w (some a0) 7 29 v1).bind fun w3 =>
  (rc_pI w3 (some a0) 7 30 x2).bind fun w5 =>
  (rc_gI w5 (some a0) 7 28).bind fun v7 =>
  if v7 = 0 then
    (rc_gI w5 (some a0) 7 27).bind fun v10 =>
    b_mdl_nextBytes_151 w5 x2 (some a0) v10
  else
    (rc_gI w5 (some a0) 7 27).bind fun v12 =>
    b_mdl_nextBytes_151 w5 x2 (some a0) (v12 + x3)

def b_mdl_nextBytes_65 : Nat → rc_M → Nat → Int32 → Int32 → Int32 → Option (Int32 × rc_M)
  | 0, _, _, _, _, _ => none
  | fuel + 1, w, a0, x2, x3, x4 =>
    (rc_gI w (some a0) 7 28).bind fun v1 =>
    if v1 = 0 then
      b_mdl_nextBytes_117 w a0 x2 x3
    else
      if x3 ≤ x4 then
        b_mdl_nextBytes_117 w a0 x2 x3
      else
        (rc_gR w (some a0) 7 11).bind fun v5 =>
        (rc_gI w (some a0) 7 26).bind fun v7 =>
        (rc_gI w (some a0) 7 27).bind fun v9 =>
        (rc_aI w v5 2 (((1200 * v7) + v9) + x4)).bind fun v11 =>
        if v11 = 0 then
          b_mdl_nextBytes_108 (b_mdl_nextBytes_65 fuel) w a0 x2 x3 x4 (some a0) 1
        else
          b_mdl_nextBytes_108 (b_mdl_nextBytes_65 fuel) w a0 x2 x3 x4 (some a0) 0

def b_mdl_nextBytes_59 (w : rc_M) (a0 : Nat) (x2 : Int32) (x3 : Int32) (s0 : Option Nat) (s1 : Int32) : Option (Int32 × rc_M) :=
  (rc_pZ w s0 7 28 s1).bind fun w1 =>
  b_mdl_nextBytes_65 5000 w1 a0 x2 x3 x2

def b_mdl_nextBytes_58 (w : rc_M) (a0 : Nat) (x2 : Int32) (x3 : Int32) (s0 : Option Nat) : Option (Int32 × rc_M) :=
  b_mdl_nextBytes_59 w a0 x2 x3 s0 0

def b_mdl_nextBytes_27 (w : rc_M) (a0 : Nat) (x2 : Int32) (s0 : Option Nat) (s1 : Int32) : Option (Int32 × rc_M) :=
  (rc_pZ w s0 7 28 s1).bind fun w1 =>
  (rc_gI w1 (some a0) 7 28).bind fun v4 =>
  if v4 = 0 then
    b_mdl_nextBytes_58 w1 a0 x2 (((x2 + 3) / 4) * 4) (some a0)
  else
    (rc_rc w1 (some a0) 7).bind fun a7 =>
    (f_mdl_hasBytes w1 a7 (((x2 + 3) / 4) * 4)).bind fun p9 =>
    if p9.1 = 0 then
      b_mdl_nextBytes_58 p9.2 a0 x2 (((x2 + 3) / 4) * 4) (some a0)
    else
      b_mdl_nextBytes_59 p9.2 a0 x2 (((x2 + 3) / 4) * 4) (some a0) 1

def b_mdl_nextBytes_26 (w : rc_M) (a0 : Nat) (x2 : Int32) (s0 : Option Nat) : Option (Int32 × rc_M) :=
  b_mdl_nextBytes_27 w a0 x2 s0 0

def f_mdl_nextBytes (w : rc_M) (a0 : Nat) (x1 : Int32) : Option (Int32 × rc_M) :=
  (rc_rc w (some a0) 7).bind fun a1 =>
  (f_mdl_nextWord w a1).bind fun p3 =>
  (rc_gI p3.2 (some a0) 7 28).bind fun v5 =>
  if v5 = 0 then
    b_mdl_nextBytes_26 p3.2 a0 p3.1 (some a0)
  else
    if p3.1 < 0 then
      b_mdl_nextBytes_26 p3.2 a0 p3.1 (some a0)
    else
      if x1 < p3.1 then
        b_mdl_nextBytes_26 p3.2 a0 p3.1 (some a0)
      else
        b_mdl_nextBytes_27 p3.2 a0 p3.1 (some a0) 1

def b_mdl_accept_45 (w : rc_M) : Option (Int32 × rc_M) :=
  rc_z1 1 w

def f_mdl_accept (w : rc_M) (a0 : Nat) (x1 : Int32) (x2 : Int32) : Option (Int32 × rc_M) :=
  (rc_rc w (some a0) 7).bind fun a1 =>
  (f_mdl_outWord w a1 x1).bind fun w3 =>
  (rc_rc w3 (some a0) 7).bind fun a5 =>
  (f_mdl_outWord w3 a5 1).bind fun w7 =>
  (rc_rc w7 (some a0) 7).bind fun a9 =>
  (f_mdl_outWord w7 a9 0).bind fun w11 =>
  (rc_rc w11 (some a0) 7).bind fun a13 =>
  (f_mdl_outWord w11 a13 0).bind fun w15 =>
  (rc_rc w15 (some a0) 7).bind fun a17 =>
  (f_mdl_outWord w15 a17 0).bind fun w19 =>
  (rc_rc w19 (some a0) 7).bind fun a21 =>
  (f_mdl_outWord w19 a21 x2).bind fun w23 =>
  if x2 = 2 then
    (rc_rc w23 (some a0) 7).bind fun a26 =>
    (f_mdl_outWord w23 a26 1).bind fun w28 =>
    (rc_rc w28 (some a0) 7).bind fun a30 =>
    (f_mdl_outWord w28 a30 2).bind fun w32 =>
    b_mdl_accept_45 w32 
  else
    b_mdl_accept_45 w23 

def f_mdl_nextLong (w : rc_M) (a0 : Nat) : Option (Int64 × rc_M) :=
  (rc_rc w (some a0) 7).bind fun a1 =>
  (f_mdl_nextWord w a1).bind fun p3 =>
  (rc_rc p3.2 (some a0) 7).bind fun a5 =>
  (f_mdl_nextWord p3.2 a5).bind fun p7 =>
  some ((p3.1.toInt64 <<< ((32 : Int32).toInt64 &&& 63)) ||| (p7.1.toInt64 &&& 4294967295), p7.2)

def b_mdl_takes_157 (w : rc_M) (s0 : Int32) : Option (Int32 × rc_M) :=
  rc_z1 s0 w

def b_mdl_takes_156 (w : rc_M) : Option (Int32 × rc_M) :=
  b_mdl_takes_157 w 0

def b_mdl_takes_129 (w : rc_M) (a0 : Nat) : Option (Int32 × rc_M) :=
  (rc_gI w (some a0) 7 28).bind fun v1 =>
  if v1 = 0 then
    b_mdl_takes_156 w 
  else
    (rc_gI w (some a0) 7 27).bind fun v4 =>
    (rc_gR w (some a0) 7 12).bind fun v6 =>
    (rc_gI w (some a0) 7 26).bind fun v8 =>
    (rc_aI w v6 0 v8).bind fun v10 =>
    if v4 = v10 then
      b_mdl_takes_157 w 1
    else
      b_mdl_takes_156 w 

def b_mdl_takes_114 (w : rc_M) (a0 : Nat) (x1 : Int32) : Option (Int32 × rc_M) :=
  if x1 = 5 then
    (rc_rc w (some a0) 7).bind fun a2 =>
    (f_mdl_nextWord w a2).bind fun p4 =>
    (rc_rc p4.2 (some a0) 7).bind fun a6 =>
    (f_mdl_nextWord p4.2 a6).bind fun p8 =>
    b_mdl_takes_129 p8.2 a0
  else
    b_mdl_takes_129 w a0

def b_mdl_takes_89 : Nat → rc_M → Nat → Int32 → Int32 → Int32 → Option (Int32 × rc_M)
  | 0, _, _, _, _, _ => none
  | fuel + 1, w, a0, x1, x2, x3 =>
    (rc_gI w (some a0) 7 28).bind fun v1 =>
    if v1 = 0 then
      b_mdl_takes_114 w a0 x1
    else
      if x2 ≤ x3 then
        b_mdl_takes_114 w a0 x1
      else
        (rc_rc w (some a0) 7).bind fun a5 =>
        (f_mdl_nextBytes w a5 16).bind fun p7 =>
        b_mdl_takes_89 fuel p7.2 a0 x1 x2 (x3 + 1)

def b_mdl_takes_84 (w : rc_M) (a0 : Nat) (x1 : Int32) (x2 : Int32) (s0 : Option Nat) (s1 : Int32) : Option (Int32 × rc_M) :=
  (rc_pZ w s0 7 28 s1).bind fun w1 =>
  b_mdl_takes_89 5000 w1 a0 x1 x2 0

def b_mdl_takes_83 (w : rc_M) (a0 : Nat) (x1 : Int32) (x2 : Int32) (s0 : Option Nat) : Option (Int32 × rc_M) :=
  b_mdl_takes_84 w a0 x1 x2 s0 0

def b_mdl_takes_51 (w : rc_M) (a0 : Nat) (x1 : Int32) : Option (Int32 × rc_M) :=
  if x1 = 4 then
    (rc_rc w (some a0) 7).bind fun a2 =>
    (f_mdl_nextWord w a2).bind fun p4 =>
    (rc_gI p4.2 (some a0) 7 28).bind fun v6 =>
    if v6 = 0 then
      b_mdl_takes_83 p4.2 a0 x1 p4.1 (some a0)
    else
      if p4.1 < 0 then
        b_mdl_takes_83 p4.2 a0 x1 p4.1 (some a0)
      else
        if 8 < p4.1 then
          b_mdl_takes_83 p4.2 a0 x1 p4.1 (some a0)
        else
          b_mdl_takes_84 p4.2 a0 x1 p4.1 (some a0) 1
  else
    b_mdl_takes_114 w a0 x1

def b_mdl_takes_46 (w : rc_M) (a0 : Nat) (x1 : Int32) : Option (Int32 × rc_M) :=
  (rc_rc w (some a0) 7).bind fun a1 =>
  (f_mdl_nextLong w a1).bind fun p3 =>
  b_mdl_takes_51 p3.2 a0 x1

def b_mdl_takes_36 (w : rc_M) (a0 : Nat) (x1 : Int32) : Option (Int32 × rc_M) :=
  if x1 = 1 then
    b_mdl_takes_46 w a0 x1
  else
    if x1 = 3 then
      b_mdl_takes_46 w a0 x1
    else
      b_mdl_takes_51 w a0 x1

def b_mdl_takes_29 (w : rc_M) (a0 : Nat) (x1 : Int32) : Option (Int32 × rc_M) :=
  (rc_rc w (some a0) 7).bind fun a1 =>
  (f_mdl_nextBytes w a1 16).bind fun p3 =>
  b_mdl_takes_36 p3.2 a0 x1

def f_mdl_takes (w : rc_M) (a0 : Nat) (x1 : Int32) : Option (Int32 × rc_M) :=
  (rc_gI w (some a0) 7 27).bind fun v1 =>
  (rc_pI w (some a0) 7 33 v1).bind fun w3 =>
  if x1 = 1 then
    b_mdl_takes_29 w3 a0 x1
  else
    if x1 = 2 then
      b_mdl_takes_29 w3 a0 x1
    else
      if x1 = 3 then
        b_mdl_takes_29 w3 a0 x1
      else
        if x1 = 6 then
          b_mdl_takes_29 w3 a0 x1
        else
          b_mdl_takes_36 w3 a0 x1

def b_mdl_place_82 (k2 : rc_M → Nat → Int32 → Option (Int32 × rc_M)) (k31 : rc_M → Nat → Int32 → Int32 → Int32 → Option (Int32 × rc_M)) (w : rc_M) (a0 : Nat) (x1 : Int32) (x3 : Int32) (s0 : Int32) : Option (Int32 × rc_M) :=
  k31 w a0 x1 s0 (x3 + 1)

def b_mdl_place_89 (k2 : rc_M → Nat → Int32 → Option (Int32 × rc_M)) (w : rc_M) (a0 : Nat) (x1 : Int32) (x2 : Int32) : Option (Int32 × rc_M) :=
  if x2 = 0 then
    k2 w a0 (x1 + 1)
  else
    some (x1, w)

def b_mdl_place_31 (k2 : rc_M → Nat → Int32 → Option (Int32 × rc_M)) : Nat → rc_M → Nat → Int32 → Int32 → Int32 → Option (Int32 × rc_M)
  | 0, _, _, _, _, _ => none
  | fuel + 1, w, a0, x1, x2, x3 =>
    if x2 = 0 then
      b_mdl_place_89 k2 w a0 x1 x2
    else
      (rc_gI w (some a0) 7 30).bind fun v2 =>
      if v2 ≤ x3 then
        b_mdl_place_89 k2 w a0 x1 x2
      else
        (rc_gR w (some a0) 7 7).bind fun v5 =>
        (rc_aI w v5 2 ((16 * x1) + x3)).bind fun v7 =>
        (rc_gR w (some a0) 7 11).bind fun v9 =>
        (rc_gI w (some a0) 7 26).bind fun v11 =>
        (rc_gI w (some a0) 7 29).bind fun v13 =>
        (rc_aI w v9 2 (((1200 * v11) + v13) + x3)).bind fun v15 =>
        if v7 = v15 then
          b_mdl_place_82 k2 (b_mdl_place_31 k2 fuel) w a0 x1 x3 1
        else
          b_mdl_place_82 k2 (b_mdl_place_31 k2 fuel) w a0 x1 x3 0

def b_mdl_place_28 (k2 : rc_M → Nat → Int32 → Option (Int32 × rc_M)) (w : rc_M) (a0 : Nat) (x1 : Int32) (s0 : Int32) : Option (Int32 × rc_M) :=
  b_mdl_place_31 k2 5000 w a0 x1 s0 0

def b_mdl_place_2 : Nat → rc_M → Nat → Int32 → Option (Int32 × rc_M)
  | 0, _, _, _ => none
  | fuel + 1, w, a0, x1 =>
    (rc_gI w (some a0) 7 10).bind fun v1 =>
    if v1 ≤ x1 then
      some ((-1), w)
    else
      (rc_gR w (some a0) 7 8).bind fun v4 =>
      (rc_aI w v4 0 x1).bind fun v6 =>
      (rc_gI w (some a0) 7 30).bind fun v8 =>
      if v6 = v8 then
        b_mdl_place_28 (b_mdl_place_2 fuel) w a0 x1 1
      else
        b_mdl_place_28 (b_mdl_place_2 fuel) w a0 x1 0

def f_mdl_place (w : rc_M) (a0 : Nat) : Option (Int32 × rc_M) :=
  b_mdl_place_2 5000 w a0 0

def f_mdl_outLong (w : rc_M) (a0 : Nat) (x1 : Int64) : Option (rc_M) :=
  (rc_rc w (some a0) 7).bind fun a1 =>
  (f_mdl_outWord w a1 ((x1 >>> ((32 : Int32).toInt64 &&& 63)).toInt32)).bind fun w3 =>
  (rc_rc w3 (some a0) 7).bind fun a5 =>
  (f_mdl_outWord w3 a5 x1.toInt32).bind fun w7 =>
  some w7

def b_mdl_runSum_65 (k13 : rc_M → Nat → Int32 → Int64 → Int32 → Int32 → Option (rc_M)) (w : rc_M) (a0 : Nat) (x1 : Int32) (x2 : Int64) (x5 : Int32) (s0 : Int32) : Option (rc_M) :=
  k13 w a0 x1 x2 s0 (x5 + 1)

def b_mdl_runSum_50 (k13 : rc_M → Nat → Int32 → Int64 → Int32 → Int32 → Option (rc_M)) (w : rc_M) (a0 : Nat) (x1 : Int32) (x4 : Int32) (x5 : Int32) (x6 : Int32) (s0 : Int64) : Option (rc_M) :=
  if x6 < 0 then
    b_mdl_runSum_65 k13 w a0 x1 s0 x5 (x4 + 1)
  else
    b_mdl_runSum_65 k13 w a0 x1 s0 x5 x4

def b_mdl_runSum_13 : Nat → rc_M → Nat → Int32 → Int64 → Int32 → Int32 → Option (rc_M)
  | 0, _, _, _, _, _, _ => none
  | fuel + 1, w, a0, x1, x2, x4, x5 =>
    if x1 ≤ x5 then
      (rc_rc w (some a0) 7).bind fun a2 =>
      (f_mdl_outLong w a2 x2).bind fun w4 =>
      (rc_rc w4 (some a0) 7).bind fun a6 =>
      (f_mdl_outWord w4 a6 x4).bind fun w8 =>
      some w8
    else
      (rc_rc w (some a0) 7).bind fun a10 =>
      (f_mdl_nextBytes w a10 16).bind fun p12 =>
      (rc_rc p12.2 (some a0) 7).bind fun a14 =>
      (f_mdl_place p12.2 a14).bind fun p16 =>
      if p16.1 < 0 then
        b_mdl_runSum_50 (b_mdl_runSum_13 fuel) p16.2 a0 x1 x4 x5 p16.1 x2
      else
        (rc_gR p16.2 (some a0) 7 9).bind fun v19 =>
        (rc_aL p16.2 v19 p16.1).bind fun v21 =>
        b_mdl_runSum_50 (b_mdl_runSum_13 fuel) p16.2 a0 x1 x4 x5 p16.1 (x2 + v21)

def f_mdl_runSum (w : rc_M) (a0 : Nat) : Option (rc_M) :=
  (rc_rc w (some a0) 7).bind fun a1 =>
  (f_mdl_nextWord w a1).bind fun p3 =>
  b_mdl_runSum_13 5000 p3.2 a0 p3.1 0 0 0

set_option maxRecDepth 100000 in
set_option maxHeartbeats 4000000 in
theorem k_mdl_recordWord_4 {X : rc_X} {w0 : rc_M} (hF : (q_R X).frames = 0) (hL : (q_R X).locals = 0) (hN : q_n X = 4) (C : rc_C X "RecordCallsModel" prog_9_method_14_code w0) {res : Int32 × rc_M} (E : rc_E0 X y_mdl_recordWord (some .int) (some (.int res.1)) res.2) : ∀ (fuel : Nat) (w : rc_M) (a0 : Nat) (x1 : Int32) (x2 : Int32) (x3 : Int32), b_mdl_recordWord_4 fuel w a0 x1 x2 x3 = some res → rc_J X w 4 [] [(0, va_rf (some a0)), (1, .int x1), (2, .int x2), (3, .int x3)] := by
  intro fuel
  induction fuel with
  | zero => intro w a0 x1 x2 x3 h; simp [b_mdl_recordWord_4] at h
  | succ fuel ih =>
    intro w a0 x1 x2 x3 h
    unfold b_mdl_recordWord_4 at h
    refine j_iload_n C d_mdl_recordWord_4 rfl 3 rfl ?_
    refine j_iconst (v := 4) C d_mdl_recordWord_5 rfl (by decide) ?_
    refine j_icmp_ge (tgt := 42) C d_mdl_recordWord_6 (by decide) rfl (fun c1 => ?_) (fun c1 => ?_)
    · rw [if_pos c1] at h
      refine j_iload_n C d_mdl_recordWord_42 rfl 2 rfl ?_
      cases h
      exact j_iret C E d_mdl_recordWord_43
    · rw [if_neg c1] at h
      refine j_iload_n C d_mdl_recordWord_9 rfl 2 rfl ?_
      refine j_bipush (v := 8) C d_mdl_recordWord_10 rfl (by decide) ?_
      refine j_ishl C d_mdl_recordWord_12 rfl ?_
      refine j_aload_n C d_mdl_recordWord_13 rfl 0 rfl ?_
      obtain ⟨v2, h3, h⟩ := Option.bind_eq_some_iff.mp h
      refine j_getR C fl_mdl_34 h3 d_mdl_recordWord_14 rfl ?_
      refine j_sipush (v := 1200) C d_mdl_recordWord_17 rfl (by decide) ?_
      refine j_aload_n C d_mdl_recordWord_20 rfl 0 rfl ?_
      obtain ⟨v4, h5, h⟩ := Option.bind_eq_some_iff.mp h
      refine j_getI C fl_mdl_109 h5 d_mdl_recordWord_21 rfl ?_
      refine j_imul C d_mdl_recordWord_24 rfl ?_
      refine j_iload_n C d_mdl_recordWord_25 rfl 1 rfl ?_
      refine j_iadd C d_mdl_recordWord_26 rfl ?_
      refine j_iload_n C d_mdl_recordWord_27 rfl 3 rfl ?_
      refine j_iadd C d_mdl_recordWord_28 rfl ?_
      obtain ⟨v6, h7, h⟩ := Option.bind_eq_some_iff.mp h
      refine j_bald C h7 d_mdl_recordWord_29 rfl ?_
      refine j_sipush (v := 255) C d_mdl_recordWord_30 rfl (by decide) ?_
      refine j_iand C d_mdl_recordWord_33 rfl ?_
      refine j_ior C d_mdl_recordWord_34 rfl ?_
      refine j_istore_n C (i := 2) d_mdl_recordWord_35 rfl rfl [(2, .int ((x2 <<< (8 &&& 31)) ||| (v6 &&& 255))), (0, va_rf (some a0)), (1, .int x1), (3, .int x3)] (rc_lt hN (by decide)) (by first | rfl | simp [va_rf_cat, rc_cat_i, rc_cat_l]) ?_
      refine j_iinc C d_mdl_recordWord_36 rfl 3 [(3, .int (x3 + 1)), (2, .int ((x2 <<< (8 &&& 31)) ||| (v6 &&& 255))), (0, va_rf (some a0)), (1, .int x1)] rfl rfl (rc_lt hN (by decide)) (by first | rfl | simp [va_rf_cat, rc_cat_i, rc_cat_l]) ?_
      refine j_goto (tgt := 4) C d_mdl_recordWord_39 (by decide) ?_
      refine rc_J.sub (lv' := [(0, va_rf (some a0)), (1, .int x1), (2, .int ((x2 <<< (8 &&& 31)) ||| (v6 &&& 255))), (3, .int (x3 + 1))]) [2, 3, 1, 0] rfl ?_
      exact ih _ _ _ _ _ h

set_option maxRecDepth 100000 in
set_option maxHeartbeats 4000000 in
theorem ct_mdl_recordWord {l : Launch} {G : rc_G} {w : rc_M} {a0 : Nat} {x1 : Int32} {res : Int32 × rc_M} (h : f_mdl_recordWord w a0 x1 = some res) : rc_Ct l G y_mdl_recordWord prog_9_method_14_code 4 (some .int) 0 0 [va_rf (some a0), .int x1] w (some (.int res.1)) res.2 := by
  refine rc_enter (by decide +kernel) (by simp [lg_sl, va_rf_cat, rc_cat_i, rc_cat_l]) ?_
  intro X _ _ hN hF hL C E
  have hlv : lv_args 0 [va_rf (some a0), .int x1] = [(0, va_rf (some a0)), (1, .int x1)] := by simp [lv_args, va_rf_cat, rc_cat_i, rc_cat_l]
  rw [hlv]
  clear hlv
  unfold f_mdl_recordWord at h
  refine j_iconst (v := 0) C d_mdl_recordWord_0 rfl (by decide) ?_
  refine j_istore_n C (i := 2) d_mdl_recordWord_1 rfl rfl [(2, .int 0), (0, va_rf (some a0)), (1, .int x1)] (rc_lt hN (by decide)) (by first | rfl | simp [va_rf_cat, rc_cat_i, rc_cat_l]) ?_
  refine j_iconst (v := 0) C d_mdl_recordWord_2 rfl (by decide) ?_
  refine j_istore_n C (i := 3) d_mdl_recordWord_3 rfl rfl [(3, .int 0), (2, .int 0), (0, va_rf (some a0)), (1, .int x1)] (rc_lt hN (by decide)) (by first | rfl | simp [va_rf_cat, rc_cat_i, rc_cat_l]) ?_
  refine rc_J.sub (lv' := [(0, va_rf (some a0)), (1, .int x1), (2, .int 0), (3, .int 0)]) [2, 3, 1, 0] rfl ?_
  exact k_mdl_recordWord_4 hF hL hN C E _ _ _ _ _ _ h

set_option maxRecDepth 100000 in
set_option maxHeartbeats 4000000 in
theorem k_mdl_send_23 {X : rc_X} {w0 : rc_M} (hF : (q_R X).frames = 3) (hL : (q_R X).locals = 65) (hN : q_n X = 4) (C : rc_C X "RecordCallsModel" prog_9_method_23_code w0) {res : rc_M} (E : rc_E0 X y_mdl_send none none res) : ∀ (fuel : Nat) (w : rc_M) (a0 : Nat) (x1 : Int32) (x2 : Int32) (x3 : Int32), b_mdl_send_23 fuel w a0 x1 x2 x3 = some res → rc_J X w 23 [] [(0, va_rf (some a0)), (1, .int x1), (2, .int x2), (3, .int x3)] := by
  intro fuel
  induction fuel with
  | zero => intro w a0 x1 x2 x3 h; simp [b_mdl_send_23] at h
  | succ fuel ih =>
    intro w a0 x1 x2 x3 h
    unfold b_mdl_send_23 at h
    refine j_iload_n C d_mdl_send_23 rfl 3 rfl ?_
    refine j_aload_n C d_mdl_send_24 rfl 0 rfl ?_
    obtain ⟨v1, h2, h⟩ := Option.bind_eq_some_iff.mp h
    refine j_getR C fl_mdl_62 h2 d_mdl_send_25 rfl ?_
    refine j_iload_n C d_mdl_send_28 rfl 1 rfl ?_
    obtain ⟨v3, h4, h⟩ := Option.bind_eq_some_iff.mp h
    refine j_iald C h4 d_mdl_send_29 rfl ?_
    refine j_icmp_ge (tgt := 56) C d_mdl_send_30 (by decide) rfl (fun c5 => ?_) (fun c5 => ?_)
    · rw [if_pos c5] at h
      cases h
      exact j_vret C E d_mdl_send_56
    · rw [if_neg c5] at h
      refine j_aload_n C d_mdl_send_33 rfl 0 rfl ?_
      refine j_iload_n C d_mdl_send_34 rfl 2 rfl ?_
      refine j_aload_n C d_mdl_send_35 rfl 0 rfl ?_
      obtain ⟨v6, h7, h⟩ := Option.bind_eq_some_iff.mp h
      refine j_getR C fl_mdl_65 h7 d_mdl_send_36 rfl ?_
      refine j_sipush (v := 400) C d_mdl_send_39 rfl (by decide) ?_
      refine j_iload_n C d_mdl_send_42 rfl 1 rfl ?_
      refine j_imul C d_mdl_send_43 rfl ?_
      refine j_iload_n C d_mdl_send_44 rfl 3 rfl ?_
      refine j_iadd C d_mdl_send_45 rfl ?_
      obtain ⟨v8, h9, h⟩ := Option.bind_eq_some_iff.mp h
      refine j_bald C h9 d_mdl_send_46 rfl ?_
      obtain ⟨a10, h11, h⟩ := Option.bind_eq_some_iff.mp h
      obtain ⟨w12, h13, h⟩ := Option.bind_eq_some_iff.mp h
      refine j_callV C (As := [.int x2, .int v8]) (st := []) (sk' := []) mk_mdl_slotByte (Or.inl T_835) T_837 S_25 (ci := 7) rfl h11 (rc_le hF (by decide)) (rc_le hL (by decide)) (ct_mdl_slotByte h13) rfl rfl (by decide) d_mdl_send_47 rfl rfl ?_
      refine j_iinc C d_mdl_send_50 rfl 3 [(3, .int (x3 + 1)), (0, va_rf (some a0)), (1, .int x1), (2, .int x2)] rfl rfl (rc_lt hN (by decide)) (by first | rfl | simp [va_rf_cat, rc_cat_i, rc_cat_l]) ?_
      refine j_goto (tgt := 23) C d_mdl_send_53 (by decide) ?_
      refine rc_J.sub (lv' := [(0, va_rf (some a0)), (1, .int x1), (2, .int x2), (3, .int (x3 + 1))]) [1, 2, 3, 0] rfl ?_
      exact ih _ _ _ _ _ h

set_option maxRecDepth 100000 in
set_option maxHeartbeats 4000000 in
theorem ct_mdl_send {l : Launch} {G : rc_G} {w : rc_M} {a0 : Nat} {x1 : Int32} {res : rc_M} (h : f_mdl_send w a0 x1 = some res) : rc_Ct l G y_mdl_send prog_9_method_23_code 4 none 3 65 [va_rf (some a0), .int x1] w none res := by
  refine rc_enter (by decide +kernel) (by simp [lg_sl, va_rf_cat, rc_cat_i, rc_cat_l]) ?_
  intro X _ _ hN hF hL C E
  have hlv : lv_args 0 [va_rf (some a0), .int x1] = [(0, va_rf (some a0)), (1, .int x1)] := by simp [lv_args, va_rf_cat, rc_cat_i, rc_cat_l]
  rw [hlv]
  clear hlv
  unfold f_mdl_send at h
  refine j_aload_n C d_mdl_send_0 rfl 0 rfl ?_
  obtain ⟨a1, h2, h⟩ := Option.bind_eq_some_iff.mp h
  obtain ⟨p3, h4, h⟩ := Option.bind_eq_some_iff.mp h
  refine j_callV C (As := []) (st := []) (sk' := [.int p3.1]) mk_mdl_newSlot (Or.inl T_831) T_833 S_24 (ci := 7) rfl h2 (rc_le hF (by decide)) (rc_le hL (by decide)) (ct_mdl_newSlot h4) rfl rfl (by decide) d_mdl_send_1 rfl rfl ?_
  refine j_istore_n C (i := 2) d_mdl_send_4 rfl rfl [(2, .int p3.1), (0, va_rf (some a0)), (1, .int x1)] (rc_lt hN (by decide)) (by first | rfl | simp [va_rf_cat, rc_cat_i, rc_cat_l]) ?_
  refine j_aload_n C d_mdl_send_5 rfl 1 rfl ?_
  refine j_iload_n C d_mdl_send_6 rfl 0 rfl ?_
  refine j_aload_n C d_mdl_send_7 rfl 1 rfl ?_
  obtain ⟨v5, h6, h⟩ := Option.bind_eq_some_iff.mp h
  refine j_getR C fl_mdl_62 h6 d_mdl_send_8 rfl ?_
  refine j_iload_n C d_mdl_send_11 rfl 2 rfl ?_
  obtain ⟨v7, h8, h⟩ := Option.bind_eq_some_iff.mp h
  refine j_iald C h8 d_mdl_send_12 rfl ?_
  refine j_ldc C d_mdl_send_13 rfl T_846 ?_
  refine j_isub C d_mdl_send_15 rfl ?_
  refine j_iconst (v := 1) C d_mdl_send_16 rfl (by decide) ?_
  refine j_isub C d_mdl_send_17 rfl ?_
  obtain ⟨a9, h10, h⟩ := Option.bind_eq_some_iff.mp h
  obtain ⟨w11, h12, h⟩ := Option.bind_eq_some_iff.mp h
  refine j_callV C (As := [.int p3.1, .int ((v7 - 2147483647) - 1)]) (st := []) (sk' := []) mk_mdl_slotWord (Or.inl T_847) T_849 S_26 (ci := 7) rfl h10 (rc_le hF (by decide)) (rc_le hL (by decide)) (ct_mdl_slotWord h12) rfl rfl (by decide) d_mdl_send_18 rfl rfl ?_
  refine j_iconst (v := 0) C d_mdl_send_21 rfl (by decide) ?_
  refine j_istore_n C (i := 3) d_mdl_send_22 rfl rfl [(3, .int 0), (2, .int p3.1), (0, va_rf (some a0)), (1, .int x1)] (rc_lt hN (by decide)) (by first | rfl | simp [va_rf_cat, rc_cat_i, rc_cat_l]) ?_
  refine rc_J.sub (lv' := [(0, va_rf (some a0)), (1, .int x1), (2, .int p3.1), (3, .int 0)]) [2, 3, 1, 0] rfl ?_
  exact k_mdl_send_23 hF hL hN C E _ _ _ _ _ _ h

set_option maxRecDepth 100000 in
set_option maxHeartbeats 4000000 in
theorem k_mdl_hasBytes_27 {X : rc_X} {w0 : rc_M} (hF : (q_R X).frames = 0) (hL : (q_R X).locals = 0) (hN : q_n X = 2) (C : rc_C X "RecordCallsModel" prog_9_method_15_code w0) {res : Int32 × rc_M} (E : rc_E0 X y_mdl_hasBytes (some .boolean) (some (.int res.1)) res.2) {w : rc_M} {s0 : Int32} (h : b_mdl_hasBytes_27 w s0 = some res) : rc_J X w 27 [.int s0] [] := by
  unfold b_mdl_hasBytes_27 at h
  obtain ⟨hz, rfl⟩ := rc_z1_spec h
  exact j_zret C hz E d_mdl_hasBytes_27

set_option maxRecDepth 100000 in
set_option maxHeartbeats 4000000 in
theorem k_mdl_hasBytes_26 {X : rc_X} {w0 : rc_M} (hF : (q_R X).frames = 0) (hL : (q_R X).locals = 0) (hN : q_n X = 2) (C : rc_C X "RecordCallsModel" prog_9_method_15_code w0) {res : Int32 × rc_M} (E : rc_E0 X y_mdl_hasBytes (some .boolean) (some (.int res.1)) res.2) {w : rc_M}  (h : b_mdl_hasBytes_26 w  = some res) : rc_J X w 26 [] [] := by
  unfold b_mdl_hasBytes_26 at h
  refine j_iconst (v := 0) C d_mdl_hasBytes_26 rfl (by decide) ?_
  exact k_mdl_hasBytes_27 hF hL hN C E h

set_option maxRecDepth 100000 in
set_option maxHeartbeats 4000000 in
theorem ct_mdl_hasBytes {l : Launch} {G : rc_G} {w : rc_M} {a0 : Nat} {x1 : Int32} {res : Int32 × rc_M} (h : f_mdl_hasBytes w a0 x1 = some res) : rc_Ct l G y_mdl_hasBytes prog_9_method_15_code 2 (some .boolean) 0 0 [va_rf (some a0), .int x1] w (some (.int res.1)) res.2 := by
  refine rc_enter (by decide +kernel) (by simp [lg_sl, va_rf_cat, rc_cat_i, rc_cat_l]) ?_
  intro X _ _ hN hF hL C E
  have hlv : lv_args 0 [va_rf (some a0), .int x1] = [(0, va_rf (some a0)), (1, .int x1)] := by simp [lv_args, va_rf_cat, rc_cat_i, rc_cat_l]
  rw [hlv]
  clear hlv
  unfold f_mdl_hasBytes at h
  refine j_iload_n C d_mdl_hasBytes_0 rfl 1 rfl ?_
  refine j_if_lt (tgt := 26) C d_mdl_hasBytes_1 (by decide) rfl (fun c1 => ?_) (fun c1 => ?_)
  · rw [if_pos c1] at h
    refine rc_J.sub (lv' := []) [] rfl ?_
    exact k_mdl_hasBytes_26 hF hL hN C E h
  · rw [if_neg c1] at h
    refine j_iload_n C d_mdl_hasBytes_4 rfl 1 rfl ?_
    refine j_aload_n C d_mdl_hasBytes_5 rfl 0 rfl ?_
    obtain ⟨v2, h3, h⟩ := Option.bind_eq_some_iff.mp h
    refine j_getR C fl_mdl_37 h3 d_mdl_hasBytes_6 rfl ?_
    refine j_aload_n C d_mdl_hasBytes_9 rfl 0 rfl ?_
    obtain ⟨v4, h5, h⟩ := Option.bind_eq_some_iff.mp h
    refine j_getI C fl_mdl_109 h5 d_mdl_hasBytes_10 rfl ?_
    obtain ⟨v6, h7, h⟩ := Option.bind_eq_some_iff.mp h
    refine j_iald C h7 d_mdl_hasBytes_13 rfl ?_
    refine j_aload_n C d_mdl_hasBytes_14 rfl 0 rfl ?_
    obtain ⟨v8, h9, h⟩ := Option.bind_eq_some_iff.mp h
    refine j_getI C fl_mdl_116 h9 d_mdl_hasBytes_15 rfl ?_
    refine j_isub C d_mdl_hasBytes_18 rfl ?_
    refine j_icmp_gt (tgt := 26) C d_mdl_hasBytes_19 (by decide) rfl (fun c10 => ?_) (fun c10 => ?_)
    · rw [if_pos c10] at h
      refine rc_J.sub (lv' := []) [] rfl ?_
      exact k_mdl_hasBytes_26 hF hL hN C E h
    · rw [if_neg c10] at h
      refine j_iconst (v := 1) C d_mdl_hasBytes_22 rfl (by decide) ?_
      refine j_goto (tgt := 27) C d_mdl_hasBytes_23 (by decide) ?_
      refine rc_J.sub (lv' := []) [] rfl ?_
      exact k_mdl_hasBytes_27 hF hL hN C E h

set_option maxRecDepth 100000 in
set_option maxHeartbeats 4000000 in
theorem k_mdl_nextWord_21 {X : rc_X} {w0 : rc_M} (hF : (q_R X).frames = 1) (hL : (q_R X).locals = 23) (hN : q_n X = 1) (C : rc_C X "RecordCallsModel" prog_9_method_16_code w0) {res : Int32 × rc_M} (E : rc_E0 X y_mdl_nextWord (some .int) (some (.int res.1)) res.2) {w : rc_M} {a0 : Nat} {s0 : Option Nat} {s1 : Int32} (h : b_mdl_nextWord_21 w a0 s0 s1 = some res) : rc_J X w 21 [.int s1, va_rf s0] [(0, va_rf (some a0))] := by
  unfold b_mdl_nextWord_21 at h
  obtain ⟨w1, h2, h⟩ := Option.bind_eq_some_iff.mp h
  obtain ⟨h2z, h2⟩ := rc_pZ_spec h2
  refine j_putV C (ci := 7) (k := 28) (by decide) (by decide) T_747 (Or.inl rfl) (rc_nz h2z) (rc_fz h2z) h2 d_mdl_nextWord_21 rfl ?_
  refine j_aload_n C d_mdl_nextWord_24 rfl 0 rfl ?_
  obtain ⟨v3, h4, h⟩ := Option.bind_eq_some_iff.mp h
  refine j_getI C fl_mdl_119 h4 d_mdl_nextWord_25 rfl ?_
  refine j_if_ne (tgt := 33) C d_mdl_nextWord_28 (by decide) rfl (fun c5 => ?_) (fun c5 => ?_)
  · rw [if_neg c5] at h
    refine j_aload_n C d_mdl_nextWord_33 rfl 0 rfl ?_
    refine j_aload_n C d_mdl_nextWord_34 rfl 0 rfl ?_
    obtain ⟨v6, h7, h⟩ := Option.bind_eq_some_iff.mp h
    refine j_getI C fl_mdl_116 h7 d_mdl_nextWord_35 rfl ?_
    refine j_iconst (v := 4) C d_mdl_nextWord_38 rfl (by decide) ?_
    refine j_iadd C d_mdl_nextWord_39 rfl ?_
    obtain ⟨w8, h9, h⟩ := Option.bind_eq_some_iff.mp h
    refine j_putV C (ci := 7) (k := 27) (by decide) (by decide) T_746 (Or.inl rfl) rfl rfl h9 d_mdl_nextWord_40 rfl ?_
    refine j_aload_n C d_mdl_nextWord_43 rfl 0 rfl ?_
    refine j_aload_n C d_mdl_nextWord_44 rfl 0 rfl ?_
    obtain ⟨v10, h11, h⟩ := Option.bind_eq_some_iff.mp h
    refine j_getI C fl_mdl_116 h11 d_mdl_nextWord_45 rfl ?_
    refine j_iconst (v := 4) C d_mdl_nextWord_48 rfl (by decide) ?_
    refine j_isub C d_mdl_nextWord_49 rfl ?_
    obtain ⟨a12, h13, h⟩ := Option.bind_eq_some_iff.mp h
    obtain ⟨p14, h15, h⟩ := Option.bind_eq_some_iff.mp h
    refine j_callV C (As := [.int (v10 - 4)]) (st := []) (sk' := [.int p14.1]) mk_mdl_recordWord (Or.inl T_872) T_874 S_30 (ci := 7) rfl h13 (rc_le hF (by decide)) (rc_le hL (by decide)) (ct_mdl_recordWord h15) rfl rfl (by decide) d_mdl_nextWord_50 rfl rfl ?_
    cases h
    exact j_iret C E d_mdl_nextWord_53
  · rw [if_pos c5] at h
    refine j_iconst (v := 0) C d_mdl_nextWord_31 rfl (by decide) ?_
    cases h
    exact j_iret C E d_mdl_nextWord_32

set_option maxRecDepth 100000 in
set_option maxHeartbeats 4000000 in
theorem k_mdl_nextWord_20 {X : rc_X} {w0 : rc_M} (hF : (q_R X).frames = 1) (hL : (q_R X).locals = 23) (hN : q_n X = 1) (C : rc_C X "RecordCallsModel" prog_9_method_16_code w0) {res : Int32 × rc_M} (E : rc_E0 X y_mdl_nextWord (some .int) (some (.int res.1)) res.2) {w : rc_M} {a0 : Nat} {s0 : Option Nat} (h : b_mdl_nextWord_20 w a0 s0 = some res) : rc_J X w 20 [va_rf s0] [(0, va_rf (some a0))] := by
  unfold b_mdl_nextWord_20 at h
  refine j_iconst (v := 0) C d_mdl_nextWord_20 rfl (by decide) ?_
  exact k_mdl_nextWord_21 hF hL hN C E h

set_option maxRecDepth 100000 in
set_option maxHeartbeats 4000000 in
theorem ct_mdl_nextWord {l : Launch} {G : rc_G} {w : rc_M} {a0 : Nat} {res : Int32 × rc_M} (h : f_mdl_nextWord w a0 = some res) : rc_Ct l G y_mdl_nextWord prog_9_method_16_code 1 (some .int) 1 23 [va_rf (some a0)] w (some (.int res.1)) res.2 := by
  refine rc_enter (by decide +kernel) (by simp [lg_sl, va_rf_cat, rc_cat_i, rc_cat_l]) ?_
  intro X _ _ hN hF hL C E
  have hlv : lv_args 0 [va_rf (some a0)] = [(0, va_rf (some a0))] := by simp [lv_args, va_rf_cat, rc_cat_i, rc_cat_l]
  rw [hlv]
  clear hlv
  unfold f_mdl_nextWord at h
  refine j_aload_n C d_mdl_nextWord_0 rfl 0 rfl ?_
  refine j_aload_n C d_mdl_nextWord_1 rfl 0 rfl ?_
  obtain ⟨v1, h2, h⟩ := Option.bind_eq_some_iff.mp h
  refine j_getI C fl_mdl_119 h2 d_mdl_nextWord_2 rfl ?_
  refine j_if_eq (tgt := 20) C d_mdl_nextWord_5 (by decide) rfl (fun c3 => ?_) (fun c3 => ?_)
  · rw [if_pos c3] at h
    exact k_mdl_nextWord_20 hF hL hN C E h
  · rw [if_neg c3] at h
    refine j_aload_n C d_mdl_nextWord_8 rfl 0 rfl ?_
    refine j_iconst (v := 4) C d_mdl_nextWord_9 rfl (by decide) ?_
    obtain ⟨a4, h5, h⟩ := Option.bind_eq_some_iff.mp h
    obtain ⟨p6, h7, h⟩ := Option.bind_eq_some_iff.mp h
    refine j_callV C (As := [.int 4]) (st := [va_rf (some a0)]) (sk' := [.int p6.1, va_rf (some a0)]) mk_mdl_hasBytes (Or.inl T_888) T_890 S_34 (ci := 7) rfl h5 (rc_le hF (by decide)) (rc_le hL (by decide)) (ct_mdl_hasBytes h7) rfl rfl (by simp [va_rf_cat, rc_cat_i, rc_cat_l]) d_mdl_nextWord_10 rfl rfl ?_
    refine j_if_eq (tgt := 20) C d_mdl_nextWord_13 (by decide) rfl (fun c8 => ?_) (fun c8 => ?_)
    · rw [if_pos c8] at h
      exact k_mdl_nextWord_20 hF hL hN C E h
    · rw [if_neg c8] at h
      refine j_iconst (v := 1) C d_mdl_nextWord_16 rfl (by decide) ?_
      refine j_goto (tgt := 21) C d_mdl_nextWord_17 (by decide) ?_
      exact k_mdl_nextWord_21 hF hL hN C E h

set_option maxRecDepth 100000 in
set_option maxHeartbeats 4000000 in
theorem k_mdl_outWord_3 {X : rc_X} {w0 : rc_M} (hF : (q_R X).frames = 0) (hL : (q_R X).locals = 0) (hN : q_n X = 3) (C : rc_C X "RecordCallsModel" prog_9_method_19_code w0) {res : rc_M} (E : rc_E0 X y_mdl_outWord none none res) : ∀ (fuel : Nat) (w : rc_M) (a0 : Nat) (x1 : Int32) (x2 : Int32), b_mdl_outWord_3 fuel w a0 x1 x2 = some res → rc_J X w 3 [] [(0, va_rf (some a0)), (1, .int x1), (2, .int x2)] := by
  intro fuel
  induction fuel with
  | zero => intro w a0 x1 x2 h; simp [b_mdl_outWord_3] at h
  | succ fuel ih =>
    intro w a0 x1 x2 h
    unfold b_mdl_outWord_3 at h
    refine j_iload_n C d_mdl_outWord_3 rfl 2 rfl ?_
    refine j_if_lt (tgt := 38) C d_mdl_outWord_4 (by decide) rfl (fun c1 => ?_) (fun c1 => ?_)
    · rw [if_pos c1] at h
      cases h
      exact j_vret C E d_mdl_outWord_38
    · rw [if_neg c1] at h
      refine j_aload_n C d_mdl_outWord_7 rfl 0 rfl ?_
      obtain ⟨v2, h3, h⟩ := Option.bind_eq_some_iff.mp h
      refine j_getR C fl_mdl_71 h3 d_mdl_outWord_8 rfl ?_
      refine j_aload_n C d_mdl_outWord_11 rfl 0 rfl ?_
      obtain ⟨v4, h5, h⟩ := Option.bind_eq_some_iff.mp h
      refine j_getI C fl_mdl_140 h5 d_mdl_outWord_12 rfl ?_
      refine j_iload_n C d_mdl_outWord_15 rfl 1 rfl ?_
      refine j_iload_n C d_mdl_outWord_16 rfl 2 rfl ?_
      refine j_ishr C d_mdl_outWord_17 rfl ?_
      refine j_i2b C d_mdl_outWord_18 rfl ?_
      obtain ⟨w6, h7, h⟩ := Option.bind_eq_some_iff.mp h
      refine j_bast C h7 d_mdl_outWord_19 rfl ?_
      refine j_aload_n C d_mdl_outWord_20 rfl 0 rfl ?_
      refine j_dup C d_mdl_outWord_21 rfl (by first | rfl | exact va_rf_cat _) ?_
      obtain ⟨v8, h9, h⟩ := Option.bind_eq_some_iff.mp h
      refine j_getI C fl_mdl_140 h9 d_mdl_outWord_22 rfl ?_
      refine j_iconst (v := 1) C d_mdl_outWord_25 rfl (by decide) ?_
      refine j_iadd C d_mdl_outWord_26 rfl ?_
      obtain ⟨w10, h11, h⟩ := Option.bind_eq_some_iff.mp h
      refine j_putV C (ci := 7) (k := 32) (by decide) (by decide) T_751 (Or.inl rfl) rfl rfl h11 d_mdl_outWord_27 rfl ?_
      refine j_iload_n C d_mdl_outWord_30 rfl 2 rfl ?_
      refine j_bipush (v := 8) C d_mdl_outWord_31 rfl (by decide) ?_
      refine j_isub C d_mdl_outWord_33 rfl ?_
      refine j_istore_n C (i := 2) d_mdl_outWord_34 rfl rfl [(2, .int (x2 - 8)), (0, va_rf (some a0)), (1, .int x1)] (rc_lt hN (by decide)) (by first | rfl | simp [va_rf_cat, rc_cat_i, rc_cat_l]) ?_
      refine j_goto (tgt := 3) C d_mdl_outWord_35 (by decide) ?_
      refine rc_J.sub (lv' := [(0, va_rf (some a0)), (1, .int x1), (2, .int (x2 - 8))]) [1, 2, 0] rfl ?_
      exact ih _ _ _ _ h

set_option maxRecDepth 100000 in
set_option maxHeartbeats 4000000 in
theorem ct_mdl_outWord {l : Launch} {G : rc_G} {w : rc_M} {a0 : Nat} {x1 : Int32} {res : rc_M} (h : f_mdl_outWord w a0 x1 = some res) : rc_Ct l G y_mdl_outWord prog_9_method_19_code 3 none 0 0 [va_rf (some a0), .int x1] w none res := by
  refine rc_enter (by decide +kernel) (by simp [lg_sl, va_rf_cat, rc_cat_i, rc_cat_l]) ?_
  intro X _ _ hN hF hL C E
  have hlv : lv_args 0 [va_rf (some a0), .int x1] = [(0, va_rf (some a0)), (1, .int x1)] := by simp [lv_args, va_rf_cat, rc_cat_i, rc_cat_l]
  rw [hlv]
  clear hlv
  unfold f_mdl_outWord at h
  refine j_bipush (v := 24) C d_mdl_outWord_0 rfl (by decide) ?_
  refine j_istore_n C (i := 2) d_mdl_outWord_2 rfl rfl [(2, .int 24), (0, va_rf (some a0)), (1, .int x1)] (rc_lt hN (by decide)) (by first | rfl | simp [va_rf_cat, rc_cat_i, rc_cat_l]) ?_
  refine rc_J.sub (lv' := [(0, va_rf (some a0)), (1, .int x1), (2, .int 24)]) [1, 2, 0] rfl ?_
  exact k_mdl_outWord_3 hF hL hN C E _ _ _ _ _ h

set_option maxRecDepth 100000 in
set_option maxHeartbeats 4000000 in
theorem k_mdl_refuse_34 {X : rc_X} {w0 : rc_M} (hF : (q_R X).frames = 1) (hL : (q_R X).locals = 22) (hN : q_n X = 4) (C : rc_C X "RecordCallsModel" prog_9_method_24_code w0) {res : Int32 × rc_M} (E : rc_E0 X y_mdl_refuse (some .boolean) (some (.int res.1)) res.2) {w : rc_M}  (h : b_mdl_refuse_34 w  = some res) : rc_J X w 34 [] [] := by
  unfold b_mdl_refuse_34 at h
  refine j_iconst (v := 1) C d_mdl_refuse_34 rfl (by decide) ?_
  obtain ⟨hz, rfl⟩ := rc_z1_spec h
  exact j_zret C hz E d_mdl_refuse_35

set_option maxRecDepth 100000 in
set_option maxHeartbeats 4000000 in
theorem ct_mdl_refuse {l : Launch} {G : rc_G} {w : rc_M} {a0 : Nat} {x1 : Int32} {x2 : Int32} {x3 : Int32} {res : Int32 × rc_M} (h : f_mdl_refuse w a0 x1 x2 x3 = some res) : rc_Ct l G y_mdl_refuse prog_9_method_24_code 4 (some .boolean) 1 22 [va_rf (some a0), .int x1, .int x2, .int x3] w (some (.int res.1)) res.2 := by
  refine rc_enter (by decide +kernel) (by simp [lg_sl, va_rf_cat, rc_cat_i, rc_cat_l]) ?_
  intro X _ _ hN hF hL C E
  have hlv : lv_args 0 [va_rf (some a0), .int x1, .int x2, .int x3] = [(0, va_rf (some a0)), (1, .int x1), (2, .int x2), (3, .int x3)] := by simp [lv_args, va_rf_cat, rc_cat_i, rc_cat_l]
  rw [hlv]
  clear hlv
  unfold f_mdl_refuse at h
  refine j_aload_n C d_mdl_refuse_0 rfl 0 rfl ?_
  refine j_iload_n C d_mdl_refuse_1 rfl 1 rfl ?_
  obtain ⟨a1, h2, h⟩ := Option.bind_eq_some_iff.mp h
  obtain ⟨w3, h4, h⟩ := Option.bind_eq_some_iff.mp h
  refine j_callV C (As := [.int x1]) (st := []) (sk' := []) mk_mdl_outWord (Or.inl T_896) T_898 S_36 (ci := 7) rfl h2 (rc_le hF (by decide)) (rc_le hL (by decide)) (ct_mdl_outWord h4) rfl rfl (by decide) d_mdl_refuse_2 rfl rfl ?_
  refine j_aload_n C d_mdl_refuse_5 rfl 0 rfl ?_
  refine j_iconst (v := 1) C d_mdl_refuse_6 rfl (by decide) ?_
  obtain ⟨a5, h6, h⟩ := Option.bind_eq_some_iff.mp h
  obtain ⟨w7, h8, h⟩ := Option.bind_eq_some_iff.mp h
  refine j_callV C (As := [.int 1]) (st := []) (sk' := []) mk_mdl_outWord (Or.inl T_896) T_898 S_36 (ci := 7) rfl h6 (rc_le hF (by decide)) (rc_le hL (by decide)) (ct_mdl_outWord h8) rfl rfl (by decide) d_mdl_refuse_7 rfl rfl ?_
  refine j_aload_n C d_mdl_refuse_10 rfl 0 rfl ?_
  refine j_iconst (v := 1) C d_mdl_refuse_11 rfl (by decide) ?_
  obtain ⟨a9, h10, h⟩ := Option.bind_eq_some_iff.mp h
  obtain ⟨w11, h12, h⟩ := Option.bind_eq_some_iff.mp h
  refine j_callV C (As := [.int 1]) (st := []) (sk' := []) mk_mdl_outWord (Or.inl T_896) T_898 S_36 (ci := 7) rfl h10 (rc_le hF (by decide)) (rc_le hL (by decide)) (ct_mdl_outWord h12) rfl rfl (by decide) d_mdl_refuse_12 rfl rfl ?_
  refine j_aload_n C d_mdl_refuse_15 rfl 0 rfl ?_
  refine j_iload_n C d_mdl_refuse_16 rfl 2 rfl ?_
  obtain ⟨a13, h14, h⟩ := Option.bind_eq_some_iff.mp h
  obtain ⟨w15, h16, h⟩ := Option.bind_eq_some_iff.mp h
  refine j_callV C (As := [.int x2]) (st := []) (sk' := []) mk_mdl_outWord (Or.inl T_896) T_898 S_36 (ci := 7) rfl h14 (rc_le hF (by decide)) (rc_le hL (by decide)) (ct_mdl_outWord h16) rfl rfl (by decide) d_mdl_refuse_17 rfl rfl ?_
  refine j_aload_n C d_mdl_refuse_20 rfl 0 rfl ?_
  refine j_iload_n C d_mdl_refuse_21 rfl 3 rfl ?_
  obtain ⟨a17, h18, h⟩ := Option.bind_eq_some_iff.mp h
  obtain ⟨w19, h20, h⟩ := Option.bind_eq_some_iff.mp h
  refine j_callV C (As := [.int x3]) (st := []) (sk' := []) mk_mdl_outWord (Or.inl T_896) T_898 S_36 (ci := 7) rfl h18 (rc_le hF (by decide)) (rc_le hL (by decide)) (ct_mdl_outWord h20) rfl rfl (by decide) d_mdl_refuse_22 rfl rfl ?_
  refine j_iload_n C d_mdl_refuse_25 rfl 2 rfl ?_
  refine j_if_ne (tgt := 34) C d_mdl_refuse_26 (by decide) rfl (fun c21 => ?_) (fun c21 => ?_)
  · rw [if_neg c21] at h
    refine rc_J.sub (lv' := []) [] rfl ?_
    exact k_mdl_refuse_34 hF hL hN C E h
  · rw [if_pos c21] at h
    refine j_aload_n C d_mdl_refuse_29 rfl 0 rfl ?_
    refine j_iconst (v := 2) C d_mdl_refuse_30 rfl (by decide) ?_
    obtain ⟨a22, h23, h⟩ := Option.bind_eq_some_iff.mp h
    obtain ⟨w24, h25, h⟩ := Option.bind_eq_some_iff.mp h
    refine j_callV C (As := [.int 2]) (st := []) (sk' := []) mk_mdl_outWord (Or.inl T_896) T_898 S_36 (ci := 7) rfl h23 (rc_le hF (by decide)) (rc_le hL (by decide)) (ct_mdl_outWord h25) rfl rfl (by decide) d_mdl_refuse_31 rfl rfl ?_
    refine rc_J.sub (lv' := []) [] rfl ?_
    exact k_mdl_refuse_34 hF hL hN C E h

set_option maxRecDepth 100000 in
set_option maxHeartbeats 4000000 in
theorem k_mdl_nextBytes_108 {X : rc_X} {w0 : rc_M} (hF : (q_R X).frames = 2) (hL : (q_R X).locals = 43) (hN : q_n X = 5) (C : rc_C X "RecordCallsModel" prog_9_method_18_code w0) {res : Int32 × rc_M} (E : rc_E0 X y_mdl_nextBytes (some .int) (some (.int res.1)) res.2) {k65 : rc_M → Nat → Int32 → Int32 → Int32 → Option (Int32 × rc_M)} (hk65 : ∀ (w : rc_M) (a0 : Nat) (x2 : Int32) (x3 : Int32) (x4 : Int32), k65 w a0 x2 x3 x4 = some res → rc_J X w 65 [] [(0, va_rf (some a0)), (2, .int x2), (3, .int x3), (4, .int x4)]) {w : rc_M} {a0 : Nat} {x2 : Int32} {x3 : Int32} {x4 : Int32} {s0 : Option Nat} {s1 : Int32} (h : b_mdl_nextBytes_108 k65 w a0 x2 x3 x4 s0 s1 = some res) : rc_J X w 108 [.int s1, va_rf s0] [(0, va_rf (some a0)), (2, .int x2), (3, .int x3), (4, .int x4)] := by
  unfold b_mdl_nextBytes_108 at h
  obtain ⟨w1, h2, h⟩ := Option.bind_eq_some_iff.mp h
  obtain ⟨h2z, h2⟩ := rc_pZ_spec h2
  refine j_putV C (ci := 7) (k := 28) (by decide) (by decide) T_747 (Or.inl rfl) (rc_nz h2z) (rc_fz h2z) h2 d_mdl_nextBytes_108 rfl ?_
  refine j_iinc C d_mdl_nextBytes_111 rfl 3 [(4, .int (x4 + 1)), (0, va_rf (some a0)), (2, .int x2), (3, .int x3)] rfl rfl (rc_lt hN (by decide)) (by first | rfl | simp [va_rf_cat, rc_cat_i, rc_cat_l]) ?_
  refine j_goto (tgt := 65) C d_mdl_nextBytes_114 (by decide) ?_
  refine rc_J.sub (lv' := [(0, va_rf (some a0)), (2, .int x2), (3, .int x3), (4, .int (x4 + 1))]) [1, 2, 3, 0] rfl ?_
  exact hk65 _ _ _ _ _ h

set_option maxRecDepth 100000 in
set_option maxHeartbeats 4000000 in
theorem k_mdl_nextBytes_151 {X : rc_X} {w0 : rc_M} (hF : (q_R X).frames = 2) (hL : (q_R X).locals = 43) (hN : q_n X = 5) (C : rc_C X "RecordCallsModel" prog_9_method_18_code w0) {res : Int32 × rc_M} (E : rc_E0 X y_mdl_nextBytes (some .int) (some (.int res.1)) res.2) {w : rc_M} {x2 : Int32} {s0 : Option Nat} {s1 : Int32} (h : b_mdl_nextBytes_151 w x2 s0 s1 = some res) : rc_J X w 151 [.int s1, va_rf s0] [(2, .int x2)] := by
  unfold b_mdl_nextBytes_151 at h
  obtain ⟨w1, h2, h⟩ := Option.bind_eq_some_iff.mp h
  refine j_putV C (ci := 7) (k := 27) (by decide) (by decide) T_746 (Or.inl rfl) rfl rfl h2 d_mdl_nextBytes_151 rfl ?_
  refine j_iload_n C d_mdl_nextBytes_154 rfl 0 rfl ?_
  cases h
  exact j_iret C E d_mdl_nextBytes_155

set_option maxRecDepth 100000 in
set_option maxHeartbeats 4000000 in
theorem k_mdl_nextBytes_117 {X : rc_X} {w0 : rc_M} (hF : (q_R X).frames = 2) (hL : (q_R X).locals = 43) (hN : q_n X = 5) (C : rc_C X "RecordCallsModel" prog_9_method_18_code w0) {res : Int32 × rc_M} (E : rc_E0 X y_mdl_nextBytes (some .int) (some (.int res.1)) res.2) {w : rc_M} {a0 : Nat} {x2 : Int32} {x3 : Int32} (h : b_mdl_nextBytes_117 w a0 x2 x3 = some res) : rc_J X w 117 [] [(0, va_rf (some a0)), (2, .int x2), (3, .int x3)] := by
  unfold b_mdl_nextBytes_117 at h
  refine j_aload_n C d_mdl_nextBytes_117 rfl 0 rfl ?_
  refine j_aload_n C d_mdl_nextBytes_118 rfl 0 rfl ?_
  obtain ⟨v1, h2, h⟩ := Option.bind_eq_some_iff.mp h
  refine j_getI C fl_mdl_116 h2 d_mdl_nextBytes_119 rfl ?_
  obtain ⟨w3, h4, h⟩ := Option.bind_eq_some_iff.mp h
  refine j_putV C (ci := 7) (k := 29) (by decide) (by decide) T_748 (Or.inl rfl) rfl rfl h4 d_mdl_nextBytes_122 rfl ?_
  refine j_aload_n C d_mdl_nextBytes_125 rfl 0 rfl ?_
  refine j_iload_n C d_mdl_nextBytes_126 rfl 1 rfl ?_
  obtain ⟨w5, h6, h⟩ := Option.bind_eq_some_iff.mp h
  refine j_putV C (ci := 7) (k := 30) (by decide) (by decide) T_749 (Or.inl rfl) rfl rfl h6 d_mdl_nextBytes_127 rfl ?_
  refine j_aload_n C d_mdl_nextBytes_130 rfl 0 rfl ?_
  refine j_aload_n C d_mdl_nextBytes_131 rfl 0 rfl ?_
  obtain ⟨v7, h8, h⟩ := Option.bind_eq_some_iff.mp h
  refine j_getI C fl_mdl_119 h8 d_mdl_nextBytes_132 rfl ?_
  refine j_if_eq (tgt := 147) C d_mdl_nextBytes_135 (by decide) rfl (fun c9 => ?_) (fun c9 => ?_)
  · rw [if_pos c9] at h
    refine j_aload_n C d_mdl_nextBytes_147 rfl 0 rfl ?_
    obtain ⟨v10, h11, h⟩ := Option.bind_eq_some_iff.mp h
    refine j_getI C fl_mdl_116 h11 d_mdl_nextBytes_148 rfl ?_
    refine rc_J.sub (lv' := [(2, .int x2)]) [1] rfl ?_
    exact k_mdl_nextBytes_151 hF hL hN C E h
  · rw [if_neg c9] at h
    refine j_aload_n C d_mdl_nextBytes_138 rfl 0 rfl ?_
    obtain ⟨v12, h13, h⟩ := Option.bind_eq_some_iff.mp h
    refine j_getI C fl_mdl_116 h13 d_mdl_nextBytes_139 rfl ?_
    refine j_iload_n C d_mdl_nextBytes_142 rfl 2 rfl ?_
    refine j_iadd C d_mdl_nextBytes_143 rfl ?_
    refine j_goto (tgt := 151) C d_mdl_nextBytes_144 (by decide) ?_
    refine rc_J.sub (lv' := [(2, .int x2)]) [1] rfl ?_
    exact k_mdl_nextBytes_151 hF hL hN C E h

set_option maxRecDepth 100000 in
set_option maxHeartbeats 4000000 in
theorem k_mdl_nextBytes_65 {X : rc_X} {w0 : rc_M} (hF : (q_R X).frames = 2) (hL : (q_R X).locals = 43) (hN : q_n X = 5) (C : rc_C X "RecordCallsModel" prog_9_method_18_code w0) {res : Int32 × rc_M} (E : rc_E0 X y_mdl_nextBytes (some .int) (some (.int res.1)) res.2) : ∀ (fuel : Nat) (w : rc_M) (a0 : Nat) (x2 : Int32) (x3 : Int32) (x4 : Int32), b_mdl_nextBytes_65 fuel w a0 x2 x3 x4 = some res → rc_J X w 65 [] [(0, va_rf (some a0)), (2, .int x2), (3, .int x3), (4, .int x4)] := by
  intro fuel
  induction fuel with
  | zero => intro w a0 x2 x3 x4 h; simp [b_mdl_nextBytes_65] at h
  | succ fuel ih =>
    intro w a0 x2 x3 x4 h
    unfold b_mdl_nextBytes_65 at h
    refine j_aload_n C d_mdl_nextBytes_65 rfl 0 rfl ?_
    obtain ⟨v1, h2, h⟩ := Option.bind_eq_some_iff.mp h
    refine j_getI C fl_mdl_119 h2 d_mdl_nextBytes_66 rfl ?_
    refine j_if_eq (tgt := 117) C d_mdl_nextBytes_69 (by decide) rfl (fun c3 => ?_) (fun c3 => ?_)
    · rw [if_pos c3] at h
      refine rc_J.sub (lv' := [(0, va_rf (some a0)), (2, .int x2), (3, .int x3)]) [0, 1, 2] rfl ?_
      exact k_mdl_nextBytes_117 hF hL hN C E h
    · rw [if_neg c3] at h
      refine j_iload C d_mdl_nextBytes_72 rfl 3 rfl ?_
      refine j_iload_n C d_mdl_nextBytes_74 rfl 2 rfl ?_
      refine j_icmp_ge (tgt := 117) C d_mdl_nextBytes_75 (by decide) rfl (fun c4 => ?_) (fun c4 => ?_)
      · rw [if_pos c4] at h
        refine rc_J.sub (lv' := [(0, va_rf (some a0)), (2, .int x2), (3, .int x3)]) [0, 1, 2] rfl ?_
        exact k_mdl_nextBytes_117 hF hL hN C E h
      · rw [if_neg c4] at h
        refine j_aload_n C d_mdl_nextBytes_78 rfl 0 rfl ?_
        refine j_aload_n C d_mdl_nextBytes_79 rfl 0 rfl ?_
        obtain ⟨v5, h6, h⟩ := Option.bind_eq_some_iff.mp h
        refine j_getR C fl_mdl_34 h6 d_mdl_nextBytes_80 rfl ?_
        refine j_sipush (v := 1200) C d_mdl_nextBytes_83 rfl (by decide) ?_
        refine j_aload_n C d_mdl_nextBytes_86 rfl 0 rfl ?_
        obtain ⟨v7, h8, h⟩ := Option.bind_eq_some_iff.mp h
        refine j_getI C fl_mdl_109 h8 d_mdl_nextBytes_87 rfl ?_
        refine j_imul C d_mdl_nextBytes_90 rfl ?_
        refine j_aload_n C d_mdl_nextBytes_91 rfl 0 rfl ?_
        obtain ⟨v9, h10, h⟩ := Option.bind_eq_some_iff.mp h
        refine j_getI C fl_mdl_116 h10 d_mdl_nextBytes_92 rfl ?_
        refine j_iadd C d_mdl_nextBytes_95 rfl ?_
        refine j_iload C d_mdl_nextBytes_96 rfl 3 rfl ?_
        refine j_iadd C d_mdl_nextBytes_98 rfl ?_
        obtain ⟨v11, h12, h⟩ := Option.bind_eq_some_iff.mp h
        refine j_bald C h12 d_mdl_nextBytes_99 rfl ?_
        refine j_if_ne (tgt := 107) C d_mdl_nextBytes_100 (by decide) rfl (fun c13 => ?_) (fun c13 => ?_)
        · rw [if_neg c13] at h
          refine j_iconst (v := 0) C d_mdl_nextBytes_107 rfl (by decide) ?_
          exact k_mdl_nextBytes_108 hF hL hN C E (fun w z0 z1 z2 z3 h => ih w z0 z1 z2 z3 h) h
        · rw [if_pos c13] at h
          refine j_iconst (v := 1) C d_mdl_nextBytes_103 rfl (by decide) ?_
          refine j_goto (tgt := 108) C d_mdl_nextBytes_104 (by decide) ?_
          exact k_mdl_nextBytes_108 hF hL hN C E (fun w z0 z1 z2 z3 h => ih w z0 z1 z2 z3 h) h

set_option maxRecDepth 100000 in
set_option maxHeartbeats 4000000 in
theorem k_mdl_nextBytes_59 {X : rc_X} {w0 : rc_M} (hF : (q_R X).frames = 2) (hL : (q_R X).locals = 43) (hN : q_n X = 5) (C : rc_C X "RecordCallsModel" prog_9_method_18_code w0) {res : Int32 × rc_M} (E : rc_E0 X y_mdl_nextBytes (some .int) (some (.int res.1)) res.2) {w : rc_M} {a0 : Nat} {x2 : Int32} {x3 : Int32} {s0 : Option Nat} {s1 : Int32} (h : b_mdl_nextBytes_59 w a0 x2 x3 s0 s1 = some res) : rc_J X w 59 [.int s1, va_rf s0] [(0, va_rf (some a0)), (2, .int x2), (3, .int x3)] := by
  unfold b_mdl_nextBytes_59 at h
  obtain ⟨w1, h2, h⟩ := Option.bind_eq_some_iff.mp h
  obtain ⟨h2z, h2⟩ := rc_pZ_spec h2
  refine j_putV C (ci := 7) (k := 28) (by decide) (by decide) T_747 (Or.inl rfl) (rc_nz h2z) (rc_fz h2z) h2 d_mdl_nextBytes_59 rfl ?_
  refine j_iload_n C d_mdl_nextBytes_62 rfl 1 rfl ?_
  refine j_istore C (i := 4) d_mdl_nextBytes_63 rfl [(4, .int x2), (0, va_rf (some a0)), (2, .int x2), (3, .int x3)] (rc_lt hN (by decide)) (by first | rfl | simp [va_rf_cat, rc_cat_i, rc_cat_l]) ?_
  refine rc_J.sub (lv' := [(0, va_rf (some a0)), (2, .int x2), (3, .int x3), (4, .int x2)]) [1, 2, 3, 0] rfl ?_
  exact k_mdl_nextBytes_65 hF hL hN C E _ _ _ _ _ _ h

set_option maxRecDepth 100000 in
set_option maxHeartbeats 4000000 in
theorem k_mdl_nextBytes_58 {X : rc_X} {w0 : rc_M} (hF : (q_R X).frames = 2) (hL : (q_R X).locals = 43) (hN : q_n X = 5) (C : rc_C X "RecordCallsModel" prog_9_method_18_code w0) {res : Int32 × rc_M} (E : rc_E0 X y_mdl_nextBytes (some .int) (some (.int res.1)) res.2) {w : rc_M} {a0 : Nat} {x2 : Int32} {x3 : Int32} {s0 : Option Nat} (h : b_mdl_nextBytes_58 w a0 x2 x3 s0 = some res) : rc_J X w 58 [va_rf s0] [(0, va_rf (some a0)), (2, .int x2), (3, .int x3)] := by
  unfold b_mdl_nextBytes_58 at h
  refine j_iconst (v := 0) C d_mdl_nextBytes_58 rfl (by decide) ?_
  exact k_mdl_nextBytes_59 hF hL hN C E h

set_option maxRecDepth 100000 in
set_option maxHeartbeats 4000000 in
theorem k_mdl_nextBytes_27 {X : rc_X} {w0 : rc_M} (hF : (q_R X).frames = 2) (hL : (q_R X).locals = 43) (hN : q_n X = 5) (C : rc_C X "RecordCallsModel" prog_9_method_18_code w0) {res : Int32 × rc_M} (E : rc_E0 X y_mdl_nextBytes (some .int) (some (.int res.1)) res.2) {w : rc_M} {a0 : Nat} {x2 : Int32} {s0 : Option Nat} {s1 : Int32} (h : b_mdl_nextBytes_27 w a0 x2 s0 s1 = some res) : rc_J X w 27 [.int s1, va_rf s0] [(0, va_rf (some a0)), (2, .int x2)] := by
  unfold b_mdl_nextBytes_27 at h
  obtain ⟨w1, h2, h⟩ := Option.bind_eq_some_iff.mp h
  obtain ⟨h2z, h2⟩ := rc_pZ_spec h2
  refine j_putV C (ci := 7) (k := 28) (by decide) (by decide) T_747 (Or.inl rfl) (rc_nz h2z) (rc_fz h2z) h2 d_mdl_nextBytes_27 rfl ?_
  refine j_iload_n C d_mdl_nextBytes_30 rfl 1 rfl ?_
  refine j_iconst (v := 3) C d_mdl_nextBytes_31 rfl (by decide) ?_
  refine j_iadd C d_mdl_nextBytes_32 rfl ?_
  refine j_iconst (v := 4) C d_mdl_nextBytes_33 rfl (by decide) ?_
  refine j_idiv C d_mdl_nextBytes_34 rfl (by decide) ?_
  refine j_iconst (v := 4) C d_mdl_nextBytes_35 rfl (by decide) ?_
  refine j_imul C d_mdl_nextBytes_36 rfl ?_
  refine j_istore_n C (i := 3) d_mdl_nextBytes_37 rfl rfl [(3, .int (((x2 + 3) / 4) * 4)), (0, va_rf (some a0)), (2, .int x2)] (rc_lt hN (by decide)) (by first | rfl | simp [va_rf_cat, rc_cat_i, rc_cat_l]) ?_
  refine j_aload_n C d_mdl_nextBytes_38 rfl 1 rfl ?_
  refine j_aload_n C d_mdl_nextBytes_39 rfl 1 rfl ?_
  obtain ⟨v4, h5, h⟩ := Option.bind_eq_some_iff.mp h
  refine j_getI C fl_mdl_119 h5 d_mdl_nextBytes_40 rfl ?_
  refine j_if_eq (tgt := 58) C d_mdl_nextBytes_43 (by decide) rfl (fun c6 => ?_) (fun c6 => ?_)
  · rw [if_pos c6] at h
    refine rc_J.sub (lv' := [(0, va_rf (some a0)), (2, .int x2), (3, .int (((x2 + 3) / 4) * 4))]) [1, 2, 0] rfl ?_
    exact k_mdl_nextBytes_58 hF hL hN C E h
  · rw [if_neg c6] at h
    refine j_aload_n C d_mdl_nextBytes_46 rfl 1 rfl ?_
    refine j_iload_n C d_mdl_nextBytes_47 rfl 0 rfl ?_
    obtain ⟨a7, h8, h⟩ := Option.bind_eq_some_iff.mp h
    obtain ⟨p9, h10, h⟩ := Option.bind_eq_some_iff.mp h
    refine j_callV C (As := [.int (((x2 + 3) / 4) * 4)]) (st := [va_rf (some a0)]) (sk' := [.int p9.1, va_rf (some a0)]) mk_mdl_hasBytes (Or.inl T_888) T_890 S_34 (ci := 7) rfl h8 (rc_le hF (by decide)) (rc_le hL (by decide)) (ct_mdl_hasBytes h10) rfl rfl (by simp [va_rf_cat, rc_cat_i, rc_cat_l]) d_mdl_nextBytes_48 rfl rfl ?_
    refine j_if_eq (tgt := 58) C d_mdl_nextBytes_51 (by decide) rfl (fun c11 => ?_) (fun c11 => ?_)
    · rw [if_pos c11] at h
      refine rc_J.sub (lv' := [(0, va_rf (some a0)), (2, .int x2), (3, .int (((x2 + 3) / 4) * 4))]) [1, 2, 0] rfl ?_
      exact k_mdl_nextBytes_58 hF hL hN C E h
    · rw [if_neg c11] at h
      refine j_iconst (v := 1) C d_mdl_nextBytes_54 rfl (by decide) ?_
      refine j_goto (tgt := 59) C d_mdl_nextBytes_55 (by decide) ?_
      refine rc_J.sub (lv' := [(0, va_rf (some a0)), (2, .int x2), (3, .int (((x2 + 3) / 4) * 4))]) [1, 2, 0] rfl ?_
      exact k_mdl_nextBytes_59 hF hL hN C E h

set_option maxRecDepth 100000 in
set_option maxHeartbeats 4000000 in
theorem k_mdl_nextBytes_26 {X : rc_X} {w0 : rc_M} (hF : (q_R X).frames = 2) (hL : (q_R X).locals = 43) (hN : q_n X = 5) (C : rc_C X "RecordCallsModel" prog_9_method_18_code w0) {res : Int32 × rc_M} (E : rc_E0 X y_mdl_nextBytes (some .int) (some (.int res.1)) res.2) {w : rc_M} {a0 : Nat} {x2 : Int32} {s0 : Option Nat} (h : b_mdl_nextBytes_26 w a0 x2 s0 = some res) : rc_J X w 26 [va_rf s0] [(0, va_rf (some a0)), (2, .int x2)] := by
  unfold b_mdl_nextBytes_26 at h
  refine j_iconst (v := 0) C d_mdl_nextBytes_26 rfl (by decide) ?_
  exact k_mdl_nextBytes_27 hF hL hN C E h

set_option maxRecDepth 100000 in
set_option maxHeartbeats 4000000 in
theorem ct_mdl_nextBytes {l : Launch} {G : rc_G} {w : rc_M} {a0 : Nat} {x1 : Int32} {res : Int32 × rc_M} (h : f_mdl_nextBytes w a0 x1 = some res) : rc_Ct l G y_mdl_nextBytes prog_9_method_18_code 5 (some .int) 2 43 [va_rf (some a0), .int x1] w (some (.int res.1)) res.2 := by
  refine rc_enter (by decide +kernel) (by simp [lg_sl, va_rf_cat, rc_cat_i, rc_cat_l]) ?_
  intro X _ _ hN hF hL C E
  have hlv : lv_args 0 [va_rf (some a0), .int x1] = [(0, va_rf (some a0)), (1, .int x1)] := by simp [lv_args, va_rf_cat, rc_cat_i, rc_cat_l]
  rw [hlv]
  clear hlv
  unfold f_mdl_nextBytes at h
  refine j_aload_n C d_mdl_nextBytes_0 rfl 0 rfl ?_
  obtain ⟨a1, h2, h⟩ := Option.bind_eq_some_iff.mp h
  obtain ⟨p3, h4, h⟩ := Option.bind_eq_some_iff.mp h
  refine j_callV C (As := []) (st := []) (sk' := [.int p3.1]) mk_mdl_nextWord (Or.inl T_884) T_886 S_33 (ci := 7) rfl h2 (rc_le hF (by decide)) (rc_le hL (by decide)) (ct_mdl_nextWord h4) rfl rfl (by decide) d_mdl_nextBytes_1 rfl rfl ?_
  refine j_istore_n C (i := 2) d_mdl_nextBytes_4 rfl rfl [(2, .int p3.1), (0, va_rf (some a0)), (1, .int x1)] (rc_lt hN (by decide)) (by first | rfl | simp [va_rf_cat, rc_cat_i, rc_cat_l]) ?_
  refine j_aload_n C d_mdl_nextBytes_5 rfl 1 rfl ?_
  refine j_aload_n C d_mdl_nextBytes_6 rfl 1 rfl ?_
  obtain ⟨v5, h6, h⟩ := Option.bind_eq_some_iff.mp h
  refine j_getI C fl_mdl_119 h6 d_mdl_nextBytes_7 rfl ?_
  refine j_if_eq (tgt := 26) C d_mdl_nextBytes_10 (by decide) rfl (fun c7 => ?_) (fun c7 => ?_)
  · rw [if_pos c7] at h
    refine rc_J.sub (lv' := [(0, va_rf (some a0)), (2, .int p3.1)]) [1, 0] rfl ?_
    exact k_mdl_nextBytes_26 hF hL hN C E h
  · rw [if_neg c7] at h
    refine j_iload_n C d_mdl_nextBytes_13 rfl 0 rfl ?_
    refine j_if_lt (tgt := 26) C d_mdl_nextBytes_14 (by decide) rfl (fun c8 => ?_) (fun c8 => ?_)
    · rw [if_pos c8] at h
      refine rc_J.sub (lv' := [(0, va_rf (some a0)), (2, .int p3.1)]) [1, 0] rfl ?_
      exact k_mdl_nextBytes_26 hF hL hN C E h
    · rw [if_neg c8] at h
      refine j_iload_n C d_mdl_nextBytes_17 rfl 0 rfl ?_
      refine j_iload_n C d_mdl_nextBytes_18 rfl 2 rfl ?_
      refine j_icmp_gt (tgt := 26) C d_mdl_nextBytes_19 (by decide) rfl (fun c9 => ?_) (fun c9 => ?_)
      · rw [if_pos c9] at h
        refine rc_J.sub (lv' := [(0, va_rf (some a0)), (2, .int p3.1)]) [1, 0] rfl ?_
        exact k_mdl_nextBytes_26 hF hL hN C E h
      · rw [if_neg c9] at h
        refine j_iconst (v := 1) C d_mdl_nextBytes_22 rfl (by decide) ?_
        refine j_goto (tgt := 27) C d_mdl_nextBytes_23 (by decide) ?_
        refine rc_J.sub (lv' := [(0, va_rf (some a0)), (2, .int p3.1)]) [1, 0] rfl ?_
        exact k_mdl_nextBytes_27 hF hL hN C E h

set_option maxRecDepth 100000 in
set_option maxHeartbeats 4000000 in
theorem k_mdl_accept_45 {X : rc_X} {w0 : rc_M} (hF : (q_R X).frames = 1) (hL : (q_R X).locals = 22) (hN : q_n X = 3) (C : rc_C X "RecordCallsModel" prog_9_method_25_code w0) {res : Int32 × rc_M} (E : rc_E0 X y_mdl_accept (some .boolean) (some (.int res.1)) res.2) {w : rc_M}  (h : b_mdl_accept_45 w  = some res) : rc_J X w 45 [] [] := by
  unfold b_mdl_accept_45 at h
  refine j_iconst (v := 1) C d_mdl_accept_45 rfl (by decide) ?_
  obtain ⟨hz, rfl⟩ := rc_z1_spec h
  exact j_zret C hz E d_mdl_accept_46

set_option maxRecDepth 100000 in
set_option maxHeartbeats 4000000 in
theorem ct_mdl_accept {l : Launch} {G : rc_G} {w : rc_M} {a0 : Nat} {x1 : Int32} {x2 : Int32} {res : Int32 × rc_M} (h : f_mdl_accept w a0 x1 x2 = some res) : rc_Ct l G y_mdl_accept prog_9_method_25_code 3 (some .boolean) 1 22 [va_rf (some a0), .int x1, .int x2] w (some (.int res.1)) res.2 := by
  refine rc_enter (by decide +kernel) (by simp [lg_sl, va_rf_cat, rc_cat_i, rc_cat_l]) ?_
  intro X _ _ hN hF hL C E
  have hlv : lv_args 0 [va_rf (some a0), .int x1, .int x2] = [(0, va_rf (some a0)), (1, .int x1), (2, .int x2)] := by simp [lv_args, va_rf_cat, rc_cat_i, rc_cat_l]
  rw [hlv]
  clear hlv
  unfold f_mdl_accept at h
  refine j_aload_n C d_mdl_accept_0 rfl 0 rfl ?_
  refine j_iload_n C d_mdl_accept_1 rfl 1 rfl ?_
  obtain ⟨a1, h2, h⟩ := Option.bind_eq_some_iff.mp h
  obtain ⟨w3, h4, h⟩ := Option.bind_eq_some_iff.mp h
  refine j_callV C (As := [.int x1]) (st := []) (sk' := []) mk_mdl_outWord (Or.inl T_896) T_898 S_36 (ci := 7) rfl h2 (rc_le hF (by decide)) (rc_le hL (by decide)) (ct_mdl_outWord h4) rfl rfl (by decide) d_mdl_accept_2 rfl rfl ?_
  refine j_aload_n C d_mdl_accept_5 rfl 0 rfl ?_
  refine j_iconst (v := 1) C d_mdl_accept_6 rfl (by decide) ?_
  obtain ⟨a5, h6, h⟩ := Option.bind_eq_some_iff.mp h
  obtain ⟨w7, h8, h⟩ := Option.bind_eq_some_iff.mp h
  refine j_callV C (As := [.int 1]) (st := []) (sk' := []) mk_mdl_outWord (Or.inl T_896) T_898 S_36 (ci := 7) rfl h6 (rc_le hF (by decide)) (rc_le hL (by decide)) (ct_mdl_outWord h8) rfl rfl (by decide) d_mdl_accept_7 rfl rfl ?_
  refine j_aload_n C d_mdl_accept_10 rfl 0 rfl ?_
  refine j_iconst (v := 0) C d_mdl_accept_11 rfl (by decide) ?_
  obtain ⟨a9, h10, h⟩ := Option.bind_eq_some_iff.mp h
  obtain ⟨w11, h12, h⟩ := Option.bind_eq_some_iff.mp h
  refine j_callV C (As := [.int 0]) (st := []) (sk' := []) mk_mdl_outWord (Or.inl T_896) T_898 S_36 (ci := 7) rfl h10 (rc_le hF (by decide)) (rc_le hL (by decide)) (ct_mdl_outWord h12) rfl rfl (by decide) d_mdl_accept_12 rfl rfl ?_
  refine j_aload_n C d_mdl_accept_15 rfl 0 rfl ?_
  refine j_iconst (v := 0) C d_mdl_accept_16 rfl (by decide) ?_
  obtain ⟨a13, h14, h⟩ := Option.bind_eq_some_iff.mp h
  obtain ⟨w15, h16, h⟩ := Option.bind_eq_some_iff.mp h
  refine j_callV C (As := [.int 0]) (st := []) (sk' := []) mk_mdl_outWord (Or.inl T_896) T_898 S_36 (ci := 7) rfl h14 (rc_le hF (by decide)) (rc_le hL (by decide)) (ct_mdl_outWord h16) rfl rfl (by decide) d_mdl_accept_17 rfl rfl ?_
  refine j_aload_n C d_mdl_accept_20 rfl 0 rfl ?_
  refine j_iconst (v := 0) C d_mdl_accept_21 rfl (by decide) ?_
  obtain ⟨a17, h18, h⟩ := Option.bind_eq_some_iff.mp h
  obtain ⟨w19, h20, h⟩ := Option.bind_eq_some_iff.mp h
  refine j_callV C (As := [.int 0]) (st := []) (sk' := []) mk_mdl_outWord (Or.inl T_896) T_898 S_36 (ci := 7) rfl h18 (rc_le hF (by decide)) (rc_le hL (by decide)) (ct_mdl_outWord h20) rfl rfl (by decide) d_mdl_accept_22 rfl rfl ?_
  refine j_aload_n C d_mdl_accept_25 rfl 0 rfl ?_
  refine j_iload_n C d_mdl_accept_26 rfl 2 rfl ?_
  obtain ⟨a21, h22, h⟩ := Option.bind_eq_some_iff.mp h
  obtain ⟨w23, h24, h⟩ := Option.bind_eq_some_iff.mp h
  refine j_callV C (As := [.int x2]) (st := []) (sk' := []) mk_mdl_outWord (Or.inl T_896) T_898 S_36 (ci := 7) rfl h22 (rc_le hF (by decide)) (rc_le hL (by decide)) (ct_mdl_outWord h24) rfl rfl (by decide) d_mdl_accept_27 rfl rfl ?_
  refine j_iload_n C d_mdl_accept_30 rfl 2 rfl ?_
  refine j_iconst (v := 2) C d_mdl_accept_31 rfl (by decide) ?_
  refine j_icmp_ne (tgt := 45) C d_mdl_accept_32 (by decide) rfl (fun c25 => ?_) (fun c25 => ?_)
  · rw [if_neg c25] at h
    refine rc_J.sub (lv' := []) [] rfl ?_
    exact k_mdl_accept_45 hF hL hN C E h
  · rw [if_pos c25] at h
    refine j_aload_n C d_mdl_accept_35 rfl 0 rfl ?_
    refine j_iconst (v := 1) C d_mdl_accept_36 rfl (by decide) ?_
    obtain ⟨a26, h27, h⟩ := Option.bind_eq_some_iff.mp h
    obtain ⟨w28, h29, h⟩ := Option.bind_eq_some_iff.mp h
    refine j_callV C (As := [.int 1]) (st := []) (sk' := []) mk_mdl_outWord (Or.inl T_896) T_898 S_36 (ci := 7) rfl h27 (rc_le hF (by decide)) (rc_le hL (by decide)) (ct_mdl_outWord h29) rfl rfl (by decide) d_mdl_accept_37 rfl rfl ?_
    refine j_aload_n C d_mdl_accept_40 rfl 0 rfl ?_
    refine j_iconst (v := 2) C d_mdl_accept_41 rfl (by decide) ?_
    obtain ⟨a30, h31, h⟩ := Option.bind_eq_some_iff.mp h
    obtain ⟨w32, h33, h⟩ := Option.bind_eq_some_iff.mp h
    refine j_callV C (As := [.int 2]) (st := []) (sk' := []) mk_mdl_outWord (Or.inl T_896) T_898 S_36 (ci := 7) rfl h31 (rc_le hF (by decide)) (rc_le hL (by decide)) (ct_mdl_outWord h33) rfl rfl (by decide) d_mdl_accept_42 rfl rfl ?_
    refine rc_J.sub (lv' := []) [] rfl ?_
    exact k_mdl_accept_45 hF hL hN C E h

set_option maxRecDepth 100000 in
set_option maxHeartbeats 4000000 in
theorem ct_mdl_nextLong {l : Launch} {G : rc_G} {w : rc_M} {a0 : Nat} {res : Int64 × rc_M} (h : f_mdl_nextLong w a0 = some res) : rc_Ct l G y_mdl_nextLong prog_9_method_17_code 5 (some .long) 2 43 [va_rf (some a0)] w (some (.long res.1)) res.2 := by
  refine rc_enter (by decide +kernel) (by simp [lg_sl, va_rf_cat, rc_cat_i, rc_cat_l]) ?_
  intro X _ _ hN hF hL C E
  have hlv : lv_args 0 [va_rf (some a0)] = [(0, va_rf (some a0))] := by simp [lv_args, va_rf_cat, rc_cat_i, rc_cat_l]
  rw [hlv]
  clear hlv
  unfold f_mdl_nextLong at h
  refine j_aload_n C d_mdl_nextLong_0 rfl 0 rfl ?_
  obtain ⟨a1, h2, h⟩ := Option.bind_eq_some_iff.mp h
  obtain ⟨p3, h4, h⟩ := Option.bind_eq_some_iff.mp h
  refine j_callV C (As := []) (st := []) (sk' := [.int p3.1]) mk_mdl_nextWord (Or.inl T_884) T_886 S_33 (ci := 7) rfl h2 (rc_le hF (by decide)) (rc_le hL (by decide)) (ct_mdl_nextWord h4) rfl rfl (by decide) d_mdl_nextLong_1 rfl rfl ?_
  refine j_i2l C d_mdl_nextLong_4 rfl ?_
  refine j_lstore_n C (i := 1) d_mdl_nextLong_5 rfl rfl [(1, .long p3.1.toInt64), (0, va_rf (some a0))] (rc_lt hN (by decide)) (by first | rfl | simp [va_rf_cat, rc_cat_i, rc_cat_l]) ?_
  refine j_aload_n C d_mdl_nextLong_6 rfl 1 rfl ?_
  obtain ⟨a5, h6, h⟩ := Option.bind_eq_some_iff.mp h
  obtain ⟨p7, h8, h⟩ := Option.bind_eq_some_iff.mp h
  refine j_callV C (As := []) (st := []) (sk' := [.int p7.1]) mk_mdl_nextWord (Or.inl T_884) T_886 S_33 (ci := 7) rfl h6 (rc_le hF (by decide)) (rc_le hL (by decide)) (ct_mdl_nextWord h8) rfl rfl (by decide) d_mdl_nextLong_7 rfl rfl ?_
  refine j_i2l C d_mdl_nextLong_10 rfl ?_
  refine j_lstore_n C (i := 3) d_mdl_nextLong_11 rfl rfl [(3, .long p7.1.toInt64), (1, .long p3.1.toInt64), (0, va_rf (some a0))] (rc_lt hN (by decide)) (by first | rfl | simp [va_rf_cat, rc_cat_i, rc_cat_l]) ?_
  refine j_lload_n C d_mdl_nextLong_12 rfl 1 rfl ?_
  refine j_bipush (v := 32) C d_mdl_nextLong_13 rfl (by decide) ?_
  refine j_lshl C d_mdl_nextLong_15 rfl ?_
  refine j_lload_n C d_mdl_nextLong_16 rfl 0 rfl ?_
  refine j_ldc2 C d_mdl_nextLong_17 rfl T_916 ?_
  refine j_land C d_mdl_nextLong_20 rfl ?_
  refine j_lor C d_mdl_nextLong_21 rfl ?_
  cases h
  exact j_lret C E d_mdl_nextLong_22

set_option maxRecDepth 100000 in
set_option maxHeartbeats 4000000 in
theorem k_mdl_takes_157 {X : rc_X} {w0 : rc_M} (hF : (q_R X).frames = 3) (hL : (q_R X).locals = 67) (hN : q_n X = 4) (C : rc_C X "RecordCallsModel" prog_9_method_27_code w0) {res : Int32 × rc_M} (E : rc_E0 X y_mdl_takes (some .boolean) (some (.int res.1)) res.2) {w : rc_M} {s0 : Int32} (h : b_mdl_takes_157 w s0 = some res) : rc_J X w 157 [.int s0] [] := by
  unfold b_mdl_takes_157 at h
  obtain ⟨hz, rfl⟩ := rc_z1_spec h
  exact j_zret C hz E d_mdl_takes_157

set_option maxRecDepth 100000 in
set_option maxHeartbeats 4000000 in
theorem k_mdl_takes_156 {X : rc_X} {w0 : rc_M} (hF : (q_R X).frames = 3) (hL : (q_R X).locals = 67) (hN : q_n X = 4) (C : rc_C X "RecordCallsModel" prog_9_method_27_code w0) {res : Int32 × rc_M} (E : rc_E0 X y_mdl_takes (some .boolean) (some (.int res.1)) res.2) {w : rc_M}  (h : b_mdl_takes_156 w  = some res) : rc_J X w 156 [] [] := by
  unfold b_mdl_takes_156 at h
  refine j_iconst (v := 0) C d_mdl_takes_156 rfl (by decide) ?_
  exact k_mdl_takes_157 hF hL hN C E h

set_option maxRecDepth 100000 in
set_option maxHeartbeats 4000000 in
theorem k_mdl_takes_129 {X : rc_X} {w0 : rc_M} (hF : (q_R X).frames = 3) (hL : (q_R X).locals = 67) (hN : q_n X = 4) (C : rc_C X "RecordCallsModel" prog_9_method_27_code w0) {res : Int32 × rc_M} (E : rc_E0 X y_mdl_takes (some .boolean) (some (.int res.1)) res.2) {w : rc_M} {a0 : Nat} (h : b_mdl_takes_129 w a0 = some res) : rc_J X w 129 [] [(0, va_rf (some a0))] := by
  unfold b_mdl_takes_129 at h
  refine j_aload_n C d_mdl_takes_129 rfl 0 rfl ?_
  obtain ⟨v1, h2, h⟩ := Option.bind_eq_some_iff.mp h
  refine j_getI C fl_mdl_119 h2 d_mdl_takes_130 rfl ?_
  refine j_if_eq (tgt := 156) C d_mdl_takes_133 (by decide) rfl (fun c3 => ?_) (fun c3 => ?_)
  · rw [if_pos c3] at h
    refine rc_J.sub (lv' := []) [] rfl ?_
    exact k_mdl_takes_156 hF hL hN C E h
  · rw [if_neg c3] at h
    refine j_aload_n C d_mdl_takes_136 rfl 0 rfl ?_
    obtain ⟨v4, h5, h⟩ := Option.bind_eq_some_iff.mp h
    refine j_getI C fl_mdl_116 h5 d_mdl_takes_137 rfl ?_
    refine j_aload_n C d_mdl_takes_140 rfl 0 rfl ?_
    obtain ⟨v6, h7, h⟩ := Option.bind_eq_some_iff.mp h
    refine j_getR C fl_mdl_37 h7 d_mdl_takes_141 rfl ?_
    refine j_aload_n C d_mdl_takes_144 rfl 0 rfl ?_
    obtain ⟨v8, h9, h⟩ := Option.bind_eq_some_iff.mp h
    refine j_getI C fl_mdl_109 h9 d_mdl_takes_145 rfl ?_
    obtain ⟨v10, h11, h⟩ := Option.bind_eq_some_iff.mp h
    refine j_iald C h11 d_mdl_takes_148 rfl ?_
    refine j_icmp_ne (tgt := 156) C d_mdl_takes_149 (by decide) rfl (fun c12 => ?_) (fun c12 => ?_)
    · rw [if_neg c12] at h
      refine rc_J.sub (lv' := []) [] rfl ?_
      exact k_mdl_takes_156 hF hL hN C E h
    · rw [if_pos c12] at h
      refine j_iconst (v := 1) C d_mdl_takes_152 rfl (by decide) ?_
      refine j_goto (tgt := 157) C d_mdl_takes_153 (by decide) ?_
      refine rc_J.sub (lv' := []) [] rfl ?_
      exact k_mdl_takes_157 hF hL hN C E h

set_option maxRecDepth 100000 in
set_option maxHeartbeats 4000000 in
theorem k_mdl_takes_114 {X : rc_X} {w0 : rc_M} (hF : (q_R X).frames = 3) (hL : (q_R X).locals = 67) (hN : q_n X = 4) (C : rc_C X "RecordCallsModel" prog_9_method_27_code w0) {res : Int32 × rc_M} (E : rc_E0 X y_mdl_takes (some .boolean) (some (.int res.1)) res.2) {w : rc_M} {a0 : Nat} {x1 : Int32} (h : b_mdl_takes_114 w a0 x1 = some res) : rc_J X w 114 [] [(0, va_rf (some a0)), (1, .int x1)] := by
  unfold b_mdl_takes_114 at h
  refine j_iload_n C d_mdl_takes_114 rfl 1 rfl ?_
  refine j_iconst (v := 5) C d_mdl_takes_115 rfl (by decide) ?_
  refine j_icmp_ne (tgt := 129) C d_mdl_takes_116 (by decide) rfl (fun c1 => ?_) (fun c1 => ?_)
  · rw [if_neg c1] at h
    refine rc_J.sub (lv' := [(0, va_rf (some a0))]) [0] rfl ?_
    exact k_mdl_takes_129 hF hL hN C E h
  · rw [if_pos c1] at h
    refine j_aload_n C d_mdl_takes_119 rfl 0 rfl ?_
    obtain ⟨a2, h3, h⟩ := Option.bind_eq_some_iff.mp h
    obtain ⟨p4, h5, h⟩ := Option.bind_eq_some_iff.mp h
    refine j_callV C (As := []) (st := []) (sk' := [.int p4.1]) mk_mdl_nextWord (Or.inl T_884) T_886 S_33 (ci := 7) rfl h3 (rc_le hF (by decide)) (rc_le hL (by decide)) (ct_mdl_nextWord h5) rfl rfl (by decide) d_mdl_takes_120 rfl rfl ?_
    refine j_pop C d_mdl_takes_123 rfl (by first | rfl | exact va_rf_cat _) ?_
    refine j_aload_n C d_mdl_takes_124 rfl 0 rfl ?_
    obtain ⟨a6, h7, h⟩ := Option.bind_eq_some_iff.mp h
    obtain ⟨p8, h9, h⟩ := Option.bind_eq_some_iff.mp h
    refine j_callV C (As := []) (st := []) (sk' := [.int p8.1]) mk_mdl_nextWord (Or.inl T_884) T_886 S_33 (ci := 7) rfl h7 (rc_le hF (by decide)) (rc_le hL (by decide)) (ct_mdl_nextWord h9) rfl rfl (by decide) d_mdl_takes_125 rfl rfl ?_
    refine j_pop C d_mdl_takes_128 rfl (by first | rfl | exact va_rf_cat _) ?_
    refine rc_J.sub (lv' := [(0, va_rf (some a0))]) [0] rfl ?_
    exact k_mdl_takes_129 hF hL hN C E h

set_option maxRecDepth 100000 in
set_option maxHeartbeats 4000000 in
theorem k_mdl_takes_89 {X : rc_X} {w0 : rc_M} (hF : (q_R X).frames = 3) (hL : (q_R X).locals = 67) (hN : q_n X = 4) (C : rc_C X "RecordCallsModel" prog_9_method_27_code w0) {res : Int32 × rc_M} (E : rc_E0 X y_mdl_takes (some .boolean) (some (.int res.1)) res.2) : ∀ (fuel : Nat) (w : rc_M) (a0 : Nat) (x1 : Int32) (x2 : Int32) (x3 : Int32), b_mdl_takes_89 fuel w a0 x1 x2 x3 = some res → rc_J X w 89 [] [(0, va_rf (some a0)), (1, .int x1), (2, .int x2), (3, .int x3)] := by
  intro fuel
  induction fuel with
  | zero => intro w a0 x1 x2 x3 h; simp [b_mdl_takes_89] at h
  | succ fuel ih =>
    intro w a0 x1 x2 x3 h
    unfold b_mdl_takes_89 at h
    refine j_aload_n C d_mdl_takes_89 rfl 0 rfl ?_
    obtain ⟨v1, h2, h⟩ := Option.bind_eq_some_iff.mp h
    refine j_getI C fl_mdl_119 h2 d_mdl_takes_90 rfl ?_
    refine j_if_eq (tgt := 114) C d_mdl_takes_93 (by decide) rfl (fun c3 => ?_) (fun c3 => ?_)
    · rw [if_pos c3] at h
      refine rc_J.sub (lv' := [(0, va_rf (some a0)), (1, .int x1)]) [0, 1] rfl ?_
      exact k_mdl_takes_114 hF hL hN C E h
    · rw [if_neg c3] at h
      refine j_iload_n C d_mdl_takes_96 rfl 3 rfl ?_
      refine j_iload_n C d_mdl_takes_97 rfl 2 rfl ?_
      refine j_icmp_ge (tgt := 114) C d_mdl_takes_98 (by decide) rfl (fun c4 => ?_) (fun c4 => ?_)
      · rw [if_pos c4] at h
        refine rc_J.sub (lv' := [(0, va_rf (some a0)), (1, .int x1)]) [0, 1] rfl ?_
        exact k_mdl_takes_114 hF hL hN C E h
      · rw [if_neg c4] at h
        refine j_aload_n C d_mdl_takes_101 rfl 0 rfl ?_
        refine j_bipush (v := 16) C d_mdl_takes_102 rfl (by decide) ?_
        obtain ⟨a5, h6, h⟩ := Option.bind_eq_some_iff.mp h
        obtain ⟨p7, h8, h⟩ := Option.bind_eq_some_iff.mp h
        refine j_callV C (As := [.int 16]) (st := []) (sk' := [.int p7.1]) mk_mdl_nextBytes (Or.inl T_900) T_902 S_37 (ci := 7) rfl h6 (rc_le hF (by decide)) (rc_le hL (by decide)) (ct_mdl_nextBytes h8) rfl rfl (by decide) d_mdl_takes_104 rfl rfl ?_
        refine j_pop C d_mdl_takes_107 rfl (by first | rfl | exact va_rf_cat _) ?_
        refine j_iinc C d_mdl_takes_108 rfl 3 [(3, .int (x3 + 1)), (0, va_rf (some a0)), (1, .int x1), (2, .int x2)] rfl rfl (rc_lt hN (by decide)) (by first | rfl | simp [va_rf_cat, rc_cat_i, rc_cat_l]) ?_
        refine j_goto (tgt := 89) C d_mdl_takes_111 (by decide) ?_
        refine rc_J.sub (lv' := [(0, va_rf (some a0)), (1, .int x1), (2, .int x2), (3, .int (x3 + 1))]) [1, 2, 3, 0] rfl ?_
        exact ih _ _ _ _ _ h

set_option maxRecDepth 100000 in
set_option maxHeartbeats 4000000 in
theorem k_mdl_takes_84 {X : rc_X} {w0 : rc_M} (hF : (q_R X).frames = 3) (hL : (q_R X).locals = 67) (hN : q_n X = 4) (C : rc_C X "RecordCallsModel" prog_9_method_27_code w0) {res : Int32 × rc_M} (E : rc_E0 X y_mdl_takes (some .boolean) (some (.int res.1)) res.2) {w : rc_M} {a0 : Nat} {x1 : Int32} {x2 : Int32} {s0 : Option Nat} {s1 : Int32} (h : b_mdl_takes_84 w a0 x1 x2 s0 s1 = some res) : rc_J X w 84 [.int s1, va_rf s0] [(0, va_rf (some a0)), (1, .int x1), (2, .int x2)] := by
  unfold b_mdl_takes_84 at h
  obtain ⟨w1, h2, h⟩ := Option.bind_eq_some_iff.mp h
  obtain ⟨h2z, h2⟩ := rc_pZ_spec h2
  refine j_putV C (ci := 7) (k := 28) (by decide) (by decide) T_747 (Or.inl rfl) (rc_nz h2z) (rc_fz h2z) h2 d_mdl_takes_84 rfl ?_
  refine j_iconst (v := 0) C d_mdl_takes_87 rfl (by decide) ?_
  refine j_istore_n C (i := 3) d_mdl_takes_88 rfl rfl [(3, .int 0), (0, va_rf (some a0)), (1, .int x1), (2, .int x2)] (rc_lt hN (by decide)) (by first | rfl | simp [va_rf_cat, rc_cat_i, rc_cat_l]) ?_
  refine rc_J.sub (lv' := [(0, va_rf (some a0)), (1, .int x1), (2, .int x2), (3, .int 0)]) [1, 2, 3, 0] rfl ?_
  exact k_mdl_takes_89 hF hL hN C E _ _ _ _ _ _ h

set_option maxRecDepth 100000 in
set_option maxHeartbeats 4000000 in
theorem k_mdl_takes_83 {X : rc_X} {w0 : rc_M} (hF : (q_R X).frames = 3) (hL : (q_R X).locals = 67) (hN : q_n X = 4) (C : rc_C X "RecordCallsModel" prog_9_method_27_code w0) {res : Int32 × rc_M} (E : rc_E0 X y_mdl_takes (some .boolean) (some (.int res.1)) res.2) {w : rc_M} {a0 : Nat} {x1 : Int32} {x2 : Int32} {s0 : Option Nat} (h : b_mdl_takes_83 w a0 x1 x2 s0 = some res) : rc_J X w 83 [va_rf s0] [(0, va_rf (some a0)), (1, .int x1), (2, .int x2)] := by
  unfold b_mdl_takes_83 at h
  refine j_iconst (v := 0) C d_mdl_takes_83 rfl (by decide) ?_
  exact k_mdl_takes_84 hF hL hN C E h

set_option maxRecDepth 100000 in
set_option maxHeartbeats 4000000 in
theorem k_mdl_takes_51 {X : rc_X} {w0 : rc_M} (hF : (q_R X).frames = 3) (hL : (q_R X).locals = 67) (hN : q_n X = 4) (C : rc_C X "RecordCallsModel" prog_9_method_27_code w0) {res : Int32 × rc_M} (E : rc_E0 X y_mdl_takes (some .boolean) (some (.int res.1)) res.2) {w : rc_M} {a0 : Nat} {x1 : Int32} (h : b_mdl_takes_51 w a0 x1 = some res) : rc_J X w 51 [] [(0, va_rf (some a0)), (1, .int x1)] := by
  unfold b_mdl_takes_51 at h
  refine j_iload_n C d_mdl_takes_51 rfl 1 rfl ?_
  refine j_iconst (v := 4) C d_mdl_takes_52 rfl (by decide) ?_
  refine j_icmp_ne (tgt := 114) C d_mdl_takes_53 (by decide) rfl (fun c1 => ?_) (fun c1 => ?_)
  · rw [if_neg c1] at h
    exact k_mdl_takes_114 hF hL hN C E h
  · rw [if_pos c1] at h
    refine j_aload_n C d_mdl_takes_56 rfl 0 rfl ?_
    obtain ⟨a2, h3, h⟩ := Option.bind_eq_some_iff.mp h
    obtain ⟨p4, h5, h⟩ := Option.bind_eq_some_iff.mp h
    refine j_callV C (As := []) (st := []) (sk' := [.int p4.1]) mk_mdl_nextWord (Or.inl T_884) T_886 S_33 (ci := 7) rfl h3 (rc_le hF (by decide)) (rc_le hL (by decide)) (ct_mdl_nextWord h5) rfl rfl (by decide) d_mdl_takes_57 rfl rfl ?_
    refine j_istore_n C (i := 2) d_mdl_takes_60 rfl rfl [(2, .int p4.1), (0, va_rf (some a0)), (1, .int x1)] (rc_lt hN (by decide)) (by first | rfl | simp [va_rf_cat, rc_cat_i, rc_cat_l]) ?_
    refine j_aload_n C d_mdl_takes_61 rfl 1 rfl ?_
    refine j_aload_n C d_mdl_takes_62 rfl 1 rfl ?_
    obtain ⟨v6, h7, h⟩ := Option.bind_eq_some_iff.mp h
    refine j_getI C fl_mdl_119 h7 d_mdl_takes_63 rfl ?_
    refine j_if_eq (tgt := 83) C d_mdl_takes_66 (by decide) rfl (fun c8 => ?_) (fun c8 => ?_)
    · rw [if_pos c8] at h
      refine rc_J.sub (lv' := [(0, va_rf (some a0)), (1, .int x1), (2, .int p4.1)]) [1, 2, 0] rfl ?_
      exact k_mdl_takes_83 hF hL hN C E h
    · rw [if_neg c8] at h
      refine j_iload_n C d_mdl_takes_69 rfl 0 rfl ?_
      refine j_if_lt (tgt := 83) C d_mdl_takes_70 (by decide) rfl (fun c9 => ?_) (fun c9 => ?_)
      · rw [if_pos c9] at h
        refine rc_J.sub (lv' := [(0, va_rf (some a0)), (1, .int x1), (2, .int p4.1)]) [1, 2, 0] rfl ?_
        exact k_mdl_takes_83 hF hL hN C E h
      · rw [if_neg c9] at h
        refine j_iload_n C d_mdl_takes_73 rfl 0 rfl ?_
        refine j_bipush (v := 8) C d_mdl_takes_74 rfl (by decide) ?_
        refine j_icmp_gt (tgt := 83) C d_mdl_takes_76 (by decide) rfl (fun c10 => ?_) (fun c10 => ?_)
        · rw [if_pos c10] at h
          refine rc_J.sub (lv' := [(0, va_rf (some a0)), (1, .int x1), (2, .int p4.1)]) [1, 2, 0] rfl ?_
          exact k_mdl_takes_83 hF hL hN C E h
        · rw [if_neg c10] at h
          refine j_iconst (v := 1) C d_mdl_takes_79 rfl (by decide) ?_
          refine j_goto (tgt := 84) C d_mdl_takes_80 (by decide) ?_
          refine rc_J.sub (lv' := [(0, va_rf (some a0)), (1, .int x1), (2, .int p4.1)]) [1, 2, 0] rfl ?_
          exact k_mdl_takes_84 hF hL hN C E h

set_option maxRecDepth 100000 in
set_option maxHeartbeats 4000000 in
theorem k_mdl_takes_46 {X : rc_X} {w0 : rc_M} (hF : (q_R X).frames = 3) (hL : (q_R X).locals = 67) (hN : q_n X = 4) (C : rc_C X "RecordCallsModel" prog_9_method_27_code w0) {res : Int32 × rc_M} (E : rc_E0 X y_mdl_takes (some .boolean) (some (.int res.1)) res.2) {w : rc_M} {a0 : Nat} {x1 : Int32} (h : b_mdl_takes_46 w a0 x1 = some res) : rc_J X w 46 [] [(0, va_rf (some a0)), (1, .int x1)] := by
  unfold b_mdl_takes_46 at h
  refine j_aload_n C d_mdl_takes_46 rfl 0 rfl ?_
  obtain ⟨a1, h2, h⟩ := Option.bind_eq_some_iff.mp h
  obtain ⟨p3, h4, h⟩ := Option.bind_eq_some_iff.mp h
  refine j_callV C (As := []) (st := []) (sk' := [.long p3.1]) mk_mdl_nextLong (Or.inl T_912) T_914 S_40 (ci := 7) rfl h2 (rc_le hF (by decide)) (rc_le hL (by decide)) (ct_mdl_nextLong h4) rfl rfl (by decide) d_mdl_takes_47 rfl rfl ?_
  refine j_pop2 C d_mdl_takes_50 rfl rfl ?_
  exact k_mdl_takes_51 hF hL hN C E h

set_option maxRecDepth 100000 in
set_option maxHeartbeats 4000000 in
theorem k_mdl_takes_36 {X : rc_X} {w0 : rc_M} (hF : (q_R X).frames = 3) (hL : (q_R X).locals = 67) (hN : q_n X = 4) (C : rc_C X "RecordCallsModel" prog_9_method_27_code w0) {res : Int32 × rc_M} (E : rc_E0 X y_mdl_takes (some .boolean) (some (.int res.1)) res.2) {w : rc_M} {a0 : Nat} {x1 : Int32} (h : b_mdl_takes_36 w a0 x1 = some res) : rc_J X w 36 [] [(0, va_rf (some a0)), (1, .int x1)] := by
  unfold b_mdl_takes_36 at h
  refine j_iload_n C d_mdl_takes_36 rfl 1 rfl ?_
  refine j_iconst (v := 1) C d_mdl_takes_37 rfl (by decide) ?_
  refine j_icmp_eq (tgt := 46) C d_mdl_takes_38 (by decide) rfl (fun c1 => ?_) (fun c1 => ?_)
  · rw [if_pos c1] at h
    exact k_mdl_takes_46 hF hL hN C E h
  · rw [if_neg c1] at h
    refine j_iload_n C d_mdl_takes_41 rfl 1 rfl ?_
    refine j_iconst (v := 3) C d_mdl_takes_42 rfl (by decide) ?_
    refine j_icmp_ne (tgt := 51) C d_mdl_takes_43 (by decide) rfl (fun c2 => ?_) (fun c2 => ?_)
    · rw [if_neg c2] at h
      exact k_mdl_takes_51 hF hL hN C E h
    · rw [if_pos c2] at h
      exact k_mdl_takes_46 hF hL hN C E h

set_option maxRecDepth 100000 in
set_option maxHeartbeats 4000000 in
theorem k_mdl_takes_29 {X : rc_X} {w0 : rc_M} (hF : (q_R X).frames = 3) (hL : (q_R X).locals = 67) (hN : q_n X = 4) (C : rc_C X "RecordCallsModel" prog_9_method_27_code w0) {res : Int32 × rc_M} (E : rc_E0 X y_mdl_takes (some .boolean) (some (.int res.1)) res.2) {w : rc_M} {a0 : Nat} {x1 : Int32} (h : b_mdl_takes_29 w a0 x1 = some res) : rc_J X w 29 [] [(0, va_rf (some a0)), (1, .int x1)] := by
  unfold b_mdl_takes_29 at h
  refine j_aload_n C d_mdl_takes_29 rfl 0 rfl ?_
  refine j_bipush (v := 16) C d_mdl_takes_30 rfl (by decide) ?_
  obtain ⟨a1, h2, h⟩ := Option.bind_eq_some_iff.mp h
  obtain ⟨p3, h4, h⟩ := Option.bind_eq_some_iff.mp h
  refine j_callV C (As := [.int 16]) (st := []) (sk' := [.int p3.1]) mk_mdl_nextBytes (Or.inl T_900) T_902 S_37 (ci := 7) rfl h2 (rc_le hF (by decide)) (rc_le hL (by decide)) (ct_mdl_nextBytes h4) rfl rfl (by decide) d_mdl_takes_32 rfl rfl ?_
  refine j_pop C d_mdl_takes_35 rfl (by first | rfl | exact va_rf_cat _) ?_
  exact k_mdl_takes_36 hF hL hN C E h

set_option maxRecDepth 100000 in
set_option maxHeartbeats 4000000 in
theorem ct_mdl_takes {l : Launch} {G : rc_G} {w : rc_M} {a0 : Nat} {x1 : Int32} {res : Int32 × rc_M} (h : f_mdl_takes w a0 x1 = some res) : rc_Ct l G y_mdl_takes prog_9_method_27_code 4 (some .boolean) 3 67 [va_rf (some a0), .int x1] w (some (.int res.1)) res.2 := by
  refine rc_enter (by decide +kernel) (by simp [lg_sl, va_rf_cat, rc_cat_i, rc_cat_l]) ?_
  intro X _ _ hN hF hL C E
  have hlv : lv_args 0 [va_rf (some a0), .int x1] = [(0, va_rf (some a0)), (1, .int x1)] := by simp [lv_args, va_rf_cat, rc_cat_i, rc_cat_l]
  rw [hlv]
  clear hlv
  unfold f_mdl_takes at h
  refine j_aload_n C d_mdl_takes_0 rfl 0 rfl ?_
  refine j_aload_n C d_mdl_takes_1 rfl 0 rfl ?_
  obtain ⟨v1, h2, h⟩ := Option.bind_eq_some_iff.mp h
  refine j_getI C fl_mdl_116 h2 d_mdl_takes_2 rfl ?_
  obtain ⟨w3, h4, h⟩ := Option.bind_eq_some_iff.mp h
  refine j_putV C (ci := 7) (k := 33) (by decide) (by decide) T_752 (Or.inl rfl) rfl rfl h4 d_mdl_takes_5 rfl ?_
  refine j_iload_n C d_mdl_takes_8 rfl 1 rfl ?_
  refine j_iconst (v := 1) C d_mdl_takes_9 rfl (by decide) ?_
  refine j_icmp_eq (tgt := 29) C d_mdl_takes_10 (by decide) rfl (fun c5 => ?_) (fun c5 => ?_)
  · rw [if_pos c5] at h
    exact k_mdl_takes_29 hF hL hN C E h
  · rw [if_neg c5] at h
    refine j_iload_n C d_mdl_takes_13 rfl 1 rfl ?_
    refine j_iconst (v := 2) C d_mdl_takes_14 rfl (by decide) ?_
    refine j_icmp_eq (tgt := 29) C d_mdl_takes_15 (by decide) rfl (fun c6 => ?_) (fun c6 => ?_)
    · rw [if_pos c6] at h
      exact k_mdl_takes_29 hF hL hN C E h
    · rw [if_neg c6] at h
      refine j_iload_n C d_mdl_takes_18 rfl 1 rfl ?_
      refine j_iconst (v := 3) C d_mdl_takes_19 rfl (by decide) ?_
      refine j_icmp_eq (tgt := 29) C d_mdl_takes_20 (by decide) rfl (fun c7 => ?_) (fun c7 => ?_)
      · rw [if_pos c7] at h
        exact k_mdl_takes_29 hF hL hN C E h
      · rw [if_neg c7] at h
        refine j_iload_n C d_mdl_takes_23 rfl 1 rfl ?_
        refine j_bipush (v := 6) C d_mdl_takes_24 rfl (by decide) ?_
        refine j_icmp_ne (tgt := 36) C d_mdl_takes_26 (by decide) rfl (fun c8 => ?_) (fun c8 => ?_)
        · rw [if_neg c8] at h
          exact k_mdl_takes_36 hF hL hN C E h
        · rw [if_pos c8] at h
          exact k_mdl_takes_29 hF hL hN C E h

set_option maxRecDepth 100000 in
set_option maxHeartbeats 4000000 in
theorem k_mdl_place_82 {X : rc_X} {w0 : rc_M} (hF : (q_R X).frames = 0) (hL : (q_R X).locals = 0) (hN : q_n X = 4) (C : rc_C X "RecordCallsModel" prog_9_method_28_code w0) {res : Int32 × rc_M} (E : rc_E0 X y_mdl_place (some .int) (some (.int res.1)) res.2) {k2 : rc_M → Nat → Int32 → Option (Int32 × rc_M)} (hk2 : ∀ (w : rc_M) (a0 : Nat) (x1 : Int32), k2 w a0 x1 = some res → rc_J X w 2 [] [(0, va_rf (some a0)), (1, .int x1)]) {k31 : rc_M → Nat → Int32 → Int32 → Int32 → Option (Int32 × rc_M)} (hk31 : ∀ (w : rc_M) (a0 : Nat) (x1 : Int32) (x2 : Int32) (x3 : Int32), k31 w a0 x1 x2 x3 = some res → rc_J X w 31 [] [(0, va_rf (some a0)), (1, .int x1), (2, .int x2), (3, .int x3)]) {w : rc_M} {a0 : Nat} {x1 : Int32} {x3 : Int32} {s0 : Int32} (h : b_mdl_place_82 k2 k31 w a0 x1 x3 s0 = some res) : rc_J X w 82 [.int s0] [(0, va_rf (some a0)), (1, .int x1), (3, .int x3)] := by
  unfold b_mdl_place_82 at h
  refine j_istore_n C (i := 2) d_mdl_place_82 rfl rfl [(2, .int s0), (0, va_rf (some a0)), (1, .int x1), (3, .int x3)] (rc_lt hN (by decide)) (by first | rfl | simp [va_rf_cat, rc_cat_i, rc_cat_l]) ?_
  refine j_iinc C d_mdl_place_83 rfl 3 [(3, .int (x3 + 1)), (2, .int s0), (0, va_rf (some a0)), (1, .int x1)] rfl rfl (rc_lt hN (by decide)) (by first | rfl | simp [va_rf_cat, rc_cat_i, rc_cat_l]) ?_
  refine j_goto (tgt := 31) C d_mdl_place_86 (by decide) ?_
  refine rc_J.sub (lv' := [(0, va_rf (some a0)), (1, .int x1), (2, .int s0), (3, .int (x3 + 1))]) [2, 3, 1, 0] rfl ?_
  exact hk31 _ _ _ _ _ h

set_option maxRecDepth 100000 in
set_option maxHeartbeats 4000000 in
theorem k_mdl_place_89 {X : rc_X} {w0 : rc_M} (hF : (q_R X).frames = 0) (hL : (q_R X).locals = 0) (hN : q_n X = 4) (C : rc_C X "RecordCallsModel" prog_9_method_28_code w0) {res : Int32 × rc_M} (E : rc_E0 X y_mdl_place (some .int) (some (.int res.1)) res.2) {k2 : rc_M → Nat → Int32 → Option (Int32 × rc_M)} (hk2 : ∀ (w : rc_M) (a0 : Nat) (x1 : Int32), k2 w a0 x1 = some res → rc_J X w 2 [] [(0, va_rf (some a0)), (1, .int x1)]) {w : rc_M} {a0 : Nat} {x1 : Int32} {x2 : Int32} (h : b_mdl_place_89 k2 w a0 x1 x2 = some res) : rc_J X w 89 [] [(0, va_rf (some a0)), (1, .int x1), (2, .int x2)] := by
  unfold b_mdl_place_89 at h
  refine j_iload_n C d_mdl_place_89 rfl 2 rfl ?_
  refine j_if_eq (tgt := 95) C d_mdl_place_90 (by decide) rfl (fun c1 => ?_) (fun c1 => ?_)
  · rw [if_pos c1] at h
    refine j_iinc C d_mdl_place_95 rfl 1 [(1, .int (x1 + 1)), (0, va_rf (some a0)), (2, .int x2)] rfl rfl (rc_lt hN (by decide)) (by first | rfl | simp [va_rf_cat, rc_cat_i, rc_cat_l]) ?_
    refine j_goto (tgt := 2) C d_mdl_place_98 (by decide) ?_
    refine rc_J.sub (lv' := [(0, va_rf (some a0)), (1, .int (x1 + 1))]) [1, 0] rfl ?_
    exact hk2 _ _ _ h
  · rw [if_neg c1] at h
    refine j_iload_n C d_mdl_place_93 rfl 1 rfl ?_
    cases h
    exact j_iret C E d_mdl_place_94

set_option maxRecDepth 100000 in
set_option maxHeartbeats 4000000 in
theorem k_mdl_place_31 {X : rc_X} {w0 : rc_M} (hF : (q_R X).frames = 0) (hL : (q_R X).locals = 0) (hN : q_n X = 4) (C : rc_C X "RecordCallsModel" prog_9_method_28_code w0) {res : Int32 × rc_M} (E : rc_E0 X y_mdl_place (some .int) (some (.int res.1)) res.2) {k2 : rc_M → Nat → Int32 → Option (Int32 × rc_M)} (hk2 : ∀ (w : rc_M) (a0 : Nat) (x1 : Int32), k2 w a0 x1 = some res → rc_J X w 2 [] [(0, va_rf (some a0)), (1, .int x1)]) : ∀ (fuel : Nat) (w : rc_M) (a0 : Nat) (x1 : Int32) (x2 : Int32) (x3 : Int32), b_mdl_place_31 k2 fuel w a0 x1 x2 x3 = some res → rc_J X w 31 [] [(0, va_rf (some a0)), (1, .int x1), (2, .int x2), (3, .int x3)] := by
  intro fuel
  induction fuel with
  | zero => intro w a0 x1 x2 x3 h; simp [b_mdl_place_31] at h
  | succ fuel ih =>
    intro w a0 x1 x2 x3 h
    unfold b_mdl_place_31 at h
    refine j_iload_n C d_mdl_place_31 rfl 2 rfl ?_
    refine j_if_eq (tgt := 89) C d_mdl_place_32 (by decide) rfl (fun c1 => ?_) (fun c1 => ?_)
    · rw [if_pos c1] at h
      refine rc_J.sub (lv' := [(0, va_rf (some a0)), (1, .int x1), (2, .int x2)]) [0, 1, 2] rfl ?_
      exact k_mdl_place_89 hF hL hN C E hk2 h
    · rw [if_neg c1] at h
      refine j_iload_n C d_mdl_place_35 rfl 3 rfl ?_
      refine j_aload_n C d_mdl_place_36 rfl 0 rfl ?_
      obtain ⟨v2, h3, h⟩ := Option.bind_eq_some_iff.mp h
      refine j_getI C fl_mdl_137 h3 d_mdl_place_37 rfl ?_
      refine j_icmp_ge (tgt := 89) C d_mdl_place_40 (by decide) rfl (fun c4 => ?_) (fun c4 => ?_)
      · rw [if_pos c4] at h
        refine rc_J.sub (lv' := [(0, va_rf (some a0)), (1, .int x1), (2, .int x2)]) [0, 1, 2] rfl ?_
        exact k_mdl_place_89 hF hL hN C E hk2 h
      · rw [if_neg c4] at h
        refine j_aload_n C d_mdl_place_43 rfl 0 rfl ?_
        obtain ⟨v5, h6, h⟩ := Option.bind_eq_some_iff.mp h
        refine j_getR C fl_mdl_24 h6 d_mdl_place_44 rfl ?_
        refine j_bipush (v := 16) C d_mdl_place_47 rfl (by decide) ?_
        refine j_iload_n C d_mdl_place_49 rfl 1 rfl ?_
        refine j_imul C d_mdl_place_50 rfl ?_
        refine j_iload_n C d_mdl_place_51 rfl 3 rfl ?_
        refine j_iadd C d_mdl_place_52 rfl ?_
        obtain ⟨v7, h8, h⟩ := Option.bind_eq_some_iff.mp h
        refine j_bald C h8 d_mdl_place_53 rfl ?_
        refine j_aload_n C d_mdl_place_54 rfl 0 rfl ?_
        obtain ⟨v9, h10, h⟩ := Option.bind_eq_some_iff.mp h
        refine j_getR C fl_mdl_34 h10 d_mdl_place_55 rfl ?_
        refine j_sipush (v := 1200) C d_mdl_place_58 rfl (by decide) ?_
        refine j_aload_n C d_mdl_place_61 rfl 0 rfl ?_
        obtain ⟨v11, h12, h⟩ := Option.bind_eq_some_iff.mp h
        refine j_getI C fl_mdl_109 h12 d_mdl_place_62 rfl ?_
        refine j_imul C d_mdl_place_65 rfl ?_
        refine j_aload_n C d_mdl_place_66 rfl 0 rfl ?_
        obtain ⟨v13, h14, h⟩ := Option.bind_eq_some_iff.mp h
        refine j_getI C fl_mdl_134 h14 d_mdl_place_67 rfl ?_
        refine j_iadd C d_mdl_place_70 rfl ?_
        refine j_iload_n C d_mdl_place_71 rfl 3 rfl ?_
        refine j_iadd C d_mdl_place_72 rfl ?_
        obtain ⟨v15, h16, h⟩ := Option.bind_eq_some_iff.mp h
        refine j_bald C h16 d_mdl_place_73 rfl ?_
        refine j_icmp_ne (tgt := 81) C d_mdl_place_74 (by decide) rfl (fun c17 => ?_) (fun c17 => ?_)
        · rw [if_neg c17] at h
          refine j_iconst (v := 0) C d_mdl_place_81 rfl (by decide) ?_
          refine rc_J.sub (lv' := [(0, va_rf (some a0)), (1, .int x1), (3, .int x3)]) [0, 1, 3] rfl ?_
          exact k_mdl_place_82 hF hL hN C E hk2 (fun w z0 z1 z2 z3 h => ih w z0 z1 z2 z3 h) h
        · rw [if_pos c17] at h
          refine j_iconst (v := 1) C d_mdl_place_77 rfl (by decide) ?_
          refine j_goto (tgt := 82) C d_mdl_place_78 (by decide) ?_
          refine rc_J.sub (lv' := [(0, va_rf (some a0)), (1, .int x1), (3, .int x3)]) [0, 1, 3] rfl ?_
          exact k_mdl_place_82 hF hL hN C E hk2 (fun w z0 z1 z2 z3 h => ih w z0 z1 z2 z3 h) h

set_option maxRecDepth 100000 in
set_option maxHeartbeats 4000000 in
theorem k_mdl_place_28 {X : rc_X} {w0 : rc_M} (hF : (q_R X).frames = 0) (hL : (q_R X).locals = 0) (hN : q_n X = 4) (C : rc_C X "RecordCallsModel" prog_9_method_28_code w0) {res : Int32 × rc_M} (E : rc_E0 X y_mdl_place (some .int) (some (.int res.1)) res.2) {k2 : rc_M → Nat → Int32 → Option (Int32 × rc_M)} (hk2 : ∀ (w : rc_M) (a0 : Nat) (x1 : Int32), k2 w a0 x1 = some res → rc_J X w 2 [] [(0, va_rf (some a0)), (1, .int x1)]) {w : rc_M} {a0 : Nat} {x1 : Int32} {s0 : Int32} (h : b_mdl_place_28 k2 w a0 x1 s0 = some res) : rc_J X w 28 [.int s0] [(0, va_rf (some a0)), (1, .int x1)] := by
  unfold b_mdl_place_28 at h
  refine j_istore_n C (i := 2) d_mdl_place_28 rfl rfl [(2, .int s0), (0, va_rf (some a0)), (1, .int x1)] (rc_lt hN (by decide)) (by first | rfl | simp [va_rf_cat, rc_cat_i, rc_cat_l]) ?_
  refine j_iconst (v := 0) C d_mdl_place_29 rfl (by decide) ?_
  refine j_istore_n C (i := 3) d_mdl_place_30 rfl rfl [(3, .int 0), (2, .int s0), (0, va_rf (some a0)), (1, .int x1)] (rc_lt hN (by decide)) (by first | rfl | simp [va_rf_cat, rc_cat_i, rc_cat_l]) ?_
  refine rc_J.sub (lv' := [(0, va_rf (some a0)), (1, .int x1), (2, .int s0), (3, .int 0)]) [2, 3, 1, 0] rfl ?_
  exact k_mdl_place_31 hF hL hN C E hk2 _ _ _ _ _ _ h

set_option maxRecDepth 100000 in
set_option maxHeartbeats 4000000 in
theorem k_mdl_place_2 {X : rc_X} {w0 : rc_M} (hF : (q_R X).frames = 0) (hL : (q_R X).locals = 0) (hN : q_n X = 4) (C : rc_C X "RecordCallsModel" prog_9_method_28_code w0) {res : Int32 × rc_M} (E : rc_E0 X y_mdl_place (some .int) (some (.int res.1)) res.2) : ∀ (fuel : Nat) (w : rc_M) (a0 : Nat) (x1 : Int32), b_mdl_place_2 fuel w a0 x1 = some res → rc_J X w 2 [] [(0, va_rf (some a0)), (1, .int x1)] := by
  intro fuel
  induction fuel with
  | zero => intro w a0 x1 h; simp [b_mdl_place_2] at h
  | succ fuel ih =>
    intro w a0 x1 h
    unfold b_mdl_place_2 at h
    refine j_iload_n C d_mdl_place_2 rfl 1 rfl ?_
    refine j_aload_n C d_mdl_place_3 rfl 0 rfl ?_
    obtain ⟨v1, h2, h⟩ := Option.bind_eq_some_iff.mp h
    refine j_getI C fl_mdl_188 h2 d_mdl_place_4 rfl ?_
    refine j_icmp_ge (tgt := 101) C d_mdl_place_7 (by decide) rfl (fun c3 => ?_) (fun c3 => ?_)
    · rw [if_pos c3] at h
      refine j_iconst (v := (-1)) C d_mdl_place_101 rfl (by decide) ?_
      cases h
      exact j_iret C E d_mdl_place_102
    · rw [if_neg c3] at h
      refine j_aload_n C d_mdl_place_10 rfl 0 rfl ?_
      obtain ⟨v4, h5, h⟩ := Option.bind_eq_some_iff.mp h
      refine j_getR C fl_mdl_27 h5 d_mdl_place_11 rfl ?_
      refine j_iload_n C d_mdl_place_14 rfl 1 rfl ?_
      obtain ⟨v6, h7, h⟩ := Option.bind_eq_some_iff.mp h
      refine j_iald C h7 d_mdl_place_15 rfl ?_
      refine j_aload_n C d_mdl_place_16 rfl 0 rfl ?_
      obtain ⟨v8, h9, h⟩ := Option.bind_eq_some_iff.mp h
      refine j_getI C fl_mdl_137 h9 d_mdl_place_17 rfl ?_
      refine j_icmp_ne (tgt := 27) C d_mdl_place_20 (by decide) rfl (fun c10 => ?_) (fun c10 => ?_)
      · rw [if_neg c10] at h
        refine j_iconst (v := 0) C d_mdl_place_27 rfl (by decide) ?_
        exact k_mdl_place_28 hF hL hN C E (fun w z0 z1 h => ih w z0 z1 h) h
      · rw [if_pos c10] at h
        refine j_iconst (v := 1) C d_mdl_place_23 rfl (by decide) ?_
        refine j_goto (tgt := 28) C d_mdl_place_24 (by decide) ?_
        exact k_mdl_place_28 hF hL hN C E (fun w z0 z1 h => ih w z0 z1 h) h

set_option maxRecDepth 100000 in
set_option maxHeartbeats 4000000 in
theorem ct_mdl_place {l : Launch} {G : rc_G} {w : rc_M} {a0 : Nat} {res : Int32 × rc_M} (h : f_mdl_place w a0 = some res) : rc_Ct l G y_mdl_place prog_9_method_28_code 4 (some .int) 0 0 [va_rf (some a0)] w (some (.int res.1)) res.2 := by
  refine rc_enter (by decide +kernel) (by simp [lg_sl, va_rf_cat, rc_cat_i, rc_cat_l]) ?_
  intro X _ _ hN hF hL C E
  have hlv : lv_args 0 [va_rf (some a0)] = [(0, va_rf (some a0))] := by simp [lv_args, va_rf_cat, rc_cat_i, rc_cat_l]
  rw [hlv]
  clear hlv
  unfold f_mdl_place at h
  refine j_iconst (v := 0) C d_mdl_place_0 rfl (by decide) ?_
  refine j_istore_n C (i := 1) d_mdl_place_1 rfl rfl [(1, .int 0), (0, va_rf (some a0))] (rc_lt hN (by decide)) (by first | rfl | simp [va_rf_cat, rc_cat_i, rc_cat_l]) ?_
  refine rc_J.sub (lv' := [(0, va_rf (some a0)), (1, .int 0)]) [1, 0] rfl ?_
  exact k_mdl_place_2 hF hL hN C E _ _ _ _ h

set_option maxRecDepth 100000 in
set_option maxHeartbeats 4000000 in
theorem ct_mdl_outLong {l : Launch} {G : rc_G} {w : rc_M} {a0 : Nat} {x1 : Int64} {res : rc_M} (h : f_mdl_outLong w a0 x1 = some res) : rc_Ct l G y_mdl_outLong prog_9_method_20_code 3 none 1 22 [va_rf (some a0), .long x1] w none res := by
  refine rc_enter (by decide +kernel) (by simp [lg_sl, va_rf_cat, rc_cat_i, rc_cat_l]) ?_
  intro X _ _ hN hF hL C E
  have hlv : lv_args 0 [va_rf (some a0), .long x1] = [(0, va_rf (some a0)), (1, .long x1)] := by simp [lv_args, va_rf_cat, rc_cat_i, rc_cat_l]
  rw [hlv]
  clear hlv
  unfold f_mdl_outLong at h
  refine j_aload_n C d_mdl_outLong_0 rfl 0 rfl ?_
  refine j_lload_n C d_mdl_outLong_1 rfl 1 rfl ?_
  refine j_bipush (v := 32) C d_mdl_outLong_2 rfl (by decide) ?_
  refine j_lshr C d_mdl_outLong_4 rfl ?_
  refine j_l2i C d_mdl_outLong_5 rfl ?_
  obtain ⟨a1, h2, h⟩ := Option.bind_eq_some_iff.mp h
  obtain ⟨w3, h4, h⟩ := Option.bind_eq_some_iff.mp h
  refine j_callV C (As := [.int ((x1 >>> ((32 : Int32).toInt64 &&& 63)).toInt32)]) (st := []) (sk' := []) mk_mdl_outWord (Or.inl T_896) T_898 S_36 (ci := 7) rfl h2 (rc_le hF (by decide)) (rc_le hL (by decide)) (ct_mdl_outWord h4) rfl rfl (by decide) d_mdl_outLong_6 rfl rfl ?_
  refine j_aload_n C d_mdl_outLong_9 rfl 0 rfl ?_
  refine j_lload_n C d_mdl_outLong_10 rfl 1 rfl ?_
  refine j_l2i C d_mdl_outLong_11 rfl ?_
  obtain ⟨a5, h6, h⟩ := Option.bind_eq_some_iff.mp h
  obtain ⟨w7, h8, h⟩ := Option.bind_eq_some_iff.mp h
  refine j_callV C (As := [.int x1.toInt32]) (st := []) (sk' := []) mk_mdl_outWord (Or.inl T_896) T_898 S_36 (ci := 7) rfl h6 (rc_le hF (by decide)) (rc_le hL (by decide)) (ct_mdl_outWord h8) rfl rfl (by decide) d_mdl_outLong_12 rfl rfl ?_
  cases h
  exact j_vret C E d_mdl_outLong_15

set_option maxRecDepth 100000 in
set_option maxHeartbeats 4000000 in
theorem k_mdl_runSum_65 {X : rc_X} {w0 : rc_M} (hF : (q_R X).frames = 3) (hL : (q_R X).locals = 67) (hN : q_n X = 7) (C : rc_C X "RecordCallsModel" prog_9_method_32_code w0) {res : rc_M} (E : rc_E0 X y_mdl_runSum none none res) {k13 : rc_M → Nat → Int32 → Int64 → Int32 → Int32 → Option (rc_M)} (hk13 : ∀ (w : rc_M) (a0 : Nat) (x1 : Int32) (x2 : Int64) (x4 : Int32) (x5 : Int32), k13 w a0 x1 x2 x4 x5 = some res → rc_J X w 13 [] [(0, va_rf (some a0)), (1, .int x1), (2, .long x2), (4, .int x4), (5, .int x5)]) {w : rc_M} {a0 : Nat} {x1 : Int32} {x2 : Int64} {x5 : Int32} {s0 : Int32} (h : b_mdl_runSum_65 k13 w a0 x1 x2 x5 s0 = some res) : rc_J X w 65 [.int s0] [(0, va_rf (some a0)), (1, .int x1), (2, .long x2), (5, .int x5)] := by
  unfold b_mdl_runSum_65 at h
  refine j_istore C (i := 4) d_mdl_runSum_65 rfl [(4, .int s0), (0, va_rf (some a0)), (1, .int x1), (2, .long x2), (5, .int x5)] (rc_lt hN (by decide)) (by first | rfl | simp [va_rf_cat, rc_cat_i, rc_cat_l]) ?_
  refine j_iinc C d_mdl_runSum_67 rfl 4 [(5, .int (x5 + 1)), (4, .int s0), (0, va_rf (some a0)), (1, .int x1), (2, .long x2)] rfl rfl (rc_lt hN (by decide)) (by first | rfl | simp [va_rf_cat, rc_cat_i, rc_cat_l]) ?_
  refine j_goto (tgt := 13) C d_mdl_runSum_70 (by decide) ?_
  refine rc_J.sub (lv' := [(0, va_rf (some a0)), (1, .int x1), (2, .long x2), (4, .int s0), (5, .int (x5 + 1))]) [2, 3, 4, 1, 0] rfl ?_
  exact hk13 _ _ _ _ _ _ h

set_option maxRecDepth 100000 in
set_option maxHeartbeats 4000000 in
theorem k_mdl_runSum_50 {X : rc_X} {w0 : rc_M} (hF : (q_R X).frames = 3) (hL : (q_R X).locals = 67) (hN : q_n X = 7) (C : rc_C X "RecordCallsModel" prog_9_method_32_code w0) {res : rc_M} (E : rc_E0 X y_mdl_runSum none none res) {k13 : rc_M → Nat → Int32 → Int64 → Int32 → Int32 → Option (rc_M)} (hk13 : ∀ (w : rc_M) (a0 : Nat) (x1 : Int32) (x2 : Int64) (x4 : Int32) (x5 : Int32), k13 w a0 x1 x2 x4 x5 = some res → rc_J X w 13 [] [(0, va_rf (some a0)), (1, .int x1), (2, .long x2), (4, .int x4), (5, .int x5)]) {w : rc_M} {a0 : Nat} {x1 : Int32} {x4 : Int32} {x5 : Int32} {x6 : Int32} {s0 : Int64} (h : b_mdl_runSum_50 k13 w a0 x1 x4 x5 x6 s0 = some res) : rc_J X w 50 [.long s0] [(0, va_rf (some a0)), (1, .int x1), (4, .int x4), (5, .int x5), (6, .int x6)] := by
  unfold b_mdl_runSum_50 at h
  refine j_lstore_n C (i := 2) d_mdl_runSum_50 rfl rfl [(2, .long s0), (0, va_rf (some a0)), (1, .int x1), (4, .int x4), (5, .int x5), (6, .int x6)] (rc_lt hN (by decide)) (by first | rfl | simp [va_rf_cat, rc_cat_i, rc_cat_l]) ?_
  refine j_iload C d_mdl_runSum_51 rfl 5 rfl ?_
  refine j_if_lt (tgt := 61) C d_mdl_runSum_53 (by decide) rfl (fun c1 => ?_) (fun c1 => ?_)
  · rw [if_pos c1] at h
    refine j_iload C d_mdl_runSum_61 rfl 3 rfl ?_
    refine j_iconst (v := 1) C d_mdl_runSum_63 rfl (by decide) ?_
    refine j_iadd C d_mdl_runSum_64 rfl ?_
    refine rc_J.sub (lv' := [(0, va_rf (some a0)), (1, .int x1), (2, .long s0), (5, .int x5)]) [1, 2, 0, 4] rfl ?_
    exact k_mdl_runSum_65 hF hL hN C E hk13 h
  · rw [if_neg c1] at h
    refine j_iload C d_mdl_runSum_56 rfl 3 rfl ?_
    refine j_goto (tgt := 65) C d_mdl_runSum_58 (by decide) ?_
    refine rc_J.sub (lv' := [(0, va_rf (some a0)), (1, .int x1), (2, .long s0), (5, .int x5)]) [1, 2, 0, 4] rfl ?_
    exact k_mdl_runSum_65 hF hL hN C E hk13 h

set_option maxRecDepth 100000 in
set_option maxHeartbeats 4000000 in
theorem k_mdl_runSum_13 {X : rc_X} {w0 : rc_M} (hF : (q_R X).frames = 3) (hL : (q_R X).locals = 67) (hN : q_n X = 7) (C : rc_C X "RecordCallsModel" prog_9_method_32_code w0) {res : rc_M} (E : rc_E0 X y_mdl_runSum none none res) : ∀ (fuel : Nat) (w : rc_M) (a0 : Nat) (x1 : Int32) (x2 : Int64) (x4 : Int32) (x5 : Int32), b_mdl_runSum_13 fuel w a0 x1 x2 x4 x5 = some res → rc_J X w 13 [] [(0, va_rf (some a0)), (1, .int x1), (2, .long x2), (4, .int x4), (5, .int x5)] := by
  intro fuel
  induction fuel with
  | zero => intro w a0 x1 x2 x4 x5 h; simp [b_mdl_runSum_13] at h
  | succ fuel ih =>
    intro w a0 x1 x2 x4 x5 h
    unfold b_mdl_runSum_13 at h
    refine j_iload C d_mdl_runSum_13 rfl 4 rfl ?_
    refine j_iload_n C d_mdl_runSum_15 rfl 1 rfl ?_
    refine j_icmp_ge (tgt := 73) C d_mdl_runSum_16 (by decide) rfl (fun c1 => ?_) (fun c1 => ?_)
    · rw [if_pos c1] at h
      refine j_aload_n C d_mdl_runSum_73 rfl 0 rfl ?_
      refine j_lload_n C d_mdl_runSum_74 rfl 2 rfl ?_
      obtain ⟨a2, h3, h⟩ := Option.bind_eq_some_iff.mp h
      obtain ⟨w4, h5, h⟩ := Option.bind_eq_some_iff.mp h
      refine j_callV C (As := [.long x2]) (st := []) (sk' := []) mk_mdl_outLong (Or.inl T_929) T_931 S_44 (ci := 7) rfl h3 (rc_le hF (by decide)) (rc_le hL (by decide)) (ct_mdl_outLong h5) rfl rfl (by decide) d_mdl_runSum_75 rfl rfl ?_
      refine j_aload_n C d_mdl_runSum_78 rfl 0 rfl ?_
      refine j_iload C d_mdl_runSum_79 rfl 3 rfl ?_
      obtain ⟨a6, h7, h⟩ := Option.bind_eq_some_iff.mp h
      obtain ⟨w8, h9, h⟩ := Option.bind_eq_some_iff.mp h
      refine j_callV C (As := [.int x4]) (st := []) (sk' := []) mk_mdl_outWord (Or.inl T_896) T_898 S_36 (ci := 7) rfl h7 (rc_le hF (by decide)) (rc_le hL (by decide)) (ct_mdl_outWord h9) rfl rfl (by decide) d_mdl_runSum_81 rfl rfl ?_
      cases h
      exact j_vret C E d_mdl_runSum_84
    · rw [if_neg c1] at h
      refine j_aload_n C d_mdl_runSum_19 rfl 0 rfl ?_
      refine j_bipush (v := 16) C d_mdl_runSum_20 rfl (by decide) ?_
      obtain ⟨a10, h11, h⟩ := Option.bind_eq_some_iff.mp h
      obtain ⟨p12, h13, h⟩ := Option.bind_eq_some_iff.mp h
      refine j_callV C (As := [.int 16]) (st := []) (sk' := [.int p12.1]) mk_mdl_nextBytes (Or.inl T_900) T_902 S_37 (ci := 7) rfl h11 (rc_le hF (by decide)) (rc_le hL (by decide)) (ct_mdl_nextBytes h13) rfl rfl (by decide) d_mdl_runSum_22 rfl rfl ?_
      refine j_pop C d_mdl_runSum_25 rfl (by first | rfl | exact va_rf_cat _) ?_
      refine j_aload_n C d_mdl_runSum_26 rfl 0 rfl ?_
      obtain ⟨a14, h15, h⟩ := Option.bind_eq_some_iff.mp h
      obtain ⟨p16, h17, h⟩ := Option.bind_eq_some_iff.mp h
      refine j_callV C (As := []) (st := []) (sk' := [.int p16.1]) mk_mdl_place (Or.inl T_925) T_927 S_43 (ci := 7) rfl h15 (rc_le hF (by decide)) (rc_le hL (by decide)) (ct_mdl_place h17) rfl rfl (by decide) d_mdl_runSum_27 rfl rfl ?_
      refine j_istore C (i := 6) d_mdl_runSum_30 rfl [(6, .int p16.1), (0, va_rf (some a0)), (1, .int x1), (2, .long x2), (4, .int x4), (5, .int x5)] (rc_lt hN (by decide)) (by first | rfl | simp [va_rf_cat, rc_cat_i, rc_cat_l]) ?_
      refine j_iload C d_mdl_runSum_32 rfl 0 rfl ?_
      refine j_if_lt (tgt := 49) C d_mdl_runSum_34 (by decide) rfl (fun c18 => ?_) (fun c18 => ?_)
      · rw [if_pos c18] at h
        refine j_lload_n C d_mdl_runSum_49 rfl 3 rfl ?_
        refine rc_J.sub (lv' := [(0, va_rf (some a0)), (1, .int x1), (4, .int x4), (5, .int x5), (6, .int p16.1)]) [1, 2, 4, 5, 0] rfl ?_
        exact k_mdl_runSum_50 hF hL hN C E (fun w z0 z1 z2 z3 z4 h => ih w z0 z1 z2 z3 z4 h) h
      · rw [if_neg c18] at h
        refine j_lload_n C d_mdl_runSum_37 rfl 3 rfl ?_
        refine j_aload_n C d_mdl_runSum_38 rfl 1 rfl ?_
        obtain ⟨v19, h20, h⟩ := Option.bind_eq_some_iff.mp h
        refine j_getR C fl_mdl_30 h20 d_mdl_runSum_39 rfl ?_
        refine j_iload C d_mdl_runSum_42 rfl 0 rfl ?_
        obtain ⟨v21, h22, h⟩ := Option.bind_eq_some_iff.mp h
        refine j_lald C h22 d_mdl_runSum_44 rfl ?_
        refine j_ladd C d_mdl_runSum_45 rfl ?_
        refine j_goto (tgt := 50) C d_mdl_runSum_46 (by decide) ?_
        refine rc_J.sub (lv' := [(0, va_rf (some a0)), (1, .int x1), (4, .int x4), (5, .int x5), (6, .int p16.1)]) [1, 2, 4, 5, 0] rfl ?_
        exact k_mdl_runSum_50 hF hL hN C E (fun w z0 z1 z2 z3 z4 h => ih w z0 z1 z2 z3 z4 h) h

set_option maxRecDepth 100000 in
set_option maxHeartbeats 4000000 in
theorem ct_mdl_runSum {l : Launch} {G : rc_G} {w : rc_M} {a0 : Nat} {res : rc_M} (h : f_mdl_runSum w a0 = some res) : rc_Ct l G y_mdl_runSum prog_9_method_32_code 7 none 3 67 [va_rf (some a0)] w none res := by
  refine rc_enter (by decide +kernel) (by simp [lg_sl, va_rf_cat, rc_cat_i, rc_cat_l]) ?_
  intro X _ _ hN hF hL C E
  have hlv : lv_args 0 [va_rf (some a0)] = [(0, va_rf (some a0))] := by simp [lv_args, va_rf_cat, rc_cat_i, rc_cat_l]
  rw [hlv]
  clear hlv
  unfold f_mdl_runSum at h
  refine j_aload_n C d_mdl_runSum_0 rfl 0 rfl ?_
  obtain ⟨a1, h2, h⟩ := Option.bind_eq_some_iff.mp h
  obtain ⟨p3, h4, h⟩ := Option.bind_eq_some_iff.mp h
  refine j_callV C (As := []) (st := []) (sk' := [.int p3.1]) mk_mdl_nextWord (Or.inl T_884) T_886 S_33 (ci := 7) rfl h2 (rc_le hF (by decide)) (rc_le hL (by decide)) (ct_mdl_nextWord h4) rfl rfl (by decide) d_mdl_runSum_1 rfl rfl ?_
  refine j_istore_n C (i := 1) d_mdl_runSum_4 rfl rfl [(1, .int p3.1), (0, va_rf (some a0))] (rc_lt hN (by decide)) (by first | rfl | simp [va_rf_cat, rc_cat_i, rc_cat_l]) ?_
  refine j_lconst (v := 0) C d_mdl_runSum_5 rfl (by decide) ?_
  refine j_lstore_n C (i := 2) d_mdl_runSum_6 rfl rfl [(2, .long 0), (1, .int p3.1), (0, va_rf (some a0))] (rc_lt hN (by decide)) (by first | rfl | simp [va_rf_cat, rc_cat_i, rc_cat_l]) ?_
  refine j_iconst (v := 0) C d_mdl_runSum_7 rfl (by decide) ?_
  refine j_istore C (i := 4) d_mdl_runSum_8 rfl [(4, .int 0), (2, .long 0), (1, .int p3.1), (0, va_rf (some a0))] (rc_lt hN (by decide)) (by first | rfl | simp [va_rf_cat, rc_cat_i, rc_cat_l]) ?_
  refine j_iconst (v := 0) C d_mdl_runSum_10 rfl (by decide) ?_
  refine j_istore C (i := 5) d_mdl_runSum_11 rfl [(5, .int 0), (4, .int 0), (2, .long 0), (1, .int p3.1), (0, va_rf (some a0))] (rc_lt hN (by decide)) (by first | rfl | simp [va_rf_cat, rc_cat_i, rc_cat_l]) ?_
  refine rc_J.sub (lv' := [(0, va_rf (some a0)), (1, .int p3.1), (2, .long 0), (4, .int 0), (5, .int 0)]) [4, 3, 2, 1, 0] rfl ?_
  exact k_mdl_runSum_13 hF hL hN C E _ _ _ _ _ _ _ h

