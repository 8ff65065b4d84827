theorem fl_rdr_12 : rc_FL "RecordCalls$Reader" 12 4 0 := ⟨by decide, by decide, Or.inl T_76⟩
theorem fl_rdr_18 : rc_FL "RecordCalls$Reader" 18 4 1 := ⟨by decide, by decide, Or.inl T_77⟩
theorem fl_rdr_22 : rc_FL "RecordCalls$Reader" 22 4 2 := ⟨by decide, by decide, Or.inl T_78⟩
theorem fl_srv_21 : rc_FL "RecordCalls$Server" 21 2 1 := ⟨by decide, by decide, Or.inl T_90⟩
theorem fl_srv_28 : rc_FL "RecordCalls$Server" 28 2 2 := ⟨by decide, by decide, Or.inl T_91⟩
theorem fl_srv_42 : rc_FL "RecordCalls$Server" 42 2 6 := ⟨by decide, by decide, Or.inl T_98⟩
theorem fl_srv_46 : rc_FL "RecordCalls$Server" 46 2 7 := ⟨by decide, by decide, Or.inl T_99⟩
theorem fl_srv_49 : rc_FL "RecordCalls$Server" 49 2 8 := ⟨by decide, by decide, Or.inl T_100⟩
theorem fl_srv_52 : rc_FL "RecordCalls$Server" 52 2 9 := ⟨by decide, by decide, Or.inl T_101⟩
theorem d_rdr_begin_0 : decode prog_4_method_2_code 0 = .ok (.aload_n 0, 1) := by decide +kernel
theorem d_rdr_begin_1 : decode prog_4_method_2_code 1 = .ok (.aload_n 1, 1) := by decide +kernel
theorem d_rdr_begin_2 : decode prog_4_method_2_code 2 = .ok (.putfield 12, 3) := by decide +kernel
theorem d_rdr_begin_5 : decode prog_4_method_2_code 5 = .ok (.aload_n 0, 1) := by decide +kernel
theorem d_rdr_begin_6 : decode prog_4_method_2_code 6 = .ok (.iload_n 2, 1) := by decide +kernel
theorem d_rdr_begin_7 : decode prog_4_method_2_code 7 = .ok (.putfield 18, 3) := by decide +kernel
theorem d_rdr_begin_10 : decode prog_4_method_2_code 10 = .ok (.aload_n 0, 1) := by decide +kernel
theorem d_rdr_begin_11 : decode prog_4_method_2_code 11 = .ok (.iconst 1, 1) := by decide +kernel
theorem d_rdr_begin_12 : decode prog_4_method_2_code 12 = .ok (.putfield 22, 3) := by decide +kernel
theorem d_rdr_begin_15 : decode prog_4_method_2_code 15 = .ok (.return_, 1) := by decide +kernel
theorem d_rdr_row_0 : decode prog_4_method_3_code 0 = .ok (.aload_n 0, 1) := by decide +kernel
theorem d_rdr_row_1 : decode prog_4_method_3_code 1 = .ok (.getfield 12, 3) := by decide +kernel
theorem d_rdr_row_4 : decode prog_4_method_3_code 4 = .ok (.areturn, 1) := by decide +kernel
theorem d_rdr_isGood_0 : decode prog_4_method_4_code 0 = .ok (.aload_n 0, 1) := by decide +kernel
theorem d_rdr_isGood_1 : decode prog_4_method_4_code 1 = .ok (.getfield 22, 3) := by decide +kernel
theorem d_rdr_isGood_4 : decode prog_4_method_4_code 4 = .ok (.ireturn, 1) := by decide +kernel
theorem d_rdr_isAtEnd_0 : decode prog_4_method_5_code 0 = .ok (.aload_n 0, 1) := by decide +kernel
theorem d_rdr_isAtEnd_1 : decode prog_4_method_5_code 1 = .ok (.getfield 18, 3) := by decide +kernel
theorem d_rdr_isAtEnd_4 : decode prog_4_method_5_code 4 = .ok (.aload_n 0, 1) := by decide +kernel
theorem d_rdr_isAtEnd_5 : decode prog_4_method_5_code 5 = .ok (.getfield 12, 3) := by decide +kernel
theorem d_rdr_isAtEnd_8 : decode prog_4_method_5_code 8 = .ok (.invokevirtual 26, 3) := by decide +kernel
theorem d_rdr_isAtEnd_11 : decode prog_4_method_5_code 11 = .ok (.if_icmp .ne 7, 3) := by decide +kernel
theorem d_rdr_isAtEnd_14 : decode prog_4_method_5_code 14 = .ok (.iconst 1, 1) := by decide +kernel
theorem d_rdr_isAtEnd_15 : decode prog_4_method_5_code 15 = .ok (.goto 4, 3) := by decide +kernel
theorem d_rdr_isAtEnd_18 : decode prog_4_method_5_code 18 = .ok (.iconst 0, 1) := by decide +kernel
theorem d_rdr_isAtEnd_19 : decode prog_4_method_5_code 19 = .ok (.ireturn, 1) := by decide +kernel
theorem d_rdr_fail_0 : decode prog_4_method_6_code 0 = .ok (.aload_n 0, 1) := by decide +kernel
theorem d_rdr_fail_1 : decode prog_4_method_6_code 1 = .ok (.iconst 0, 1) := by decide +kernel
theorem d_rdr_fail_2 : decode prog_4_method_6_code 2 = .ok (.putfield 22, 3) := by decide +kernel
theorem d_rdr_fail_5 : decode prog_4_method_6_code 5 = .ok (.return_, 1) := by decide +kernel
theorem d_rdr_nextWord_0 : decode prog_4_method_7_code 0 = .ok (.aload_n 0, 1) := by decide +kernel
theorem d_rdr_nextWord_1 : decode prog_4_method_7_code 1 = .ok (.getfield 22, 3) := by decide +kernel
theorem d_rdr_nextWord_4 : decode prog_4_method_7_code 4 = .ok (.ifCond .eq 19, 3) := by decide +kernel
theorem d_rdr_nextWord_7 : decode prog_4_method_7_code 7 = .ok (.aload_n 0, 1) := by decide +kernel
theorem d_rdr_nextWord_8 : decode prog_4_method_7_code 8 = .ok (.getfield 18, 3) := by decide +kernel
theorem d_rdr_nextWord_11 : decode prog_4_method_7_code 11 = .ok (.aload_n 0, 1) := by decide +kernel
theorem d_rdr_nextWord_12 : decode prog_4_method_7_code 12 = .ok (.getfield 12, 3) := by decide +kernel
theorem d_rdr_nextWord_15 : decode prog_4_method_7_code 15 = .ok (.invokevirtual 26, 3) := by decide +kernel
theorem d_rdr_nextWord_18 : decode prog_4_method_7_code 18 = .ok (.iconst 4, 1) := by decide +kernel
theorem d_rdr_nextWord_19 : decode prog_4_method_7_code 19 = .ok (.isub, 1) := by decide +kernel
theorem d_rdr_nextWord_20 : decode prog_4_method_7_code 20 = .ok (.if_icmp .le 10, 3) := by decide +kernel
theorem d_rdr_nextWord_23 : decode prog_4_method_7_code 23 = .ok (.aload_n 0, 1) := by decide +kernel
theorem d_rdr_nextWord_24 : decode prog_4_method_7_code 24 = .ok (.iconst 0, 1) := by decide +kernel
theorem d_rdr_nextWord_25 : decode prog_4_method_7_code 25 = .ok (.putfield 22, 3) := by decide +kernel
theorem d_rdr_nextWord_28 : decode prog_4_method_7_code 28 = .ok (.iconst 0, 1) := by decide +kernel
theorem d_rdr_nextWord_29 : decode prog_4_method_7_code 29 = .ok (.ireturn, 1) := by decide +kernel
theorem d_rdr_nextWord_30 : decode prog_4_method_7_code 30 = .ok (.aload_n 0, 1) := by decide +kernel
theorem d_rdr_nextWord_31 : decode prog_4_method_7_code 31 = .ok (.dup, 1) := by decide +kernel
theorem d_rdr_nextWord_32 : decode prog_4_method_7_code 32 = .ok (.getfield 18, 3) := by decide +kernel
theorem d_rdr_nextWord_35 : decode prog_4_method_7_code 35 = .ok (.iconst 4, 1) := by decide +kernel
theorem d_rdr_nextWord_36 : decode prog_4_method_7_code 36 = .ok (.iadd, 1) := by decide +kernel
theorem d_rdr_nextWord_37 : decode prog_4_method_7_code 37 = .ok (.putfield 18, 3) := by decide +kernel
theorem d_rdr_nextWord_40 : decode prog_4_method_7_code 40 = .ok (.aload_n 0, 1) := by decide +kernel
theorem d_rdr_nextWord_41 : decode prog_4_method_7_code 41 = .ok (.getfield 12, 3) := by decide +kernel
theorem d_rdr_nextWord_44 : decode prog_4_method_7_code 44 = .ok (.aload_n 0, 1) := by decide +kernel
theorem d_rdr_nextWord_45 : decode prog_4_method_7_code 45 = .ok (.getfield 18, 3) := by decide +kernel
theorem d_rdr_nextWord_48 : decode prog_4_method_7_code 48 = .ok (.iconst 4, 1) := by decide +kernel
theorem d_rdr_nextWord_49 : decode prog_4_method_7_code 49 = .ok (.isub, 1) := by decide +kernel
theorem d_rdr_nextWord_50 : decode prog_4_method_7_code 50 = .ok (.invokevirtual 30, 3) := by decide +kernel
theorem d_rdr_nextWord_53 : decode prog_4_method_7_code 53 = .ok (.ireturn, 1) := by decide +kernel
theorem d_rdr_nextLong_0 : decode prog_4_method_8_code 0 = .ok (.aload_n 0, 1) := by decide +kernel
theorem d_rdr_nextLong_1 : decode prog_4_method_8_code 1 = .ok (.invokevirtual 34, 3) := by decide +kernel
theorem d_rdr_nextLong_4 : decode prog_4_method_8_code 4 = .ok (.i2l, 1) := by decide +kernel
theorem d_rdr_nextLong_5 : decode prog_4_method_8_code 5 = .ok (.lstore_n 1, 1) := by decide +kernel
theorem d_rdr_nextLong_6 : decode prog_4_method_8_code 6 = .ok (.aload_n 0, 1) := by decide +kernel
theorem d_rdr_nextLong_7 : decode prog_4_method_8_code 7 = .ok (.invokevirtual 34, 3) := by decide +kernel
theorem d_rdr_nextLong_10 : decode prog_4_method_8_code 10 = .ok (.i2l, 1) := by decide +kernel
theorem d_rdr_nextLong_11 : decode prog_4_method_8_code 11 = .ok (.ldc2_w 37, 3) := by decide +kernel
theorem d_rdr_nextLong_14 : decode prog_4_method_8_code 14 = .ok (.land, 1) := by decide +kernel
theorem d_rdr_nextLong_15 : decode prog_4_method_8_code 15 = .ok (.lstore_n 3, 1) := by decide +kernel
theorem d_rdr_nextLong_16 : decode prog_4_method_8_code 16 = .ok (.lload_n 1, 1) := by decide +kernel
theorem d_rdr_nextLong_17 : decode prog_4_method_8_code 17 = .ok (.bipush 32, 2) := by decide +kernel
theorem d_rdr_nextLong_19 : decode prog_4_method_8_code 19 = .ok (.lshl, 1) := by decide +kernel
theorem d_rdr_nextLong_20 : decode prog_4_method_8_code 20 = .ok (.lload_n 3, 1) := by decide +kernel
theorem d_rdr_nextLong_21 : decode prog_4_method_8_code 21 = .ok (.lor, 1) := by decide +kernel
theorem d_rdr_nextLong_22 : decode prog_4_method_8_code 22 = .ok (.lreturn, 1) := by decide +kernel
theorem d_rdr_nextBytes_0 : decode prog_4_method_9_code 0 = .ok (.aload_n 0, 1) := by decide +kernel
theorem d_rdr_nextBytes_1 : decode prog_4_method_9_code 1 = .ok (.invokevirtual 34, 3) := by decide +kernel
theorem d_rdr_nextBytes_4 : decode prog_4_method_9_code 4 = .ok (.istore_n 2, 1) := by decide +kernel
theorem d_rdr_nextBytes_5 : decode prog_4_method_9_code 5 = .ok (.aload_n 0, 1) := by decide +kernel
theorem d_rdr_nextBytes_6 : decode prog_4_method_9_code 6 = .ok (.getfield 22, 3) := by decide +kernel
theorem d_rdr_nextBytes_9 : decode prog_4_method_9_code 9 = .ok (.ifCond .eq 31, 3) := by decide +kernel
theorem d_rdr_nextBytes_12 : decode prog_4_method_9_code 12 = .ok (.iload_n 2, 1) := by decide +kernel
theorem d_rdr_nextBytes_13 : decode prog_4_method_9_code 13 = .ok (.ifCond .lt 27, 3) := by decide +kernel
theorem d_rdr_nextBytes_16 : decode prog_4_method_9_code 16 = .ok (.iload_n 2, 1) := by decide +kernel
theorem d_rdr_nextBytes_17 : decode prog_4_method_9_code 17 = .ok (.iload_n 1, 1) := by decide +kernel
theorem d_rdr_nextBytes_18 : decode prog_4_method_9_code 18 = .ok (.if_icmp .gt 22, 3) := by decide +kernel
theorem d_rdr_nextBytes_21 : decode prog_4_method_9_code 21 = .ok (.iload_n 2, 1) := by decide +kernel
theorem d_rdr_nextBytes_22 : decode prog_4_method_9_code 22 = .ok (.invokestatic 39, 3) := by decide +kernel
theorem d_rdr_nextBytes_25 : decode prog_4_method_9_code 25 = .ok (.aload_n 0, 1) := by decide +kernel
theorem d_rdr_nextBytes_26 : decode prog_4_method_9_code 26 = .ok (.getfield 12, 3) := by decide +kernel
theorem d_rdr_nextBytes_29 : decode prog_4_method_9_code 29 = .ok (.invokevirtual 26, 3) := by decide +kernel
theorem d_rdr_nextBytes_32 : decode prog_4_method_9_code 32 = .ok (.aload_n 0, 1) := by decide +kernel
theorem d_rdr_nextBytes_33 : decode prog_4_method_9_code 33 = .ok (.getfield 18, 3) := by decide +kernel
theorem d_rdr_nextBytes_36 : decode prog_4_method_9_code 36 = .ok (.isub, 1) := by decide +kernel
theorem d_rdr_nextBytes_37 : decode prog_4_method_9_code 37 = .ok (.if_icmp .le 10, 3) := by decide +kernel
theorem d_rdr_nextBytes_40 : decode prog_4_method_9_code 40 = .ok (.aload_n 0, 1) := by decide +kernel
theorem d_rdr_nextBytes_41 : decode prog_4_method_9_code 41 = .ok (.iconst 0, 1) := by decide +kernel
theorem d_rdr_nextBytes_42 : decode prog_4_method_9_code 42 = .ok (.putfield 22, 3) := by decide +kernel
theorem d_rdr_nextBytes_45 : decode prog_4_method_9_code 45 = .ok (.iconst 0, 1) := by decide +kernel
theorem d_rdr_nextBytes_46 : decode prog_4_method_9_code 46 = .ok (.ireturn, 1) := by decide +kernel
theorem d_rdr_nextBytes_47 : decode prog_4_method_9_code 47 = .ok (.iload_n 2, 1) := by decide +kernel
theorem d_rdr_nextBytes_48 : decode prog_4_method_9_code 48 = .ok (.istore_n 3, 1) := by decide +kernel
theorem d_rdr_nextBytes_49 : decode prog_4_method_9_code 49 = .ok (.iload_n 3, 1) := by decide +kernel
theorem d_rdr_nextBytes_50 : decode prog_4_method_9_code 50 = .ok (.iload_n 2, 1) := by decide +kernel
theorem d_rdr_nextBytes_51 : decode prog_4_method_9_code 51 = .ok (.invokestatic 39, 3) := by decide +kernel
theorem d_rdr_nextBytes_54 : decode prog_4_method_9_code 54 = .ok (.if_icmp .ge 30, 3) := by decide +kernel
theorem d_rdr_nextBytes_57 : decode prog_4_method_9_code 57 = .ok (.aload_n 0, 1) := by decide +kernel
theorem d_rdr_nextBytes_58 : decode prog_4_method_9_code 58 = .ok (.getfield 12, 3) := by decide +kernel
theorem d_rdr_nextBytes_61 : decode prog_4_method_9_code 61 = .ok (.aload_n 0, 1) := by decide +kernel
theorem d_rdr_nextBytes_62 : decode prog_4_method_9_code 62 = .ok (.getfield 18, 3) := by decide +kernel
theorem d_rdr_nextBytes_65 : decode prog_4_method_9_code 65 = .ok (.iload_n 3, 1) := by decide +kernel
theorem d_rdr_nextBytes_66 : decode prog_4_method_9_code 66 = .ok (.iadd, 1) := by decide +kernel
theorem d_rdr_nextBytes_67 : decode prog_4_method_9_code 67 = .ok (.invokevirtual 42, 3) := by decide +kernel
theorem d_rdr_nextBytes_70 : decode prog_4_method_9_code 70 = .ok (.ifCond .eq 8, 3) := by decide +kernel
theorem d_rdr_nextBytes_73 : decode prog_4_method_9_code 73 = .ok (.aload_n 0, 1) := by decide +kernel
theorem d_rdr_nextBytes_74 : decode prog_4_method_9_code 74 = .ok (.iconst 0, 1) := by decide +kernel
theorem d_rdr_nextBytes_75 : decode prog_4_method_9_code 75 = .ok (.putfield 22, 3) := by decide +kernel
theorem d_rdr_nextBytes_78 : decode prog_4_method_9_code 78 = .ok (.iinc 3 1, 3) := by decide +kernel
theorem d_rdr_nextBytes_81 : decode prog_4_method_9_code 81 = .ok (.goto (-32), 3) := by decide +kernel
theorem d_rdr_nextBytes_84 : decode prog_4_method_9_code 84 = .ok (.aload_n 0, 1) := by decide +kernel
theorem d_rdr_nextBytes_85 : decode prog_4_method_9_code 85 = .ok (.dup, 1) := by decide +kernel
theorem d_rdr_nextBytes_86 : decode prog_4_method_9_code 86 = .ok (.getfield 18, 3) := by decide +kernel
theorem d_rdr_nextBytes_89 : decode prog_4_method_9_code 89 = .ok (.iload_n 2, 1) := by decide +kernel
theorem d_rdr_nextBytes_90 : decode prog_4_method_9_code 90 = .ok (.invokestatic 39, 3) := by decide +kernel
theorem d_rdr_nextBytes_93 : decode prog_4_method_9_code 93 = .ok (.iadd, 1) := by decide +kernel
theorem d_rdr_nextBytes_94 : decode prog_4_method_9_code 94 = .ok (.putfield 18, 3) := by decide +kernel
theorem d_rdr_nextBytes_97 : decode prog_4_method_9_code 97 = .ok (.iload_n 2, 1) := by decide +kernel
theorem d_rdr_nextBytes_98 : decode prog_4_method_9_code 98 = .ok (.ireturn, 1) := by decide +kernel
theorem d_rdr_startOfBytes_0 : decode prog_4_method_10_code 0 = .ok (.aload_n 0, 1) := by decide +kernel
theorem d_rdr_startOfBytes_1 : decode prog_4_method_10_code 1 = .ok (.getfield 18, 3) := by decide +kernel
theorem d_rdr_startOfBytes_4 : decode prog_4_method_10_code 4 = .ok (.iload_n 1, 1) := by decide +kernel
theorem d_rdr_startOfBytes_5 : decode prog_4_method_10_code 5 = .ok (.invokestatic 39, 3) := by decide +kernel
theorem d_rdr_startOfBytes_8 : decode prog_4_method_10_code 8 = .ok (.isub, 1) := by decide +kernel
theorem d_rdr_startOfBytes_9 : decode prog_4_method_10_code 9 = .ok (.ireturn, 1) := by decide +kernel
theorem d_srv_init_0 : decode prog_7_method_1_code 0 = .ok (.aload_n 0, 1) := by decide +kernel
theorem d_srv_init_1 : decode prog_7_method_1_code 1 = .ok (.invokespecial 3, 3) := by decide +kernel
theorem d_srv_init_4 : decode prog_7_method_1_code 4 = .ok (.aload_n 0, 1) := by decide +kernel
theorem d_srv_init_5 : decode prog_7_method_1_code 5 = .ok (.new 9, 3) := by decide +kernel
theorem d_srv_init_8 : decode prog_7_method_1_code 8 = .ok (.dup, 1) := by decide +kernel
theorem d_srv_init_9 : decode prog_7_method_1_code 9 = .ok (.invokespecial 11, 3) := by decide +kernel
theorem d_srv_init_12 : decode prog_7_method_1_code 12 = .ok (.putfield 12, 3) := by decide +kernel
theorem d_srv_init_15 : decode prog_7_method_1_code 15 = .ok (.aload_n 0, 1) := by decide +kernel
theorem d_srv_init_16 : decode prog_7_method_1_code 16 = .ok (.new 18, 3) := by decide +kernel
theorem d_srv_init_19 : decode prog_7_method_1_code 19 = .ok (.dup, 1) := by decide +kernel
theorem d_srv_init_20 : decode prog_7_method_1_code 20 = .ok (.invokespecial 20, 3) := by decide +kernel
theorem d_srv_init_23 : decode prog_7_method_1_code 23 = .ok (.putfield 21, 3) := by decide +kernel
theorem d_srv_init_26 : decode prog_7_method_1_code 26 = .ok (.aload_n 0, 1) := by decide +kernel
theorem d_srv_init_27 : decode prog_7_method_1_code 27 = .ok (.new 25, 3) := by decide +kernel
theorem d_srv_init_30 : decode prog_7_method_1_code 30 = .ok (.dup, 1) := by decide +kernel
theorem d_srv_init_31 : decode prog_7_method_1_code 31 = .ok (.invokespecial 27, 3) := by decide +kernel
theorem d_srv_init_34 : decode prog_7_method_1_code 34 = .ok (.putfield 28, 3) := by decide +kernel
theorem d_srv_init_37 : decode prog_7_method_1_code 37 = .ok (.aload_n 0, 1) := by decide +kernel
theorem d_srv_init_38 : decode prog_7_method_1_code 38 = .ok (.iconst 0, 1) := by decide +kernel
theorem d_srv_init_39 : decode prog_7_method_1_code 39 = .ok (.putfield 32, 3) := by decide +kernel
theorem d_srv_init_42 : decode prog_7_method_1_code 42 = .ok (.aload_n 0, 1) := by decide +kernel
theorem d_srv_init_43 : decode prog_7_method_1_code 43 = .ok (.iconst 0, 1) := by decide +kernel
theorem d_srv_init_44 : decode prog_7_method_1_code 44 = .ok (.putfield 36, 3) := by decide +kernel
theorem d_srv_init_47 : decode prog_7_method_1_code 47 = .ok (.aload_n 0, 1) := by decide +kernel
theorem d_srv_init_48 : decode prog_7_method_1_code 48 = .ok (.iconst 0, 1) := by decide +kernel
theorem d_srv_init_49 : decode prog_7_method_1_code 49 = .ok (.putfield 39, 3) := by decide +kernel
theorem d_srv_init_52 : decode prog_7_method_1_code 52 = .ok (.aload_n 0, 1) := by decide +kernel
theorem d_srv_init_53 : decode prog_7_method_1_code 53 = .ok (.bipush 8, 2) := by decide +kernel
theorem d_srv_init_55 : decode prog_7_method_1_code 55 = .ok (.newarray .int, 2) := by decide +kernel
theorem d_srv_init_57 : decode prog_7_method_1_code 57 = .ok (.putfield 42, 3) := by decide +kernel
theorem d_srv_init_60 : decode prog_7_method_1_code 60 = .ok (.aload_n 0, 1) := by decide +kernel
theorem d_srv_init_61 : decode prog_7_method_1_code 61 = .ok (.bipush 8, 2) := by decide +kernel
theorem d_srv_init_63 : decode prog_7_method_1_code 63 = .ok (.newarray .int, 2) := by decide +kernel
theorem d_srv_init_65 : decode prog_7_method_1_code 65 = .ok (.putfield 46, 3) := by decide +kernel
theorem d_srv_init_68 : decode prog_7_method_1_code 68 = .ok (.aload_n 0, 1) := by decide +kernel
theorem d_srv_init_69 : decode prog_7_method_1_code 69 = .ok (.iconst 0, 1) := by decide +kernel
theorem d_srv_init_70 : decode prog_7_method_1_code 70 = .ok (.putfield 49, 3) := by decide +kernel
theorem d_srv_init_73 : decode prog_7_method_1_code 73 = .ok (.aload_n 0, 1) := by decide +kernel
theorem d_srv_init_74 : decode prog_7_method_1_code 74 = .ok (.iconst 0, 1) := by decide +kernel
theorem d_srv_init_75 : decode prog_7_method_1_code 75 = .ok (.putfield 52, 3) := by decide +kernel
theorem d_srv_init_78 : decode prog_7_method_1_code 78 = .ok (.aload_n 0, 1) := by decide +kernel
theorem d_srv_init_79 : decode prog_7_method_1_code 79 = .ok (.lconst 0, 1) := by decide +kernel
theorem d_srv_init_80 : decode prog_7_method_1_code 80 = .ok (.putfield 55, 3) := by decide +kernel
theorem d_srv_init_83 : decode prog_7_method_1_code 83 = .ok (.aload_n 0, 1) := by decide +kernel
theorem d_srv_init_84 : decode prog_7_method_1_code 84 = .ok (.iconst 0, 1) := by decide +kernel
theorem d_srv_init_85 : decode prog_7_method_1_code 85 = .ok (.putfield 59, 3) := by decide +kernel
theorem d_srv_init_88 : decode prog_7_method_1_code 88 = .ok (.aload_n 0, 1) := by decide +kernel
theorem d_srv_init_89 : decode prog_7_method_1_code 89 = .ok (.iconst 0, 1) := by decide +kernel
theorem d_srv_init_90 : decode prog_7_method_1_code 90 = .ok (.putfield 62, 3) := by decide +kernel
theorem d_srv_init_93 : decode prog_7_method_1_code 93 = .ok (.return_, 1) := by decide +kernel
theorem d_srv_verdictOnVersion_0 : decode prog_7_method_4_code 0 = .ok (.iload_n 1, 1) := by decide +kernel
theorem d_srv_verdictOnVersion_1 : decode prog_7_method_4_code 1 = .ok (.iconst 1, 1) := by decide +kernel
theorem d_srv_verdictOnVersion_2 : decode prog_7_method_4_code 2 = .ok (.if_icmp .eq 10, 3) := by decide +kernel
theorem d_srv_verdictOnVersion_5 : decode prog_7_method_4_code 5 = .ok (.iload_n 1, 1) := by decide +kernel
theorem d_srv_verdictOnVersion_6 : decode prog_7_method_4_code 6 = .ok (.iconst 2, 1) := by decide +kernel
theorem d_srv_verdictOnVersion_7 : decode prog_7_method_4_code 7 = .ok (.if_icmp .eq 5, 3) := by decide +kernel
theorem d_srv_verdictOnVersion_10 : decode prog_7_method_4_code 10 = .ok (.iconst 2, 1) := by decide +kernel
theorem d_srv_verdictOnVersion_11 : decode prog_7_method_4_code 11 = .ok (.ireturn, 1) := by decide +kernel
theorem d_srv_verdictOnVersion_12 : decode prog_7_method_4_code 12 = .ok (.iload_n 1, 1) := by decide +kernel
theorem d_srv_verdictOnVersion_13 : decode prog_7_method_4_code 13 = .ok (.iconst 1, 1) := by decide +kernel
theorem d_srv_verdictOnVersion_14 : decode prog_7_method_4_code 14 = .ok (.if_icmp .ne 7, 3) := by decide +kernel
theorem d_srv_verdictOnVersion_17 : decode prog_7_method_4_code 17 = .ok (.iconst 4, 1) := by decide +kernel
theorem d_srv_verdictOnVersion_18 : decode prog_7_method_4_code 18 = .ok (.goto 5, 3) := by decide +kernel
theorem d_srv_verdictOnVersion_21 : decode prog_7_method_4_code 21 = .ok (.bipush 6, 2) := by decide +kernel
theorem d_srv_verdictOnVersion_23 : decode prog_7_method_4_code 23 = .ok (.istore_n 2, 1) := by decide +kernel
theorem d_srv_verdictOnVersion_24 : decode prog_7_method_4_code 24 = .ok (.aload_n 0, 1) := by decide +kernel
theorem d_srv_verdictOnVersion_25 : decode prog_7_method_4_code 25 = .ok (.getfield 49, 3) := by decide +kernel
theorem d_srv_verdictOnVersion_28 : decode prog_7_method_4_code 28 = .ok (.ifCond .lt 11, 3) := by decide +kernel
theorem d_srv_verdictOnVersion_31 : decode prog_7_method_4_code 31 = .ok (.aload_n 0, 1) := by decide +kernel
theorem d_srv_verdictOnVersion_32 : decode prog_7_method_4_code 32 = .ok (.getfield 49, 3) := by decide +kernel
theorem d_srv_verdictOnVersion_35 : decode prog_7_method_4_code 35 = .ok (.iload_n 2, 1) := by decide +kernel
theorem d_srv_verdictOnVersion_36 : decode prog_7_method_4_code 36 = .ok (.if_icmp .le 7, 3) := by decide +kernel
theorem d_srv_verdictOnVersion_39 : decode prog_7_method_4_code 39 = .ok (.iconst 3, 1) := by decide +kernel
theorem d_srv_verdictOnVersion_40 : decode prog_7_method_4_code 40 = .ok (.goto 4, 3) := by decide +kernel
theorem d_srv_verdictOnVersion_43 : decode prog_7_method_4_code 43 = .ok (.iconst 0, 1) := by decide +kernel
theorem d_srv_verdictOnVersion_44 : decode prog_7_method_4_code 44 = .ok (.ireturn, 1) := by decide +kernel
theorem d_srv_verdictOn_0 : decode prog_7_method_3_code 0 = .ok (.aload_n 1, 1) := by decide +kernel
theorem d_srv_verdictOn_1 : decode prog_7_method_3_code 1 = .ok (.invokevirtual 65, 3) := by decide +kernel
theorem d_srv_verdictOn_4 : decode prog_7_method_3_code 4 = .ok (.bipush 12, 2) := by decide +kernel
theorem d_srv_verdictOn_6 : decode prog_7_method_3_code 6 = .ok (.if_icmp .ge 5, 3) := by decide +kernel
theorem d_srv_verdictOn_9 : decode prog_7_method_3_code 9 = .ok (.iconst (-1), 1) := by decide +kernel
theorem d_srv_verdictOn_10 : decode prog_7_method_3_code 10 = .ok (.ireturn, 1) := by decide +kernel
theorem d_srv_verdictOn_11 : decode prog_7_method_3_code 11 = .ok (.aload_n 1, 1) := by decide +kernel
theorem d_srv_verdictOn_12 : decode prog_7_method_3_code 12 = .ok (.bipush 8, 2) := by decide +kernel
theorem d_srv_verdictOn_14 : decode prog_7_method_3_code 14 = .ok (.invokevirtual 69, 3) := by decide +kernel
theorem d_srv_verdictOn_17 : decode prog_7_method_3_code 17 = .ok (.iconst 2, 1) := by decide +kernel
theorem d_srv_verdictOn_18 : decode prog_7_method_3_code 18 = .ok (.if_icmp .eq 5, 3) := by decide +kernel
theorem d_srv_verdictOn_21 : decode prog_7_method_3_code 21 = .ok (.iconst 5, 1) := by decide +kernel
theorem d_srv_verdictOn_22 : decode prog_7_method_3_code 22 = .ok (.ireturn, 1) := by decide +kernel
theorem d_srv_verdictOn_23 : decode prog_7_method_3_code 23 = .ok (.aload_n 0, 1) := by decide +kernel
theorem d_srv_verdictOn_24 : decode prog_7_method_3_code 24 = .ok (.getfield 21, 3) := by decide +kernel
theorem d_srv_verdictOn_27 : decode prog_7_method_3_code 27 = .ok (.aload_n 1, 1) := by decide +kernel
theorem d_srv_verdictOn_28 : decode prog_7_method_3_code 28 = .ok (.bipush 12, 2) := by decide +kernel
theorem d_srv_verdictOn_30 : decode prog_7_method_3_code 30 = .ok (.invokevirtual 98, 3) := by decide +kernel
theorem d_srv_verdictOn_33 : decode prog_7_method_3_code 33 = .ok (.aload_n 0, 1) := by decide +kernel
theorem d_srv_verdictOn_34 : decode prog_7_method_3_code 34 = .ok (.getfield 21, 3) := by decide +kernel
theorem d_srv_verdictOn_37 : decode prog_7_method_3_code 37 = .ok (.invokevirtual 102, 3) := by decide +kernel
theorem d_srv_verdictOn_40 : decode prog_7_method_3_code 40 = .ok (.istore_n 2, 1) := by decide +kernel
theorem d_srv_verdictOn_41 : decode prog_7_method_3_code 41 = .ok (.aload_n 0, 1) := by decide +kernel
theorem d_srv_verdictOn_42 : decode prog_7_method_3_code 42 = .ok (.getfield 21, 3) := by decide +kernel
theorem d_srv_verdictOn_45 : decode prog_7_method_3_code 45 = .ok (.invokevirtual 102, 3) := by decide +kernel
theorem d_srv_verdictOn_48 : decode prog_7_method_3_code 48 = .ok (.istore_n 3, 1) := by decide +kernel
theorem d_srv_verdictOn_49 : decode prog_7_method_3_code 49 = .ok (.aload_n 0, 1) := by decide +kernel
theorem d_srv_verdictOn_50 : decode prog_7_method_3_code 50 = .ok (.aload_n 0, 1) := by decide +kernel
theorem d_srv_verdictOn_51 : decode prog_7_method_3_code 51 = .ok (.getfield 21, 3) := by decide +kernel
theorem d_srv_verdictOn_54 : decode prog_7_method_3_code 54 = .ok (.invokevirtual 102, 3) := by decide +kernel
theorem d_srv_verdictOn_57 : decode prog_7_method_3_code 57 = .ok (.putfield 49, 3) := by decide +kernel
theorem d_srv_verdictOn_60 : decode prog_7_method_3_code 60 = .ok (.aload_n 0, 1) := by decide +kernel
theorem d_srv_verdictOn_61 : decode prog_7_method_3_code 61 = .ok (.getfield 21, 3) := by decide +kernel
theorem d_srv_verdictOn_64 : decode prog_7_method_3_code 64 = .ok (.invokevirtual 102, 3) := by decide +kernel
theorem d_srv_verdictOn_67 : decode prog_7_method_3_code 67 = .ok (.istore 4, 2) := by decide +kernel
theorem d_srv_verdictOn_69 : decode prog_7_method_3_code 69 = .ok (.aload_n 0, 1) := by decide +kernel
theorem d_srv_verdictOn_70 : decode prog_7_method_3_code 70 = .ok (.getfield 21, 3) := by decide +kernel
theorem d_srv_verdictOn_73 : decode prog_7_method_3_code 73 = .ok (.sipush 400, 3) := by decide +kernel
theorem d_srv_verdictOn_76 : decode prog_7_method_3_code 76 = .ok (.invokevirtual 105, 3) := by decide +kernel
theorem d_srv_verdictOn_79 : decode prog_7_method_3_code 79 = .ok (.istore 5, 2) := by decide +kernel
theorem d_srv_verdictOn_81 : decode prog_7_method_3_code 81 = .ok (.aload_n 0, 1) := by decide +kernel
theorem d_srv_verdictOn_82 : decode prog_7_method_3_code 82 = .ok (.getfield 21, 3) := by decide +kernel
theorem d_srv_verdictOn_85 : decode prog_7_method_3_code 85 = .ok (.invokevirtual 102, 3) := by decide +kernel
theorem d_srv_verdictOn_88 : decode prog_7_method_3_code 88 = .ok (.istore 6, 2) := by decide +kernel
theorem d_srv_verdictOn_90 : decode prog_7_method_3_code 90 = .ok (.aload_n 0, 1) := by decide +kernel
theorem d_srv_verdictOn_91 : decode prog_7_method_3_code 91 = .ok (.getfield 21, 3) := by decide +kernel
theorem d_srv_verdictOn_94 : decode prog_7_method_3_code 94 = .ok (.sipush 400, 3) := by decide +kernel
theorem d_srv_verdictOn_97 : decode prog_7_method_3_code 97 = .ok (.invokevirtual 105, 3) := by decide +kernel
theorem d_srv_verdictOn_100 : decode prog_7_method_3_code 100 = .ok (.istore 7, 2) := by decide +kernel
theorem d_srv_verdictOn_102 : decode prog_7_method_3_code 102 = .ok (.aload_n 0, 1) := by decide +kernel
theorem d_srv_verdictOn_103 : decode prog_7_method_3_code 103 = .ok (.getfield 21, 3) := by decide +kernel
theorem d_srv_verdictOn_106 : decode prog_7_method_3_code 106 = .ok (.invokevirtual 108, 3) := by decide +kernel
theorem d_srv_verdictOn_109 : decode prog_7_method_3_code 109 = .ok (.ifCond .ne 5, 3) := by decide +kernel
theorem d_srv_verdictOn_112 : decode prog_7_method_3_code 112 = .ok (.iconst (-1), 1) := by decide +kernel
theorem d_srv_verdictOn_113 : decode prog_7_method_3_code 113 = .ok (.ireturn, 1) := by decide +kernel
theorem d_srv_verdictOn_114 : decode prog_7_method_3_code 114 = .ok (.iload 4, 2) := by decide +kernel
theorem d_srv_verdictOn_116 : decode prog_7_method_3_code 116 = .ok (.ifCond .eq 9, 3) := by decide +kernel
theorem d_srv_verdictOn_119 : decode prog_7_method_3_code 119 = .ok (.iload 4, 2) := by decide +kernel
theorem d_srv_verdictOn_121 : decode prog_7_method_3_code 121 = .ok (.iconst 1, 1) := by decide +kernel
theorem d_srv_verdictOn_122 : decode prog_7_method_3_code 122 = .ok (.if_icmp .ne 13, 3) := by decide +kernel
theorem d_srv_verdictOn_125 : decode prog_7_method_3_code 125 = .ok (.iload 4, 2) := by decide +kernel
theorem d_srv_verdictOn_127 : decode prog_7_method_3_code 127 = .ok (.ifCond .ne 11, 3) := by decide +kernel
theorem d_srv_verdictOn_130 : decode prog_7_method_3_code 130 = .ok (.iload 5, 2) := by decide +kernel
theorem d_srv_verdictOn_132 : decode prog_7_method_3_code 132 = .ok (.ifCond .le 6, 3) := by decide +kernel
theorem d_srv_verdictOn_135 : decode prog_7_method_3_code 135 = .ok (.bipush 11, 2) := by decide +kernel
theorem d_srv_verdictOn_137 : decode prog_7_method_3_code 137 = .ok (.ireturn, 1) := by decide +kernel
theorem d_srv_verdictOn_138 : decode prog_7_method_3_code 138 = .ok (.iload 6, 2) := by decide +kernel
theorem d_srv_verdictOn_140 : decode prog_7_method_3_code 140 = .ok (.ifCond .ne 8, 3) := by decide +kernel
theorem d_srv_verdictOn_143 : decode prog_7_method_3_code 143 = .ok (.iload 7, 2) := by decide +kernel
theorem d_srv_verdictOn_145 : decode prog_7_method_3_code 145 = .ok (.ifCond .le 6, 3) := by decide +kernel
theorem d_srv_verdictOn_148 : decode prog_7_method_3_code 148 = .ok (.bipush 13, 2) := by decide +kernel
theorem d_srv_verdictOn_150 : decode prog_7_method_3_code 150 = .ok (.ireturn, 1) := by decide +kernel
theorem d_srv_verdictOn_151 : decode prog_7_method_3_code 151 = .ok (.iload_n 2, 1) := by decide +kernel
theorem d_srv_verdictOn_152 : decode prog_7_method_3_code 152 = .ok (.ldc 111, 2) := by decide +kernel
theorem d_srv_verdictOn_154 : decode prog_7_method_3_code 154 = .ok (.if_icmp .eq 5, 3) := by decide +kernel
theorem d_srv_verdictOn_157 : decode prog_7_method_3_code 157 = .ok (.iconst 1, 1) := by decide +kernel
theorem d_srv_verdictOn_158 : decode prog_7_method_3_code 158 = .ok (.ireturn, 1) := by decide +kernel
theorem d_srv_verdictOn_159 : decode prog_7_method_3_code 159 = .ok (.aload_n 0, 1) := by decide +kernel
theorem d_srv_verdictOn_160 : decode prog_7_method_3_code 160 = .ok (.iload_n 3, 1) := by decide +kernel
theorem d_srv_verdictOn_161 : decode prog_7_method_3_code 161 = .ok (.invokevirtual 112, 3) := by decide +kernel
theorem d_srv_verdictOn_164 : decode prog_7_method_3_code 164 = .ok (.ireturn, 1) := by decide +kernel
theorem d_srv_takeKey_0 : decode prog_7_method_7_code 0 = .ok (.aload_n 0, 1) := by decide +kernel
theorem d_srv_takeKey_1 : decode prog_7_method_7_code 1 = .ok (.getfield 52, 3) := by decide +kernel
theorem d_srv_takeKey_4 : decode prog_7_method_7_code 4 = .ok (.bipush 8, 2) := by decide +kernel
theorem d_srv_takeKey_6 : decode prog_7_method_7_code 6 = .ok (.if_icmp .lt 11, 3) := by decide +kernel
theorem d_srv_takeKey_9 : decode prog_7_method_7_code 9 = .ok (.aload_n 0, 1) := by decide +kernel
theorem d_srv_takeKey_10 : decode prog_7_method_7_code 10 = .ok (.getfield 21, 3) := by decide +kernel
theorem d_srv_takeKey_13 : decode prog_7_method_7_code 13 = .ok (.invokevirtual 139, 3) := by decide +kernel
theorem d_srv_takeKey_16 : decode prog_7_method_7_code 16 = .ok (.return_, 1) := by decide +kernel
theorem d_srv_takeKey_17 : decode prog_7_method_7_code 17 = .ok (.aload_n 0, 1) := by decide +kernel
theorem d_srv_takeKey_18 : decode prog_7_method_7_code 18 = .ok (.getfield 21, 3) := by decide +kernel
theorem d_srv_takeKey_21 : decode prog_7_method_7_code 21 = .ok (.bipush 16, 2) := by decide +kernel
theorem d_srv_takeKey_23 : decode prog_7_method_7_code 23 = .ok (.invokevirtual 105, 3) := by decide +kernel
theorem d_srv_takeKey_26 : decode prog_7_method_7_code 26 = .ok (.istore_n 1, 1) := by decide +kernel
theorem d_srv_takeKey_27 : decode prog_7_method_7_code 27 = .ok (.aload_n 0, 1) := by decide +kernel
theorem d_srv_takeKey_28 : decode prog_7_method_7_code 28 = .ok (.getfield 46, 3) := by decide +kernel
theorem d_srv_takeKey_31 : decode prog_7_method_7_code 31 = .ok (.aload_n 0, 1) := by decide +kernel
theorem d_srv_takeKey_32 : decode prog_7_method_7_code 32 = .ok (.getfield 52, 3) := by decide +kernel
theorem d_srv_takeKey_35 : decode prog_7_method_7_code 35 = .ok (.iload_n 1, 1) := by decide +kernel
theorem d_srv_takeKey_36 : decode prog_7_method_7_code 36 = .ok (.iastore, 1) := by decide +kernel
theorem d_srv_takeKey_37 : decode prog_7_method_7_code 37 = .ok (.aload_n 0, 1) := by decide +kernel
theorem d_srv_takeKey_38 : decode prog_7_method_7_code 38 = .ok (.getfield 42, 3) := by decide +kernel
theorem d_srv_takeKey_41 : decode prog_7_method_7_code 41 = .ok (.aload_n 0, 1) := by decide +kernel
theorem d_srv_takeKey_42 : decode prog_7_method_7_code 42 = .ok (.getfield 52, 3) := by decide +kernel
theorem d_srv_takeKey_45 : decode prog_7_method_7_code 45 = .ok (.aload_n 0, 1) := by decide +kernel
theorem d_srv_takeKey_46 : decode prog_7_method_7_code 46 = .ok (.getfield 21, 3) := by decide +kernel
theorem d_srv_takeKey_49 : decode prog_7_method_7_code 49 = .ok (.iload_n 1, 1) := by decide +kernel
theorem d_srv_takeKey_50 : decode prog_7_method_7_code 50 = .ok (.invokevirtual 142, 3) := by decide +kernel
theorem d_srv_takeKey_53 : decode prog_7_method_7_code 53 = .ok (.iastore, 1) := by decide +kernel
theorem d_srv_takeKey_54 : decode prog_7_method_7_code 54 = .ok (.aload_n 0, 1) := by decide +kernel
theorem d_srv_takeKey_55 : decode prog_7_method_7_code 55 = .ok (.dup, 1) := by decide +kernel
theorem d_srv_takeKey_56 : decode prog_7_method_7_code 56 = .ok (.getfield 52, 3) := by decide +kernel
theorem d_srv_takeKey_59 : decode prog_7_method_7_code 59 = .ok (.iconst 1, 1) := by decide +kernel
theorem d_srv_takeKey_60 : decode prog_7_method_7_code 60 = .ok (.iadd, 1) := by decide +kernel
theorem d_srv_takeKey_61 : decode prog_7_method_7_code 61 = .ok (.putfield 52, 3) := by decide +kernel
theorem d_srv_takeKey_64 : decode prog_7_method_7_code 64 = .ok (.return_, 1) := by decide +kernel
theorem d_srv_takeKeys_0 : decode prog_7_method_8_code 0 = .ok (.aload_n 0, 1) := by decide +kernel
theorem d_srv_takeKeys_1 : decode prog_7_method_8_code 1 = .ok (.getfield 21, 3) := by decide +kernel
theorem d_srv_takeKeys_4 : decode prog_7_method_8_code 4 = .ok (.invokevirtual 102, 3) := by decide +kernel
theorem d_srv_takeKeys_7 : decode prog_7_method_8_code 7 = .ok (.istore_n 1, 1) := by decide +kernel
theorem d_srv_takeKeys_8 : decode prog_7_method_8_code 8 = .ok (.iload_n 1, 1) := by decide +kernel
theorem d_srv_takeKeys_9 : decode prog_7_method_8_code 9 = .ok (.ifCond .lt 9, 3) := by decide +kernel
theorem d_srv_takeKeys_12 : decode prog_7_method_8_code 12 = .ok (.iload_n 1, 1) := by decide +kernel
theorem d_srv_takeKeys_13 : decode prog_7_method_8_code 13 = .ok (.bipush 8, 2) := by decide +kernel
theorem d_srv_takeKeys_15 : decode prog_7_method_8_code 15 = .ok (.if_icmp .le 11, 3) := by decide +kernel
theorem d_srv_takeKeys_18 : decode prog_7_method_8_code 18 = .ok (.aload_n 0, 1) := by decide +kernel
theorem d_srv_takeKeys_19 : decode prog_7_method_8_code 19 = .ok (.getfield 21, 3) := by decide +kernel
theorem d_srv_takeKeys_22 : decode prog_7_method_8_code 22 = .ok (.invokevirtual 139, 3) := by decide +kernel
theorem d_srv_takeKeys_25 : decode prog_7_method_8_code 25 = .ok (.return_, 1) := by decide +kernel
theorem d_srv_takeKeys_26 : decode prog_7_method_8_code 26 = .ok (.iconst 0, 1) := by decide +kernel
theorem d_srv_takeKeys_27 : decode prog_7_method_8_code 27 = .ok (.istore_n 2, 1) := by decide +kernel
theorem d_srv_takeKeys_28 : decode prog_7_method_8_code 28 = .ok (.iload_n 2, 1) := by decide +kernel
theorem d_srv_takeKeys_29 : decode prog_7_method_8_code 29 = .ok (.iload_n 1, 1) := by decide +kernel
theorem d_srv_takeKeys_30 : decode prog_7_method_8_code 30 = .ok (.if_icmp .ge 13, 3) := by decide +kernel
theorem d_srv_takeKeys_33 : decode prog_7_method_8_code 33 = .ok (.aload_n 0, 1) := by decide +kernel
theorem d_srv_takeKeys_34 : decode prog_7_method_8_code 34 = .ok (.invokevirtual 126, 3) := by decide +kernel
theorem d_srv_takeKeys_37 : decode prog_7_method_8_code 37 = .ok (.iinc 2 1, 3) := by decide +kernel
theorem d_srv_takeKeys_40 : decode prog_7_method_8_code 40 = .ok (.goto (-12), 3) := by decide +kernel
theorem d_srv_takeKeys_43 : decode prog_7_method_8_code 43 = .ok (.return_, 1) := by decide +kernel
theorem d_srv_isTaken_0 : decode prog_7_method_6_code 0 = .ok (.aload_n 0, 1) := by decide +kernel
theorem d_srv_isTaken_1 : decode prog_7_method_6_code 1 = .ok (.iconst 0, 1) := by decide +kernel
theorem d_srv_isTaken_2 : decode prog_7_method_6_code 2 = .ok (.putfield 52, 3) := by decide +kernel
theorem d_srv_isTaken_5 : decode prog_7_method_6_code 5 = .ok (.aload_n 0, 1) := by decide +kernel
theorem d_srv_isTaken_6 : decode prog_7_method_6_code 6 = .ok (.getfield 49, 3) := by decide +kernel
theorem d_srv_isTaken_9 : decode prog_7_method_6_code 9 = .ok (.tableswitch 96 1 6 #[39, 57, 39, 64, 71, 57], 39) := by decide +kernel
theorem d_srv_isTaken_48 : decode prog_7_method_6_code 48 = .ok (.aload_n 0, 1) := by decide +kernel
theorem d_srv_isTaken_49 : decode prog_7_method_6_code 49 = .ok (.invokevirtual 126, 3) := by decide +kernel
theorem d_srv_isTaken_52 : decode prog_7_method_6_code 52 = .ok (.aload_n 0, 1) := by decide +kernel
theorem d_srv_isTaken_53 : decode prog_7_method_6_code 53 = .ok (.aload_n 0, 1) := by decide +kernel
theorem d_srv_isTaken_54 : decode prog_7_method_6_code 54 = .ok (.getfield 21, 3) := by decide +kernel
theorem d_srv_isTaken_57 : decode prog_7_method_6_code 57 = .ok (.invokevirtual 129, 3) := by decide +kernel
theorem d_srv_isTaken_60 : decode prog_7_method_6_code 60 = .ok (.putfield 55, 3) := by decide +kernel
theorem d_srv_isTaken_63 : decode prog_7_method_6_code 63 = .ok (.goto 42, 3) := by decide +kernel
theorem d_srv_isTaken_66 : decode prog_7_method_6_code 66 = .ok (.aload_n 0, 1) := by decide +kernel
theorem d_srv_isTaken_67 : decode prog_7_method_6_code 67 = .ok (.invokevirtual 126, 3) := by decide +kernel
theorem d_srv_isTaken_70 : decode prog_7_method_6_code 70 = .ok (.goto 35, 3) := by decide +kernel
theorem d_srv_isTaken_73 : decode prog_7_method_6_code 73 = .ok (.aload_n 0, 1) := by decide +kernel
theorem d_srv_isTaken_74 : decode prog_7_method_6_code 74 = .ok (.invokevirtual 133, 3) := by decide +kernel
theorem d_srv_isTaken_77 : decode prog_7_method_6_code 77 = .ok (.goto 28, 3) := by decide +kernel
theorem d_srv_isTaken_80 : decode prog_7_method_6_code 80 = .ok (.aload_n 0, 1) := by decide +kernel
theorem d_srv_isTaken_81 : decode prog_7_method_6_code 81 = .ok (.aload_n 0, 1) := by decide +kernel
theorem d_srv_isTaken_82 : decode prog_7_method_6_code 82 = .ok (.getfield 21, 3) := by decide +kernel
theorem d_srv_isTaken_85 : decode prog_7_method_6_code 85 = .ok (.invokevirtual 102, 3) := by decide +kernel
theorem d_srv_isTaken_88 : decode prog_7_method_6_code 88 = .ok (.putfield 59, 3) := by decide +kernel
theorem d_srv_isTaken_91 : decode prog_7_method_6_code 91 = .ok (.aload_n 0, 1) := by decide +kernel
theorem d_srv_isTaken_92 : decode prog_7_method_6_code 92 = .ok (.aload_n 0, 1) := by decide +kernel
theorem d_srv_isTaken_93 : decode prog_7_method_6_code 93 = .ok (.getfield 21, 3) := by decide +kernel
theorem d_srv_isTaken_96 : decode prog_7_method_6_code 96 = .ok (.invokevirtual 102, 3) := by decide +kernel
theorem d_srv_isTaken_99 : decode prog_7_method_6_code 99 = .ok (.putfield 62, 3) := by decide +kernel
theorem d_srv_isTaken_102 : decode prog_7_method_6_code 102 = .ok (.goto 3, 3) := by decide +kernel
theorem d_srv_isTaken_105 : decode prog_7_method_6_code 105 = .ok (.aload_n 0, 1) := by decide +kernel
theorem d_srv_isTaken_106 : decode prog_7_method_6_code 106 = .ok (.getfield 21, 3) := by decide +kernel
theorem d_srv_isTaken_109 : decode prog_7_method_6_code 109 = .ok (.invokevirtual 108, 3) := by decide +kernel
theorem d_srv_isTaken_112 : decode prog_7_method_6_code 112 = .ok (.ifCond .eq 17, 3) := by decide +kernel
theorem d_srv_isTaken_115 : decode prog_7_method_6_code 115 = .ok (.aload_n 0, 1) := by decide +kernel
theorem d_srv_isTaken_116 : decode prog_7_method_6_code 116 = .ok (.getfield 21, 3) := by decide +kernel
theorem d_srv_isTaken_119 : decode prog_7_method_6_code 119 = .ok (.invokevirtual 136, 3) := by decide +kernel
theorem d_srv_isTaken_122 : decode prog_7_method_6_code 122 = .ok (.ifCond .eq 7, 3) := by decide +kernel
theorem d_srv_isTaken_125 : decode prog_7_method_6_code 125 = .ok (.iconst 1, 1) := by decide +kernel
theorem d_srv_isTaken_126 : decode prog_7_method_6_code 126 = .ok (.goto 4, 3) := by decide +kernel
theorem d_srv_isTaken_129 : decode prog_7_method_6_code 129 = .ok (.iconst 0, 1) := by decide +kernel
theorem d_srv_isTaken_130 : decode prog_7_method_6_code 130 = .ok (.ireturn, 1) := by decide +kernel
theorem d_rec_addNobody_0 : decode prog_1_method_22_code 0 = .ok (.aload_n 0, 1) := by decide +kernel
theorem d_rec_addNobody_1 : decode prog_1_method_22_code 1 = .ok (.iconst 0, 1) := by decide +kernel
theorem d_rec_addNobody_2 : decode prog_1_method_22_code 2 = .ok (.invokevirtual 51, 3) := by decide +kernel
theorem d_rec_addNobody_5 : decode prog_1_method_22_code 5 = .ok (.aload_n 0, 1) := by decide +kernel
theorem d_rec_addNobody_6 : decode prog_1_method_22_code 6 = .ok (.iconst 0, 1) := by decide +kernel
theorem d_rec_addNobody_7 : decode prog_1_method_22_code 7 = .ok (.invokevirtual 51, 3) := by decide +kernel
theorem d_rec_addNobody_10 : decode prog_1_method_22_code 10 = .ok (.return_, 1) := by decide +kernel
theorem d_srv_beginReply_0 : decode prog_7_method_5_code 0 = .ok (.aload_n 0, 1) := by decide +kernel
theorem d_srv_beginReply_1 : decode prog_7_method_5_code 1 = .ok (.getfield 28, 3) := by decide +kernel
theorem d_srv_beginReply_4 : decode prog_7_method_5_code 4 = .ok (.invokevirtual 115, 3) := by decide +kernel
theorem d_srv_beginReply_7 : decode prog_7_method_5_code 7 = .ok (.aload_n 0, 1) := by decide +kernel
theorem d_srv_beginReply_8 : decode prog_7_method_5_code 8 = .ok (.getfield 28, 3) := by decide +kernel
theorem d_srv_beginReply_11 : decode prog_7_method_5_code 11 = .ok (.iload_n 1, 1) := by decide +kernel
theorem d_srv_beginReply_12 : decode prog_7_method_5_code 12 = .ok (.invokevirtual 118, 3) := by decide +kernel
theorem d_srv_beginReply_15 : decode prog_7_method_5_code 15 = .ok (.aload_n 0, 1) := by decide +kernel
theorem d_srv_beginReply_16 : decode prog_7_method_5_code 16 = .ok (.getfield 28, 3) := by decide +kernel
theorem d_srv_beginReply_19 : decode prog_7_method_5_code 19 = .ok (.iconst 1, 1) := by decide +kernel
theorem d_srv_beginReply_20 : decode prog_7_method_5_code 20 = .ok (.invokevirtual 118, 3) := by decide +kernel
theorem d_srv_beginReply_23 : decode prog_7_method_5_code 23 = .ok (.iload_n 2, 1) := by decide +kernel
theorem d_srv_beginReply_24 : decode prog_7_method_5_code 24 = .ok (.iconst 5, 1) := by decide +kernel
theorem d_srv_beginReply_25 : decode prog_7_method_5_code 25 = .ok (.if_icmp .ne 38, 3) := by decide +kernel
theorem d_srv_beginReply_28 : decode prog_7_method_5_code 28 = .ok (.aload_n 0, 1) := by decide +kernel
theorem d_srv_beginReply_29 : decode prog_7_method_5_code 29 = .ok (.getfield 28, 3) := by decide +kernel
theorem d_srv_beginReply_32 : decode prog_7_method_5_code 32 = .ok (.iconst 1, 1) := by decide +kernel
theorem d_srv_beginReply_33 : decode prog_7_method_5_code 33 = .ok (.invokevirtual 118, 3) := by decide +kernel
theorem d_srv_beginReply_36 : decode prog_7_method_5_code 36 = .ok (.aload_n 0, 1) := by decide +kernel
theorem d_srv_beginReply_37 : decode prog_7_method_5_code 37 = .ok (.getfield 28, 3) := by decide +kernel
theorem d_srv_beginReply_40 : decode prog_7_method_5_code 40 = .ok (.iconst 0, 1) := by decide +kernel
theorem d_srv_beginReply_41 : decode prog_7_method_5_code 41 = .ok (.invokevirtual 118, 3) := by decide +kernel
theorem d_srv_beginReply_44 : decode prog_7_method_5_code 44 = .ok (.aload_n 0, 1) := by decide +kernel
theorem d_srv_beginReply_45 : decode prog_7_method_5_code 45 = .ok (.getfield 28, 3) := by decide +kernel
theorem d_srv_beginReply_48 : decode prog_7_method_5_code 48 = .ok (.iconst 2, 1) := by decide +kernel
theorem d_srv_beginReply_49 : decode prog_7_method_5_code 49 = .ok (.invokevirtual 118, 3) := by decide +kernel
theorem d_srv_beginReply_52 : decode prog_7_method_5_code 52 = .ok (.aload_n 0, 1) := by decide +kernel
theorem d_srv_beginReply_53 : decode prog_7_method_5_code 53 = .ok (.getfield 28, 3) := by decide +kernel
theorem d_srv_beginReply_56 : decode prog_7_method_5_code 56 = .ok (.iconst 2, 1) := by decide +kernel
theorem d_srv_beginReply_57 : decode prog_7_method_5_code 57 = .ok (.invokevirtual 118, 3) := by decide +kernel
theorem d_srv_beginReply_60 : decode prog_7_method_5_code 60 = .ok (.goto 62, 3) := by decide +kernel
theorem d_srv_beginReply_63 : decode prog_7_method_5_code 63 = .ok (.iload_n 2, 1) := by decide +kernel
theorem d_srv_beginReply_64 : decode prog_7_method_5_code 64 = .ok (.bipush 10, 2) := by decide +kernel
theorem d_srv_beginReply_66 : decode prog_7_method_5_code 66 = .ok (.if_icmp .le 33, 3) := by decide +kernel
theorem d_srv_beginReply_69 : decode prog_7_method_5_code 69 = .ok (.aload_n 0, 1) := by decide +kernel
theorem d_srv_beginReply_70 : decode prog_7_method_5_code 70 = .ok (.getfield 28, 3) := by decide +kernel
theorem d_srv_beginReply_73 : decode prog_7_method_5_code 73 = .ok (.iconst 1, 1) := by decide +kernel
theorem d_srv_beginReply_74 : decode prog_7_method_5_code 74 = .ok (.invokevirtual 118, 3) := by decide +kernel
theorem d_srv_beginReply_77 : decode prog_7_method_5_code 77 = .ok (.aload_n 0, 1) := by decide +kernel
theorem d_srv_beginReply_78 : decode prog_7_method_5_code 78 = .ok (.getfield 28, 3) := by decide +kernel
theorem d_srv_beginReply_81 : decode prog_7_method_5_code 81 = .ok (.iconst 1, 1) := by decide +kernel
theorem d_srv_beginReply_82 : decode prog_7_method_5_code 82 = .ok (.invokevirtual 118, 3) := by decide +kernel
theorem d_srv_beginReply_85 : decode prog_7_method_5_code 85 = .ok (.aload_n 0, 1) := by decide +kernel
theorem d_srv_beginReply_86 : decode prog_7_method_5_code 86 = .ok (.getfield 28, 3) := by decide +kernel
theorem d_srv_beginReply_89 : decode prog_7_method_5_code 89 = .ok (.iload_n 2, 1) := by decide +kernel
theorem d_srv_beginReply_90 : decode prog_7_method_5_code 90 = .ok (.bipush 10, 2) := by decide +kernel
theorem d_srv_beginReply_92 : decode prog_7_method_5_code 92 = .ok (.isub, 1) := by decide +kernel
theorem d_srv_beginReply_93 : decode prog_7_method_5_code 93 = .ok (.invokevirtual 118, 3) := by decide +kernel
theorem d_srv_beginReply_96 : decode prog_7_method_5_code 96 = .ok (.goto 26, 3) := by decide +kernel
theorem d_srv_beginReply_99 : decode prog_7_method_5_code 99 = .ok (.aload_n 0, 1) := by decide +kernel
theorem d_srv_beginReply_100 : decode prog_7_method_5_code 100 = .ok (.getfield 28, 3) := by decide +kernel
theorem d_srv_beginReply_103 : decode prog_7_method_5_code 103 = .ok (.iconst 0, 1) := by decide +kernel
theorem d_srv_beginReply_104 : decode prog_7_method_5_code 104 = .ok (.invokevirtual 118, 3) := by decide +kernel
theorem d_srv_beginReply_107 : decode prog_7_method_5_code 107 = .ok (.aload_n 0, 1) := by decide +kernel
theorem d_srv_beginReply_108 : decode prog_7_method_5_code 108 = .ok (.getfield 28, 3) := by decide +kernel
theorem d_srv_beginReply_111 : decode prog_7_method_5_code 111 = .ok (.invokestatic 122, 3) := by decide +kernel
theorem d_srv_beginReply_114 : decode prog_7_method_5_code 114 = .ok (.aload_n 0, 1) := by decide +kernel
theorem d_srv_beginReply_115 : decode prog_7_method_5_code 115 = .ok (.getfield 28, 3) := by decide +kernel
theorem d_srv_beginReply_118 : decode prog_7_method_5_code 118 = .ok (.iload_n 2, 1) := by decide +kernel
theorem d_srv_beginReply_119 : decode prog_7_method_5_code 119 = .ok (.invokevirtual 118, 3) := by decide +kernel
theorem d_srv_beginReply_122 : decode prog_7_method_5_code 122 = .ok (.iload_n 2, 1) := by decide +kernel
theorem d_srv_beginReply_123 : decode prog_7_method_5_code 123 = .ok (.iconst 2, 1) := by decide +kernel
theorem d_srv_beginReply_124 : decode prog_7_method_5_code 124 = .ok (.if_icmp .ne 19, 3) := by decide +kernel
theorem d_srv_beginReply_127 : decode prog_7_method_5_code 127 = .ok (.aload_n 0, 1) := by decide +kernel
theorem d_srv_beginReply_128 : decode prog_7_method_5_code 128 = .ok (.getfield 28, 3) := by decide +kernel
theorem d_srv_beginReply_131 : decode prog_7_method_5_code 131 = .ok (.iconst 1, 1) := by decide +kernel
theorem d_srv_beginReply_132 : decode prog_7_method_5_code 132 = .ok (.invokevirtual 118, 3) := by decide +kernel
theorem d_srv_beginReply_135 : decode prog_7_method_5_code 135 = .ok (.aload_n 0, 1) := by decide +kernel
theorem d_srv_beginReply_136 : decode prog_7_method_5_code 136 = .ok (.getfield 28, 3) := by decide +kernel
theorem d_srv_beginReply_139 : decode prog_7_method_5_code 139 = .ok (.iconst 2, 1) := by decide +kernel
theorem d_srv_beginReply_140 : decode prog_7_method_5_code 140 = .ok (.invokevirtual 118, 3) := by decide +kernel
theorem d_srv_beginReply_143 : decode prog_7_method_5_code 143 = .ok (.return_, 1) := by decide +kernel
def f_rdr_begin (w : rc_M) (a0 : Nat) (r1 : Option Nat) (x2 : Int32) : Option (rc_M) :=
  (rc_pR w (some a0) 4 0 r1).bind fun w1 =>
  (rc_pI w1 (some a0) 4 1 x2).bind fun w3 =>
  (rc_pZ w3 (some a0) 4 2 1).bind fun w5 =>
  some w5

def f_rdr_row (w : rc_M) (a0 : Nat) : Option (Option Nat × rc_M) :=
  (rc_gR w (some a0) 4 0).bind fun v1 =>
  some (v1, w)

def f_rdr_isGood (w : rc_M) (a0 : Nat) : Option (Int32 × rc_M) :=
  (rc_gI w (some a0) 4 2).bind fun v1 =>
  rc_z1 v1 w

def b_rdr_isAtEnd_19 (w : rc_M) (s0 : Int32) : Option (Int32 × rc_M) :=
  rc_z1 s0 w

def f_rdr_isAtEnd (w : rc_M) (a0 : Nat) : Option (Int32 × rc_M) :=
  (rc_gI w (some a0) 4 1).bind fun v1 =>
  (rc_gR w (some a0) 4 0).bind fun v3 =>
  (rc_rc w v3 1).bind fun a5 =>
  (g_row_size w a5).bind fun p7 =>
  if v1 = p7.1 then
    b_rdr_isAtEnd_19 p7.2 1
  else
    b_rdr_isAtEnd_19 p7.2 0

def f_rdr_fail (w : rc_M) (a0 : Nat) : Option (rc_M) :=
  (rc_pZ w (some a0) 4 2 0).bind fun w1 =>
  some w1

def b_rdr_nextWord_23 (w : rc_M) (a0 : Nat) : Option (Int32 × rc_M) :=
  (rc_pZ w (some a0) 4 2 0).bind fun w1 =>
  some (0, w1)

def f_rdr_nextWord (w : rc_M) (a0 : Nat) : Option (Int32 × rc_M) :=
  (rc_gI w (some a0) 4 2).bind fun v1 =>
  if v1 = 0 then
    b_rdr_nextWord_23 w a0
  else
    (rc_gI w (some a0) 4 1).bind fun v4 =>
    (rc_gR w (some a0) 4 0).bind fun v6 =>
    (rc_rc w v6 1).bind fun a8 =>
    (g_row_size w a8).bind fun p10 =>
    if v4 ≤ (p10.1 - 4) then
      (rc_gI p10.2 (some a0) 4 1).bind fun v13 =>
      (rc_pI p10.2 (some a0) 4 1 (v13 + 4)).bind fun w15 =>
      (rc_gR w15 (some a0) 4 0).bind fun v17 =>
      (rc_gI w15 (some a0) 4 1).bind fun v19 =>
      (rc_rc w15 v17 1).bind fun a21 =>
      (g_row_wordAt w15 a21 (v19 - 4)).bind fun p23 =>
      some (p23.1, p23.2)
    else
      b_rdr_nextWord_23 p10.2 a0

def f_rdr_nextLong (w : rc_M) (a0 : Nat) : Option (Int64 × rc_M) :=
  (rc_rc w (some a0) 4).bind fun a1 =>
  (f_rdr_nextWord w a1).bind fun p3 =>
  (rc_rc p3.2 (some a0) 4).bind fun a5 =>
  (f_rdr_nextWord p3.2 a5).bind fun p7 =>
  some ((p3.1.toInt64 <<< ((32 : Int32).toInt64 &&& 63)) ||| (p7.1.toInt64 &&& 4294967295), p7.2)

def b_rdr_nextBytes_40 (w : rc_M) (a0 : Nat) : Option (Int32 × rc_M) :=
  (rc_pZ w (some a0) 4 2 0).bind fun w1 =>
  some (0, w1)

def b_rdr_nextBytes_78 (k49 : rc_M → Nat → Int32 → Int32 → Option (Int32 × rc_M)) (w : rc_M) (a0 : Nat) (x2 : Int32) (x3 : Int32) : Option (Int32 × rc_M) :=
  k49 w a0 x2 (x3 + 1)

def b_rdr_nextBytes_49 : Nat → rc_M → Nat → Int32 → Int32 → Option (Int32 × rc_M)
  | 0, _, _, _, _ => none
  | fuel + 1, w, a0, x2, x3 =>
    (f_rec_filled w x2).bind fun p1 =>
    if p1.1 ≤ x3 then
      (rc_gI p1.2 (some a0) 4 1).bind fun v4 =>
      (f_rec_filled p1.2 x2).bind fun p6 =>
      (rc_pI p6.2 (some a0) 4 1 (v4 + p6.1)).bind fun w8 =>
      some (x2, w8)
    else
      (rc_gR p1.2 (some a0) 4 0).bind fun v10 =>
      (rc_gI p1.2 (some a0) 4 1).bind fun v12 =>
      (rc_rc p1.2 v10 1).bind fun a14 =>
      (g_row_at p1.2 a14 (v12 + x3)).bind fun p16 =>
      if p16.1 = 0 then
        b_rdr_nextBytes_78 (b_rdr_nextBytes_49 fuel) p16.2 a0 x2 x3
      else
        (rc_pZ p16.2 (some a0) 4 2 0).bind fun w19 =>
        b_rdr_nextBytes_78 (b_rdr_nextBytes_49 fuel) w19 a0 x2 x3

def f_rdr_nextBytes (w : rc_M) (a0 : Nat) (x1 : Int32) : Option (Int32 × rc_M) :=
  (rc_rc w (some a0) 4).bind fun a1 =>
  (f_rdr_nextWord w a1).bind fun p3 =>
  (rc_gI p3.2 (some a0) 4 2).bind fun v5 =>
  if v5 = 0 then
    b_rdr_nextBytes_40 p3.2 a0
  else
    if p3.1 < 0 then
      b_rdr_nextBytes_40 p3.2 a0
    else
      if x1 < p3.1 then
        b_rdr_nextBytes_40 p3.2 a0
      else
        (f_rec_filled p3.2 p3.1).bind fun p10 =>
        (rc_gR p10.2 (some a0) 4 0).bind fun v12 =>
        (rc_rc p10.2 v12 1).bind fun a14 =>
        (g_row_size p10.2 a14).bind fun p16 =>
        (rc_gI p16.2 (some a0) 4 1).bind fun v18 =>
        if p10.1 ≤ (p16.1 - v18) then
          b_rdr_nextBytes_49 5000 p16.2 a0 p3.1 p3.1
        else
          b_rdr_nextBytes_40 p16.2 a0

def f_rdr_startOfBytes (w : rc_M) (a0 : Nat) (x1 : Int32) : Option (Int32 × rc_M) :=
  (rc_gI w (some a0) 4 1).bind fun v1 =>
  (f_rec_filled w x1).bind fun p3 =>
  some (v1 - p3.1, p3.2)

def f_srv_init (w : rc_M) (a0 : Nat) : Option (rc_M) :=
  (rc_new w 3).bind fun p1 =>
  (f_map_init p1.2 p1.1).bind fun w3 =>
  (rc_pR w3 (some a0) 2 0 (some p1.1)).bind fun w5 =>
  (rc_new w5 4).bind fun p7 =>
  (f_rdr_init p7.2 p7.1).bind fun w9 =>
  (rc_pR w9 (some a0) 2 1 (some p7.1)).bind fun w11 =>
  (rc_new w11 1).bind fun p13 =>
  (g_row_init p13.2 p13.1).bind fun w15 =>
  (rc_pR w15 (some a0) 2 2 (some p13.1)).bind fun w17 =>
  (rc_pI w17 (some a0) 2 3 0).bind fun w19 =>
  (rc_pI w19 (some a0) 2 4 0).bind fun w21 =>
  (rc_pI w21 (some a0) 2 5 0).bind fun w23 =>
  (rc_newA w23 0 8).bind fun p25 =>
  (rc_pR p25.2 (some a0) 2 6 (some p25.1)).bind fun w27 =>
  (rc_newA w27 0 8).bind fun p29 =>
  (rc_pR p29.2 (some a0) 2 7 (some p29.1)).bind fun w31 =>
  (rc_pI w31 (some a0) 2 8 0).bind fun w33 =>
  (rc_pI w33 (some a0) 2 9 0).bind fun w35 =>
  (rc_pL w35 (some a0) 2 10 0).bind fun w37 =>
  (rc_pI w37 (some a0) 2 11 0).bind fun w39 =>
  (rc_pI w39 (some a0) 2 12 0).bind fun w41 =>
  some w41

def b_srv_verdictOnVersion_44 (w : rc_M) (s0 : Int32) : Option (Int32 × rc_M) :=
  some (s0, w)

def b_srv_verdictOnVersion_39 (w : rc_M) : Option (Int32 × rc_M) :=
  b_srv_verdictOnVersion_44 w 3

def b_srv_verdictOnVersion_23 (w : rc_M) (a0 : Nat) (s0 : Int32) : Option (Int32 × rc_M) :=
  (rc_gI w (some a0) 2 8).bind fun v1 =>
  if v1 < 0 then
    b_srv_verdictOnVersion_39 w 
  else
    (rc_gI w (some a0) 2 8).bind fun v4 =>
    if v4 ≤ s0 then
      b_srv_verdictOnVersion_44 w 0
    else
      b_srv_verdictOnVersion_39 w 

def b_srv_verdictOnVersion_12 (w : rc_M) (a0 : Nat) (x1 : Int32) : Option (Int32 × rc_M) :=
  if x1 = 1 then
    b_srv_verdictOnVersion_23 w a0 4
  else
    b_srv_verdictOnVersion_23 w a0 6

def f_srv_verdictOnVersion (w : rc_M) (a0 : Nat) (x1 : Int32) : Option (Int32 × rc_M) :=
  if x1 = 1 then
    b_srv_verdictOnVersion_12 w a0 x1
  else
    if x1 = 2 then
      b_srv_verdictOnVersion_12 w a0 x1
    else
      some (2, w)

def b_srv_verdictOn_135 (w : rc_M) : Option (Int32 × rc_M) :=
  some (11, w)

def b_srv_verdictOn_148 (w : rc_M) : Option (Int32 × rc_M) :=
  some (13, w)

def b_srv_verdictOn_138 (w : rc_M) (a0 : Nat) (x2 : Int32) (x3 : Int32) (x6 : Int32) (x7 : Int32) : Option (Int32 × rc_M) :=
  if x6 = 0 then
    if x7 ≤ 0 then
      if x2 = 400100 then
        (rc_rc w (some a0) 2).bind fun a4 =>
        (f_srv_verdictOnVersion w a4 x3).bind fun p6 =>
        some (p6.1, p6.2)
      else
        some (1, w)
    else
      b_srv_verdictOn_148 w 
  else
    b_srv_verdictOn_148 w 

def b_srv_verdictOn_125 (w : rc_M) (a0 : Nat) (x2 : Int32) (x3 : Int32) (x4 : Int32) (x5 : Int32) (x6 : Int32) (x7 : Int32) : Option (Int32 × rc_M) :=
  if x4 = 0 then
    if x5 ≤ 0 then
      b_srv_verdictOn_138 w a0 x2 x3 x6 x7
    else
      b_srv_verdictOn_135 w 
  else
    b_srv_verdictOn_138 w a0 x2 x3 x6 x7

def f_srv_verdictOn (w : rc_M) (a0 : Nat) (r1 : Option Nat) : Option (Int32 × rc_M) :=
  (rc_rc w r1 1).bind fun a1 =>
  (g_row_size w a1).bind fun p3 =>
  if 12 ≤ p3.1 then
    (rc_rc p3.2 r1 1).bind fun a6 =>
    (g_row_wordAt p3.2 a6 8).bind fun p8 =>
    if p8.1 = 2 then
      (rc_gR p8.2 (some a0) 2 1).bind fun v11 =>
      (rc_rc p8.2 v11 4).bind fun a13 =>
      (f_rdr_begin p8.2 a13 r1 12).bind fun w15 =>
      (rc_gR w15 (some a0) 2 1).bind fun v17 =>
      (rc_rc w15 v17 4).bind fun a19 =>
      (f_rdr_nextWord w15 a19).bind fun p21 =>
      (rc_gR p21.2 (some a0) 2 1).bind fun v23 =>
      (rc_rc p21.2 v23 4).bind fun a25 =>
      (f_rdr_nextWord p21.2 a25).bind fun p27 =>
      (rc_gR p27.2 (some a0) 2 1).bind fun v29 =>
      (rc_rc p27.2 v29 4).bind fun a31 =>
      (f_rdr_nextWord p27.2 a31).bind fun p33 =>
      (rc_pI p33.2 (some a0) 2 8 p33.1).bind fun w35 =>
      (rc_gR w35 (some a0) 2 1).bind fun v37 =>
      (rc_rc w35 v37 4).bind fun a39 =>
      (f_rdr_nextWord w35 a39).bind fun p41 =>
      (rc_gR p41.2 (some a0) 2 1).bind fun v43 =>
      (rc_rc p41.2 v43 4).bind fun a45 =>
      (f_rdr_nextBytes p41.2 a45 400).bind fun p47 =>
      (rc_gR p47.2 (some a0) 2 1).bind fun v49 =>
      (rc_rc p47.2 v49 4).bind fun a51 =>
      (f_rdr_nextWord p47.2 a51).bind fun p53 =>
      (rc_gR p53.2 (some a0) 2 1).bind fun v55 =>
      (rc_rc p53.2 v55 4).bind fun a57 =>
      (f_rdr_nextBytes p53.2 a57 400).bind fun p59 =>
      (rc_gR p59.2 (some a0) 2 1).bind fun v61 =>
      (rc_rc p59.2 v61 4).bind fun a63 =>
      (f_rdr_isGood p59.2 a63).bind fun p65 =>
      if p65.1 = 0 then
        some ((-1), p65.2)
      else
        if p41.1 = 0 then
          b_srv_verdictOn_125 p65.2 a0 p21.1 p27.1 p41.1 p47.1 p53.1 p59.1
        else
          if p41.1 = 1 then
            b_srv_verdictOn_125 p65.2 a0 p21.1 p27.1 p41.1 p47.1 p53.1 p59.1
          else
            b_srv_verdictOn_135 p65.2 
    else
      some (5, p8.2)
  else
    some ((-1), p3.2)

def f_srv_takeKey (w : rc_M) (a0 : Nat) : Option (rc_M) :=
  (rc_gI w (some a0) 2 9).bind fun v1 =>
  if v1 < 8 then
    (rc_gR w (some a0) 2 1).bind fun v4 =>
    (rc_rc w v4 4).bind fun a6 =>
    (f_rdr_nextBytes w a6 16).bind fun p8 =>
    (rc_gR p8.2 (some a0) 2 7).bind fun v10 =>
    (rc_gI p8.2 (some a0) 2 9).bind fun v12 =>
    (rc_sI p8.2 v10 0 v12 p8.1).bind fun w14 =>
    (rc_gR w14 (some a0) 2 6).bind fun v16 =>
    (rc_gI w14 (some a0) 2 9).bind fun v18 =>
    (rc_gR w14 (some a0) 2 1).bind fun v20 =>
    (rc_rc w14 v20 4).bind fun a22 =>
    (f_rdr_startOfBytes w14 a22 p8.1).bind fun p24 =>
    (rc_sI p24.2 v16 0 v18 p24.1).bind fun w26 =>
    (rc_gI w26 (some a0) 2 9).bind fun v28 =>
    (rc_pI w26 (some a0) 2 9 (v28 + 1)).bind fun w30 =>
    some w30
  else
    (rc_gR w (some a0) 2 1).bind fun v32 =>
    (rc_rc w v32 4).bind fun a34 =>
    (f_rdr_fail w a34).bind fun w36 =>
    some w36

def b_srv_takeKeys_18 (w : rc_M) (a0 : Nat) : Option (rc_M) :=
  (rc_gR w (some a0) 2 1).bind fun v1 =>
  (rc_rc w v1 4).bind fun a3 =>
  (f_rdr_fail w a3).bind fun w5 =>
  some w5

def b_srv_takeKeys_28 : Nat → rc_M → Nat → Int32 → Int32 → Option (rc_M)
  | 0, _, _, _, _ => none
  | fuel + 1, w, a0, x1, x2 =>
    if x1 ≤ x2 then
      some w
    else
      (rc_rc w (some a0) 2).bind fun a2 =>
      (f_srv_takeKey w a2).bind fun w4 =>
      b_srv_takeKeys_28 fuel w4 a0 x1 (x2 + 1)

def f_srv_takeKeys (w : rc_M) (a0 : Nat) : Option (rc_M) :=
  (rc_gR w (some a0) 2 1).bind fun v1 =>
  (rc_rc w v1 4).bind fun a3 =>
  (f_rdr_nextWord w a3).bind fun p5 =>
  if p5.1 < 0 then
    b_srv_takeKeys_18 p5.2 a0
  else
    if p5.1 ≤ 8 then
      b_srv_takeKeys_28 5000 p5.2 a0 p5.1 0
    else
      b_srv_takeKeys_18 p5.2 a0

def b_srv_isTaken_130 (w : rc_M) (s0 : Int32) : Option (Int32 × rc_M) :=
  rc_z1 s0 w

def b_srv_isTaken_129 (w : rc_M) : Option (Int32 × rc_M) :=
  b_srv_isTaken_130 w 0

def b_srv_isTaken_105 (w : rc_M) (a0 : Nat) : Option (Int32 × rc_M) :=
  (rc_gR w (some a0) 2 1).bind fun v1 =>
  (rc_rc w v1 4).bind fun a3 =>
  (f_rdr_isGood w a3).bind fun p5 =>
  if p5.1 = 0 then
    b_srv_isTaken_129 p5.2 
  else
    (rc_gR p5.2 (some a0) 2 1).bind fun v8 =>
    (rc_rc p5.2 v8 4).bind fun a10 =>
    (f_rdr_isAtEnd p5.2 a10).bind fun p12 =>
    if p12.1 = 0 then
      b_srv_isTaken_129 p12.2 
    else
      b_srv_isTaken_130 p12.2 1

def b_srv_isTaken_48 (w : rc_M) (a0 : Nat) : Option (Int32 × rc_M) :=
  (rc_rc w (some a0) 2).bind fun a1 =>
  (f_srv_takeKey w a1).bind fun w3 =>
  (rc_gR w3 (some a0) 2 1).bind fun v5 =>
  (rc_rc w3 v5 4).bind fun a7 =>
  (f_rdr_nextLong w3 a7).bind fun p9 =>
  (rc_pL p9.2 (some a0) 2 10 p9.1).bind fun w11 =>
  b_srv_isTaken_105 w11 a0

def b_srv_isTaken_66 (w : rc_M) (a0 : Nat) : Option (Int32 × rc_M) :=
  (rc_rc w (some a0) 2).bind fun a1 =>
  (f_srv_takeKey w a1).bind fun w3 =>
  b_srv_isTaken_105 w3 a0

def f_srv_isTaken (w : rc_M) (a0 : Nat) : Option (Int32 × rc_M) :=
  (rc_pI w (some a0) 2 9 0).bind fun w1 =>
  (rc_gI w1 (some a0) 2 8).bind fun v3 =>
  if v3 = 1 then
    b_srv_isTaken_48 w1 a0
  else
    if v3 = 2 then
      b_srv_isTaken_66 w1 a0
    else
      if v3 = 3 then
        b_srv_isTaken_48 w1 a0
      else
        if v3 = 4 then
          (rc_rc w1 (some a0) 2).bind fun a9 =>
          (f_srv_takeKeys w1 a9).bind fun w11 =>
          b_srv_isTaken_105 w11 a0
        else
          if v3 = 5 then
            (rc_gR w1 (some a0) 2 1).bind fun v14 =>
            (rc_rc w1 v14 4).bind fun a16 =>
            (f_rdr_nextWord w1 a16).bind fun p18 =>
            (rc_pI p18.2 (some a0) 2 11 p18.1).bind fun w20 =>
            (rc_gR w20 (some a0) 2 1).bind fun v22 =>
            (rc_rc w20 v22 4).bind fun a24 =>
            (f_rdr_nextWord w20 a24).bind fun p26 =>
            (rc_pI p26.2 (some a0) 2 12 p26.1).bind fun w28 =>
            b_srv_isTaken_105 w28 a0
          else
            if v3 = 6 then
              b_srv_isTaken_66 w1 a0
            else
              b_srv_isTaken_105 w1 a0

def f_rec_addNobody (w : rc_M) (r0 : Option Nat) : Option (rc_M) :=
  (rc_rc w r0 1).bind fun a1 =>
  (g_row_addWord w a1 0).bind fun w3 =>
  (rc_rc w3 r0 1).bind fun a5 =>
  (g_row_addWord w3 a5 0).bind fun w7 =>
  some w7

def b_srv_beginReply_143 (w : rc_M) : Option (rc_M) :=
  some w

def b_srv_beginReply_122 (w : rc_M) (a0 : Nat) (x2 : Int32) : Option (rc_M) :=
  if x2 = 2 then
    (rc_gR w (some a0) 2 2).bind fun v2 =>
    (rc_rc w v2 1).bind fun a4 =>
    (g_row_addWord w a4 1).bind fun w6 =>
    (rc_gR w6 (some a0) 2 2).bind fun v8 =>
    (rc_rc w6 v8 1).bind fun a10 =>
    (g_row_addWord w6 a10 2).bind fun w12 =>
    b_srv_beginReply_143 w12 
  else
    b_srv_beginReply_143 w 

def f_srv_beginReply (w : rc_M) (a0 : Nat) (x1 : Int32) (x2 : Int32) : Option (rc_M) :=
  (rc_gR w (some a0) 2 2).bind fun v1 =>
  (rc_rc w v1 1).bind fun a3 =>
  (g_row_clear w a3).bind fun w5 =>
  (rc_gR w5 (some a0) 2 2).bind fun v7 =>
  (rc_rc w5 v7 1).bind fun a9 =>
  (g_row_addWord w5 a9 x1).bind fun w11 =>
  (rc_gR w11 (some a0) 2 2).bind fun v13 =>
  (rc_rc w11 v13 1).bind fun a15 =>
  (g_row_addWord w11 a15 1).bind fun w17 =>
  if x2 = 5 then
    (rc_gR w17 (some a0) 2 2).bind fun v55 =>
    (rc_rc w17 v55 1).bind fun a57 =>
    (g_row_addWord w17 a57 1).bind fun w59 =>
    (rc_gR w59 (some a0) 2 2).bind fun v61 =>
    (rc_rc w59 v61 1).bind fun a63 =>
    (g_row_addWord w59 a63 0).bind fun w65 =>
    (rc_gR w65 (some a0) 2 2).bind fun v67 =>
    (rc_rc w65 v67 1).bind fun a69 =>
    (g_row_addWord w65 a69 2).bind fun w71 =>
    (rc_gR w71 (some a0) 2 2).bind fun v73 =>
    (rc_rc w71 v73 1).bind fun a75 =>
    (g_row_addWord w71 a75 2).bind fun w77 =>
    b_srv_beginReply_122 w77 a0 x2
  else
    if x2 ≤ 10 then
      (rc_gR w17 (some a0) 2 2).bind fun v21 =>
      (rc_rc w17 v21 1).bind fun a23 =>
      (g_row_addWord w17 a23 0).bind fun w25 =>
      (rc_gR w25 (some a0) 2 2).bind fun v27 =>
      (f_rec_addNobody w25 v27).bind fun w29 =>
      (rc_gR w29 (some a0) 2 2).bind fun v31 =>
      (rc_rc w29 v31 1).bind fun a33 =>
      (g_row_addWord w29 a33 x2).bind fun w35 =>
      b_srv_beginReply_122 w35 a0 x2
    else
      (rc_gR w17 (some a0) 2 2).bind fun v37 =>
      (rc_rc w17 v37 1).bind fun a39 =>
      (g_row_addWord w17 a39 1).bind fun w41 =>
      (rc_gR w41 (some a0) 2 2).bind fun v43 =>
      (rc_rc w41 v43 1).bind fun a45 =>
      (g_row_addWord w41 a45 1).bind fun w47 =>
      (rc_gR w47 (some a0) 2 2).bind fun v49 =>
      (rc_rc w47 v49 1).bind fun a51 =>
      (g_row_addWord w47 a51 (x2 - 10)).bind fun w53 =>
      b_srv_beginReply_122 w53 a0 x2

set_option maxRecDepth 100000 in
set_option maxHeartbeats 4000000 in
theorem ct_rdr_begin {l : Launch} {G : rc_G} {w : rc_M} {a0 : Nat} {r1 : Option Nat} {x2 : Int32} {res : rc_M} (h : f_rdr_begin w a0 r1 x2 = some res) : rc_Ct l G y_rdr_begin prog_4_method_2_code 3 none 0 0 [va_rf (some a0), va_rf r1, .int x2] w none res := by
  refine rc_enter (by decide +kernel) (by simp [lg_sl, va_rf_cat, rc_cat_i, rc_cat_l]) ?_
  intro X _ _ hN hF hL C E
  have hlv : lv_args 0 [va_rf (some a0), va_rf r1, .int x2] = [(0, va_rf (some a0)), (1, va_rf r1), (2, .int x2)] := by simp [lv_args, va_rf_cat, rc_cat_i, rc_cat_l]
  rw [hlv]
  clear hlv
  unfold f_rdr_begin at h
  refine j_aload_n C d_rdr_begin_0 rfl 0 rfl ?_
  refine j_aload_n C d_rdr_begin_1 rfl 1 rfl ?_
  obtain ⟨w1, h2, h⟩ := Option.bind_eq_some_iff.mp h
  refine j_putV C (ci := 4) (k := 0) (by decide) (by decide) T_76 (Or.inl rfl) rfl (by first | rfl | exact rc_fo _ _ | exact rc_fa _ _) h2 d_rdr_begin_2 rfl ?_
  refine j_aload_n C d_rdr_begin_5 rfl 0 rfl ?_
  refine j_iload_n C d_rdr_begin_6 rfl 2 rfl ?_
  obtain ⟨w3, h4, h⟩ := Option.bind_eq_some_iff.mp h
  refine j_putV C (ci := 4) (k := 1) (by decide) (by decide) T_77 (Or.inl rfl) rfl rfl h4 d_rdr_begin_7 rfl ?_
  refine j_aload_n C d_rdr_begin_10 rfl 0 rfl ?_
  refine j_iconst (v := 1) C d_rdr_begin_11 rfl (by decide) ?_
  obtain ⟨w5, h6, h⟩ := Option.bind_eq_some_iff.mp h
  obtain ⟨h6z, h6⟩ := rc_pZ_spec h6
  refine j_putV C (ci := 4) (k := 2) (by decide) (by decide) T_78 (Or.inl rfl) (rc_nz h6z) (rc_fz h6z) h6 d_rdr_begin_12 rfl ?_
  cases h
  exact j_vret C E d_rdr_begin_15

set_option maxRecDepth 100000 in
set_option maxHeartbeats 4000000 in
theorem ct_rdr_row {l : Launch} {G : rc_G} {w : rc_M} {a0 : Nat} {res : Option Nat × rc_M} (h : f_rdr_row w a0 = some res) : rc_Ct l G y_rdr_row prog_4_method_3_code 1 (some (.object "RecordCalls$Row")) 0 0 [va_rf (some a0)] w (some (va_rf res.1)) res.2 := by
  refine rc_enter (by decide +kernel) (by simp [lg_sl, va_rf_cat, rc_cat_i, rc_cat_l]) ?_
  intro X _ _ hN hF hL C E
  have hlv : lv_args 0 [va_rf (some a0)] = [(0, va_rf (some a0))] := by simp [lv_args, va_rf_cat, rc_cat_i, rc_cat_l]
  rw [hlv]
  clear hlv
  unfold f_rdr_row at h
  refine j_aload_n C d_rdr_row_0 rfl 0 rfl ?_
  obtain ⟨v1, h2, h⟩ := Option.bind_eq_some_iff.mp h
  refine j_getR C fl_rdr_12 h2 d_rdr_row_1 rfl ?_
  cases h
  exact j_aret C (by first | exact Or.inl ⟨_, rfl⟩ | exact Or.inr ⟨_, rfl⟩) E d_rdr_row_4

set_option maxRecDepth 100000 in
set_option maxHeartbeats 4000000 in
theorem ct_rdr_isGood {l : Launch} {G : rc_G} {w : rc_M} {a0 : Nat} {res : Int32 × rc_M} (h : f_rdr_isGood w a0 = some res) : rc_Ct l G y_rdr_isGood prog_4_method_4_code 1 (some .boolean) 0 0 [va_rf (some a0)] w (some (.int res.1)) res.2 := by
  refine rc_enter (by decide +kernel) (by simp [lg_sl, va_rf_cat, rc_cat_i, rc_cat_l]) ?_
  intro X _ _ hN hF hL C E
  have hlv : lv_args 0 [va_rf (some a0)] = [(0, va_rf (some a0))] := by simp [lv_args, va_rf_cat, rc_cat_i, rc_cat_l]
  rw [hlv]
  clear hlv
  unfold f_rdr_isGood at h
  refine j_aload_n C d_rdr_isGood_0 rfl 0 rfl ?_
  obtain ⟨v1, h2, h⟩ := Option.bind_eq_some_iff.mp h
  refine j_getI C fl_rdr_22 h2 d_rdr_isGood_1 rfl ?_
  obtain ⟨hz, rfl⟩ := rc_z1_spec h
  exact j_zret C hz E d_rdr_isGood_4

set_option maxRecDepth 100000 in
set_option maxHeartbeats 4000000 in
theorem k_rdr_isAtEnd_19 {X : rc_X} {w0 : rc_M} (hF : (q_R X).frames = 1) (hL : (q_R X).locals = 20) (hN : q_n X = 1) (C : rc_C X "RecordCalls$Reader" prog_4_method_5_code w0) {res : Int32 × rc_M} (E : rc_E0 X y_rdr_isAtEnd (some .boolean) (some (.int res.1)) res.2) {w : rc_M} {s0 : Int32} (h : b_rdr_isAtEnd_19 w s0 = some res) : rc_J X w 19 [.int s0] [] := by
  unfold b_rdr_isAtEnd_19 at h
  obtain ⟨hz, rfl⟩ := rc_z1_spec h
  exact j_zret C hz E d_rdr_isAtEnd_19

set_option maxRecDepth 100000 in
set_option maxHeartbeats 4000000 in
theorem ct_rdr_isAtEnd {l : Launch} {G : rc_G} {w : rc_M} {a0 : Nat} {res : Int32 × rc_M} (h : f_rdr_isAtEnd w a0 = some res) : rc_Ct l G y_rdr_isAtEnd prog_4_method_5_code 1 (some .boolean) 1 20 [va_rf (some a0)] w (some (.int res.1)) res.2 := by
  refine rc_enter (by decide +kernel) (by simp [lg_sl, va_rf_cat, rc_cat_i, rc_cat_l]) ?_
  intro X _ _ hN hF hL C E
  have hlv : lv_args 0 [va_rf (some a0)] = [(0, va_rf (some a0))] := by simp [lv_args, va_rf_cat, rc_cat_i, rc_cat_l]
  rw [hlv]
  clear hlv
  unfold f_rdr_isAtEnd at h
  refine j_aload_n C d_rdr_isAtEnd_0 rfl 0 rfl ?_
  obtain ⟨v1, h2, h⟩ := Option.bind_eq_some_iff.mp h
  refine j_getI C fl_rdr_18 h2 d_rdr_isAtEnd_1 rfl ?_
  refine j_aload_n C d_rdr_isAtEnd_4 rfl 0 rfl ?_
  obtain ⟨v3, h4, h⟩ := Option.bind_eq_some_iff.mp h
  refine j_getR C fl_rdr_12 h4 d_rdr_isAtEnd_5 rfl ?_
  obtain ⟨a5, h6, h⟩ := Option.bind_eq_some_iff.mp h
  obtain ⟨p7, h8, h⟩ := Option.bind_eq_some_iff.mp h
  refine j_callV C (As := []) (st := [.int v1]) (sk' := [.int p7.1, .int v1]) mk_row_size (Or.inl T_502) T_221 T_222 (ci := 1) rfl h6 (rc_le hF (by decide)) (rc_le hL (by decide)) (cg_row_size h8) rfl rfl (by simp [va_rf_cat, rc_cat_i, rc_cat_l]) d_rdr_isAtEnd_8 rfl rfl ?_
  refine j_icmp_ne (tgt := 18) C d_rdr_isAtEnd_11 (by decide) rfl (fun c9 => ?_) (fun c9 => ?_)
  · rw [if_neg c9] at h
    refine j_iconst (v := 0) C d_rdr_isAtEnd_18 rfl (by decide) ?_
    refine rc_J.sub (lv' := []) [] rfl ?_
    exact k_rdr_isAtEnd_19 hF hL hN C E h
  · rw [if_pos c9] at h
    refine j_iconst (v := 1) C d_rdr_isAtEnd_14 rfl (by decide) ?_
    refine j_goto (tgt := 19) C d_rdr_isAtEnd_15 (by decide) ?_
    refine rc_J.sub (lv' := []) [] rfl ?_
    exact k_rdr_isAtEnd_19 hF hL hN C E h

set_option maxRecDepth 100000 in
set_option maxHeartbeats 4000000 in
theorem ct_rdr_fail {l : Launch} {G : rc_G} {w : rc_M} {a0 : Nat} {res : rc_M} (h : f_rdr_fail w a0 = some res) : rc_Ct l G y_rdr_fail prog_4_method_6_code 1 none 0 0 [va_rf (some a0)] w none res := by
  refine rc_enter (by decide +kernel) (by simp [lg_sl, va_rf_cat, rc_cat_i, rc_cat_l]) ?_
  intro X _ _ hN hF hL C E
  have hlv : lv_args 0 [va_rf (some a0)] = [(0, va_rf (some a0))] := by simp [lv_args, va_rf_cat, rc_cat_i, rc_cat_l]
  rw [hlv]
  clear hlv
  unfold f_rdr_fail at h
  refine j_aload_n C d_rdr_fail_0 rfl 0 rfl ?_
  refine j_iconst (v := 0) C d_rdr_fail_1 rfl (by decide) ?_
  obtain ⟨w1, h2, h⟩ := Option.bind_eq_some_iff.mp h
  obtain ⟨h2z, h2⟩ := rc_pZ_spec h2
  refine j_putV C (ci := 4) (k := 2) (by decide) (by decide) T_78 (Or.inl rfl) (rc_nz h2z) (rc_fz h2z) h2 d_rdr_fail_2 rfl ?_
  cases h
  exact j_vret C E d_rdr_fail_5

set_option maxRecDepth 100000 in
set_option maxHeartbeats 4000000 in
theorem k_rdr_nextWord_23 {X : rc_X} {w0 : rc_M} (hF : (q_R X).frames = 1) (hL : (q_R X).locals = 21) (hN : q_n X = 1) (C : rc_C X "RecordCalls$Reader" prog_4_method_7_code w0) {res : Int32 × rc_M} (E : rc_E0 X y_rdr_nextWord (some .int) (some (.int res.1)) res.2) {w : rc_M} {a0 : Nat} (h : b_rdr_nextWord_23 w a0 = some res) : rc_J X w 23 [] [(0, va_rf (some a0))] := by
  unfold b_rdr_nextWord_23 at h
  refine j_aload_n C d_rdr_nextWord_23 rfl 0 rfl ?_
  refine j_iconst (v := 0) C d_rdr_nextWord_24 rfl (by decide) ?_
  obtain ⟨w1, h2, h⟩ := Option.bind_eq_some_iff.mp h
  obtain ⟨h2z, h2⟩ := rc_pZ_spec h2
  refine j_putV C (ci := 4) (k := 2) (by decide) (by decide) T_78 (Or.inl rfl) (rc_nz h2z) (rc_fz h2z) h2 d_rdr_nextWord_25 rfl ?_
  refine j_iconst (v := 0) C d_rdr_nextWord_28 rfl (by decide) ?_
  cases h
  exact j_iret C E d_rdr_nextWord_29

set_option maxRecDepth 100000 in
set_option maxHeartbeats 4000000 in
theorem ct_rdr_nextWord {l : Launch} {G : rc_G} {w : rc_M} {a0 : Nat} {res : Int32 × rc_M} (h : f_rdr_nextWord w a0 = some res) : rc_Ct l G y_rdr_nextWord prog_4_method_7_code 1 (some .int) 1 21 [va_rf (some a0)] w (some (.int res.1)) res.2 := by
  refine rc_enter (by decide +kernel) (by simp [lg_sl, va_rf_cat, rc_cat_i, rc_cat_l]) ?_
  intro X _ _ hN hF hL C E
  have hlv : lv_args 0 [va_rf (some a0)] = [(0, va_rf (some a0))] := by simp [lv_args, va_rf_cat, rc_cat_i, rc_cat_l]
  rw [hlv]
  clear hlv
  unfold f_rdr_nextWord at h
  refine j_aload_n C d_rdr_nextWord_0 rfl 0 rfl ?_
  obtain ⟨v1, h2, h⟩ := Option.bind_eq_some_iff.mp h
  refine j_getI C fl_rdr_22 h2 d_rdr_nextWord_1 rfl ?_
  refine j_if_eq (tgt := 23) C d_rdr_nextWord_4 (by decide) rfl (fun c3 => ?_) (fun c3 => ?_)
  · rw [if_pos c3] at h
    exact k_rdr_nextWord_23 hF hL hN C E h
  · rw [if_neg c3] at h
    refine j_aload_n C d_rdr_nextWord_7 rfl 0 rfl ?_
    obtain ⟨v4, h5, h⟩ := Option.bind_eq_some_iff.mp h
    refine j_getI C fl_rdr_18 h5 d_rdr_nextWord_8 rfl ?_
    refine j_aload_n C d_rdr_nextWord_11 rfl 0 rfl ?_
    obtain ⟨v6, h7, h⟩ := Option.bind_eq_some_iff.mp h
    refine j_getR C fl_rdr_12 h7 d_rdr_nextWord_12 rfl ?_
    obtain ⟨a8, h9, h⟩ := Option.bind_eq_some_iff.mp h
    obtain ⟨p10, h11, h⟩ := Option.bind_eq_some_iff.mp h
    refine j_callV C (As := []) (st := [.int v4]) (sk' := [.int p10.1, .int v4]) mk_row_size (Or.inl T_502) T_221 T_222 (ci := 1) rfl h9 (rc_le hF (by decide)) (rc_le hL (by decide)) (cg_row_size h11) rfl rfl (by simp [va_rf_cat, rc_cat_i, rc_cat_l]) d_rdr_nextWord_15 rfl rfl ?_
    refine j_iconst (v := 4) C d_rdr_nextWord_18 rfl (by decide) ?_
    refine j_isub C d_rdr_nextWord_19 rfl ?_
    refine j_icmp_le (tgt := 30) C d_rdr_nextWord_20 (by decide) rfl (fun c12 => ?_) (fun c12 => ?_)
    · rw [if_pos c12] at h
      refine j_aload_n C d_rdr_nextWord_30 rfl 0 rfl ?_
      refine j_dup C d_rdr_nextWord_31 rfl (by first | rfl | exact va_rf_cat _) ?_
      obtain ⟨v13, h14, h⟩ := Option.bind_eq_some_iff.mp h
      refine j_getI C fl_rdr_18 h14 d_rdr_nextWord_32 rfl ?_
      refine j_iconst (v := 4) C d_rdr_nextWord_35 rfl (by decide) ?_
      refine j_iadd C d_rdr_nextWord_36 rfl ?_
      obtain ⟨w15, h16, h⟩ := Option.bind_eq_some_iff.mp h
      refine j_putV C (ci := 4) (k := 1) (by decide) (by decide) T_77 (Or.inl rfl) rfl rfl h16 d_rdr_nextWord_37 rfl ?_
      refine j_aload_n C d_rdr_nextWord_40 rfl 0 rfl ?_
      obtain ⟨v17, h18, h⟩ := Option.bind_eq_some_iff.mp h
      refine j_getR C fl_rdr_12 h18 d_rdr_nextWord_41 rfl ?_
      refine j_aload_n C d_rdr_nextWord_44 rfl 0 rfl ?_
      obtain ⟨v19, h20, h⟩ := Option.bind_eq_some_iff.mp h
      refine j_getI C fl_rdr_18 h20 d_rdr_nextWord_45 rfl ?_
      refine j_iconst (v := 4) C d_rdr_nextWord_48 rfl (by decide) ?_
      refine j_isub C d_rdr_nextWord_49 rfl ?_
      obtain ⟨a21, h22, h⟩ := Option.bind_eq_some_iff.mp h
      obtain ⟨p23, h24, h⟩ := Option.bind_eq_some_iff.mp h
      refine j_callV C (As := [.int (v19 - 4)]) (st := []) (sk' := [.int p23.1]) mk_row_wordAt (Or.inl T_503) T_483 T_484 (ci := 1) rfl h22 (rc_le hF (by decide)) (rc_le hL (by decide)) (cg_row_wordAt h24) rfl rfl (by decide) d_rdr_nextWord_50 rfl rfl ?_
      cases h
      exact j_iret C E d_rdr_nextWord_53
    · rw [if_neg c12] at h
      exact k_rdr_nextWord_23 hF hL hN C E h

set_option maxRecDepth 100000 in
set_option maxHeartbeats 4000000 in
theorem ct_rdr_nextLong {l : Launch} {G : rc_G} {w : rc_M} {a0 : Nat} {res : Int64 × rc_M} (h : f_rdr_nextLong w a0 = some res) : rc_Ct l G y_rdr_nextLong prog_4_method_8_code 5 (some .long) 2 41 [va_rf (some a0)] w (some (.long res.1)) res.2 := by
  refine rc_enter (by decide +kernel) (by simp [lg_sl, va_rf_cat, rc_cat_i, rc_cat_l]) ?_
  intro X _ _ hN hF hL C E
  have hlv : lv_args 0 [va_rf (some a0)] = [(0, va_rf (some a0))] := by simp [lv_args, va_rf_cat, rc_cat_i, rc_cat_l]
  rw [hlv]
  clear hlv
  unfold f_rdr_nextLong at h
  refine j_aload_n C d_rdr_nextLong_0 rfl 0 rfl ?_
  obtain ⟨a1, h2, h⟩ := Option.bind_eq_some_iff.mp h
  obtain ⟨p3, h4, h⟩ := Option.bind_eq_some_iff.mp h
  refine j_callV C (As := []) (st := []) (sk' := [.int p3.1]) mk_rdr_nextWord (Or.inl T_508) T_499 T_500 (ci := 4) rfl h2 (rc_le hF (by decide)) (rc_le hL (by decide)) (ct_rdr_nextWord h4) rfl rfl (by decide) d_rdr_nextLong_1 rfl rfl ?_
  refine j_i2l C d_rdr_nextLong_4 rfl ?_
  refine j_lstore_n C (i := 1) d_rdr_nextLong_5 rfl rfl [(1, .long p3.1.toInt64), (0, va_rf (some a0))] (rc_lt hN (by decide)) (by first | rfl | simp [va_rf_cat, rc_cat_i, rc_cat_l]) ?_
  refine j_aload_n C d_rdr_nextLong_6 rfl 1 rfl ?_
  obtain ⟨a5, h6, h⟩ := Option.bind_eq_some_iff.mp h
  obtain ⟨p7, h8, h⟩ := Option.bind_eq_some_iff.mp h
  refine j_callV C (As := []) (st := []) (sk' := [.int p7.1]) mk_rdr_nextWord (Or.inl T_508) T_499 T_500 (ci := 4) rfl h6 (rc_le hF (by decide)) (rc_le hL (by decide)) (ct_rdr_nextWord h8) rfl rfl (by decide) d_rdr_nextLong_7 rfl rfl ?_
  refine j_i2l C d_rdr_nextLong_10 rfl ?_
  refine j_ldc2 C d_rdr_nextLong_11 rfl T_540 ?_
  refine j_land C d_rdr_nextLong_14 rfl ?_
  refine j_lstore_n C (i := 3) d_rdr_nextLong_15 rfl rfl [(3, .long (p7.1.toInt64 &&& 4294967295)), (1, .long p3.1.toInt64), (0, va_rf (some a0))] (rc_lt hN (by decide)) (by first | rfl | simp [va_rf_cat, rc_cat_i, rc_cat_l]) ?_
  refine j_lload_n C d_rdr_nextLong_16 rfl 1 rfl ?_
  refine j_bipush (v := 32) C d_rdr_nextLong_17 rfl (by decide) ?_
  refine j_lshl C d_rdr_nextLong_19 rfl ?_
  refine j_lload_n C d_rdr_nextLong_20 rfl 0 rfl ?_
  refine j_lor C d_rdr_nextLong_21 rfl ?_
  cases h
  exact j_lret C E d_rdr_nextLong_22

set_option maxRecDepth 100000 in
set_option maxHeartbeats 4000000 in
theorem k_rdr_nextBytes_40 {X : rc_X} {w0 : rc_M} (hF : (q_R X).frames = 2) (hL : (q_R X).locals = 41) (hN : q_n X = 4) (C : rc_C X "RecordCalls$Reader" prog_4_method_9_code w0) {res : Int32 × rc_M} (E : rc_E0 X y_rdr_nextBytes (some .int) (some (.int res.1)) res.2) {w : rc_M} {a0 : Nat} (h : b_rdr_nextBytes_40 w a0 = some res) : rc_J X w 40 [] [(0, va_rf (some a0))] := by
  unfold b_rdr_nextBytes_40 at h
  refine j_aload_n C d_rdr_nextBytes_40 rfl 0 rfl ?_
  refine j_iconst (v := 0) C d_rdr_nextBytes_41 rfl (by decide) ?_
  obtain ⟨w1, h2, h⟩ := Option.bind_eq_some_iff.mp h
  obtain ⟨h2z, h2⟩ := rc_pZ_spec h2
  refine j_putV C (ci := 4) (k := 2) (by decide) (by decide) T_78 (Or.inl rfl) (rc_nz h2z) (rc_fz h2z) h2 d_rdr_nextBytes_42 rfl ?_
  refine j_iconst (v := 0) C d_rdr_nextBytes_45 rfl (by decide) ?_
  cases h
  exact j_iret C E d_rdr_nextBytes_46

set_option maxRecDepth 100000 in
set_option maxHeartbeats 4000000 in
theorem k_rdr_nextBytes_78 {X : rc_X} {w0 : rc_M} (hF : (q_R X).frames = 2) (hL : (q_R X).locals = 41) (hN : q_n X = 4) (C : rc_C X "RecordCalls$Reader" prog_4_method_9_code w0) {res : Int32 × rc_M} (E : rc_E0 X y_rdr_nextBytes (some .int) (some (.int res.1)) res.2) {k49 : rc_M → Nat → Int32 → Int32 → Option (Int32 × rc_M)} (hk49 : ∀ (w : rc_M) (a0 : Nat) (x2 : Int32) (x3 : Int32), k49 w a0 x2 x3 = some res → rc_J X w 49 [] [(0, va_rf (some a0)), (2, .int x2), (3, .int x3)]) {w : rc_M} {a0 : Nat} {x2 : Int32} {x3 : Int32} (h : b_rdr_nextBytes_78 k49 w a0 x2 x3 = some res) : rc_J X w 78 [] [(0, va_rf (some a0)), (2, .int x2), (3, .int x3)] := by
  unfold b_rdr_nextBytes_78 at h
  refine j_iinc C d_rdr_nextBytes_78 rfl 2 [(3, .int (x3 + 1)), (0, va_rf (some a0)), (2, .int x2)] rfl rfl (rc_lt hN (by decide)) (by first | rfl | simp [va_rf_cat, rc_cat_i, rc_cat_l]) ?_
  refine j_goto (tgt := 49) C d_rdr_nextBytes_81 (by decide) ?_
  refine rc_J.sub (lv' := [(0, va_rf (some a0)), (2, .int x2), (3, .int (x3 + 1))]) [1, 2, 0] rfl ?_
  exact hk49 _ _ _ _ h

set_option maxRecDepth 100000 in
set_option maxHeartbeats 4000000 in
theorem k_rdr_nextBytes_49 {X : rc_X} {w0 : rc_M} (hF : (q_R X).frames = 2) (hL : (q_R X).locals = 41) (hN : q_n X = 4) (C : rc_C X "RecordCalls$Reader" prog_4_method_9_code w0) {res : Int32 × rc_M} (E : rc_E0 X y_rdr_nextBytes (some .int) (some (.int res.1)) res.2) : ∀ (fuel : Nat) (w : rc_M) (a0 : Nat) (x2 : Int32) (x3 : Int32), b_rdr_nextBytes_49 fuel w a0 x2 x3 = some res → rc_J X w 49 [] [(0, va_rf (some a0)), (2, .int x2), (3, .int x3)] := by
  intro fuel
  induction fuel with
  | zero => intro w a0 x2 x3 h; simp [b_rdr_nextBytes_49] at h
  | succ fuel ih =>
    intro w a0 x2 x3 h
    unfold b_rdr_nextBytes_49 at h
    refine j_iload_n C d_rdr_nextBytes_49 rfl 2 rfl ?_
    refine j_iload_n C d_rdr_nextBytes_50 rfl 1 rfl ?_
    obtain ⟨p1, h2, h⟩ := Option.bind_eq_some_iff.mp h
    refine j_callS C (As := [.int x2]) (st := [.int x3]) (sk' := [.int p1.1, .int x3]) mk_rec_filled (Or.inr T_509) T_420 (rc_le hF (by decide)) (rc_le hL (by decide)) (ct_rec_filled h2) rfl rfl (by simp [va_rf_cat, rc_cat_i, rc_cat_l]) d_rdr_nextBytes_51 rfl rfl ?_
    refine j_icmp_ge (tgt := 84) C d_rdr_nextBytes_54 (by decide) rfl (fun c3 => ?_) (fun c3 => ?_)
    · rw [if_pos c3] at h
      refine j_aload_n C d_rdr_nextBytes_84 rfl 0 rfl ?_
      refine j_dup C d_rdr_nextBytes_85 rfl (by first | rfl | exact va_rf_cat _) ?_
      obtain ⟨v4, h5, h⟩ := Option.bind_eq_some_iff.mp h
      refine j_getI C fl_rdr_18 h5 d_rdr_nextBytes_86 rfl ?_
      refine j_iload_n C d_rdr_nextBytes_89 rfl 1 rfl ?_
      obtain ⟨p6, h7, h⟩ := Option.bind_eq_some_iff.mp h
      refine j_callS C (As := [.int x2]) (st := [.int v4, va_rf (some a0)]) (sk' := [.int p6.1, .int v4, va_rf (some a0)]) mk_rec_filled (Or.inr T_509) T_420 (rc_le hF (by decide)) (rc_le hL (by decide)) (ct_rec_filled h7) rfl rfl (by simp [va_rf_cat, rc_cat_i, rc_cat_l]) d_rdr_nextBytes_90 rfl rfl ?_
      refine j_iadd C d_rdr_nextBytes_93 rfl ?_
      obtain ⟨w8, h9, h⟩ := Option.bind_eq_some_iff.mp h
      refine j_putV C (ci := 4) (k := 1) (by decide) (by decide) T_77 (Or.inl rfl) rfl rfl h9 d_rdr_nextBytes_94 rfl ?_
      refine j_iload_n C d_rdr_nextBytes_97 rfl 1 rfl ?_
      cases h
      exact j_iret C E d_rdr_nextBytes_98
    · rw [if_neg c3] at h
      refine j_aload_n C d_rdr_nextBytes_57 rfl 0 rfl ?_
      obtain ⟨v10, h11, h⟩ := Option.bind_eq_some_iff.mp h
      refine j_getR C fl_rdr_12 h11 d_rdr_nextBytes_58 rfl ?_
      refine j_aload_n C d_rdr_nextBytes_61 rfl 0 rfl ?_
      obtain ⟨v12, h13, h⟩ := Option.bind_eq_some_iff.mp h
      refine j_getI C fl_rdr_18 h13 d_rdr_nextBytes_62 rfl ?_
      refine j_iload_n C d_rdr_nextBytes_65 rfl 2 rfl ?_
      refine j_iadd C d_rdr_nextBytes_66 rfl ?_
      obtain ⟨a14, h15, h⟩ := Option.bind_eq_some_iff.mp h
      obtain ⟨p16, h17, h⟩ := Option.bind_eq_some_iff.mp h
      refine j_callV C (As := [.int (v12 + x3)]) (st := []) (sk' := [.int p16.1]) mk_row_at (Or.inl T_510) T_273 T_274 (ci := 1) rfl h15 (rc_le hF (by decide)) (rc_le hL (by decide)) (cg_row_at h17) rfl rfl (by decide) d_rdr_nextBytes_67 rfl rfl ?_
      refine j_if_eq (tgt := 78) C d_rdr_nextBytes_70 (by decide) rfl (fun c18 => ?_) (fun c18 => ?_)
      · rw [if_pos c18] at h
        exact k_rdr_nextBytes_78 hF hL hN C E (fun w z0 z1 z2 h => ih w z0 z1 z2 h) h
      · rw [if_neg c18] at h
        refine j_aload_n C d_rdr_nextBytes_73 rfl 0 rfl ?_
        refine j_iconst (v := 0) C d_rdr_nextBytes_74 rfl (by decide) ?_
        obtain ⟨w19, h20, h⟩ := Option.bind_eq_some_iff.mp h
        obtain ⟨h20z, h20⟩ := rc_pZ_spec h20
        refine j_putV C (ci := 4) (k := 2) (by decide) (by decide) T_78 (Or.inl rfl) (rc_nz h20z) (rc_fz h20z) h20 d_rdr_nextBytes_75 rfl ?_
        exact k_rdr_nextBytes_78 hF hL hN C E (fun w z0 z1 z2 h => ih w z0 z1 z2 h) h

set_option maxRecDepth 100000 in
set_option maxHeartbeats 4000000 in
theorem ct_rdr_nextBytes {l : Launch} {G : rc_G} {w : rc_M} {a0 : Nat} {x1 : Int32} {res : Int32 × rc_M} (h : f_rdr_nextBytes w a0 x1 = some res) : rc_Ct l G y_rdr_nextBytes prog_4_method_9_code 4 (some .int) 2 41 [va_rf (some a0), .int x1] w (some (.int res.1)) res.2 := by
  refine rc_enter (by decide +kernel) (by simp [lg_sl, va_rf_cat, rc_cat_i, rc_cat_l]) ?_
  intro X _ _ hN hF hL C E
  have hlv : lv_args 0 [va_rf (some a0), .int x1] = [(0, va_rf (some a0)), (1, .int x1)] := by simp [lv_args, va_rf_cat, rc_cat_i, rc_cat_l]
  rw [hlv]
  clear hlv
  unfold f_rdr_nextBytes at h
  refine j_aload_n C d_rdr_nextBytes_0 rfl 0 rfl ?_
  obtain ⟨a1, h2, h⟩ := Option.bind_eq_some_iff.mp h
  obtain ⟨p3, h4, h⟩ := Option.bind_eq_some_iff.mp h
  refine j_callV C (As := []) (st := []) (sk' := [.int p3.1]) mk_rdr_nextWord (Or.inl T_508) T_499 T_500 (ci := 4) rfl h2 (rc_le hF (by decide)) (rc_le hL (by decide)) (ct_rdr_nextWord h4) rfl rfl (by decide) d_rdr_nextBytes_1 rfl rfl ?_
  refine j_istore_n C (i := 2) d_rdr_nextBytes_4 rfl rfl [(2, .int p3.1), (0, va_rf (some a0)), (1, .int x1)] (rc_lt hN (by decide)) (by first | rfl | simp [va_rf_cat, rc_cat_i, rc_cat_l]) ?_
  refine j_aload_n C d_rdr_nextBytes_5 rfl 1 rfl ?_
  obtain ⟨v5, h6, h⟩ := Option.bind_eq_some_iff.mp h
  refine j_getI C fl_rdr_22 h6 d_rdr_nextBytes_6 rfl ?_
  refine j_if_eq (tgt := 40) C d_rdr_nextBytes_9 (by decide) rfl (fun c7 => ?_) (fun c7 => ?_)
  · rw [if_pos c7] at h
    refine rc_J.sub (lv' := [(0, va_rf (some a0))]) [1] rfl ?_
    exact k_rdr_nextBytes_40 hF hL hN C E h
  · rw [if_neg c7] at h
    refine j_iload_n C d_rdr_nextBytes_12 rfl 0 rfl ?_
    refine j_if_lt (tgt := 40) C d_rdr_nextBytes_13 (by decide) rfl (fun c8 => ?_) (fun c8 => ?_)
    · rw [if_pos c8] at h
      refine rc_J.sub (lv' := [(0, va_rf (some a0))]) [1] rfl ?_
      exact k_rdr_nextBytes_40 hF hL hN C E h
    · rw [if_neg c8] at h
      refine j_iload_n C d_rdr_nextBytes_16 rfl 0 rfl ?_
      refine j_iload_n C d_rdr_nextBytes_17 rfl 2 rfl ?_
      refine j_icmp_gt (tgt := 40) C d_rdr_nextBytes_18 (by decide) rfl (fun c9 => ?_) (fun c9 => ?_)
      · rw [if_pos c9] at h
        refine rc_J.sub (lv' := [(0, va_rf (some a0))]) [1] rfl ?_
        exact k_rdr_nextBytes_40 hF hL hN C E h
      · rw [if_neg c9] at h
        refine j_iload_n C d_rdr_nextBytes_21 rfl 0 rfl ?_
        obtain ⟨p10, h11, h⟩ := Option.bind_eq_some_iff.mp h
        refine j_callS C (As := [.int p3.1]) (st := []) (sk' := [.int p10.1]) mk_rec_filled (Or.inr T_509) T_420 (rc_le hF (by decide)) (rc_le hL (by decide)) (ct_rec_filled h11) rfl rfl (by decide) d_rdr_nextBytes_22 rfl rfl ?_
        refine j_aload_n C d_rdr_nextBytes_25 rfl 1 rfl ?_
        obtain ⟨v12, h13, h⟩ := Option.bind_eq_some_iff.mp h
        refine j_getR C fl_rdr_12 h13 d_rdr_nextBytes_26 rfl ?_
        obtain ⟨a14, h15, h⟩ := Option.bind_eq_some_iff.mp h
        obtain ⟨p16, h17, h⟩ := Option.bind_eq_some_iff.mp h
        refine j_callV C (As := []) (st := [.int p10.1]) (sk' := [.int p16.1, .int p10.1]) mk_row_size (Or.inl T_502) T_221 T_222 (ci := 1) rfl h15 (rc_le hF (by decide)) (rc_le hL (by decide)) (cg_row_size h17) rfl rfl (by simp [va_rf_cat, rc_cat_i, rc_cat_l]) d_rdr_nextBytes_29 rfl rfl ?_
        refine j_aload_n C d_rdr_nextBytes_32 rfl 1 rfl ?_
        obtain ⟨v18, h19, h⟩ := Option.bind_eq_some_iff.mp h
        refine j_getI C fl_rdr_18 h19 d_rdr_nextBytes_33 rfl ?_
        refine j_isub C d_rdr_nextBytes_36 rfl ?_
        refine j_icmp_le (tgt := 47) C d_rdr_nextBytes_37 (by decide) rfl (fun c20 => ?_) (fun c20 => ?_)
        · rw [if_pos c20] at h
          refine j_iload_n C d_rdr_nextBytes_47 rfl 0 rfl ?_
          refine j_istore_n C (i := 3) d_rdr_nextBytes_48 rfl rfl [(3, .int p3.1), (2, .int p3.1), (0, va_rf (some a0)), (1, .int x1)] (rc_lt hN (by decide)) (by first | rfl | simp [va_rf_cat, rc_cat_i, rc_cat_l]) ?_
          refine rc_J.sub (lv' := [(0, va_rf (some a0)), (2, .int p3.1), (3, .int p3.1)]) [2, 1, 0] rfl ?_
          exact k_rdr_nextBytes_49 hF hL hN C E _ _ _ _ _ h
        · rw [if_neg c20] at h
          refine rc_J.sub (lv' := [(0, va_rf (some a0))]) [1] rfl ?_
          exact k_rdr_nextBytes_40 hF hL hN C E h

set_option maxRecDepth 100000 in
set_option maxHeartbeats 4000000 in
theorem ct_rdr_startOfBytes {l : Launch} {G : rc_G} {w : rc_M} {a0 : Nat} {x1 : Int32} {res : Int32 × rc_M} (h : f_rdr_startOfBytes w a0 x1 = some res) : rc_Ct l G y_rdr_startOfBytes prog_4_method_10_code 2 (some .int) 1 20 [va_rf (some a0), .int x1] w (some (.int res.1)) res.2 := by
  refine rc_enter (by decide +kernel) (by simp [lg_sl, va_rf_cat, rc_cat_i, rc_cat_l]) ?_
  intro X _ _ hN hF hL C E
  have hlv : lv_args 0 [va_rf (some a0), .int x1] = [(0, va_rf (some a0)), (1, .int x1)] := by simp [lv_args, va_rf_cat, rc_cat_i, rc_cat_l]
  rw [hlv]
  clear hlv
  unfold f_rdr_startOfBytes at h
  refine j_aload_n C d_rdr_startOfBytes_0 rfl 0 rfl ?_
  obtain ⟨v1, h2, h⟩ := Option.bind_eq_some_iff.mp h
  refine j_getI C fl_rdr_18 h2 d_rdr_startOfBytes_1 rfl ?_
  refine j_iload_n C d_rdr_startOfBytes_4 rfl 1 rfl ?_
  obtain ⟨p3, h4, h⟩ := Option.bind_eq_some_iff.mp h
  refine j_callS C (As := [.int x1]) (st := [.int v1]) (sk' := [.int p3.1, .int v1]) mk_rec_filled (Or.inr T_509) T_420 (rc_le hF (by decide)) (rc_le hL (by decide)) (ct_rec_filled h4) rfl rfl (by simp [va_rf_cat, rc_cat_i, rc_cat_l]) d_rdr_startOfBytes_5 rfl rfl ?_
  refine j_isub C d_rdr_startOfBytes_8 rfl ?_
  cases h
  exact j_iret C E d_rdr_startOfBytes_9

set_option maxRecDepth 100000 in
set_option maxHeartbeats 4000000 in
theorem ct_srv_init {l : Launch} {G : rc_G} {w : rc_M} {a0 : Nat} {res : rc_M} (h : f_srv_init w a0 = some res) : rc_Ct l G y_srv_init prog_7_method_1_code 1 none 3 61 [va_rf (some a0)] w none res := by
  refine rc_enter (by decide +kernel) (by simp [lg_sl, va_rf_cat, rc_cat_i, rc_cat_l]) ?_
  intro X _ _ hN hF hL C E
  have hlv : lv_args 0 [va_rf (some a0)] = [(0, va_rf (some a0))] := by simp [lv_args, va_rf_cat, rc_cat_i, rc_cat_l]
  rw [hlv]
  clear hlv
  unfold f_srv_init at h
  refine j_aload_n C d_srv_init_0 rfl 0 rfl ?_
  refine j_oinit C rfl T_48 T_24 T_25 (rc_le hF (by decide)) (rc_le hL (by simp [va_rf_cat, rc_cat_i, rc_cat_l])) d_srv_init_1 rfl ?_
  refine j_aload_n C d_srv_init_4 rfl 0 rfl ?_
  obtain ⟨p1, h2, h⟩ := Option.bind_eq_some_iff.mp h
  refine j_new C (ci := 3) (by decide) T_49 T_50 T_4 h2 d_srv_init_5 rfl ?_
  refine j_dup C d_srv_init_8 rfl (by first | rfl | exact va_rf_cat _) ?_
  obtain ⟨w3, h4, h⟩ := Option.bind_eq_some_iff.mp h
  refine j_callI C (As := []) (st := [va_rf (some p1.1), va_rf (some a0)]) mk_map_init (Or.inl T_51) T_52 rfl rfl (rc_le hF (by decide)) (rc_le hL (by decide)) (ct_map_init h4) rfl rfl (by simp [va_rf_cat, rc_cat_i, rc_cat_l]) d_srv_init_9 rfl ?_
  obtain ⟨w5, h6, h⟩ := Option.bind_eq_some_iff.mp h
  refine j_putV C (ci := 2) (k := 0) (by decide) (by decide) T_88 (Or.inr ⟨rfl, E.2.1, rfl⟩) rfl (by first | rfl | exact rc_fo _ _ | exact rc_fa _ _) h6 d_srv_init_12 rfl ?_
  refine j_aload_n C d_srv_init_15 rfl 0 rfl ?_
  obtain ⟨p7, h8, h⟩ := Option.bind_eq_some_iff.mp h
  refine j_new C (ci := 4) (by decide) T_68 T_69 T_5 h8 d_srv_init_16 rfl ?_
  refine j_dup C d_srv_init_19 rfl (by first | rfl | exact va_rf_cat _) ?_
  obtain ⟨w9, h10, h⟩ := Option.bind_eq_some_iff.mp h
  refine j_callI C (As := []) (st := [va_rf (some p7.1), va_rf (some a0)]) mk_rdr_init (Or.inr T_70) T_71 rfl rfl (rc_le hF (by decide)) (rc_le hL (by decide)) (ct_rdr_init h10) rfl rfl (by simp [va_rf_cat, rc_cat_i, rc_cat_l]) d_srv_init_20 rfl ?_
  obtain ⟨w11, h12, h⟩ := Option.bind_eq_some_iff.mp h
  refine j_putV C (ci := 2) (k := 1) (by decide) (by decide) T_90 (Or.inr ⟨rfl, E.2.1, rfl⟩) rfl (by first | rfl | exact rc_fo _ _ | exact rc_fa _ _) h12 d_srv_init_23 rfl ?_
  refine j_aload_n C d_srv_init_26 rfl 0 rfl ?_
  obtain ⟨p13, h14, h⟩ := Option.bind_eq_some_iff.mp h
  refine j_new C (ci := 1) (by decide) T_86 T_27 T_2 h14 d_srv_init_27 rfl ?_
  refine j_dup C d_srv_init_30 rfl (by first | rfl | exact va_rf_cat _) ?_
  obtain ⟨w15, h16, h⟩ := Option.bind_eq_some_iff.mp h
  refine j_callI C (As := []) (st := [va_rf (some p13.1), va_rf (some a0)]) mk_row_init (Or.inr T_87) T_29 rfl rfl (rc_le hF (by decide)) (rc_le hL (by decide)) (cg_row_init h16) rfl rfl (by simp [va_rf_cat, rc_cat_i, rc_cat_l]) d_srv_init_31 rfl ?_
  obtain ⟨w17, h18, h⟩ := Option.bind_eq_some_iff.mp h
  refine j_putV C (ci := 2) (k := 2) (by decide) (by decide) T_91 (Or.inr ⟨rfl, E.2.1, rfl⟩) rfl (by first | rfl | exact rc_fo _ _ | exact rc_fa _ _) h18 d_srv_init_34 rfl ?_
  refine j_aload_n C d_srv_init_37 rfl 0 rfl ?_
  refine j_iconst (v := 0) C d_srv_init_38 rfl (by decide) ?_
  obtain ⟨w19, h20, h⟩ := Option.bind_eq_some_iff.mp h
  refine j_putV C (ci := 2) (k := 3) (by decide) (by decide) T_92 (Or.inl rfl) rfl rfl h20 d_srv_init_39 rfl ?_
  refine j_aload_n C d_srv_init_42 rfl 0 rfl ?_
  refine j_iconst (v := 0) C d_srv_init_43 rfl (by decide) ?_
  obtain ⟨w21, h22, h⟩ := Option.bind_eq_some_iff.mp h
  refine j_putV C (ci := 2) (k := 4) (by decide) (by decide) T_94 (Or.inl rfl) rfl rfl h22 d_srv_init_44 rfl ?_
  refine j_aload_n C d_srv_init_47 rfl 0 rfl ?_
  refine j_iconst (v := 0) C d_srv_init_48 rfl (by decide) ?_
  obtain ⟨w23, h24, h⟩ := Option.bind_eq_some_iff.mp h
  refine j_putV C (ci := 2) (k := 5) (by decide) (by decide) T_96 (Or.inl rfl) rfl rfl h24 d_srv_init_49 rfl ?_
  refine j_aload_n C d_srv_init_52 rfl 0 rfl ?_
  refine j_bipush (v := 8) C d_srv_init_53 rfl (by decide) ?_
  obtain ⟨p25, h26, h⟩ := Option.bind_eq_some_iff.mp h
  refine j_newA C (kd := 0) (ty := .int) rfl rfl (fun _ _ h => h) (fun _ _ => rfl) (by decide) T_132 h26 d_srv_init_55 rfl ?_
  obtain ⟨w27, h28, h⟩ := Option.bind_eq_some_iff.mp h
  refine j_putV C (ci := 2) (k := 6) (by decide) (by decide) T_98 (Or.inr ⟨rfl, E.2.1, rfl⟩) rfl (by first | rfl | exact rc_fo _ _ | exact rc_fa _ _) h28 d_srv_init_57 rfl ?_
  refine j_aload_n C d_srv_init_60 rfl 0 rfl ?_
  refine j_bipush (v := 8) C d_srv_init_61 rfl (by decide) ?_
  obtain ⟨p29, h30, h⟩ := Option.bind_eq_some_iff.mp h
  refine j_newA C (kd := 0) (ty := .int) rfl rfl (fun _ _ h => h) (fun _ _ => rfl) (by decide) T_132 h30 d_srv_init_63 rfl ?_
  obtain ⟨w31, h32, h⟩ := Option.bind_eq_some_iff.mp h
  refine j_putV C (ci := 2) (k := 7) (by decide) (by decide) T_99 (Or.inr ⟨rfl, E.2.1, rfl⟩) rfl (by first | rfl | exact rc_fo _ _ | exact rc_fa _ _) h32 d_srv_init_65 rfl ?_
  refine j_aload_n C d_srv_init_68 rfl 0 rfl ?_
  refine j_iconst (v := 0) C d_srv_init_69 rfl (by decide) ?_
  obtain ⟨w33, h34, h⟩ := Option.bind_eq_some_iff.mp h
  refine j_putV C (ci := 2) (k := 8) (by decide) (by decide) T_100 (Or.inl rfl) rfl rfl h34 d_srv_init_70 rfl ?_
  refine j_aload_n C d_srv_init_73 rfl 0 rfl ?_
  refine j_iconst (v := 0) C d_srv_init_74 rfl (by decide) ?_
  obtain ⟨w35, h36, h⟩ := Option.bind_eq_some_iff.mp h
  refine j_putV C (ci := 2) (k := 9) (by decide) (by decide) T_101 (Or.inl rfl) rfl rfl h36 d_srv_init_75 rfl ?_
  refine j_aload_n C d_srv_init_78 rfl 0 rfl ?_
  refine j_lconst (v := 0) C d_srv_init_79 rfl (by decide) ?_
  obtain ⟨w37, h38, h⟩ := Option.bind_eq_some_iff.mp h
  refine j_putV C (ci := 2) (k := 10) (by decide) (by decide) T_102 (Or.inl rfl) rfl rfl h38 d_srv_init_80 rfl ?_
  refine j_aload_n C d_srv_init_83 rfl 0 rfl ?_
  refine j_iconst (v := 0) C d_srv_init_84 rfl (by decide) ?_
  obtain ⟨w39, h40, h⟩ := Option.bind_eq_some_iff.mp h
  refine j_putV C (ci := 2) (k := 11) (by decide) (by decide) T_103 (Or.inl rfl) rfl rfl h40 d_srv_init_85 rfl ?_
  refine j_aload_n C d_srv_init_88 rfl 0 rfl ?_
  refine j_iconst (v := 0) C d_srv_init_89 rfl (by decide) ?_
  obtain ⟨w41, h42, h⟩ := Option.bind_eq_some_iff.mp h
  refine j_putV C (ci := 2) (k := 12) (by decide) (by decide) T_104 (Or.inl rfl) rfl rfl h42 d_srv_init_90 rfl ?_
  cases h
  exact j_vret C E d_srv_init_93

set_option maxRecDepth 100000 in
set_option maxHeartbeats 4000000 in
theorem k_srv_verdictOnVersion_44 {X : rc_X} {w0 : rc_M} (hF : (q_R X).frames = 0) (hL : (q_R X).locals = 0) (hN : q_n X = 3) (C : rc_C X "RecordCalls$Server" prog_7_method_4_code w0) {res : Int32 × rc_M} (E : rc_E0 X y_srv_verdictOnVersion (some .int) (some (.int res.1)) res.2) {w : rc_M} {s0 : Int32} (h : b_srv_verdictOnVersion_44 w s0 = some res) : rc_J X w 44 [.int s0] [] := by
  unfold b_srv_verdictOnVersion_44 at h
  cases h
  exact j_iret C E d_srv_verdictOnVersion_44

set_option maxRecDepth 100000 in
set_option maxHeartbeats 4000000 in
theorem k_srv_verdictOnVersion_39 {X : rc_X} {w0 : rc_M} (hF : (q_R X).frames = 0) (hL : (q_R X).locals = 0) (hN : q_n X = 3) (C : rc_C X "RecordCalls$Server" prog_7_method_4_code w0) {res : Int32 × rc_M} (E : rc_E0 X y_srv_verdictOnVersion (some .int) (some (.int res.1)) res.2) {w : rc_M}  (h : b_srv_verdictOnVersion_39 w  = some res) : rc_J X w 39 [] [] := by
  unfold b_srv_verdictOnVersion_39 at h
  refine j_iconst (v := 3) C d_srv_verdictOnVersion_39 rfl (by decide) ?_
  refine j_goto (tgt := 44) C d_srv_verdictOnVersion_40 (by decide) ?_
  exact k_srv_verdictOnVersion_44 hF hL hN C E h

set_option maxRecDepth 100000 in
set_option maxHeartbeats 4000000 in
theorem k_srv_verdictOnVersion_23 {X : rc_X} {w0 : rc_M} (hF : (q_R X).frames = 0) (hL : (q_R X).locals = 0) (hN : q_n X = 3) (C : rc_C X "RecordCalls$Server" prog_7_method_4_code w0) {res : Int32 × rc_M} (E : rc_E0 X y_srv_verdictOnVersion (some .int) (some (.int res.1)) res.2) {w : rc_M} {a0 : Nat} {s0 : Int32} (h : b_srv_verdictOnVersion_23 w a0 s0 = some res) : rc_J X w 23 [.int s0] [(0, va_rf (some a0))] := by
  unfold b_srv_verdictOnVersion_23 at h
  refine j_istore_n C (i := 2) d_srv_verdictOnVersion_23 rfl rfl [(2, .int s0), (0, va_rf (some a0))] (rc_lt hN (by decide)) (by first | rfl | simp [va_rf_cat, rc_cat_i, rc_cat_l]) ?_
  refine j_aload_n C d_srv_verdictOnVersion_24 rfl 1 rfl ?_
  obtain ⟨v1, h2, h⟩ := Option.bind_eq_some_iff.mp h
  refine j_getI C fl_srv_49 h2 d_srv_verdictOnVersion_25 rfl ?_
  refine j_if_lt (tgt := 39) C d_srv_verdictOnVersion_28 (by decide) rfl (fun c3 => ?_) (fun c3 => ?_)
  · rw [if_pos c3] at h
    refine rc_J.sub (lv' := []) [] rfl ?_
    exact k_srv_verdictOnVersion_39 hF hL hN C E h
  · rw [if_neg c3] at h
    refine j_aload_n C d_srv_verdictOnVersion_31 rfl 1 rfl ?_
    obtain ⟨v4, h5, h⟩ := Option.bind_eq_some_iff.mp h
    refine j_getI C fl_srv_49 h5 d_srv_verdictOnVersion_32 rfl ?_
    refine j_iload_n C d_srv_verdictOnVersion_35 rfl 0 rfl ?_
    refine j_icmp_le (tgt := 43) C d_srv_verdictOnVersion_36 (by decide) rfl (fun c6 => ?_) (fun c6 => ?_)
    · rw [if_pos c6] at h
      refine j_iconst (v := 0) C d_srv_verdictOnVersion_43 rfl (by decide) ?_
      refine rc_J.sub (lv' := []) [] rfl ?_
      exact k_srv_verdictOnVersion_44 hF hL hN C E h
    · rw [if_neg c6] at h
      refine rc_J.sub (lv' := []) [] rfl ?_
      exact k_srv_verdictOnVersion_39 hF hL hN C E h

set_option maxRecDepth 100000 in
set_option maxHeartbeats 4000000 in
theorem k_srv_verdictOnVersion_12 {X : rc_X} {w0 : rc_M} (hF : (q_R X).frames = 0) (hL : (q_R X).locals = 0) (hN : q_n X = 3) (C : rc_C X "RecordCalls$Server" prog_7_method_4_code w0) {res : Int32 × rc_M} (E : rc_E0 X y_srv_verdictOnVersion (some .int) (some (.int res.1)) res.2) {w : rc_M} {a0 : Nat} {x1 : Int32} (h : b_srv_verdictOnVersion_12 w a0 x1 = some res) : rc_J X w 12 [] [(0, va_rf (some a0)), (1, .int x1)] := by
  unfold b_srv_verdictOnVersion_12 at h
  refine j_iload_n C d_srv_verdictOnVersion_12 rfl 1 rfl ?_
  refine j_iconst (v := 1) C d_srv_verdictOnVersion_13 rfl (by decide) ?_
  refine j_icmp_ne (tgt := 21) C d_srv_verdictOnVersion_14 (by decide) rfl (fun c1 => ?_) (fun c1 => ?_)
  · rw [if_neg c1] at h
    refine j_bipush (v := 6) C d_srv_verdictOnVersion_21 rfl (by decide) ?_
    refine rc_J.sub (lv' := [(0, va_rf (some a0))]) [0] rfl ?_
    exact k_srv_verdictOnVersion_23 hF hL hN C E h
  · rw [if_pos c1] at h
    refine j_iconst (v := 4) C d_srv_verdictOnVersion_17 rfl (by decide) ?_
    refine j_goto (tgt := 23) C d_srv_verdictOnVersion_18 (by decide) ?_
    refine rc_J.sub (lv' := [(0, va_rf (some a0))]) [0] rfl ?_
    exact k_srv_verdictOnVersion_23 hF hL hN C E h

set_option maxRecDepth 100000 in
set_option maxHeartbeats 4000000 in
theorem ct_srv_verdictOnVersion {l : Launch} {G : rc_G} {w : rc_M} {a0 : Nat} {x1 : Int32} {res : Int32 × rc_M} (h : f_srv_verdictOnVersion w a0 x1 = some res) : rc_Ct l G y_srv_verdictOnVersion prog_7_method_4_code 3 (some .int) 0 0 [va_rf (some a0), .int x1] w (some (.int res.1)) res.2 := by
  refine rc_enter (by decide +kernel) (by simp [lg_sl, va_rf_cat, rc_cat_i, rc_cat_l]) ?_
  intro X _ _ hN hF hL C E
  have hlv : lv_args 0 [va_rf (some a0), .int x1] = [(0, va_rf (some a0)), (1, .int x1)] := by simp [lv_args, va_rf_cat, rc_cat_i, rc_cat_l]
  rw [hlv]
  clear hlv
  unfold f_srv_verdictOnVersion at h
  refine j_iload_n C d_srv_verdictOnVersion_0 rfl 1 rfl ?_
  refine j_iconst (v := 1) C d_srv_verdictOnVersion_1 rfl (by decide) ?_
  refine j_icmp_eq (tgt := 12) C d_srv_verdictOnVersion_2 (by decide) rfl (fun c1 => ?_) (fun c1 => ?_)
  · rw [if_pos c1] at h
    exact k_srv_verdictOnVersion_12 hF hL hN C E h
  · rw [if_neg c1] at h
    refine j_iload_n C d_srv_verdictOnVersion_5 rfl 1 rfl ?_
    refine j_iconst (v := 2) C d_srv_verdictOnVersion_6 rfl (by decide) ?_
    refine j_icmp_eq (tgt := 12) C d_srv_verdictOnVersion_7 (by decide) rfl (fun c2 => ?_) (fun c2 => ?_)
    · rw [if_pos c2] at h
      exact k_srv_verdictOnVersion_12 hF hL hN C E h
    · rw [if_neg c2] at h
      refine j_iconst (v := 2) C d_srv_verdictOnVersion_10 rfl (by decide) ?_
      cases h
      exact j_iret C E d_srv_verdictOnVersion_11

set_option maxRecDepth 100000 in
set_option maxHeartbeats 4000000 in
theorem k_srv_verdictOn_135 {X : rc_X} {w0 : rc_M} (hF : (q_R X).frames = 3) (hL : (q_R X).locals = 64) (hN : q_n X = 8) (C : rc_C X "RecordCalls$Server" prog_7_method_3_code w0) {res : Int32 × rc_M} (E : rc_E0 X y_srv_verdictOn (some .int) (some (.int res.1)) res.2) {w : rc_M}  (h : b_srv_verdictOn_135 w  = some res) : rc_J X w 135 [] [] := by
  unfold b_srv_verdictOn_135 at h
  refine j_bipush (v := 11) C d_srv_verdictOn_135 rfl (by decide) ?_
  cases h
  exact j_iret C E d_srv_verdictOn_137

set_option maxRecDepth 100000 in
set_option maxHeartbeats 4000000 in
theorem k_srv_verdictOn_148 {X : rc_X} {w0 : rc_M} (hF : (q_R X).frames = 3) (hL : (q_R X).locals = 64) (hN : q_n X = 8) (C : rc_C X "RecordCalls$Server" prog_7_method_3_code w0) {res : Int32 × rc_M} (E : rc_E0 X y_srv_verdictOn (some .int) (some (.int res.1)) res.2) {w : rc_M}  (h : b_srv_verdictOn_148 w  = some res) : rc_J X w 148 [] [] := by
  unfold b_srv_verdictOn_148 at h
  refine j_bipush (v := 13) C d_srv_verdictOn_148 rfl (by decide) ?_
  cases h
  exact j_iret C E d_srv_verdictOn_150

set_option maxRecDepth 100000 in
set_option maxHeartbeats 4000000 in
theorem k_srv_verdictOn_138 {X : rc_X} {w0 : rc_M} (hF : (q_R X).frames = 3) (hL : (q_R X).locals = 64) (hN : q_n X = 8) (C : rc_C X "RecordCalls$Server" prog_7_method_3_code w0) {res : Int32 × rc_M} (E : rc_E0 X y_srv_verdictOn (some .int) (some (.int res.1)) res.2) {w : rc_M} {a0 : Nat} {x2 : Int32} {x3 : Int32} {x6 : Int32} {x7 : Int32} (h : b_srv_verdictOn_138 w a0 x2 x3 x6 x7 = some res) : rc_J X w 138 [] [(0, va_rf (some a0)), (2, .int x2), (3, .int x3), (6, .int x6), (7, .int x7)] := by
  unfold b_srv_verdictOn_138 at h
  refine j_iload C d_srv_verdictOn_138 rfl 3 rfl ?_
  refine j_if_ne (tgt := 148) C d_srv_verdictOn_140 (by decide) rfl (fun c1 => ?_) (fun c1 => ?_)
  · rw [if_neg c1] at h
    refine rc_J.sub (lv' := []) [] rfl ?_
    exact k_srv_verdictOn_148 hF hL hN C E h
  · rw [if_pos c1] at h
    refine j_iload C d_srv_verdictOn_143 rfl 4 rfl ?_
    refine j_if_le (tgt := 151) C d_srv_verdictOn_145 (by decide) rfl (fun c2 => ?_) (fun c2 => ?_)
    · rw [if_pos c2] at h
      refine j_iload_n C d_srv_verdictOn_151 rfl 1 rfl ?_
      refine j_ldc C d_srv_verdictOn_152 rfl T_515 ?_
      refine j_icmp_eq (tgt := 159) C d_srv_verdictOn_154 (by decide) rfl (fun c3 => ?_) (fun c3 => ?_)
      · rw [if_pos c3] at h
        refine j_aload_n C d_srv_verdictOn_159 rfl 0 rfl ?_
        refine j_iload_n C d_srv_verdictOn_160 rfl 2 rfl ?_
        obtain ⟨a4, h5, h⟩ := Option.bind_eq_some_iff.mp h
        obtain ⟨p6, h7, h⟩ := Option.bind_eq_some_iff.mp h
        refine j_callV C (As := [.int x3]) (st := []) (sk' := [.int p6.1]) mk_srv_verdictOnVersion (Or.inl T_516) T_518 S_10 (ci := 2) rfl h5 (rc_le hF (by decide)) (rc_le hL (by decide)) (ct_srv_verdictOnVersion h7) rfl rfl (by decide) d_srv_verdictOn_161 rfl rfl ?_
        cases h
        exact j_iret C E d_srv_verdictOn_164
      · rw [if_neg c3] at h
        refine j_iconst (v := 1) C d_srv_verdictOn_157 rfl (by decide) ?_
        cases h
        exact j_iret C E d_srv_verdictOn_158
    · rw [if_neg c2] at h
      refine rc_J.sub (lv' := []) [] rfl ?_
      exact k_srv_verdictOn_148 hF hL hN C E h

set_option maxRecDepth 100000 in
set_option maxHeartbeats 4000000 in
theorem k_srv_verdictOn_125 {X : rc_X} {w0 : rc_M} (hF : (q_R X).frames = 3) (hL : (q_R X).locals = 64) (hN : q_n X = 8) (C : rc_C X "RecordCalls$Server" prog_7_method_3_code w0) {res : Int32 × rc_M} (E : rc_E0 X y_srv_verdictOn (some .int) (some (.int res.1)) res.2) {w : rc_M} {a0 : Nat} {x2 : Int32} {x3 : Int32} {x4 : Int32} {x5 : Int32} {x6 : Int32} {x7 : Int32} (h : b_srv_verdictOn_125 w a0 x2 x3 x4 x5 x6 x7 = some res) : rc_J X w 125 [] [(0, va_rf (some a0)), (2, .int x2), (3, .int x3), (4, .int x4), (5, .int x5), (6, .int x6), (7, .int x7)] := by
  unfold b_srv_verdictOn_125 at h
  refine j_iload C d_srv_verdictOn_125 rfl 3 rfl ?_
  refine j_if_ne (tgt := 138) C d_srv_verdictOn_127 (by decide) rfl (fun c1 => ?_) (fun c1 => ?_)
  · rw [if_neg c1] at h
    refine rc_J.sub (lv' := [(0, va_rf (some a0)), (2, .int x2), (3, .int x3), (6, .int x6), (7, .int x7)]) [0, 1, 2, 5, 6] rfl ?_
    exact k_srv_verdictOn_138 hF hL hN C E h
  · rw [if_pos c1] at h
    refine j_iload C d_srv_verdictOn_130 rfl 4 rfl ?_
    refine j_if_le (tgt := 138) C d_srv_verdictOn_132 (by decide) rfl (fun c2 => ?_) (fun c2 => ?_)
    · rw [if_pos c2] at h
      refine rc_J.sub (lv' := [(0, va_rf (some a0)), (2, .int x2), (3, .int x3), (6, .int x6), (7, .int x7)]) [0, 1, 2, 5, 6] rfl ?_
      exact k_srv_verdictOn_138 hF hL hN C E h
    · rw [if_neg c2] at h
      refine rc_J.sub (lv' := []) [] rfl ?_
      exact k_srv_verdictOn_135 hF hL hN C E h

set_option maxRecDepth 100000 in
set_option maxHeartbeats 4000000 in
theorem ct_srv_verdictOn {l : Launch} {G : rc_G} {w : rc_M} {a0 : Nat} {r1 : Option Nat} {res : Int32 × rc_M} (h : f_srv_verdictOn w a0 r1 = some res) : rc_Ct l G y_srv_verdictOn prog_7_method_3_code 8 (some .int) 3 64 [va_rf (some a0), va_rf r1] w (some (.int res.1)) res.2 := by
  refine rc_enter (by decide +kernel) (by simp [lg_sl, va_rf_cat, rc_cat_i, rc_cat_l]) ?_
  intro X _ _ hN hF hL C E
  have hlv : lv_args 0 [va_rf (some a0), va_rf r1] = [(0, va_rf (some a0)), (1, va_rf r1)] := by simp [lv_args, va_rf_cat, rc_cat_i, rc_cat_l]
  rw [hlv]
  clear hlv
  unfold f_srv_verdictOn at h
  refine j_aload_n C d_srv_verdictOn_0 rfl 1 rfl ?_
  obtain ⟨a1, h2, h⟩ := Option.bind_eq_some_iff.mp h
  obtain ⟨p3, h4, h⟩ := Option.bind_eq_some_iff.mp h
  refine j_callV C (As := []) (st := []) (sk' := [.int p3.1]) mk_row_size (Or.inl T_481) T_221 T_222 (ci := 1) rfl h2 (rc_le hF (by decide)) (rc_le hL (by decide)) (cg_row_size h4) rfl rfl (by decide) d_srv_verdictOn_1 rfl rfl ?_
  refine j_bipush (v := 12) C d_srv_verdictOn_4 rfl (by decide) ?_
  refine j_icmp_ge (tgt := 11) C d_srv_verdictOn_6 (by decide) rfl (fun c5 => ?_) (fun c5 => ?_)
  · rw [if_pos c5] at h
    refine j_aload_n C d_srv_verdictOn_11 rfl 1 rfl ?_
    refine j_bipush (v := 8) C d_srv_verdictOn_12 rfl (by decide) ?_
    obtain ⟨a6, h7, h⟩ := Option.bind_eq_some_iff.mp h
    obtain ⟨p8, h9, h⟩ := Option.bind_eq_some_iff.mp h
    refine j_callV C (As := [.int 8]) (st := []) (sk' := [.int p8.1]) mk_row_wordAt (Or.inl T_482) T_483 T_484 (ci := 1) rfl h7 (rc_le hF (by decide)) (rc_le hL (by decide)) (cg_row_wordAt h9) rfl rfl (by decide) d_srv_verdictOn_14 rfl rfl ?_
    refine j_iconst (v := 2) C d_srv_verdictOn_17 rfl (by decide) ?_
    refine j_icmp_eq (tgt := 23) C d_srv_verdictOn_18 (by decide) rfl (fun c10 => ?_) (fun c10 => ?_)
    · rw [if_pos c10] at h
      refine j_aload_n C d_srv_verdictOn_23 rfl 0 rfl ?_
      obtain ⟨v11, h12, h⟩ := Option.bind_eq_some_iff.mp h
      refine j_getR C fl_srv_21 h12 d_srv_verdictOn_24 rfl ?_
      refine j_aload_n C d_srv_verdictOn_27 rfl 1 rfl ?_
      refine j_bipush (v := 12) C d_srv_verdictOn_28 rfl (by decide) ?_
      obtain ⟨a13, h14, h⟩ := Option.bind_eq_some_iff.mp h
      obtain ⟨w15, h16, h⟩ := Option.bind_eq_some_iff.mp h
      refine j_callV C (As := [va_rf r1, .int 12]) (st := []) (sk' := []) mk_rdr_begin (Or.inl T_494) T_495 T_496 (ci := 4) rfl h14 (rc_le hF (by decide)) (rc_le hL (by decide)) (ct_rdr_begin h16) rfl rfl (by decide) d_srv_verdictOn_30 rfl rfl ?_
      refine j_aload_n C d_srv_verdictOn_33 rfl 0 rfl ?_
      obtain ⟨v17, h18, h⟩ := Option.bind_eq_some_iff.mp h
      refine j_getR C fl_srv_21 h18 d_srv_verdictOn_34 rfl ?_
      obtain ⟨a19, h20, h⟩ := Option.bind_eq_some_iff.mp h
      obtain ⟨p21, h22, h⟩ := Option.bind_eq_some_iff.mp h
      refine j_callV C (As := []) (st := []) (sk' := [.int p21.1]) mk_rdr_nextWord (Or.inl T_498) T_499 T_500 (ci := 4) rfl h20 (rc_le hF (by decide)) (rc_le hL (by decide)) (ct_rdr_nextWord h22) rfl rfl (by decide) d_srv_verdictOn_37 rfl rfl ?_
      refine j_istore_n C (i := 2) d_srv_verdictOn_40 rfl rfl [(2, .int p21.1), (0, va_rf (some a0)), (1, va_rf r1)] (rc_lt hN (by decide)) (by first | rfl | simp [va_rf_cat, rc_cat_i, rc_cat_l]) ?_
      refine j_aload_n C d_srv_verdictOn_41 rfl 1 rfl ?_
      obtain ⟨v23, h24, h⟩ := Option.bind_eq_some_iff.mp h
      refine j_getR C fl_srv_21 h24 d_srv_verdictOn_42 rfl ?_
      obtain ⟨a25, h26, h⟩ := Option.bind_eq_some_iff.mp h
      obtain ⟨p27, h28, h⟩ := Option.bind_eq_some_iff.mp h
      refine j_callV C (As := []) (st := []) (sk' := [.int p27.1]) mk_rdr_nextWord (Or.inl T_498) T_499 T_500 (ci := 4) rfl h26 (rc_le hF (by decide)) (rc_le hL (by decide)) (ct_rdr_nextWord h28) rfl rfl (by decide) d_srv_verdictOn_45 rfl rfl ?_
      refine j_istore_n C (i := 3) d_srv_verdictOn_48 rfl rfl [(3, .int p27.1), (2, .int p21.1), (0, va_rf (some a0)), (1, va_rf r1)] (rc_lt hN (by decide)) (by first | rfl | simp [va_rf_cat, rc_cat_i, rc_cat_l]) ?_
      refine j_aload_n C d_srv_verdictOn_49 rfl 2 rfl ?_
      refine j_aload_n C d_srv_verdictOn_50 rfl 2 rfl ?_
      obtain ⟨v29, h30, h⟩ := Option.bind_eq_some_iff.mp h
      refine j_getR C fl_srv_21 h30 d_srv_verdictOn_51 rfl ?_
      obtain ⟨a31, h32, h⟩ := Option.bind_eq_some_iff.mp h
      obtain ⟨p33, h34, h⟩ := Option.bind_eq_some_iff.mp h
      refine j_callV C (As := []) (st := [va_rf (some a0)]) (sk' := [.int p33.1, va_rf (some a0)]) mk_rdr_nextWord (Or.inl T_498) T_499 T_500 (ci := 4) rfl h32 (rc_le hF (by decide)) (rc_le hL (by decide)) (ct_rdr_nextWord h34) rfl rfl (by simp [va_rf_cat, rc_cat_i, rc_cat_l]) d_srv_verdictOn_54 rfl rfl ?_
      obtain ⟨w35, h36, h⟩ := Option.bind_eq_some_iff.mp h
      refine j_putV C (ci := 2) (k := 8) (by decide) (by decide) T_100 (Or.inl rfl) rfl rfl h36 d_srv_verdictOn_57 rfl ?_
      refine j_aload_n C d_srv_verdictOn_60 rfl 2 rfl ?_
      obtain ⟨v37, h38, h⟩ := Option.bind_eq_some_iff.mp h
      refine j_getR C fl_srv_21 h38 d_srv_verdictOn_61 rfl ?_
      obtain ⟨a39, h40, h⟩ := Option.bind_eq_some_iff.mp h
      obtain ⟨p41, h42, h⟩ := Option.bind_eq_some_iff.mp h
      refine j_callV C (As := []) (st := []) (sk' := [.int p41.1]) mk_rdr_nextWord (Or.inl T_498) T_499 T_500 (ci := 4) rfl h40 (rc_le hF (by decide)) (rc_le hL (by decide)) (ct_rdr_nextWord h42) rfl rfl (by decide) d_srv_verdictOn_64 rfl rfl ?_
      refine j_istore C (i := 4) d_srv_verdictOn_67 rfl [(4, .int p41.1), (3, .int p27.1), (2, .int p21.1), (0, va_rf (some a0)), (1, va_rf r1)] (rc_lt hN (by decide)) (by first | rfl | simp [va_rf_cat, rc_cat_i, rc_cat_l]) ?_
      refine j_aload_n C d_srv_verdictOn_69 rfl 3 rfl ?_
      obtain ⟨v43, h44, h⟩ := Option.bind_eq_some_iff.mp h
      refine j_getR C fl_srv_21 h44 d_srv_verdictOn_70 rfl ?_
      refine j_sipush (v := 400) C d_srv_verdictOn_73 rfl (by decide) ?_
      obtain ⟨a45, h46, h⟩ := Option.bind_eq_some_iff.mp h
      obtain ⟨p47, h48, h⟩ := Option.bind_eq_some_iff.mp h
      refine j_callV C (As := [.int 400]) (st := []) (sk' := [.int p47.1]) mk_rdr_nextBytes (Or.inl T_504) T_505 T_506 (ci := 4) rfl h46 (rc_le hF (by decide)) (rc_le hL (by decide)) (ct_rdr_nextBytes h48) rfl rfl (by decide) d_srv_verdictOn_76 rfl rfl ?_
      refine j_istore C (i := 5) d_srv_verdictOn_79 rfl [(5, .int p47.1), (4, .int p41.1), (3, .int p27.1), (2, .int p21.1), (0, va_rf (some a0)), (1, va_rf r1)] (rc_lt hN (by decide)) (by first | rfl | simp [va_rf_cat, rc_cat_i, rc_cat_l]) ?_
      refine j_aload_n C d_srv_verdictOn_81 rfl 4 rfl ?_
      obtain ⟨v49, h50, h⟩ := Option.bind_eq_some_iff.mp h
      refine j_getR C fl_srv_21 h50 d_srv_verdictOn_82 rfl ?_
      obtain ⟨a51, h52, h⟩ := Option.bind_eq_some_iff.mp h
      obtain ⟨p53, h54, h⟩ := Option.bind_eq_some_iff.mp h
      refine j_callV C (As := []) (st := []) (sk' := [.int p53.1]) mk_rdr_nextWord (Or.inl T_498) T_499 T_500 (ci := 4) rfl h52 (rc_le hF (by decide)) (rc_le hL (by decide)) (ct_rdr_nextWord h54) rfl rfl (by decide) d_srv_verdictOn_85 rfl rfl ?_
      refine j_istore C (i := 6) d_srv_verdictOn_88 rfl [(6, .int p53.1), (5, .int p47.1), (4, .int p41.1), (3, .int p27.1), (2, .int p21.1), (0, va_rf (some a0)), (1, va_rf r1)] (rc_lt hN (by decide)) (by first | rfl | simp [va_rf_cat, rc_cat_i, rc_cat_l]) ?_
      refine j_aload_n C d_srv_verdictOn_90 rfl 5 rfl ?_
      obtain ⟨v55, h56, h⟩ := Option.bind_eq_some_iff.mp h
      refine j_getR C fl_srv_21 h56 d_srv_verdictOn_91 rfl ?_
      refine j_sipush (v := 400) C d_srv_verdictOn_94 rfl (by decide) ?_
      obtain ⟨a57, h58, h⟩ := Option.bind_eq_some_iff.mp h
      obtain ⟨p59, h60, h⟩ := Option.bind_eq_some_iff.mp h
      refine j_callV C (As := [.int 400]) (st := []) (sk' := [.int p59.1]) mk_rdr_nextBytes (Or.inl T_504) T_505 T_506 (ci := 4) rfl h58 (rc_le hF (by decide)) (rc_le hL (by decide)) (ct_rdr_nextBytes h60) rfl rfl (by decide) d_srv_verdictOn_97 rfl rfl ?_
      refine j_istore C (i := 7) d_srv_verdictOn_100 rfl [(7, .int p59.1), (6, .int p53.1), (5, .int p47.1), (4, .int p41.1), (3, .int p27.1), (2, .int p21.1), (0, va_rf (some a0)), (1, va_rf r1)] (rc_lt hN (by decide)) (by first | rfl | simp [va_rf_cat, rc_cat_i, rc_cat_l]) ?_
      refine j_aload_n C d_srv_verdictOn_102 rfl 6 rfl ?_
      obtain ⟨v61, h62, h⟩ := Option.bind_eq_some_iff.mp h
      refine j_getR C fl_srv_21 h62 d_srv_verdictOn_103 rfl ?_
      obtain ⟨a63, h64, h⟩ := Option.bind_eq_some_iff.mp h
      obtain ⟨p65, h66, h⟩ := Option.bind_eq_some_iff.mp h
      refine j_callV C (As := []) (st := []) (sk' := [.int p65.1]) mk_rdr_isGood (Or.inl T_511) T_512 T_513 (ci := 4) rfl h64 (rc_le hF (by decide)) (rc_le hL (by decide)) (ct_rdr_isGood h66) rfl rfl (by decide) d_srv_verdictOn_106 rfl rfl ?_
      refine j_if_ne (tgt := 114) C d_srv_verdictOn_109 (by decide) rfl (fun c67 => ?_) (fun c67 => ?_)
      · rw [if_neg c67] at h
        refine j_iload C d_srv_verdictOn_114 rfl 3 rfl ?_
        refine j_if_eq (tgt := 125) C d_srv_verdictOn_116 (by decide) rfl (fun c68 => ?_) (fun c68 => ?_)
        · rw [if_pos c68] at h
          refine rc_J.sub (lv' := [(0, va_rf (some a0)), (2, .int p21.1), (3, .int p27.1), (4, .int p41.1), (5, .int p47.1), (6, .int p53.1), (7, .int p59.1)]) [6, 5, 4, 3, 2, 1, 0] rfl ?_
          exact k_srv_verdictOn_125 hF hL hN C E h
        · rw [if_neg c68] at h
          refine j_iload C d_srv_verdictOn_119 rfl 3 rfl ?_
          refine j_iconst (v := 1) C d_srv_verdictOn_121 rfl (by decide) ?_
          refine j_icmp_ne (tgt := 135) C d_srv_verdictOn_122 (by decide) rfl (fun c69 => ?_) (fun c69 => ?_)
          · rw [if_neg c69] at h
            refine rc_J.sub (lv' := []) [] rfl ?_
            exact k_srv_verdictOn_135 hF hL hN C E h
          · rw [if_pos c69] at h
            refine rc_J.sub (lv' := [(0, va_rf (some a0)), (2, .int p21.1), (3, .int p27.1), (4, .int p41.1), (5, .int p47.1), (6, .int p53.1), (7, .int p59.1)]) [6, 5, 4, 3, 2, 1, 0] rfl ?_
            exact k_srv_verdictOn_125 hF hL hN C E h
      · rw [if_pos c67] at h
        refine j_iconst (v := (-1)) C d_srv_verdictOn_112 rfl (by decide) ?_
        cases h
        exact j_iret C E d_srv_verdictOn_113
    · rw [if_neg c10] at h
      refine j_iconst (v := 5) C d_srv_verdictOn_21 rfl (by decide) ?_
      cases h
      exact j_iret C E d_srv_verdictOn_22
  · rw [if_neg c5] at h
    refine j_iconst (v := (-1)) C d_srv_verdictOn_9 rfl (by decide) ?_
    cases h
    exact j_iret C E d_srv_verdictOn_10

set_option maxRecDepth 100000 in
set_option maxHeartbeats 4000000 in
theorem ct_srv_takeKey {l : Launch} {G : rc_G} {w : rc_M} {a0 : Nat} {res : rc_M} (h : f_srv_takeKey w a0 = some res) : rc_Ct l G y_srv_takeKey prog_7_method_7_code 2 none 3 64 [va_rf (some a0)] w none res := by
  refine rc_enter (by decide +kernel) (by simp [lg_sl, va_rf_cat, rc_cat_i, rc_cat_l]) ?_
  intro X _ _ hN hF hL C E
  have hlv : lv_args 0 [va_rf (some a0)] = [(0, va_rf (some a0))] := by simp [lv_args, va_rf_cat, rc_cat_i, rc_cat_l]
  rw [hlv]
  clear hlv
  unfold f_srv_takeKey at h
  refine j_aload_n C d_srv_takeKey_0 rfl 0 rfl ?_
  obtain ⟨v1, h2, h⟩ := Option.bind_eq_some_iff.mp h
  refine j_getI C fl_srv_52 h2 d_srv_takeKey_1 rfl ?_
  refine j_bipush (v := 8) C d_srv_takeKey_4 rfl (by decide) ?_
  refine j_icmp_lt (tgt := 17) C d_srv_takeKey_6 (by decide) rfl (fun c3 => ?_) (fun c3 => ?_)
  · rw [if_pos c3] at h
    refine j_aload_n C d_srv_takeKey_17 rfl 0 rfl ?_
    obtain ⟨v4, h5, h⟩ := Option.bind_eq_some_iff.mp h
    refine j_getR C fl_srv_21 h5 d_srv_takeKey_18 rfl ?_
    refine j_bipush (v := 16) C d_srv_takeKey_21 rfl (by decide) ?_
    obtain ⟨a6, h7, h⟩ := Option.bind_eq_some_iff.mp h
    obtain ⟨p8, h9, h⟩ := Option.bind_eq_some_iff.mp h
    refine j_callV C (As := [.int 16]) (st := []) (sk' := [.int p8.1]) mk_rdr_nextBytes (Or.inl T_504) T_505 T_506 (ci := 4) rfl h7 (rc_le hF (by decide)) (rc_le hL (by decide)) (ct_rdr_nextBytes h9) rfl rfl (by decide) d_srv_takeKey_23 rfl rfl ?_
    refine j_istore_n C (i := 1) d_srv_takeKey_26 rfl rfl [(1, .int p8.1), (0, va_rf (some a0))] (rc_lt hN (by decide)) (by first | rfl | simp [va_rf_cat, rc_cat_i, rc_cat_l]) ?_
    refine j_aload_n C d_srv_takeKey_27 rfl 1 rfl ?_
    obtain ⟨v10, h11, h⟩ := Option.bind_eq_some_iff.mp h
    refine j_getR C fl_srv_46 h11 d_srv_takeKey_28 rfl ?_
    refine j_aload_n C d_srv_takeKey_31 rfl 1 rfl ?_
    obtain ⟨v12, h13, h⟩ := Option.bind_eq_some_iff.mp h
    refine j_getI C fl_srv_52 h13 d_srv_takeKey_32 rfl ?_
    refine j_iload_n C d_srv_takeKey_35 rfl 0 rfl ?_
    obtain ⟨w14, h15, h⟩ := Option.bind_eq_some_iff.mp h
    refine j_iast C h15 d_srv_takeKey_36 rfl ?_
    refine j_aload_n C d_srv_takeKey_37 rfl 1 rfl ?_
    obtain ⟨v16, h17, h⟩ := Option.bind_eq_some_iff.mp h
    refine j_getR C fl_srv_42 h17 d_srv_takeKey_38 rfl ?_
    refine j_aload_n C d_srv_takeKey_41 rfl 1 rfl ?_
    obtain ⟨v18, h19, h⟩ := Option.bind_eq_some_iff.mp h
    refine j_getI C fl_srv_52 h19 d_srv_takeKey_42 rfl ?_
    refine j_aload_n C d_srv_takeKey_45 rfl 1 rfl ?_
    obtain ⟨v20, h21, h⟩ := Option.bind_eq_some_iff.mp h
    refine j_getR C fl_srv_21 h21 d_srv_takeKey_46 rfl ?_
    refine j_iload_n C d_srv_takeKey_49 rfl 0 rfl ?_
    obtain ⟨a22, h23, h⟩ := Option.bind_eq_some_iff.mp h
    obtain ⟨p24, h25, h⟩ := Option.bind_eq_some_iff.mp h
    refine j_callV C (As := [.int p8.1]) (st := [.int v18, va_rf v16]) (sk' := [.int p24.1, .int v18, va_rf v16]) mk_rdr_startOfBytes (Or.inl T_532) T_533 T_534 (ci := 4) rfl h23 (rc_le hF (by decide)) (rc_le hL (by decide)) (ct_rdr_startOfBytes h25) rfl rfl (by simp [va_rf_cat, rc_cat_i, rc_cat_l]) d_srv_takeKey_50 rfl rfl ?_
    obtain ⟨w26, h27, h⟩ := Option.bind_eq_some_iff.mp h
    refine j_iast C h27 d_srv_takeKey_53 rfl ?_
    refine j_aload_n C d_srv_takeKey_54 rfl 1 rfl ?_
    refine j_dup C d_srv_takeKey_55 rfl (by first | rfl | exact va_rf_cat _) ?_
    obtain ⟨v28, h29, h⟩ := Option.bind_eq_some_iff.mp h
    refine j_getI C fl_srv_52 h29 d_srv_takeKey_56 rfl ?_
    refine j_iconst (v := 1) C d_srv_takeKey_59 rfl (by decide) ?_
    refine j_iadd C d_srv_takeKey_60 rfl ?_
    obtain ⟨w30, h31, h⟩ := Option.bind_eq_some_iff.mp h
    refine j_putV C (ci := 2) (k := 9) (by decide) (by decide) T_101 (Or.inl rfl) rfl rfl h31 d_srv_takeKey_61 rfl ?_
    cases h
    exact j_vret C E d_srv_takeKey_64
  · rw [if_neg c3] at h
    refine j_aload_n C d_srv_takeKey_9 rfl 0 rfl ?_
    obtain ⟨v32, h33, h⟩ := Option.bind_eq_some_iff.mp h
    refine j_getR C fl_srv_21 h33 d_srv_takeKey_10 rfl ?_
    obtain ⟨a34, h35, h⟩ := Option.bind_eq_some_iff.mp h
    obtain ⟨w36, h37, h⟩ := Option.bind_eq_some_iff.mp h
    refine j_callV C (As := []) (st := []) (sk' := []) mk_rdr_fail (Or.inl T_528) T_529 T_530 (ci := 4) rfl h35 (rc_le hF (by decide)) (rc_le hL (by decide)) (ct_rdr_fail h37) rfl rfl (by decide) d_srv_takeKey_13 rfl rfl ?_
    cases h
    exact j_vret C E d_srv_takeKey_16

set_option maxRecDepth 100000 in
set_option maxHeartbeats 4000000 in
theorem k_srv_takeKeys_18 {X : rc_X} {w0 : rc_M} (hF : (q_R X).frames = 4) (hL : (q_R X).locals = 85) (hN : q_n X = 3) (C : rc_C X "RecordCalls$Server" prog_7_method_8_code w0) {res : rc_M} (E : rc_E0 X y_srv_takeKeys none none res) {w : rc_M} {a0 : Nat} (h : b_srv_takeKeys_18 w a0 = some res) : rc_J X w 18 [] [(0, va_rf (some a0))] := by
  unfold b_srv_takeKeys_18 at h
  refine j_aload_n C d_srv_takeKeys_18 rfl 0 rfl ?_
  obtain ⟨v1, h2, h⟩ := Option.bind_eq_some_iff.mp h
  refine j_getR C fl_srv_21 h2 d_srv_takeKeys_19 rfl ?_
  obtain ⟨a3, h4, h⟩ := Option.bind_eq_some_iff.mp h
  obtain ⟨w5, h6, h⟩ := Option.bind_eq_some_iff.mp h
  refine j_callV C (As := []) (st := []) (sk' := []) mk_rdr_fail (Or.inl T_528) T_529 T_530 (ci := 4) rfl h4 (rc_le hF (by decide)) (rc_le hL (by decide)) (ct_rdr_fail h6) rfl rfl (by decide) d_srv_takeKeys_22 rfl rfl ?_
  cases h
  exact j_vret C E d_srv_takeKeys_25

set_option maxRecDepth 100000 in
set_option maxHeartbeats 4000000 in
theorem k_srv_takeKeys_28 {X : rc_X} {w0 : rc_M} (hF : (q_R X).frames = 4) (hL : (q_R X).locals = 85) (hN : q_n X = 3) (C : rc_C X "RecordCalls$Server" prog_7_method_8_code w0) {res : rc_M} (E : rc_E0 X y_srv_takeKeys none none res) : ∀ (fuel : Nat) (w : rc_M) (a0 : Nat) (x1 : Int32) (x2 : Int32), b_srv_takeKeys_28 fuel w a0 x1 x2 = some res → rc_J X w 28 [] [(0, va_rf (some a0)), (1, .int x1), (2, .int x2)] := by
  intro fuel
  induction fuel with
  | zero => intro w a0 x1 x2 h; simp [b_srv_takeKeys_28] at h
  | succ fuel ih =>
    intro w a0 x1 x2 h
    unfold b_srv_takeKeys_28 at h
    refine j_iload_n C d_srv_takeKeys_28 rfl 2 rfl ?_
    refine j_iload_n C d_srv_takeKeys_29 rfl 1 rfl ?_
    refine j_icmp_ge (tgt := 43) C d_srv_takeKeys_30 (by decide) rfl (fun c1 => ?_) (fun c1 => ?_)
    · rw [if_pos c1] at h
      cases h
      exact j_vret C E d_srv_takeKeys_43
    · rw [if_neg c1] at h
      refine j_aload_n C d_srv_takeKeys_33 rfl 0 rfl ?_
      obtain ⟨a2, h3, h⟩ := Option.bind_eq_some_iff.mp h
      obtain ⟨w4, h5, h⟩ := Option.bind_eq_some_iff.mp h
      refine j_callV C (As := []) (st := []) (sk' := []) mk_srv_takeKey (Or.inl T_524) T_526 S_12 (ci := 2) rfl h3 (rc_le hF (by decide)) (rc_le hL (by decide)) (ct_srv_takeKey h5) rfl rfl (by decide) d_srv_takeKeys_34 rfl rfl ?_
      refine j_iinc C d_srv_takeKeys_37 rfl 2 [(2, .int (x2 + 1)), (0, va_rf (some a0)), (1, .int x1)] rfl rfl (rc_lt hN (by decide)) (by first | rfl | simp [va_rf_cat, rc_cat_i, rc_cat_l]) ?_
      refine j_goto (tgt := 28) C d_srv_takeKeys_40 (by decide) ?_
      refine rc_J.sub (lv' := [(0, va_rf (some a0)), (1, .int x1), (2, .int (x2 + 1))]) [1, 2, 0] rfl ?_
      exact ih _ _ _ _ h

set_option maxRecDepth 100000 in
set_option maxHeartbeats 4000000 in
theorem ct_srv_takeKeys {l : Launch} {G : rc_G} {w : rc_M} {a0 : Nat} {res : rc_M} (h : f_srv_takeKeys w a0 = some res) : rc_Ct l G y_srv_takeKeys prog_7_method_8_code 3 none 4 85 [va_rf (some a0)] w none res := by
  refine rc_enter (by decide +kernel) (by simp [lg_sl, va_rf_cat, rc_cat_i, rc_cat_l]) ?_
  intro X _ _ hN hF hL C E
  have hlv : lv_args 0 [va_rf (some a0)] = [(0, va_rf (some a0))] := by simp [lv_args, va_rf_cat, rc_cat_i, rc_cat_l]
  rw [hlv]
  clear hlv
  unfold f_srv_takeKeys at h
  refine j_aload_n C d_srv_takeKeys_0 rfl 0 rfl ?_
  obtain ⟨v1, h2, h⟩ := Option.bind_eq_some_iff.mp h
  refine j_getR C fl_srv_21 h2 d_srv_takeKeys_1 rfl ?_
  obtain ⟨a3, h4, h⟩ := Option.bind_eq_some_iff.mp h
  obtain ⟨p5, h6, h⟩ := Option.bind_eq_some_iff.mp h
  refine j_callV C (As := []) (st := []) (sk' := [.int p5.1]) mk_rdr_nextWord (Or.inl T_498) T_499 T_500 (ci := 4) rfl h4 (rc_le hF (by decide)) (rc_le hL (by decide)) (ct_rdr_nextWord h6) rfl rfl (by decide) d_srv_takeKeys_4 rfl rfl ?_
  refine j_istore_n C (i := 1) d_srv_takeKeys_7 rfl rfl [(1, .int p5.1), (0, va_rf (some a0))] (rc_lt hN (by decide)) (by first | rfl | simp [va_rf_cat, rc_cat_i, rc_cat_l]) ?_
  refine j_iload_n C d_srv_takeKeys_8 rfl 0 rfl ?_
  refine j_if_lt (tgt := 18) C d_srv_takeKeys_9 (by decide) rfl (fun c7 => ?_) (fun c7 => ?_)
  · rw [if_pos c7] at h
    refine rc_J.sub (lv' := [(0, va_rf (some a0))]) [1] rfl ?_
    exact k_srv_takeKeys_18 hF hL hN C E h
  · rw [if_neg c7] at h
    refine j_iload_n C d_srv_takeKeys_12 rfl 0 rfl ?_
    refine j_bipush (v := 8) C d_srv_takeKeys_13 rfl (by decide) ?_
    refine j_icmp_le (tgt := 26) C d_srv_takeKeys_15 (by decide) rfl (fun c8 => ?_) (fun c8 => ?_)
    · rw [if_pos c8] at h
      refine j_iconst (v := 0) C d_srv_takeKeys_26 rfl (by decide) ?_
      refine j_istore_n C (i := 2) d_srv_takeKeys_27 rfl rfl [(2, .int 0), (1, .int p5.1), (0, va_rf (some a0))] (rc_lt hN (by decide)) (by first | rfl | simp [va_rf_cat, rc_cat_i, rc_cat_l]) ?_
      refine rc_J.sub (lv' := [(0, va_rf (some a0)), (1, .int p5.1), (2, .int 0)]) [2, 1, 0] rfl ?_
      exact k_srv_takeKeys_28 hF hL hN C E _ _ _ _ _ h
    · rw [if_neg c8] at h
      refine rc_J.sub (lv' := [(0, va_rf (some a0))]) [1] rfl ?_
      exact k_srv_takeKeys_18 hF hL hN C E h

set_option maxRecDepth 100000 in
set_option maxHeartbeats 4000000 in
theorem k_srv_isTaken_130 {X : rc_X} {w0 : rc_M} (hF : (q_R X).frames = 5) (hL : (q_R X).locals = 107) (hN : q_n X = 1) (C : rc_C X "RecordCalls$Server" prog_7_method_6_code w0) {res : Int32 × rc_M} (E : rc_E0 X y_srv_isTaken (some .boolean) (some (.int res.1)) res.2) {w : rc_M} {s0 : Int32} (h : b_srv_isTaken_130 w s0 = some res) : rc_J X w 130 [.int s0] [] := by
  unfold b_srv_isTaken_130 at h
  obtain ⟨hz, rfl⟩ := rc_z1_spec h
  exact j_zret C hz E d_srv_isTaken_130

set_option maxRecDepth 100000 in
set_option maxHeartbeats 4000000 in
theorem k_srv_isTaken_129 {X : rc_X} {w0 : rc_M} (hF : (q_R X).frames = 5) (hL : (q_R X).locals = 107) (hN : q_n X = 1) (C : rc_C X "RecordCalls$Server" prog_7_method_6_code w0) {res : Int32 × rc_M} (E : rc_E0 X y_srv_isTaken (some .boolean) (some (.int res.1)) res.2) {w : rc_M}  (h : b_srv_isTaken_129 w  = some res) : rc_J X w 129 [] [] := by
  unfold b_srv_isTaken_129 at h
  refine j_iconst (v := 0) C d_srv_isTaken_129 rfl (by decide) ?_
  exact k_srv_isTaken_130 hF hL hN C E h

set_option maxRecDepth 100000 in
set_option maxHeartbeats 4000000 in
theorem k_srv_isTaken_105 {X : rc_X} {w0 : rc_M} (hF : (q_R X).frames = 5) (hL : (q_R X).locals = 107) (hN : q_n X = 1) (C : rc_C X "RecordCalls$Server" prog_7_method_6_code w0) {res : Int32 × rc_M} (E : rc_E0 X y_srv_isTaken (some .boolean) (some (.int res.1)) res.2) {w : rc_M} {a0 : Nat} (h : b_srv_isTaken_105 w a0 = some res) : rc_J X w 105 [] [(0, va_rf (some a0))] := by
  unfold b_srv_isTaken_105 at h
  refine j_aload_n C d_srv_isTaken_105 rfl 0 rfl ?_
  obtain ⟨v1, h2, h⟩ := Option.bind_eq_some_iff.mp h
  refine j_getR C fl_srv_21 h2 d_srv_isTaken_106 rfl ?_
  obtain ⟨a3, h4, h⟩ := Option.bind_eq_some_iff.mp h
  obtain ⟨p5, h6, h⟩ := Option.bind_eq_some_iff.mp h
  refine j_callV C (As := []) (st := []) (sk' := [.int p5.1]) mk_rdr_isGood (Or.inl T_511) T_512 T_513 (ci := 4) rfl h4 (rc_le hF (by decide)) (rc_le hL (by decide)) (ct_rdr_isGood h6) rfl rfl (by decide) d_srv_isTaken_109 rfl rfl ?_
  refine j_if_eq (tgt := 129) C d_srv_isTaken_112 (by decide) rfl (fun c7 => ?_) (fun c7 => ?_)
  · rw [if_pos c7] at h
    refine rc_J.sub (lv' := []) [] rfl ?_
    exact k_srv_isTaken_129 hF hL hN C E h
  · rw [if_neg c7] at h
    refine j_aload_n C d_srv_isTaken_115 rfl 0 rfl ?_
    obtain ⟨v8, h9, h⟩ := Option.bind_eq_some_iff.mp h
    refine j_getR C fl_srv_21 h9 d_srv_isTaken_116 rfl ?_
    obtain ⟨a10, h11, h⟩ := Option.bind_eq_some_iff.mp h
    obtain ⟨p12, h13, h⟩ := Option.bind_eq_some_iff.mp h
    refine j_callV C (As := []) (st := []) (sk' := [.int p12.1]) mk_rdr_isAtEnd (Or.inl T_545) T_546 T_547 (ci := 4) rfl h11 (rc_le hF (by decide)) (rc_le hL (by decide)) (ct_rdr_isAtEnd h13) rfl rfl (by decide) d_srv_isTaken_119 rfl rfl ?_
    refine j_if_eq (tgt := 129) C d_srv_isTaken_122 (by decide) rfl (fun c14 => ?_) (fun c14 => ?_)
    · rw [if_pos c14] at h
      refine rc_J.sub (lv' := []) [] rfl ?_
      exact k_srv_isTaken_129 hF hL hN C E h
    · rw [if_neg c14] at h
      refine j_iconst (v := 1) C d_srv_isTaken_125 rfl (by decide) ?_
      refine j_goto (tgt := 130) C d_srv_isTaken_126 (by decide) ?_
      refine rc_J.sub (lv' := []) [] rfl ?_
      exact k_srv_isTaken_130 hF hL hN C E h

set_option maxRecDepth 100000 in
set_option maxHeartbeats 4000000 in
theorem k_srv_isTaken_48 {X : rc_X} {w0 : rc_M} (hF : (q_R X).frames = 5) (hL : (q_R X).locals = 107) (hN : q_n X = 1) (C : rc_C X "RecordCalls$Server" prog_7_method_6_code w0) {res : Int32 × rc_M} (E : rc_E0 X y_srv_isTaken (some .boolean) (some (.int res.1)) res.2) {w : rc_M} {a0 : Nat} (h : b_srv_isTaken_48 w a0 = some res) : rc_J X w 48 [] [(0, va_rf (some a0))] := by
  unfold b_srv_isTaken_48 at h
  refine j_aload_n C d_srv_isTaken_48 rfl 0 rfl ?_
  obtain ⟨a1, h2, h⟩ := Option.bind_eq_some_iff.mp h
  obtain ⟨w3, h4, h⟩ := Option.bind_eq_some_iff.mp h
  refine j_callV C (As := []) (st := []) (sk' := []) mk_srv_takeKey (Or.inl T_524) T_526 S_12 (ci := 2) rfl h2 (rc_le hF (by decide)) (rc_le hL (by decide)) (ct_srv_takeKey h4) rfl rfl (by decide) d_srv_isTaken_49 rfl rfl ?_
  refine j_aload_n C d_srv_isTaken_52 rfl 0 rfl ?_
  refine j_aload_n C d_srv_isTaken_53 rfl 0 rfl ?_
  obtain ⟨v5, h6, h⟩ := Option.bind_eq_some_iff.mp h
  refine j_getR C fl_srv_21 h6 d_srv_isTaken_54 rfl ?_
  obtain ⟨a7, h8, h⟩ := Option.bind_eq_some_iff.mp h
  obtain ⟨p9, h10, h⟩ := Option.bind_eq_some_iff.mp h
  refine j_callV C (As := []) (st := [va_rf (some a0)]) (sk' := [.long p9.1, va_rf (some a0)]) mk_rdr_nextLong (Or.inl T_536) T_537 T_538 (ci := 4) rfl h8 (rc_le hF (by decide)) (rc_le hL (by decide)) (ct_rdr_nextLong h10) rfl rfl (by simp [va_rf_cat, rc_cat_i, rc_cat_l]) d_srv_isTaken_57 rfl rfl ?_
  obtain ⟨w11, h12, h⟩ := Option.bind_eq_some_iff.mp h
  refine j_putV C (ci := 2) (k := 10) (by decide) (by decide) T_102 (Or.inl rfl) rfl rfl h12 d_srv_isTaken_60 rfl ?_
  refine j_goto (tgt := 105) C d_srv_isTaken_63 (by decide) ?_
  exact k_srv_isTaken_105 hF hL hN C E h

set_option maxRecDepth 100000 in
set_option maxHeartbeats 4000000 in
theorem k_srv_isTaken_66 {X : rc_X} {w0 : rc_M} (hF : (q_R X).frames = 5) (hL : (q_R X).locals = 107) (hN : q_n X = 1) (C : rc_C X "RecordCalls$Server" prog_7_method_6_code w0) {res : Int32 × rc_M} (E : rc_E0 X y_srv_isTaken (some .boolean) (some (.int res.1)) res.2) {w : rc_M} {a0 : Nat} (h : b_srv_isTaken_66 w a0 = some res) : rc_J X w 66 [] [(0, va_rf (some a0))] := by
  unfold b_srv_isTaken_66 at h
  refine j_aload_n C d_srv_isTaken_66 rfl 0 rfl ?_
  obtain ⟨a1, h2, h⟩ := Option.bind_eq_some_iff.mp h
  obtain ⟨w3, h4, h⟩ := Option.bind_eq_some_iff.mp h
  refine j_callV C (As := []) (st := []) (sk' := []) mk_srv_takeKey (Or.inl T_524) T_526 S_12 (ci := 2) rfl h2 (rc_le hF (by decide)) (rc_le hL (by decide)) (ct_srv_takeKey h4) rfl rfl (by decide) d_srv_isTaken_67 rfl rfl ?_
  refine j_goto (tgt := 105) C d_srv_isTaken_70 (by decide) ?_
  exact k_srv_isTaken_105 hF hL hN C E h

set_option maxRecDepth 100000 in
set_option maxHeartbeats 4000000 in
theorem ct_srv_isTaken {l : Launch} {G : rc_G} {w : rc_M} {a0 : Nat} {res : Int32 × rc_M} (h : f_srv_isTaken w a0 = some res) : rc_Ct l G y_srv_isTaken prog_7_method_6_code 1 (some .boolean) 5 107 [va_rf (some a0)] w (some (.int res.1)) res.2 := by
  refine rc_enter (by decide +kernel) (by simp [lg_sl, va_rf_cat, rc_cat_i, rc_cat_l]) ?_
  intro X _ _ hN hF hL C E
  have hlv : lv_args 0 [va_rf (some a0)] = [(0, va_rf (some a0))] := by simp [lv_args, va_rf_cat, rc_cat_i, rc_cat_l]
  rw [hlv]
  clear hlv
  unfold f_srv_isTaken at h
  refine j_aload_n C d_srv_isTaken_0 rfl 0 rfl ?_
  refine j_iconst (v := 0) C d_srv_isTaken_1 rfl (by decide) ?_
  obtain ⟨w1, h2, h⟩ := Option.bind_eq_some_iff.mp h
  refine j_putV C (ci := 2) (k := 9) (by decide) (by decide) T_101 (Or.inl rfl) rfl rfl h2 d_srv_isTaken_2 rfl ?_
  refine j_aload_n C d_srv_isTaken_5 rfl 0 rfl ?_
  obtain ⟨v3, h4, h⟩ := Option.bind_eq_some_iff.mp h
  refine j_getI C fl_srv_49 h4 d_srv_isTaken_6 rfl ?_
  by_cases c5 : v3 = 1
  · rw [if_pos c5] at h
    refine j_tableIn C d_srv_isTaken_9 (tgt := 48) (by rw [c5]; decide) (by rw [c5]; decide) (by rw [c5]; rfl) (by decide) ?_
    exact k_srv_isTaken_48 hF hL hN C E h
  · rw [if_neg c5] at h
    by_cases c6 : v3 = 2
    · rw [if_pos c6] at h
      refine j_tableIn C d_srv_isTaken_9 (tgt := 66) (by rw [c6]; decide) (by rw [c6]; decide) (by rw [c6]; rfl) (by decide) ?_
      exact k_srv_isTaken_66 hF hL hN C E h
    · rw [if_neg c6] at h
      by_cases c7 : v3 = 3
      · rw [if_pos c7] at h
        refine j_tableIn C d_srv_isTaken_9 (tgt := 48) (by rw [c7]; decide) (by rw [c7]; decide) (by rw [c7]; rfl) (by decide) ?_
        exact k_srv_isTaken_48 hF hL hN C E h
      · rw [if_neg c7] at h
        by_cases c8 : v3 = 4
        · rw [if_pos c8] at h
          refine j_tableIn C d_srv_isTaken_9 (tgt := 73) (by rw [c8]; decide) (by rw [c8]; decide) (by rw [c8]; rfl) (by decide) ?_
          refine j_aload_n C d_srv_isTaken_73 rfl 0 rfl ?_
          obtain ⟨a9, h10, h⟩ := Option.bind_eq_some_iff.mp h
          obtain ⟨w11, h12, h⟩ := Option.bind_eq_some_iff.mp h
          refine j_callV C (As := []) (st := []) (sk' := []) mk_srv_takeKeys (Or.inl T_541) T_543 S_13 (ci := 2) rfl h10 (rc_le hF (by decide)) (rc_le hL (by decide)) (ct_srv_takeKeys h12) rfl rfl (by decide) d_srv_isTaken_74 rfl rfl ?_
          refine j_goto (tgt := 105) C d_srv_isTaken_77 (by decide) ?_
          exact k_srv_isTaken_105 hF hL hN C E h
        · rw [if_neg c8] at h
          by_cases c13 : v3 = 5
          · rw [if_pos c13] at h
            refine j_tableIn C d_srv_isTaken_9 (tgt := 80) (by rw [c13]; decide) (by rw [c13]; decide) (by rw [c13]; rfl) (by decide) ?_
            refine j_aload_n C d_srv_isTaken_80 rfl 0 rfl ?_
            refine j_aload_n C d_srv_isTaken_81 rfl 0 rfl ?_
            obtain ⟨v14, h15, h⟩ := Option.bind_eq_some_iff.mp h
            refine j_getR C fl_srv_21 h15 d_srv_isTaken_82 rfl ?_
            obtain ⟨a16, h17, h⟩ := Option.bind_eq_some_iff.mp h
            obtain ⟨p18, h19, h⟩ := Option.bind_eq_some_iff.mp h
            refine j_callV C (As := []) (st := [va_rf (some a0)]) (sk' := [.int p18.1, va_rf (some a0)]) mk_rdr_nextWord (Or.inl T_498) T_499 T_500 (ci := 4) rfl h17 (rc_le hF (by decide)) (rc_le hL (by decide)) (ct_rdr_nextWord h19) rfl rfl (by simp [va_rf_cat, rc_cat_i, rc_cat_l]) d_srv_isTaken_85 rfl rfl ?_
            obtain ⟨w20, h21, h⟩ := Option.bind_eq_some_iff.mp h
            refine j_putV C (ci := 2) (k := 11) (by decide) (by decide) T_103 (Or.inl rfl) rfl rfl h21 d_srv_isTaken_88 rfl ?_
            refine j_aload_n C d_srv_isTaken_91 rfl 0 rfl ?_
            refine j_aload_n C d_srv_isTaken_92 rfl 0 rfl ?_
            obtain ⟨v22, h23, h⟩ := Option.bind_eq_some_iff.mp h
            refine j_getR C fl_srv_21 h23 d_srv_isTaken_93 rfl ?_
            obtain ⟨a24, h25, h⟩ := Option.bind_eq_some_iff.mp h
            obtain ⟨p26, h27, h⟩ := Option.bind_eq_some_iff.mp h
            refine j_callV C (As := []) (st := [va_rf (some a0)]) (sk' := [.int p26.1, va_rf (some a0)]) mk_rdr_nextWord (Or.inl T_498) T_499 T_500 (ci := 4) rfl h25 (rc_le hF (by decide)) (rc_le hL (by decide)) (ct_rdr_nextWord h27) rfl rfl (by simp [va_rf_cat, rc_cat_i, rc_cat_l]) d_srv_isTaken_96 rfl rfl ?_
            obtain ⟨w28, h29, h⟩ := Option.bind_eq_some_iff.mp h
            refine j_putV C (ci := 2) (k := 12) (by decide) (by decide) T_104 (Or.inl rfl) rfl rfl h29 d_srv_isTaken_99 rfl ?_
            refine j_goto (tgt := 105) C d_srv_isTaken_102 (by decide) ?_
            exact k_srv_isTaken_105 hF hL hN C E h
          · rw [if_neg c13] at h
            by_cases c30 : v3 = 6
            · rw [if_pos c30] at h
              refine j_tableIn C d_srv_isTaken_9 (tgt := 66) (by rw [c30]; decide) (by rw [c30]; decide) (by rw [c30]; rfl) (by decide) ?_
              exact k_srv_isTaken_66 hF hL hN C E h
            · rw [if_neg c30] at h
              refine j_tableOut C d_srv_isTaken_9 (tgt := 105) (by have e0 := lv_neT c5 (a := 1) (by decide); have e1 := lv_neT c6 (a := 2) (by decide); have e2 := lv_neT c7 (a := 3) (by decide); have e3 := lv_neT c8 (a := 4) (by decide); have e4 := lv_neT c13 (a := 5) (by decide); have e5 := lv_neT c30 (a := 6) (by decide); omega) (by decide) ?_
              exact k_srv_isTaken_105 hF hL hN C E h

set_option maxRecDepth 100000 in
set_option maxHeartbeats 4000000 in
theorem ct_rec_addNobody {l : Launch} {G : rc_G} {w : rc_M} {r0 : Option Nat} {res : rc_M} (h : f_rec_addNobody w r0 = some res) : rc_Ct l G y_rec_addNobody prog_1_method_22_code 1 none 4 92 [va_rf r0] w none res := by
  refine rc_enter (by decide +kernel) (by simp [lg_sl, va_rf_cat, rc_cat_i, rc_cat_l]) ?_
  intro X _ _ hN hF hL C E
  have hlv : lv_args 0 [va_rf r0] = [(0, va_rf r0)] := by simp [lv_args, va_rf_cat, rc_cat_i, rc_cat_l]
  rw [hlv]
  clear hlv
  unfold f_rec_addNobody at h
  refine j_aload_n C d_rec_addNobody_0 rfl 0 rfl ?_
  refine j_iconst (v := 0) C d_rec_addNobody_1 rfl (by decide) ?_
  obtain ⟨a1, h2, h⟩ := Option.bind_eq_some_iff.mp h
  obtain ⟨w3, h4, h⟩ := Option.bind_eq_some_iff.mp h
  refine j_callV C (As := [.int 0]) (st := []) (sk' := []) mk_row_addWord (Or.inl T_359) T_360 T_361 (ci := 1) rfl h2 (rc_le hF (by decide)) (rc_le hL (by decide)) (cg_row_addWord h4) rfl rfl (by decide) d_rec_addNobody_2 rfl rfl ?_
  refine j_aload_n C d_rec_addNobody_5 rfl 0 rfl ?_
  refine j_iconst (v := 0) C d_rec_addNobody_6 rfl (by decide) ?_
  obtain ⟨a5, h6, h⟩ := Option.bind_eq_some_iff.mp h
  obtain ⟨w7, h8, h⟩ := Option.bind_eq_some_iff.mp h
  refine j_callV C (As := [.int 0]) (st := []) (sk' := []) mk_row_addWord (Or.inl T_359) T_360 T_361 (ci := 1) rfl h6 (rc_le hF (by decide)) (rc_le hL (by decide)) (cg_row_addWord h8) rfl rfl (by decide) d_rec_addNobody_7 rfl rfl ?_
  cases h
  exact j_vret C E d_rec_addNobody_10

set_option maxRecDepth 100000 in
set_option maxHeartbeats 4000000 in
theorem k_srv_beginReply_143 {X : rc_X} {w0 : rc_M} (hF : (q_R X).frames = 5) (hL : (q_R X).locals = 112) (hN : q_n X = 3) (C : rc_C X "RecordCalls$Server" prog_7_method_5_code w0) {res : rc_M} (E : rc_E0 X y_srv_beginReply none none res) {w : rc_M}  (h : b_srv_beginReply_143 w  = some res) : rc_J X w 143 [] [] := by
  unfold b_srv_beginReply_143 at h
  cases h
  exact j_vret C E d_srv_beginReply_143

set_option maxRecDepth 100000 in
set_option maxHeartbeats 4000000 in
theorem k_srv_beginReply_122 {X : rc_X} {w0 : rc_M} (hF : (q_R X).frames = 5) (hL : (q_R X).locals = 112) (hN : q_n X = 3) (C : rc_C X "RecordCalls$Server" prog_7_method_5_code w0) {res : rc_M} (E : rc_E0 X y_srv_beginReply none none res) {w : rc_M} {a0 : Nat} {x2 : Int32} (h : b_srv_beginReply_122 w a0 x2 = some res) : rc_J X w 122 [] [(0, va_rf (some a0)), (2, .int x2)] := by
  unfold b_srv_beginReply_122 at h
  refine j_iload_n C d_srv_beginReply_122 rfl 1 rfl ?_
  refine j_iconst (v := 2) C d_srv_beginReply_123 rfl (by decide) ?_
  refine j_icmp_ne (tgt := 143) C d_srv_beginReply_124 (by decide) rfl (fun c1 => ?_) (fun c1 => ?_)
  · rw [if_neg c1] at h
    refine rc_J.sub (lv' := []) [] rfl ?_
    exact k_srv_beginReply_143 hF hL hN C E h
  · rw [if_pos c1] at h
    refine j_aload_n C d_srv_beginReply_127 rfl 0 rfl ?_
    obtain ⟨v2, h3, h⟩ := Option.bind_eq_some_iff.mp h
    refine j_getR C fl_srv_28 h3 d_srv_beginReply_128 rfl ?_
    refine j_iconst (v := 1) C d_srv_beginReply_131 rfl (by decide) ?_
    obtain ⟨a4, h5, h⟩ := Option.bind_eq_some_iff.mp h
    obtain ⟨w6, h7, h⟩ := Option.bind_eq_some_iff.mp h
    refine j_callV C (As := [.int 1]) (st := []) (sk' := []) mk_row_addWord (Or.inl T_554) T_360 T_361 (ci := 1) rfl h5 (rc_le hF (by decide)) (rc_le hL (by decide)) (cg_row_addWord h7) rfl rfl (by decide) d_srv_beginReply_132 rfl rfl ?_
    refine j_aload_n C d_srv_beginReply_135 rfl 0 rfl ?_
    obtain ⟨v8, h9, h⟩ := Option.bind_eq_some_iff.mp h
    refine j_getR C fl_srv_28 h9 d_srv_beginReply_136 rfl ?_
    refine j_iconst (v := 2) C d_srv_beginReply_139 rfl (by decide) ?_
    obtain ⟨a10, h11, h⟩ := Option.bind_eq_some_iff.mp h
    obtain ⟨w12, h13, h⟩ := Option.bind_eq_some_iff.mp h
    refine j_callV C (As := [.int 2]) (st := []) (sk' := []) mk_row_addWord (Or.inl T_554) T_360 T_361 (ci := 1) rfl h11 (rc_le hF (by decide)) (rc_le hL (by decide)) (cg_row_addWord h13) rfl rfl (by decide) d_srv_beginReply_140 rfl rfl ?_
    refine rc_J.sub (lv' := []) [] rfl ?_
    exact k_srv_beginReply_143 hF hL hN C E h

set_option maxRecDepth 100000 in
set_option maxHeartbeats 4000000 in
theorem ct_srv_beginReply {l : Launch} {G : rc_G} {w : rc_M} {a0 : Nat} {x1 : Int32} {x2 : Int32} {res : rc_M} (h : f_srv_beginReply w a0 x1 x2 = some res) : rc_Ct l G y_srv_beginReply prog_7_method_5_code 3 none 5 112 [va_rf (some a0), .int x1, .int x2] w none res := by
  refine rc_enter (by decide +kernel) (by simp [lg_sl, va_rf_cat, rc_cat_i, rc_cat_l]) ?_
  intro X _ _ hN hF hL C E
  have hlv : lv_args 0 [va_rf (some a0), .int x1, .int x2] = [(0, va_rf (some a0)), (1, .int x1), (2, .int x2)] := by simp [lv_args, va_rf_cat, rc_cat_i, rc_cat_l]
  rw [hlv]
  clear hlv
  unfold f_srv_beginReply at h
  refine j_aload_n C d_srv_beginReply_0 rfl 0 rfl ?_
  obtain ⟨v1, h2, h⟩ := Option.bind_eq_some_iff.mp h
  refine j_getR C fl_srv_28 h2 d_srv_beginReply_1 rfl ?_
  obtain ⟨a3, h4, h⟩ := Option.bind_eq_some_iff.mp h
  obtain ⟨w5, h6, h⟩ := Option.bind_eq_some_iff.mp h
  refine j_callV C (As := []) (st := []) (sk' := []) mk_row_clear (Or.inl T_553) T_217 T_218 (ci := 1) rfl h4 (rc_le hF (by decide)) (rc_le hL (by decide)) (cg_row_clear h6) rfl rfl (by decide) d_srv_beginReply_4 rfl rfl ?_
  refine j_aload_n C d_srv_beginReply_7 rfl 0 rfl ?_
  obtain ⟨v7, h8, h⟩ := Option.bind_eq_some_iff.mp h
  refine j_getR C fl_srv_28 h8 d_srv_beginReply_8 rfl ?_
  refine j_iload_n C d_srv_beginReply_11 rfl 1 rfl ?_
  obtain ⟨a9, h10, h⟩ := Option.bind_eq_some_iff.mp h
  obtain ⟨w11, h12, h⟩ := Option.bind_eq_some_iff.mp h
  refine j_callV C (As := [.int x1]) (st := []) (sk' := []) mk_row_addWord (Or.inl T_554) T_360 T_361 (ci := 1) rfl h10 (rc_le hF (by decide)) (rc_le hL (by decide)) (cg_row_addWord h12) rfl rfl (by decide) d_srv_beginReply_12 rfl rfl ?_
  refine j_aload_n C d_srv_beginReply_15 rfl 0 rfl ?_
  obtain ⟨v13, h14, h⟩ := Option.bind_eq_some_iff.mp h
  refine j_getR C fl_srv_28 h14 d_srv_beginReply_16 rfl ?_
  refine j_iconst (v := 1) C d_srv_beginReply_19 rfl (by decide) ?_
  obtain ⟨a15, h16, h⟩ := Option.bind_eq_some_iff.mp h
  obtain ⟨w17, h18, h⟩ := Option.bind_eq_some_iff.mp h
  refine j_callV C (As := [.int 1]) (st := []) (sk' := []) mk_row_addWord (Or.inl T_554) T_360 T_361 (ci := 1) rfl h16 (rc_le hF (by decide)) (rc_le hL (by decide)) (cg_row_addWord h18) rfl rfl (by decide) d_srv_beginReply_20 rfl rfl ?_
  refine j_iload_n C d_srv_beginReply_23 rfl 2 rfl ?_
  refine j_iconst (v := 5) C d_srv_beginReply_24 rfl (by decide) ?_
  refine j_icmp_ne (tgt := 63) C d_srv_beginReply_25 (by decide) rfl (fun c19 => ?_) (fun c19 => ?_)
  · rw [if_neg c19] at h
    refine j_iload_n C d_srv_beginReply_63 rfl 2 rfl ?_
    refine j_bipush (v := 10) C d_srv_beginReply_64 rfl (by decide) ?_
    refine j_icmp_le (tgt := 99) C d_srv_beginReply_66 (by decide) rfl (fun c20 => ?_) (fun c20 => ?_)
    · rw [if_pos c20] at h
      refine j_aload_n C d_srv_beginReply_99 rfl 0 rfl ?_
      obtain ⟨v21, h22, h⟩ := Option.bind_eq_some_iff.mp h
      refine j_getR C fl_srv_28 h22 d_srv_beginReply_100 rfl ?_
      refine j_iconst (v := 0) C d_srv_beginReply_103 rfl (by decide) ?_
      obtain ⟨a23, h24, h⟩ := Option.bind_eq_some_iff.mp h
      obtain ⟨w25, h26, h⟩ := Option.bind_eq_some_iff.mp h
      refine j_callV C (As := [.int 0]) (st := []) (sk' := []) mk_row_addWord (Or.inl T_554) T_360 T_361 (ci := 1) rfl h24 (rc_le hF (by decide)) (rc_le hL (by decide)) (cg_row_addWord h26) rfl rfl (by decide) d_srv_beginReply_104 rfl rfl ?_
      refine j_aload_n C d_srv_beginReply_107 rfl 0 rfl ?_
      obtain ⟨v27, h28, h⟩ := Option.bind_eq_some_iff.mp h
      refine j_getR C fl_srv_28 h28 d_srv_beginReply_108 rfl ?_
      obtain ⟨w29, h30, h⟩ := Option.bind_eq_some_iff.mp h
      refine j_callS C (As := [va_rf v27]) (st := []) (sk' := []) mk_rec_addNobody (Or.inr T_555) T_411 (rc_le hF (by decide)) (rc_le hL (by decide)) (ct_rec_addNobody h30) rfl rfl (by decide) d_srv_beginReply_111 rfl rfl ?_
      refine j_aload_n C d_srv_beginReply_114 rfl 0 rfl ?_
      obtain ⟨v31, h32, h⟩ := Option.bind_eq_some_iff.mp h
      refine j_getR C fl_srv_28 h32 d_srv_beginReply_115 rfl ?_
      refine j_iload_n C d_srv_beginReply_118 rfl 2 rfl ?_
      obtain ⟨a33, h34, h⟩ := Option.bind_eq_some_iff.mp h
      obtain ⟨w35, h36, h⟩ := Option.bind_eq_some_iff.mp h
      refine j_callV C (As := [.int x2]) (st := []) (sk' := []) mk_row_addWord (Or.inl T_554) T_360 T_361 (ci := 1) rfl h34 (rc_le hF (by decide)) (rc_le hL (by decide)) (cg_row_addWord h36) rfl rfl (by decide) d_srv_beginReply_119 rfl rfl ?_
      refine rc_J.sub (lv' := [(0, va_rf (some a0)), (2, .int x2)]) [0, 2] rfl ?_
      exact k_srv_beginReply_122 hF hL hN C E h
    · rw [if_neg c20] at h
      refine j_aload_n C d_srv_beginReply_69 rfl 0 rfl ?_
      obtain ⟨v37, h38, h⟩ := Option.bind_eq_some_iff.mp h
      refine j_getR C fl_srv_28 h38 d_srv_beginReply_70 rfl ?_
      refine j_iconst (v := 1) C d_srv_beginReply_73 rfl (by decide) ?_
      obtain ⟨a39, h40, h⟩ := Option.bind_eq_some_iff.mp h
      obtain ⟨w41, h42, h⟩ := Option.bind_eq_some_iff.mp h
      refine j_callV C (As := [.int 1]) (st := []) (sk' := []) mk_row_addWord (Or.inl T_554) T_360 T_361 (ci := 1) rfl h40 (rc_le hF (by decide)) (rc_le hL (by decide)) (cg_row_addWord h42) rfl rfl (by decide) d_srv_beginReply_74 rfl rfl ?_
      refine j_aload_n C d_srv_beginReply_77 rfl 0 rfl ?_
      obtain ⟨v43, h44, h⟩ := Option.bind_eq_some_iff.mp h
      refine j_getR C fl_srv_28 h44 d_srv_beginReply_78 rfl ?_
      refine j_iconst (v := 1) C d_srv_beginReply_81 rfl (by decide) ?_
      obtain ⟨a45, h46, h⟩ := Option.bind_eq_some_iff.mp h
      obtain ⟨w47, h48, h⟩ := Option.bind_eq_some_iff.mp h
      refine j_callV C (As := [.int 1]) (st := []) (sk' := []) mk_row_addWord (Or.inl T_554) T_360 T_361 (ci := 1) rfl h46 (rc_le hF (by decide)) (rc_le hL (by decide)) (cg_row_addWord h48) rfl rfl (by decide) d_srv_beginReply_82 rfl rfl ?_
      refine j_aload_n C d_srv_beginReply_85 rfl 0 rfl ?_
      obtain ⟨v49, h50, h⟩ := Option.bind_eq_some_iff.mp h
      refine j_getR C fl_srv_28 h50 d_srv_beginReply_86 rfl ?_
      refine j_iload_n C d_srv_beginReply_89 rfl 2 rfl ?_
      refine j_bipush (v := 10) C d_srv_beginReply_90 rfl (by decide) ?_
      refine j_isub C d_srv_beginReply_92 rfl ?_
      obtain ⟨a51, h52, h⟩ := Option.bind_eq_some_iff.mp h
      obtain ⟨w53, h54, h⟩ := Option.bind_eq_some_iff.mp h
      refine j_callV C (As := [.int (x2 - 10)]) (st := []) (sk' := []) mk_row_addWord (Or.inl T_554) T_360 T_361 (ci := 1) rfl h52 (rc_le hF (by decide)) (rc_le hL (by decide)) (cg_row_addWord h54) rfl rfl (by decide) d_srv_beginReply_93 rfl rfl ?_
      refine j_goto (tgt := 122) C d_srv_beginReply_96 (by decide) ?_
      refine rc_J.sub (lv' := [(0, va_rf (some a0)), (2, .int x2)]) [0, 2] rfl ?_
      exact k_srv_beginReply_122 hF hL hN C E h
  · rw [if_pos c19] at h
    refine j_aload_n C d_srv_beginReply_28 rfl 0 rfl ?_
    obtain ⟨v55, h56, h⟩ := Option.bind_eq_some_iff.mp h
    refine j_getR C fl_srv_28 h56 d_srv_beginReply_29 rfl ?_
    refine j_iconst (v := 1) C d_srv_beginReply_32 rfl (by decide) ?_
    obtain ⟨a57, h58, h⟩ := Option.bind_eq_some_iff.mp h
    obtain ⟨w59, h60, h⟩ := Option.bind_eq_some_iff.mp h
    refine j_callV C (As := [.int 1]) (st := []) (sk' := []) mk_row_addWord (Or.inl T_554) T_360 T_361 (ci := 1) rfl h58 (rc_le hF (by decide)) (rc_le hL (by decide)) (cg_row_addWord h60) rfl rfl (by decide) d_srv_beginReply_33 rfl rfl ?_
    refine j_aload_n C d_srv_beginReply_36 rfl 0 rfl ?_
    obtain ⟨v61, h62, h⟩ := Option.bind_eq_some_iff.mp h
    refine j_getR C fl_srv_28 h62 d_srv_beginReply_37 rfl ?_
    refine j_iconst (v := 0) C d_srv_beginReply_40 rfl (by decide) ?_
    obtain ⟨a63, h64, h⟩ := Option.bind_eq_some_iff.mp h
    obtain ⟨w65, h66, h⟩ := Option.bind_eq_some_iff.mp h
    refine j_callV C (As := [.int 0]) (st := []) (sk' := []) mk_row_addWord (Or.inl T_554) T_360 T_361 (ci := 1) rfl h64 (rc_le hF (by decide)) (rc_le hL (by decide)) (cg_row_addWord h66) rfl rfl (by decide) d_srv_beginReply_41 rfl rfl ?_
    refine j_aload_n C d_srv_beginReply_44 rfl 0 rfl ?_
    obtain ⟨v67, h68, h⟩ := Option.bind_eq_some_iff.mp h
    refine j_getR C fl_srv_28 h68 d_srv_beginReply_45 rfl ?_
    refine j_iconst (v := 2) C d_srv_beginReply_48 rfl (by decide) ?_
    obtain ⟨a69, h70, h⟩ := Option.bind_eq_some_iff.mp h
    obtain ⟨w71, h72, h⟩ := Option.bind_eq_some_iff.mp h
    refine j_callV C (As := [.int 2]) (st := []) (sk' := []) mk_row_addWord (Or.inl T_554) T_360 T_361 (ci := 1) rfl h70 (rc_le hF (by decide)) (rc_le hL (by decide)) (cg_row_addWord h72) rfl rfl (by decide) d_srv_beginReply_49 rfl rfl ?_
    refine j_aload_n C d_srv_beginReply_52 rfl 0 rfl ?_
    obtain ⟨v73, h74, h⟩ := Option.bind_eq_some_iff.mp h
    refine j_getR C fl_srv_28 h74 d_srv_beginReply_53 rfl ?_
    refine j_iconst (v := 2) C d_srv_beginReply_56 rfl (by decide) ?_
    obtain ⟨a75, h76, h⟩ := Option.bind_eq_some_iff.mp h
    obtain ⟨w77, h78, h⟩ := Option.bind_eq_some_iff.mp h
    refine j_callV C (As := [.int 2]) (st := []) (sk' := []) mk_row_addWord (Or.inl T_554) T_360 T_361 (ci := 1) rfl h76 (rc_le hF (by decide)) (rc_le hL (by decide)) (cg_row_addWord h78) rfl rfl (by decide) d_srv_beginReply_57 rfl rfl ?_
    refine j_goto (tgt := 122) C d_srv_beginReply_60 (by decide) ?_
    refine rc_J.sub (lv' := [(0, va_rf (some a0)), (2, .int x2)]) [0, 2] rfl ?_
    exact k_srv_beginReply_122 hF hL hN C E h

