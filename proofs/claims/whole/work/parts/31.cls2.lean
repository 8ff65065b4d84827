theorem fl_con_12 : rc_FL "RecordCalls$Connection" 12 5 0 := ⟨by decide, by decide, Or.inl T_161⟩
theorem fl_con_25 : rc_FL "RecordCalls$Connection" 25 5 2 := ⟨by decide, by decide, Or.inl T_165⟩
theorem fl_con_29 : rc_FL "RecordCalls$Connection" 29 5 3 := ⟨by decide, by decide, Or.inl T_166⟩
theorem fl_con_33 : rc_FL "RecordCalls$Connection" 33 5 4 := ⟨by decide, by decide, Or.inl T_167⟩
theorem fl_con_36 : rc_FL "RecordCalls$Connection" 36 5 5 := ⟨by decide, by decide, Or.inl T_168⟩
theorem fl_map_11 : rc_FL "RecordCalls$KeyMap" 11 3 0 := ⟨by decide, by decide, Or.inl T_57⟩
theorem fl_map_17 : rc_FL "RecordCalls$KeyMap" 17 3 1 := ⟨by decide, by decide, Or.inl T_58⟩
theorem fl_map_21 : rc_FL "RecordCalls$KeyMap" 21 3 2 := ⟨by decide, by decide, Or.inl T_59⟩
theorem fl_rpl_11 : rc_FL "RecordCalls$Replies" 11 6 0 := ⟨by decide, by decide, Or.inl T_148⟩
theorem fl_rpl_17 : rc_FL "RecordCalls$Replies" 17 6 1 := ⟨by decide, by decide, Or.inl T_149⟩
theorem fl_rpl_21 : rc_FL "RecordCalls$Replies" 21 6 2 := ⟨by decide, by decide, Or.inl T_150⟩
theorem fl_rpl_25 : rc_FL "RecordCalls$Replies" 25 6 3 := ⟨by decide, by decide, Or.inl T_151⟩
theorem d_rpl_init_0 : decode prog_5_method_1_code 0 = .ok (.aload_n 0, 1) := by decide +kernel
theorem d_rpl_init_1 : decode prog_5_method_1_code 1 = .ok (.invokespecial 3, 3) := by decide +kernel
theorem d_rpl_init_4 : decode prog_5_method_1_code 4 = .ok (.aload_n 0, 1) := by decide +kernel
theorem d_rpl_init_5 : decode prog_5_method_1_code 5 = .ok (.bipush 8, 2) := by decide +kernel
theorem d_rpl_init_7 : decode prog_5_method_1_code 7 = .ok (.anewarray 9, 3) := by decide +kernel
theorem d_rpl_init_10 : decode prog_5_method_1_code 10 = .ok (.putfield 11, 3) := by decide +kernel
theorem d_rpl_init_13 : decode prog_5_method_1_code 13 = .ok (.aload_n 0, 1) := by decide +kernel
theorem d_rpl_init_14 : decode prog_5_method_1_code 14 = .ok (.bipush 8, 2) := by decide +kernel
theorem d_rpl_init_16 : decode prog_5_method_1_code 16 = .ok (.newarray .int, 2) := by decide +kernel
theorem d_rpl_init_18 : decode prog_5_method_1_code 18 = .ok (.putfield 17, 3) := by decide +kernel
theorem d_rpl_init_21 : decode prog_5_method_1_code 21 = .ok (.aload_n 0, 1) := by decide +kernel
theorem d_rpl_init_22 : decode prog_5_method_1_code 22 = .ok (.iconst 0, 1) := by decide +kernel
theorem d_rpl_init_23 : decode prog_5_method_1_code 23 = .ok (.putfield 21, 3) := by decide +kernel
theorem d_rpl_init_26 : decode prog_5_method_1_code 26 = .ok (.aload_n 0, 1) := by decide +kernel
theorem d_rpl_init_27 : decode prog_5_method_1_code 27 = .ok (.iconst 0, 1) := by decide +kernel
theorem d_rpl_init_28 : decode prog_5_method_1_code 28 = .ok (.putfield 25, 3) := by decide +kernel
theorem d_rpl_init_31 : decode prog_5_method_1_code 31 = .ok (.iconst 0, 1) := by decide +kernel
theorem d_rpl_init_32 : decode prog_5_method_1_code 32 = .ok (.istore_n 1, 1) := by decide +kernel
theorem d_rpl_init_33 : decode prog_5_method_1_code 33 = .ok (.iload_n 1, 1) := by decide +kernel
theorem d_rpl_init_34 : decode prog_5_method_1_code 34 = .ok (.bipush 8, 2) := by decide +kernel
theorem d_rpl_init_36 : decode prog_5_method_1_code 36 = .ok (.if_icmp .ge 22, 3) := by decide +kernel
theorem d_rpl_init_39 : decode prog_5_method_1_code 39 = .ok (.aload_n 0, 1) := by decide +kernel
theorem d_rpl_init_40 : decode prog_5_method_1_code 40 = .ok (.getfield 11, 3) := by decide +kernel
theorem d_rpl_init_43 : decode prog_5_method_1_code 43 = .ok (.iload_n 1, 1) := by decide +kernel
theorem d_rpl_init_44 : decode prog_5_method_1_code 44 = .ok (.new 9, 3) := by decide +kernel
theorem d_rpl_init_47 : decode prog_5_method_1_code 47 = .ok (.dup, 1) := by decide +kernel
theorem d_rpl_init_48 : decode prog_5_method_1_code 48 = .ok (.invokespecial 28, 3) := by decide +kernel
theorem d_rpl_init_51 : decode prog_5_method_1_code 51 = .ok (.aastore, 1) := by decide +kernel
theorem d_rpl_init_52 : decode prog_5_method_1_code 52 = .ok (.iinc 1 1, 3) := by decide +kernel
theorem d_rpl_init_55 : decode prog_5_method_1_code 55 = .ok (.goto (-22), 3) := by decide +kernel
theorem d_rpl_init_58 : decode prog_5_method_1_code 58 = .ok (.return_, 1) := by decide +kernel
theorem d_rpl_find_0 : decode prog_5_method_2_code 0 = .ok (.iconst 0, 1) := by decide +kernel
theorem d_rpl_find_1 : decode prog_5_method_2_code 1 = .ok (.istore_n 2, 1) := by decide +kernel
theorem d_rpl_find_2 : decode prog_5_method_2_code 2 = .ok (.iload_n 2, 1) := by decide +kernel
theorem d_rpl_find_3 : decode prog_5_method_2_code 3 = .ok (.aload_n 0, 1) := by decide +kernel
theorem d_rpl_find_4 : decode prog_5_method_2_code 4 = .ok (.getfield 21, 3) := by decide +kernel
theorem d_rpl_find_7 : decode prog_5_method_2_code 7 = .ok (.if_icmp .ge 26, 3) := by decide +kernel
theorem d_rpl_find_10 : decode prog_5_method_2_code 10 = .ok (.aload_n 0, 1) := by decide +kernel
theorem d_rpl_find_11 : decode prog_5_method_2_code 11 = .ok (.getfield 17, 3) := by decide +kernel
theorem d_rpl_find_14 : decode prog_5_method_2_code 14 = .ok (.iload_n 2, 1) := by decide +kernel
theorem d_rpl_find_15 : decode prog_5_method_2_code 15 = .ok (.iaload, 1) := by decide +kernel
theorem d_rpl_find_16 : decode prog_5_method_2_code 16 = .ok (.iload_n 1, 1) := by decide +kernel
theorem d_rpl_find_17 : decode prog_5_method_2_code 17 = .ok (.if_icmp .ne 10, 3) := by decide +kernel
theorem d_rpl_find_20 : decode prog_5_method_2_code 20 = .ok (.aload_n 0, 1) := by decide +kernel
theorem d_rpl_find_21 : decode prog_5_method_2_code 21 = .ok (.getfield 11, 3) := by decide +kernel
theorem d_rpl_find_24 : decode prog_5_method_2_code 24 = .ok (.iload_n 2, 1) := by decide +kernel
theorem d_rpl_find_25 : decode prog_5_method_2_code 25 = .ok (.aaload, 1) := by decide +kernel
theorem d_rpl_find_26 : decode prog_5_method_2_code 26 = .ok (.areturn, 1) := by decide +kernel
theorem d_rpl_find_27 : decode prog_5_method_2_code 27 = .ok (.iinc 2 1, 3) := by decide +kernel
theorem d_rpl_find_30 : decode prog_5_method_2_code 30 = .ok (.goto (-28), 3) := by decide +kernel
theorem d_rpl_find_33 : decode prog_5_method_2_code 33 = .ok (.aconst_null, 1) := by decide +kernel
theorem d_rpl_find_34 : decode prog_5_method_2_code 34 = .ok (.areturn, 1) := by decide +kernel
theorem d_rpl_keep_0 : decode prog_5_method_3_code 0 = .ok (.aload_n 0, 1) := by decide +kernel
theorem d_rpl_keep_1 : decode prog_5_method_3_code 1 = .ok (.getfield 21, 3) := by decide +kernel
theorem d_rpl_keep_4 : decode prog_5_method_3_code 4 = .ok (.bipush 8, 2) := by decide +kernel
theorem d_rpl_keep_6 : decode prog_5_method_3_code 6 = .ok (.if_icmp .ge 10, 3) := by decide +kernel
theorem d_rpl_keep_9 : decode prog_5_method_3_code 9 = .ok (.aload_n 0, 1) := by decide +kernel
theorem d_rpl_keep_10 : decode prog_5_method_3_code 10 = .ok (.getfield 21, 3) := by decide +kernel
theorem d_rpl_keep_13 : decode prog_5_method_3_code 13 = .ok (.goto 7, 3) := by decide +kernel
theorem d_rpl_keep_16 : decode prog_5_method_3_code 16 = .ok (.aload_n 0, 1) := by decide +kernel
theorem d_rpl_keep_17 : decode prog_5_method_3_code 17 = .ok (.getfield 25, 3) := by decide +kernel
theorem d_rpl_keep_20 : decode prog_5_method_3_code 20 = .ok (.istore_n 3, 1) := by decide +kernel
theorem d_rpl_keep_21 : decode prog_5_method_3_code 21 = .ok (.aload_n 0, 1) := by decide +kernel
theorem d_rpl_keep_22 : decode prog_5_method_3_code 22 = .ok (.getfield 21, 3) := by decide +kernel
theorem d_rpl_keep_25 : decode prog_5_method_3_code 25 = .ok (.bipush 8, 2) := by decide +kernel
theorem d_rpl_keep_27 : decode prog_5_method_3_code 27 = .ok (.if_icmp .ge 16, 3) := by decide +kernel
theorem d_rpl_keep_30 : decode prog_5_method_3_code 30 = .ok (.aload_n 0, 1) := by decide +kernel
theorem d_rpl_keep_31 : decode prog_5_method_3_code 31 = .ok (.dup, 1) := by decide +kernel
theorem d_rpl_keep_32 : decode prog_5_method_3_code 32 = .ok (.getfield 21, 3) := by decide +kernel
theorem d_rpl_keep_35 : decode prog_5_method_3_code 35 = .ok (.iconst 1, 1) := by decide +kernel
theorem d_rpl_keep_36 : decode prog_5_method_3_code 36 = .ok (.iadd, 1) := by decide +kernel
theorem d_rpl_keep_37 : decode prog_5_method_3_code 37 = .ok (.putfield 21, 3) := by decide +kernel
theorem d_rpl_keep_40 : decode prog_5_method_3_code 40 = .ok (.goto 16, 3) := by decide +kernel
theorem d_rpl_keep_43 : decode prog_5_method_3_code 43 = .ok (.aload_n 0, 1) := by decide +kernel
theorem d_rpl_keep_44 : decode prog_5_method_3_code 44 = .ok (.aload_n 0, 1) := by decide +kernel
theorem d_rpl_keep_45 : decode prog_5_method_3_code 45 = .ok (.getfield 25, 3) := by decide +kernel
theorem d_rpl_keep_48 : decode prog_5_method_3_code 48 = .ok (.iconst 1, 1) := by decide +kernel
theorem d_rpl_keep_49 : decode prog_5_method_3_code 49 = .ok (.iadd, 1) := by decide +kernel
theorem d_rpl_keep_50 : decode prog_5_method_3_code 50 = .ok (.bipush 8, 2) := by decide +kernel
theorem d_rpl_keep_52 : decode prog_5_method_3_code 52 = .ok (.irem, 1) := by decide +kernel
theorem d_rpl_keep_53 : decode prog_5_method_3_code 53 = .ok (.putfield 25, 3) := by decide +kernel
theorem d_rpl_keep_56 : decode prog_5_method_3_code 56 = .ok (.aload_n 0, 1) := by decide +kernel
theorem d_rpl_keep_57 : decode prog_5_method_3_code 57 = .ok (.getfield 17, 3) := by decide +kernel
theorem d_rpl_keep_60 : decode prog_5_method_3_code 60 = .ok (.iload_n 3, 1) := by decide +kernel
theorem d_rpl_keep_61 : decode prog_5_method_3_code 61 = .ok (.iload_n 1, 1) := by decide +kernel
theorem d_rpl_keep_62 : decode prog_5_method_3_code 62 = .ok (.iastore, 1) := by decide +kernel
theorem d_rpl_keep_63 : decode prog_5_method_3_code 63 = .ok (.aload_n 0, 1) := by decide +kernel
theorem d_rpl_keep_64 : decode prog_5_method_3_code 64 = .ok (.getfield 11, 3) := by decide +kernel
theorem d_rpl_keep_67 : decode prog_5_method_3_code 67 = .ok (.iload_n 3, 1) := by decide +kernel
theorem d_rpl_keep_68 : decode prog_5_method_3_code 68 = .ok (.aaload, 1) := by decide +kernel
theorem d_rpl_keep_69 : decode prog_5_method_3_code 69 = .ok (.invokevirtual 29, 3) := by decide +kernel
theorem d_rpl_keep_72 : decode prog_5_method_3_code 72 = .ok (.aload_n 0, 1) := by decide +kernel
theorem d_rpl_keep_73 : decode prog_5_method_3_code 73 = .ok (.getfield 11, 3) := by decide +kernel
theorem d_rpl_keep_76 : decode prog_5_method_3_code 76 = .ok (.iload_n 3, 1) := by decide +kernel
theorem d_rpl_keep_77 : decode prog_5_method_3_code 77 = .ok (.aaload, 1) := by decide +kernel
theorem d_rpl_keep_78 : decode prog_5_method_3_code 78 = .ok (.aload_n 2, 1) := by decide +kernel
theorem d_rpl_keep_79 : decode prog_5_method_3_code 79 = .ok (.iconst 0, 1) := by decide +kernel
theorem d_rpl_keep_80 : decode prog_5_method_3_code 80 = .ok (.aload_n 2, 1) := by decide +kernel
theorem d_rpl_keep_81 : decode prog_5_method_3_code 81 = .ok (.invokevirtual 32, 3) := by decide +kernel
theorem d_rpl_keep_84 : decode prog_5_method_3_code 84 = .ok (.invokevirtual 36, 3) := by decide +kernel
theorem d_rpl_keep_87 : decode prog_5_method_3_code 87 = .ok (.return_, 1) := by decide +kernel
theorem d_con_init_0 : decode prog_2_method_1_code 0 = .ok (.aload_n 0, 1) := by decide +kernel
theorem d_con_init_1 : decode prog_2_method_1_code 1 = .ok (.invokespecial 3, 3) := by decide +kernel
theorem d_con_init_4 : decode prog_2_method_1_code 4 = .ok (.aload_n 0, 1) := by decide +kernel
theorem d_con_init_5 : decode prog_2_method_1_code 5 = .ok (.new 9, 3) := by decide +kernel
theorem d_con_init_8 : decode prog_2_method_1_code 8 = .ok (.dup, 1) := by decide +kernel
theorem d_con_init_9 : decode prog_2_method_1_code 9 = .ok (.invokespecial 11, 3) := by decide +kernel
theorem d_con_init_12 : decode prog_2_method_1_code 12 = .ok (.putfield 12, 3) := by decide +kernel
theorem d_con_init_15 : decode prog_2_method_1_code 15 = .ok (.aload_n 0, 1) := by decide +kernel
theorem d_con_init_16 : decode prog_2_method_1_code 16 = .ok (.new 18, 3) := by decide +kernel
theorem d_con_init_19 : decode prog_2_method_1_code 19 = .ok (.dup, 1) := by decide +kernel
theorem d_con_init_20 : decode prog_2_method_1_code 20 = .ok (.invokespecial 20, 3) := by decide +kernel
theorem d_con_init_23 : decode prog_2_method_1_code 23 = .ok (.putfield 21, 3) := by decide +kernel
theorem d_con_init_26 : decode prog_2_method_1_code 26 = .ok (.aload_n 0, 1) := by decide +kernel
theorem d_con_init_27 : decode prog_2_method_1_code 27 = .ok (.iconst 0, 1) := by decide +kernel
theorem d_con_init_28 : decode prog_2_method_1_code 28 = .ok (.putfield 25, 3) := by decide +kernel
theorem d_con_init_31 : decode prog_2_method_1_code 31 = .ok (.aload_n 0, 1) := by decide +kernel
theorem d_con_init_32 : decode prog_2_method_1_code 32 = .ok (.iconst 0, 1) := by decide +kernel
theorem d_con_init_33 : decode prog_2_method_1_code 33 = .ok (.putfield 29, 3) := by decide +kernel
theorem d_con_init_36 : decode prog_2_method_1_code 36 = .ok (.aload_n 0, 1) := by decide +kernel
theorem d_con_init_37 : decode prog_2_method_1_code 37 = .ok (.iconst 0, 1) := by decide +kernel
theorem d_con_init_38 : decode prog_2_method_1_code 38 = .ok (.putfield 33, 3) := by decide +kernel
theorem d_con_init_41 : decode prog_2_method_1_code 41 = .ok (.aload_n 0, 1) := by decide +kernel
theorem d_con_init_42 : decode prog_2_method_1_code 42 = .ok (.iconst 0, 1) := by decide +kernel
theorem d_con_init_43 : decode prog_2_method_1_code 43 = .ok (.putfield 36, 3) := by decide +kernel
theorem d_con_init_46 : decode prog_2_method_1_code 46 = .ok (.return_, 1) := by decide +kernel
theorem d_con_takeHead_0 : decode prog_2_method_3_code 0 = .ok (.aload_n 0, 1) := by decide +kernel
theorem d_con_takeHead_1 : decode prog_2_method_3_code 1 = .ok (.aload_n 0, 1) := by decide +kernel
theorem d_con_takeHead_2 : decode prog_2_method_3_code 2 = .ok (.getfield 29, 3) := by decide +kernel
theorem d_con_takeHead_5 : decode prog_2_method_3_code 5 = .ok (.bipush 8, 2) := by decide +kernel
theorem d_con_takeHead_7 : decode prog_2_method_3_code 7 = .ok (.ishl, 1) := by decide +kernel
theorem d_con_takeHead_8 : decode prog_2_method_3_code 8 = .ok (.iload_n 1, 1) := by decide +kernel
theorem d_con_takeHead_9 : decode prog_2_method_3_code 9 = .ok (.ior, 1) := by decide +kernel
theorem d_con_takeHead_10 : decode prog_2_method_3_code 10 = .ok (.putfield 29, 3) := by decide +kernel
theorem d_con_takeHead_13 : decode prog_2_method_3_code 13 = .ok (.aload_n 0, 1) := by decide +kernel
theorem d_con_takeHead_14 : decode prog_2_method_3_code 14 = .ok (.dup, 1) := by decide +kernel
theorem d_con_takeHead_15 : decode prog_2_method_3_code 15 = .ok (.getfield 33, 3) := by decide +kernel
theorem d_con_takeHead_18 : decode prog_2_method_3_code 18 = .ok (.iconst 1, 1) := by decide +kernel
theorem d_con_takeHead_19 : decode prog_2_method_3_code 19 = .ok (.iadd, 1) := by decide +kernel
theorem d_con_takeHead_20 : decode prog_2_method_3_code 20 = .ok (.putfield 33, 3) := by decide +kernel
theorem d_con_takeHead_23 : decode prog_2_method_3_code 23 = .ok (.aload_n 0, 1) := by decide +kernel
theorem d_con_takeHead_24 : decode prog_2_method_3_code 24 = .ok (.getfield 33, 3) := by decide +kernel
theorem d_con_takeHead_27 : decode prog_2_method_3_code 27 = .ok (.iconst 4, 1) := by decide +kernel
theorem d_con_takeHead_28 : decode prog_2_method_3_code 28 = .ok (.if_icmp .ne 41, 3) := by decide +kernel
theorem d_con_takeHead_31 : decode prog_2_method_3_code 31 = .ok (.aload_n 0, 1) := by decide +kernel
theorem d_con_takeHead_32 : decode prog_2_method_3_code 32 = .ok (.aload_n 0, 1) := by decide +kernel
theorem d_con_takeHead_33 : decode prog_2_method_3_code 33 = .ok (.getfield 29, 3) := by decide +kernel
theorem d_con_takeHead_36 : decode prog_2_method_3_code 36 = .ok (.ldc 47, 2) := by decide +kernel
theorem d_con_takeHead_38 : decode prog_2_method_3_code 38 = .ok (.iand, 1) := by decide +kernel
theorem d_con_takeHead_39 : decode prog_2_method_3_code 39 = .ok (.putfield 36, 3) := by decide +kernel
theorem d_con_takeHead_42 : decode prog_2_method_3_code 42 = .ok (.aload_n 0, 1) := by decide +kernel
theorem d_con_takeHead_43 : decode prog_2_method_3_code 43 = .ok (.aload_n 0, 1) := by decide +kernel
theorem d_con_takeHead_44 : decode prog_2_method_3_code 44 = .ok (.getfield 36, 3) := by decide +kernel
theorem d_con_takeHead_47 : decode prog_2_method_3_code 47 = .ok (.sipush 1200, 3) := by decide +kernel
theorem d_con_takeHead_50 : decode prog_2_method_3_code 50 = .ok (.aload_n 0, 1) := by decide +kernel
theorem d_con_takeHead_51 : decode prog_2_method_3_code 51 = .ok (.getfield 12, 3) := by decide +kernel
theorem d_con_takeHead_54 : decode prog_2_method_3_code 54 = .ok (.invokevirtual 48, 3) := by decide +kernel
theorem d_con_takeHead_57 : decode prog_2_method_3_code 57 = .ok (.isub, 1) := by decide +kernel
theorem d_con_takeHead_58 : decode prog_2_method_3_code 58 = .ok (.if_icmp .le 7, 3) := by decide +kernel
theorem d_con_takeHead_61 : decode prog_2_method_3_code 61 = .ok (.iconst 1, 1) := by decide +kernel
theorem d_con_takeHead_62 : decode prog_2_method_3_code 62 = .ok (.goto 4, 3) := by decide +kernel
theorem d_con_takeHead_65 : decode prog_2_method_3_code 65 = .ok (.iconst 0, 1) := by decide +kernel
theorem d_con_takeHead_66 : decode prog_2_method_3_code 66 = .ok (.putfield 25, 3) := by decide +kernel
theorem d_con_takeHead_69 : decode prog_2_method_3_code 69 = .ok (.return_, 1) := by decide +kernel
theorem d_con_isWholeWith_0 : decode prog_2_method_2_code 0 = .ok (.aload_n 0, 1) := by decide +kernel
theorem d_con_isWholeWith_1 : decode prog_2_method_2_code 1 = .ok (.getfield 25, 3) := by decide +kernel
theorem d_con_isWholeWith_4 : decode prog_2_method_2_code 4 = .ok (.ifCond .eq 5, 3) := by decide +kernel
theorem d_con_isWholeWith_7 : decode prog_2_method_2_code 7 = .ok (.iconst 0, 1) := by decide +kernel
theorem d_con_isWholeWith_8 : decode prog_2_method_2_code 8 = .ok (.ireturn, 1) := by decide +kernel
theorem d_con_isWholeWith_9 : decode prog_2_method_2_code 9 = .ok (.aload_n 0, 1) := by decide +kernel
theorem d_con_isWholeWith_10 : decode prog_2_method_2_code 10 = .ok (.getfield 33, 3) := by decide +kernel
theorem d_con_isWholeWith_13 : decode prog_2_method_2_code 13 = .ok (.iconst 4, 1) := by decide +kernel
theorem d_con_isWholeWith_14 : decode prog_2_method_2_code 14 = .ok (.if_icmp .ge 11, 3) := by decide +kernel
theorem d_con_isWholeWith_17 : decode prog_2_method_2_code 17 = .ok (.aload_n 0, 1) := by decide +kernel
theorem d_con_isWholeWith_18 : decode prog_2_method_2_code 18 = .ok (.iload_n 1, 1) := by decide +kernel
theorem d_con_isWholeWith_19 : decode prog_2_method_2_code 19 = .ok (.invokevirtual 39, 3) := by decide +kernel
theorem d_con_isWholeWith_22 : decode prog_2_method_2_code 22 = .ok (.goto 21, 3) := by decide +kernel
theorem d_con_isWholeWith_25 : decode prog_2_method_2_code 25 = .ok (.aload_n 0, 1) := by decide +kernel
theorem d_con_isWholeWith_26 : decode prog_2_method_2_code 26 = .ok (.getfield 12, 3) := by decide +kernel
theorem d_con_isWholeWith_29 : decode prog_2_method_2_code 29 = .ok (.iload_n 1, 1) := by decide +kernel
theorem d_con_isWholeWith_30 : decode prog_2_method_2_code 30 = .ok (.invokevirtual 43, 3) := by decide +kernel
theorem d_con_isWholeWith_33 : decode prog_2_method_2_code 33 = .ok (.aload_n 0, 1) := by decide +kernel
theorem d_con_isWholeWith_34 : decode prog_2_method_2_code 34 = .ok (.dup, 1) := by decide +kernel
theorem d_con_isWholeWith_35 : decode prog_2_method_2_code 35 = .ok (.getfield 36, 3) := by decide +kernel
theorem d_con_isWholeWith_38 : decode prog_2_method_2_code 38 = .ok (.iconst 1, 1) := by decide +kernel
theorem d_con_isWholeWith_39 : decode prog_2_method_2_code 39 = .ok (.isub, 1) := by decide +kernel
theorem d_con_isWholeWith_40 : decode prog_2_method_2_code 40 = .ok (.putfield 36, 3) := by decide +kernel
theorem d_con_isWholeWith_43 : decode prog_2_method_2_code 43 = .ok (.aload_n 0, 1) := by decide +kernel
theorem d_con_isWholeWith_44 : decode prog_2_method_2_code 44 = .ok (.getfield 25, 3) := by decide +kernel
theorem d_con_isWholeWith_47 : decode prog_2_method_2_code 47 = .ok (.ifCond .ne 18, 3) := by decide +kernel
theorem d_con_isWholeWith_50 : decode prog_2_method_2_code 50 = .ok (.aload_n 0, 1) := by decide +kernel
theorem d_con_isWholeWith_51 : decode prog_2_method_2_code 51 = .ok (.getfield 33, 3) := by decide +kernel
theorem d_con_isWholeWith_54 : decode prog_2_method_2_code 54 = .ok (.iconst 4, 1) := by decide +kernel
theorem d_con_isWholeWith_55 : decode prog_2_method_2_code 55 = .ok (.if_icmp .lt 10, 3) := by decide +kernel
theorem d_con_isWholeWith_58 : decode prog_2_method_2_code 58 = .ok (.aload_n 0, 1) := by decide +kernel
theorem d_con_isWholeWith_59 : decode prog_2_method_2_code 59 = .ok (.getfield 36, 3) := by decide +kernel
theorem d_con_isWholeWith_62 : decode prog_2_method_2_code 62 = .ok (.ifCond .le 5, 3) := by decide +kernel
theorem d_con_isWholeWith_65 : decode prog_2_method_2_code 65 = .ok (.iconst 0, 1) := by decide +kernel
theorem d_con_isWholeWith_66 : decode prog_2_method_2_code 66 = .ok (.ireturn, 1) := by decide +kernel
theorem d_con_isWholeWith_67 : decode prog_2_method_2_code 67 = .ok (.aload_n 0, 1) := by decide +kernel
theorem d_con_isWholeWith_68 : decode prog_2_method_2_code 68 = .ok (.iconst 0, 1) := by decide +kernel
theorem d_con_isWholeWith_69 : decode prog_2_method_2_code 69 = .ok (.putfield 33, 3) := by decide +kernel
theorem d_con_isWholeWith_72 : decode prog_2_method_2_code 72 = .ok (.aload_n 0, 1) := by decide +kernel
theorem d_con_isWholeWith_73 : decode prog_2_method_2_code 73 = .ok (.getfield 29, 3) := by decide +kernel
theorem d_con_isWholeWith_76 : decode prog_2_method_2_code 76 = .ok (.ldc 46, 2) := by decide +kernel
theorem d_con_isWholeWith_78 : decode prog_2_method_2_code 78 = .ok (.iand, 1) := by decide +kernel
theorem d_con_isWholeWith_79 : decode prog_2_method_2_code 79 = .ok (.ifCond .eq 7, 3) := by decide +kernel
theorem d_con_isWholeWith_82 : decode prog_2_method_2_code 82 = .ok (.iconst 1, 1) := by decide +kernel
theorem d_con_isWholeWith_83 : decode prog_2_method_2_code 83 = .ok (.goto 4, 3) := by decide +kernel
theorem d_con_isWholeWith_86 : decode prog_2_method_2_code 86 = .ok (.iconst 0, 1) := by decide +kernel
theorem d_con_isWholeWith_87 : decode prog_2_method_2_code 87 = .ok (.ireturn, 1) := by decide +kernel
theorem d_con_forgetRecord_0 : decode prog_2_method_4_code 0 = .ok (.aload_n 0, 1) := by decide +kernel
theorem d_con_forgetRecord_1 : decode prog_2_method_4_code 1 = .ok (.getfield 12, 3) := by decide +kernel
theorem d_con_forgetRecord_4 : decode prog_2_method_4_code 4 = .ok (.invokevirtual 52, 3) := by decide +kernel
theorem d_con_forgetRecord_7 : decode prog_2_method_4_code 7 = .ok (.aload_n 0, 1) := by decide +kernel
theorem d_con_forgetRecord_8 : decode prog_2_method_4_code 8 = .ok (.iconst 0, 1) := by decide +kernel
theorem d_con_forgetRecord_9 : decode prog_2_method_4_code 9 = .ok (.putfield 33, 3) := by decide +kernel
theorem d_con_forgetRecord_12 : decode prog_2_method_4_code 12 = .ok (.aload_n 0, 1) := by decide +kernel
theorem d_con_forgetRecord_13 : decode prog_2_method_4_code 13 = .ok (.iconst 0, 1) := by decide +kernel
theorem d_con_forgetRecord_14 : decode prog_2_method_4_code 14 = .ok (.putfield 36, 3) := by decide +kernel
theorem d_con_forgetRecord_17 : decode prog_2_method_4_code 17 = .ok (.return_, 1) := by decide +kernel
theorem d_con_openAnew_0 : decode prog_2_method_5_code 0 = .ok (.aload_n 0, 1) := by decide +kernel
theorem d_con_openAnew_1 : decode prog_2_method_5_code 1 = .ok (.getfield 25, 3) := by decide +kernel
theorem d_con_openAnew_4 : decode prog_2_method_5_code 4 = .ok (.istore_n 1, 1) := by decide +kernel
theorem d_con_openAnew_5 : decode prog_2_method_5_code 5 = .ok (.aload_n 0, 1) := by decide +kernel
theorem d_con_openAnew_6 : decode prog_2_method_5_code 6 = .ok (.iconst 0, 1) := by decide +kernel
theorem d_con_openAnew_7 : decode prog_2_method_5_code 7 = .ok (.putfield 25, 3) := by decide +kernel
theorem d_con_openAnew_10 : decode prog_2_method_5_code 10 = .ok (.aload_n 0, 1) := by decide +kernel
theorem d_con_openAnew_11 : decode prog_2_method_5_code 11 = .ok (.invokevirtual 55, 3) := by decide +kernel
theorem d_con_openAnew_14 : decode prog_2_method_5_code 14 = .ok (.iload_n 1, 1) := by decide +kernel
theorem d_con_openAnew_15 : decode prog_2_method_5_code 15 = .ok (.ireturn, 1) := by decide +kernel
theorem d_con_bytesWaiting_0 : decode prog_2_method_6_code 0 = .ok (.aload_n 0, 1) := by decide +kernel
theorem d_con_bytesWaiting_1 : decode prog_2_method_6_code 1 = .ok (.getfield 25, 3) := by decide +kernel
theorem d_con_bytesWaiting_4 : decode prog_2_method_6_code 4 = .ok (.ifCond .eq 7, 3) := by decide +kernel
theorem d_con_bytesWaiting_7 : decode prog_2_method_6_code 7 = .ok (.iconst (-1), 1) := by decide +kernel
theorem d_con_bytesWaiting_8 : decode prog_2_method_6_code 8 = .ok (.goto 10, 3) := by decide +kernel
theorem d_con_bytesWaiting_11 : decode prog_2_method_6_code 11 = .ok (.aload_n 0, 1) := by decide +kernel
theorem d_con_bytesWaiting_12 : decode prog_2_method_6_code 12 = .ok (.getfield 12, 3) := by decide +kernel
theorem d_con_bytesWaiting_15 : decode prog_2_method_6_code 15 = .ok (.invokevirtual 48, 3) := by decide +kernel
theorem d_con_bytesWaiting_18 : decode prog_2_method_6_code 18 = .ok (.ireturn, 1) := by decide +kernel
theorem d_map_init_0 : decode prog_3_method_1_code 0 = .ok (.aload_n 0, 1) := by decide +kernel
theorem d_map_init_1 : decode prog_3_method_1_code 1 = .ok (.invokespecial 3, 3) := by decide +kernel
theorem d_map_init_4 : decode prog_3_method_1_code 4 = .ok (.aload_n 0, 1) := by decide +kernel
theorem d_map_init_5 : decode prog_3_method_1_code 5 = .ok (.bipush 40, 2) := by decide +kernel
theorem d_map_init_7 : decode prog_3_method_1_code 7 = .ok (.anewarray 9, 3) := by decide +kernel
theorem d_map_init_10 : decode prog_3_method_1_code 10 = .ok (.putfield 11, 3) := by decide +kernel
theorem d_map_init_13 : decode prog_3_method_1_code 13 = .ok (.aload_n 0, 1) := by decide +kernel
theorem d_map_init_14 : decode prog_3_method_1_code 14 = .ok (.bipush 40, 2) := by decide +kernel
theorem d_map_init_16 : decode prog_3_method_1_code 16 = .ok (.newarray .long, 2) := by decide +kernel
theorem d_map_init_18 : decode prog_3_method_1_code 18 = .ok (.putfield 17, 3) := by decide +kernel
theorem d_map_init_21 : decode prog_3_method_1_code 21 = .ok (.aload_n 0, 1) := by decide +kernel
theorem d_map_init_22 : decode prog_3_method_1_code 22 = .ok (.iconst 0, 1) := by decide +kernel
theorem d_map_init_23 : decode prog_3_method_1_code 23 = .ok (.putfield 21, 3) := by decide +kernel
theorem d_map_init_26 : decode prog_3_method_1_code 26 = .ok (.iconst 0, 1) := by decide +kernel
theorem d_map_init_27 : decode prog_3_method_1_code 27 = .ok (.istore_n 1, 1) := by decide +kernel
theorem d_map_init_28 : decode prog_3_method_1_code 28 = .ok (.iload_n 1, 1) := by decide +kernel
theorem d_map_init_29 : decode prog_3_method_1_code 29 = .ok (.bipush 40, 2) := by decide +kernel
theorem d_map_init_31 : decode prog_3_method_1_code 31 = .ok (.if_icmp .ge 22, 3) := by decide +kernel
theorem d_map_init_34 : decode prog_3_method_1_code 34 = .ok (.aload_n 0, 1) := by decide +kernel
theorem d_map_init_35 : decode prog_3_method_1_code 35 = .ok (.getfield 11, 3) := by decide +kernel
theorem d_map_init_38 : decode prog_3_method_1_code 38 = .ok (.iload_n 1, 1) := by decide +kernel
theorem d_map_init_39 : decode prog_3_method_1_code 39 = .ok (.new 9, 3) := by decide +kernel
theorem d_map_init_42 : decode prog_3_method_1_code 42 = .ok (.dup, 1) := by decide +kernel
theorem d_map_init_43 : decode prog_3_method_1_code 43 = .ok (.invokespecial 25, 3) := by decide +kernel
theorem d_map_init_46 : decode prog_3_method_1_code 46 = .ok (.aastore, 1) := by decide +kernel
theorem d_map_init_47 : decode prog_3_method_1_code 47 = .ok (.iinc 1 1, 3) := by decide +kernel
theorem d_map_init_50 : decode prog_3_method_1_code 50 = .ok (.goto (-22), 3) := by decide +kernel
theorem d_map_init_53 : decode prog_3_method_1_code 53 = .ok (.return_, 1) := by decide +kernel
theorem d_map_size_0 : decode prog_3_method_2_code 0 = .ok (.aload_n 0, 1) := by decide +kernel
theorem d_map_size_1 : decode prog_3_method_2_code 1 = .ok (.getfield 21, 3) := by decide +kernel
theorem d_map_size_4 : decode prog_3_method_2_code 4 = .ok (.ireturn, 1) := by decide +kernel
theorem d_map_isFull_0 : decode prog_3_method_3_code 0 = .ok (.aload_n 0, 1) := by decide +kernel
theorem d_map_isFull_1 : decode prog_3_method_3_code 1 = .ok (.getfield 21, 3) := by decide +kernel
theorem d_map_isFull_4 : decode prog_3_method_3_code 4 = .ok (.bipush 40, 2) := by decide +kernel
theorem d_map_isFull_6 : decode prog_3_method_3_code 6 = .ok (.if_icmp .lt 7, 3) := by decide +kernel
theorem d_map_isFull_9 : decode prog_3_method_3_code 9 = .ok (.iconst 1, 1) := by decide +kernel
theorem d_map_isFull_10 : decode prog_3_method_3_code 10 = .ok (.goto 4, 3) := by decide +kernel
theorem d_map_isFull_13 : decode prog_3_method_3_code 13 = .ok (.iconst 0, 1) := by decide +kernel
theorem d_map_isFull_14 : decode prog_3_method_3_code 14 = .ok (.ireturn, 1) := by decide +kernel
theorem d_map_isPlace_0 : decode prog_3_method_4_code 0 = .ok (.iload_n 1, 1) := by decide +kernel
theorem d_map_isPlace_1 : decode prog_3_method_4_code 1 = .ok (.ifCond .lt 15, 3) := by decide +kernel
theorem d_map_isPlace_4 : decode prog_3_method_4_code 4 = .ok (.iload_n 1, 1) := by decide +kernel
theorem d_map_isPlace_5 : decode prog_3_method_4_code 5 = .ok (.aload_n 0, 1) := by decide +kernel
theorem d_map_isPlace_6 : decode prog_3_method_4_code 6 = .ok (.getfield 21, 3) := by decide +kernel
theorem d_map_isPlace_9 : decode prog_3_method_4_code 9 = .ok (.if_icmp .ge 7, 3) := by decide +kernel
theorem d_map_isPlace_12 : decode prog_3_method_4_code 12 = .ok (.iconst 1, 1) := by decide +kernel
theorem d_map_isPlace_13 : decode prog_3_method_4_code 13 = .ok (.goto 4, 3) := by decide +kernel
theorem d_map_isPlace_16 : decode prog_3_method_4_code 16 = .ok (.iconst 0, 1) := by decide +kernel
theorem d_map_isPlace_17 : decode prog_3_method_4_code 17 = .ok (.ireturn, 1) := by decide +kernel
theorem d_map_placeOf_0 : decode prog_3_method_5_code 0 = .ok (.iconst 0, 1) := by decide +kernel
theorem d_map_placeOf_1 : decode prog_3_method_5_code 1 = .ok (.istore 4, 2) := by decide +kernel
theorem d_map_placeOf_3 : decode prog_3_method_5_code 3 = .ok (.iload 4, 2) := by decide +kernel
theorem d_map_placeOf_5 : decode prog_3_method_5_code 5 = .ok (.aload_n 0, 1) := by decide +kernel
theorem d_map_placeOf_6 : decode prog_3_method_5_code 6 = .ok (.getfield 21, 3) := by decide +kernel
theorem d_map_placeOf_9 : decode prog_3_method_5_code 9 = .ok (.if_icmp .ge 28, 3) := by decide +kernel
theorem d_map_placeOf_12 : decode prog_3_method_5_code 12 = .ok (.aload_n 0, 1) := by decide +kernel
theorem d_map_placeOf_13 : decode prog_3_method_5_code 13 = .ok (.getfield 11, 3) := by decide +kernel
theorem d_map_placeOf_16 : decode prog_3_method_5_code 16 = .ok (.iload 4, 2) := by decide +kernel
theorem d_map_placeOf_18 : decode prog_3_method_5_code 18 = .ok (.aaload, 1) := by decide +kernel
theorem d_map_placeOf_19 : decode prog_3_method_5_code 19 = .ok (.aload_n 1, 1) := by decide +kernel
theorem d_map_placeOf_20 : decode prog_3_method_5_code 20 = .ok (.iload_n 2, 1) := by decide +kernel
theorem d_map_placeOf_21 : decode prog_3_method_5_code 21 = .ok (.iload_n 3, 1) := by decide +kernel
theorem d_map_placeOf_22 : decode prog_3_method_5_code 22 = .ok (.invokevirtual 26, 3) := by decide +kernel
theorem d_map_placeOf_25 : decode prog_3_method_5_code 25 = .ok (.ifCond .eq 6, 3) := by decide +kernel
theorem d_map_placeOf_28 : decode prog_3_method_5_code 28 = .ok (.iload 4, 2) := by decide +kernel
theorem d_map_placeOf_30 : decode prog_3_method_5_code 30 = .ok (.ireturn, 1) := by decide +kernel
theorem d_map_placeOf_31 : decode prog_3_method_5_code 31 = .ok (.iinc 4 1, 3) := by decide +kernel
theorem d_map_placeOf_34 : decode prog_3_method_5_code 34 = .ok (.goto (-31), 3) := by decide +kernel
theorem d_map_placeOf_37 : decode prog_3_method_5_code 37 = .ok (.iconst (-1), 1) := by decide +kernel
theorem d_map_placeOf_38 : decode prog_3_method_5_code 38 = .ok (.ireturn, 1) := by decide +kernel
theorem d_map_valueAt_0 : decode prog_3_method_6_code 0 = .ok (.aload_n 0, 1) := by decide +kernel
theorem d_map_valueAt_1 : decode prog_3_method_6_code 1 = .ok (.iload_n 1, 1) := by decide +kernel
theorem d_map_valueAt_2 : decode prog_3_method_6_code 2 = .ok (.invokevirtual 30, 3) := by decide +kernel
theorem d_map_valueAt_5 : decode prog_3_method_6_code 5 = .ok (.ifCond .eq 12, 3) := by decide +kernel
theorem d_map_valueAt_8 : decode prog_3_method_6_code 8 = .ok (.aload_n 0, 1) := by decide +kernel
theorem d_map_valueAt_9 : decode prog_3_method_6_code 9 = .ok (.getfield 17, 3) := by decide +kernel
theorem d_map_valueAt_12 : decode prog_3_method_6_code 12 = .ok (.iload_n 1, 1) := by decide +kernel
theorem d_map_valueAt_13 : decode prog_3_method_6_code 13 = .ok (.laload, 1) := by decide +kernel
theorem d_map_valueAt_14 : decode prog_3_method_6_code 14 = .ok (.goto 4, 3) := by decide +kernel
theorem d_map_valueAt_17 : decode prog_3_method_6_code 17 = .ok (.lconst 0, 1) := by decide +kernel
theorem d_map_valueAt_18 : decode prog_3_method_6_code 18 = .ok (.lreturn, 1) := by decide +kernel
theorem d_map_setValue_0 : decode prog_3_method_7_code 0 = .ok (.aload_n 0, 1) := by decide +kernel
theorem d_map_setValue_1 : decode prog_3_method_7_code 1 = .ok (.iload_n 1, 1) := by decide +kernel
theorem d_map_setValue_2 : decode prog_3_method_7_code 2 = .ok (.invokevirtual 30, 3) := by decide +kernel
theorem d_map_setValue_5 : decode prog_3_method_7_code 5 = .ok (.ifCond .eq 10, 3) := by decide +kernel
theorem d_map_setValue_8 : decode prog_3_method_7_code 8 = .ok (.aload_n 0, 1) := by decide +kernel
theorem d_map_setValue_9 : decode prog_3_method_7_code 9 = .ok (.getfield 17, 3) := by decide +kernel
theorem d_map_setValue_12 : decode prog_3_method_7_code 12 = .ok (.iload_n 1, 1) := by decide +kernel
theorem d_map_setValue_13 : decode prog_3_method_7_code 13 = .ok (.lload_n 2, 1) := by decide +kernel
theorem d_map_setValue_14 : decode prog_3_method_7_code 14 = .ok (.lastore, 1) := by decide +kernel
theorem d_map_setValue_15 : decode prog_3_method_7_code 15 = .ok (.return_, 1) := by decide +kernel
theorem d_map_addToValue_0 : decode prog_3_method_8_code 0 = .ok (.aload_n 0, 1) := by decide +kernel
theorem d_map_addToValue_1 : decode prog_3_method_8_code 1 = .ok (.iload_n 1, 1) := by decide +kernel
theorem d_map_addToValue_2 : decode prog_3_method_8_code 2 = .ok (.invokevirtual 30, 3) := by decide +kernel
theorem d_map_addToValue_5 : decode prog_3_method_8_code 5 = .ok (.ifCond .eq 13, 3) := by decide +kernel
theorem d_map_addToValue_8 : decode prog_3_method_8_code 8 = .ok (.aload_n 0, 1) := by decide +kernel
theorem d_map_addToValue_9 : decode prog_3_method_8_code 9 = .ok (.getfield 17, 3) := by decide +kernel
theorem d_map_addToValue_12 : decode prog_3_method_8_code 12 = .ok (.iload_n 1, 1) := by decide +kernel
theorem d_map_addToValue_13 : decode prog_3_method_8_code 13 = .ok (.dup2, 1) := by decide +kernel
theorem d_map_addToValue_14 : decode prog_3_method_8_code 14 = .ok (.laload, 1) := by decide +kernel
theorem d_map_addToValue_15 : decode prog_3_method_8_code 15 = .ok (.lload_n 2, 1) := by decide +kernel
theorem d_map_addToValue_16 : decode prog_3_method_8_code 16 = .ok (.ladd, 1) := by decide +kernel
theorem d_map_addToValue_17 : decode prog_3_method_8_code 17 = .ok (.lastore, 1) := by decide +kernel
theorem d_map_addToValue_18 : decode prog_3_method_8_code 18 = .ok (.return_, 1) := by decide +kernel
theorem d_map_addNew_0 : decode prog_3_method_9_code 0 = .ok (.aload_n 0, 1) := by decide +kernel
theorem d_map_addNew_1 : decode prog_3_method_9_code 1 = .ok (.invokevirtual 34, 3) := by decide +kernel
theorem d_map_addNew_4 : decode prog_3_method_9_code 4 = .ok (.ifCond .eq 4, 3) := by decide +kernel
theorem d_map_addNew_7 : decode prog_3_method_9_code 7 = .ok (.return_, 1) := by decide +kernel
theorem d_map_addNew_8 : decode prog_3_method_9_code 8 = .ok (.aload_n 0, 1) := by decide +kernel
theorem d_map_addNew_9 : decode prog_3_method_9_code 9 = .ok (.getfield 11, 3) := by decide +kernel
theorem d_map_addNew_12 : decode prog_3_method_9_code 12 = .ok (.aload_n 0, 1) := by decide +kernel
theorem d_map_addNew_13 : decode prog_3_method_9_code 13 = .ok (.getfield 21, 3) := by decide +kernel
theorem d_map_addNew_16 : decode prog_3_method_9_code 16 = .ok (.aaload, 1) := by decide +kernel
theorem d_map_addNew_17 : decode prog_3_method_9_code 17 = .ok (.invokevirtual 38, 3) := by decide +kernel
theorem d_map_addNew_20 : decode prog_3_method_9_code 20 = .ok (.aload_n 0, 1) := by decide +kernel
theorem d_map_addNew_21 : decode prog_3_method_9_code 21 = .ok (.getfield 11, 3) := by decide +kernel
theorem d_map_addNew_24 : decode prog_3_method_9_code 24 = .ok (.aload_n 0, 1) := by decide +kernel
theorem d_map_addNew_25 : decode prog_3_method_9_code 25 = .ok (.getfield 21, 3) := by decide +kernel
theorem d_map_addNew_28 : decode prog_3_method_9_code 28 = .ok (.aaload, 1) := by decide +kernel
theorem d_map_addNew_29 : decode prog_3_method_9_code 29 = .ok (.aload_n 1, 1) := by decide +kernel
theorem d_map_addNew_30 : decode prog_3_method_9_code 30 = .ok (.iload_n 2, 1) := by decide +kernel
theorem d_map_addNew_31 : decode prog_3_method_9_code 31 = .ok (.iload_n 3, 1) := by decide +kernel
theorem d_map_addNew_32 : decode prog_3_method_9_code 32 = .ok (.invokevirtual 41, 3) := by decide +kernel
theorem d_map_addNew_35 : decode prog_3_method_9_code 35 = .ok (.aload_n 0, 1) := by decide +kernel
theorem d_map_addNew_36 : decode prog_3_method_9_code 36 = .ok (.getfield 17, 3) := by decide +kernel
theorem d_map_addNew_39 : decode prog_3_method_9_code 39 = .ok (.aload_n 0, 1) := by decide +kernel
theorem d_map_addNew_40 : decode prog_3_method_9_code 40 = .ok (.getfield 21, 3) := by decide +kernel
theorem d_map_addNew_43 : decode prog_3_method_9_code 43 = .ok (.lload 4, 2) := by decide +kernel
theorem d_map_addNew_45 : decode prog_3_method_9_code 45 = .ok (.lastore, 1) := by decide +kernel
theorem d_map_addNew_46 : decode prog_3_method_9_code 46 = .ok (.aload_n 0, 1) := by decide +kernel
theorem d_map_addNew_47 : decode prog_3_method_9_code 47 = .ok (.dup, 1) := by decide +kernel
theorem d_map_addNew_48 : decode prog_3_method_9_code 48 = .ok (.getfield 21, 3) := by decide +kernel
theorem d_map_addNew_51 : decode prog_3_method_9_code 51 = .ok (.iconst 1, 1) := by decide +kernel
theorem d_map_addNew_52 : decode prog_3_method_9_code 52 = .ok (.iadd, 1) := by decide +kernel
theorem d_map_addNew_53 : decode prog_3_method_9_code 53 = .ok (.putfield 21, 3) := by decide +kernel
theorem d_map_addNew_56 : decode prog_3_method_9_code 56 = .ok (.return_, 1) := by decide +kernel
theorem d_map_remove_0 : decode prog_3_method_10_code 0 = .ok (.aload_n 0, 1) := by decide +kernel
theorem d_map_remove_1 : decode prog_3_method_10_code 1 = .ok (.iload_n 1, 1) := by decide +kernel
theorem d_map_remove_2 : decode prog_3_method_10_code 2 = .ok (.invokevirtual 30, 3) := by decide +kernel
theorem d_map_remove_5 : decode prog_3_method_10_code 5 = .ok (.ifCond .ne 4, 3) := by decide +kernel
theorem d_map_remove_8 : decode prog_3_method_10_code 8 = .ok (.return_, 1) := by decide +kernel
theorem d_map_remove_9 : decode prog_3_method_10_code 9 = .ok (.aload_n 0, 1) := by decide +kernel
theorem d_map_remove_10 : decode prog_3_method_10_code 10 = .ok (.getfield 11, 3) := by decide +kernel
theorem d_map_remove_13 : decode prog_3_method_10_code 13 = .ok (.iload_n 1, 1) := by decide +kernel
theorem d_map_remove_14 : decode prog_3_method_10_code 14 = .ok (.aaload, 1) := by decide +kernel
theorem d_map_remove_15 : decode prog_3_method_10_code 15 = .ok (.astore_n 2, 1) := by decide +kernel
theorem d_map_remove_16 : decode prog_3_method_10_code 16 = .ok (.iload_n 1, 1) := by decide +kernel
theorem d_map_remove_17 : decode prog_3_method_10_code 17 = .ok (.iconst 1, 1) := by decide +kernel
theorem d_map_remove_18 : decode prog_3_method_10_code 18 = .ok (.iadd, 1) := by decide +kernel
theorem d_map_remove_19 : decode prog_3_method_10_code 19 = .ok (.istore_n 3, 1) := by decide +kernel
theorem d_map_remove_20 : decode prog_3_method_10_code 20 = .ok (.iload_n 3, 1) := by decide +kernel
theorem d_map_remove_21 : decode prog_3_method_10_code 21 = .ok (.aload_n 0, 1) := by decide +kernel
theorem d_map_remove_22 : decode prog_3_method_10_code 22 = .ok (.getfield 21, 3) := by decide +kernel
theorem d_map_remove_25 : decode prog_3_method_10_code 25 = .ok (.if_icmp .ge 37, 3) := by decide +kernel
theorem d_map_remove_28 : decode prog_3_method_10_code 28 = .ok (.aload_n 0, 1) := by decide +kernel
theorem d_map_remove_29 : decode prog_3_method_10_code 29 = .ok (.getfield 11, 3) := by decide +kernel
theorem d_map_remove_32 : decode prog_3_method_10_code 32 = .ok (.iload_n 3, 1) := by decide +kernel
theorem d_map_remove_33 : decode prog_3_method_10_code 33 = .ok (.iconst 1, 1) := by decide +kernel
theorem d_map_remove_34 : decode prog_3_method_10_code 34 = .ok (.isub, 1) := by decide +kernel
theorem d_map_remove_35 : decode prog_3_method_10_code 35 = .ok (.aload_n 0, 1) := by decide +kernel
theorem d_map_remove_36 : decode prog_3_method_10_code 36 = .ok (.getfield 11, 3) := by decide +kernel
theorem d_map_remove_39 : decode prog_3_method_10_code 39 = .ok (.iload_n 3, 1) := by decide +kernel
theorem d_map_remove_40 : decode prog_3_method_10_code 40 = .ok (.aaload, 1) := by decide +kernel
theorem d_map_remove_41 : decode prog_3_method_10_code 41 = .ok (.aastore, 1) := by decide +kernel
theorem d_map_remove_42 : decode prog_3_method_10_code 42 = .ok (.aload_n 0, 1) := by decide +kernel
theorem d_map_remove_43 : decode prog_3_method_10_code 43 = .ok (.getfield 17, 3) := by decide +kernel
theorem d_map_remove_46 : decode prog_3_method_10_code 46 = .ok (.iload_n 3, 1) := by decide +kernel
theorem d_map_remove_47 : decode prog_3_method_10_code 47 = .ok (.iconst 1, 1) := by decide +kernel
theorem d_map_remove_48 : decode prog_3_method_10_code 48 = .ok (.isub, 1) := by decide +kernel
theorem d_map_remove_49 : decode prog_3_method_10_code 49 = .ok (.aload_n 0, 1) := by decide +kernel
theorem d_map_remove_50 : decode prog_3_method_10_code 50 = .ok (.getfield 17, 3) := by decide +kernel
theorem d_map_remove_53 : decode prog_3_method_10_code 53 = .ok (.iload_n 3, 1) := by decide +kernel
theorem d_map_remove_54 : decode prog_3_method_10_code 54 = .ok (.laload, 1) := by decide +kernel
theorem d_map_remove_55 : decode prog_3_method_10_code 55 = .ok (.lastore, 1) := by decide +kernel
theorem d_map_remove_56 : decode prog_3_method_10_code 56 = .ok (.iinc 3 1, 3) := by decide +kernel
theorem d_map_remove_59 : decode prog_3_method_10_code 59 = .ok (.goto (-39), 3) := by decide +kernel
theorem d_map_remove_62 : decode prog_3_method_10_code 62 = .ok (.aload_n 0, 1) := by decide +kernel
theorem d_map_remove_63 : decode prog_3_method_10_code 63 = .ok (.dup, 1) := by decide +kernel
theorem d_map_remove_64 : decode prog_3_method_10_code 64 = .ok (.getfield 21, 3) := by decide +kernel
theorem d_map_remove_67 : decode prog_3_method_10_code 67 = .ok (.iconst 1, 1) := by decide +kernel
theorem d_map_remove_68 : decode prog_3_method_10_code 68 = .ok (.isub, 1) := by decide +kernel
theorem d_map_remove_69 : decode prog_3_method_10_code 69 = .ok (.putfield 21, 3) := by decide +kernel
theorem d_map_remove_72 : decode prog_3_method_10_code 72 = .ok (.aload_n 0, 1) := by decide +kernel
theorem d_map_remove_73 : decode prog_3_method_10_code 73 = .ok (.getfield 11, 3) := by decide +kernel
theorem d_map_remove_76 : decode prog_3_method_10_code 76 = .ok (.aload_n 0, 1) := by decide +kernel
theorem d_map_remove_77 : decode prog_3_method_10_code 77 = .ok (.getfield 21, 3) := by decide +kernel
theorem d_map_remove_80 : decode prog_3_method_10_code 80 = .ok (.aload_n 2, 1) := by decide +kernel
theorem d_map_remove_81 : decode prog_3_method_10_code 81 = .ok (.aastore, 1) := by decide +kernel
theorem d_map_remove_82 : decode prog_3_method_10_code 82 = .ok (.return_, 1) := by decide +kernel
theorem d_map_keyAt_0 : decode prog_3_method_11_code 0 = .ok (.aload_n 0, 1) := by decide +kernel
theorem d_map_keyAt_1 : decode prog_3_method_11_code 1 = .ok (.iload_n 1, 1) := by decide +kernel
theorem d_map_keyAt_2 : decode prog_3_method_11_code 2 = .ok (.invokevirtual 30, 3) := by decide +kernel
theorem d_map_keyAt_5 : decode prog_3_method_11_code 5 = .ok (.ifCond .eq 12, 3) := by decide +kernel
theorem d_map_keyAt_8 : decode prog_3_method_11_code 8 = .ok (.aload_n 0, 1) := by decide +kernel
theorem d_map_keyAt_9 : decode prog_3_method_11_code 9 = .ok (.getfield 11, 3) := by decide +kernel
theorem d_map_keyAt_12 : decode prog_3_method_11_code 12 = .ok (.iload_n 1, 1) := by decide +kernel
theorem d_map_keyAt_13 : decode prog_3_method_11_code 13 = .ok (.aaload, 1) := by decide +kernel
theorem d_map_keyAt_14 : decode prog_3_method_11_code 14 = .ok (.goto 4, 3) := by decide +kernel
theorem d_map_keyAt_17 : decode prog_3_method_11_code 17 = .ok (.aconst_null, 1) := by decide +kernel
theorem d_map_keyAt_18 : decode prog_3_method_11_code 18 = .ok (.areturn, 1) := by decide +kernel
theorem d_rdr_init_0 : decode prog_4_method_1_code 0 = .ok (.aload_n 0, 1) := by decide +kernel
theorem d_rdr_init_1 : decode prog_4_method_1_code 1 = .ok (.invokespecial 3, 3) := by decide +kernel
theorem d_rdr_init_4 : decode prog_4_method_1_code 4 = .ok (.aload_n 0, 1) := by decide +kernel
theorem d_rdr_init_5 : decode prog_4_method_1_code 5 = .ok (.new 9, 3) := by decide +kernel
theorem d_rdr_init_8 : decode prog_4_method_1_code 8 = .ok (.dup, 1) := by decide +kernel
theorem d_rdr_init_9 : decode prog_4_method_1_code 9 = .ok (.invokespecial 11, 3) := by decide +kernel
theorem d_rdr_init_12 : decode prog_4_method_1_code 12 = .ok (.putfield 12, 3) := by decide +kernel
theorem d_rdr_init_15 : decode prog_4_method_1_code 15 = .ok (.aload_n 0, 1) := by decide +kernel
theorem d_rdr_init_16 : decode prog_4_method_1_code 16 = .ok (.iconst 0, 1) := by decide +kernel
theorem d_rdr_init_17 : decode prog_4_method_1_code 17 = .ok (.putfield 18, 3) := by decide +kernel
theorem d_rdr_init_20 : decode prog_4_method_1_code 20 = .ok (.aload_n 0, 1) := by decide +kernel
theorem d_rdr_init_21 : decode prog_4_method_1_code 21 = .ok (.iconst 1, 1) := by decide +kernel
theorem d_rdr_init_22 : decode prog_4_method_1_code 22 = .ok (.putfield 22, 3) := by decide +kernel
theorem d_rdr_init_25 : decode prog_4_method_1_code 25 = .ok (.return_, 1) := by decide +kernel
def b_rpl_init_33 : Nat → rc_M → Nat → Int32 → Option (rc_M)
  | 0, _, _, _ => none
  | fuel + 1, w, a0, x1 =>
    if 8 ≤ x1 then
      some w
    else
      (rc_gR w (some a0) 6 0).bind fun v2 =>
      (rc_new w 1).bind fun p4 =>
      (g_row_init p4.2 p4.1).bind fun w6 =>
      (rc_sR w6 v2 4 1 x1 (some p4.1)).bind fun w8 =>
      b_rpl_init_33 fuel w8 a0 (x1 + 1)

def f_rpl_init (w : rc_M) (a0 : Nat) : Option (rc_M) :=
  (rc_newA w 4 8).bind fun p1 =>
  (rc_pR p1.2 (some a0) 6 0 (some p1.1)).bind fun w3 =>
  (rc_newA w3 0 8).bind fun p5 =>
  (rc_pR p5.2 (some a0) 6 1 (some p5.1)).bind fun w7 =>
  (rc_pI w7 (some a0) 6 2 0).bind fun w9 =>
  (rc_pI w9 (some a0) 6 3 0).bind fun w11 =>
  b_rpl_init_33 5000 w11 a0 0

def b_rpl_find_2 : Nat → rc_M → Nat → Int32 → Int32 → Option (Option Nat × rc_M)
  | 0, _, _, _, _ => none
  | fuel + 1, w, a0, x1, x2 =>
    (rc_gI w (some a0) 6 2).bind fun v1 =>
    if v1 ≤ x2 then
      some (none, w)
    else
      (rc_gR w (some a0) 6 1).bind fun v4 =>
      (rc_aI w v4 0 x2).bind fun v6 =>
      if v6 = x1 then
        (rc_gR w (some a0) 6 0).bind fun v9 =>
        (rc_aR w v9 4 x2).bind fun v11 =>
        some (v11, w)
      else
        b_rpl_find_2 fuel w a0 x1 (x2 + 1)

def f_rpl_find (w : rc_M) (a0 : Nat) (x1 : Int32) : Option (Option Nat × rc_M) :=
  b_rpl_find_2 5000 w a0 x1 0

def b_rpl_keep_56 (w : rc_M) (a0 : Nat) (x1 : Int32) (r2 : Option Nat) (x3 : Int32) : Option (rc_M) :=
  (rc_gR w (some a0) 6 1).bind fun v1 =>
  (rc_sI w v1 0 x3 x1).bind fun w3 =>
  (rc_gR w3 (some a0) 6 0).bind fun v5 =>
  (rc_aR w3 v5 4 x3).bind fun v7 =>
  (rc_rc w3 v7 1).bind fun a9 =>
  (g_row_clear w3 a9).bind fun w11 =>
  (rc_gR w11 (some a0) 6 0).bind fun v13 =>
  (rc_aR w11 v13 4 x3).bind fun v15 =>
  (rc_rc w11 r2 1).bind fun a17 =>
  (g_row_size w11 a17).bind fun p19 =>
  (rc_rc p19.2 v15 1).bind fun a21 =>
  (g_row_addPart p19.2 a21 r2 0 p19.1).bind fun w23 =>
  some w23

def b_rpl_keep_20 (w : rc_M) (a0 : Nat) (x1 : Int32) (r2 : Option Nat) (s0 : Int32) : Option (rc_M) :=
  (rc_gI w (some a0) 6 2).bind fun v1 =>
  if 8 ≤ v1 then
    (rc_gI w (some a0) 6 3).bind fun v4 =>
    (rc_pI w (some a0) 6 3 ((v4 + 1) - (v4 + 1) / 8 * 8)).bind fun w7 =>
    b_rpl_keep_56 w7 a0 x1 r2 s0
  else
    (rc_gI w (some a0) 6 2).bind fun v9 =>
    (rc_pI w (some a0) 6 2 (v9 + 1)).bind fun w11 =>
    b_rpl_keep_56 w11 a0 x1 r2 s0

def f_rpl_keep (w : rc_M) (a0 : Nat) (x1 : Int32) (r2 : Option Nat) : Option (rc_M) :=
  (rc_gI w (some a0) 6 2).bind fun v1 =>
  if 8 ≤ v1 then
    (rc_gI w (some a0) 6 3).bind fun v4 =>
    b_rpl_keep_20 w a0 x1 r2 v4
  else
    (rc_gI w (some a0) 6 2).bind fun v6 =>
    b_rpl_keep_20 w a0 x1 r2 v6

def f_con_init (w : rc_M) (a0 : Nat) : Option (rc_M) :=
  (rc_new w 1).bind fun p1 =>
  (g_row_init p1.2 p1.1).bind fun w3 =>
  (rc_pR w3 (some a0) 5 0 (some p1.1)).bind fun w5 =>
  (rc_new w5 6).bind fun p7 =>
  (f_rpl_init p7.2 p7.1).bind fun w9 =>
  (rc_pR w9 (some a0) 5 1 (some p7.1)).bind fun w11 =>
  (rc_pZ w11 (some a0) 5 2 0).bind fun w13 =>
  (rc_pI w13 (some a0) 5 3 0).bind fun w15 =>
  (rc_pI w15 (some a0) 5 4 0).bind fun w17 =>
  (rc_pI w17 (some a0) 5 5 0).bind fun w19 =>
  some w19

def b_con_takeHead_69 (w : rc_M) : Option (rc_M) :=
  some w

def b_con_takeHead_66 (w : rc_M) (s0 : Option Nat) (s1 : Int32) : Option (rc_M) :=
  (rc_pZ w s0 5 2 s1).bind fun w1 =>
  b_con_takeHead_69 w1 

def f_con_takeHead (w : rc_M) (a0 : Nat) (x1 : Int32) : Option (rc_M) :=
  (rc_gI w (some a0) 5 3).bind fun v1 =>
  (rc_pI w (some a0) 5 3 ((v1 <<< (8 &&& 31)) ||| x1)).bind fun w3 =>
  (rc_gI w3 (some a0) 5 4).bind fun v5 =>
  (rc_pI w3 (some a0) 5 4 (v5 + 1)).bind fun w7 =>
  (rc_gI w7 (some a0) 5 4).bind fun v9 =>
  if v9 = 4 then
    (rc_gI w7 (some a0) 5 3).bind fun v12 =>
    (rc_pI w7 (some a0) 5 5 (v12 &&& 2147483647)).bind fun w14 =>
    (rc_gI w14 (some a0) 5 5).bind fun v16 =>
    (rc_gR w14 (some a0) 5 0).bind fun v18 =>
    (rc_rc w14 v18 1).bind fun a20 =>
    (g_row_size w14 a20).bind fun p22 =>
    if v16 ≤ (1200 - p22.1) then
      b_con_takeHead_66 p22.2 (some a0) 0
    else
      b_con_takeHead_66 p22.2 (some a0) 1
  else
    b_con_takeHead_69 w7 

def b_con_isWholeWith_65 (w : rc_M) : Option (Int32 × rc_M) :=
  rc_z1 0 w

def b_con_isWholeWith_87 (w : rc_M) (s0 : Int32) : Option (Int32 × rc_M) :=
  rc_z1 s0 w

def b_con_isWholeWith_43 (w : rc_M) (a0 : Nat) : Option (Int32 × rc_M) :=
  (rc_gI w (some a0) 5 2).bind fun v1 =>
  if v1 = 0 then
    (rc_gI w (some a0) 5 4).bind fun v4 =>
    if v4 < 4 then
      b_con_isWholeWith_65 w 
    else
      (rc_gI w (some a0) 5 5).bind fun v7 =>
      if v7 ≤ 0 then
        (rc_pI w (some a0) 5 4 0).bind fun w10 =>
        (rc_gI w10 (some a0) 5 3).bind fun v12 =>
        if (v12 &&& ((-2147483648))) = 0 then
          b_con_isWholeWith_87 w10 0
        else
          b_con_isWholeWith_87 w10 1
      else
        b_con_isWholeWith_65 w 
  else
    b_con_isWholeWith_65 w 

def f_con_isWholeWith (w : rc_M) (a0 : Nat) (x1 : Int32) : Option (Int32 × rc_M) :=
  (rc_gI w (some a0) 5 2).bind fun v1 =>
  if v1 = 0 then
    (rc_gI w (some a0) 5 4).bind fun v4 =>
    if 4 ≤ v4 then
      (rc_gR w (some a0) 5 0).bind fun v7 =>
      (rc_rc w v7 1).bind fun a9 =>
      (g_row_add w a9 x1).bind fun w11 =>
      (rc_gI w11 (some a0) 5 5).bind fun v13 =>
      (rc_pI w11 (some a0) 5 5 (v13 - 1)).bind fun w15 =>
      b_con_isWholeWith_43 w15 a0
    else
      (rc_rc w (some a0) 5).bind fun a17 =>
      (f_con_takeHead w a17 x1).bind fun w19 =>
      b_con_isWholeWith_43 w19 a0
  else
    rc_z1 0 w

def f_con_forgetRecord (w : rc_M) (a0 : Nat) : Option (rc_M) :=
  (rc_gR w (some a0) 5 0).bind fun v1 =>
  (rc_rc w v1 1).bind fun a3 =>
  (g_row_clear w a3).bind fun w5 =>
  (rc_pI w5 (some a0) 5 4 0).bind fun w7 =>
  (rc_pI w7 (some a0) 5 5 0).bind fun w9 =>
  some w9

def f_con_openAnew (w : rc_M) (a0 : Nat) : Option (Int32 × rc_M) :=
  (rc_gI w (some a0) 5 2).bind fun v1 =>
  (rc_pZ w (some a0) 5 2 0).bind fun w3 =>
  (rc_rc w3 (some a0) 5).bind fun a5 =>
  (f_con_forgetRecord w3 a5).bind fun w7 =>
  rc_z1 v1 w7

def b_con_bytesWaiting_18 (w : rc_M) (s0 : Int32) : Option (Int32 × rc_M) :=
  some (s0, w)

def f_con_bytesWaiting (w : rc_M) (a0 : Nat) : Option (Int32 × rc_M) :=
  (rc_gI w (some a0) 5 2).bind fun v1 =>
  if v1 = 0 then
    (rc_gR w (some a0) 5 0).bind fun v4 =>
    (rc_rc w v4 1).bind fun a6 =>
    (g_row_size w a6).bind fun p8 =>
    b_con_bytesWaiting_18 p8.2 p8.1
  else
    b_con_bytesWaiting_18 w ((-1))

def b_map_init_28 : Nat → rc_M → Nat → Int32 → Option (rc_M)
  | 0, _, _, _ => none
  | fuel + 1, w, a0, x1 =>
    if 40 ≤ x1 then
      some w
    else
      (rc_gR w (some a0) 3 0).bind fun v2 =>
      (rc_new w 1).bind fun p4 =>
      (g_row_init p4.2 p4.1).bind fun w6 =>
      (rc_sR w6 v2 4 1 x1 (some p4.1)).bind fun w8 =>
      b_map_init_28 fuel w8 a0 (x1 + 1)

def f_map_init (w : rc_M) (a0 : Nat) : Option (rc_M) :=
  (rc_newA w 4 40).bind fun p1 =>
  (rc_pR p1.2 (some a0) 3 0 (some p1.1)).bind fun w3 =>
  (rc_newA w3 1 40).bind fun p5 =>
  (rc_pR p5.2 (some a0) 3 1 (some p5.1)).bind fun w7 =>
  (rc_pI w7 (some a0) 3 2 0).bind fun w9 =>
  b_map_init_28 5000 w9 a0 0

def f_map_size (w : rc_M) (a0 : Nat) : Option (Int32 × rc_M) :=
  (rc_gI w (some a0) 3 2).bind fun v1 =>
  some (v1, w)

def b_map_isFull_14 (w : rc_M) (s0 : Int32) : Option (Int32 × rc_M) :=
  rc_z1 s0 w

def f_map_isFull (w : rc_M) (a0 : Nat) : Option (Int32 × rc_M) :=
  (rc_gI w (some a0) 3 2).bind fun v1 =>
  if v1 < 40 then
    b_map_isFull_14 w 0
  else
    b_map_isFull_14 w 1

def b_map_isPlace_17 (w : rc_M) (s0 : Int32) : Option (Int32 × rc_M) :=
  rc_z1 s0 w

def b_map_isPlace_16 (w : rc_M) : Option (Int32 × rc_M) :=
  b_map_isPlace_17 w 0

def f_map_isPlace (w : rc_M) (a0 : Nat) (x1 : Int32) : Option (Int32 × rc_M) :=
  if x1 < 0 then
    b_map_isPlace_16 w 
  else
    (rc_gI w (some a0) 3 2).bind fun v2 =>
    if v2 ≤ x1 then
      b_map_isPlace_16 w 
    else
      b_map_isPlace_17 w 1

def b_map_placeOf_3 : Nat → rc_M → Nat → Option Nat → Int32 → Int32 → Int32 → Option (Int32 × rc_M)
  | 0, _, _, _, _, _, _ => none
  | fuel + 1, w, a0, r1, x2, x3, x4 =>
    (rc_gI w (some a0) 3 2).bind fun v1 =>
    if v1 ≤ x4 then
      some ((-1), w)
    else
      (rc_gR w (some a0) 3 0).bind fun v4 =>
      (rc_aR w v4 4 x4).bind fun v6 =>
      (rc_rc w v6 1).bind fun a8 =>
      (g_row_isPart w a8 r1 x2 x3).bind fun p10 =>
      if p10.1 = 0 then
        b_map_placeOf_3 fuel p10.2 a0 r1 x2 x3 (x4 + 1)
      else
        some (x4, p10.2)

def f_map_placeOf (w : rc_M) (a0 : Nat) (r1 : Option Nat) (x2 : Int32) (x3 : Int32) : Option (Int32 × rc_M) :=
  b_map_placeOf_3 5000 w a0 r1 x2 x3 0

def b_map_valueAt_18 (w : rc_M) (s0 : Int64) : Option (Int64 × rc_M) :=
  some (s0, w)

def f_map_valueAt (w : rc_M) (a0 : Nat) (x1 : Int32) : Option (Int64 × rc_M) :=
  (rc_rc w (some a0) 3).bind fun a1 =>
  (f_map_isPlace w a1 x1).bind fun p3 =>
  if p3.1 = 0 then
    b_map_valueAt_18 p3.2 0
  else
    (rc_gR p3.2 (some a0) 3 1).bind fun v6 =>
    (rc_aL p3.2 v6 x1).bind fun v8 =>
    b_map_valueAt_18 p3.2 v8

def b_map_setValue_15 (w : rc_M) : Option (rc_M) :=
  some w

def f_map_setValue (w : rc_M) (a0 : Nat) (x1 : Int32) (x2 : Int64) : Option (rc_M) :=
  (rc_rc w (some a0) 3).bind fun a1 =>
  (f_map_isPlace w a1 x1).bind fun p3 =>
  if p3.1 = 0 then
    b_map_setValue_15 p3.2 
  else
    (rc_gR p3.2 (some a0) 3 1).bind fun v6 =>
    (rc_sL p3.2 v6 x1 x2).bind fun w8 =>
    b_map_setValue_15 w8 

def b_map_addToValue_18 (w : rc_M) : Option (rc_M) :=
  some w

def f_map_addToValue (w : rc_M) (a0 : Nat) (x1 : Int32) (x2 : Int64) : Option (rc_M) :=
  (rc_rc w (some a0) 3).bind fun a1 =>
  (f_map_isPlace w a1 x1).bind fun p3 =>
  if p3.1 = 0 then
    b_map_addToValue_18 p3.2 
  else
    (rc_gR p3.2 (some a0) 3 1).bind fun v6 =>
    (rc_aL p3.2 v6 x1).bind fun v8 =>
    (rc_sL p3.2 v6 x1 (v8 + x2)).bind fun w10 =>
    b_map_addToValue_18 w10 

def f_map_addNew (w : rc_M) (a0 : Nat) (r1 : Option Nat) (x2 : Int32) (x3 : Int32) (x4 : Int64) : Option (rc_M) :=
  (rc_rc w (some a0) 3).bind fun a1 =>
  (f_map_isFull w a1).bind fun p3 =>
  if p3.1 = 0 then
    (rc_gR p3.2 (some a0) 3 0).bind fun v6 =>
    (rc_gI p3.2 (some a0) 3 2).bind fun v8 =>
    (rc_aR p3.2 v6 4 v8).bind fun v10 =>
    (rc_rc p3.2 v10 1).bind fun a12 =>
    (g_row_clear p3.2 a12).bind fun w14 =>
    (rc_gR w14 (some a0) 3 0).bind fun v16 =>
    (rc_gI w14 (some a0) 3 2).bind fun v18 =>
    (rc_aR w14 v16 4 v18).bind fun v20 =>
    (rc_rc w14 v20 1).bind fun a22 =>
    (g_row_addPart w14 a22 r1 x2 x3).bind fun w24 =>
    (rc_gR w24 (some a0) 3 1).bind fun v26 =>
    (rc_gI w24 (some a0) 3 2).bind fun v28 =>
    (rc_sL w24 v26 v28 x4).bind fun w30 =>
    (rc_gI w30 (some a0) 3 2).bind fun v32 =>
    (rc_pI w30 (some a0) 3 2 (v32 + 1)).bind fun w34 =>
    some w34
  else
    some p3.2

def b_map_remove_20 : Nat → rc_M → Nat → Option Nat → Int32 → Option (rc_M)
  | 0, _, _, _, _ => none
  | fuel + 1, w, a0, r2, x3 =>
    (rc_gI w (some a0) 3 2).bind fun v1 =>
    if v1 ≤ x3 then
      (rc_gI w (some a0) 3 2).bind fun v4 =>
      (rc_pI w (some a0) 3 2 (v4 - 1)).bind fun w6 =>
      (rc_gR w6 (some a0) 3 0).bind fun v8 =>
      (rc_gI w6 (some a0) 3 2).bind fun v10 =>
      (rc_sR w6 v8 4 1 v10 r2).bind fun w12 =>
      some w12
    else
      (rc_gR w (some a0) 3 0).bind fun v14 =>
      (rc_gR w (some a0) 3 0).bind fun v16 =>
      (rc_aR w v16 4 x3).bind fun v18 =>
      (rc_sR w v14 4 1 (x3 - 1) v18).bind fun w20 =>
      (rc_gR w20 (some a0) 3 1).bind fun v22 =>
      (rc_gR w20 (some a0) 3 1).bind fun v24 =>
      (rc_aL w20 v24 x3).bind fun v26 =>
      (rc_sL w20 v22 (x3 - 1) v26).bind fun w28 =>
      b_map_remove_20 fuel w28 a0 r2 (x3 + 1)

def f_map_remove (w : rc_M) (a0 : Nat) (x1 : Int32) : Option (rc_M) :=
  (rc_rc w (some a0) 3).bind fun a1 =>
  (f_map_isPlace w a1 x1).bind fun p3 =>
  if p3.1 = 0 then
    some p3.2
  else
    (rc_gR p3.2 (some a0) 3 0).bind fun v6 =>
    (rc_aR p3.2 v6 4 x1).bind fun v8 =>
    b_map_remove_20 5000 p3.2 a0 v8 (x1 + 1)

def b_map_keyAt_18 (w : rc_M) (s0 : Option Nat) : Option (Option Nat × rc_M) :=
  some (s0, w)

def f_map_keyAt (w : rc_M) (a0 : Nat) (x1 : Int32) : Option (Option Nat × rc_M) :=
  (rc_rc w (some a0) 3).bind fun a1 =>
  (f_map_isPlace w a1 x1).bind fun p3 =>
  if p3.1 = 0 then
    b_map_keyAt_18 p3.2 none
  else
    (rc_gR p3.2 (some a0) 3 0).bind fun v6 =>
    (rc_aR p3.2 v6 4 x1).bind fun v8 =>
    b_map_keyAt_18 p3.2 v8

def f_rdr_init (w : rc_M) (a0 : Nat) : Option (rc_M) :=
  (rc_new w 1).bind fun p1 =>
  (g_row_init p1.2 p1.1).bind fun w3 =>
  (rc_pR w3 (some a0) 4 0 (some p1.1)).bind fun w5 =>
  (rc_pI w5 (some a0) 4 1 0).bind fun w7 =>
  (rc_pZ w7 (some a0) 4 2 1).bind fun w9 =>
  some w9

set_option maxRecDepth 100000 in
set_option maxHeartbeats 4000000 in
theorem k_rpl_init_33 {X : rc_X} {w0 : rc_M} (hF : (q_R X).frames = 2) (hL : (q_R X).locals = 40) (hN : q_n X = 2) (C : rc_C X "RecordCalls$Replies" prog_5_method_1_code w0) {res : rc_M} (E : rc_E0 X y_rpl_init none none res) : ∀ (fuel : Nat) (w : rc_M) (a0 : Nat) (x1 : Int32), b_rpl_init_33 fuel w a0 x1 = some res → rc_J X w 33 [] [(0, va_rf (some a0)), (1, .int x1)] := by
  intro fuel
  induction fuel with
  | zero => intro w a0 x1 h; simp [b_rpl_init_33] at h
  | succ fuel ih =>
    intro w a0 x1 h
    unfold b_rpl_init_33 at h
    refine j_iload_n C d_rpl_init_33 rfl 1 rfl ?_
    refine j_bipush (v := 8) C d_rpl_init_34 rfl (by decide) ?_
    refine j_icmp_ge (tgt := 58) C d_rpl_init_36 (by decide) rfl (fun c1 => ?_) (fun c1 => ?_)
    · rw [if_pos c1] at h
      cases h
      exact j_vret C E d_rpl_init_58
    · rw [if_neg c1] at h
      refine j_aload_n C d_rpl_init_39 rfl 0 rfl ?_
      obtain ⟨v2, h3, h⟩ := Option.bind_eq_some_iff.mp h
      refine j_getR C fl_rpl_11 h3 d_rpl_init_40 rfl ?_
      refine j_iload_n C d_rpl_init_43 rfl 1 rfl ?_
      obtain ⟨p4, h5, h⟩ := Option.bind_eq_some_iff.mp h
      refine j_new C (ci := 1) (by decide) T_146 T_27 T_2 h5 d_rpl_init_44 rfl ?_
      refine j_dup C d_rpl_init_47 rfl (by first | rfl | exact va_rf_cat _) ?_
      obtain ⟨w6, h7, h⟩ := Option.bind_eq_some_iff.mp h
      refine j_callI C (As := []) (st := [va_rf (some p4.1), .int x1, va_rf v2]) mk_row_init (Or.inr T_147) T_29 rfl rfl (rc_le hF (by decide)) (rc_le hL (by decide)) (cg_row_init h7) rfl rfl (by simp [va_rf_cat, rc_cat_i, rc_cat_l]) d_rpl_init_48 rfl ?_
      obtain ⟨w8, h9, h⟩ := Option.bind_eq_some_iff.mp h
      refine j_aast C (kd := 4) (ci := 1) rfl h9 d_rpl_init_51 rfl ?_
      refine j_iinc C d_rpl_init_52 rfl 1 [(1, .int (x1 + 1)), (0, va_rf (some a0))] rfl rfl (rc_lt hN (by decide)) (by first | rfl | simp [va_rf_cat, rc_cat_i, rc_cat_l]) ?_
      refine j_goto (tgt := 33) C d_rpl_init_55 (by decide) ?_
      refine rc_J.sub (lv' := [(0, va_rf (some a0)), (1, .int (x1 + 1))]) [1, 0] rfl ?_
      exact ih _ _ _ h

set_option maxRecDepth 100000 in
set_option maxHeartbeats 4000000 in
theorem ct_rpl_init {l : Launch} {G : rc_G} {w : rc_M} {a0 : Nat} {res : rc_M} (h : f_rpl_init w a0 = some res) : rc_Ct l G y_rpl_init prog_5_method_1_code 2 none 2 40 [va_rf (some a0)] w none res := by
  refine rc_enter (by decide +kernel) (by simp [lg_sl, va_rf_cat, rc_cat_i, rc_cat_l]) ?_
  intro X _ _ hN hF hL C E
  have hlv : lv_args 0 [va_rf (some a0)] = [(0, va_rf (some a0))] := by simp [lv_args, va_rf_cat, rc_cat_i, rc_cat_l]
  rw [hlv]
  clear hlv
  unfold f_rpl_init at h
  refine j_aload_n C d_rpl_init_0 rfl 0 rfl ?_
  refine j_oinit C rfl T_145 T_24 T_25 (rc_le hF (by decide)) (rc_le hL (by simp [va_rf_cat, rc_cat_i, rc_cat_l])) d_rpl_init_1 rfl ?_
  refine j_aload_n C d_rpl_init_4 rfl 0 rfl ?_
  refine j_bipush (v := 8) C d_rpl_init_5 rfl (by decide) ?_
  obtain ⟨p1, h2, h⟩ := Option.bind_eq_some_iff.mp h
  refine j_anewA C (kd := 4) (ci := 1) rfl rfl T_146 T_40 h2 d_rpl_init_7 rfl ?_
  obtain ⟨w3, h4, h⟩ := Option.bind_eq_some_iff.mp h
  refine j_putV C (ci := 6) (k := 0) (by decide) (by decide) T_148 (Or.inr ⟨rfl, E.2.1, rfl⟩) rfl (by first | rfl | exact rc_fo _ _ | exact rc_fa _ _) h4 d_rpl_init_10 rfl ?_
  refine j_aload_n C d_rpl_init_13 rfl 0 rfl ?_
  refine j_bipush (v := 8) C d_rpl_init_14 rfl (by decide) ?_
  obtain ⟨p5, h6, h⟩ := Option.bind_eq_some_iff.mp h
  refine j_newA C (kd := 0) (ty := .int) rfl rfl (fun _ _ h => h) (fun _ _ => rfl) (by decide) T_132 h6 d_rpl_init_16 rfl ?_
  obtain ⟨w7, h8, h⟩ := Option.bind_eq_some_iff.mp h
  refine j_putV C (ci := 6) (k := 1) (by decide) (by decide) T_149 (Or.inr ⟨rfl, E.2.1, rfl⟩) rfl (by first | rfl | exact rc_fo _ _ | exact rc_fa _ _) h8 d_rpl_init_18 rfl ?_
  refine j_aload_n C d_rpl_init_21 rfl 0 rfl ?_
  refine j_iconst (v := 0) C d_rpl_init_22 rfl (by decide) ?_
  obtain ⟨w9, h10, h⟩ := Option.bind_eq_some_iff.mp h
  refine j_putV C (ci := 6) (k := 2) (by decide) (by decide) T_150 (Or.inl rfl) rfl rfl h10 d_rpl_init_23 rfl ?_
  refine j_aload_n C d_rpl_init_26 rfl 0 rfl ?_
  refine j_iconst (v := 0) C d_rpl_init_27 rfl (by decide) ?_
  obtain ⟨w11, h12, h⟩ := Option.bind_eq_some_iff.mp h
  refine j_putV C (ci := 6) (k := 3) (by decide) (by decide) T_151 (Or.inl rfl) rfl rfl h12 d_rpl_init_28 rfl ?_
  refine j_iconst (v := 0) C d_rpl_init_31 rfl (by decide) ?_
  refine j_istore_n C (i := 1) d_rpl_init_32 rfl rfl [(1, .int 0), (0, va_rf (some a0))] (rc_lt hN (by decide)) (by first | rfl | simp [va_rf_cat, rc_cat_i, rc_cat_l]) ?_
  refine rc_J.sub (lv' := [(0, va_rf (some a0)), (1, .int 0)]) [1, 0] rfl ?_
  exact k_rpl_init_33 hF hL hN C E _ _ _ _ h

set_option maxRecDepth 100000 in
set_option maxHeartbeats 4000000 in
theorem k_rpl_find_2 {X : rc_X} {w0 : rc_M} (hF : (q_R X).frames = 0) (hL : (q_R X).locals = 0) (hN : q_n X = 3) (C : rc_C X "RecordCalls$Replies" prog_5_method_2_code w0) {res : Option Nat × rc_M} (E : rc_E0 X y_rpl_find (some (.object "RecordCalls$Row")) (some (va_rf res.1)) res.2) : ∀ (fuel : Nat) (w : rc_M) (a0 : Nat) (x1 : Int32) (x2 : Int32), b_rpl_find_2 fuel w a0 x1 x2 = some res → rc_J X w 2 [] [(0, va_rf (some a0)), (1, .int x1), (2, .int x2)] := by
  intro fuel
  induction fuel with
  | zero => intro w a0 x1 x2 h; simp [b_rpl_find_2] at h
  | succ fuel ih =>
    intro w a0 x1 x2 h
    unfold b_rpl_find_2 at h
    refine j_iload_n C d_rpl_find_2 rfl 2 rfl ?_
    refine j_aload_n C d_rpl_find_3 rfl 0 rfl ?_
    obtain ⟨v1, h2, h⟩ := Option.bind_eq_some_iff.mp h
    refine j_getI C fl_rpl_21 h2 d_rpl_find_4 rfl ?_
    refine j_icmp_ge (tgt := 33) C d_rpl_find_7 (by decide) rfl (fun c3 => ?_) (fun c3 => ?_)
    · rw [if_pos c3] at h
      refine j_null C d_rpl_find_33 rfl ?_
      cases h
      exact j_aret C (by first | exact Or.inl ⟨_, rfl⟩ | exact Or.inr ⟨_, rfl⟩) E d_rpl_find_34
    · rw [if_neg c3] at h
      refine j_aload_n C d_rpl_find_10 rfl 0 rfl ?_
      obtain ⟨v4, h5, h⟩ := Option.bind_eq_some_iff.mp h
      refine j_getR C fl_rpl_17 h5 d_rpl_find_11 rfl ?_
      refine j_iload_n C d_rpl_find_14 rfl 2 rfl ?_
      obtain ⟨v6, h7, h⟩ := Option.bind_eq_some_iff.mp h
      refine j_iald C h7 d_rpl_find_15 rfl ?_
      refine j_iload_n C d_rpl_find_16 rfl 1 rfl ?_
      refine j_icmp_ne (tgt := 27) C d_rpl_find_17 (by decide) rfl (fun c8 => ?_) (fun c8 => ?_)
      · rw [if_neg c8] at h
        refine j_iinc C d_rpl_find_27 rfl 2 [(2, .int (x2 + 1)), (0, va_rf (some a0)), (1, .int x1)] rfl rfl (rc_lt hN (by decide)) (by first | rfl | simp [va_rf_cat, rc_cat_i, rc_cat_l]) ?_
        refine j_goto (tgt := 2) C d_rpl_find_30 (by decide) ?_
        refine rc_J.sub (lv' := [(0, va_rf (some a0)), (1, .int x1), (2, .int (x2 + 1))]) [1, 2, 0] rfl ?_
        exact ih _ _ _ _ h
      · rw [if_pos c8] at h
        refine j_aload_n C d_rpl_find_20 rfl 0 rfl ?_
        obtain ⟨v9, h10, h⟩ := Option.bind_eq_some_iff.mp h
        refine j_getR C fl_rpl_11 h10 d_rpl_find_21 rfl ?_
        refine j_iload_n C d_rpl_find_24 rfl 2 rfl ?_
        obtain ⟨v11, h12, h⟩ := Option.bind_eq_some_iff.mp h
        refine j_aald C (kd := 4) rfl h12 d_rpl_find_25 rfl ?_
        cases h
        exact j_aret C (by first | exact Or.inl ⟨_, rfl⟩ | exact Or.inr ⟨_, rfl⟩) E d_rpl_find_26

set_option maxRecDepth 100000 in
set_option maxHeartbeats 4000000 in
theorem ct_rpl_find {l : Launch} {G : rc_G} {w : rc_M} {a0 : Nat} {x1 : Int32} {res : Option Nat × rc_M} (h : f_rpl_find w a0 x1 = some res) : rc_Ct l G y_rpl_find prog_5_method_2_code 3 (some (.object "RecordCalls$Row")) 0 0 [va_rf (some a0), .int x1] w (some (va_rf res.1)) res.2 := by
  refine rc_enter (by decide +kernel) (by simp [lg_sl, va_rf_cat, rc_cat_i, rc_cat_l]) ?_
  intro X _ _ hN hF hL C E
  have hlv : lv_args 0 [va_rf (some a0), .int x1] = [(0, va_rf (some a0)), (1, .int x1)] := by simp [lv_args, va_rf_cat, rc_cat_i, rc_cat_l]
  rw [hlv]
  clear hlv
  unfold f_rpl_find at h
  refine j_iconst (v := 0) C d_rpl_find_0 rfl (by decide) ?_
  refine j_istore_n C (i := 2) d_rpl_find_1 rfl rfl [(2, .int 0), (0, va_rf (some a0)), (1, .int x1)] (rc_lt hN (by decide)) (by first | rfl | simp [va_rf_cat, rc_cat_i, rc_cat_l]) ?_
  refine rc_J.sub (lv' := [(0, va_rf (some a0)), (1, .int x1), (2, .int 0)]) [1, 2, 0] rfl ?_
  exact k_rpl_find_2 hF hL hN C E _ _ _ _ _ h

set_option maxRecDepth 100000 in
set_option maxHeartbeats 4000000 in
theorem k_rpl_keep_56 {X : rc_X} {w0 : rc_M} (hF : (q_R X).frames = 4) (hL : (q_R X).locals = 94) (hN : q_n X = 4) (C : rc_C X "RecordCalls$Replies" prog_5_method_3_code w0) {res : rc_M} (E : rc_E0 X y_rpl_keep none none res) {w : rc_M} {a0 : Nat} {x1 : Int32} {r2 : Option Nat} {x3 : Int32} (h : b_rpl_keep_56 w a0 x1 r2 x3 = some res) : rc_J X w 56 [] [(0, va_rf (some a0)), (1, .int x1), (2, va_rf r2), (3, .int x3)] := by
  unfold b_rpl_keep_56 at h
  refine j_aload_n C d_rpl_keep_56 rfl 0 rfl ?_
  obtain ⟨v1, h2, h⟩ := Option.bind_eq_some_iff.mp h
  refine j_getR C fl_rpl_17 h2 d_rpl_keep_57 rfl ?_
  refine j_iload_n C d_rpl_keep_60 rfl 3 rfl ?_
  refine j_iload_n C d_rpl_keep_61 rfl 1 rfl ?_
  obtain ⟨w3, h4, h⟩ := Option.bind_eq_some_iff.mp h
  refine j_iast C h4 d_rpl_keep_62 rfl ?_
  refine j_aload_n C d_rpl_keep_63 rfl 0 rfl ?_
  obtain ⟨v5, h6, h⟩ := Option.bind_eq_some_iff.mp h
  refine j_getR C fl_rpl_11 h6 d_rpl_keep_64 rfl ?_
  refine j_iload_n C d_rpl_keep_67 rfl 3 rfl ?_
  obtain ⟨v7, h8, h⟩ := Option.bind_eq_some_iff.mp h
  refine j_aald C (kd := 4) rfl h8 d_rpl_keep_68 rfl ?_
  obtain ⟨a9, h10, h⟩ := Option.bind_eq_some_iff.mp h
  obtain ⟨w11, h12, h⟩ := Option.bind_eq_some_iff.mp h
  refine j_callV C (As := []) (st := []) (sk' := []) mk_row_clear (Or.inl T_633) T_217 T_218 (ci := 1) rfl h10 (rc_le hF (by decide)) (rc_le hL (by decide)) (cg_row_clear h12) rfl rfl (by decide) d_rpl_keep_69 rfl rfl ?_
  refine j_aload_n C d_rpl_keep_72 rfl 0 rfl ?_
  obtain ⟨v13, h14, h⟩ := Option.bind_eq_some_iff.mp h
  refine j_getR C fl_rpl_11 h14 d_rpl_keep_73 rfl ?_
  refine j_iload_n C d_rpl_keep_76 rfl 3 rfl ?_
  obtain ⟨v15, h16, h⟩ := Option.bind_eq_some_iff.mp h
  refine j_aald C (kd := 4) rfl h16 d_rpl_keep_77 rfl ?_
  refine j_aload_n C d_rpl_keep_78 rfl 2 rfl ?_
  refine j_iconst (v := 0) C d_rpl_keep_79 rfl (by decide) ?_
  refine j_aload_n C d_rpl_keep_80 rfl 2 rfl ?_
  obtain ⟨a17, h18, h⟩ := Option.bind_eq_some_iff.mp h
  obtain ⟨p19, h20, h⟩ := Option.bind_eq_some_iff.mp h
  refine j_callV C (As := []) (st := [.int 0, va_rf r2, va_rf v15]) (sk' := [.int p19.1, .int 0, va_rf r2, va_rf v15]) mk_row_size (Or.inl T_634) T_221 T_222 (ci := 1) rfl h18 (rc_le hF (by decide)) (rc_le hL (by decide)) (cg_row_size h20) rfl rfl (by simp [va_rf_cat, rc_cat_i, rc_cat_l]) d_rpl_keep_81 rfl rfl ?_
  obtain ⟨a21, h22, h⟩ := Option.bind_eq_some_iff.mp h
  obtain ⟨w23, h24, h⟩ := Option.bind_eq_some_iff.mp h
  refine j_callV C (As := [va_rf r2, .int 0, .int p19.1]) (st := []) (sk' := []) mk_row_addPart (Or.inl T_635) T_225 T_226 (ci := 1) rfl h22 (rc_le hF (by decide)) (rc_le hL (by decide)) (cg_row_addPart h24) rfl rfl (by decide) d_rpl_keep_84 rfl rfl ?_
  cases h
  exact j_vret C E d_rpl_keep_87

set_option maxRecDepth 100000 in
set_option maxHeartbeats 4000000 in
theorem k_rpl_keep_20 {X : rc_X} {w0 : rc_M} (hF : (q_R X).frames = 4) (hL : (q_R X).locals = 94) (hN : q_n X = 4) (C : rc_C X "RecordCalls$Replies" prog_5_method_3_code w0) {res : rc_M} (E : rc_E0 X y_rpl_keep none none res) {w : rc_M} {a0 : Nat} {x1 : Int32} {r2 : Option Nat} {s0 : Int32} (h : b_rpl_keep_20 w a0 x1 r2 s0 = some res) : rc_J X w 20 [.int s0] [(0, va_rf (some a0)), (1, .int x1), (2, va_rf r2)] := by
  unfold b_rpl_keep_20 at h
  refine j_istore_n C (i := 3) d_rpl_keep_20 rfl rfl [(3, .int s0), (0, va_rf (some a0)), (1, .int x1), (2, va_rf r2)] (rc_lt hN (by decide)) (by first | rfl | simp [va_rf_cat, rc_cat_i, rc_cat_l]) ?_
  refine j_aload_n C d_rpl_keep_21 rfl 1 rfl ?_
  obtain ⟨v1, h2, h⟩ := Option.bind_eq_some_iff.mp h
  refine j_getI C fl_rpl_21 h2 d_rpl_keep_22 rfl ?_
  refine j_bipush (v := 8) C d_rpl_keep_25 rfl (by decide) ?_
  refine j_icmp_ge (tgt := 43) C d_rpl_keep_27 (by decide) rfl (fun c3 => ?_) (fun c3 => ?_)
  · rw [if_pos c3] at h
    refine j_aload_n C d_rpl_keep_43 rfl 1 rfl ?_
    refine j_aload_n C d_rpl_keep_44 rfl 1 rfl ?_
    obtain ⟨v4, h5, h⟩ := Option.bind_eq_some_iff.mp h
    refine j_getI C fl_rpl_25 h5 d_rpl_keep_45 rfl ?_
    refine j_iconst (v := 1) C d_rpl_keep_48 rfl (by decide) ?_
    refine j_iadd C d_rpl_keep_49 rfl ?_
    refine j_bipush (v := 8) C d_rpl_keep_50 rfl (by decide) ?_
    refine j_irem C d_rpl_keep_52 rfl (by decide) ?_
    obtain ⟨w7, h8, h⟩ := Option.bind_eq_some_iff.mp h
    refine j_putV C (ci := 6) (k := 3) (by decide) (by decide) T_151 (Or.inl rfl) rfl rfl h8 d_rpl_keep_53 rfl ?_
    refine rc_J.sub (lv' := [(0, va_rf (some a0)), (1, .int x1), (2, va_rf r2), (3, .int s0)]) [1, 2, 3, 0] rfl ?_
    exact k_rpl_keep_56 hF hL hN C E h
  · rw [if_neg c3] at h
    refine j_aload_n C d_rpl_keep_30 rfl 1 rfl ?_
    refine j_dup C d_rpl_keep_31 rfl (by first | rfl | exact va_rf_cat _) ?_
    obtain ⟨v9, h10, h⟩ := Option.bind_eq_some_iff.mp h
    refine j_getI C fl_rpl_21 h10 d_rpl_keep_32 rfl ?_
    refine j_iconst (v := 1) C d_rpl_keep_35 rfl (by decide) ?_
    refine j_iadd C d_rpl_keep_36 rfl ?_
    obtain ⟨w11, h12, h⟩ := Option.bind_eq_some_iff.mp h
    refine j_putV C (ci := 6) (k := 2) (by decide) (by decide) T_150 (Or.inl rfl) rfl rfl h12 d_rpl_keep_37 rfl ?_
    refine j_goto (tgt := 56) C d_rpl_keep_40 (by decide) ?_
    refine rc_J.sub (lv' := [(0, va_rf (some a0)), (1, .int x1), (2, va_rf r2), (3, .int s0)]) [1, 2, 3, 0] rfl ?_
    exact k_rpl_keep_56 hF hL hN C E h

set_option maxRecDepth 100000 in
set_option maxHeartbeats 4000000 in
theorem ct_rpl_keep {l : Launch} {G : rc_G} {w : rc_M} {a0 : Nat} {x1 : Int32} {r2 : Option Nat} {res : rc_M} (h : f_rpl_keep w a0 x1 r2 = some res) : rc_Ct l G y_rpl_keep prog_5_method_3_code 4 none 4 94 [va_rf (some a0), .int x1, va_rf r2] w none res := by
  refine rc_enter (by decide +kernel) (by simp [lg_sl, va_rf_cat, rc_cat_i, rc_cat_l]) ?_
  intro X _ _ hN hF hL C E
  have hlv : lv_args 0 [va_rf (some a0), .int x1, va_rf r2] = [(0, va_rf (some a0)), (1, .int x1), (2, va_rf r2)] := by simp [lv_args, va_rf_cat, rc_cat_i, rc_cat_l]
  rw [hlv]
  clear hlv
  unfold f_rpl_keep at h
  refine j_aload_n C d_rpl_keep_0 rfl 0 rfl ?_
  obtain ⟨v1, h2, h⟩ := Option.bind_eq_some_iff.mp h
  refine j_getI C fl_rpl_21 h2 d_rpl_keep_1 rfl ?_
  refine j_bipush (v := 8) C d_rpl_keep_4 rfl (by decide) ?_
  refine j_icmp_ge (tgt := 16) C d_rpl_keep_6 (by decide) rfl (fun c3 => ?_) (fun c3 => ?_)
  · rw [if_pos c3] at h
    refine j_aload_n C d_rpl_keep_16 rfl 0 rfl ?_
    obtain ⟨v4, h5, h⟩ := Option.bind_eq_some_iff.mp h
    refine j_getI C fl_rpl_25 h5 d_rpl_keep_17 rfl ?_
    exact k_rpl_keep_20 hF hL hN C E h
  · rw [if_neg c3] at h
    refine j_aload_n C d_rpl_keep_9 rfl 0 rfl ?_
    obtain ⟨v6, h7, h⟩ := Option.bind_eq_some_iff.mp h
    refine j_getI C fl_rpl_21 h7 d_rpl_keep_10 rfl ?_
    refine j_goto (tgt := 20) C d_rpl_keep_13 (by decide) ?_
    exact k_rpl_keep_20 hF hL hN C E h

set_option maxRecDepth 100000 in
set_option maxHeartbeats 4000000 in
theorem ct_con_init {l : Launch} {G : rc_G} {w : rc_M} {a0 : Nat} {res : rc_M} (h : f_con_init w a0 = some res) : rc_Ct l G y_con_init prog_2_method_1_code 1 none 3 61 [va_rf (some a0)] w none res := by
  refine rc_enter (by decide +kernel) (by simp [lg_sl, va_rf_cat, rc_cat_i, rc_cat_l]) ?_
  intro X _ _ hN hF hL C E
  have hlv : lv_args 0 [va_rf (some a0)] = [(0, va_rf (some a0))] := by simp [lv_args, va_rf_cat, rc_cat_i, rc_cat_l]
  rw [hlv]
  clear hlv
  unfold f_con_init at h
  refine j_aload_n C d_con_init_0 rfl 0 rfl ?_
  refine j_oinit C rfl T_137 T_24 T_25 (rc_le hF (by decide)) (rc_le hL (by simp [va_rf_cat, rc_cat_i, rc_cat_l])) d_con_init_1 rfl ?_
  refine j_aload_n C d_con_init_4 rfl 0 rfl ?_
  obtain ⟨p1, h2, h⟩ := Option.bind_eq_some_iff.mp h
  refine j_new C (ci := 1) (by decide) T_138 T_27 T_2 h2 d_con_init_5 rfl ?_
  refine j_dup C d_con_init_8 rfl (by first | rfl | exact va_rf_cat _) ?_
  obtain ⟨w3, h4, h⟩ := Option.bind_eq_some_iff.mp h
  refine j_callI C (As := []) (st := [va_rf (some p1.1), va_rf (some a0)]) mk_row_init (Or.inr T_139) T_29 rfl rfl (rc_le hF (by decide)) (rc_le hL (by decide)) (cg_row_init h4) rfl rfl (by simp [va_rf_cat, rc_cat_i, rc_cat_l]) d_con_init_9 rfl ?_
  obtain ⟨w5, h6, h⟩ := Option.bind_eq_some_iff.mp h
  refine j_putV C (ci := 5) (k := 0) (by decide) (by decide) T_161 (Or.inr ⟨rfl, E.2.1, rfl⟩) rfl (by first | rfl | exact rc_fo _ _ | exact rc_fa _ _) h6 d_con_init_12 rfl ?_
  refine j_aload_n C d_con_init_15 rfl 0 rfl ?_
  obtain ⟨p7, h8, h⟩ := Option.bind_eq_some_iff.mp h
  refine j_new C (ci := 6) (by decide) T_140 T_141 T_7 h8 d_con_init_16 rfl ?_
  refine j_dup C d_con_init_19 rfl (by first | rfl | exact va_rf_cat _) ?_
  obtain ⟨w9, h10, h⟩ := Option.bind_eq_some_iff.mp h
  refine j_callI C (As := []) (st := [va_rf (some p7.1), va_rf (some a0)]) mk_rpl_init (Or.inl T_142) T_143 rfl rfl (rc_le hF (by decide)) (rc_le hL (by decide)) (ct_rpl_init h10) rfl rfl (by simp [va_rf_cat, rc_cat_i, rc_cat_l]) d_con_init_20 rfl ?_
  obtain ⟨w11, h12, h⟩ := Option.bind_eq_some_iff.mp h
  refine j_putV C (ci := 5) (k := 1) (by decide) (by decide) T_163 (Or.inr ⟨rfl, E.2.1, rfl⟩) rfl (by first | rfl | exact rc_fo _ _ | exact rc_fa _ _) h12 d_con_init_23 rfl ?_
  refine j_aload_n C d_con_init_26 rfl 0 rfl ?_
  refine j_iconst (v := 0) C d_con_init_27 rfl (by decide) ?_
  obtain ⟨w13, h14, h⟩ := Option.bind_eq_some_iff.mp h
  obtain ⟨h14z, h14⟩ := rc_pZ_spec h14
  refine j_putV C (ci := 5) (k := 2) (by decide) (by decide) T_165 (Or.inl rfl) (rc_nz h14z) (rc_fz h14z) h14 d_con_init_28 rfl ?_
  refine j_aload_n C d_con_init_31 rfl 0 rfl ?_
  refine j_iconst (v := 0) C d_con_init_32 rfl (by decide) ?_
  obtain ⟨w15, h16, h⟩ := Option.bind_eq_some_iff.mp h
  refine j_putV C (ci := 5) (k := 3) (by decide) (by decide) T_166 (Or.inl rfl) rfl rfl h16 d_con_init_33 rfl ?_
  refine j_aload_n C d_con_init_36 rfl 0 rfl ?_
  refine j_iconst (v := 0) C d_con_init_37 rfl (by decide) ?_
  obtain ⟨w17, h18, h⟩ := Option.bind_eq_some_iff.mp h
  refine j_putV C (ci := 5) (k := 4) (by decide) (by decide) T_167 (Or.inl rfl) rfl rfl h18 d_con_init_38 rfl ?_
  refine j_aload_n C d_con_init_41 rfl 0 rfl ?_
  refine j_iconst (v := 0) C d_con_init_42 rfl (by decide) ?_
  obtain ⟨w19, h20, h⟩ := Option.bind_eq_some_iff.mp h
  refine j_putV C (ci := 5) (k := 5) (by decide) (by decide) T_168 (Or.inl rfl) rfl rfl h20 d_con_init_43 rfl ?_
  cases h
  exact j_vret C E d_con_init_46

set_option maxRecDepth 100000 in
set_option maxHeartbeats 4000000 in
theorem k_con_takeHead_69 {X : rc_X} {w0 : rc_M} (hF : (q_R X).frames = 1) (hL : (q_R X).locals = 20) (hN : q_n X = 2) (C : rc_C X "RecordCalls$Connection" prog_2_method_3_code w0) {res : rc_M} (E : rc_E0 X y_con_takeHead none none res) {w : rc_M}  (h : b_con_takeHead_69 w  = some res) : rc_J X w 69 [] [] := by
  unfold b_con_takeHead_69 at h
  cases h
  exact j_vret C E d_con_takeHead_69

set_option maxRecDepth 100000 in
set_option maxHeartbeats 4000000 in
theorem k_con_takeHead_66 {X : rc_X} {w0 : rc_M} (hF : (q_R X).frames = 1) (hL : (q_R X).locals = 20) (hN : q_n X = 2) (C : rc_C X "RecordCalls$Connection" prog_2_method_3_code w0) {res : rc_M} (E : rc_E0 X y_con_takeHead none none res) {w : rc_M} {s0 : Option Nat} {s1 : Int32} (h : b_con_takeHead_66 w s0 s1 = some res) : rc_J X w 66 [.int s1, va_rf s0] [] := by
  unfold b_con_takeHead_66 at h
  obtain ⟨w1, h2, h⟩ := Option.bind_eq_some_iff.mp h
  obtain ⟨h2z, h2⟩ := rc_pZ_spec h2
  refine j_putV C (ci := 5) (k := 2) (by decide) (by decide) T_165 (Or.inl rfl) (rc_nz h2z) (rc_fz h2z) h2 d_con_takeHead_66 rfl ?_
  exact k_con_takeHead_69 hF hL hN C E h

set_option maxRecDepth 100000 in
set_option maxHeartbeats 4000000 in
theorem ct_con_takeHead {l : Launch} {G : rc_G} {w : rc_M} {a0 : Nat} {x1 : Int32} {res : rc_M} (h : f_con_takeHead w a0 x1 = some res) : rc_Ct l G y_con_takeHead prog_2_method_3_code 2 none 1 20 [va_rf (some a0), .int x1] w none res := by
  refine rc_enter (by decide +kernel) (by simp [lg_sl, va_rf_cat, rc_cat_i, rc_cat_l]) ?_
  intro X _ _ hN hF hL C E
  have hlv : lv_args 0 [va_rf (some a0), .int x1] = [(0, va_rf (some a0)), (1, .int x1)] := by simp [lv_args, va_rf_cat, rc_cat_i, rc_cat_l]
  rw [hlv]
  clear hlv
  unfold f_con_takeHead at h
  refine j_aload_n C d_con_takeHead_0 rfl 0 rfl ?_
  refine j_aload_n C d_con_takeHead_1 rfl 0 rfl ?_
  obtain ⟨v1, h2, h⟩ := Option.bind_eq_some_iff.mp h
  refine j_getI C fl_con_29 h2 d_con_takeHead_2 rfl ?_
  refine j_bipush (v := 8) C d_con_takeHead_5 rfl (by decide) ?_
  refine j_ishl C d_con_takeHead_7 rfl ?_
  refine j_iload_n C d_con_takeHead_8 rfl 1 rfl ?_
  refine j_ior C d_con_takeHead_9 rfl ?_
  obtain ⟨w3, h4, h⟩ := Option.bind_eq_some_iff.mp h
  refine j_putV C (ci := 5) (k := 3) (by decide) (by decide) T_166 (Or.inl rfl) rfl rfl h4 d_con_takeHead_10 rfl ?_
  refine j_aload_n C d_con_takeHead_13 rfl 0 rfl ?_
  refine j_dup C d_con_takeHead_14 rfl (by first | rfl | exact va_rf_cat _) ?_
  obtain ⟨v5, h6, h⟩ := Option.bind_eq_some_iff.mp h
  refine j_getI C fl_con_33 h6 d_con_takeHead_15 rfl ?_
  refine j_iconst (v := 1) C d_con_takeHead_18 rfl (by decide) ?_
  refine j_iadd C d_con_takeHead_19 rfl ?_
  obtain ⟨w7, h8, h⟩ := Option.bind_eq_some_iff.mp h
  refine j_putV C (ci := 5) (k := 4) (by decide) (by decide) T_167 (Or.inl rfl) rfl rfl h8 d_con_takeHead_20 rfl ?_
  refine j_aload_n C d_con_takeHead_23 rfl 0 rfl ?_
  obtain ⟨v9, h10, h⟩ := Option.bind_eq_some_iff.mp h
  refine j_getI C fl_con_33 h10 d_con_takeHead_24 rfl ?_
  refine j_iconst (v := 4) C d_con_takeHead_27 rfl (by decide) ?_
  refine j_icmp_ne (tgt := 69) C d_con_takeHead_28 (by decide) rfl (fun c11 => ?_) (fun c11 => ?_)
  · rw [if_neg c11] at h
    refine rc_J.sub (lv' := []) [] rfl ?_
    exact k_con_takeHead_69 hF hL hN C E h
  · rw [if_pos c11] at h
    refine j_aload_n C d_con_takeHead_31 rfl 0 rfl ?_
    refine j_aload_n C d_con_takeHead_32 rfl 0 rfl ?_
    obtain ⟨v12, h13, h⟩ := Option.bind_eq_some_iff.mp h
    refine j_getI C fl_con_29 h13 d_con_takeHead_33 rfl ?_
    refine j_ldc C d_con_takeHead_36 rfl T_473 ?_
    refine j_iand C d_con_takeHead_38 rfl ?_
    obtain ⟨w14, h15, h⟩ := Option.bind_eq_some_iff.mp h
    refine j_putV C (ci := 5) (k := 5) (by decide) (by decide) T_168 (Or.inl rfl) rfl rfl h15 d_con_takeHead_39 rfl ?_
    refine j_aload_n C d_con_takeHead_42 rfl 0 rfl ?_
    refine j_aload_n C d_con_takeHead_43 rfl 0 rfl ?_
    obtain ⟨v16, h17, h⟩ := Option.bind_eq_some_iff.mp h
    refine j_getI C fl_con_36 h17 d_con_takeHead_44 rfl ?_
    refine j_sipush (v := 1200) C d_con_takeHead_47 rfl (by decide) ?_
    refine j_aload_n C d_con_takeHead_50 rfl 0 rfl ?_
    obtain ⟨v18, h19, h⟩ := Option.bind_eq_some_iff.mp h
    refine j_getR C fl_con_12 h19 d_con_takeHead_51 rfl ?_
    obtain ⟨a20, h21, h⟩ := Option.bind_eq_some_iff.mp h
    obtain ⟨p22, h23, h⟩ := Option.bind_eq_some_iff.mp h
    refine j_callV C (As := []) (st := [.int 1200, .int v16, va_rf (some a0)]) (sk' := [.int p22.1, .int 1200, .int v16, va_rf (some a0)]) mk_row_size (Or.inl T_474) T_221 T_222 (ci := 1) rfl h21 (rc_le hF (by decide)) (rc_le hL (by decide)) (cg_row_size h23) rfl rfl (by simp [va_rf_cat, rc_cat_i, rc_cat_l]) d_con_takeHead_54 rfl rfl ?_
    refine j_isub C d_con_takeHead_57 rfl ?_
    refine j_icmp_le (tgt := 65) C d_con_takeHead_58 (by decide) rfl (fun c24 => ?_) (fun c24 => ?_)
    · rw [if_pos c24] at h
      refine j_iconst (v := 0) C d_con_takeHead_65 rfl (by decide) ?_
      refine rc_J.sub (lv' := []) [] rfl ?_
      exact k_con_takeHead_66 hF hL hN C E h
    · rw [if_neg c24] at h
      refine j_iconst (v := 1) C d_con_takeHead_61 rfl (by decide) ?_
      refine j_goto (tgt := 66) C d_con_takeHead_62 (by decide) ?_
      refine rc_J.sub (lv' := []) [] rfl ?_
      exact k_con_takeHead_66 hF hL hN C E h

set_option maxRecDepth 100000 in
set_option maxHeartbeats 4000000 in
theorem k_con_isWholeWith_65 {X : rc_X} {w0 : rc_M} (hF : (q_R X).frames = 4) (hL : (q_R X).locals = 92) (hN : q_n X = 2) (C : rc_C X "RecordCalls$Connection" prog_2_method_2_code w0) {res : Int32 × rc_M} (E : rc_E0 X y_con_isWholeWith (some .boolean) (some (.int res.1)) res.2) {w : rc_M}  (h : b_con_isWholeWith_65 w  = some res) : rc_J X w 65 [] [] := by
  unfold b_con_isWholeWith_65 at h
  refine j_iconst (v := 0) C d_con_isWholeWith_65 rfl (by decide) ?_
  obtain ⟨hz, rfl⟩ := rc_z1_spec h
  exact j_zret C hz E d_con_isWholeWith_66

set_option maxRecDepth 100000 in
set_option maxHeartbeats 4000000 in
theorem k_con_isWholeWith_87 {X : rc_X} {w0 : rc_M} (hF : (q_R X).frames = 4) (hL : (q_R X).locals = 92) (hN : q_n X = 2) (C : rc_C X "RecordCalls$Connection" prog_2_method_2_code w0) {res : Int32 × rc_M} (E : rc_E0 X y_con_isWholeWith (some .boolean) (some (.int res.1)) res.2) {w : rc_M} {s0 : Int32} (h : b_con_isWholeWith_87 w s0 = some res) : rc_J X w 87 [.int s0] [] := by
  unfold b_con_isWholeWith_87 at h
  obtain ⟨hz, rfl⟩ := rc_z1_spec h
  exact j_zret C hz E d_con_isWholeWith_87

set_option maxRecDepth 100000 in
set_option maxHeartbeats 4000000 in
theorem k_con_isWholeWith_43 {X : rc_X} {w0 : rc_M} (hF : (q_R X).frames = 4) (hL : (q_R X).locals = 92) (hN : q_n X = 2) (C : rc_C X "RecordCalls$Connection" prog_2_method_2_code w0) {res : Int32 × rc_M} (E : rc_E0 X y_con_isWholeWith (some .boolean) (some (.int res.1)) res.2) {w : rc_M} {a0 : Nat} (h : b_con_isWholeWith_43 w a0 = some res) : rc_J X w 43 [] [(0, va_rf (some a0))] := by
  unfold b_con_isWholeWith_43 at h
  refine j_aload_n C d_con_isWholeWith_43 rfl 0 rfl ?_
  obtain ⟨v1, h2, h⟩ := Option.bind_eq_some_iff.mp h
  refine j_getI C fl_con_25 h2 d_con_isWholeWith_44 rfl ?_
  refine j_if_ne (tgt := 65) C d_con_isWholeWith_47 (by decide) rfl (fun c3 => ?_) (fun c3 => ?_)
  · rw [if_neg c3] at h
    refine rc_J.sub (lv' := []) [] rfl ?_
    exact k_con_isWholeWith_65 hF hL hN C E h
  · rw [if_pos c3] at h
    refine j_aload_n C d_con_isWholeWith_50 rfl 0 rfl ?_
    obtain ⟨v4, h5, h⟩ := Option.bind_eq_some_iff.mp h
    refine j_getI C fl_con_33 h5 d_con_isWholeWith_51 rfl ?_
    refine j_iconst (v := 4) C d_con_isWholeWith_54 rfl (by decide) ?_
    refine j_icmp_lt (tgt := 65) C d_con_isWholeWith_55 (by decide) rfl (fun c6 => ?_) (fun c6 => ?_)
    · rw [if_pos c6] at h
      refine rc_J.sub (lv' := []) [] rfl ?_
      exact k_con_isWholeWith_65 hF hL hN C E h
    · rw [if_neg c6] at h
      refine j_aload_n C d_con_isWholeWith_58 rfl 0 rfl ?_
      obtain ⟨v7, h8, h⟩ := Option.bind_eq_some_iff.mp h
      refine j_getI C fl_con_36 h8 d_con_isWholeWith_59 rfl ?_
      refine j_if_le (tgt := 67) C d_con_isWholeWith_62 (by decide) rfl (fun c9 => ?_) (fun c9 => ?_)
      · rw [if_pos c9] at h
        refine j_aload_n C d_con_isWholeWith_67 rfl 0 rfl ?_
        refine j_iconst (v := 0) C d_con_isWholeWith_68 rfl (by decide) ?_
        obtain ⟨w10, h11, h⟩ := Option.bind_eq_some_iff.mp h
        refine j_putV C (ci := 5) (k := 4) (by decide) (by decide) T_167 (Or.inl rfl) rfl rfl h11 d_con_isWholeWith_69 rfl ?_
        refine j_aload_n C d_con_isWholeWith_72 rfl 0 rfl ?_
        obtain ⟨v12, h13, h⟩ := Option.bind_eq_some_iff.mp h
        refine j_getI C fl_con_29 h13 d_con_isWholeWith_73 rfl ?_
        refine j_ldc C d_con_isWholeWith_76 rfl T_476 ?_
        refine j_iand C d_con_isWholeWith_78 rfl ?_
        refine j_if_eq (tgt := 86) C d_con_isWholeWith_79 (by decide) rfl (fun c14 => ?_) (fun c14 => ?_)
        · rw [if_pos c14] at h
          refine j_iconst (v := 0) C d_con_isWholeWith_86 rfl (by decide) ?_
          refine rc_J.sub (lv' := []) [] rfl ?_
          exact k_con_isWholeWith_87 hF hL hN C E h
        · rw [if_neg c14] at h
          refine j_iconst (v := 1) C d_con_isWholeWith_82 rfl (by decide) ?_
          refine j_goto (tgt := 87) C d_con_isWholeWith_83 (by decide) ?_
          refine rc_J.sub (lv' := []) [] rfl ?_
          exact k_con_isWholeWith_87 hF hL hN C E h
      · rw [if_neg c9] at h
        refine rc_J.sub (lv' := []) [] rfl ?_
        exact k_con_isWholeWith_65 hF hL hN C E h

set_option maxRecDepth 100000 in
set_option maxHeartbeats 4000000 in
theorem ct_con_isWholeWith {l : Launch} {G : rc_G} {w : rc_M} {a0 : Nat} {x1 : Int32} {res : Int32 × rc_M} (h : f_con_isWholeWith w a0 x1 = some res) : rc_Ct l G y_con_isWholeWith prog_2_method_2_code 2 (some .boolean) 4 92 [va_rf (some a0), .int x1] w (some (.int res.1)) res.2 := by
  refine rc_enter (by decide +kernel) (by simp [lg_sl, va_rf_cat, rc_cat_i, rc_cat_l]) ?_
  intro X _ _ hN hF hL C E
  have hlv : lv_args 0 [va_rf (some a0), .int x1] = [(0, va_rf (some a0)), (1, .int x1)] := by simp [lv_args, va_rf_cat, rc_cat_i, rc_cat_l]
  rw [hlv]
  clear hlv
  unfold f_con_isWholeWith at h
  refine j_aload_n C d_con_isWholeWith_0 rfl 0 rfl ?_
  obtain ⟨v1, h2, h⟩ := Option.bind_eq_some_iff.mp h
  refine j_getI C fl_con_25 h2 d_con_isWholeWith_1 rfl ?_
  refine j_if_eq (tgt := 9) C d_con_isWholeWith_4 (by decide) rfl (fun c3 => ?_) (fun c3 => ?_)
  · rw [if_pos c3] at h
    refine j_aload_n C d_con_isWholeWith_9 rfl 0 rfl ?_
    obtain ⟨v4, h5, h⟩ := Option.bind_eq_some_iff.mp h
    refine j_getI C fl_con_33 h5 d_con_isWholeWith_10 rfl ?_
    refine j_iconst (v := 4) C d_con_isWholeWith_13 rfl (by decide) ?_
    refine j_icmp_ge (tgt := 25) C d_con_isWholeWith_14 (by decide) rfl (fun c6 => ?_) (fun c6 => ?_)
    · rw [if_pos c6] at h
      refine j_aload_n C d_con_isWholeWith_25 rfl 0 rfl ?_
      obtain ⟨v7, h8, h⟩ := Option.bind_eq_some_iff.mp h
      refine j_getR C fl_con_12 h8 d_con_isWholeWith_26 rfl ?_
      refine j_iload_n C d_con_isWholeWith_29 rfl 1 rfl ?_
      obtain ⟨a9, h10, h⟩ := Option.bind_eq_some_iff.mp h
      obtain ⟨w11, h12, h⟩ := Option.bind_eq_some_iff.mp h
      refine j_callV C (As := [.int x1]) (st := []) (sk' := []) mk_row_add (Or.inl T_475) T_423 T_424 (ci := 1) rfl h10 (rc_le hF (by decide)) (rc_le hL (by decide)) (cg_row_add h12) rfl rfl (by decide) d_con_isWholeWith_30 rfl rfl ?_
      refine j_aload_n C d_con_isWholeWith_33 rfl 0 rfl ?_
      refine j_dup C d_con_isWholeWith_34 rfl (by first | rfl | exact va_rf_cat _) ?_
      obtain ⟨v13, h14, h⟩ := Option.bind_eq_some_iff.mp h
      refine j_getI C fl_con_36 h14 d_con_isWholeWith_35 rfl ?_
      refine j_iconst (v := 1) C d_con_isWholeWith_38 rfl (by decide) ?_
      refine j_isub C d_con_isWholeWith_39 rfl ?_
      obtain ⟨w15, h16, h⟩ := Option.bind_eq_some_iff.mp h
      refine j_putV C (ci := 5) (k := 5) (by decide) (by decide) T_168 (Or.inl rfl) rfl rfl h16 d_con_isWholeWith_40 rfl ?_
      refine rc_J.sub (lv' := [(0, va_rf (some a0))]) [0] rfl ?_
      exact k_con_isWholeWith_43 hF hL hN C E h
    · rw [if_neg c6] at h
      refine j_aload_n C d_con_isWholeWith_17 rfl 0 rfl ?_
      refine j_iload_n C d_con_isWholeWith_18 rfl 1 rfl ?_
      obtain ⟨a17, h18, h⟩ := Option.bind_eq_some_iff.mp h
      obtain ⟨w19, h20, h⟩ := Option.bind_eq_some_iff.mp h
      refine j_callV C (As := [.int x1]) (st := []) (sk' := []) mk_con_takeHead (Or.inl T_469) T_471 S_8 (ci := 5) rfl h18 (rc_le hF (by decide)) (rc_le hL (by decide)) (ct_con_takeHead h20) rfl rfl (by decide) d_con_isWholeWith_19 rfl rfl ?_
      refine j_goto (tgt := 43) C d_con_isWholeWith_22 (by decide) ?_
      refine rc_J.sub (lv' := [(0, va_rf (some a0))]) [0] rfl ?_
      exact k_con_isWholeWith_43 hF hL hN C E h
  · rw [if_neg c3] at h
    refine j_iconst (v := 0) C d_con_isWholeWith_7 rfl (by decide) ?_
    obtain ⟨hz, rfl⟩ := rc_z1_spec h
    exact j_zret C hz E d_con_isWholeWith_8

set_option maxRecDepth 100000 in
set_option maxHeartbeats 4000000 in
theorem ct_con_forgetRecord {l : Launch} {G : rc_G} {w : rc_M} {a0 : Nat} {res : rc_M} (h : f_con_forgetRecord w a0 = some res) : rc_Ct l G y_con_forgetRecord prog_2_method_4_code 1 none 1 20 [va_rf (some a0)] w none res := by
  refine rc_enter (by decide +kernel) (by simp [lg_sl, va_rf_cat, rc_cat_i, rc_cat_l]) ?_
  intro X _ _ hN hF hL C E
  have hlv : lv_args 0 [va_rf (some a0)] = [(0, va_rf (some a0))] := by simp [lv_args, va_rf_cat, rc_cat_i, rc_cat_l]
  rw [hlv]
  clear hlv
  unfold f_con_forgetRecord at h
  refine j_aload_n C d_con_forgetRecord_0 rfl 0 rfl ?_
  obtain ⟨v1, h2, h⟩ := Option.bind_eq_some_iff.mp h
  refine j_getR C fl_con_12 h2 d_con_forgetRecord_1 rfl ?_
  obtain ⟨a3, h4, h⟩ := Option.bind_eq_some_iff.mp h
  obtain ⟨w5, h6, h⟩ := Option.bind_eq_some_iff.mp h
  refine j_callV C (As := []) (st := []) (sk' := []) mk_row_clear (Or.inl T_640) T_217 T_218 (ci := 1) rfl h4 (rc_le hF (by decide)) (rc_le hL (by decide)) (cg_row_clear h6) rfl rfl (by decide) d_con_forgetRecord_4 rfl rfl ?_
  refine j_aload_n C d_con_forgetRecord_7 rfl 0 rfl ?_
  refine j_iconst (v := 0) C d_con_forgetRecord_8 rfl (by decide) ?_
  obtain ⟨w7, h8, h⟩ := Option.bind_eq_some_iff.mp h
  refine j_putV C (ci := 5) (k := 4) (by decide) (by decide) T_167 (Or.inl rfl) rfl rfl h8 d_con_forgetRecord_9 rfl ?_
  refine j_aload_n C d_con_forgetRecord_12 rfl 0 rfl ?_
  refine j_iconst (v := 0) C d_con_forgetRecord_13 rfl (by decide) ?_
  obtain ⟨w9, h10, h⟩ := Option.bind_eq_some_iff.mp h
  refine j_putV C (ci := 5) (k := 5) (by decide) (by decide) T_168 (Or.inl rfl) rfl rfl h10 d_con_forgetRecord_14 rfl ?_
  cases h
  exact j_vret C E d_con_forgetRecord_17

set_option maxRecDepth 100000 in
set_option maxHeartbeats 4000000 in
theorem ct_con_openAnew {l : Launch} {G : rc_G} {w : rc_M} {a0 : Nat} {res : Int32 × rc_M} (h : f_con_openAnew w a0 = some res) : rc_Ct l G y_con_openAnew prog_2_method_5_code 2 (some .boolean) 2 40 [va_rf (some a0)] w (some (.int res.1)) res.2 := by
  refine rc_enter (by decide +kernel) (by simp [lg_sl, va_rf_cat, rc_cat_i, rc_cat_l]) ?_
  intro X _ _ hN hF hL C E
  have hlv : lv_args 0 [va_rf (some a0)] = [(0, va_rf (some a0))] := by simp [lv_args, va_rf_cat, rc_cat_i, rc_cat_l]
  rw [hlv]
  clear hlv
  unfold f_con_openAnew at h
  refine j_aload_n C d_con_openAnew_0 rfl 0 rfl ?_
  obtain ⟨v1, h2, h⟩ := Option.bind_eq_some_iff.mp h
  refine j_getI C fl_con_25 h2 d_con_openAnew_1 rfl ?_
  refine j_istore_n C (i := 1) d_con_openAnew_4 rfl rfl [(1, .int v1), (0, va_rf (some a0))] (rc_lt hN (by decide)) (by first | rfl | simp [va_rf_cat, rc_cat_i, rc_cat_l]) ?_
  refine j_aload_n C d_con_openAnew_5 rfl 1 rfl ?_
  refine j_iconst (v := 0) C d_con_openAnew_6 rfl (by decide) ?_
  obtain ⟨w3, h4, h⟩ := Option.bind_eq_some_iff.mp h
  obtain ⟨h4z, h4⟩ := rc_pZ_spec h4
  refine j_putV C (ci := 5) (k := 2) (by decide) (by decide) T_165 (Or.inl rfl) (rc_nz h4z) (rc_fz h4z) h4 d_con_openAnew_7 rfl ?_
  refine j_aload_n C d_con_openAnew_10 rfl 1 rfl ?_
  obtain ⟨a5, h6, h⟩ := Option.bind_eq_some_iff.mp h
  obtain ⟨w7, h8, h⟩ := Option.bind_eq_some_iff.mp h
  refine j_callV C (As := []) (st := []) (sk' := []) mk_con_forgetRecord (Or.inl T_656) T_637 T_638 (ci := 5) rfl h6 (rc_le hF (by decide)) (rc_le hL (by decide)) (ct_con_forgetRecord h8) rfl rfl (by decide) d_con_openAnew_11 rfl rfl ?_
  refine j_iload_n C d_con_openAnew_14 rfl 0 rfl ?_
  obtain ⟨hz, rfl⟩ := rc_z1_spec h
  exact j_zret C hz E d_con_openAnew_15

set_option maxRecDepth 100000 in
set_option maxHeartbeats 4000000 in
theorem k_con_bytesWaiting_18 {X : rc_X} {w0 : rc_M} (hF : (q_R X).frames = 1) (hL : (q_R X).locals = 20) (hN : q_n X = 1) (C : rc_C X "RecordCalls$Connection" prog_2_method_6_code w0) {res : Int32 × rc_M} (E : rc_E0 X y_con_bytesWaiting (some .int) (some (.int res.1)) res.2) {w : rc_M} {s0 : Int32} (h : b_con_bytesWaiting_18 w s0 = some res) : rc_J X w 18 [.int s0] [] := by
  unfold b_con_bytesWaiting_18 at h
  cases h
  exact j_iret C E d_con_bytesWaiting_18

set_option maxRecDepth 100000 in
set_option maxHeartbeats 4000000 in
theorem ct_con_bytesWaiting {l : Launch} {G : rc_G} {w : rc_M} {a0 : Nat} {res : Int32 × rc_M} (h : f_con_bytesWaiting w a0 = some res) : rc_Ct l G y_con_bytesWaiting prog_2_method_6_code 1 (some .int) 1 20 [va_rf (some a0)] w (some (.int res.1)) res.2 := by
  refine rc_enter (by decide +kernel) (by simp [lg_sl, va_rf_cat, rc_cat_i, rc_cat_l]) ?_
  intro X _ _ hN hF hL C E
  have hlv : lv_args 0 [va_rf (some a0)] = [(0, va_rf (some a0))] := by simp [lv_args, va_rf_cat, rc_cat_i, rc_cat_l]
  rw [hlv]
  clear hlv
  unfold f_con_bytesWaiting at h
  refine j_aload_n C d_con_bytesWaiting_0 rfl 0 rfl ?_
  obtain ⟨v1, h2, h⟩ := Option.bind_eq_some_iff.mp h
  refine j_getI C fl_con_25 h2 d_con_bytesWaiting_1 rfl ?_
  refine j_if_eq (tgt := 11) C d_con_bytesWaiting_4 (by decide) rfl (fun c3 => ?_) (fun c3 => ?_)
  · rw [if_pos c3] at h
    refine j_aload_n C d_con_bytesWaiting_11 rfl 0 rfl ?_
    obtain ⟨v4, h5, h⟩ := Option.bind_eq_some_iff.mp h
    refine j_getR C fl_con_12 h5 d_con_bytesWaiting_12 rfl ?_
    obtain ⟨a6, h7, h⟩ := Option.bind_eq_some_iff.mp h
    obtain ⟨p8, h9, h⟩ := Option.bind_eq_some_iff.mp h
    refine j_callV C (As := []) (st := []) (sk' := [.int p8.1]) mk_row_size (Or.inl T_474) T_221 T_222 (ci := 1) rfl h7 (rc_le hF (by decide)) (rc_le hL (by decide)) (cg_row_size h9) rfl rfl (by decide) d_con_bytesWaiting_15 rfl rfl ?_
    refine rc_J.sub (lv' := []) [] rfl ?_
    exact k_con_bytesWaiting_18 hF hL hN C E h
  · rw [if_neg c3] at h
    refine j_iconst (v := (-1)) C d_con_bytesWaiting_7 rfl (by decide) ?_
    refine j_goto (tgt := 18) C d_con_bytesWaiting_8 (by decide) ?_
    refine rc_J.sub (lv' := []) [] rfl ?_
    exact k_con_bytesWaiting_18 hF hL hN C E h

set_option maxRecDepth 100000 in
set_option maxHeartbeats 4000000 in
theorem k_map_init_28 {X : rc_X} {w0 : rc_M} (hF : (q_R X).frames = 2) (hL : (q_R X).locals = 40) (hN : q_n X = 2) (C : rc_C X "RecordCalls$KeyMap" prog_3_method_1_code w0) {res : rc_M} (E : rc_E0 X y_map_init none none res) : ∀ (fuel : Nat) (w : rc_M) (a0 : Nat) (x1 : Int32), b_map_init_28 fuel w a0 x1 = some res → rc_J X w 28 [] [(0, va_rf (some a0)), (1, .int x1)] := by
  intro fuel
  induction fuel with
  | zero => intro w a0 x1 h; simp [b_map_init_28] at h
  | succ fuel ih =>
    intro w a0 x1 h
    unfold b_map_init_28 at h
    refine j_iload_n C d_map_init_28 rfl 1 rfl ?_
    refine j_bipush (v := 40) C d_map_init_29 rfl (by decide) ?_
    refine j_icmp_ge (tgt := 53) C d_map_init_31 (by decide) rfl (fun c1 => ?_) (fun c1 => ?_)
    · rw [if_pos c1] at h
      cases h
      exact j_vret C E d_map_init_53
    · rw [if_neg c1] at h
      refine j_aload_n C d_map_init_34 rfl 0 rfl ?_
      obtain ⟨v2, h3, h⟩ := Option.bind_eq_some_iff.mp h
      refine j_getR C fl_map_11 h3 d_map_init_35 rfl ?_
      refine j_iload_n C d_map_init_38 rfl 1 rfl ?_
      obtain ⟨p4, h5, h⟩ := Option.bind_eq_some_iff.mp h
      refine j_new C (ci := 1) (by decide) T_55 T_27 T_2 h5 d_map_init_39 rfl ?_
      refine j_dup C d_map_init_42 rfl (by first | rfl | exact va_rf_cat _) ?_
      obtain ⟨w6, h7, h⟩ := Option.bind_eq_some_iff.mp h
      refine j_callI C (As := []) (st := [va_rf (some p4.1), .int x1, va_rf v2]) mk_row_init (Or.inr T_56) T_29 rfl rfl (rc_le hF (by decide)) (rc_le hL (by decide)) (cg_row_init h7) rfl rfl (by simp [va_rf_cat, rc_cat_i, rc_cat_l]) d_map_init_43 rfl ?_
      obtain ⟨w8, h9, h⟩ := Option.bind_eq_some_iff.mp h
      refine j_aast C (kd := 4) (ci := 1) rfl h9 d_map_init_46 rfl ?_
      refine j_iinc C d_map_init_47 rfl 1 [(1, .int (x1 + 1)), (0, va_rf (some a0))] rfl rfl (rc_lt hN (by decide)) (by first | rfl | simp [va_rf_cat, rc_cat_i, rc_cat_l]) ?_
      refine j_goto (tgt := 28) C d_map_init_50 (by decide) ?_
      refine rc_J.sub (lv' := [(0, va_rf (some a0)), (1, .int (x1 + 1))]) [1, 0] rfl ?_
      exact ih _ _ _ h

set_option maxRecDepth 100000 in
set_option maxHeartbeats 4000000 in
theorem ct_map_init {l : Launch} {G : rc_G} {w : rc_M} {a0 : Nat} {res : rc_M} (h : f_map_init w a0 = some res) : rc_Ct l G y_map_init prog_3_method_1_code 2 none 2 40 [va_rf (some a0)] w none res := by
  refine rc_enter (by decide +kernel) (by simp [lg_sl, va_rf_cat, rc_cat_i, rc_cat_l]) ?_
  intro X _ _ hN hF hL C E
  have hlv : lv_args 0 [va_rf (some a0)] = [(0, va_rf (some a0))] := by simp [lv_args, va_rf_cat, rc_cat_i, rc_cat_l]
  rw [hlv]
  clear hlv
  unfold f_map_init at h
  refine j_aload_n C d_map_init_0 rfl 0 rfl ?_
  refine j_oinit C rfl T_54 T_24 T_25 (rc_le hF (by decide)) (rc_le hL (by simp [va_rf_cat, rc_cat_i, rc_cat_l])) d_map_init_1 rfl ?_
  refine j_aload_n C d_map_init_4 rfl 0 rfl ?_
  refine j_bipush (v := 40) C d_map_init_5 rfl (by decide) ?_
  obtain ⟨p1, h2, h⟩ := Option.bind_eq_some_iff.mp h
  refine j_anewA C (kd := 4) (ci := 1) rfl rfl T_55 T_40 h2 d_map_init_7 rfl ?_
  obtain ⟨w3, h4, h⟩ := Option.bind_eq_some_iff.mp h
  refine j_putV C (ci := 3) (k := 0) (by decide) (by decide) T_57 (Or.inr ⟨rfl, E.2.1, rfl⟩) rfl (by first | rfl | exact rc_fo _ _ | exact rc_fa _ _) h4 d_map_init_10 rfl ?_
  refine j_aload_n C d_map_init_13 rfl 0 rfl ?_
  refine j_bipush (v := 40) C d_map_init_14 rfl (by decide) ?_
  obtain ⟨p5, h6, h⟩ := Option.bind_eq_some_iff.mp h
  refine j_newA C (kd := 1) (ty := .long) rfl rfl (fun _ _ h => h) (fun _ _ => rfl) (by decide) T_67 h6 d_map_init_16 rfl ?_
  obtain ⟨w7, h8, h⟩ := Option.bind_eq_some_iff.mp h
  refine j_putV C (ci := 3) (k := 1) (by decide) (by decide) T_58 (Or.inr ⟨rfl, E.2.1, rfl⟩) rfl (by first | rfl | exact rc_fo _ _ | exact rc_fa _ _) h8 d_map_init_18 rfl ?_
  refine j_aload_n C d_map_init_21 rfl 0 rfl ?_
  refine j_iconst (v := 0) C d_map_init_22 rfl (by decide) ?_
  obtain ⟨w9, h10, h⟩ := Option.bind_eq_some_iff.mp h
  refine j_putV C (ci := 3) (k := 2) (by decide) (by decide) T_59 (Or.inl rfl) rfl rfl h10 d_map_init_23 rfl ?_
  refine j_iconst (v := 0) C d_map_init_26 rfl (by decide) ?_
  refine j_istore_n C (i := 1) d_map_init_27 rfl rfl [(1, .int 0), (0, va_rf (some a0))] (rc_lt hN (by decide)) (by first | rfl | simp [va_rf_cat, rc_cat_i, rc_cat_l]) ?_
  refine rc_J.sub (lv' := [(0, va_rf (some a0)), (1, .int 0)]) [1, 0] rfl ?_
  exact k_map_init_28 hF hL hN C E _ _ _ _ h

set_option maxRecDepth 100000 in
set_option maxHeartbeats 4000000 in
theorem ct_map_size {l : Launch} {G : rc_G} {w : rc_M} {a0 : Nat} {res : Int32 × rc_M} (h : f_map_size w a0 = some res) : rc_Ct l G y_map_size prog_3_method_2_code 1 (some .int) 0 0 [va_rf (some a0)] w (some (.int res.1)) res.2 := by
  refine rc_enter (by decide +kernel) (by simp [lg_sl, va_rf_cat, rc_cat_i, rc_cat_l]) ?_
  intro X _ _ hN hF hL C E
  have hlv : lv_args 0 [va_rf (some a0)] = [(0, va_rf (some a0))] := by simp [lv_args, va_rf_cat, rc_cat_i, rc_cat_l]
  rw [hlv]
  clear hlv
  unfold f_map_size at h
  refine j_aload_n C d_map_size_0 rfl 0 rfl ?_
  obtain ⟨v1, h2, h⟩ := Option.bind_eq_some_iff.mp h
  refine j_getI C fl_map_21 h2 d_map_size_1 rfl ?_
  cases h
  exact j_iret C E d_map_size_4

set_option maxRecDepth 100000 in
set_option maxHeartbeats 4000000 in
theorem k_map_isFull_14 {X : rc_X} {w0 : rc_M} (hF : (q_R X).frames = 0) (hL : (q_R X).locals = 0) (hN : q_n X = 1) (C : rc_C X "RecordCalls$KeyMap" prog_3_method_3_code w0) {res : Int32 × rc_M} (E : rc_E0 X y_map_isFull (some .boolean) (some (.int res.1)) res.2) {w : rc_M} {s0 : Int32} (h : b_map_isFull_14 w s0 = some res) : rc_J X w 14 [.int s0] [] := by
  unfold b_map_isFull_14 at h
  obtain ⟨hz, rfl⟩ := rc_z1_spec h
  exact j_zret C hz E d_map_isFull_14

set_option maxRecDepth 100000 in
set_option maxHeartbeats 4000000 in
theorem ct_map_isFull {l : Launch} {G : rc_G} {w : rc_M} {a0 : Nat} {res : Int32 × rc_M} (h : f_map_isFull w a0 = some res) : rc_Ct l G y_map_isFull prog_3_method_3_code 1 (some .boolean) 0 0 [va_rf (some a0)] w (some (.int res.1)) res.2 := by
  refine rc_enter (by decide +kernel) (by simp [lg_sl, va_rf_cat, rc_cat_i, rc_cat_l]) ?_
  intro X _ _ hN hF hL C E
  have hlv : lv_args 0 [va_rf (some a0)] = [(0, va_rf (some a0))] := by simp [lv_args, va_rf_cat, rc_cat_i, rc_cat_l]
  rw [hlv]
  clear hlv
  unfold f_map_isFull at h
  refine j_aload_n C d_map_isFull_0 rfl 0 rfl ?_
  obtain ⟨v1, h2, h⟩ := Option.bind_eq_some_iff.mp h
  refine j_getI C fl_map_21 h2 d_map_isFull_1 rfl ?_
  refine j_bipush (v := 40) C d_map_isFull_4 rfl (by decide) ?_
  refine j_icmp_lt (tgt := 13) C d_map_isFull_6 (by decide) rfl (fun c3 => ?_) (fun c3 => ?_)
  · rw [if_pos c3] at h
    refine j_iconst (v := 0) C d_map_isFull_13 rfl (by decide) ?_
    refine rc_J.sub (lv' := []) [] rfl ?_
    exact k_map_isFull_14 hF hL hN C E h
  · rw [if_neg c3] at h
    refine j_iconst (v := 1) C d_map_isFull_9 rfl (by decide) ?_
    refine j_goto (tgt := 14) C d_map_isFull_10 (by decide) ?_
    refine rc_J.sub (lv' := []) [] rfl ?_
    exact k_map_isFull_14 hF hL hN C E h

set_option maxRecDepth 100000 in
set_option maxHeartbeats 4000000 in
theorem k_map_isPlace_17 {X : rc_X} {w0 : rc_M} (hF : (q_R X).frames = 0) (hL : (q_R X).locals = 0) (hN : q_n X = 2) (C : rc_C X "RecordCalls$KeyMap" prog_3_method_4_code w0) {res : Int32 × rc_M} (E : rc_E0 X y_map_isPlace (some .boolean) (some (.int res.1)) res.2) {w : rc_M} {s0 : Int32} (h : b_map_isPlace_17 w s0 = some res) : rc_J X w 17 [.int s0] [] := by
  unfold b_map_isPlace_17 at h
  obtain ⟨hz, rfl⟩ := rc_z1_spec h
  exact j_zret C hz E d_map_isPlace_17

set_option maxRecDepth 100000 in
set_option maxHeartbeats 4000000 in
theorem k_map_isPlace_16 {X : rc_X} {w0 : rc_M} (hF : (q_R X).frames = 0) (hL : (q_R X).locals = 0) (hN : q_n X = 2) (C : rc_C X "RecordCalls$KeyMap" prog_3_method_4_code w0) {res : Int32 × rc_M} (E : rc_E0 X y_map_isPlace (some .boolean) (some (.int res.1)) res.2) {w : rc_M}  (h : b_map_isPlace_16 w  = some res) : rc_J X w 16 [] [] := by
  unfold b_map_isPlace_16 at h
  refine j_iconst (v := 0) C d_map_isPlace_16 rfl (by decide) ?_
  exact k_map_isPlace_17 hF hL hN C E h

set_option maxRecDepth 100000 in
set_option maxHeartbeats 4000000 in
theorem ct_map_isPlace {l : Launch} {G : rc_G} {w : rc_M} {a0 : Nat} {x1 : Int32} {res : Int32 × rc_M} (h : f_map_isPlace w a0 x1 = some res) : rc_Ct l G y_map_isPlace prog_3_method_4_code 2 (some .boolean) 0 0 [va_rf (some a0), .int x1] w (some (.int res.1)) res.2 := by
  refine rc_enter (by decide +kernel) (by simp [lg_sl, va_rf_cat, rc_cat_i, rc_cat_l]) ?_
  intro X _ _ hN hF hL C E
  have hlv : lv_args 0 [va_rf (some a0), .int x1] = [(0, va_rf (some a0)), (1, .int x1)] := by simp [lv_args, va_rf_cat, rc_cat_i, rc_cat_l]
  rw [hlv]
  clear hlv
  unfold f_map_isPlace at h
  refine j_iload_n C d_map_isPlace_0 rfl 1 rfl ?_
  refine j_if_lt (tgt := 16) C d_map_isPlace_1 (by decide) rfl (fun c1 => ?_) (fun c1 => ?_)
  · rw [if_pos c1] at h
    refine rc_J.sub (lv' := []) [] rfl ?_
    exact k_map_isPlace_16 hF hL hN C E h
  · rw [if_neg c1] at h
    refine j_iload_n C d_map_isPlace_4 rfl 1 rfl ?_
    refine j_aload_n C d_map_isPlace_5 rfl 0 rfl ?_
    obtain ⟨v2, h3, h⟩ := Option.bind_eq_some_iff.mp h
    refine j_getI C fl_map_21 h3 d_map_isPlace_6 rfl ?_
    refine j_icmp_ge (tgt := 16) C d_map_isPlace_9 (by decide) rfl (fun c4 => ?_) (fun c4 => ?_)
    · rw [if_pos c4] at h
      refine rc_J.sub (lv' := []) [] rfl ?_
      exact k_map_isPlace_16 hF hL hN C E h
    · rw [if_neg c4] at h
      refine j_iconst (v := 1) C d_map_isPlace_12 rfl (by decide) ?_
      refine j_goto (tgt := 17) C d_map_isPlace_13 (by decide) ?_
      refine rc_J.sub (lv' := []) [] rfl ?_
      exact k_map_isPlace_17 hF hL hN C E h

set_option maxRecDepth 100000 in
set_option maxHeartbeats 4000000 in
theorem k_map_placeOf_3 {X : rc_X} {w0 : rc_M} (hF : (q_R X).frames = 2) (hL : (q_R X).locals = 45) (hN : q_n X = 5) (C : rc_C X "RecordCalls$KeyMap" prog_3_method_5_code w0) {res : Int32 × rc_M} (E : rc_E0 X y_map_placeOf (some .int) (some (.int res.1)) res.2) : ∀ (fuel : Nat) (w : rc_M) (a0 : Nat) (r1 : Option Nat) (x2 : Int32) (x3 : Int32) (x4 : Int32), b_map_placeOf_3 fuel w a0 r1 x2 x3 x4 = some res → rc_J X w 3 [] [(0, va_rf (some a0)), (1, va_rf r1), (2, .int x2), (3, .int x3), (4, .int x4)] := by
  intro fuel
  induction fuel with
  | zero => intro w a0 r1 x2 x3 x4 h; simp [b_map_placeOf_3] at h
  | succ fuel ih =>
    intro w a0 r1 x2 x3 x4 h
    unfold b_map_placeOf_3 at h
    refine j_iload C d_map_placeOf_3 rfl 4 rfl ?_
    refine j_aload_n C d_map_placeOf_5 rfl 0 rfl ?_
    obtain ⟨v1, h2, h⟩ := Option.bind_eq_some_iff.mp h
    refine j_getI C fl_map_21 h2 d_map_placeOf_6 rfl ?_
    refine j_icmp_ge (tgt := 37) C d_map_placeOf_9 (by decide) rfl (fun c3 => ?_) (fun c3 => ?_)
    · rw [if_pos c3] at h
      refine j_iconst (v := (-1)) C d_map_placeOf_37 rfl (by decide) ?_
      cases h
      exact j_iret C E d_map_placeOf_38
    · rw [if_neg c3] at h
      refine j_aload_n C d_map_placeOf_12 rfl 0 rfl ?_
      obtain ⟨v4, h5, h⟩ := Option.bind_eq_some_iff.mp h
      refine j_getR C fl_map_11 h5 d_map_placeOf_13 rfl ?_
      refine j_iload C d_map_placeOf_16 rfl 4 rfl ?_
      obtain ⟨v6, h7, h⟩ := Option.bind_eq_some_iff.mp h
      refine j_aald C (kd := 4) rfl h7 d_map_placeOf_18 rfl ?_
      refine j_aload_n C d_map_placeOf_19 rfl 1 rfl ?_
      refine j_iload_n C d_map_placeOf_20 rfl 2 rfl ?_
      refine j_iload_n C d_map_placeOf_21 rfl 3 rfl ?_
      obtain ⟨a8, h9, h⟩ := Option.bind_eq_some_iff.mp h
      obtain ⟨p10, h11, h⟩ := Option.bind_eq_some_iff.mp h
      refine j_callV C (As := [va_rf r1, .int x2, .int x3]) (st := []) (sk' := [.int p10.1]) mk_row_isPart (Or.inl T_268) T_269 T_270 (ci := 1) rfl h9 (rc_le hF (by decide)) (rc_le hL (by decide)) (cg_row_isPart h11) rfl rfl (by decide) d_map_placeOf_22 rfl rfl ?_
      refine j_if_eq (tgt := 31) C d_map_placeOf_25 (by decide) rfl (fun c12 => ?_) (fun c12 => ?_)
      · rw [if_pos c12] at h
        refine j_iinc C d_map_placeOf_31 rfl 4 [(4, .int (x4 + 1)), (0, va_rf (some a0)), (1, va_rf r1), (2, .int x2), (3, .int x3)] rfl rfl (rc_lt hN (by decide)) (by first | rfl | simp [va_rf_cat, rc_cat_i, rc_cat_l]) ?_
        refine j_goto (tgt := 3) C d_map_placeOf_34 (by decide) ?_
        refine rc_J.sub (lv' := [(0, va_rf (some a0)), (1, va_rf r1), (2, .int x2), (3, .int x3), (4, .int (x4 + 1))]) [1, 2, 3, 4, 0] rfl ?_
        exact ih _ _ _ _ _ _ h
      · rw [if_neg c12] at h
        refine j_iload C d_map_placeOf_28 rfl 4 rfl ?_
        cases h
        exact j_iret C E d_map_placeOf_30

set_option maxRecDepth 100000 in
set_option maxHeartbeats 4000000 in
theorem ct_map_placeOf {l : Launch} {G : rc_G} {w : rc_M} {a0 : Nat} {r1 : Option Nat} {x2 : Int32} {x3 : Int32} {res : Int32 × rc_M} (h : f_map_placeOf w a0 r1 x2 x3 = some res) : rc_Ct l G y_map_placeOf prog_3_method_5_code 5 (some .int) 2 45 [va_rf (some a0), va_rf r1, .int x2, .int x3] w (some (.int res.1)) res.2 := by
  refine rc_enter (by decide +kernel) (by simp [lg_sl, va_rf_cat, rc_cat_i, rc_cat_l]) ?_
  intro X _ _ hN hF hL C E
  have hlv : lv_args 0 [va_rf (some a0), va_rf r1, .int x2, .int x3] = [(0, va_rf (some a0)), (1, va_rf r1), (2, .int x2), (3, .int x3)] := by simp [lv_args, va_rf_cat, rc_cat_i, rc_cat_l]
  rw [hlv]
  clear hlv
  unfold f_map_placeOf at h
  refine j_iconst (v := 0) C d_map_placeOf_0 rfl (by decide) ?_
  refine j_istore C (i := 4) d_map_placeOf_1 rfl [(4, .int 0), (0, va_rf (some a0)), (1, va_rf r1), (2, .int x2), (3, .int x3)] (rc_lt hN (by decide)) (by first | rfl | simp [va_rf_cat, rc_cat_i, rc_cat_l]) ?_
  refine rc_J.sub (lv' := [(0, va_rf (some a0)), (1, va_rf r1), (2, .int x2), (3, .int x3), (4, .int 0)]) [1, 2, 3, 4, 0] rfl ?_
  exact k_map_placeOf_3 hF hL hN C E _ _ _ _ _ _ _ h

set_option maxRecDepth 100000 in
set_option maxHeartbeats 4000000 in
theorem k_map_valueAt_18 {X : rc_X} {w0 : rc_M} (hF : (q_R X).frames = 1) (hL : (q_R X).locals = 21) (hN : q_n X = 2) (C : rc_C X "RecordCalls$KeyMap" prog_3_method_6_code w0) {res : Int64 × rc_M} (E : rc_E0 X y_map_valueAt (some .long) (some (.long res.1)) res.2) {w : rc_M} {s0 : Int64} (h : b_map_valueAt_18 w s0 = some res) : rc_J X w 18 [.long s0] [] := by
  unfold b_map_valueAt_18 at h
  cases h
  exact j_lret C E d_map_valueAt_18

set_option maxRecDepth 100000 in
set_option maxHeartbeats 4000000 in
theorem ct_map_valueAt {l : Launch} {G : rc_G} {w : rc_M} {a0 : Nat} {x1 : Int32} {res : Int64 × rc_M} (h : f_map_valueAt w a0 x1 = some res) : rc_Ct l G y_map_valueAt prog_3_method_6_code 2 (some .long) 1 21 [va_rf (some a0), .int x1] w (some (.long res.1)) res.2 := by
  refine rc_enter (by decide +kernel) (by simp [lg_sl, va_rf_cat, rc_cat_i, rc_cat_l]) ?_
  intro X _ _ hN hF hL C E
  have hlv : lv_args 0 [va_rf (some a0), .int x1] = [(0, va_rf (some a0)), (1, .int x1)] := by simp [lv_args, va_rf_cat, rc_cat_i, rc_cat_l]
  rw [hlv]
  clear hlv
  unfold f_map_valueAt at h
  refine j_aload_n C d_map_valueAt_0 rfl 0 rfl ?_
  refine j_iload_n C d_map_valueAt_1 rfl 1 rfl ?_
  obtain ⟨a1, h2, h⟩ := Option.bind_eq_some_iff.mp h
  obtain ⟨p3, h4, h⟩ := Option.bind_eq_some_iff.mp h
  refine j_callV C (As := [.int x1]) (st := []) (sk' := [.int p3.1]) mk_map_isPlace (Or.inl T_280) T_281 T_282 (ci := 3) rfl h2 (rc_le hF (by decide)) (rc_le hL (by decide)) (ct_map_isPlace h4) rfl rfl (by decide) d_map_valueAt_2 rfl rfl ?_
  refine j_if_eq (tgt := 17) C d_map_valueAt_5 (by decide) rfl (fun c5 => ?_) (fun c5 => ?_)
  · rw [if_pos c5] at h
    refine j_lconst (v := 0) C d_map_valueAt_17 rfl (by decide) ?_
    refine rc_J.sub (lv' := []) [] rfl ?_
    exact k_map_valueAt_18 hF hL hN C E h
  · rw [if_neg c5] at h
    refine j_aload_n C d_map_valueAt_8 rfl 0 rfl ?_
    obtain ⟨v6, h7, h⟩ := Option.bind_eq_some_iff.mp h
    refine j_getR C fl_map_17 h7 d_map_valueAt_9 rfl ?_
    refine j_iload_n C d_map_valueAt_12 rfl 1 rfl ?_
    obtain ⟨v8, h9, h⟩ := Option.bind_eq_some_iff.mp h
    refine j_lald C h9 d_map_valueAt_13 rfl ?_
    refine j_goto (tgt := 18) C d_map_valueAt_14 (by decide) ?_
    refine rc_J.sub (lv' := []) [] rfl ?_
    exact k_map_valueAt_18 hF hL hN C E h

set_option maxRecDepth 100000 in
set_option maxHeartbeats 4000000 in
theorem k_map_setValue_15 {X : rc_X} {w0 : rc_M} (hF : (q_R X).frames = 1) (hL : (q_R X).locals = 21) (hN : q_n X = 4) (C : rc_C X "RecordCalls$KeyMap" prog_3_method_7_code w0) {res : rc_M} (E : rc_E0 X y_map_setValue none none res) {w : rc_M}  (h : b_map_setValue_15 w  = some res) : rc_J X w 15 [] [] := by
  unfold b_map_setValue_15 at h
  cases h
  exact j_vret C E d_map_setValue_15

set_option maxRecDepth 100000 in
set_option maxHeartbeats 4000000 in
theorem ct_map_setValue {l : Launch} {G : rc_G} {w : rc_M} {a0 : Nat} {x1 : Int32} {x2 : Int64} {res : rc_M} (h : f_map_setValue w a0 x1 x2 = some res) : rc_Ct l G y_map_setValue prog_3_method_7_code 4 none 1 21 [va_rf (some a0), .int x1, .long x2] w none res := by
  refine rc_enter (by decide +kernel) (by simp [lg_sl, va_rf_cat, rc_cat_i, rc_cat_l]) ?_
  intro X _ _ hN hF hL C E
  have hlv : lv_args 0 [va_rf (some a0), .int x1, .long x2] = [(0, va_rf (some a0)), (1, .int x1), (2, .long x2)] := by simp [lv_args, va_rf_cat, rc_cat_i, rc_cat_l]
  rw [hlv]
  clear hlv
  unfold f_map_setValue at h
  refine j_aload_n C d_map_setValue_0 rfl 0 rfl ?_
  refine j_iload_n C d_map_setValue_1 rfl 1 rfl ?_
  obtain ⟨a1, h2, h⟩ := Option.bind_eq_some_iff.mp h
  obtain ⟨p3, h4, h⟩ := Option.bind_eq_some_iff.mp h
  refine j_callV C (As := [.int x1]) (st := []) (sk' := [.int p3.1]) mk_map_isPlace (Or.inl T_280) T_281 T_282 (ci := 3) rfl h2 (rc_le hF (by decide)) (rc_le hL (by decide)) (ct_map_isPlace h4) rfl rfl (by decide) d_map_setValue_2 rfl rfl ?_
  refine j_if_eq (tgt := 15) C d_map_setValue_5 (by decide) rfl (fun c5 => ?_) (fun c5 => ?_)
  · rw [if_pos c5] at h
    refine rc_J.sub (lv' := []) [] rfl ?_
    exact k_map_setValue_15 hF hL hN C E h
  · rw [if_neg c5] at h
    refine j_aload_n C d_map_setValue_8 rfl 0 rfl ?_
    obtain ⟨v6, h7, h⟩ := Option.bind_eq_some_iff.mp h
    refine j_getR C fl_map_17 h7 d_map_setValue_9 rfl ?_
    refine j_iload_n C d_map_setValue_12 rfl 1 rfl ?_
    refine j_lload_n C d_map_setValue_13 rfl 2 rfl ?_
    obtain ⟨w8, h9, h⟩ := Option.bind_eq_some_iff.mp h
    refine j_last C h9 d_map_setValue_14 rfl ?_
    refine rc_J.sub (lv' := []) [] rfl ?_
    exact k_map_setValue_15 hF hL hN C E h

set_option maxRecDepth 100000 in
set_option maxHeartbeats 4000000 in
theorem k_map_addToValue_18 {X : rc_X} {w0 : rc_M} (hF : (q_R X).frames = 1) (hL : (q_R X).locals = 21) (hN : q_n X = 4) (C : rc_C X "RecordCalls$KeyMap" prog_3_method_8_code w0) {res : rc_M} (E : rc_E0 X y_map_addToValue none none res) {w : rc_M}  (h : b_map_addToValue_18 w  = some res) : rc_J X w 18 [] [] := by
  unfold b_map_addToValue_18 at h
  cases h
  exact j_vret C E d_map_addToValue_18

set_option maxRecDepth 100000 in
set_option maxHeartbeats 4000000 in
theorem ct_map_addToValue {l : Launch} {G : rc_G} {w : rc_M} {a0 : Nat} {x1 : Int32} {x2 : Int64} {res : rc_M} (h : f_map_addToValue w a0 x1 x2 = some res) : rc_Ct l G y_map_addToValue prog_3_method_8_code 4 none 1 21 [va_rf (some a0), .int x1, .long x2] w none res := by
  refine rc_enter (by decide +kernel) (by simp [lg_sl, va_rf_cat, rc_cat_i, rc_cat_l]) ?_
  intro X _ _ hN hF hL C E
  have hlv : lv_args 0 [va_rf (some a0), .int x1, .long x2] = [(0, va_rf (some a0)), (1, .int x1), (2, .long x2)] := by simp [lv_args, va_rf_cat, rc_cat_i, rc_cat_l]
  rw [hlv]
  clear hlv
  unfold f_map_addToValue at h
  refine j_aload_n C d_map_addToValue_0 rfl 0 rfl ?_
  refine j_iload_n C d_map_addToValue_1 rfl 1 rfl ?_
  obtain ⟨a1, h2, h⟩ := Option.bind_eq_some_iff.mp h
  obtain ⟨p3, h4, h⟩ := Option.bind_eq_some_iff.mp h
  refine j_callV C (As := [.int x1]) (st := []) (sk' := [.int p3.1]) mk_map_isPlace (Or.inl T_280) T_281 T_282 (ci := 3) rfl h2 (rc_le hF (by decide)) (rc_le hL (by decide)) (ct_map_isPlace h4) rfl rfl (by decide) d_map_addToValue_2 rfl rfl ?_
  refine j_if_eq (tgt := 18) C d_map_addToValue_5 (by decide) rfl (fun c5 => ?_) (fun c5 => ?_)
  · rw [if_pos c5] at h
    refine rc_J.sub (lv' := []) [] rfl ?_
    exact k_map_addToValue_18 hF hL hN C E h
  · rw [if_neg c5] at h
    refine j_aload_n C d_map_addToValue_8 rfl 0 rfl ?_
    obtain ⟨v6, h7, h⟩ := Option.bind_eq_some_iff.mp h
    refine j_getR C fl_map_17 h7 d_map_addToValue_9 rfl ?_
    refine j_iload_n C d_map_addToValue_12 rfl 1 rfl ?_
    refine j_dup2 C d_map_addToValue_13 rfl (by first | rfl | exact va_rf_cat _) (by first | rfl | exact va_rf_cat _) ?_
    obtain ⟨v8, h9, h⟩ := Option.bind_eq_some_iff.mp h
    refine j_lald C h9 d_map_addToValue_14 rfl ?_
    refine j_lload_n C d_map_addToValue_15 rfl 2 rfl ?_
    refine j_ladd C d_map_addToValue_16 rfl ?_
    obtain ⟨w10, h11, h⟩ := Option.bind_eq_some_iff.mp h
    refine j_last C h11 d_map_addToValue_17 rfl ?_
    refine rc_J.sub (lv' := []) [] rfl ?_
    exact k_map_addToValue_18 hF hL hN C E h

set_option maxRecDepth 100000 in
set_option maxHeartbeats 4000000 in
theorem ct_map_addNew {l : Launch} {G : rc_G} {w : rc_M} {a0 : Nat} {r1 : Option Nat} {x2 : Int32} {x3 : Int32} {x4 : Int64} {res : rc_M} (h : f_map_addNew w a0 r1 x2 x3 x4 = some res) : rc_Ct l G y_map_addNew prog_3_method_9_code 6 none 4 94 [va_rf (some a0), va_rf r1, .int x2, .int x3, .long x4] w none res := by
  refine rc_enter (by decide +kernel) (by simp [lg_sl, va_rf_cat, rc_cat_i, rc_cat_l]) ?_
  intro X _ _ hN hF hL C E
  have hlv : lv_args 0 [va_rf (some a0), va_rf r1, .int x2, .int x3, .long x4] = [(0, va_rf (some a0)), (1, va_rf r1), (2, .int x2), (3, .int x3), (4, .long x4)] := by simp [lv_args, va_rf_cat, rc_cat_i, rc_cat_l]
  rw [hlv]
  clear hlv
  unfold f_map_addNew at h
  refine j_aload_n C d_map_addNew_0 rfl 0 rfl ?_
  obtain ⟨a1, h2, h⟩ := Option.bind_eq_some_iff.mp h
  obtain ⟨p3, h4, h⟩ := Option.bind_eq_some_iff.mp h
  refine j_callV C (As := []) (st := []) (sk' := [.int p3.1]) mk_map_isFull (Or.inl T_591) T_574 T_575 (ci := 3) rfl h2 (rc_le hF (by decide)) (rc_le hL (by decide)) (ct_map_isFull h4) rfl rfl (by decide) d_map_addNew_1 rfl rfl ?_
  refine j_if_eq (tgt := 8) C d_map_addNew_4 (by decide) rfl (fun c5 => ?_) (fun c5 => ?_)
  · rw [if_pos c5] at h
    refine j_aload_n C d_map_addNew_8 rfl 0 rfl ?_
    obtain ⟨v6, h7, h⟩ := Option.bind_eq_some_iff.mp h
    refine j_getR C fl_map_11 h7 d_map_addNew_9 rfl ?_
    refine j_aload_n C d_map_addNew_12 rfl 0 rfl ?_
    obtain ⟨v8, h9, h⟩ := Option.bind_eq_some_iff.mp h
    refine j_getI C fl_map_21 h9 d_map_addNew_13 rfl ?_
    obtain ⟨v10, h11, h⟩ := Option.bind_eq_some_iff.mp h
    refine j_aald C (kd := 4) rfl h11 d_map_addNew_16 rfl ?_
    obtain ⟨a12, h13, h⟩ := Option.bind_eq_some_iff.mp h
    obtain ⟨w14, h15, h⟩ := Option.bind_eq_some_iff.mp h
    refine j_callV C (As := []) (st := []) (sk' := []) mk_row_clear (Or.inl T_592) T_217 T_218 (ci := 1) rfl h13 (rc_le hF (by decide)) (rc_le hL (by decide)) (cg_row_clear h15) rfl rfl (by decide) d_map_addNew_17 rfl rfl ?_
    refine j_aload_n C d_map_addNew_20 rfl 0 rfl ?_
    obtain ⟨v16, h17, h⟩ := Option.bind_eq_some_iff.mp h
    refine j_getR C fl_map_11 h17 d_map_addNew_21 rfl ?_
    refine j_aload_n C d_map_addNew_24 rfl 0 rfl ?_
    obtain ⟨v18, h19, h⟩ := Option.bind_eq_some_iff.mp h
    refine j_getI C fl_map_21 h19 d_map_addNew_25 rfl ?_
    obtain ⟨v20, h21, h⟩ := Option.bind_eq_some_iff.mp h
    refine j_aald C (kd := 4) rfl h21 d_map_addNew_28 rfl ?_
    refine j_aload_n C d_map_addNew_29 rfl 1 rfl ?_
    refine j_iload_n C d_map_addNew_30 rfl 2 rfl ?_
    refine j_iload_n C d_map_addNew_31 rfl 3 rfl ?_
    obtain ⟨a22, h23, h⟩ := Option.bind_eq_some_iff.mp h
    obtain ⟨w24, h25, h⟩ := Option.bind_eq_some_iff.mp h
    refine j_callV C (As := [va_rf r1, .int x2, .int x3]) (st := []) (sk' := []) mk_row_addPart (Or.inl T_593) T_225 T_226 (ci := 1) rfl h23 (rc_le hF (by decide)) (rc_le hL (by decide)) (cg_row_addPart h25) rfl rfl (by decide) d_map_addNew_32 rfl rfl ?_
    refine j_aload_n C d_map_addNew_35 rfl 0 rfl ?_
    obtain ⟨v26, h27, h⟩ := Option.bind_eq_some_iff.mp h
    refine j_getR C fl_map_17 h27 d_map_addNew_36 rfl ?_
    refine j_aload_n C d_map_addNew_39 rfl 0 rfl ?_
    obtain ⟨v28, h29, h⟩ := Option.bind_eq_some_iff.mp h
    refine j_getI C fl_map_21 h29 d_map_addNew_40 rfl ?_
    refine j_lload C d_map_addNew_43 rfl 4 rfl ?_
    obtain ⟨w30, h31, h⟩ := Option.bind_eq_some_iff.mp h
    refine j_last C h31 d_map_addNew_45 rfl ?_
    refine j_aload_n C d_map_addNew_46 rfl 0 rfl ?_
    refine j_dup C d_map_addNew_47 rfl (by first | rfl | exact va_rf_cat _) ?_
    obtain ⟨v32, h33, h⟩ := Option.bind_eq_some_iff.mp h
    refine j_getI C fl_map_21 h33 d_map_addNew_48 rfl ?_
    refine j_iconst (v := 1) C d_map_addNew_51 rfl (by decide) ?_
    refine j_iadd C d_map_addNew_52 rfl ?_
    obtain ⟨w34, h35, h⟩ := Option.bind_eq_some_iff.mp h
    refine j_putV C (ci := 3) (k := 2) (by decide) (by decide) T_59 (Or.inl rfl) rfl rfl h35 d_map_addNew_53 rfl ?_
    cases h
    exact j_vret C E d_map_addNew_56
  · rw [if_neg c5] at h
    cases h
    exact j_vret C E d_map_addNew_7

set_option maxRecDepth 100000 in
set_option maxHeartbeats 4000000 in
theorem k_map_remove_20 {X : rc_X} {w0 : rc_M} (hF : (q_R X).frames = 1) (hL : (q_R X).locals = 21) (hN : q_n X = 4) (C : rc_C X "RecordCalls$KeyMap" prog_3_method_10_code w0) {res : rc_M} (E : rc_E0 X y_map_remove none none res) : ∀ (fuel : Nat) (w : rc_M) (a0 : Nat) (r2 : Option Nat) (x3 : Int32), b_map_remove_20 fuel w a0 r2 x3 = some res → rc_J X w 20 [] [(0, va_rf (some a0)), (2, va_rf r2), (3, .int x3)] := by
  intro fuel
  induction fuel with
  | zero => intro w a0 r2 x3 h; simp [b_map_remove_20] at h
  | succ fuel ih =>
    intro w a0 r2 x3 h
    unfold b_map_remove_20 at h
    refine j_iload_n C d_map_remove_20 rfl 2 rfl ?_
    refine j_aload_n C d_map_remove_21 rfl 0 rfl ?_
    obtain ⟨v1, h2, h⟩ := Option.bind_eq_some_iff.mp h
    refine j_getI C fl_map_21 h2 d_map_remove_22 rfl ?_
    refine j_icmp_ge (tgt := 62) C d_map_remove_25 (by decide) rfl (fun c3 => ?_) (fun c3 => ?_)
    · rw [if_pos c3] at h
      refine j_aload_n C d_map_remove_62 rfl 0 rfl ?_
      refine j_dup C d_map_remove_63 rfl (by first | rfl | exact va_rf_cat _) ?_
      obtain ⟨v4, h5, h⟩ := Option.bind_eq_some_iff.mp h
      refine j_getI C fl_map_21 h5 d_map_remove_64 rfl ?_
      refine j_iconst (v := 1) C d_map_remove_67 rfl (by decide) ?_
      refine j_isub C d_map_remove_68 rfl ?_
      obtain ⟨w6, h7, h⟩ := Option.bind_eq_some_iff.mp h
      refine j_putV C (ci := 3) (k := 2) (by decide) (by decide) T_59 (Or.inl rfl) rfl rfl h7 d_map_remove_69 rfl ?_
      refine j_aload_n C d_map_remove_72 rfl 0 rfl ?_
      obtain ⟨v8, h9, h⟩ := Option.bind_eq_some_iff.mp h
      refine j_getR C fl_map_11 h9 d_map_remove_73 rfl ?_
      refine j_aload_n C d_map_remove_76 rfl 0 rfl ?_
      obtain ⟨v10, h11, h⟩ := Option.bind_eq_some_iff.mp h
      refine j_getI C fl_map_21 h11 d_map_remove_77 rfl ?_
      refine j_aload_n C d_map_remove_80 rfl 1 rfl ?_
      obtain ⟨w12, h13, h⟩ := Option.bind_eq_some_iff.mp h
      refine j_aast C (kd := 4) (ci := 1) rfl h13 d_map_remove_81 rfl ?_
      cases h
      exact j_vret C E d_map_remove_82
    · rw [if_neg c3] at h
      refine j_aload_n C d_map_remove_28 rfl 0 rfl ?_
      obtain ⟨v14, h15, h⟩ := Option.bind_eq_some_iff.mp h
      refine j_getR C fl_map_11 h15 d_map_remove_29 rfl ?_
      refine j_iload_n C d_map_remove_32 rfl 2 rfl ?_
      refine j_iconst (v := 1) C d_map_remove_33 rfl (by decide) ?_
      refine j_isub C d_map_remove_34 rfl ?_
      refine j_aload_n C d_map_remove_35 rfl 0 rfl ?_
      obtain ⟨v16, h17, h⟩ := Option.bind_eq_some_iff.mp h
      refine j_getR C fl_map_11 h17 d_map_remove_36 rfl ?_
      refine j_iload_n C d_map_remove_39 rfl 2 rfl ?_
      obtain ⟨v18, h19, h⟩ := Option.bind_eq_some_iff.mp h
      refine j_aald C (kd := 4) rfl h19 d_map_remove_40 rfl ?_
      obtain ⟨w20, h21, h⟩ := Option.bind_eq_some_iff.mp h
      refine j_aast C (kd := 4) (ci := 1) rfl h21 d_map_remove_41 rfl ?_
      refine j_aload_n C d_map_remove_42 rfl 0 rfl ?_
      obtain ⟨v22, h23, h⟩ := Option.bind_eq_some_iff.mp h
      refine j_getR C fl_map_17 h23 d_map_remove_43 rfl ?_
      refine j_iload_n C d_map_remove_46 rfl 2 rfl ?_
      refine j_iconst (v := 1) C d_map_remove_47 rfl (by decide) ?_
      refine j_isub C d_map_remove_48 rfl ?_
      refine j_aload_n C d_map_remove_49 rfl 0 rfl ?_
      obtain ⟨v24, h25, h⟩ := Option.bind_eq_some_iff.mp h
      refine j_getR C fl_map_17 h25 d_map_remove_50 rfl ?_
      refine j_iload_n C d_map_remove_53 rfl 2 rfl ?_
      obtain ⟨v26, h27, h⟩ := Option.bind_eq_some_iff.mp h
      refine j_lald C h27 d_map_remove_54 rfl ?_
      obtain ⟨w28, h29, h⟩ := Option.bind_eq_some_iff.mp h
      refine j_last C h29 d_map_remove_55 rfl ?_
      refine j_iinc C d_map_remove_56 rfl 2 [(3, .int (x3 + 1)), (0, va_rf (some a0)), (2, va_rf r2)] rfl rfl (rc_lt hN (by decide)) (by first | rfl | simp [va_rf_cat, rc_cat_i, rc_cat_l]) ?_
      refine j_goto (tgt := 20) C d_map_remove_59 (by decide) ?_
      refine rc_J.sub (lv' := [(0, va_rf (some a0)), (2, va_rf r2), (3, .int (x3 + 1))]) [1, 2, 0] rfl ?_
      exact ih _ _ _ _ h

set_option maxRecDepth 100000 in
set_option maxHeartbeats 4000000 in
theorem ct_map_remove {l : Launch} {G : rc_G} {w : rc_M} {a0 : Nat} {x1 : Int32} {res : rc_M} (h : f_map_remove w a0 x1 = some res) : rc_Ct l G y_map_remove prog_3_method_10_code 4 none 1 21 [va_rf (some a0), .int x1] w none res := by
  refine rc_enter (by decide +kernel) (by simp [lg_sl, va_rf_cat, rc_cat_i, rc_cat_l]) ?_
  intro X _ _ hN hF hL C E
  have hlv : lv_args 0 [va_rf (some a0), .int x1] = [(0, va_rf (some a0)), (1, .int x1)] := by simp [lv_args, va_rf_cat, rc_cat_i, rc_cat_l]
  rw [hlv]
  clear hlv
  unfold f_map_remove at h
  refine j_aload_n C d_map_remove_0 rfl 0 rfl ?_
  refine j_iload_n C d_map_remove_1 rfl 1 rfl ?_
  obtain ⟨a1, h2, h⟩ := Option.bind_eq_some_iff.mp h
  obtain ⟨p3, h4, h⟩ := Option.bind_eq_some_iff.mp h
  refine j_callV C (As := [.int x1]) (st := []) (sk' := [.int p3.1]) mk_map_isPlace (Or.inl T_280) T_281 T_282 (ci := 3) rfl h2 (rc_le hF (by decide)) (rc_le hL (by decide)) (ct_map_isPlace h4) rfl rfl (by decide) d_map_remove_2 rfl rfl ?_
  refine j_if_ne (tgt := 9) C d_map_remove_5 (by decide) rfl (fun c5 => ?_) (fun c5 => ?_)
  · rw [if_neg c5] at h
    refine j_aload_n C d_map_remove_9 rfl 0 rfl ?_
    obtain ⟨v6, h7, h⟩ := Option.bind_eq_some_iff.mp h
    refine j_getR C fl_map_11 h7 d_map_remove_10 rfl ?_
    refine j_iload_n C d_map_remove_13 rfl 1 rfl ?_
    obtain ⟨v8, h9, h⟩ := Option.bind_eq_some_iff.mp h
    refine j_aald C (kd := 4) rfl h9 d_map_remove_14 rfl ?_
    refine j_astore_n C (i := 2) d_map_remove_15 rfl rfl [(2, va_rf v8), (0, va_rf (some a0)), (1, .int x1)] (rc_lt hN (by decide)) (by first | rfl | simp [va_rf_cat, rc_cat_i, rc_cat_l]) ?_
    refine j_iload_n C d_map_remove_16 rfl 2 rfl ?_
    refine j_iconst (v := 1) C d_map_remove_17 rfl (by decide) ?_
    refine j_iadd C d_map_remove_18 rfl ?_
    refine j_istore_n C (i := 3) d_map_remove_19 rfl rfl [(3, .int (x1 + 1)), (2, va_rf v8), (0, va_rf (some a0)), (1, .int x1)] (rc_lt hN (by decide)) (by first | rfl | simp [va_rf_cat, rc_cat_i, rc_cat_l]) ?_
    refine rc_J.sub (lv' := [(0, va_rf (some a0)), (2, va_rf v8), (3, .int (x1 + 1))]) [2, 1, 0] rfl ?_
    exact k_map_remove_20 hF hL hN C E _ _ _ _ _ h
  · rw [if_pos c5] at h
    cases h
    exact j_vret C E d_map_remove_8

set_option maxRecDepth 100000 in
set_option maxHeartbeats 4000000 in
theorem k_map_keyAt_18 {X : rc_X} {w0 : rc_M} (hF : (q_R X).frames = 1) (hL : (q_R X).locals = 21) (hN : q_n X = 2) (C : rc_C X "RecordCalls$KeyMap" prog_3_method_11_code w0) {res : Option Nat × rc_M} (E : rc_E0 X y_map_keyAt (some (.object "RecordCalls$Row")) (some (va_rf res.1)) res.2) {w : rc_M} {s0 : Option Nat} (h : b_map_keyAt_18 w s0 = some res) : rc_J X w 18 [va_rf s0] [] := by
  unfold b_map_keyAt_18 at h
  cases h
  exact j_aret C (by first | exact Or.inl ⟨_, rfl⟩ | exact Or.inr ⟨_, rfl⟩) E d_map_keyAt_18

set_option maxRecDepth 100000 in
set_option maxHeartbeats 4000000 in
theorem ct_map_keyAt {l : Launch} {G : rc_G} {w : rc_M} {a0 : Nat} {x1 : Int32} {res : Option Nat × rc_M} (h : f_map_keyAt w a0 x1 = some res) : rc_Ct l G y_map_keyAt prog_3_method_11_code 2 (some (.object "RecordCalls$Row")) 1 21 [va_rf (some a0), .int x1] w (some (va_rf res.1)) res.2 := by
  refine rc_enter (by decide +kernel) (by simp [lg_sl, va_rf_cat, rc_cat_i, rc_cat_l]) ?_
  intro X _ _ hN hF hL C E
  have hlv : lv_args 0 [va_rf (some a0), .int x1] = [(0, va_rf (some a0)), (1, .int x1)] := by simp [lv_args, va_rf_cat, rc_cat_i, rc_cat_l]
  rw [hlv]
  clear hlv
  unfold f_map_keyAt at h
  refine j_aload_n C d_map_keyAt_0 rfl 0 rfl ?_
  refine j_iload_n C d_map_keyAt_1 rfl 1 rfl ?_
  obtain ⟨a1, h2, h⟩ := Option.bind_eq_some_iff.mp h
  obtain ⟨p3, h4, h⟩ := Option.bind_eq_some_iff.mp h
  refine j_callV C (As := [.int x1]) (st := []) (sk' := [.int p3.1]) mk_map_isPlace (Or.inl T_280) T_281 T_282 (ci := 3) rfl h2 (rc_le hF (by decide)) (rc_le hL (by decide)) (ct_map_isPlace h4) rfl rfl (by decide) d_map_keyAt_2 rfl rfl ?_
  refine j_if_eq (tgt := 17) C d_map_keyAt_5 (by decide) rfl (fun c5 => ?_) (fun c5 => ?_)
  · rw [if_pos c5] at h
    refine j_null C d_map_keyAt_17 rfl ?_
    refine rc_J.sub (lv' := []) [] rfl ?_
    exact k_map_keyAt_18 hF hL hN C E h
  · rw [if_neg c5] at h
    refine j_aload_n C d_map_keyAt_8 rfl 0 rfl ?_
    obtain ⟨v6, h7, h⟩ := Option.bind_eq_some_iff.mp h
    refine j_getR C fl_map_11 h7 d_map_keyAt_9 rfl ?_
    refine j_iload_n C d_map_keyAt_12 rfl 1 rfl ?_
    obtain ⟨v8, h9, h⟩ := Option.bind_eq_some_iff.mp h
    refine j_aald C (kd := 4) rfl h9 d_map_keyAt_13 rfl ?_
    refine j_goto (tgt := 18) C d_map_keyAt_14 (by decide) ?_
    refine rc_J.sub (lv' := []) [] rfl ?_
    exact k_map_keyAt_18 hF hL hN C E h

set_option maxRecDepth 100000 in
set_option maxHeartbeats 4000000 in
theorem ct_rdr_init {l : Launch} {G : rc_G} {w : rc_M} {a0 : Nat} {res : rc_M} (h : f_rdr_init w a0 = some res) : rc_Ct l G y_rdr_init prog_4_method_1_code 1 none 2 40 [va_rf (some a0)] w none res := by
  refine rc_enter (by decide +kernel) (by simp [lg_sl, va_rf_cat, rc_cat_i, rc_cat_l]) ?_
  intro X _ _ hN hF hL C E
  have hlv : lv_args 0 [va_rf (some a0)] = [(0, va_rf (some a0))] := by simp [lv_args, va_rf_cat, rc_cat_i, rc_cat_l]
  rw [hlv]
  clear hlv
  unfold f_rdr_init at h
  refine j_aload_n C d_rdr_init_0 rfl 0 rfl ?_
  refine j_oinit C rfl T_73 T_24 T_25 (rc_le hF (by decide)) (rc_le hL (by simp [va_rf_cat, rc_cat_i, rc_cat_l])) d_rdr_init_1 rfl ?_
  refine j_aload_n C d_rdr_init_4 rfl 0 rfl ?_
  obtain ⟨p1, h2, h⟩ := Option.bind_eq_some_iff.mp h
  refine j_new C (ci := 1) (by decide) T_74 T_27 T_2 h2 d_rdr_init_5 rfl ?_
  refine j_dup C d_rdr_init_8 rfl (by first | rfl | exact va_rf_cat _) ?_
  obtain ⟨w3, h4, h⟩ := Option.bind_eq_some_iff.mp h
  refine j_callI C (As := []) (st := [va_rf (some p1.1), va_rf (some a0)]) mk_row_init (Or.inr T_75) T_29 rfl rfl (rc_le hF (by decide)) (rc_le hL (by decide)) (cg_row_init h4) rfl rfl (by simp [va_rf_cat, rc_cat_i, rc_cat_l]) d_rdr_init_9 rfl ?_
  obtain ⟨w5, h6, h⟩ := Option.bind_eq_some_iff.mp h
  refine j_putV C (ci := 4) (k := 0) (by decide) (by decide) T_76 (Or.inl rfl) rfl (by first | rfl | exact rc_fo _ _ | exact rc_fa _ _) h6 d_rdr_init_12 rfl ?_
  refine j_aload_n C d_rdr_init_15 rfl 0 rfl ?_
  refine j_iconst (v := 0) C d_rdr_init_16 rfl (by decide) ?_
  obtain ⟨w7, h8, h⟩ := Option.bind_eq_some_iff.mp h
  refine j_putV C (ci := 4) (k := 1) (by decide) (by decide) T_77 (Or.inl rfl) rfl rfl h8 d_rdr_init_17 rfl ?_
  refine j_aload_n C d_rdr_init_20 rfl 0 rfl ?_
  refine j_iconst (v := 1) C d_rdr_init_21 rfl (by decide) ?_
  obtain ⟨w9, h10, h⟩ := Option.bind_eq_some_iff.mp h
  obtain ⟨h10z, h10⟩ := rc_pZ_spec h10
  refine j_putV C (ci := 4) (k := 2) (by decide) (by decide) T_78 (Or.inl rfl) (rc_nz h10z) (rc_fz h10z) h10 d_rdr_init_22 rfl ?_
  cases h
  exact j_vret C E d_rdr_init_25

