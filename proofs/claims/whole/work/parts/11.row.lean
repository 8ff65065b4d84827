theorem fl_row_9 : rc_FL "RecordCalls$Row" 9 1 0 := ⟨by decide, by decide, Or.inl T_32⟩
theorem fl_row_15 : rc_FL "RecordCalls$Row" 15 1 1 := ⟨by decide, by decide, Or.inl T_33⟩
theorem d_row_init_0 : decode prog_6_method_1_code 0 = .ok (.aload_n 0, 1) := by decide +kernel
theorem d_row_init_1 : decode prog_6_method_1_code 1 = .ok (.invokespecial 3, 3) := by decide +kernel
theorem d_row_init_4 : decode prog_6_method_1_code 4 = .ok (.aload_n 0, 1) := by decide +kernel
theorem d_row_init_5 : decode prog_6_method_1_code 5 = .ok (.iconst 0, 1) := by decide +kernel
theorem d_row_init_6 : decode prog_6_method_1_code 6 = .ok (.newarray .byte, 2) := by decide +kernel
theorem d_row_init_8 : decode prog_6_method_1_code 8 = .ok (.putfield 9, 3) := by decide +kernel
theorem d_row_init_11 : decode prog_6_method_1_code 11 = .ok (.aload_n 0, 1) := by decide +kernel
theorem d_row_init_12 : decode prog_6_method_1_code 12 = .ok (.iconst 0, 1) := by decide +kernel
theorem d_row_init_13 : decode prog_6_method_1_code 13 = .ok (.putfield 15, 3) := by decide +kernel
theorem d_row_init_16 : decode prog_6_method_1_code 16 = .ok (.return_, 1) := by decide +kernel
theorem d_row_size_0 : decode prog_6_method_2_code 0 = .ok (.aload_n 0, 1) := by decide +kernel
theorem d_row_size_1 : decode prog_6_method_2_code 1 = .ok (.getfield 15, 3) := by decide +kernel
theorem d_row_size_4 : decode prog_6_method_2_code 4 = .ok (.ireturn, 1) := by decide +kernel
theorem d_row_clear_0 : decode prog_6_method_3_code 0 = .ok (.aload_n 0, 1) := by decide +kernel
theorem d_row_clear_1 : decode prog_6_method_3_code 1 = .ok (.iconst 0, 1) := by decide +kernel
theorem d_row_clear_2 : decode prog_6_method_3_code 2 = .ok (.putfield 15, 3) := by decide +kernel
theorem d_row_clear_5 : decode prog_6_method_3_code 5 = .ok (.return_, 1) := by decide +kernel
theorem d_row_cutTo_0 : decode prog_6_method_4_code 0 = .ok (.iload_n 1, 1) := by decide +kernel
theorem d_row_cutTo_1 : decode prog_6_method_4_code 1 = .ok (.ifCond .lt 16, 3) := by decide +kernel
theorem d_row_cutTo_4 : decode prog_6_method_4_code 4 = .ok (.iload_n 1, 1) := by decide +kernel
theorem d_row_cutTo_5 : decode prog_6_method_4_code 5 = .ok (.aload_n 0, 1) := by decide +kernel
theorem d_row_cutTo_6 : decode prog_6_method_4_code 6 = .ok (.getfield 15, 3) := by decide +kernel
theorem d_row_cutTo_9 : decode prog_6_method_4_code 9 = .ok (.if_icmp .ge 8, 3) := by decide +kernel
theorem d_row_cutTo_12 : decode prog_6_method_4_code 12 = .ok (.aload_n 0, 1) := by decide +kernel
theorem d_row_cutTo_13 : decode prog_6_method_4_code 13 = .ok (.iload_n 1, 1) := by decide +kernel
theorem d_row_cutTo_14 : decode prog_6_method_4_code 14 = .ok (.putfield 15, 3) := by decide +kernel
theorem d_row_cutTo_17 : decode prog_6_method_4_code 17 = .ok (.return_, 1) := by decide +kernel
theorem d_row_at_0 : decode prog_6_method_5_code 0 = .ok (.iload_n 1, 1) := by decide +kernel
theorem d_row_at_1 : decode prog_6_method_5_code 1 = .ok (.ifCond .lt 24, 3) := by decide +kernel
theorem d_row_at_4 : decode prog_6_method_5_code 4 = .ok (.iload_n 1, 1) := by decide +kernel
theorem d_row_at_5 : decode prog_6_method_5_code 5 = .ok (.aload_n 0, 1) := by decide +kernel
theorem d_row_at_6 : decode prog_6_method_5_code 6 = .ok (.getfield 15, 3) := by decide +kernel
theorem d_row_at_9 : decode prog_6_method_5_code 9 = .ok (.if_icmp .ge 16, 3) := by decide +kernel
theorem d_row_at_12 : decode prog_6_method_5_code 12 = .ok (.aload_n 0, 1) := by decide +kernel
theorem d_row_at_13 : decode prog_6_method_5_code 13 = .ok (.getfield 9, 3) := by decide +kernel
theorem d_row_at_16 : decode prog_6_method_5_code 16 = .ok (.iload_n 1, 1) := by decide +kernel
theorem d_row_at_17 : decode prog_6_method_5_code 17 = .ok (.baload, 1) := by decide +kernel
theorem d_row_at_18 : decode prog_6_method_5_code 18 = .ok (.sipush 255, 3) := by decide +kernel
theorem d_row_at_21 : decode prog_6_method_5_code 21 = .ok (.iand, 1) := by decide +kernel
theorem d_row_at_22 : decode prog_6_method_5_code 22 = .ok (.goto 4, 3) := by decide +kernel
theorem d_row_at_25 : decode prog_6_method_5_code 25 = .ok (.iconst 0, 1) := by decide +kernel
theorem d_row_at_26 : decode prog_6_method_5_code 26 = .ok (.ireturn, 1) := by decide +kernel
theorem d_row_wordAt_0 : decode prog_6_method_6_code 0 = .ok (.iload_n 1, 1) := by decide +kernel
theorem d_row_wordAt_1 : decode prog_6_method_6_code 1 = .ok (.ifCond .lt 13, 3) := by decide +kernel
theorem d_row_wordAt_4 : decode prog_6_method_6_code 4 = .ok (.iload_n 1, 1) := by decide +kernel
theorem d_row_wordAt_5 : decode prog_6_method_6_code 5 = .ok (.aload_n 0, 1) := by decide +kernel
theorem d_row_wordAt_6 : decode prog_6_method_6_code 6 = .ok (.getfield 15, 3) := by decide +kernel
theorem d_row_wordAt_9 : decode prog_6_method_6_code 9 = .ok (.iconst 4, 1) := by decide +kernel
theorem d_row_wordAt_10 : decode prog_6_method_6_code 10 = .ok (.isub, 1) := by decide +kernel
theorem d_row_wordAt_11 : decode prog_6_method_6_code 11 = .ok (.if_icmp .le 5, 3) := by decide +kernel
theorem d_row_wordAt_14 : decode prog_6_method_6_code 14 = .ok (.iconst 0, 1) := by decide +kernel
theorem d_row_wordAt_15 : decode prog_6_method_6_code 15 = .ok (.ireturn, 1) := by decide +kernel
theorem d_row_wordAt_16 : decode prog_6_method_6_code 16 = .ok (.aload_n 0, 1) := by decide +kernel
theorem d_row_wordAt_17 : decode prog_6_method_6_code 17 = .ok (.getfield 9, 3) := by decide +kernel
theorem d_row_wordAt_20 : decode prog_6_method_6_code 20 = .ok (.iload_n 1, 1) := by decide +kernel
theorem d_row_wordAt_21 : decode prog_6_method_6_code 21 = .ok (.baload, 1) := by decide +kernel
theorem d_row_wordAt_22 : decode prog_6_method_6_code 22 = .ok (.sipush 255, 3) := by decide +kernel
theorem d_row_wordAt_25 : decode prog_6_method_6_code 25 = .ok (.iand, 1) := by decide +kernel
theorem d_row_wordAt_26 : decode prog_6_method_6_code 26 = .ok (.bipush 24, 2) := by decide +kernel
theorem d_row_wordAt_28 : decode prog_6_method_6_code 28 = .ok (.ishl, 1) := by decide +kernel
theorem d_row_wordAt_29 : decode prog_6_method_6_code 29 = .ok (.aload_n 0, 1) := by decide +kernel
theorem d_row_wordAt_30 : decode prog_6_method_6_code 30 = .ok (.getfield 9, 3) := by decide +kernel
theorem d_row_wordAt_33 : decode prog_6_method_6_code 33 = .ok (.iload_n 1, 1) := by decide +kernel
theorem d_row_wordAt_34 : decode prog_6_method_6_code 34 = .ok (.iconst 1, 1) := by decide +kernel
theorem d_row_wordAt_35 : decode prog_6_method_6_code 35 = .ok (.iadd, 1) := by decide +kernel
theorem d_row_wordAt_36 : decode prog_6_method_6_code 36 = .ok (.baload, 1) := by decide +kernel
theorem d_row_wordAt_37 : decode prog_6_method_6_code 37 = .ok (.sipush 255, 3) := by decide +kernel
theorem d_row_wordAt_40 : decode prog_6_method_6_code 40 = .ok (.iand, 1) := by decide +kernel
theorem d_row_wordAt_41 : decode prog_6_method_6_code 41 = .ok (.bipush 16, 2) := by decide +kernel
theorem d_row_wordAt_43 : decode prog_6_method_6_code 43 = .ok (.ishl, 1) := by decide +kernel
theorem d_row_wordAt_44 : decode prog_6_method_6_code 44 = .ok (.ior, 1) := by decide +kernel
theorem d_row_wordAt_45 : decode prog_6_method_6_code 45 = .ok (.aload_n 0, 1) := by decide +kernel
theorem d_row_wordAt_46 : decode prog_6_method_6_code 46 = .ok (.getfield 9, 3) := by decide +kernel
theorem d_row_wordAt_49 : decode prog_6_method_6_code 49 = .ok (.iload_n 1, 1) := by decide +kernel
theorem d_row_wordAt_50 : decode prog_6_method_6_code 50 = .ok (.iconst 2, 1) := by decide +kernel
theorem d_row_wordAt_51 : decode prog_6_method_6_code 51 = .ok (.iadd, 1) := by decide +kernel
theorem d_row_wordAt_52 : decode prog_6_method_6_code 52 = .ok (.baload, 1) := by decide +kernel
theorem d_row_wordAt_53 : decode prog_6_method_6_code 53 = .ok (.sipush 255, 3) := by decide +kernel
theorem d_row_wordAt_56 : decode prog_6_method_6_code 56 = .ok (.iand, 1) := by decide +kernel
theorem d_row_wordAt_57 : decode prog_6_method_6_code 57 = .ok (.bipush 8, 2) := by decide +kernel
theorem d_row_wordAt_59 : decode prog_6_method_6_code 59 = .ok (.ishl, 1) := by decide +kernel
theorem d_row_wordAt_60 : decode prog_6_method_6_code 60 = .ok (.ior, 1) := by decide +kernel
theorem d_row_wordAt_61 : decode prog_6_method_6_code 61 = .ok (.aload_n 0, 1) := by decide +kernel
theorem d_row_wordAt_62 : decode prog_6_method_6_code 62 = .ok (.getfield 9, 3) := by decide +kernel
theorem d_row_wordAt_65 : decode prog_6_method_6_code 65 = .ok (.iload_n 1, 1) := by decide +kernel
theorem d_row_wordAt_66 : decode prog_6_method_6_code 66 = .ok (.iconst 3, 1) := by decide +kernel
theorem d_row_wordAt_67 : decode prog_6_method_6_code 67 = .ok (.iadd, 1) := by decide +kernel
theorem d_row_wordAt_68 : decode prog_6_method_6_code 68 = .ok (.baload, 1) := by decide +kernel
theorem d_row_wordAt_69 : decode prog_6_method_6_code 69 = .ok (.sipush 255, 3) := by decide +kernel
theorem d_row_wordAt_72 : decode prog_6_method_6_code 72 = .ok (.iand, 1) := by decide +kernel
theorem d_row_wordAt_73 : decode prog_6_method_6_code 73 = .ok (.ior, 1) := by decide +kernel
theorem d_row_wordAt_74 : decode prog_6_method_6_code 74 = .ok (.ireturn, 1) := by decide +kernel
theorem d_mat_max_0 : decode prog_14_method_65_code 0 = .ok (.iload_n 0, 1) := by decide +kernel
theorem d_mat_max_1 : decode prog_14_method_65_code 1 = .ok (.iload_n 1, 1) := by decide +kernel
theorem d_mat_max_2 : decode prog_14_method_65_code 2 = .ok (.if_icmp .lt 7, 3) := by decide +kernel
theorem d_mat_max_5 : decode prog_14_method_65_code 5 = .ok (.iload_n 0, 1) := by decide +kernel
theorem d_mat_max_6 : decode prog_14_method_65_code 6 = .ok (.goto 4, 3) := by decide +kernel
theorem d_mat_max_9 : decode prog_14_method_65_code 9 = .ok (.iload_n 1, 1) := by decide +kernel
theorem d_mat_max_10 : decode prog_14_method_65_code 10 = .ok (.ireturn, 1) := by decide +kernel
theorem d_mat_min_0 : decode prog_14_method_69_code 0 = .ok (.iload_n 0, 1) := by decide +kernel
theorem d_mat_min_1 : decode prog_14_method_69_code 1 = .ok (.iload_n 1, 1) := by decide +kernel
theorem d_mat_min_2 : decode prog_14_method_69_code 2 = .ok (.if_icmp .gt 7, 3) := by decide +kernel
theorem d_mat_min_5 : decode prog_14_method_69_code 5 = .ok (.iload_n 0, 1) := by decide +kernel
theorem d_mat_min_6 : decode prog_14_method_69_code 6 = .ok (.goto 4, 3) := by decide +kernel
theorem d_mat_min_9 : decode prog_14_method_69_code 9 = .ok (.iload_n 1, 1) := by decide +kernel
theorem d_mat_min_10 : decode prog_14_method_69_code 10 = .ok (.ireturn, 1) := by decide +kernel
theorem d_arr_copyOf_0 : decode prog_19_method_121_code 0 = .ok (.iload_n 1, 1) := by decide +kernel
theorem d_arr_copyOf_1 : decode prog_19_method_121_code 1 = .ok (.aload_n 0, 1) := by decide +kernel
theorem d_arr_copyOf_2 : decode prog_19_method_121_code 2 = .ok (.arraylength, 1) := by decide +kernel
theorem d_arr_copyOf_3 : decode prog_19_method_121_code 3 = .ok (.if_icmp .ne 11, 3) := by decide +kernel
theorem d_arr_copyOf_6 : decode prog_19_method_121_code 6 = .ok (.aload_n 0, 1) := by decide +kernel
theorem d_arr_copyOf_14 : decode prog_19_method_121_code 14 = .ok (.iload_n 1, 1) := by decide +kernel
theorem d_arr_copyOf_15 : decode prog_19_method_121_code 15 = .ok (.newarray .byte, 2) := by decide +kernel
theorem d_arr_copyOf_17 : decode prog_19_method_121_code 17 = .ok (.astore_n 2, 1) := by decide +kernel
theorem d_arr_copyOf_18 : decode prog_19_method_121_code 18 = .ok (.aload_n 0, 1) := by decide +kernel
theorem d_arr_copyOf_19 : decode prog_19_method_121_code 19 = .ok (.iconst 0, 1) := by decide +kernel
theorem d_arr_copyOf_20 : decode prog_19_method_121_code 20 = .ok (.aload_n 2, 1) := by decide +kernel
theorem d_arr_copyOf_21 : decode prog_19_method_121_code 21 = .ok (.iconst 0, 1) := by decide +kernel
theorem d_arr_copyOf_22 : decode prog_19_method_121_code 22 = .ok (.aload_n 0, 1) := by decide +kernel
theorem d_arr_copyOf_23 : decode prog_19_method_121_code 23 = .ok (.arraylength, 1) := by decide +kernel
theorem d_arr_copyOf_24 : decode prog_19_method_121_code 24 = .ok (.iload_n 1, 1) := by decide +kernel
theorem d_arr_copyOf_25 : decode prog_19_method_121_code 25 = .ok (.invokestatic 304, 3) := by decide +kernel
theorem d_arr_copyOf_28 : decode prog_19_method_121_code 28 = .ok (.invokestatic 150, 3) := by decide +kernel
theorem d_arr_copyOf_31 : decode prog_19_method_121_code 31 = .ok (.aload_n 2, 1) := by decide +kernel
theorem d_arr_copyOf_32 : decode prog_19_method_121_code 32 = .ok (.areturn, 1) := by decide +kernel
theorem d_row_makeRoom_0 : decode prog_6_method_7_code 0 = .ok (.aload_n 0, 1) := by decide +kernel
theorem d_row_makeRoom_1 : decode prog_6_method_7_code 1 = .ok (.getfield 15, 3) := by decide +kernel
theorem d_row_makeRoom_4 : decode prog_6_method_7_code 4 = .ok (.iload_n 1, 1) := by decide +kernel
theorem d_row_makeRoom_5 : decode prog_6_method_7_code 5 = .ok (.iadd, 1) := by decide +kernel
theorem d_row_makeRoom_6 : decode prog_6_method_7_code 6 = .ok (.istore_n 2, 1) := by decide +kernel
theorem d_row_makeRoom_7 : decode prog_6_method_7_code 7 = .ok (.iload_n 2, 1) := by decide +kernel
theorem d_row_makeRoom_8 : decode prog_6_method_7_code 8 = .ok (.aload_n 0, 1) := by decide +kernel
theorem d_row_makeRoom_9 : decode prog_6_method_7_code 9 = .ok (.getfield 9, 3) := by decide +kernel
theorem d_row_makeRoom_12 : decode prog_6_method_7_code 12 = .ok (.arraylength, 1) := by decide +kernel
theorem d_row_makeRoom_13 : decode prog_6_method_7_code 13 = .ok (.if_icmp .le 32, 3) := by decide +kernel
theorem d_row_makeRoom_16 : decode prog_6_method_7_code 16 = .ok (.bipush 16, 2) := by decide +kernel
theorem d_row_makeRoom_18 : decode prog_6_method_7_code 18 = .ok (.iconst 2, 1) := by decide +kernel
theorem d_row_makeRoom_19 : decode prog_6_method_7_code 19 = .ok (.aload_n 0, 1) := by decide +kernel
theorem d_row_makeRoom_20 : decode prog_6_method_7_code 20 = .ok (.getfield 9, 3) := by decide +kernel
theorem d_row_makeRoom_23 : decode prog_6_method_7_code 23 = .ok (.arraylength, 1) := by decide +kernel
theorem d_row_makeRoom_24 : decode prog_6_method_7_code 24 = .ok (.imul, 1) := by decide +kernel
theorem d_row_makeRoom_25 : decode prog_6_method_7_code 25 = .ok (.invokestatic 19, 3) := by decide +kernel
theorem d_row_makeRoom_28 : decode prog_6_method_7_code 28 = .ok (.istore_n 3, 1) := by decide +kernel
theorem d_row_makeRoom_29 : decode prog_6_method_7_code 29 = .ok (.aload_n 0, 1) := by decide +kernel
theorem d_row_makeRoom_30 : decode prog_6_method_7_code 30 = .ok (.aload_n 0, 1) := by decide +kernel
theorem d_row_makeRoom_31 : decode prog_6_method_7_code 31 = .ok (.getfield 9, 3) := by decide +kernel
theorem d_row_makeRoom_34 : decode prog_6_method_7_code 34 = .ok (.iload_n 2, 1) := by decide +kernel
theorem d_row_makeRoom_35 : decode prog_6_method_7_code 35 = .ok (.iload_n 3, 1) := by decide +kernel
theorem d_row_makeRoom_36 : decode prog_6_method_7_code 36 = .ok (.invokestatic 19, 3) := by decide +kernel
theorem d_row_makeRoom_39 : decode prog_6_method_7_code 39 = .ok (.invokestatic 25, 3) := by decide +kernel
theorem d_row_makeRoom_42 : decode prog_6_method_7_code 42 = .ok (.putfield 9, 3) := by decide +kernel
theorem d_row_makeRoom_45 : decode prog_6_method_7_code 45 = .ok (.return_, 1) := by decide +kernel
theorem d_row_add_0 : decode prog_6_method_8_code 0 = .ok (.aload_n 0, 1) := by decide +kernel
theorem d_row_add_1 : decode prog_6_method_8_code 1 = .ok (.iconst 1, 1) := by decide +kernel
theorem d_row_add_2 : decode prog_6_method_8_code 2 = .ok (.invokevirtual 31, 3) := by decide +kernel
theorem d_row_add_5 : decode prog_6_method_8_code 5 = .ok (.aload_n 0, 1) := by decide +kernel
theorem d_row_add_6 : decode prog_6_method_8_code 6 = .ok (.getfield 9, 3) := by decide +kernel
theorem d_row_add_9 : decode prog_6_method_8_code 9 = .ok (.aload_n 0, 1) := by decide +kernel
theorem d_row_add_10 : decode prog_6_method_8_code 10 = .ok (.getfield 15, 3) := by decide +kernel
theorem d_row_add_13 : decode prog_6_method_8_code 13 = .ok (.iload_n 1, 1) := by decide +kernel
theorem d_row_add_14 : decode prog_6_method_8_code 14 = .ok (.i2b, 1) := by decide +kernel
theorem d_row_add_15 : decode prog_6_method_8_code 15 = .ok (.bastore, 1) := by decide +kernel
theorem d_row_add_16 : decode prog_6_method_8_code 16 = .ok (.aload_n 0, 1) := by decide +kernel
theorem d_row_add_17 : decode prog_6_method_8_code 17 = .ok (.dup, 1) := by decide +kernel
theorem d_row_add_18 : decode prog_6_method_8_code 18 = .ok (.getfield 15, 3) := by decide +kernel
theorem d_row_add_21 : decode prog_6_method_8_code 21 = .ok (.iconst 1, 1) := by decide +kernel
theorem d_row_add_22 : decode prog_6_method_8_code 22 = .ok (.iadd, 1) := by decide +kernel
theorem d_row_add_23 : decode prog_6_method_8_code 23 = .ok (.putfield 15, 3) := by decide +kernel
theorem d_row_add_26 : decode prog_6_method_8_code 26 = .ok (.return_, 1) := by decide +kernel
theorem d_row_addWord_0 : decode prog_6_method_9_code 0 = .ok (.aload_n 0, 1) := by decide +kernel
theorem d_row_addWord_1 : decode prog_6_method_9_code 1 = .ok (.iconst 4, 1) := by decide +kernel
theorem d_row_addWord_2 : decode prog_6_method_9_code 2 = .ok (.invokevirtual 31, 3) := by decide +kernel
theorem d_row_addWord_5 : decode prog_6_method_9_code 5 = .ok (.aload_n 0, 1) := by decide +kernel
theorem d_row_addWord_6 : decode prog_6_method_9_code 6 = .ok (.getfield 9, 3) := by decide +kernel
theorem d_row_addWord_9 : decode prog_6_method_9_code 9 = .ok (.aload_n 0, 1) := by decide +kernel
theorem d_row_addWord_10 : decode prog_6_method_9_code 10 = .ok (.getfield 15, 3) := by decide +kernel
theorem d_row_addWord_13 : decode prog_6_method_9_code 13 = .ok (.iload_n 1, 1) := by decide +kernel
theorem d_row_addWord_14 : decode prog_6_method_9_code 14 = .ok (.bipush 24, 2) := by decide +kernel
theorem d_row_addWord_16 : decode prog_6_method_9_code 16 = .ok (.iushr, 1) := by decide +kernel
theorem d_row_addWord_17 : decode prog_6_method_9_code 17 = .ok (.i2b, 1) := by decide +kernel
theorem d_row_addWord_18 : decode prog_6_method_9_code 18 = .ok (.bastore, 1) := by decide +kernel
theorem d_row_addWord_19 : decode prog_6_method_9_code 19 = .ok (.aload_n 0, 1) := by decide +kernel
theorem d_row_addWord_20 : decode prog_6_method_9_code 20 = .ok (.getfield 9, 3) := by decide +kernel
theorem d_row_addWord_23 : decode prog_6_method_9_code 23 = .ok (.aload_n 0, 1) := by decide +kernel
theorem d_row_addWord_24 : decode prog_6_method_9_code 24 = .ok (.getfield 15, 3) := by decide +kernel
theorem d_row_addWord_27 : decode prog_6_method_9_code 27 = .ok (.iconst 1, 1) := by decide +kernel
theorem d_row_addWord_28 : decode prog_6_method_9_code 28 = .ok (.iadd, 1) := by decide +kernel
theorem d_row_addWord_29 : decode prog_6_method_9_code 29 = .ok (.iload_n 1, 1) := by decide +kernel
theorem d_row_addWord_30 : decode prog_6_method_9_code 30 = .ok (.bipush 16, 2) := by decide +kernel
theorem d_row_addWord_32 : decode prog_6_method_9_code 32 = .ok (.iushr, 1) := by decide +kernel
theorem d_row_addWord_33 : decode prog_6_method_9_code 33 = .ok (.i2b, 1) := by decide +kernel
theorem d_row_addWord_34 : decode prog_6_method_9_code 34 = .ok (.bastore, 1) := by decide +kernel
theorem d_row_addWord_35 : decode prog_6_method_9_code 35 = .ok (.aload_n 0, 1) := by decide +kernel
theorem d_row_addWord_36 : decode prog_6_method_9_code 36 = .ok (.getfield 9, 3) := by decide +kernel
theorem d_row_addWord_39 : decode prog_6_method_9_code 39 = .ok (.aload_n 0, 1) := by decide +kernel
theorem d_row_addWord_40 : decode prog_6_method_9_code 40 = .ok (.getfield 15, 3) := by decide +kernel
theorem d_row_addWord_43 : decode prog_6_method_9_code 43 = .ok (.iconst 2, 1) := by decide +kernel
theorem d_row_addWord_44 : decode prog_6_method_9_code 44 = .ok (.iadd, 1) := by decide +kernel
theorem d_row_addWord_45 : decode prog_6_method_9_code 45 = .ok (.iload_n 1, 1) := by decide +kernel
theorem d_row_addWord_46 : decode prog_6_method_9_code 46 = .ok (.bipush 8, 2) := by decide +kernel
theorem d_row_addWord_48 : decode prog_6_method_9_code 48 = .ok (.iushr, 1) := by decide +kernel
theorem d_row_addWord_49 : decode prog_6_method_9_code 49 = .ok (.i2b, 1) := by decide +kernel
theorem d_row_addWord_50 : decode prog_6_method_9_code 50 = .ok (.bastore, 1) := by decide +kernel
theorem d_row_addWord_51 : decode prog_6_method_9_code 51 = .ok (.aload_n 0, 1) := by decide +kernel
theorem d_row_addWord_52 : decode prog_6_method_9_code 52 = .ok (.getfield 9, 3) := by decide +kernel
theorem d_row_addWord_55 : decode prog_6_method_9_code 55 = .ok (.aload_n 0, 1) := by decide +kernel
theorem d_row_addWord_56 : decode prog_6_method_9_code 56 = .ok (.getfield 15, 3) := by decide +kernel
theorem d_row_addWord_59 : decode prog_6_method_9_code 59 = .ok (.iconst 3, 1) := by decide +kernel
theorem d_row_addWord_60 : decode prog_6_method_9_code 60 = .ok (.iadd, 1) := by decide +kernel
theorem d_row_addWord_61 : decode prog_6_method_9_code 61 = .ok (.iload_n 1, 1) := by decide +kernel
theorem d_row_addWord_62 : decode prog_6_method_9_code 62 = .ok (.i2b, 1) := by decide +kernel
theorem d_row_addWord_63 : decode prog_6_method_9_code 63 = .ok (.bastore, 1) := by decide +kernel
theorem d_row_addWord_64 : decode prog_6_method_9_code 64 = .ok (.aload_n 0, 1) := by decide +kernel
theorem d_row_addWord_65 : decode prog_6_method_9_code 65 = .ok (.dup, 1) := by decide +kernel
theorem d_row_addWord_66 : decode prog_6_method_9_code 66 = .ok (.getfield 15, 3) := by decide +kernel
theorem d_row_addWord_69 : decode prog_6_method_9_code 69 = .ok (.iconst 4, 1) := by decide +kernel
theorem d_row_addWord_70 : decode prog_6_method_9_code 70 = .ok (.iadd, 1) := by decide +kernel
theorem d_row_addWord_71 : decode prog_6_method_9_code 71 = .ok (.putfield 15, 3) := by decide +kernel
theorem d_row_addWord_74 : decode prog_6_method_9_code 74 = .ok (.return_, 1) := by decide +kernel
theorem d_row_addLong_0 : decode prog_6_method_10_code 0 = .ok (.aload_n 0, 1) := by decide +kernel
theorem d_row_addLong_1 : decode prog_6_method_10_code 1 = .ok (.lload_n 1, 1) := by decide +kernel
theorem d_row_addLong_2 : decode prog_6_method_10_code 2 = .ok (.bipush 32, 2) := by decide +kernel
theorem d_row_addLong_4 : decode prog_6_method_10_code 4 = .ok (.lushr, 1) := by decide +kernel
theorem d_row_addLong_5 : decode prog_6_method_10_code 5 = .ok (.l2i, 1) := by decide +kernel
theorem d_row_addLong_6 : decode prog_6_method_10_code 6 = .ok (.invokevirtual 35, 3) := by decide +kernel
theorem d_row_addLong_9 : decode prog_6_method_10_code 9 = .ok (.aload_n 0, 1) := by decide +kernel
theorem d_row_addLong_10 : decode prog_6_method_10_code 10 = .ok (.lload_n 1, 1) := by decide +kernel
theorem d_row_addLong_11 : decode prog_6_method_10_code 11 = .ok (.l2i, 1) := by decide +kernel
theorem d_row_addLong_12 : decode prog_6_method_10_code 12 = .ok (.invokevirtual 35, 3) := by decide +kernel
theorem d_row_addLong_15 : decode prog_6_method_10_code 15 = .ok (.return_, 1) := by decide +kernel
theorem d_row_addTruth_0 : decode prog_6_method_11_code 0 = .ok (.aload_n 0, 1) := by decide +kernel
theorem d_row_addTruth_1 : decode prog_6_method_11_code 1 = .ok (.iload_n 1, 1) := by decide +kernel
theorem d_row_addTruth_2 : decode prog_6_method_11_code 2 = .ok (.ifCond .eq 7, 3) := by decide +kernel
theorem d_row_addTruth_5 : decode prog_6_method_11_code 5 = .ok (.iconst 1, 1) := by decide +kernel
theorem d_row_addTruth_6 : decode prog_6_method_11_code 6 = .ok (.goto 4, 3) := by decide +kernel
theorem d_row_addTruth_9 : decode prog_6_method_11_code 9 = .ok (.iconst 0, 1) := by decide +kernel
theorem d_row_addTruth_10 : decode prog_6_method_11_code 10 = .ok (.invokevirtual 35, 3) := by decide +kernel
theorem d_row_addTruth_13 : decode prog_6_method_11_code 13 = .ok (.return_, 1) := by decide +kernel
theorem d_row_addPart_0 : decode prog_6_method_12_code 0 = .ok (.iload_n 2, 1) := by decide +kernel
theorem d_row_addPart_1 : decode prog_6_method_12_code 1 = .ok (.ifCond .lt 17, 3) := by decide +kernel
theorem d_row_addPart_4 : decode prog_6_method_12_code 4 = .ok (.iload_n 3, 1) := by decide +kernel
theorem d_row_addPart_5 : decode prog_6_method_12_code 5 = .ok (.ifCond .lt 13, 3) := by decide +kernel
theorem d_row_addPart_8 : decode prog_6_method_12_code 8 = .ok (.iload_n 3, 1) := by decide +kernel
theorem d_row_addPart_9 : decode prog_6_method_12_code 9 = .ok (.aload_n 1, 1) := by decide +kernel
theorem d_row_addPart_10 : decode prog_6_method_12_code 10 = .ok (.getfield 15, 3) := by decide +kernel
theorem d_row_addPart_13 : decode prog_6_method_12_code 13 = .ok (.iload_n 2, 1) := by decide +kernel
theorem d_row_addPart_14 : decode prog_6_method_12_code 14 = .ok (.isub, 1) := by decide +kernel
theorem d_row_addPart_15 : decode prog_6_method_12_code 15 = .ok (.if_icmp .le 4, 3) := by decide +kernel
theorem d_row_addPart_18 : decode prog_6_method_12_code 18 = .ok (.return_, 1) := by decide +kernel
theorem d_row_addPart_19 : decode prog_6_method_12_code 19 = .ok (.aload_n 0, 1) := by decide +kernel
theorem d_row_addPart_20 : decode prog_6_method_12_code 20 = .ok (.iload_n 3, 1) := by decide +kernel
theorem d_row_addPart_21 : decode prog_6_method_12_code 21 = .ok (.invokevirtual 31, 3) := by decide +kernel
theorem d_row_addPart_24 : decode prog_6_method_12_code 24 = .ok (.aload_n 1, 1) := by decide +kernel
theorem d_row_addPart_25 : decode prog_6_method_12_code 25 = .ok (.getfield 9, 3) := by decide +kernel
theorem d_row_addPart_28 : decode prog_6_method_12_code 28 = .ok (.iload_n 2, 1) := by decide +kernel
theorem d_row_addPart_29 : decode prog_6_method_12_code 29 = .ok (.aload_n 0, 1) := by decide +kernel
theorem d_row_addPart_30 : decode prog_6_method_12_code 30 = .ok (.getfield 9, 3) := by decide +kernel
theorem d_row_addPart_33 : decode prog_6_method_12_code 33 = .ok (.aload_n 0, 1) := by decide +kernel
theorem d_row_addPart_34 : decode prog_6_method_12_code 34 = .ok (.getfield 15, 3) := by decide +kernel
theorem d_row_addPart_37 : decode prog_6_method_12_code 37 = .ok (.iload_n 3, 1) := by decide +kernel
theorem d_row_addPart_38 : decode prog_6_method_12_code 38 = .ok (.invokestatic 38, 3) := by decide +kernel
theorem d_row_addPart_41 : decode prog_6_method_12_code 41 = .ok (.aload_n 0, 1) := by decide +kernel
theorem d_row_addPart_42 : decode prog_6_method_12_code 42 = .ok (.dup, 1) := by decide +kernel
theorem d_row_addPart_43 : decode prog_6_method_12_code 43 = .ok (.getfield 15, 3) := by decide +kernel
theorem d_row_addPart_46 : decode prog_6_method_12_code 46 = .ok (.iload_n 3, 1) := by decide +kernel
theorem d_row_addPart_47 : decode prog_6_method_12_code 47 = .ok (.iadd, 1) := by decide +kernel
theorem d_row_addPart_48 : decode prog_6_method_12_code 48 = .ok (.putfield 15, 3) := by decide +kernel
theorem d_row_addPart_51 : decode prog_6_method_12_code 51 = .ok (.return_, 1) := by decide +kernel
theorem d_rec_filled_0 : decode prog_1_method_30_code 0 = .ok (.iload_n 0, 1) := by decide +kernel
theorem d_rec_filled_1 : decode prog_1_method_30_code 1 = .ok (.iconst 4, 1) := by decide +kernel
theorem d_rec_filled_2 : decode prog_1_method_30_code 2 = .ok (.iadd, 1) := by decide +kernel
theorem d_rec_filled_3 : decode prog_1_method_30_code 3 = .ok (.iconst 1, 1) := by decide +kernel
theorem d_rec_filled_4 : decode prog_1_method_30_code 4 = .ok (.isub, 1) := by decide +kernel
theorem d_rec_filled_5 : decode prog_1_method_30_code 5 = .ok (.bipush (-4), 2) := by decide +kernel
theorem d_rec_filled_7 : decode prog_1_method_30_code 7 = .ok (.iand, 1) := by decide +kernel
theorem d_rec_filled_8 : decode prog_1_method_30_code 8 = .ok (.ireturn, 1) := by decide +kernel
theorem d_row_addBytes_0 : decode prog_6_method_13_code 0 = .ok (.aload_n 0, 1) := by decide +kernel
theorem d_row_addBytes_1 : decode prog_6_method_13_code 1 = .ok (.iload_n 3, 1) := by decide +kernel
theorem d_row_addBytes_2 : decode prog_6_method_13_code 2 = .ok (.invokevirtual 35, 3) := by decide +kernel
theorem d_row_addBytes_5 : decode prog_6_method_13_code 5 = .ok (.aload_n 0, 1) := by decide +kernel
theorem d_row_addBytes_6 : decode prog_6_method_13_code 6 = .ok (.aload_n 1, 1) := by decide +kernel
theorem d_row_addBytes_7 : decode prog_6_method_13_code 7 = .ok (.iload_n 2, 1) := by decide +kernel
theorem d_row_addBytes_8 : decode prog_6_method_13_code 8 = .ok (.iload_n 3, 1) := by decide +kernel
theorem d_row_addBytes_9 : decode prog_6_method_13_code 9 = .ok (.invokevirtual 44, 3) := by decide +kernel
theorem d_row_addBytes_12 : decode prog_6_method_13_code 12 = .ok (.iload_n 3, 1) := by decide +kernel
theorem d_row_addBytes_13 : decode prog_6_method_13_code 13 = .ok (.istore 4, 2) := by decide +kernel
theorem d_row_addBytes_15 : decode prog_6_method_13_code 15 = .ok (.iload 4, 2) := by decide +kernel
theorem d_row_addBytes_17 : decode prog_6_method_13_code 17 = .ok (.iload_n 3, 1) := by decide +kernel
theorem d_row_addBytes_18 : decode prog_6_method_13_code 18 = .ok (.invokestatic 48, 3) := by decide +kernel
theorem d_row_addBytes_21 : decode prog_6_method_13_code 21 = .ok (.if_icmp .ge 14, 3) := by decide +kernel
theorem d_row_addBytes_24 : decode prog_6_method_13_code 24 = .ok (.aload_n 0, 1) := by decide +kernel
theorem d_row_addBytes_25 : decode prog_6_method_13_code 25 = .ok (.iconst 0, 1) := by decide +kernel
theorem d_row_addBytes_26 : decode prog_6_method_13_code 26 = .ok (.invokevirtual 52, 3) := by decide +kernel
theorem d_row_addBytes_29 : decode prog_6_method_13_code 29 = .ok (.iinc 4 1, 3) := by decide +kernel
theorem d_row_addBytes_32 : decode prog_6_method_13_code 32 = .ok (.goto (-17), 3) := by decide +kernel
theorem d_row_addBytes_35 : decode prog_6_method_13_code 35 = .ok (.return_, 1) := by decide +kernel
theorem d_row_isPart_0 : decode prog_6_method_14_code 0 = .ok (.iload_n 3, 1) := by decide +kernel
theorem d_row_isPart_1 : decode prog_6_method_14_code 1 = .ok (.aload_n 0, 1) := by decide +kernel
theorem d_row_isPart_2 : decode prog_6_method_14_code 2 = .ok (.getfield 15, 3) := by decide +kernel
theorem d_row_isPart_5 : decode prog_6_method_14_code 5 = .ok (.if_icmp .eq 5, 3) := by decide +kernel
theorem d_row_isPart_8 : decode prog_6_method_14_code 8 = .ok (.iconst 0, 1) := by decide +kernel
theorem d_row_isPart_9 : decode prog_6_method_14_code 9 = .ok (.ireturn, 1) := by decide +kernel
theorem d_row_isPart_10 : decode prog_6_method_14_code 10 = .ok (.iconst 0, 1) := by decide +kernel
theorem d_row_isPart_11 : decode prog_6_method_14_code 11 = .ok (.istore 4, 2) := by decide +kernel
theorem d_row_isPart_13 : decode prog_6_method_14_code 13 = .ok (.iload 4, 2) := by decide +kernel
theorem d_row_isPart_15 : decode prog_6_method_14_code 15 = .ok (.iload_n 3, 1) := by decide +kernel
theorem d_row_isPart_16 : decode prog_6_method_14_code 16 = .ok (.if_icmp .ge 28, 3) := by decide +kernel
theorem d_row_isPart_19 : decode prog_6_method_14_code 19 = .ok (.aload_n 0, 1) := by decide +kernel
theorem d_row_isPart_20 : decode prog_6_method_14_code 20 = .ok (.iload 4, 2) := by decide +kernel
theorem d_row_isPart_22 : decode prog_6_method_14_code 22 = .ok (.invokevirtual 55, 3) := by decide +kernel
theorem d_row_isPart_25 : decode prog_6_method_14_code 25 = .ok (.aload_n 1, 1) := by decide +kernel
theorem d_row_isPart_26 : decode prog_6_method_14_code 26 = .ok (.iload_n 2, 1) := by decide +kernel
theorem d_row_isPart_27 : decode prog_6_method_14_code 27 = .ok (.iload 4, 2) := by decide +kernel
theorem d_row_isPart_29 : decode prog_6_method_14_code 29 = .ok (.iadd, 1) := by decide +kernel
theorem d_row_isPart_30 : decode prog_6_method_14_code 30 = .ok (.invokevirtual 55, 3) := by decide +kernel
theorem d_row_isPart_33 : decode prog_6_method_14_code 33 = .ok (.if_icmp .eq 5, 3) := by decide +kernel
theorem d_row_isPart_36 : decode prog_6_method_14_code 36 = .ok (.iconst 0, 1) := by decide +kernel
theorem d_row_isPart_37 : decode prog_6_method_14_code 37 = .ok (.ireturn, 1) := by decide +kernel
theorem d_row_isPart_38 : decode prog_6_method_14_code 38 = .ok (.iinc 4 1, 3) := by decide +kernel
theorem d_row_isPart_41 : decode prog_6_method_14_code 41 = .ok (.goto (-28), 3) := by decide +kernel
theorem d_row_isPart_44 : decode prog_6_method_14_code 44 = .ok (.iconst 1, 1) := by decide +kernel
theorem d_row_isPart_45 : decode prog_6_method_14_code 45 = .ok (.ireturn, 1) := by decide +kernel
def f_row_init (w : rc_M) (a0 : Nat) : Option (rc_M) :=
  (rc_newA w 2 0).bind fun p1 =>
  (rc_pR p1.2 (some a0) 1 0 (some p1.1)).bind fun w3 =>
  (rc_pI w3 (some a0) 1 1 0).bind fun w5 =>
  some w5

def f_row_size (w : rc_M) (a0 : Nat) : Option (Int32 × rc_M) :=
  (rc_gI w (some a0) 1 1).bind fun v1 =>
  some (v1, w)

def f_row_clear (w : rc_M) (a0 : Nat) : Option (rc_M) :=
  (rc_pI w (some a0) 1 1 0).bind fun w1 =>
  some w1

def b_row_cutTo_17 (w : rc_M) : Option (rc_M) :=
  some w

def f_row_cutTo (w : rc_M) (a0 : Nat) (x1 : Int32) : Option (rc_M) :=
  if x1 < 0 then
    b_row_cutTo_17 w 
  else
    (rc_gI w (some a0) 1 1).bind fun v2 =>
    if v2 ≤ x1 then
      b_row_cutTo_17 w 
    else
      (rc_pI w (some a0) 1 1 x1).bind fun w5 =>
      b_row_cutTo_17 w5 

def b_row_at_26 (w : rc_M) (s0 : Int32) : Option (Int32 × rc_M) :=
  some (s0, w)

def b_row_at_25 (w : rc_M) : Option (Int32 × rc_M) :=
  b_row_at_26 w 0

def f_row_at (w : rc_M) (a0 : Nat) (x1 : Int32) : Option (Int32 × rc_M) :=
  if x1 < 0 then
    b_row_at_25 w 
  else
    (rc_gI w (some a0) 1 1).bind fun v2 =>
    if v2 ≤ x1 then
      b_row_at_25 w 
    else
      (rc_gR w (some a0) 1 0).bind fun v5 =>
      (rc_aI w v5 2 x1).bind fun v7 =>
      b_row_at_26 w (v7 &&& 255)

def b_row_wordAt_14 (w : rc_M) : Option (Int32 × rc_M) :=
  some (0, w)

def f_row_wordAt (w : rc_M) (a0 : Nat) (x1 : Int32) : Option (Int32 × rc_M) :=
  if x1 < 0 then
    b_row_wordAt_14 w 
  else
    (rc_gI w (some a0) 1 1).bind fun v2 =>
    if x1 ≤ (v2 - 4) then
      (rc_gR w (some a0) 1 0).bind fun v5 =>
      (rc_aI w v5 2 x1).bind fun v7 =>
      (rc_gR w (some a0) 1 0).bind fun v9 =>
      (rc_aI w v9 2 (x1 + 1)).bind fun v11 =>
      (rc_gR w (some a0) 1 0).bind fun v13 =>
      (rc_aI w v13 2 (x1 + 2)).bind fun v15 =>
      (rc_gR w (some a0) 1 0).bind fun v17 =>
      (rc_aI w v17 2 (x1 + 3)).bind fun v19 =>
      some (((((v7 &&& 255) <<< (24 &&& 31)) ||| ((v11 &&& 255) <<< (16 &&& 31))) ||| ((v15 &&& 255) <<< (8 &&& 31))) ||| (v19 &&& 255), w)
    else
      b_row_wordAt_14 w 

def b_mat_max_10 (w : rc_M) (s0 : Int32) : Option (Int32 × rc_M) :=
  some (s0, w)

def f_mat_max (w : rc_M) (x0 : Int32) (x1 : Int32) : Option (Int32 × rc_M) :=
  if x0 < x1 then
    b_mat_max_10 w x1
  else
    b_mat_max_10 w x0

def b_mat_min_10 (w : rc_M) (s0 : Int32) : Option (Int32 × rc_M) :=
  some (s0, w)

def f_mat_min (w : rc_M) (x0 : Int32) (x1 : Int32) : Option (Int32 × rc_M) :=
  if x1 < x0 then
    b_mat_min_10 w x1
  else
    b_mat_min_10 w x0

def f_arr_copyOf (w : rc_M) (r0 : Option Nat) (x1 : Int32) : Option (Option Nat × rc_M) :=
  (rc_ln w r0 2).bind fun v1 =>
  if x1 = v1 then
    none
  else
    (rc_newA w 2 x1).bind fun p4 =>
    (rc_ln p4.2 r0 2).bind fun v6 =>
    (f_mat_min p4.2 v6 x1).bind fun p8 =>
    (rc_cp p8.2 r0 0 (some p4.1) 0 p8.1).bind fun w10 =>
    some (some p4.1, w10)

def b_row_makeRoom_45 (w : rc_M) : Option (rc_M) :=
  some w

def f_row_makeRoom (w : rc_M) (a0 : Nat) (x1 : Int32) : Option (rc_M) :=
  (rc_gI w (some a0) 1 1).bind fun v1 =>
  (rc_gR w (some a0) 1 0).bind fun v3 =>
  (rc_ln w v3 2).bind fun v5 =>
  if (v1 + x1) ≤ v5 then
    b_row_makeRoom_45 w 
  else
    (rc_gR w (some a0) 1 0).bind fun v8 =>
    (rc_ln w v8 2).bind fun v10 =>
    (f_mat_max w 16 (2 * v10)).bind fun p12 =>
    (rc_gR p12.2 (some a0) 1 0).bind fun v14 =>
    (f_mat_max p12.2 (v1 + x1) p12.1).bind fun p16 =>
    (f_arr_copyOf p16.2 v14 p16.1).bind fun p18 =>
    (rc_pR p18.2 (some a0) 1 0 p18.1).bind fun w20 =>
    b_row_makeRoom_45 w20 

def f_row_add (w : rc_M) (a0 : Nat) (x1 : Int32) : Option (rc_M) :=
  (rc_rc w (some a0) 1).bind fun a1 =>
  (f_row_makeRoom w a1 1).bind fun w3 =>
  (rc_gR w3 (some a0) 1 0).bind fun v5 =>
  (rc_gI w3 (some a0) 1 1).bind fun v7 =>
  (rc_sI w3 v5 2 v7 x1.toInt8.toInt32).bind fun w9 =>
  (rc_gI w9 (some a0) 1 1).bind fun v11 =>
  (rc_pI w9 (some a0) 1 1 (v11 + 1)).bind fun w13 =>
  some w13

def f_row_addWord (w : rc_M) (a0 : Nat) (x1 : Int32) : Option (rc_M) :=
  (rc_rc w (some a0) 1).bind fun a1 =>
  (f_row_makeRoom w a1 4).bind fun w3 =>
  (rc_gR w3 (some a0) 1 0).bind fun v5 =>
  (rc_gI w3 (some a0) 1 1).bind fun v7 =>
  (rc_sI w3 v5 2 v7 (((x1.toUInt32 >>> ((24 : Int32).toUInt32 &&& Int32.toUInt32 31)).toInt32).toInt8.toInt32)).bind fun w9 =>
  (rc_gR w9 (some a0) 1 0).bind fun v11 =>
  (rc_gI w9 (some a0) 1 1).bind fun v13 =>
  (rc_sI w9 v11 2 (v13 + 1) (((x1.toUInt32 >>> ((16 : Int32).toUInt32 &&& Int32.toUInt32 31)).toInt32).toInt8.toInt32)).bind fun w15 =>
  (rc_gR w15 (some a0) 1 0).bind fun v17 =>
  (rc_gI w15 (some a0) 1 1).bind fun v19 =>
  (rc_sI w15 v17 2 (v19 + 2) (((x1.toUInt32 >>> ((8 : Int32).toUInt32 &&& Int32.toUInt32 31)).toInt32).toInt8.toInt32)).bind fun w21 =>
  (rc_gR w21 (some a0) 1 0).bind fun v23 =>
  (rc_gI w21 (some a0) 1 1).bind fun v25 =>
  (rc_sI w21 v23 2 (v25 + 3) x1.toInt8.toInt32).bind fun w27 =>
  (rc_gI w27 (some a0) 1 1).bind fun v29 =>
  (rc_pI w27 (some a0) 1 1 (v29 + 4)).bind fun w31 =>
  some w31

def f_row_addLong (w : rc_M) (a0 : Nat) (x1 : Int64) : Option (rc_M) :=
  (rc_rc w (some a0) 1).bind fun a1 =>
  (f_row_addWord w a1 (((x1.toUInt64 >>> ((32 : Int32).toInt64.toUInt64 &&& Int64.toUInt64 63)).toInt64).toInt32)).bind fun w3 =>
  (rc_rc w3 (some a0) 1).bind fun a5 =>
  (f_row_addWord w3 a5 x1.toInt32).bind fun w7 =>
  some w7

def b_row_addTruth_10 (w : rc_M) (s0 : Option Nat) (s1 : Int32) : Option (rc_M) :=
  (rc_rc w s0 1).bind fun a1 =>
  (f_row_addWord w a1 s1).bind fun w3 =>
  some w3

def f_row_addTruth (w : rc_M) (a0 : Nat) (x1 : Int32) : Option (rc_M) :=
  if x1 = 0 then
    b_row_addTruth_10 w (some a0) 0
  else
    b_row_addTruth_10 w (some a0) 1

def b_row_addPart_18 (w : rc_M) : Option (rc_M) :=
  some w

def f_row_addPart (w : rc_M) (a0 : Nat) (r1 : Option Nat) (x2 : Int32) (x3 : Int32) : Option (rc_M) :=
  if x2 < 0 then
    b_row_addPart_18 w 
  else
    if x3 < 0 then
      b_row_addPart_18 w 
    else
      (rc_gI w r1 1 1).bind fun v3 =>
      if x3 ≤ (v3 - x2) then
        (rc_rc w (some a0) 1).bind fun a6 =>
        (f_row_makeRoom w a6 x3).bind fun w8 =>
        (rc_gR w8 r1 1 0).bind fun v10 =>
        (rc_gR w8 (some a0) 1 0).bind fun v12 =>
        (rc_gI w8 (some a0) 1 1).bind fun v14 =>
        (rc_cp w8 v10 x2 v12 v14 x3).bind fun w16 =>
        (rc_gI w16 (some a0) 1 1).bind fun v18 =>
        (rc_pI w16 (some a0) 1 1 (v18 + x3)).bind fun w20 =>
        some w20
      else
        b_row_addPart_18 w 

def f_rec_filled (w : rc_M) (x0 : Int32) : Option (Int32 × rc_M) :=
  some (((x0 + 4) - 1) &&& ((-4)), w)

def b_row_addBytes_15 : Nat → rc_M → Nat → Int32 → Int32 → Option (rc_M)
  | 0, _, _, _, _ => none
  | fuel + 1, w, a0, x3, x4 =>
    (f_rec_filled w x3).bind fun p1 =>
    if p1.1 ≤ x4 then
      some p1.2
    else
      (rc_rc p1.2 (some a0) 1).bind fun a4 =>
      (f_row_add p1.2 a4 0).bind fun w6 =>
      b_row_addBytes_15 fuel w6 a0 x3 (x4 + 1)

def f_row_addBytes (w : rc_M) (a0 : Nat) (r1 : Option Nat) (x2 : Int32) (x3 : Int32) : Option (rc_M) :=
  (rc_rc w (some a0) 1).bind fun a1 =>
  (f_row_addWord w a1 x3).bind fun w3 =>
  (rc_rc w3 (some a0) 1).bind fun a5 =>
  (f_row_addPart w3 a5 r1 x2 x3).bind fun w7 =>
  b_row_addBytes_15 5000 w7 a0 x3 x3

def b_row_isPart_13 : Nat → rc_M → Nat → Option Nat → Int32 → Int32 → Int32 → Option (Int32 × rc_M)
  | 0, _, _, _, _, _, _ => none
  | fuel + 1, w, a0, r1, x2, x3, x4 =>
    if x3 ≤ x4 then
      rc_z1 1 w
    else
      (rc_rc w (some a0) 1).bind fun a2 =>
      (f_row_at w a2 x4).bind fun p4 =>
      (rc_rc p4.2 r1 1).bind fun a6 =>
      (f_row_at p4.2 a6 (x2 + x4)).bind fun p8 =>
      if p4.1 = p8.1 then
        b_row_isPart_13 fuel p8.2 a0 r1 x2 x3 (x4 + 1)
      else
        rc_z1 0 p8.2

def f_row_isPart (w : rc_M) (a0 : Nat) (r1 : Option Nat) (x2 : Int32) (x3 : Int32) : Option (Int32 × rc_M) :=
  (rc_gI w (some a0) 1 1).bind fun v1 =>
  if x3 = v1 then
    b_row_isPart_13 5000 w a0 r1 x2 x3 0
  else
    rc_z1 0 w

set_option maxRecDepth 100000 in
set_option maxHeartbeats 4000000 in
theorem ct_row_init {l : Launch} {G : rc_G} {w : rc_M} {a0 : Nat} {res : rc_M} (h : f_row_init w a0 = some res) : rc_Ct l G y_row_init prog_6_method_1_code 1 none 1 20 [va_rf (some a0)] w none res := by
  refine rc_enter (by decide +kernel) (by simp [lg_sl, va_rf_cat, rc_cat_i, rc_cat_l]) ?_
  intro X _ _ hN hF hL C E
  have hlv : lv_args 0 [va_rf (some a0)] = [(0, va_rf (some a0))] := by simp [lv_args, va_rf_cat, rc_cat_i, rc_cat_l]
  rw [hlv]
  clear hlv
  unfold f_row_init at h
  refine j_aload_n C d_row_init_0 rfl 0 rfl ?_
  refine j_oinit C rfl T_31 T_24 T_25 (rc_le hF (by decide)) (rc_le hL (by simp [va_rf_cat, rc_cat_i, rc_cat_l])) d_row_init_1 rfl ?_
  refine j_aload_n C d_row_init_4 rfl 0 rfl ?_
  refine j_iconst (v := 0) C d_row_init_5 rfl (by decide) ?_
  obtain ⟨p1, h2, h⟩ := Option.bind_eq_some_iff.mp h
  refine j_newA C (kd := 2) (ty := .byte) rfl rfl (fun _ _ h => h) (fun _ _ => rfl) (by decide) T_39 h2 d_row_init_6 rfl ?_
  obtain ⟨w3, h4, h⟩ := Option.bind_eq_some_iff.mp h
  refine j_putV C (ci := 1) (k := 0) (by decide) (by decide) T_32 (Or.inl rfl) rfl (by first | rfl | exact rc_fo _ _ | exact rc_fa _ _) h4 d_row_init_8 rfl ?_
  refine j_aload_n C d_row_init_11 rfl 0 rfl ?_
  refine j_iconst (v := 0) C d_row_init_12 rfl (by decide) ?_
  obtain ⟨w5, h6, h⟩ := Option.bind_eq_some_iff.mp h
  refine j_putV C (ci := 1) (k := 1) (by decide) (by decide) T_33 (Or.inl rfl) rfl rfl h6 d_row_init_13 rfl ?_
  cases h
  exact j_vret C E d_row_init_16

set_option maxRecDepth 100000 in
set_option maxHeartbeats 4000000 in
theorem ct_row_size {l : Launch} {G : rc_G} {w : rc_M} {a0 : Nat} {res : Int32 × rc_M} (h : f_row_size w a0 = some res) : rc_Ct l G y_row_size prog_6_method_2_code 1 (some .int) 0 0 [va_rf (some a0)] w (some (.int res.1)) res.2 := by
  refine rc_enter (by decide +kernel) (by simp [lg_sl, va_rf_cat, rc_cat_i, rc_cat_l]) ?_
  intro X _ _ hN hF hL C E
  have hlv : lv_args 0 [va_rf (some a0)] = [(0, va_rf (some a0))] := by simp [lv_args, va_rf_cat, rc_cat_i, rc_cat_l]
  rw [hlv]
  clear hlv
  unfold f_row_size at h
  refine j_aload_n C d_row_size_0 rfl 0 rfl ?_
  obtain ⟨v1, h2, h⟩ := Option.bind_eq_some_iff.mp h
  refine j_getI C fl_row_15 h2 d_row_size_1 rfl ?_
  cases h
  exact j_iret C E d_row_size_4

set_option maxRecDepth 100000 in
set_option maxHeartbeats 4000000 in
theorem ct_row_clear {l : Launch} {G : rc_G} {w : rc_M} {a0 : Nat} {res : rc_M} (h : f_row_clear w a0 = some res) : rc_Ct l G y_row_clear prog_6_method_3_code 1 none 0 0 [va_rf (some a0)] w none res := by
  refine rc_enter (by decide +kernel) (by simp [lg_sl, va_rf_cat, rc_cat_i, rc_cat_l]) ?_
  intro X _ _ hN hF hL C E
  have hlv : lv_args 0 [va_rf (some a0)] = [(0, va_rf (some a0))] := by simp [lv_args, va_rf_cat, rc_cat_i, rc_cat_l]
  rw [hlv]
  clear hlv
  unfold f_row_clear at h
  refine j_aload_n C d_row_clear_0 rfl 0 rfl ?_
  refine j_iconst (v := 0) C d_row_clear_1 rfl (by decide) ?_
  obtain ⟨w1, h2, h⟩ := Option.bind_eq_some_iff.mp h
  refine j_putV C (ci := 1) (k := 1) (by decide) (by decide) T_33 (Or.inl rfl) rfl rfl h2 d_row_clear_2 rfl ?_
  cases h
  exact j_vret C E d_row_clear_5

set_option maxRecDepth 100000 in
set_option maxHeartbeats 4000000 in
theorem k_row_cutTo_17 {X : rc_X} {w0 : rc_M} (hF : (q_R X).frames = 0) (hL : (q_R X).locals = 0) (hN : q_n X = 2) (C : rc_C X "RecordCalls$Row" prog_6_method_4_code w0) {res : rc_M} (E : rc_E0 X y_row_cutTo none none res) {w : rc_M}  (h : b_row_cutTo_17 w  = some res) : rc_J X w 17 [] [] := by
  unfold b_row_cutTo_17 at h
  cases h
  exact j_vret C E d_row_cutTo_17

set_option maxRecDepth 100000 in
set_option maxHeartbeats 4000000 in
theorem ct_row_cutTo {l : Launch} {G : rc_G} {w : rc_M} {a0 : Nat} {x1 : Int32} {res : rc_M} (h : f_row_cutTo w a0 x1 = some res) : rc_Ct l G y_row_cutTo prog_6_method_4_code 2 none 0 0 [va_rf (some a0), .int x1] w none res := by
  refine rc_enter (by decide +kernel) (by simp [lg_sl, va_rf_cat, rc_cat_i, rc_cat_l]) ?_
  intro X _ _ hN hF hL C E
  have hlv : lv_args 0 [va_rf (some a0), .int x1] = [(0, va_rf (some a0)), (1, .int x1)] := by simp [lv_args, va_rf_cat, rc_cat_i, rc_cat_l]
  rw [hlv]
  clear hlv
  unfold f_row_cutTo at h
  refine j_iload_n C d_row_cutTo_0 rfl 1 rfl ?_
  refine j_if_lt (tgt := 17) C d_row_cutTo_1 (by decide) rfl (fun c1 => ?_) (fun c1 => ?_)
  · rw [if_pos c1] at h
    refine rc_J.sub (lv' := []) [] rfl ?_
    exact k_row_cutTo_17 hF hL hN C E h
  · rw [if_neg c1] at h
    refine j_iload_n C d_row_cutTo_4 rfl 1 rfl ?_
    refine j_aload_n C d_row_cutTo_5 rfl 0 rfl ?_
    obtain ⟨v2, h3, h⟩ := Option.bind_eq_some_iff.mp h
    refine j_getI C fl_row_15 h3 d_row_cutTo_6 rfl ?_
    refine j_icmp_ge (tgt := 17) C d_row_cutTo_9 (by decide) rfl (fun c4 => ?_) (fun c4 => ?_)
    · rw [if_pos c4] at h
      refine rc_J.sub (lv' := []) [] rfl ?_
      exact k_row_cutTo_17 hF hL hN C E h
    · rw [if_neg c4] at h
      refine j_aload_n C d_row_cutTo_12 rfl 0 rfl ?_
      refine j_iload_n C d_row_cutTo_13 rfl 1 rfl ?_
      obtain ⟨w5, h6, h⟩ := Option.bind_eq_some_iff.mp h
      refine j_putV C (ci := 1) (k := 1) (by decide) (by decide) T_33 (Or.inl rfl) rfl rfl h6 d_row_cutTo_14 rfl ?_
      refine rc_J.sub (lv' := []) [] rfl ?_
      exact k_row_cutTo_17 hF hL hN C E h

set_option maxRecDepth 100000 in
set_option maxHeartbeats 4000000 in
theorem k_row_at_26 {X : rc_X} {w0 : rc_M} (hF : (q_R X).frames = 0) (hL : (q_R X).locals = 0) (hN : q_n X = 2) (C : rc_C X "RecordCalls$Row" prog_6_method_5_code w0) {res : Int32 × rc_M} (E : rc_E0 X y_row_at (some .int) (some (.int res.1)) res.2) {w : rc_M} {s0 : Int32} (h : b_row_at_26 w s0 = some res) : rc_J X w 26 [.int s0] [] := by
  unfold b_row_at_26 at h
  cases h
  exact j_iret C E d_row_at_26

set_option maxRecDepth 100000 in
set_option maxHeartbeats 4000000 in
theorem k_row_at_25 {X : rc_X} {w0 : rc_M} (hF : (q_R X).frames = 0) (hL : (q_R X).locals = 0) (hN : q_n X = 2) (C : rc_C X "RecordCalls$Row" prog_6_method_5_code w0) {res : Int32 × rc_M} (E : rc_E0 X y_row_at (some .int) (some (.int res.1)) res.2) {w : rc_M}  (h : b_row_at_25 w  = some res) : rc_J X w 25 [] [] := by
  unfold b_row_at_25 at h
  refine j_iconst (v := 0) C d_row_at_25 rfl (by decide) ?_
  exact k_row_at_26 hF hL hN C E h

set_option maxRecDepth 100000 in
set_option maxHeartbeats 4000000 in
theorem ct_row_at {l : Launch} {G : rc_G} {w : rc_M} {a0 : Nat} {x1 : Int32} {res : Int32 × rc_M} (h : f_row_at w a0 x1 = some res) : rc_Ct l G y_row_at prog_6_method_5_code 2 (some .int) 0 0 [va_rf (some a0), .int x1] w (some (.int res.1)) res.2 := by
  refine rc_enter (by decide +kernel) (by simp [lg_sl, va_rf_cat, rc_cat_i, rc_cat_l]) ?_
  intro X _ _ hN hF hL C E
  have hlv : lv_args 0 [va_rf (some a0), .int x1] = [(0, va_rf (some a0)), (1, .int x1)] := by simp [lv_args, va_rf_cat, rc_cat_i, rc_cat_l]
  rw [hlv]
  clear hlv
  unfold f_row_at at h
  refine j_iload_n C d_row_at_0 rfl 1 rfl ?_
  refine j_if_lt (tgt := 25) C d_row_at_1 (by decide) rfl (fun c1 => ?_) (fun c1 => ?_)
  · rw [if_pos c1] at h
    refine rc_J.sub (lv' := []) [] rfl ?_
    exact k_row_at_25 hF hL hN C E h
  · rw [if_neg c1] at h
    refine j_iload_n C d_row_at_4 rfl 1 rfl ?_
    refine j_aload_n C d_row_at_5 rfl 0 rfl ?_
    obtain ⟨v2, h3, h⟩ := Option.bind_eq_some_iff.mp h
    refine j_getI C fl_row_15 h3 d_row_at_6 rfl ?_
    refine j_icmp_ge (tgt := 25) C d_row_at_9 (by decide) rfl (fun c4 => ?_) (fun c4 => ?_)
    · rw [if_pos c4] at h
      refine rc_J.sub (lv' := []) [] rfl ?_
      exact k_row_at_25 hF hL hN C E h
    · rw [if_neg c4] at h
      refine j_aload_n C d_row_at_12 rfl 0 rfl ?_
      obtain ⟨v5, h6, h⟩ := Option.bind_eq_some_iff.mp h
      refine j_getR C fl_row_9 h6 d_row_at_13 rfl ?_
      refine j_iload_n C d_row_at_16 rfl 1 rfl ?_
      obtain ⟨v7, h8, h⟩ := Option.bind_eq_some_iff.mp h
      refine j_bald C h8 d_row_at_17 rfl ?_
      refine j_sipush (v := 255) C d_row_at_18 rfl (by decide) ?_
      refine j_iand C d_row_at_21 rfl ?_
      refine j_goto (tgt := 26) C d_row_at_22 (by decide) ?_
      refine rc_J.sub (lv' := []) [] rfl ?_
      exact k_row_at_26 hF hL hN C E h

set_option maxRecDepth 100000 in
set_option maxHeartbeats 4000000 in
theorem k_row_wordAt_14 {X : rc_X} {w0 : rc_M} (hF : (q_R X).frames = 0) (hL : (q_R X).locals = 0) (hN : q_n X = 2) (C : rc_C X "RecordCalls$Row" prog_6_method_6_code w0) {res : Int32 × rc_M} (E : rc_E0 X y_row_wordAt (some .int) (some (.int res.1)) res.2) {w : rc_M}  (h : b_row_wordAt_14 w  = some res) : rc_J X w 14 [] [] := by
  unfold b_row_wordAt_14 at h
  refine j_iconst (v := 0) C d_row_wordAt_14 rfl (by decide) ?_
  cases h
  exact j_iret C E d_row_wordAt_15

set_option maxRecDepth 100000 in
set_option maxHeartbeats 4000000 in
theorem ct_row_wordAt {l : Launch} {G : rc_G} {w : rc_M} {a0 : Nat} {x1 : Int32} {res : Int32 × rc_M} (h : f_row_wordAt w a0 x1 = some res) : rc_Ct l G y_row_wordAt prog_6_method_6_code 2 (some .int) 0 0 [va_rf (some a0), .int x1] w (some (.int res.1)) res.2 := by
  refine rc_enter (by decide +kernel) (by simp [lg_sl, va_rf_cat, rc_cat_i, rc_cat_l]) ?_
  intro X _ _ hN hF hL C E
  have hlv : lv_args 0 [va_rf (some a0), .int x1] = [(0, va_rf (some a0)), (1, .int x1)] := by simp [lv_args, va_rf_cat, rc_cat_i, rc_cat_l]
  rw [hlv]
  clear hlv
  unfold f_row_wordAt at h
  refine j_iload_n C d_row_wordAt_0 rfl 1 rfl ?_
  refine j_if_lt (tgt := 14) C d_row_wordAt_1 (by decide) rfl (fun c1 => ?_) (fun c1 => ?_)
  · rw [if_pos c1] at h
    refine rc_J.sub (lv' := []) [] rfl ?_
    exact k_row_wordAt_14 hF hL hN C E h
  · rw [if_neg c1] at h
    refine j_iload_n C d_row_wordAt_4 rfl 1 rfl ?_
    refine j_aload_n C d_row_wordAt_5 rfl 0 rfl ?_
    obtain ⟨v2, h3, h⟩ := Option.bind_eq_some_iff.mp h
    refine j_getI C fl_row_15 h3 d_row_wordAt_6 rfl ?_
    refine j_iconst (v := 4) C d_row_wordAt_9 rfl (by decide) ?_
    refine j_isub C d_row_wordAt_10 rfl ?_
    refine j_icmp_le (tgt := 16) C d_row_wordAt_11 (by decide) rfl (fun c4 => ?_) (fun c4 => ?_)
    · rw [if_pos c4] at h
      refine j_aload_n C d_row_wordAt_16 rfl 0 rfl ?_
      obtain ⟨v5, h6, h⟩ := Option.bind_eq_some_iff.mp h
      refine j_getR C fl_row_9 h6 d_row_wordAt_17 rfl ?_
      refine j_iload_n C d_row_wordAt_20 rfl 1 rfl ?_
      obtain ⟨v7, h8, h⟩ := Option.bind_eq_some_iff.mp h
      refine j_bald C h8 d_row_wordAt_21 rfl ?_
      refine j_sipush (v := 255) C d_row_wordAt_22 rfl (by decide) ?_
      refine j_iand C d_row_wordAt_25 rfl ?_
      refine j_bipush (v := 24) C d_row_wordAt_26 rfl (by decide) ?_
      refine j_ishl C d_row_wordAt_28 rfl ?_
      refine j_aload_n C d_row_wordAt_29 rfl 0 rfl ?_
      obtain ⟨v9, h10, h⟩ := Option.bind_eq_some_iff.mp h
      refine j_getR C fl_row_9 h10 d_row_wordAt_30 rfl ?_
      refine j_iload_n C d_row_wordAt_33 rfl 1 rfl ?_
      refine j_iconst (v := 1) C d_row_wordAt_34 rfl (by decide) ?_
      refine j_iadd C d_row_wordAt_35 rfl ?_
      obtain ⟨v11, h12, h⟩ := Option.bind_eq_some_iff.mp h
      refine j_bald C h12 d_row_wordAt_36 rfl ?_
      refine j_sipush (v := 255) C d_row_wordAt_37 rfl (by decide) ?_
      refine j_iand C d_row_wordAt_40 rfl ?_
      refine j_bipush (v := 16) C d_row_wordAt_41 rfl (by decide) ?_
      refine j_ishl C d_row_wordAt_43 rfl ?_
      refine j_ior C d_row_wordAt_44 rfl ?_
      refine j_aload_n C d_row_wordAt_45 rfl 0 rfl ?_
      obtain ⟨v13, h14, h⟩ := Option.bind_eq_some_iff.mp h
      refine j_getR C fl_row_9 h14 d_row_wordAt_46 rfl ?_
      refine j_iload_n C d_row_wordAt_49 rfl 1 rfl ?_
      refine j_iconst (v := 2) C d_row_wordAt_50 rfl (by decide) ?_
      refine j_iadd C d_row_wordAt_51 rfl ?_
      obtain ⟨v15, h16, h⟩ := Option.bind_eq_some_iff.mp h
      refine j_bald C h16 d_row_wordAt_52 rfl ?_
      refine j_sipush (v := 255) C d_row_wordAt_53 rfl (by decide) ?_
      refine j_iand C d_row_wordAt_56 rfl ?_
      refine j_bipush (v := 8) C d_row_wordAt_57 rfl (by decide) ?_
      refine j_ishl C d_row_wordAt_59 rfl ?_
      refine j_ior C d_row_wordAt_60 rfl ?_
      refine j_aload_n C d_row_wordAt_61 rfl 0 rfl ?_
      obtain ⟨v17, h18, h⟩ := Option.bind_eq_some_iff.mp h
      refine j_getR C fl_row_9 h18 d_row_wordAt_62 rfl ?_
      refine j_iload_n C d_row_wordAt_65 rfl 1 rfl ?_
      refine j_iconst (v := 3) C d_row_wordAt_66 rfl (by decide) ?_
      refine j_iadd C d_row_wordAt_67 rfl ?_
      obtain ⟨v19, h20, h⟩ := Option.bind_eq_some_iff.mp h
      refine j_bald C h20 d_row_wordAt_68 rfl ?_
      refine j_sipush (v := 255) C d_row_wordAt_69 rfl (by decide) ?_
      refine j_iand C d_row_wordAt_72 rfl ?_
      refine j_ior C d_row_wordAt_73 rfl ?_
      cases h
      exact j_iret C E d_row_wordAt_74
    · rw [if_neg c4] at h
      refine rc_J.sub (lv' := []) [] rfl ?_
      exact k_row_wordAt_14 hF hL hN C E h

set_option maxRecDepth 100000 in
set_option maxHeartbeats 4000000 in
theorem k_mat_max_10 {X : rc_X} {w0 : rc_M} (hF : (q_R X).frames = 0) (hL : (q_R X).locals = 0) (hN : q_n X = 2) (C : rc_C X "java/lang/Math" prog_14_method_65_code w0) {res : Int32 × rc_M} (E : rc_E0 X y_mat_max (some .int) (some (.int res.1)) res.2) {w : rc_M} {s0 : Int32} (h : b_mat_max_10 w s0 = some res) : rc_J X w 10 [.int s0] [] := by
  unfold b_mat_max_10 at h
  cases h
  exact j_iret C E d_mat_max_10

set_option maxRecDepth 100000 in
set_option maxHeartbeats 4000000 in
theorem ct_mat_max {l : Launch} {G : rc_G} {w : rc_M} {x0 : Int32} {x1 : Int32} {res : Int32 × rc_M} (h : f_mat_max w x0 x1 = some res) : rc_Ct l G y_mat_max prog_14_method_65_code 2 (some .int) 0 0 [.int x0, .int x1] w (some (.int res.1)) res.2 := by
  refine rc_enter (by decide +kernel) (by simp [lg_sl, va_rf_cat, rc_cat_i, rc_cat_l]) ?_
  intro X _ _ hN hF hL C E
  have hlv : lv_args 0 [.int x0, .int x1] = [(0, .int x0), (1, .int x1)] := by simp [lv_args, va_rf_cat, rc_cat_i, rc_cat_l]
  rw [hlv]
  clear hlv
  unfold f_mat_max at h
  refine j_iload_n C d_mat_max_0 rfl 0 rfl ?_
  refine j_iload_n C d_mat_max_1 rfl 1 rfl ?_
  refine j_icmp_lt (tgt := 9) C d_mat_max_2 (by decide) rfl (fun c1 => ?_) (fun c1 => ?_)
  · rw [if_pos c1] at h
    refine j_iload_n C d_mat_max_9 rfl 1 rfl ?_
    refine rc_J.sub (lv' := []) [] rfl ?_
    exact k_mat_max_10 hF hL hN C E h
  · rw [if_neg c1] at h
    refine j_iload_n C d_mat_max_5 rfl 0 rfl ?_
    refine j_goto (tgt := 10) C d_mat_max_6 (by decide) ?_
    refine rc_J.sub (lv' := []) [] rfl ?_
    exact k_mat_max_10 hF hL hN C E h

set_option maxRecDepth 100000 in
set_option maxHeartbeats 4000000 in
theorem k_mat_min_10 {X : rc_X} {w0 : rc_M} (hF : (q_R X).frames = 0) (hL : (q_R X).locals = 0) (hN : q_n X = 2) (C : rc_C X "java/lang/Math" prog_14_method_69_code w0) {res : Int32 × rc_M} (E : rc_E0 X y_mat_min (some .int) (some (.int res.1)) res.2) {w : rc_M} {s0 : Int32} (h : b_mat_min_10 w s0 = some res) : rc_J X w 10 [.int s0] [] := by
  unfold b_mat_min_10 at h
  cases h
  exact j_iret C E d_mat_min_10

set_option maxRecDepth 100000 in
set_option maxHeartbeats 4000000 in
theorem ct_mat_min {l : Launch} {G : rc_G} {w : rc_M} {x0 : Int32} {x1 : Int32} {res : Int32 × rc_M} (h : f_mat_min w x0 x1 = some res) : rc_Ct l G y_mat_min prog_14_method_69_code 2 (some .int) 0 0 [.int x0, .int x1] w (some (.int res.1)) res.2 := by
  refine rc_enter (by decide +kernel) (by simp [lg_sl, va_rf_cat, rc_cat_i, rc_cat_l]) ?_
  intro X _ _ hN hF hL C E
  have hlv : lv_args 0 [.int x0, .int x1] = [(0, .int x0), (1, .int x1)] := by simp [lv_args, va_rf_cat, rc_cat_i, rc_cat_l]
  rw [hlv]
  clear hlv
  unfold f_mat_min at h
  refine j_iload_n C d_mat_min_0 rfl 0 rfl ?_
  refine j_iload_n C d_mat_min_1 rfl 1 rfl ?_
  refine j_icmp_gt (tgt := 9) C d_mat_min_2 (by decide) rfl (fun c1 => ?_) (fun c1 => ?_)
  · rw [if_pos c1] at h
    refine j_iload_n C d_mat_min_9 rfl 1 rfl ?_
    refine rc_J.sub (lv' := []) [] rfl ?_
    exact k_mat_min_10 hF hL hN C E h
  · rw [if_neg c1] at h
    refine j_iload_n C d_mat_min_5 rfl 0 rfl ?_
    refine j_goto (tgt := 10) C d_mat_min_6 (by decide) ?_
    refine rc_J.sub (lv' := []) [] rfl ?_
    exact k_mat_min_10 hF hL hN C E h

set_option maxRecDepth 100000 in
set_option maxHeartbeats 4000000 in
theorem ct_arr_copyOf {l : Launch} {G : rc_G} {w : rc_M} {r0 : Option Nat} {x1 : Int32} {res : Option Nat × rc_M} (h : f_arr_copyOf w r0 x1 = some res) : rc_Ct l G y_arr_copyOf prog_19_method_121_code 3 (some (.array (.byte))) 1 26 [va_rf r0, .int x1] w (some (va_rf res.1)) res.2 := by
  refine rc_enter (by decide +kernel) (by simp [lg_sl, va_rf_cat, rc_cat_i, rc_cat_l]) ?_
  intro X _ _ hN hF hL C E
  have hlv : lv_args 0 [va_rf r0, .int x1] = [(0, va_rf r0), (1, .int x1)] := by simp [lv_args, va_rf_cat, rc_cat_i, rc_cat_l]
  rw [hlv]
  clear hlv
  unfold f_arr_copyOf at h
  refine j_iload_n C d_arr_copyOf_0 rfl 1 rfl ?_
  refine j_aload_n C d_arr_copyOf_1 rfl 0 rfl ?_
  obtain ⟨v1, h2, h⟩ := Option.bind_eq_some_iff.mp h
  refine j_alen C (kd := 2) rfl h2 d_arr_copyOf_2 rfl ?_
  refine j_icmp_ne (tgt := 14) C d_arr_copyOf_3 (by decide) rfl (fun c3 => ?_) (fun c3 => ?_)
  · rw [if_neg c3] at h
    refine j_iload_n C d_arr_copyOf_14 rfl 1 rfl ?_
    obtain ⟨p4, h5, h⟩ := Option.bind_eq_some_iff.mp h
    refine j_newA C (kd := 2) (ty := .byte) rfl rfl (fun _ _ h => h) (fun _ _ => rfl) (by decide) T_39 h5 d_arr_copyOf_15 rfl ?_
    refine j_astore_n C (i := 2) d_arr_copyOf_17 rfl rfl [(2, va_rf (some p4.1)), (0, va_rf r0), (1, .int x1)] (rc_lt hN (by decide)) (by first | rfl | simp [va_rf_cat, rc_cat_i, rc_cat_l]) ?_
    refine j_aload_n C d_arr_copyOf_18 rfl 1 rfl ?_
    refine j_iconst (v := 0) C d_arr_copyOf_19 rfl (by decide) ?_
    refine j_aload_n C d_arr_copyOf_20 rfl 0 rfl ?_
    refine j_iconst (v := 0) C d_arr_copyOf_21 rfl (by decide) ?_
    refine j_aload_n C d_arr_copyOf_22 rfl 1 rfl ?_
    obtain ⟨v6, h7, h⟩ := Option.bind_eq_some_iff.mp h
    refine j_alen C (kd := 2) rfl h7 d_arr_copyOf_23 rfl ?_
    refine j_iload_n C d_arr_copyOf_24 rfl 2 rfl ?_
    obtain ⟨p8, h9, h⟩ := Option.bind_eq_some_iff.mp h
    refine j_callS C (As := [.int v6, .int x1]) (st := [.int 0, va_rf (some p4.1), .int 0, va_rf r0]) (sk' := [.int p8.1, .int 0, va_rf (some p4.1), .int 0, va_rf r0]) mk_mat_min (Or.inl T_245) T_246 (rc_le hF (by decide)) (rc_le hL (by decide)) (ct_mat_min h9) rfl rfl (by simp [va_rf_cat, rc_cat_i, rc_cat_l]) d_arr_copyOf_25 rfl rfl ?_
    obtain ⟨w10, h11, h⟩ := Option.bind_eq_some_iff.mp h
    refine j_copy C T_248 T_250 T_249 T_15 (rc_le hF (by decide)) (rc_le hL (by simp [va_rf_cat, rc_cat_i, rc_cat_l, nativeFrameWords])) h11 d_arr_copyOf_28 rfl ?_
    refine j_aload_n C d_arr_copyOf_31 rfl 0 rfl ?_
    cases h
    exact j_aret C (by first | exact Or.inl ⟨_, rfl⟩ | exact Or.inr ⟨_, rfl⟩) E d_arr_copyOf_32
  · rw [if_pos c3] at h
    cases h

set_option maxRecDepth 100000 in
set_option maxHeartbeats 4000000 in
theorem k_row_makeRoom_45 {X : rc_X} {w0 : rc_M} (hF : (q_R X).frames = 2) (hL : (q_R X).locals = 48) (hN : q_n X = 4) (C : rc_C X "RecordCalls$Row" prog_6_method_7_code w0) {res : rc_M} (E : rc_E0 X y_row_makeRoom none none res) {w : rc_M}  (h : b_row_makeRoom_45 w  = some res) : rc_J X w 45 [] [] := by
  unfold b_row_makeRoom_45 at h
  cases h
  exact j_vret C E d_row_makeRoom_45

set_option maxRecDepth 100000 in
set_option maxHeartbeats 4000000 in
theorem ct_row_makeRoom {l : Launch} {G : rc_G} {w : rc_M} {a0 : Nat} {x1 : Int32} {res : rc_M} (h : f_row_makeRoom w a0 x1 = some res) : rc_Ct l G y_row_makeRoom prog_6_method_7_code 4 none 2 48 [va_rf (some a0), .int x1] w none res := by
  refine rc_enter (by decide +kernel) (by simp [lg_sl, va_rf_cat, rc_cat_i, rc_cat_l]) ?_
  intro X _ _ hN hF hL C E
  have hlv : lv_args 0 [va_rf (some a0), .int x1] = [(0, va_rf (some a0)), (1, .int x1)] := by simp [lv_args, va_rf_cat, rc_cat_i, rc_cat_l]
  rw [hlv]
  clear hlv
  unfold f_row_makeRoom at h
  refine j_aload_n C d_row_makeRoom_0 rfl 0 rfl ?_
  obtain ⟨v1, h2, h⟩ := Option.bind_eq_some_iff.mp h
  refine j_getI C fl_row_15 h2 d_row_makeRoom_1 rfl ?_
  refine j_iload_n C d_row_makeRoom_4 rfl 1 rfl ?_
  refine j_iadd C d_row_makeRoom_5 rfl ?_
  refine j_istore_n C (i := 2) d_row_makeRoom_6 rfl rfl [(2, .int (v1 + x1)), (0, va_rf (some a0)), (1, .int x1)] (rc_lt hN (by decide)) (by first | rfl | simp [va_rf_cat, rc_cat_i, rc_cat_l]) ?_
  refine j_iload_n C d_row_makeRoom_7 rfl 0 rfl ?_
  refine j_aload_n C d_row_makeRoom_8 rfl 1 rfl ?_
  obtain ⟨v3, h4, h⟩ := Option.bind_eq_some_iff.mp h
  refine j_getR C fl_row_9 h4 d_row_makeRoom_9 rfl ?_
  obtain ⟨v5, h6, h⟩ := Option.bind_eq_some_iff.mp h
  refine j_alen C (kd := 2) rfl h6 d_row_makeRoom_12 rfl ?_
  refine j_icmp_le (tgt := 45) C d_row_makeRoom_13 (by decide) rfl (fun c7 => ?_) (fun c7 => ?_)
  · rw [if_pos c7] at h
    refine rc_J.sub (lv' := []) [] rfl ?_
    exact k_row_makeRoom_45 hF hL hN C E h
  · rw [if_neg c7] at h
    refine j_bipush (v := 16) C d_row_makeRoom_16 rfl (by decide) ?_
    refine j_iconst (v := 2) C d_row_makeRoom_18 rfl (by decide) ?_
    refine j_aload_n C d_row_makeRoom_19 rfl 1 rfl ?_
    obtain ⟨v8, h9, h⟩ := Option.bind_eq_some_iff.mp h
    refine j_getR C fl_row_9 h9 d_row_makeRoom_20 rfl ?_
    obtain ⟨v10, h11, h⟩ := Option.bind_eq_some_iff.mp h
    refine j_alen C (kd := 2) rfl h11 d_row_makeRoom_23 rfl ?_
    refine j_imul C d_row_makeRoom_24 rfl ?_
    obtain ⟨p12, h13, h⟩ := Option.bind_eq_some_iff.mp h
    refine j_callS C (As := [.int 16, .int (2 * v10)]) (st := []) (sk' := [.int p12.1]) mk_mat_max (Or.inl T_232) T_233 (rc_le hF (by decide)) (rc_le hL (by decide)) (ct_mat_max h13) rfl rfl (by decide) d_row_makeRoom_25 rfl rfl ?_
    refine j_istore_n C (i := 3) d_row_makeRoom_28 rfl rfl [(3, .int p12.1), (2, .int (v1 + x1)), (0, va_rf (some a0)), (1, .int x1)] (rc_lt hN (by decide)) (by first | rfl | simp [va_rf_cat, rc_cat_i, rc_cat_l]) ?_
    refine j_aload_n C d_row_makeRoom_29 rfl 2 rfl ?_
    refine j_aload_n C d_row_makeRoom_30 rfl 2 rfl ?_
    obtain ⟨v14, h15, h⟩ := Option.bind_eq_some_iff.mp h
    refine j_getR C fl_row_9 h15 d_row_makeRoom_31 rfl ?_
    refine j_iload_n C d_row_makeRoom_34 rfl 1 rfl ?_
    refine j_iload_n C d_row_makeRoom_35 rfl 0 rfl ?_
    obtain ⟨p16, h17, h⟩ := Option.bind_eq_some_iff.mp h
    refine j_callS C (As := [.int (v1 + x1), .int p12.1]) (st := [va_rf v14, va_rf (some a0)]) (sk' := [.int p16.1, va_rf v14, va_rf (some a0)]) mk_mat_max (Or.inl T_232) T_233 (rc_le hF (by decide)) (rc_le hL (by decide)) (ct_mat_max h17) rfl rfl (by simp [va_rf_cat, rc_cat_i, rc_cat_l]) d_row_makeRoom_36 rfl rfl ?_
    obtain ⟨p18, h19, h⟩ := Option.bind_eq_some_iff.mp h
    refine j_callS C (As := [va_rf v14, .int p16.1]) (st := [va_rf (some a0)]) (sk' := [va_rf p18.1, va_rf (some a0)]) mk_arr_copyOf (Or.inl T_235) T_236 (rc_le hF (by decide)) (rc_le hL (by decide)) (ct_arr_copyOf h19) rfl rfl (by simp [va_rf_cat, rc_cat_i, rc_cat_l]) d_row_makeRoom_39 rfl rfl ?_
    obtain ⟨w20, h21, h⟩ := Option.bind_eq_some_iff.mp h
    refine j_putV C (ci := 1) (k := 0) (by decide) (by decide) T_32 (Or.inl rfl) rfl (by first | rfl | exact rc_fo _ _ | exact rc_fa _ _) h21 d_row_makeRoom_42 rfl ?_
    refine rc_J.sub (lv' := []) [] rfl ?_
    exact k_row_makeRoom_45 hF hL hN C E h

set_option maxRecDepth 100000 in
set_option maxHeartbeats 4000000 in
theorem ct_row_add {l : Launch} {G : rc_G} {w : rc_M} {a0 : Nat} {x1 : Int32} {res : rc_M} (h : f_row_add w a0 x1 = some res) : rc_Ct l G y_row_add prog_6_method_8_code 2 none 3 71 [va_rf (some a0), .int x1] w none res := by
  refine rc_enter (by decide +kernel) (by simp [lg_sl, va_rf_cat, rc_cat_i, rc_cat_l]) ?_
  intro X _ _ hN hF hL C E
  have hlv : lv_args 0 [va_rf (some a0), .int x1] = [(0, va_rf (some a0)), (1, .int x1)] := by simp [lv_args, va_rf_cat, rc_cat_i, rc_cat_l]
  rw [hlv]
  clear hlv
  unfold f_row_add at h
  refine j_aload_n C d_row_add_0 rfl 0 rfl ?_
  refine j_iconst (v := 1) C d_row_add_1 rfl (by decide) ?_
  obtain ⟨a1, h2, h⟩ := Option.bind_eq_some_iff.mp h
  obtain ⟨w3, h4, h⟩ := Option.bind_eq_some_iff.mp h
  refine j_callV C (As := [.int 1]) (st := []) (sk' := []) mk_row_makeRoom (Or.inl T_228) T_230 S_2 (ci := 1) rfl h2 (rc_le hF (by decide)) (rc_le hL (by decide)) (ct_row_makeRoom h4) rfl rfl (by decide) d_row_add_2 rfl rfl ?_
  refine j_aload_n C d_row_add_5 rfl 0 rfl ?_
  obtain ⟨v5, h6, h⟩ := Option.bind_eq_some_iff.mp h
  refine j_getR C fl_row_9 h6 d_row_add_6 rfl ?_
  refine j_aload_n C d_row_add_9 rfl 0 rfl ?_
  obtain ⟨v7, h8, h⟩ := Option.bind_eq_some_iff.mp h
  refine j_getI C fl_row_15 h8 d_row_add_10 rfl ?_
  refine j_iload_n C d_row_add_13 rfl 1 rfl ?_
  refine j_i2b C d_row_add_14 rfl ?_
  obtain ⟨w9, h10, h⟩ := Option.bind_eq_some_iff.mp h
  refine j_bast C h10 d_row_add_15 rfl ?_
  refine j_aload_n C d_row_add_16 rfl 0 rfl ?_
  refine j_dup C d_row_add_17 rfl (by first | rfl | exact va_rf_cat _) ?_
  obtain ⟨v11, h12, h⟩ := Option.bind_eq_some_iff.mp h
  refine j_getI C fl_row_15 h12 d_row_add_18 rfl ?_
  refine j_iconst (v := 1) C d_row_add_21 rfl (by decide) ?_
  refine j_iadd C d_row_add_22 rfl ?_
  obtain ⟨w13, h14, h⟩ := Option.bind_eq_some_iff.mp h
  refine j_putV C (ci := 1) (k := 1) (by decide) (by decide) T_33 (Or.inl rfl) rfl rfl h14 d_row_add_23 rfl ?_
  cases h
  exact j_vret C E d_row_add_26

set_option maxRecDepth 100000 in
set_option maxHeartbeats 4000000 in
theorem ct_row_addWord {l : Launch} {G : rc_G} {w : rc_M} {a0 : Nat} {x1 : Int32} {res : rc_M} (h : f_row_addWord w a0 x1 = some res) : rc_Ct l G y_row_addWord prog_6_method_9_code 2 none 3 71 [va_rf (some a0), .int x1] w none res := by
  refine rc_enter (by decide +kernel) (by simp [lg_sl, va_rf_cat, rc_cat_i, rc_cat_l]) ?_
  intro X _ _ hN hF hL C E
  have hlv : lv_args 0 [va_rf (some a0), .int x1] = [(0, va_rf (some a0)), (1, .int x1)] := by simp [lv_args, va_rf_cat, rc_cat_i, rc_cat_l]
  rw [hlv]
  clear hlv
  unfold f_row_addWord at h
  refine j_aload_n C d_row_addWord_0 rfl 0 rfl ?_
  refine j_iconst (v := 4) C d_row_addWord_1 rfl (by decide) ?_
  obtain ⟨a1, h2, h⟩ := Option.bind_eq_some_iff.mp h
  obtain ⟨w3, h4, h⟩ := Option.bind_eq_some_iff.mp h
  refine j_callV C (As := [.int 4]) (st := []) (sk' := []) mk_row_makeRoom (Or.inl T_228) T_230 S_2 (ci := 1) rfl h2 (rc_le hF (by decide)) (rc_le hL (by decide)) (ct_row_makeRoom h4) rfl rfl (by decide) d_row_addWord_2 rfl rfl ?_
  refine j_aload_n C d_row_addWord_5 rfl 0 rfl ?_
  obtain ⟨v5, h6, h⟩ := Option.bind_eq_some_iff.mp h
  refine j_getR C fl_row_9 h6 d_row_addWord_6 rfl ?_
  refine j_aload_n C d_row_addWord_9 rfl 0 rfl ?_
  obtain ⟨v7, h8, h⟩ := Option.bind_eq_some_iff.mp h
  refine j_getI C fl_row_15 h8 d_row_addWord_10 rfl ?_
  refine j_iload_n C d_row_addWord_13 rfl 1 rfl ?_
  refine j_bipush (v := 24) C d_row_addWord_14 rfl (by decide) ?_
  refine j_iushr C d_row_addWord_16 rfl ?_
  refine j_i2b C d_row_addWord_17 rfl ?_
  obtain ⟨w9, h10, h⟩ := Option.bind_eq_some_iff.mp h
  refine j_bast C h10 d_row_addWord_18 rfl ?_
  refine j_aload_n C d_row_addWord_19 rfl 0 rfl ?_
  obtain ⟨v11, h12, h⟩ := Option.bind_eq_some_iff.mp h
  refine j_getR C fl_row_9 h12 d_row_addWord_20 rfl ?_
  refine j_aload_n C d_row_addWord_23 rfl 0 rfl ?_
  obtain ⟨v13, h14, h⟩ := Option.bind_eq_some_iff.mp h
  refine j_getI C fl_row_15 h14 d_row_addWord_24 rfl ?_
  refine j_iconst (v := 1) C d_row_addWord_27 rfl (by decide) ?_
  refine j_iadd C d_row_addWord_28 rfl ?_
  refine j_iload_n C d_row_addWord_29 rfl 1 rfl ?_
  refine j_bipush (v := 16) C d_row_addWord_30 rfl (by decide) ?_
  refine j_iushr C d_row_addWord_32 rfl ?_
  refine j_i2b C d_row_addWord_33 rfl ?_
  obtain ⟨w15, h16, h⟩ := Option.bind_eq_some_iff.mp h
  refine j_bast C h16 d_row_addWord_34 rfl ?_
  refine j_aload_n C d_row_addWord_35 rfl 0 rfl ?_
  obtain ⟨v17, h18, h⟩ := Option.bind_eq_some_iff.mp h
  refine j_getR C fl_row_9 h18 d_row_addWord_36 rfl ?_
  refine j_aload_n C d_row_addWord_39 rfl 0 rfl ?_
  obtain ⟨v19, h20, h⟩ := Option.bind_eq_some_iff.mp h
  refine j_getI C fl_row_15 h20 d_row_addWord_40 rfl ?_
  refine j_iconst (v := 2) C d_row_addWord_43 rfl (by decide) ?_
  refine j_iadd C d_row_addWord_44 rfl ?_
  refine j_iload_n C d_row_addWord_45 rfl 1 rfl ?_
  refine j_bipush (v := 8) C d_row_addWord_46 rfl (by decide) ?_
  refine j_iushr C d_row_addWord_48 rfl ?_
  refine j_i2b C d_row_addWord_49 rfl ?_
  obtain ⟨w21, h22, h⟩ := Option.bind_eq_some_iff.mp h
  refine j_bast C h22 d_row_addWord_50 rfl ?_
  refine j_aload_n C d_row_addWord_51 rfl 0 rfl ?_
  obtain ⟨v23, h24, h⟩ := Option.bind_eq_some_iff.mp h
  refine j_getR C fl_row_9 h24 d_row_addWord_52 rfl ?_
  refine j_aload_n C d_row_addWord_55 rfl 0 rfl ?_
  obtain ⟨v25, h26, h⟩ := Option.bind_eq_some_iff.mp h
  refine j_getI C fl_row_15 h26 d_row_addWord_56 rfl ?_
  refine j_iconst (v := 3) C d_row_addWord_59 rfl (by decide) ?_
  refine j_iadd C d_row_addWord_60 rfl ?_
  refine j_iload_n C d_row_addWord_61 rfl 1 rfl ?_
  refine j_i2b C d_row_addWord_62 rfl ?_
  obtain ⟨w27, h28, h⟩ := Option.bind_eq_some_iff.mp h
  refine j_bast C h28 d_row_addWord_63 rfl ?_
  refine j_aload_n C d_row_addWord_64 rfl 0 rfl ?_
  refine j_dup C d_row_addWord_65 rfl (by first | rfl | exact va_rf_cat _) ?_
  obtain ⟨v29, h30, h⟩ := Option.bind_eq_some_iff.mp h
  refine j_getI C fl_row_15 h30 d_row_addWord_66 rfl ?_
  refine j_iconst (v := 4) C d_row_addWord_69 rfl (by decide) ?_
  refine j_iadd C d_row_addWord_70 rfl ?_
  obtain ⟨w31, h32, h⟩ := Option.bind_eq_some_iff.mp h
  refine j_putV C (ci := 1) (k := 1) (by decide) (by decide) T_33 (Or.inl rfl) rfl rfl h32 d_row_addWord_71 rfl ?_
  cases h
  exact j_vret C E d_row_addWord_74

set_option maxRecDepth 100000 in
set_option maxHeartbeats 4000000 in
theorem ct_row_addLong {l : Launch} {G : rc_G} {w : rc_M} {a0 : Nat} {x1 : Int64} {res : rc_M} (h : f_row_addLong w a0 x1 = some res) : rc_Ct l G y_row_addLong prog_6_method_10_code 3 none 4 92 [va_rf (some a0), .long x1] w none res := by
  refine rc_enter (by decide +kernel) (by simp [lg_sl, va_rf_cat, rc_cat_i, rc_cat_l]) ?_
  intro X _ _ hN hF hL C E
  have hlv : lv_args 0 [va_rf (some a0), .long x1] = [(0, va_rf (some a0)), (1, .long x1)] := by simp [lv_args, va_rf_cat, rc_cat_i, rc_cat_l]
  rw [hlv]
  clear hlv
  unfold f_row_addLong at h
  refine j_aload_n C d_row_addLong_0 rfl 0 rfl ?_
  refine j_lload_n C d_row_addLong_1 rfl 1 rfl ?_
  refine j_bipush (v := 32) C d_row_addLong_2 rfl (by decide) ?_
  refine j_lushr C d_row_addLong_4 rfl ?_
  refine j_l2i C d_row_addLong_5 rfl ?_
  obtain ⟨a1, h2, h⟩ := Option.bind_eq_some_iff.mp h
  obtain ⟨w3, h4, h⟩ := Option.bind_eq_some_iff.mp h
  refine j_callV C (As := [.int (((x1.toUInt64 >>> ((32 : Int32).toInt64.toUInt64 &&& Int64.toUInt64 63)).toInt64).toInt32)]) (st := []) (sk' := []) mk_row_addWord (Or.inl T_417) T_360 T_361 (ci := 1) rfl h2 (rc_le hF (by decide)) (rc_le hL (by decide)) (ct_row_addWord h4) rfl rfl (by decide) d_row_addLong_6 rfl rfl ?_
  refine j_aload_n C d_row_addLong_9 rfl 0 rfl ?_
  refine j_lload_n C d_row_addLong_10 rfl 1 rfl ?_
  refine j_l2i C d_row_addLong_11 rfl ?_
  obtain ⟨a5, h6, h⟩ := Option.bind_eq_some_iff.mp h
  obtain ⟨w7, h8, h⟩ := Option.bind_eq_some_iff.mp h
  refine j_callV C (As := [.int x1.toInt32]) (st := []) (sk' := []) mk_row_addWord (Or.inl T_417) T_360 T_361 (ci := 1) rfl h6 (rc_le hF (by decide)) (rc_le hL (by decide)) (ct_row_addWord h8) rfl rfl (by decide) d_row_addLong_12 rfl rfl ?_
  cases h
  exact j_vret C E d_row_addLong_15

set_option maxRecDepth 100000 in
set_option maxHeartbeats 4000000 in
theorem k_row_addTruth_10 {X : rc_X} {w0 : rc_M} (hF : (q_R X).frames = 4) (hL : (q_R X).locals = 92) (hN : q_n X = 2) (C : rc_C X "RecordCalls$Row" prog_6_method_11_code w0) {res : rc_M} (E : rc_E0 X y_row_addTruth none none res) {w : rc_M} {s0 : Option Nat} {s1 : Int32} (h : b_row_addTruth_10 w s0 s1 = some res) : rc_J X w 10 [.int s1, va_rf s0] [] := by
  unfold b_row_addTruth_10 at h
  obtain ⟨a1, h2, h⟩ := Option.bind_eq_some_iff.mp h
  obtain ⟨w3, h4, h⟩ := Option.bind_eq_some_iff.mp h
  refine j_callV C (As := [.int s1]) (st := []) (sk' := []) mk_row_addWord (Or.inl T_417) T_360 T_361 (ci := 1) rfl h2 (rc_le hF (by decide)) (rc_le hL (by decide)) (ct_row_addWord h4) rfl rfl (by decide) d_row_addTruth_10 rfl rfl ?_
  cases h
  exact j_vret C E d_row_addTruth_13

set_option maxRecDepth 100000 in
set_option maxHeartbeats 4000000 in
theorem ct_row_addTruth {l : Launch} {G : rc_G} {w : rc_M} {a0 : Nat} {x1 : Int32} {res : rc_M} (h : f_row_addTruth w a0 x1 = some res) : rc_Ct l G y_row_addTruth prog_6_method_11_code 2 none 4 92 [va_rf (some a0), .int x1] w none res := by
  refine rc_enter (by decide +kernel) (by simp [lg_sl, va_rf_cat, rc_cat_i, rc_cat_l]) ?_
  intro X _ _ hN hF hL C E
  have hlv : lv_args 0 [va_rf (some a0), .int x1] = [(0, va_rf (some a0)), (1, .int x1)] := by simp [lv_args, va_rf_cat, rc_cat_i, rc_cat_l]
  rw [hlv]
  clear hlv
  unfold f_row_addTruth at h
  refine j_aload_n C d_row_addTruth_0 rfl 0 rfl ?_
  refine j_iload_n C d_row_addTruth_1 rfl 1 rfl ?_
  refine j_if_eq (tgt := 9) C d_row_addTruth_2 (by decide) rfl (fun c1 => ?_) (fun c1 => ?_)
  · rw [if_pos c1] at h
    refine j_iconst (v := 0) C d_row_addTruth_9 rfl (by decide) ?_
    refine rc_J.sub (lv' := []) [] rfl ?_
    exact k_row_addTruth_10 hF hL hN C E h
  · rw [if_neg c1] at h
    refine j_iconst (v := 1) C d_row_addTruth_5 rfl (by decide) ?_
    refine j_goto (tgt := 10) C d_row_addTruth_6 (by decide) ?_
    refine rc_J.sub (lv' := []) [] rfl ?_
    exact k_row_addTruth_10 hF hL hN C E h

set_option maxRecDepth 100000 in
set_option maxHeartbeats 4000000 in
theorem k_row_addPart_18 {X : rc_X} {w0 : rc_M} (hF : (q_R X).frames = 3) (hL : (q_R X).locals = 71) (hN : q_n X = 4) (C : rc_C X "RecordCalls$Row" prog_6_method_12_code w0) {res : rc_M} (E : rc_E0 X y_row_addPart none none res) {w : rc_M}  (h : b_row_addPart_18 w  = some res) : rc_J X w 18 [] [] := by
  unfold b_row_addPart_18 at h
  cases h
  exact j_vret C E d_row_addPart_18

set_option maxRecDepth 100000 in
set_option maxHeartbeats 4000000 in
theorem ct_row_addPart {l : Launch} {G : rc_G} {w : rc_M} {a0 : Nat} {r1 : Option Nat} {x2 : Int32} {x3 : Int32} {res : rc_M} (h : f_row_addPart w a0 r1 x2 x3 = some res) : rc_Ct l G y_row_addPart prog_6_method_12_code 4 none 3 71 [va_rf (some a0), va_rf r1, .int x2, .int x3] w none res := by
  refine rc_enter (by decide +kernel) (by simp [lg_sl, va_rf_cat, rc_cat_i, rc_cat_l]) ?_
  intro X _ _ hN hF hL C E
  have hlv : lv_args 0 [va_rf (some a0), va_rf r1, .int x2, .int x3] = [(0, va_rf (some a0)), (1, va_rf r1), (2, .int x2), (3, .int x3)] := by simp [lv_args, va_rf_cat, rc_cat_i, rc_cat_l]
  rw [hlv]
  clear hlv
  unfold f_row_addPart at h
  refine j_iload_n C d_row_addPart_0 rfl 2 rfl ?_
  refine j_if_lt (tgt := 18) C d_row_addPart_1 (by decide) rfl (fun c1 => ?_) (fun c1 => ?_)
  · rw [if_pos c1] at h
    refine rc_J.sub (lv' := []) [] rfl ?_
    exact k_row_addPart_18 hF hL hN C E h
  · rw [if_neg c1] at h
    refine j_iload_n C d_row_addPart_4 rfl 3 rfl ?_
    refine j_if_lt (tgt := 18) C d_row_addPart_5 (by decide) rfl (fun c2 => ?_) (fun c2 => ?_)
    · rw [if_pos c2] at h
      refine rc_J.sub (lv' := []) [] rfl ?_
      exact k_row_addPart_18 hF hL hN C E h
    · rw [if_neg c2] at h
      refine j_iload_n C d_row_addPart_8 rfl 3 rfl ?_
      refine j_aload_n C d_row_addPart_9 rfl 1 rfl ?_
      obtain ⟨v3, h4, h⟩ := Option.bind_eq_some_iff.mp h
      refine j_getI C fl_row_15 h4 d_row_addPart_10 rfl ?_
      refine j_iload_n C d_row_addPart_13 rfl 2 rfl ?_
      refine j_isub C d_row_addPart_14 rfl ?_
      refine j_icmp_le (tgt := 19) C d_row_addPart_15 (by decide) rfl (fun c5 => ?_) (fun c5 => ?_)
      · rw [if_pos c5] at h
        refine j_aload_n C d_row_addPart_19 rfl 0 rfl ?_
        refine j_iload_n C d_row_addPart_20 rfl 3 rfl ?_
        obtain ⟨a6, h7, h⟩ := Option.bind_eq_some_iff.mp h
        obtain ⟨w8, h9, h⟩ := Option.bind_eq_some_iff.mp h
        refine j_callV C (As := [.int x3]) (st := []) (sk' := []) mk_row_makeRoom (Or.inl T_228) T_230 S_2 (ci := 1) rfl h7 (rc_le hF (by decide)) (rc_le hL (by decide)) (ct_row_makeRoom h9) rfl rfl (by decide) d_row_addPart_21 rfl rfl ?_
        refine j_aload_n C d_row_addPart_24 rfl 1 rfl ?_
        obtain ⟨v10, h11, h⟩ := Option.bind_eq_some_iff.mp h
        refine j_getR C fl_row_9 h11 d_row_addPart_25 rfl ?_
        refine j_iload_n C d_row_addPart_28 rfl 2 rfl ?_
        refine j_aload_n C d_row_addPart_29 rfl 0 rfl ?_
        obtain ⟨v12, h13, h⟩ := Option.bind_eq_some_iff.mp h
        refine j_getR C fl_row_9 h13 d_row_addPart_30 rfl ?_
        refine j_aload_n C d_row_addPart_33 rfl 0 rfl ?_
        obtain ⟨v14, h15, h⟩ := Option.bind_eq_some_iff.mp h
        refine j_getI C fl_row_15 h15 d_row_addPart_34 rfl ?_
        refine j_iload_n C d_row_addPart_37 rfl 3 rfl ?_
        obtain ⟨w16, h17, h⟩ := Option.bind_eq_some_iff.mp h
        refine j_copy C T_251 T_250 T_249 T_15 (rc_le hF (by decide)) (rc_le hL (by simp [va_rf_cat, rc_cat_i, rc_cat_l, nativeFrameWords])) h17 d_row_addPart_38 rfl ?_
        refine j_aload_n C d_row_addPart_41 rfl 0 rfl ?_
        refine j_dup C d_row_addPart_42 rfl (by first | rfl | exact va_rf_cat _) ?_
        obtain ⟨v18, h19, h⟩ := Option.bind_eq_some_iff.mp h
        refine j_getI C fl_row_15 h19 d_row_addPart_43 rfl ?_
        refine j_iload_n C d_row_addPart_46 rfl 3 rfl ?_
        refine j_iadd C d_row_addPart_47 rfl ?_
        obtain ⟨w20, h21, h⟩ := Option.bind_eq_some_iff.mp h
        refine j_putV C (ci := 1) (k := 1) (by decide) (by decide) T_33 (Or.inl rfl) rfl rfl h21 d_row_addPart_48 rfl ?_
        cases h
        exact j_vret C E d_row_addPart_51
      · rw [if_neg c5] at h
        refine rc_J.sub (lv' := []) [] rfl ?_
        exact k_row_addPart_18 hF hL hN C E h

set_option maxRecDepth 100000 in
set_option maxHeartbeats 4000000 in
theorem ct_rec_filled {l : Launch} {G : rc_G} {w : rc_M} {x0 : Int32} {res : Int32 × rc_M} (h : f_rec_filled w x0 = some res) : rc_Ct l G y_rec_filled prog_1_method_30_code 1 (some .int) 0 0 [.int x0] w (some (.int res.1)) res.2 := by
  refine rc_enter (by decide +kernel) (by simp [lg_sl, va_rf_cat, rc_cat_i, rc_cat_l]) ?_
  intro X _ _ hN hF hL C E
  have hlv : lv_args 0 [.int x0] = [(0, .int x0)] := by simp [lv_args, va_rf_cat, rc_cat_i, rc_cat_l]
  rw [hlv]
  clear hlv
  unfold f_rec_filled at h
  refine j_iload_n C d_rec_filled_0 rfl 0 rfl ?_
  refine j_iconst (v := 4) C d_rec_filled_1 rfl (by decide) ?_
  refine j_iadd C d_rec_filled_2 rfl ?_
  refine j_iconst (v := 1) C d_rec_filled_3 rfl (by decide) ?_
  refine j_isub C d_rec_filled_4 rfl ?_
  refine j_bipush (v := (-4)) C d_rec_filled_5 rfl (by decide) ?_
  refine j_iand C d_rec_filled_7 rfl ?_
  cases h
  exact j_iret C E d_rec_filled_8

set_option maxRecDepth 100000 in
set_option maxHeartbeats 4000000 in
theorem k_row_addBytes_15 {X : rc_X} {w0 : rc_M} (hF : (q_R X).frames = 4) (hL : (q_R X).locals = 94) (hN : q_n X = 5) (C : rc_C X "RecordCalls$Row" prog_6_method_13_code w0) {res : rc_M} (E : rc_E0 X y_row_addBytes none none res) : ∀ (fuel : Nat) (w : rc_M) (a0 : Nat) (x3 : Int32) (x4 : Int32), b_row_addBytes_15 fuel w a0 x3 x4 = some res → rc_J X w 15 [] [(0, va_rf (some a0)), (3, .int x3), (4, .int x4)] := by
  intro fuel
  induction fuel with
  | zero => intro w a0 x3 x4 h; simp [b_row_addBytes_15] at h
  | succ fuel ih =>
    intro w a0 x3 x4 h
    unfold b_row_addBytes_15 at h
    refine j_iload C d_row_addBytes_15 rfl 2 rfl ?_
    refine j_iload_n C d_row_addBytes_17 rfl 1 rfl ?_
    obtain ⟨p1, h2, h⟩ := Option.bind_eq_some_iff.mp h
    refine j_callS C (As := [.int x3]) (st := [.int x4]) (sk' := [.int p1.1, .int x4]) mk_rec_filled (Or.inr T_419) T_420 (rc_le hF (by decide)) (rc_le hL (by decide)) (ct_rec_filled h2) rfl rfl (by simp [va_rf_cat, rc_cat_i, rc_cat_l]) d_row_addBytes_18 rfl rfl ?_
    refine j_icmp_ge (tgt := 35) C d_row_addBytes_21 (by decide) rfl (fun c3 => ?_) (fun c3 => ?_)
    · rw [if_pos c3] at h
      cases h
      exact j_vret C E d_row_addBytes_35
    · rw [if_neg c3] at h
      refine j_aload_n C d_row_addBytes_24 rfl 0 rfl ?_
      refine j_iconst (v := 0) C d_row_addBytes_25 rfl (by decide) ?_
      obtain ⟨a4, h5, h⟩ := Option.bind_eq_some_iff.mp h
      obtain ⟨w6, h7, h⟩ := Option.bind_eq_some_iff.mp h
      refine j_callV C (As := [.int 0]) (st := []) (sk' := []) mk_row_add (Or.inl T_422) T_423 T_424 (ci := 1) rfl h5 (rc_le hF (by decide)) (rc_le hL (by decide)) (ct_row_add h7) rfl rfl (by decide) d_row_addBytes_26 rfl rfl ?_
      refine j_iinc C d_row_addBytes_29 rfl 2 [(4, .int (x4 + 1)), (0, va_rf (some a0)), (3, .int x3)] rfl rfl (rc_lt hN (by decide)) (by first | rfl | simp [va_rf_cat, rc_cat_i, rc_cat_l]) ?_
      refine j_goto (tgt := 15) C d_row_addBytes_32 (by decide) ?_
      refine rc_J.sub (lv' := [(0, va_rf (some a0)), (3, .int x3), (4, .int (x4 + 1))]) [1, 2, 0] rfl ?_
      exact ih _ _ _ _ h

set_option maxRecDepth 100000 in
set_option maxHeartbeats 4000000 in
theorem ct_row_addBytes {l : Launch} {G : rc_G} {w : rc_M} {a0 : Nat} {r1 : Option Nat} {x2 : Int32} {x3 : Int32} {res : rc_M} (h : f_row_addBytes w a0 r1 x2 x3 = some res) : rc_Ct l G y_row_addBytes prog_6_method_13_code 5 none 4 94 [va_rf (some a0), va_rf r1, .int x2, .int x3] w none res := by
  refine rc_enter (by decide +kernel) (by simp [lg_sl, va_rf_cat, rc_cat_i, rc_cat_l]) ?_
  intro X _ _ hN hF hL C E
  have hlv : lv_args 0 [va_rf (some a0), va_rf r1, .int x2, .int x3] = [(0, va_rf (some a0)), (1, va_rf r1), (2, .int x2), (3, .int x3)] := by simp [lv_args, va_rf_cat, rc_cat_i, rc_cat_l]
  rw [hlv]
  clear hlv
  unfold f_row_addBytes at h
  refine j_aload_n C d_row_addBytes_0 rfl 0 rfl ?_
  refine j_iload_n C d_row_addBytes_1 rfl 3 rfl ?_
  obtain ⟨a1, h2, h⟩ := Option.bind_eq_some_iff.mp h
  obtain ⟨w3, h4, h⟩ := Option.bind_eq_some_iff.mp h
  refine j_callV C (As := [.int x3]) (st := []) (sk' := []) mk_row_addWord (Or.inl T_417) T_360 T_361 (ci := 1) rfl h2 (rc_le hF (by decide)) (rc_le hL (by decide)) (ct_row_addWord h4) rfl rfl (by decide) d_row_addBytes_2 rfl rfl ?_
  refine j_aload_n C d_row_addBytes_5 rfl 0 rfl ?_
  refine j_aload_n C d_row_addBytes_6 rfl 1 rfl ?_
  refine j_iload_n C d_row_addBytes_7 rfl 2 rfl ?_
  refine j_iload_n C d_row_addBytes_8 rfl 3 rfl ?_
  obtain ⟨a5, h6, h⟩ := Option.bind_eq_some_iff.mp h
  obtain ⟨w7, h8, h⟩ := Option.bind_eq_some_iff.mp h
  refine j_callV C (As := [va_rf r1, .int x2, .int x3]) (st := []) (sk' := []) mk_row_addPart (Or.inl T_418) T_225 T_226 (ci := 1) rfl h6 (rc_le hF (by decide)) (rc_le hL (by decide)) (ct_row_addPart h8) rfl rfl (by decide) d_row_addBytes_9 rfl rfl ?_
  refine j_iload_n C d_row_addBytes_12 rfl 3 rfl ?_
  refine j_istore C (i := 4) d_row_addBytes_13 rfl [(4, .int x3), (0, va_rf (some a0)), (1, va_rf r1), (2, .int x2), (3, .int x3)] (rc_lt hN (by decide)) (by first | rfl | simp [va_rf_cat, rc_cat_i, rc_cat_l]) ?_
  refine rc_J.sub (lv' := [(0, va_rf (some a0)), (3, .int x3), (4, .int x3)]) [1, 4, 0] rfl ?_
  exact k_row_addBytes_15 hF hL hN C E _ _ _ _ _ h

set_option maxRecDepth 100000 in
set_option maxHeartbeats 4000000 in
theorem k_row_isPart_13 {X : rc_X} {w0 : rc_M} (hF : (q_R X).frames = 1) (hL : (q_R X).locals = 21) (hN : q_n X = 5) (C : rc_C X "RecordCalls$Row" prog_6_method_14_code w0) {res : Int32 × rc_M} (E : rc_E0 X y_row_isPart (some .boolean) (some (.int res.1)) res.2) : ∀ (fuel : Nat) (w : rc_M) (a0 : Nat) (r1 : Option Nat) (x2 : Int32) (x3 : Int32) (x4 : Int32), b_row_isPart_13 fuel w a0 r1 x2 x3 x4 = some res → rc_J X w 13 [] [(0, va_rf (some a0)), (1, va_rf r1), (2, .int x2), (3, .int x3), (4, .int x4)] := by
  intro fuel
  induction fuel with
  | zero => intro w a0 r1 x2 x3 x4 h; simp [b_row_isPart_13] at h
  | succ fuel ih =>
    intro w a0 r1 x2 x3 x4 h
    unfold b_row_isPart_13 at h
    refine j_iload C d_row_isPart_13 rfl 4 rfl ?_
    refine j_iload_n C d_row_isPart_15 rfl 3 rfl ?_
    refine j_icmp_ge (tgt := 44) C d_row_isPart_16 (by decide) rfl (fun c1 => ?_) (fun c1 => ?_)
    · rw [if_pos c1] at h
      refine j_iconst (v := 1) C d_row_isPart_44 rfl (by decide) ?_
      obtain ⟨hz, rfl⟩ := rc_z1_spec h
      exact j_zret C hz E d_row_isPart_45
    · rw [if_neg c1] at h
      refine j_aload_n C d_row_isPart_19 rfl 0 rfl ?_
      refine j_iload C d_row_isPart_20 rfl 4 rfl ?_
      obtain ⟨a2, h3, h⟩ := Option.bind_eq_some_iff.mp h
      obtain ⟨p4, h5, h⟩ := Option.bind_eq_some_iff.mp h
      refine j_callV C (As := [.int x4]) (st := []) (sk' := [.int p4.1]) mk_row_at (Or.inl T_272) T_273 T_274 (ci := 1) rfl h3 (rc_le hF (by decide)) (rc_le hL (by decide)) (ct_row_at h5) rfl rfl (by decide) d_row_isPart_22 rfl rfl ?_
      refine j_aload_n C d_row_isPart_25 rfl 1 rfl ?_
      refine j_iload_n C d_row_isPart_26 rfl 2 rfl ?_
      refine j_iload C d_row_isPart_27 rfl 4 rfl ?_
      refine j_iadd C d_row_isPart_29 rfl ?_
      obtain ⟨a6, h7, h⟩ := Option.bind_eq_some_iff.mp h
      obtain ⟨p8, h9, h⟩ := Option.bind_eq_some_iff.mp h
      refine j_callV C (As := [.int (x2 + x4)]) (st := [.int p4.1]) (sk' := [.int p8.1, .int p4.1]) mk_row_at (Or.inl T_272) T_273 T_274 (ci := 1) rfl h7 (rc_le hF (by decide)) (rc_le hL (by decide)) (ct_row_at h9) rfl rfl (by simp [va_rf_cat, rc_cat_i, rc_cat_l]) d_row_isPart_30 rfl rfl ?_
      refine j_icmp_eq (tgt := 38) C d_row_isPart_33 (by decide) rfl (fun c10 => ?_) (fun c10 => ?_)
      · rw [if_pos c10] at h
        refine j_iinc C d_row_isPart_38 rfl 4 [(4, .int (x4 + 1)), (0, va_rf (some a0)), (1, va_rf r1), (2, .int x2), (3, .int x3)] rfl rfl (rc_lt hN (by decide)) (by first | rfl | simp [va_rf_cat, rc_cat_i, rc_cat_l]) ?_
        refine j_goto (tgt := 13) C d_row_isPart_41 (by decide) ?_
        refine rc_J.sub (lv' := [(0, va_rf (some a0)), (1, va_rf r1), (2, .int x2), (3, .int x3), (4, .int (x4 + 1))]) [1, 2, 3, 4, 0] rfl ?_
        exact ih _ _ _ _ _ _ h
      · rw [if_neg c10] at h
        refine j_iconst (v := 0) C d_row_isPart_36 rfl (by decide) ?_
        obtain ⟨hz, rfl⟩ := rc_z1_spec h
        exact j_zret C hz E d_row_isPart_37

set_option maxRecDepth 100000 in
set_option maxHeartbeats 4000000 in
theorem ct_row_isPart {l : Launch} {G : rc_G} {w : rc_M} {a0 : Nat} {r1 : Option Nat} {x2 : Int32} {x3 : Int32} {res : Int32 × rc_M} (h : f_row_isPart w a0 r1 x2 x3 = some res) : rc_Ct l G y_row_isPart prog_6_method_14_code 5 (some .boolean) 1 21 [va_rf (some a0), va_rf r1, .int x2, .int x3] w (some (.int res.1)) res.2 := by
  refine rc_enter (by decide +kernel) (by simp [lg_sl, va_rf_cat, rc_cat_i, rc_cat_l]) ?_
  intro X _ _ hN hF hL C E
  have hlv : lv_args 0 [va_rf (some a0), va_rf r1, .int x2, .int x3] = [(0, va_rf (some a0)), (1, va_rf r1), (2, .int x2), (3, .int x3)] := by simp [lv_args, va_rf_cat, rc_cat_i, rc_cat_l]
  rw [hlv]
  clear hlv
  unfold f_row_isPart at h
  refine j_iload_n C d_row_isPart_0 rfl 3 rfl ?_
  refine j_aload_n C d_row_isPart_1 rfl 0 rfl ?_
  obtain ⟨v1, h2, h⟩ := Option.bind_eq_some_iff.mp h
  refine j_getI C fl_row_15 h2 d_row_isPart_2 rfl ?_
  refine j_icmp_eq (tgt := 10) C d_row_isPart_5 (by decide) rfl (fun c3 => ?_) (fun c3 => ?_)
  · rw [if_pos c3] at h
    refine j_iconst (v := 0) C d_row_isPart_10 rfl (by decide) ?_
    refine j_istore C (i := 4) d_row_isPart_11 rfl [(4, .int 0), (0, va_rf (some a0)), (1, va_rf r1), (2, .int x2), (3, .int x3)] (rc_lt hN (by decide)) (by first | rfl | simp [va_rf_cat, rc_cat_i, rc_cat_l]) ?_
    refine rc_J.sub (lv' := [(0, va_rf (some a0)), (1, va_rf r1), (2, .int x2), (3, .int x3), (4, .int 0)]) [1, 2, 3, 4, 0] rfl ?_
    exact k_row_isPart_13 hF hL hN C E _ _ _ _ _ _ _ h
  · rw [if_neg c3] at h
    refine j_iconst (v := 0) C d_row_isPart_8 rfl (by decide) ?_
    obtain ⟨hz, rfl⟩ := rc_z1_spec h
    exact j_zret C hz E d_row_isPart_9

