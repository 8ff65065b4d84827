theorem fl_rec_10 : rc_FL "RecordCalls" 10 0 0 := ⟨by decide, by decide, Or.inl T_182⟩
theorem fl_rec_16 : rc_FL "RecordCalls" 16 0 1 := ⟨by decide, by decide, Or.inl T_183⟩
theorem fl_rec_22 : rc_FL "RecordCalls" 22 0 2 := ⟨by decide, by decide, Or.inl T_184⟩
theorem fl_rec_39 : rc_FL "RecordCalls" 39 0 6 := ⟨by decide, by decide, Or.inl T_188⟩
theorem fl_srv_12 : rc_FL "RecordCalls$Server" 12 2 0 := ⟨by decide, by decide, Or.inl T_88⟩
theorem fl_srv_32 : rc_FL "RecordCalls$Server" 32 2 3 := ⟨by decide, by decide, Or.inl T_92⟩
theorem fl_srv_36 : rc_FL "RecordCalls$Server" 36 2 4 := ⟨by decide, by decide, Or.inl T_94⟩
theorem fl_srv_39 : rc_FL "RecordCalls$Server" 39 2 5 := ⟨by decide, by decide, Or.inl T_96⟩
theorem fl_srv_55 : rc_FL "RecordCalls$Server" 55 2 10 := ⟨by decide, by decide, Or.inl T_102⟩
theorem fl_srv_59 : rc_FL "RecordCalls$Server" 59 2 11 := ⟨by decide, by decide, Or.inl T_103⟩
theorem fl_srv_62 : rc_FL "RecordCalls$Server" 62 2 12 := ⟨by decide, by decide, Or.inl T_104⟩
theorem d_srv_placeTaken_0 : decode prog_7_method_10_code 0 = .ok (.aload_n 0, 1) := by decide +kernel
theorem d_srv_placeTaken_1 : decode prog_7_method_10_code 1 = .ok (.getfield 12, 3) := by decide +kernel
theorem d_srv_placeTaken_4 : decode prog_7_method_10_code 4 = .ok (.aload_n 0, 1) := by decide +kernel
theorem d_srv_placeTaken_5 : decode prog_7_method_10_code 5 = .ok (.getfield 21, 3) := by decide +kernel
theorem d_srv_placeTaken_8 : decode prog_7_method_10_code 8 = .ok (.invokevirtual 167, 3) := by decide +kernel
theorem d_srv_placeTaken_11 : decode prog_7_method_10_code 11 = .ok (.aload_n 0, 1) := by decide +kernel
theorem d_srv_placeTaken_12 : decode prog_7_method_10_code 12 = .ok (.getfield 42, 3) := by decide +kernel
theorem d_srv_placeTaken_15 : decode prog_7_method_10_code 15 = .ok (.iload_n 1, 1) := by decide +kernel
theorem d_srv_placeTaken_16 : decode prog_7_method_10_code 16 = .ok (.iaload, 1) := by decide +kernel
theorem d_srv_placeTaken_17 : decode prog_7_method_10_code 17 = .ok (.aload_n 0, 1) := by decide +kernel
theorem d_srv_placeTaken_18 : decode prog_7_method_10_code 18 = .ok (.getfield 46, 3) := by decide +kernel
theorem d_srv_placeTaken_21 : decode prog_7_method_10_code 21 = .ok (.iload_n 1, 1) := by decide +kernel
theorem d_srv_placeTaken_22 : decode prog_7_method_10_code 22 = .ok (.iaload, 1) := by decide +kernel
theorem d_srv_placeTaken_23 : decode prog_7_method_10_code 23 = .ok (.invokevirtual 171, 3) := by decide +kernel
theorem d_srv_placeTaken_26 : decode prog_7_method_10_code 26 = .ok (.ireturn, 1) := by decide +kernel
theorem d_srv_giveSet_0 : decode prog_7_method_11_code 0 = .ok (.aload_n 0, 1) := by decide +kernel
theorem d_srv_giveSet_1 : decode prog_7_method_11_code 1 = .ok (.iconst 0, 1) := by decide +kernel
theorem d_srv_giveSet_2 : decode prog_7_method_11_code 2 = .ok (.invokevirtual 148, 3) := by decide +kernel
theorem d_srv_giveSet_5 : decode prog_7_method_11_code 5 = .ok (.istore_n 1, 1) := by decide +kernel
theorem d_srv_giveSet_6 : decode prog_7_method_11_code 6 = .ok (.iload_n 1, 1) := by decide +kernel
theorem d_srv_giveSet_7 : decode prog_7_method_11_code 7 = .ok (.iconst (-1), 1) := by decide +kernel
theorem d_srv_giveSet_8 : decode prog_7_method_11_code 8 = .ok (.if_icmp .eq 7, 3) := by decide +kernel
theorem d_srv_giveSet_11 : decode prog_7_method_11_code 11 = .ok (.iconst 1, 1) := by decide +kernel
theorem d_srv_giveSet_12 : decode prog_7_method_11_code 12 = .ok (.goto 4, 3) := by decide +kernel
theorem d_srv_giveSet_15 : decode prog_7_method_11_code 15 = .ok (.iconst 0, 1) := by decide +kernel
theorem d_srv_giveSet_16 : decode prog_7_method_11_code 16 = .ok (.istore_n 2, 1) := by decide +kernel
theorem d_srv_giveSet_17 : decode prog_7_method_11_code 17 = .ok (.iload_n 2, 1) := by decide +kernel
theorem d_srv_giveSet_18 : decode prog_7_method_11_code 18 = .ok (.ifCond .ne 22, 3) := by decide +kernel
theorem d_srv_giveSet_21 : decode prog_7_method_11_code 21 = .ok (.aload_n 0, 1) := by decide +kernel
theorem d_srv_giveSet_22 : decode prog_7_method_11_code 22 = .ok (.getfield 12, 3) := by decide +kernel
theorem d_srv_giveSet_25 : decode prog_7_method_11_code 25 = .ok (.invokevirtual 175, 3) := by decide +kernel
theorem d_srv_giveSet_28 : decode prog_7_method_11_code 28 = .ok (.ifCond .eq 12, 3) := by decide +kernel
theorem d_srv_giveSet_31 : decode prog_7_method_11_code 31 = .ok (.aload_n 0, 1) := by decide +kernel
theorem d_srv_giveSet_32 : decode prog_7_method_11_code 32 = .ok (.getfield 28, 3) := by decide +kernel
theorem d_srv_giveSet_35 : decode prog_7_method_11_code 35 = .ok (.iconst 1, 1) := by decide +kernel
theorem d_srv_giveSet_36 : decode prog_7_method_11_code 36 = .ok (.invokevirtual 118, 3) := by decide +kernel
theorem d_srv_giveSet_39 : decode prog_7_method_11_code 39 = .ok (.return_, 1) := by decide +kernel
theorem d_srv_giveSet_40 : decode prog_7_method_11_code 40 = .ok (.aload_n 0, 1) := by decide +kernel
theorem d_srv_giveSet_41 : decode prog_7_method_11_code 41 = .ok (.getfield 28, 3) := by decide +kernel
theorem d_srv_giveSet_44 : decode prog_7_method_11_code 44 = .ok (.iconst 0, 1) := by decide +kernel
theorem d_srv_giveSet_45 : decode prog_7_method_11_code 45 = .ok (.invokevirtual 118, 3) := by decide +kernel
theorem d_srv_giveSet_48 : decode prog_7_method_11_code 48 = .ok (.aload_n 0, 1) := by decide +kernel
theorem d_srv_giveSet_49 : decode prog_7_method_11_code 49 = .ok (.getfield 28, 3) := by decide +kernel
theorem d_srv_giveSet_52 : decode prog_7_method_11_code 52 = .ok (.iload_n 2, 1) := by decide +kernel
theorem d_srv_giveSet_53 : decode prog_7_method_11_code 53 = .ok (.invokevirtual 178, 3) := by decide +kernel
theorem d_srv_giveSet_56 : decode prog_7_method_11_code 56 = .ok (.iload_n 2, 1) := by decide +kernel
theorem d_srv_giveSet_57 : decode prog_7_method_11_code 57 = .ok (.ifCond .eq 33, 3) := by decide +kernel
theorem d_srv_giveSet_60 : decode prog_7_method_11_code 60 = .ok (.aload_n 0, 1) := by decide +kernel
theorem d_srv_giveSet_61 : decode prog_7_method_11_code 61 = .ok (.getfield 28, 3) := by decide +kernel
theorem d_srv_giveSet_64 : decode prog_7_method_11_code 64 = .ok (.aload_n 0, 1) := by decide +kernel
theorem d_srv_giveSet_65 : decode prog_7_method_11_code 65 = .ok (.getfield 12, 3) := by decide +kernel
theorem d_srv_giveSet_68 : decode prog_7_method_11_code 68 = .ok (.iload_n 1, 1) := by decide +kernel
theorem d_srv_giveSet_69 : decode prog_7_method_11_code 69 = .ok (.invokevirtual 182, 3) := by decide +kernel
theorem d_srv_giveSet_72 : decode prog_7_method_11_code 72 = .ok (.invokevirtual 186, 3) := by decide +kernel
theorem d_srv_giveSet_75 : decode prog_7_method_11_code 75 = .ok (.aload_n 0, 1) := by decide +kernel
theorem d_srv_giveSet_76 : decode prog_7_method_11_code 76 = .ok (.getfield 12, 3) := by decide +kernel
theorem d_srv_giveSet_79 : decode prog_7_method_11_code 79 = .ok (.iload_n 1, 1) := by decide +kernel
theorem d_srv_giveSet_80 : decode prog_7_method_11_code 80 = .ok (.aload_n 0, 1) := by decide +kernel
theorem d_srv_giveSet_81 : decode prog_7_method_11_code 81 = .ok (.getfield 55, 3) := by decide +kernel
theorem d_srv_giveSet_84 : decode prog_7_method_11_code 84 = .ok (.invokevirtual 190, 3) := by decide +kernel
theorem d_srv_giveSet_87 : decode prog_7_method_11_code 87 = .ok (.goto 33, 3) := by decide +kernel
theorem d_srv_giveSet_90 : decode prog_7_method_11_code 90 = .ok (.aload_n 0, 1) := by decide +kernel
theorem d_srv_giveSet_91 : decode prog_7_method_11_code 91 = .ok (.getfield 12, 3) := by decide +kernel
theorem d_srv_giveSet_94 : decode prog_7_method_11_code 94 = .ok (.aload_n 0, 1) := by decide +kernel
theorem d_srv_giveSet_95 : decode prog_7_method_11_code 95 = .ok (.getfield 21, 3) := by decide +kernel
theorem d_srv_giveSet_98 : decode prog_7_method_11_code 98 = .ok (.invokevirtual 167, 3) := by decide +kernel
theorem d_srv_giveSet_101 : decode prog_7_method_11_code 101 = .ok (.aload_n 0, 1) := by decide +kernel
theorem d_srv_giveSet_102 : decode prog_7_method_11_code 102 = .ok (.getfield 42, 3) := by decide +kernel
theorem d_srv_giveSet_105 : decode prog_7_method_11_code 105 = .ok (.iconst 0, 1) := by decide +kernel
theorem d_srv_giveSet_106 : decode prog_7_method_11_code 106 = .ok (.iaload, 1) := by decide +kernel
theorem d_srv_giveSet_107 : decode prog_7_method_11_code 107 = .ok (.aload_n 0, 1) := by decide +kernel
theorem d_srv_giveSet_108 : decode prog_7_method_11_code 108 = .ok (.getfield 46, 3) := by decide +kernel
theorem d_srv_giveSet_111 : decode prog_7_method_11_code 111 = .ok (.iconst 0, 1) := by decide +kernel
theorem d_srv_giveSet_112 : decode prog_7_method_11_code 112 = .ok (.iaload, 1) := by decide +kernel
theorem d_srv_giveSet_113 : decode prog_7_method_11_code 113 = .ok (.aload_n 0, 1) := by decide +kernel
theorem d_srv_giveSet_114 : decode prog_7_method_11_code 114 = .ok (.getfield 55, 3) := by decide +kernel
theorem d_srv_giveSet_117 : decode prog_7_method_11_code 117 = .ok (.invokevirtual 193, 3) := by decide +kernel
theorem d_srv_giveSet_120 : decode prog_7_method_11_code 120 = .ok (.return_, 1) := by decide +kernel
theorem d_srv_giveValueAt_0 : decode prog_7_method_12_code 0 = .ok (.iload_n 1, 1) := by decide +kernel
theorem d_srv_giveValueAt_1 : decode prog_7_method_12_code 1 = .ok (.iconst (-1), 1) := by decide +kernel
theorem d_srv_giveValueAt_2 : decode prog_7_method_12_code 2 = .ok (.if_icmp .ne 12, 3) := by decide +kernel
theorem d_srv_giveValueAt_5 : decode prog_7_method_12_code 5 = .ok (.aload_n 0, 1) := by decide +kernel
theorem d_srv_giveValueAt_6 : decode prog_7_method_12_code 6 = .ok (.getfield 28, 3) := by decide +kernel
theorem d_srv_giveValueAt_9 : decode prog_7_method_12_code 9 = .ok (.iconst 2, 1) := by decide +kernel
theorem d_srv_giveValueAt_10 : decode prog_7_method_12_code 10 = .ok (.invokevirtual 118, 3) := by decide +kernel
theorem d_srv_giveValueAt_13 : decode prog_7_method_12_code 13 = .ok (.return_, 1) := by decide +kernel
theorem d_srv_giveValueAt_14 : decode prog_7_method_12_code 14 = .ok (.aload_n 0, 1) := by decide +kernel
theorem d_srv_giveValueAt_15 : decode prog_7_method_12_code 15 = .ok (.getfield 28, 3) := by decide +kernel
theorem d_srv_giveValueAt_18 : decode prog_7_method_12_code 18 = .ok (.iconst 0, 1) := by decide +kernel
theorem d_srv_giveValueAt_19 : decode prog_7_method_12_code 19 = .ok (.invokevirtual 118, 3) := by decide +kernel
theorem d_srv_giveValueAt_22 : decode prog_7_method_12_code 22 = .ok (.aload_n 0, 1) := by decide +kernel
theorem d_srv_giveValueAt_23 : decode prog_7_method_12_code 23 = .ok (.getfield 28, 3) := by decide +kernel
theorem d_srv_giveValueAt_26 : decode prog_7_method_12_code 26 = .ok (.aload_n 0, 1) := by decide +kernel
theorem d_srv_giveValueAt_27 : decode prog_7_method_12_code 27 = .ok (.getfield 12, 3) := by decide +kernel
theorem d_srv_giveValueAt_30 : decode prog_7_method_12_code 30 = .ok (.iload_n 1, 1) := by decide +kernel
theorem d_srv_giveValueAt_31 : decode prog_7_method_12_code 31 = .ok (.invokevirtual 182, 3) := by decide +kernel
theorem d_srv_giveValueAt_34 : decode prog_7_method_12_code 34 = .ok (.invokevirtual 186, 3) := by decide +kernel
theorem d_srv_giveValueAt_37 : decode prog_7_method_12_code 37 = .ok (.return_, 1) := by decide +kernel
theorem d_srv_giveSum_0 : decode prog_7_method_13_code 0 = .ok (.lconst 0, 1) := by decide +kernel
theorem d_srv_giveSum_1 : decode prog_7_method_13_code 1 = .ok (.lstore_n 1, 1) := by decide +kernel
theorem d_srv_giveSum_2 : decode prog_7_method_13_code 2 = .ok (.iconst 0, 1) := by decide +kernel
theorem d_srv_giveSum_3 : decode prog_7_method_13_code 3 = .ok (.istore_n 3, 1) := by decide +kernel
theorem d_srv_giveSum_4 : decode prog_7_method_13_code 4 = .ok (.iconst 0, 1) := by decide +kernel
theorem d_srv_giveSum_5 : decode prog_7_method_13_code 5 = .ok (.istore 4, 2) := by decide +kernel
theorem d_srv_giveSum_7 : decode prog_7_method_13_code 7 = .ok (.iload 4, 2) := by decide +kernel
theorem d_srv_giveSum_9 : decode prog_7_method_13_code 9 = .ok (.aload_n 0, 1) := by decide +kernel
theorem d_srv_giveSum_10 : decode prog_7_method_13_code 10 = .ok (.getfield 52, 3) := by decide +kernel
theorem d_srv_giveSum_13 : decode prog_7_method_13_code 13 = .ok (.if_icmp .ge 43, 3) := by decide +kernel
theorem d_srv_giveSum_16 : decode prog_7_method_13_code 16 = .ok (.aload_n 0, 1) := by decide +kernel
theorem d_srv_giveSum_17 : decode prog_7_method_13_code 17 = .ok (.iload 4, 2) := by decide +kernel
theorem d_srv_giveSum_19 : decode prog_7_method_13_code 19 = .ok (.invokevirtual 148, 3) := by decide +kernel
theorem d_srv_giveSum_22 : decode prog_7_method_13_code 22 = .ok (.istore 5, 2) := by decide +kernel
theorem d_srv_giveSum_24 : decode prog_7_method_13_code 24 = .ok (.lload_n 1, 1) := by decide +kernel
theorem d_srv_giveSum_25 : decode prog_7_method_13_code 25 = .ok (.aload_n 0, 1) := by decide +kernel
theorem d_srv_giveSum_26 : decode prog_7_method_13_code 26 = .ok (.getfield 12, 3) := by decide +kernel
theorem d_srv_giveSum_29 : decode prog_7_method_13_code 29 = .ok (.iload 5, 2) := by decide +kernel
theorem d_srv_giveSum_31 : decode prog_7_method_13_code 31 = .ok (.invokevirtual 182, 3) := by decide +kernel
theorem d_srv_giveSum_34 : decode prog_7_method_13_code 34 = .ok (.ladd, 1) := by decide +kernel
theorem d_srv_giveSum_35 : decode prog_7_method_13_code 35 = .ok (.lstore_n 1, 1) := by decide +kernel
theorem d_srv_giveSum_36 : decode prog_7_method_13_code 36 = .ok (.iload_n 3, 1) := by decide +kernel
theorem d_srv_giveSum_37 : decode prog_7_method_13_code 37 = .ok (.iload 5, 2) := by decide +kernel
theorem d_srv_giveSum_39 : decode prog_7_method_13_code 39 = .ok (.iconst (-1), 1) := by decide +kernel
theorem d_srv_giveSum_40 : decode prog_7_method_13_code 40 = .ok (.if_icmp .ne 7, 3) := by decide +kernel
theorem d_srv_giveSum_43 : decode prog_7_method_13_code 43 = .ok (.iconst 1, 1) := by decide +kernel
theorem d_srv_giveSum_44 : decode prog_7_method_13_code 44 = .ok (.goto 4, 3) := by decide +kernel
theorem d_srv_giveSum_47 : decode prog_7_method_13_code 47 = .ok (.iconst 0, 1) := by decide +kernel
theorem d_srv_giveSum_48 : decode prog_7_method_13_code 48 = .ok (.iadd, 1) := by decide +kernel
theorem d_srv_giveSum_49 : decode prog_7_method_13_code 49 = .ok (.istore_n 3, 1) := by decide +kernel
theorem d_srv_giveSum_50 : decode prog_7_method_13_code 50 = .ok (.iinc 4 1, 3) := by decide +kernel
theorem d_srv_giveSum_53 : decode prog_7_method_13_code 53 = .ok (.goto (-46), 3) := by decide +kernel
theorem d_srv_giveSum_56 : decode prog_7_method_13_code 56 = .ok (.aload_n 0, 1) := by decide +kernel
theorem d_srv_giveSum_57 : decode prog_7_method_13_code 57 = .ok (.getfield 28, 3) := by decide +kernel
theorem d_srv_giveSum_60 : decode prog_7_method_13_code 60 = .ok (.lload_n 1, 1) := by decide +kernel
theorem d_srv_giveSum_61 : decode prog_7_method_13_code 61 = .ok (.invokevirtual 186, 3) := by decide +kernel
theorem d_srv_giveSum_64 : decode prog_7_method_13_code 64 = .ok (.aload_n 0, 1) := by decide +kernel
theorem d_srv_giveSum_65 : decode prog_7_method_13_code 65 = .ok (.getfield 28, 3) := by decide +kernel
theorem d_srv_giveSum_68 : decode prog_7_method_13_code 68 = .ok (.iload_n 3, 1) := by decide +kernel
theorem d_srv_giveSum_69 : decode prog_7_method_13_code 69 = .ok (.invokevirtual 118, 3) := by decide +kernel
theorem d_srv_giveSum_72 : decode prog_7_method_13_code 72 = .ok (.return_, 1) := by decide +kernel
theorem d_srv_giveList_0 : decode prog_7_method_14_code 0 = .ok (.aload_n 0, 1) := by decide +kernel
theorem d_srv_giveList_1 : decode prog_7_method_14_code 1 = .ok (.getfield 59, 3) := by decide +kernel
theorem d_srv_giveList_4 : decode prog_7_method_14_code 4 = .ok (.ifCond .ge 7, 3) := by decide +kernel
theorem d_srv_giveList_7 : decode prog_7_method_14_code 7 = .ok (.iconst 0, 1) := by decide +kernel
theorem d_srv_giveList_8 : decode prog_7_method_14_code 8 = .ok (.goto 19, 3) := by decide +kernel
theorem d_srv_giveList_11 : decode prog_7_method_14_code 11 = .ok (.iconst 0, 1) := by decide +kernel
theorem d_srv_giveList_12 : decode prog_7_method_14_code 12 = .ok (.aload_n 0, 1) := by decide +kernel
theorem d_srv_giveList_13 : decode prog_7_method_14_code 13 = .ok (.getfield 12, 3) := by decide +kernel
theorem d_srv_giveList_16 : decode prog_7_method_14_code 16 = .ok (.invokevirtual 197, 3) := by decide +kernel
theorem d_srv_giveList_19 : decode prog_7_method_14_code 19 = .ok (.aload_n 0, 1) := by decide +kernel
theorem d_srv_giveList_20 : decode prog_7_method_14_code 20 = .ok (.getfield 59, 3) := by decide +kernel
theorem d_srv_giveList_23 : decode prog_7_method_14_code 23 = .ok (.isub, 1) := by decide +kernel
theorem d_srv_giveList_24 : decode prog_7_method_14_code 24 = .ok (.invokestatic 198, 3) := by decide +kernel
theorem d_srv_giveList_27 : decode prog_7_method_14_code 27 = .ok (.istore_n 1, 1) := by decide +kernel
theorem d_srv_giveList_28 : decode prog_7_method_14_code 28 = .ok (.aload_n 0, 1) := by decide +kernel
theorem d_srv_giveList_29 : decode prog_7_method_14_code 29 = .ok (.getfield 62, 3) := by decide +kernel
theorem d_srv_giveList_32 : decode prog_7_method_14_code 32 = .ok (.ifCond .ge 8, 3) := by decide +kernel
theorem d_srv_giveList_35 : decode prog_7_method_14_code 35 = .ok (.bipush 8, 2) := by decide +kernel
theorem d_srv_giveList_37 : decode prog_7_method_14_code 37 = .ok (.goto 12, 3) := by decide +kernel
theorem d_srv_giveList_40 : decode prog_7_method_14_code 40 = .ok (.aload_n 0, 1) := by decide +kernel
theorem d_srv_giveList_41 : decode prog_7_method_14_code 41 = .ok (.getfield 62, 3) := by decide +kernel
theorem d_srv_giveList_44 : decode prog_7_method_14_code 44 = .ok (.bipush 8, 2) := by decide +kernel
theorem d_srv_giveList_46 : decode prog_7_method_14_code 46 = .ok (.invokestatic 204, 3) := by decide +kernel
theorem d_srv_giveList_49 : decode prog_7_method_14_code 49 = .ok (.istore_n 2, 1) := by decide +kernel
theorem d_srv_giveList_50 : decode prog_7_method_14_code 50 = .ok (.iload_n 1, 1) := by decide +kernel
theorem d_srv_giveList_51 : decode prog_7_method_14_code 51 = .ok (.iload_n 2, 1) := by decide +kernel
theorem d_srv_giveList_52 : decode prog_7_method_14_code 52 = .ok (.invokestatic 204, 3) := by decide +kernel
theorem d_srv_giveList_55 : decode prog_7_method_14_code 55 = .ok (.istore_n 3, 1) := by decide +kernel
theorem d_srv_giveList_56 : decode prog_7_method_14_code 56 = .ok (.aload_n 0, 1) := by decide +kernel
theorem d_srv_giveList_57 : decode prog_7_method_14_code 57 = .ok (.getfield 28, 3) := by decide +kernel
theorem d_srv_giveList_60 : decode prog_7_method_14_code 60 = .ok (.iload_n 3, 1) := by decide +kernel
theorem d_srv_giveList_61 : decode prog_7_method_14_code 61 = .ok (.invokevirtual 118, 3) := by decide +kernel
theorem d_srv_giveList_64 : decode prog_7_method_14_code 64 = .ok (.iconst 0, 1) := by decide +kernel
theorem d_srv_giveList_65 : decode prog_7_method_14_code 65 = .ok (.istore 4, 2) := by decide +kernel
theorem d_srv_giveList_67 : decode prog_7_method_14_code 67 = .ok (.iload 4, 2) := by decide +kernel
theorem d_srv_giveList_69 : decode prog_7_method_14_code 69 = .ok (.iload_n 3, 1) := by decide +kernel
theorem d_srv_giveList_70 : decode prog_7_method_14_code 70 = .ok (.if_icmp .ge 66, 3) := by decide +kernel
theorem d_srv_giveList_73 : decode prog_7_method_14_code 73 = .ok (.aload_n 0, 1) := by decide +kernel
theorem d_srv_giveList_74 : decode prog_7_method_14_code 74 = .ok (.getfield 12, 3) := by decide +kernel
theorem d_srv_giveList_77 : decode prog_7_method_14_code 77 = .ok (.aload_n 0, 1) := by decide +kernel
theorem d_srv_giveList_78 : decode prog_7_method_14_code 78 = .ok (.getfield 59, 3) := by decide +kernel
theorem d_srv_giveList_81 : decode prog_7_method_14_code 81 = .ok (.iload 4, 2) := by decide +kernel
theorem d_srv_giveList_83 : decode prog_7_method_14_code 83 = .ok (.iadd, 1) := by decide +kernel
theorem d_srv_giveList_84 : decode prog_7_method_14_code 84 = .ok (.invokevirtual 207, 3) := by decide +kernel
theorem d_srv_giveList_87 : decode prog_7_method_14_code 87 = .ok (.astore 5, 2) := by decide +kernel
theorem d_srv_giveList_89 : decode prog_7_method_14_code 89 = .ok (.aload 5, 2) := by decide +kernel
theorem d_srv_giveList_91 : decode prog_7_method_14_code 91 = .ok (.ifnull 39, 3) := by decide +kernel
theorem d_srv_giveList_94 : decode prog_7_method_14_code 94 = .ok (.aload_n 0, 1) := by decide +kernel
theorem d_srv_giveList_95 : decode prog_7_method_14_code 95 = .ok (.getfield 28, 3) := by decide +kernel
theorem d_srv_giveList_98 : decode prog_7_method_14_code 98 = .ok (.aload 5, 2) := by decide +kernel
theorem d_srv_giveList_100 : decode prog_7_method_14_code 100 = .ok (.iconst 0, 1) := by decide +kernel
theorem d_srv_giveList_101 : decode prog_7_method_14_code 101 = .ok (.aload 5, 2) := by decide +kernel
theorem d_srv_giveList_103 : decode prog_7_method_14_code 103 = .ok (.invokevirtual 65, 3) := by decide +kernel
theorem d_srv_giveList_106 : decode prog_7_method_14_code 106 = .ok (.invokevirtual 210, 3) := by decide +kernel
theorem d_srv_giveList_109 : decode prog_7_method_14_code 109 = .ok (.aload_n 0, 1) := by decide +kernel
theorem d_srv_giveList_110 : decode prog_7_method_14_code 110 = .ok (.getfield 28, 3) := by decide +kernel
theorem d_srv_giveList_113 : decode prog_7_method_14_code 113 = .ok (.aload_n 0, 1) := by decide +kernel
theorem d_srv_giveList_114 : decode prog_7_method_14_code 114 = .ok (.getfield 12, 3) := by decide +kernel
theorem d_srv_giveList_117 : decode prog_7_method_14_code 117 = .ok (.aload_n 0, 1) := by decide +kernel
theorem d_srv_giveList_118 : decode prog_7_method_14_code 118 = .ok (.getfield 59, 3) := by decide +kernel
theorem d_srv_giveList_121 : decode prog_7_method_14_code 121 = .ok (.iload 4, 2) := by decide +kernel
theorem d_srv_giveList_123 : decode prog_7_method_14_code 123 = .ok (.iadd, 1) := by decide +kernel
theorem d_srv_giveList_124 : decode prog_7_method_14_code 124 = .ok (.invokevirtual 182, 3) := by decide +kernel
theorem d_srv_giveList_127 : decode prog_7_method_14_code 127 = .ok (.invokevirtual 186, 3) := by decide +kernel
theorem d_srv_giveList_130 : decode prog_7_method_14_code 130 = .ok (.iinc 4 1, 3) := by decide +kernel
theorem d_srv_giveList_133 : decode prog_7_method_14_code 133 = .ok (.goto (-66), 3) := by decide +kernel
theorem d_srv_giveList_136 : decode prog_7_method_14_code 136 = .ok (.aload_n 0, 1) := by decide +kernel
theorem d_srv_giveList_137 : decode prog_7_method_14_code 137 = .ok (.getfield 28, 3) := by decide +kernel
theorem d_srv_giveList_140 : decode prog_7_method_14_code 140 = .ok (.iload_n 1, 1) := by decide +kernel
theorem d_srv_giveList_141 : decode prog_7_method_14_code 141 = .ok (.iload_n 3, 1) := by decide +kernel
theorem d_srv_giveList_142 : decode prog_7_method_14_code 142 = .ok (.if_icmp .le 7, 3) := by decide +kernel
theorem d_srv_giveList_145 : decode prog_7_method_14_code 145 = .ok (.iconst 1, 1) := by decide +kernel
theorem d_srv_giveList_146 : decode prog_7_method_14_code 146 = .ok (.goto 4, 3) := by decide +kernel
theorem d_srv_giveList_149 : decode prog_7_method_14_code 149 = .ok (.iconst 0, 1) := by decide +kernel
theorem d_srv_giveList_150 : decode prog_7_method_14_code 150 = .ok (.invokevirtual 178, 3) := by decide +kernel
theorem d_srv_giveList_153 : decode prog_7_method_14_code 153 = .ok (.return_, 1) := by decide +kernel
theorem d_srv_giveRemoved_0 : decode prog_7_method_15_code 0 = .ok (.aload_n 0, 1) := by decide +kernel
theorem d_srv_giveRemoved_1 : decode prog_7_method_15_code 1 = .ok (.iconst 0, 1) := by decide +kernel
theorem d_srv_giveRemoved_2 : decode prog_7_method_15_code 2 = .ok (.invokevirtual 148, 3) := by decide +kernel
theorem d_srv_giveRemoved_5 : decode prog_7_method_15_code 5 = .ok (.istore_n 1, 1) := by decide +kernel
theorem d_srv_giveRemoved_6 : decode prog_7_method_15_code 6 = .ok (.aload_n 0, 1) := by decide +kernel
theorem d_srv_giveRemoved_7 : decode prog_7_method_15_code 7 = .ok (.getfield 28, 3) := by decide +kernel
theorem d_srv_giveRemoved_10 : decode prog_7_method_15_code 10 = .ok (.iload_n 1, 1) := by decide +kernel
theorem d_srv_giveRemoved_11 : decode prog_7_method_15_code 11 = .ok (.iconst (-1), 1) := by decide +kernel
theorem d_srv_giveRemoved_12 : decode prog_7_method_15_code 12 = .ok (.if_icmp .eq 7, 3) := by decide +kernel
theorem d_srv_giveRemoved_15 : decode prog_7_method_15_code 15 = .ok (.iconst 1, 1) := by decide +kernel
theorem d_srv_giveRemoved_16 : decode prog_7_method_15_code 16 = .ok (.goto 4, 3) := by decide +kernel
theorem d_srv_giveRemoved_19 : decode prog_7_method_15_code 19 = .ok (.iconst 0, 1) := by decide +kernel
theorem d_srv_giveRemoved_20 : decode prog_7_method_15_code 20 = .ok (.invokevirtual 178, 3) := by decide +kernel
theorem d_srv_giveRemoved_23 : decode prog_7_method_15_code 23 = .ok (.aload_n 0, 1) := by decide +kernel
theorem d_srv_giveRemoved_24 : decode prog_7_method_15_code 24 = .ok (.getfield 12, 3) := by decide +kernel
theorem d_srv_giveRemoved_27 : decode prog_7_method_15_code 27 = .ok (.iload_n 1, 1) := by decide +kernel
theorem d_srv_giveRemoved_28 : decode prog_7_method_15_code 28 = .ok (.invokevirtual 214, 3) := by decide +kernel
theorem d_srv_giveRemoved_31 : decode prog_7_method_15_code 31 = .ok (.return_, 1) := by decide +kernel
theorem d_srv_give_0 : decode prog_7_method_9_code 0 = .ok (.aload_n 0, 1) := by decide +kernel
theorem d_srv_give_1 : decode prog_7_method_9_code 1 = .ok (.getfield 49, 3) := by decide +kernel
theorem d_srv_give_4 : decode prog_7_method_9_code 4 = .ok (.tableswitch 108 1 6 #[40, 47, 59, 87, 94, 101], 40) := by decide +kernel
theorem d_srv_give_44 : decode prog_7_method_9_code 44 = .ok (.aload_n 0, 1) := by decide +kernel
theorem d_srv_give_45 : decode prog_7_method_9_code 45 = .ok (.invokevirtual 145, 3) := by decide +kernel
theorem d_srv_give_48 : decode prog_7_method_9_code 48 = .ok (.goto 64, 3) := by decide +kernel
theorem d_srv_give_51 : decode prog_7_method_9_code 51 = .ok (.aload_n 0, 1) := by decide +kernel
theorem d_srv_give_52 : decode prog_7_method_9_code 52 = .ok (.aload_n 0, 1) := by decide +kernel
theorem d_srv_give_53 : decode prog_7_method_9_code 53 = .ok (.iconst 0, 1) := by decide +kernel
theorem d_srv_give_54 : decode prog_7_method_9_code 54 = .ok (.invokevirtual 148, 3) := by decide +kernel
theorem d_srv_give_57 : decode prog_7_method_9_code 57 = .ok (.invokevirtual 151, 3) := by decide +kernel
theorem d_srv_give_60 : decode prog_7_method_9_code 60 = .ok (.goto 52, 3) := by decide +kernel
theorem d_srv_give_63 : decode prog_7_method_9_code 63 = .ok (.aload_n 0, 1) := by decide +kernel
theorem d_srv_give_64 : decode prog_7_method_9_code 64 = .ok (.getfield 12, 3) := by decide +kernel
theorem d_srv_give_67 : decode prog_7_method_9_code 67 = .ok (.aload_n 0, 1) := by decide +kernel
theorem d_srv_give_68 : decode prog_7_method_9_code 68 = .ok (.iconst 0, 1) := by decide +kernel
theorem d_srv_give_69 : decode prog_7_method_9_code 69 = .ok (.invokevirtual 148, 3) := by decide +kernel
theorem d_srv_give_72 : decode prog_7_method_9_code 72 = .ok (.aload_n 0, 1) := by decide +kernel
theorem d_srv_give_73 : decode prog_7_method_9_code 73 = .ok (.getfield 55, 3) := by decide +kernel
theorem d_srv_give_76 : decode prog_7_method_9_code 76 = .ok (.invokevirtual 154, 3) := by decide +kernel
theorem d_srv_give_79 : decode prog_7_method_9_code 79 = .ok (.aload_n 0, 1) := by decide +kernel
theorem d_srv_give_80 : decode prog_7_method_9_code 80 = .ok (.aload_n 0, 1) := by decide +kernel
theorem d_srv_give_81 : decode prog_7_method_9_code 81 = .ok (.iconst 0, 1) := by decide +kernel
theorem d_srv_give_82 : decode prog_7_method_9_code 82 = .ok (.invokevirtual 148, 3) := by decide +kernel
theorem d_srv_give_85 : decode prog_7_method_9_code 85 = .ok (.invokevirtual 151, 3) := by decide +kernel
theorem d_srv_give_88 : decode prog_7_method_9_code 88 = .ok (.goto 24, 3) := by decide +kernel
theorem d_srv_give_91 : decode prog_7_method_9_code 91 = .ok (.aload_n 0, 1) := by decide +kernel
theorem d_srv_give_92 : decode prog_7_method_9_code 92 = .ok (.invokevirtual 158, 3) := by decide +kernel
theorem d_srv_give_95 : decode prog_7_method_9_code 95 = .ok (.goto 17, 3) := by decide +kernel
theorem d_srv_give_98 : decode prog_7_method_9_code 98 = .ok (.aload_n 0, 1) := by decide +kernel
theorem d_srv_give_99 : decode prog_7_method_9_code 99 = .ok (.invokevirtual 161, 3) := by decide +kernel
theorem d_srv_give_102 : decode prog_7_method_9_code 102 = .ok (.goto 10, 3) := by decide +kernel
theorem d_srv_give_105 : decode prog_7_method_9_code 105 = .ok (.aload_n 0, 1) := by decide +kernel
theorem d_srv_give_106 : decode prog_7_method_9_code 106 = .ok (.invokevirtual 164, 3) := by decide +kernel
theorem d_srv_give_109 : decode prog_7_method_9_code 109 = .ok (.goto 3, 3) := by decide +kernel
theorem d_srv_give_112 : decode prog_7_method_9_code 112 = .ok (.return_, 1) := by decide +kernel
theorem d_srv_replyTo_0 : decode prog_7_method_2_code 0 = .ok (.aload_n 1, 1) := by decide +kernel
theorem d_srv_replyTo_1 : decode prog_7_method_2_code 1 = .ok (.invokevirtual 65, 3) := by decide +kernel
theorem d_srv_replyTo_4 : decode prog_7_method_2_code 4 = .ok (.bipush 8, 2) := by decide +kernel
theorem d_srv_replyTo_6 : decode prog_7_method_2_code 6 = .ok (.if_icmp .lt 11, 3) := by decide +kernel
theorem d_srv_replyTo_9 : decode prog_7_method_2_code 9 = .ok (.aload_n 1, 1) := by decide +kernel
theorem d_srv_replyTo_10 : decode prog_7_method_2_code 10 = .ok (.iconst 4, 1) := by decide +kernel
theorem d_srv_replyTo_11 : decode prog_7_method_2_code 11 = .ok (.invokevirtual 69, 3) := by decide +kernel
theorem d_srv_replyTo_14 : decode prog_7_method_2_code 14 = .ok (.ifCond .eq 15, 3) := by decide +kernel
theorem d_srv_replyTo_17 : decode prog_7_method_2_code 17 = .ok (.aload_n 0, 1) := by decide +kernel
theorem d_srv_replyTo_18 : decode prog_7_method_2_code 18 = .ok (.dup, 1) := by decide +kernel
theorem d_srv_replyTo_19 : decode prog_7_method_2_code 19 = .ok (.getfield 39, 3) := by decide +kernel
theorem d_srv_replyTo_22 : decode prog_7_method_2_code 22 = .ok (.iconst 1, 1) := by decide +kernel
theorem d_srv_replyTo_23 : decode prog_7_method_2_code 23 = .ok (.iadd, 1) := by decide +kernel
theorem d_srv_replyTo_24 : decode prog_7_method_2_code 24 = .ok (.putfield 39, 3) := by decide +kernel
theorem d_srv_replyTo_27 : decode prog_7_method_2_code 27 = .ok (.aconst_null, 1) := by decide +kernel
theorem d_srv_replyTo_28 : decode prog_7_method_2_code 28 = .ok (.areturn, 1) := by decide +kernel
theorem d_srv_replyTo_29 : decode prog_7_method_2_code 29 = .ok (.aload_n 1, 1) := by decide +kernel
theorem d_srv_replyTo_30 : decode prog_7_method_2_code 30 = .ok (.iconst 0, 1) := by decide +kernel
theorem d_srv_replyTo_31 : decode prog_7_method_2_code 31 = .ok (.invokevirtual 69, 3) := by decide +kernel
theorem d_srv_replyTo_34 : decode prog_7_method_2_code 34 = .ok (.istore_n 3, 1) := by decide +kernel
theorem d_srv_replyTo_35 : decode prog_7_method_2_code 35 = .ok (.aload_n 2, 1) := by decide +kernel
theorem d_srv_replyTo_36 : decode prog_7_method_2_code 36 = .ok (.iload_n 3, 1) := by decide +kernel
theorem d_srv_replyTo_37 : decode prog_7_method_2_code 37 = .ok (.invokevirtual 73, 3) := by decide +kernel
theorem d_srv_replyTo_40 : decode prog_7_method_2_code 40 = .ok (.astore 4, 2) := by decide +kernel
theorem d_srv_replyTo_42 : decode prog_7_method_2_code 42 = .ok (.aload 4, 2) := by decide +kernel
theorem d_srv_replyTo_44 : decode prog_7_method_2_code 44 = .ok (.ifnull 16, 3) := by decide +kernel
theorem d_srv_replyTo_47 : decode prog_7_method_2_code 47 = .ok (.aload_n 0, 1) := by decide +kernel
theorem d_srv_replyTo_48 : decode prog_7_method_2_code 48 = .ok (.dup, 1) := by decide +kernel
theorem d_srv_replyTo_49 : decode prog_7_method_2_code 49 = .ok (.getfield 36, 3) := by decide +kernel
theorem d_srv_replyTo_52 : decode prog_7_method_2_code 52 = .ok (.iconst 1, 1) := by decide +kernel
theorem d_srv_replyTo_53 : decode prog_7_method_2_code 53 = .ok (.iadd, 1) := by decide +kernel
theorem d_srv_replyTo_54 : decode prog_7_method_2_code 54 = .ok (.putfield 36, 3) := by decide +kernel
theorem d_srv_replyTo_57 : decode prog_7_method_2_code 57 = .ok (.aload 4, 2) := by decide +kernel
theorem d_srv_replyTo_59 : decode prog_7_method_2_code 59 = .ok (.areturn, 1) := by decide +kernel
theorem d_srv_replyTo_60 : decode prog_7_method_2_code 60 = .ok (.aload_n 0, 1) := by decide +kernel
theorem d_srv_replyTo_61 : decode prog_7_method_2_code 61 = .ok (.aload_n 1, 1) := by decide +kernel
theorem d_srv_replyTo_62 : decode prog_7_method_2_code 62 = .ok (.invokevirtual 79, 3) := by decide +kernel
theorem d_srv_replyTo_65 : decode prog_7_method_2_code 65 = .ok (.istore 5, 2) := by decide +kernel
theorem d_srv_replyTo_67 : decode prog_7_method_2_code 67 = .ok (.iload 5, 2) := by decide +kernel
theorem d_srv_replyTo_69 : decode prog_7_method_2_code 69 = .ok (.iconst (-1), 1) := by decide +kernel
theorem d_srv_replyTo_70 : decode prog_7_method_2_code 70 = .ok (.if_icmp .ne 15, 3) := by decide +kernel
theorem d_srv_replyTo_73 : decode prog_7_method_2_code 73 = .ok (.aload_n 0, 1) := by decide +kernel
theorem d_srv_replyTo_74 : decode prog_7_method_2_code 74 = .ok (.dup, 1) := by decide +kernel
theorem d_srv_replyTo_75 : decode prog_7_method_2_code 75 = .ok (.getfield 39, 3) := by decide +kernel
theorem d_srv_replyTo_78 : decode prog_7_method_2_code 78 = .ok (.iconst 1, 1) := by decide +kernel
theorem d_srv_replyTo_79 : decode prog_7_method_2_code 79 = .ok (.iadd, 1) := by decide +kernel
theorem d_srv_replyTo_80 : decode prog_7_method_2_code 80 = .ok (.putfield 39, 3) := by decide +kernel
theorem d_srv_replyTo_83 : decode prog_7_method_2_code 83 = .ok (.aconst_null, 1) := by decide +kernel
theorem d_srv_replyTo_84 : decode prog_7_method_2_code 84 = .ok (.areturn, 1) := by decide +kernel
theorem d_srv_replyTo_85 : decode prog_7_method_2_code 85 = .ok (.iload 5, 2) := by decide +kernel
theorem d_srv_replyTo_87 : decode prog_7_method_2_code 87 = .ok (.ifCond .ne 13, 3) := by decide +kernel
theorem d_srv_replyTo_90 : decode prog_7_method_2_code 90 = .ok (.aload_n 0, 1) := by decide +kernel
theorem d_srv_replyTo_91 : decode prog_7_method_2_code 91 = .ok (.invokevirtual 83, 3) := by decide +kernel
theorem d_srv_replyTo_94 : decode prog_7_method_2_code 94 = .ok (.ifCond .ne 6, 3) := by decide +kernel
theorem d_srv_replyTo_97 : decode prog_7_method_2_code 97 = .ok (.iconst 4, 1) := by decide +kernel
theorem d_srv_replyTo_98 : decode prog_7_method_2_code 98 = .ok (.istore 5, 2) := by decide +kernel
theorem d_srv_replyTo_100 : decode prog_7_method_2_code 100 = .ok (.aload_n 0, 1) := by decide +kernel
theorem d_srv_replyTo_101 : decode prog_7_method_2_code 101 = .ok (.iload_n 3, 1) := by decide +kernel
theorem d_srv_replyTo_102 : decode prog_7_method_2_code 102 = .ok (.iload 5, 2) := by decide +kernel
theorem d_srv_replyTo_104 : decode prog_7_method_2_code 104 = .ok (.invokevirtual 87, 3) := by decide +kernel
theorem d_srv_replyTo_107 : decode prog_7_method_2_code 107 = .ok (.iload 5, 2) := by decide +kernel
theorem d_srv_replyTo_109 : decode prog_7_method_2_code 109 = .ok (.ifCond .ne 17, 3) := by decide +kernel
theorem d_srv_replyTo_112 : decode prog_7_method_2_code 112 = .ok (.aload_n 0, 1) := by decide +kernel
theorem d_srv_replyTo_113 : decode prog_7_method_2_code 113 = .ok (.dup, 1) := by decide +kernel
theorem d_srv_replyTo_114 : decode prog_7_method_2_code 114 = .ok (.getfield 32, 3) := by decide +kernel
theorem d_srv_replyTo_117 : decode prog_7_method_2_code 117 = .ok (.iconst 1, 1) := by decide +kernel
theorem d_srv_replyTo_118 : decode prog_7_method_2_code 118 = .ok (.iadd, 1) := by decide +kernel
theorem d_srv_replyTo_119 : decode prog_7_method_2_code 119 = .ok (.putfield 32, 3) := by decide +kernel
theorem d_srv_replyTo_122 : decode prog_7_method_2_code 122 = .ok (.aload_n 0, 1) := by decide +kernel
theorem d_srv_replyTo_123 : decode prog_7_method_2_code 123 = .ok (.invokevirtual 91, 3) := by decide +kernel
theorem d_srv_replyTo_126 : decode prog_7_method_2_code 126 = .ok (.aload_n 2, 1) := by decide +kernel
theorem d_srv_replyTo_127 : decode prog_7_method_2_code 127 = .ok (.iload_n 3, 1) := by decide +kernel
theorem d_srv_replyTo_128 : decode prog_7_method_2_code 128 = .ok (.aload_n 0, 1) := by decide +kernel
theorem d_srv_replyTo_129 : decode prog_7_method_2_code 129 = .ok (.getfield 28, 3) := by decide +kernel
theorem d_srv_replyTo_132 : decode prog_7_method_2_code 132 = .ok (.invokevirtual 94, 3) := by decide +kernel
theorem d_srv_replyTo_135 : decode prog_7_method_2_code 135 = .ok (.aload_n 0, 1) := by decide +kernel
theorem d_srv_replyTo_136 : decode prog_7_method_2_code 136 = .ok (.getfield 28, 3) := by decide +kernel
theorem d_srv_replyTo_139 : decode prog_7_method_2_code 139 = .ok (.areturn, 1) := by decide +kernel
theorem d_rec_init_0 : decode prog_1_method_1_code 0 = .ok (.aload_n 0, 1) := by decide +kernel
theorem d_rec_init_1 : decode prog_1_method_1_code 1 = .ok (.invokespecial 1, 3) := by decide +kernel
theorem d_rec_init_4 : decode prog_1_method_1_code 4 = .ok (.aload_n 0, 1) := by decide +kernel
theorem d_rec_init_5 : decode prog_1_method_1_code 5 = .ok (.new 7, 3) := by decide +kernel
theorem d_rec_init_8 : decode prog_1_method_1_code 8 = .ok (.dup, 1) := by decide +kernel
theorem d_rec_init_9 : decode prog_1_method_1_code 9 = .ok (.invokespecial 9, 3) := by decide +kernel
theorem d_rec_init_12 : decode prog_1_method_1_code 12 = .ok (.putfield 10, 3) := by decide +kernel
theorem d_rec_init_15 : decode prog_1_method_1_code 15 = .ok (.aload_n 0, 1) := by decide +kernel
theorem d_rec_init_16 : decode prog_1_method_1_code 16 = .ok (.bipush 64, 2) := by decide +kernel
theorem d_rec_init_18 : decode prog_1_method_1_code 18 = .ok (.anewarray 7, 3) := by decide +kernel
theorem d_rec_init_21 : decode prog_1_method_1_code 21 = .ok (.putfield 16, 3) := by decide +kernel
theorem d_rec_init_24 : decode prog_1_method_1_code 24 = .ok (.aload_n 0, 1) := by decide +kernel
theorem d_rec_init_25 : decode prog_1_method_1_code 25 = .ok (.iconst 4, 1) := by decide +kernel
theorem d_rec_init_26 : decode prog_1_method_1_code 26 = .ok (.anewarray 20, 3) := by decide +kernel
theorem d_rec_init_29 : decode prog_1_method_1_code 29 = .ok (.putfield 22, 3) := by decide +kernel
theorem d_rec_init_32 : decode prog_1_method_1_code 32 = .ok (.aload_n 0, 1) := by decide +kernel
theorem d_rec_init_33 : decode prog_1_method_1_code 33 = .ok (.new 26, 3) := by decide +kernel
theorem d_rec_init_36 : decode prog_1_method_1_code 36 = .ok (.dup, 1) := by decide +kernel
theorem d_rec_init_37 : decode prog_1_method_1_code 37 = .ok (.invokespecial 28, 3) := by decide +kernel
theorem d_rec_init_40 : decode prog_1_method_1_code 40 = .ok (.putfield 29, 3) := by decide +kernel
theorem d_rec_init_43 : decode prog_1_method_1_code 43 = .ok (.aload_n 0, 1) := by decide +kernel
theorem d_rec_init_44 : decode prog_1_method_1_code 44 = .ok (.new 7, 3) := by decide +kernel
theorem d_rec_init_47 : decode prog_1_method_1_code 47 = .ok (.dup, 1) := by decide +kernel
theorem d_rec_init_48 : decode prog_1_method_1_code 48 = .ok (.invokespecial 9, 3) := by decide +kernel
theorem d_rec_init_51 : decode prog_1_method_1_code 51 = .ok (.putfield 33, 3) := by decide +kernel
theorem d_rec_init_54 : decode prog_1_method_1_code 54 = .ok (.aload_n 0, 1) := by decide +kernel
theorem d_rec_init_55 : decode prog_1_method_1_code 55 = .ok (.new 7, 3) := by decide +kernel
theorem d_rec_init_58 : decode prog_1_method_1_code 58 = .ok (.dup, 1) := by decide +kernel
theorem d_rec_init_59 : decode prog_1_method_1_code 59 = .ok (.invokespecial 9, 3) := by decide +kernel
theorem d_rec_init_62 : decode prog_1_method_1_code 62 = .ok (.putfield 36, 3) := by decide +kernel
theorem d_rec_init_65 : decode prog_1_method_1_code 65 = .ok (.aload_n 0, 1) := by decide +kernel
theorem d_rec_init_66 : decode prog_1_method_1_code 66 = .ok (.iconst 0, 1) := by decide +kernel
theorem d_rec_init_67 : decode prog_1_method_1_code 67 = .ok (.putfield 39, 3) := by decide +kernel
theorem d_rec_init_70 : decode prog_1_method_1_code 70 = .ok (.iconst 0, 1) := by decide +kernel
theorem d_rec_init_71 : decode prog_1_method_1_code 71 = .ok (.istore_n 1, 1) := by decide +kernel
theorem d_rec_init_72 : decode prog_1_method_1_code 72 = .ok (.iload_n 1, 1) := by decide +kernel
theorem d_rec_init_73 : decode prog_1_method_1_code 73 = .ok (.bipush 64, 2) := by decide +kernel
theorem d_rec_init_75 : decode prog_1_method_1_code 75 = .ok (.if_icmp .ge 22, 3) := by decide +kernel
theorem d_rec_init_78 : decode prog_1_method_1_code 78 = .ok (.aload_n 0, 1) := by decide +kernel
theorem d_rec_init_79 : decode prog_1_method_1_code 79 = .ok (.getfield 16, 3) := by decide +kernel
theorem d_rec_init_82 : decode prog_1_method_1_code 82 = .ok (.iload_n 1, 1) := by decide +kernel
theorem d_rec_init_83 : decode prog_1_method_1_code 83 = .ok (.new 7, 3) := by decide +kernel
theorem d_rec_init_86 : decode prog_1_method_1_code 86 = .ok (.dup, 1) := by decide +kernel
theorem d_rec_init_87 : decode prog_1_method_1_code 87 = .ok (.invokespecial 9, 3) := by decide +kernel
theorem d_rec_init_90 : decode prog_1_method_1_code 90 = .ok (.aastore, 1) := by decide +kernel
theorem d_rec_init_91 : decode prog_1_method_1_code 91 = .ok (.iinc 1 1, 3) := by decide +kernel
theorem d_rec_init_94 : decode prog_1_method_1_code 94 = .ok (.goto (-22), 3) := by decide +kernel
theorem d_rec_init_97 : decode prog_1_method_1_code 97 = .ok (.iconst 0, 1) := by decide +kernel
theorem d_rec_init_98 : decode prog_1_method_1_code 98 = .ok (.istore_n 1, 1) := by decide +kernel
theorem d_rec_init_99 : decode prog_1_method_1_code 99 = .ok (.iload_n 1, 1) := by decide +kernel
theorem d_rec_init_100 : decode prog_1_method_1_code 100 = .ok (.iconst 4, 1) := by decide +kernel
theorem d_rec_init_101 : decode prog_1_method_1_code 101 = .ok (.if_icmp .ge 22, 3) := by decide +kernel
theorem d_rec_init_104 : decode prog_1_method_1_code 104 = .ok (.aload_n 0, 1) := by decide +kernel
theorem d_rec_init_105 : decode prog_1_method_1_code 105 = .ok (.getfield 22, 3) := by decide +kernel
theorem d_rec_init_108 : decode prog_1_method_1_code 108 = .ok (.iload_n 1, 1) := by decide +kernel
theorem d_rec_init_109 : decode prog_1_method_1_code 109 = .ok (.new 20, 3) := by decide +kernel
theorem d_rec_init_112 : decode prog_1_method_1_code 112 = .ok (.dup, 1) := by decide +kernel
theorem d_rec_init_113 : decode prog_1_method_1_code 113 = .ok (.invokespecial 43, 3) := by decide +kernel
theorem d_rec_init_116 : decode prog_1_method_1_code 116 = .ok (.aastore, 1) := by decide +kernel
theorem d_rec_init_117 : decode prog_1_method_1_code 117 = .ok (.iinc 1 1, 3) := by decide +kernel
theorem d_rec_init_120 : decode prog_1_method_1_code 120 = .ok (.goto (-21), 3) := by decide +kernel
theorem d_rec_init_123 : decode prog_1_method_1_code 123 = .ok (.return_, 1) := by decide +kernel
theorem d_rec_slotRow_0 : decode prog_1_method_18_code 0 = .ok (.aload_n 0, 1) := by decide +kernel
theorem d_rec_slotRow_1 : decode prog_1_method_18_code 1 = .ok (.getfield 16, 3) := by decide +kernel
theorem d_rec_slotRow_4 : decode prog_1_method_18_code 4 = .ok (.iload_n 1, 1) := by decide +kernel
theorem d_rec_slotRow_5 : decode prog_1_method_18_code 5 = .ok (.bipush 63, 2) := by decide +kernel
theorem d_rec_slotRow_7 : decode prog_1_method_18_code 7 = .ok (.iand, 1) := by decide +kernel
theorem d_rec_slotRow_8 : decode prog_1_method_18_code 8 = .ok (.aaload, 1) := by decide +kernel
theorem d_rec_slotRow_9 : decode prog_1_method_18_code 9 = .ok (.areturn, 1) := by decide +kernel
theorem d_rec_newSlot_0 : decode prog_1_method_19_code 0 = .ok (.aload_n 0, 1) := by decide +kernel
theorem d_rec_newSlot_1 : decode prog_1_method_19_code 1 = .ok (.aload_n 0, 1) := by decide +kernel
theorem d_rec_newSlot_2 : decode prog_1_method_19_code 2 = .ok (.getfield 39, 3) := by decide +kernel
theorem d_rec_newSlot_5 : decode prog_1_method_19_code 5 = .ok (.invokevirtual 110, 3) := by decide +kernel
theorem d_rec_newSlot_8 : decode prog_1_method_19_code 8 = .ok (.astore_n 1, 1) := by decide +kernel
theorem d_rec_newSlot_9 : decode prog_1_method_19_code 9 = .ok (.aload_n 0, 1) := by decide +kernel
theorem d_rec_newSlot_10 : decode prog_1_method_19_code 10 = .ok (.dup, 1) := by decide +kernel
theorem d_rec_newSlot_11 : decode prog_1_method_19_code 11 = .ok (.getfield 39, 3) := by decide +kernel
theorem d_rec_newSlot_14 : decode prog_1_method_19_code 14 = .ok (.iconst 1, 1) := by decide +kernel
theorem d_rec_newSlot_15 : decode prog_1_method_19_code 15 = .ok (.iadd, 1) := by decide +kernel
theorem d_rec_newSlot_16 : decode prog_1_method_19_code 16 = .ok (.putfield 39, 3) := by decide +kernel
theorem d_rec_newSlot_19 : decode prog_1_method_19_code 19 = .ok (.aload_n 1, 1) := by decide +kernel
theorem d_rec_newSlot_20 : decode prog_1_method_19_code 20 = .ok (.invokevirtual 82, 3) := by decide +kernel
theorem d_rec_newSlot_23 : decode prog_1_method_19_code 23 = .ok (.aload_n 1, 1) := by decide +kernel
theorem d_rec_newSlot_24 : decode prog_1_method_19_code 24 = .ok (.areturn, 1) := by decide +kernel
theorem d_rec_tapeIsSlot_0 : decode prog_1_method_20_code 0 = .ok (.aload_n 0, 1) := by decide +kernel
theorem d_rec_tapeIsSlot_1 : decode prog_1_method_20_code 1 = .ok (.getfield 10, 3) := by decide +kernel
theorem d_rec_tapeIsSlot_4 : decode prog_1_method_20_code 4 = .ok (.invokevirtual 82, 3) := by decide +kernel
theorem d_rec_tapeIsSlot_7 : decode prog_1_method_20_code 7 = .ok (.aload_n 0, 1) := by decide +kernel
theorem d_rec_tapeIsSlot_8 : decode prog_1_method_20_code 8 = .ok (.getfield 39, 3) := by decide +kernel
theorem d_rec_tapeIsSlot_11 : decode prog_1_method_20_code 11 = .ok (.iconst 1, 1) := by decide +kernel
theorem d_rec_tapeIsSlot_12 : decode prog_1_method_20_code 12 = .ok (.isub, 1) := by decide +kernel
theorem d_rec_tapeIsSlot_13 : decode prog_1_method_20_code 13 = .ok (.ireturn, 1) := by decide +kernel
theorem d_rec_raw_0 : decode prog_1_method_4_code 0 = .ok (.aload_n 0, 1) := by decide +kernel
theorem d_rec_raw_1 : decode prog_1_method_4_code 1 = .ok (.invokevirtual 61, 3) := by decide +kernel
theorem d_rec_raw_4 : decode prog_1_method_4_code 4 = .ok (.aload_n 0, 1) := by decide +kernel
theorem d_rec_raw_5 : decode prog_1_method_4_code 5 = .ok (.getfield 10, 3) := by decide +kernel
theorem d_rec_raw_8 : decode prog_1_method_4_code 8 = .ok (.iconst 0, 1) := by decide +kernel
theorem d_rec_raw_9 : decode prog_1_method_4_code 9 = .ok (.aload_n 0, 1) := by decide +kernel
theorem d_rec_raw_10 : decode prog_1_method_4_code 10 = .ok (.getfield 10, 3) := by decide +kernel
theorem d_rec_raw_13 : decode prog_1_method_4_code 13 = .ok (.invokevirtual 44, 3) := by decide +kernel
theorem d_rec_raw_16 : decode prog_1_method_4_code 16 = .ok (.invokevirtual 65, 3) := by decide +kernel
theorem d_rec_raw_19 : decode prog_1_method_4_code 19 = .ok (.aload_n 0, 1) := by decide +kernel
theorem d_rec_raw_20 : decode prog_1_method_4_code 20 = .ok (.invokevirtual 69, 3) := by decide +kernel
theorem d_rec_raw_23 : decode prog_1_method_4_code 23 = .ok (.ireturn, 1) := by decide +kernel
def f_srv_placeTaken (w : rc_M) (a0 : Nat) (x1 : Int32) : Option (Int32 × rc_M) :=
  (rc_gR w (some a0) 2 0).bind fun v1 =>
  (rc_gR w (some a0) 2 1).bind fun v3 =>
  (rc_rc w v3 4).bind fun a5 =>
  (f_rdr_row w a5).bind fun p7 =>
  (rc_gR p7.2 (some a0) 2 6).bind fun v9 =>
  (rc_aI p7.2 v9 0 x1).bind fun v11 =>
  (rc_gR p7.2 (some a0) 2 7).bind fun v13 =>
  (rc_aI p7.2 v13 0 x1).bind fun v15 =>
  (rc_rc p7.2 v1 3).bind fun a17 =>
  (f_map_placeOf p7.2 a17 p7.1 v11 v15).bind fun p19 =>
  some (p19.1, p19.2)

def b_srv_giveSet_120 (w : rc_M) : Option (rc_M) :=
  some w

def b_srv_giveSet_40 (w : rc_M) (a0 : Nat) (x1 : Int32) (x2 : Int32) : Option (rc_M) :=
  (rc_gR w (some a0) 2 2).bind fun v1 =>
  (rc_rc w v1 1).bind fun a3 =>
  (g_row_addWord w a3 0).bind fun w5 =>
  (rc_gR w5 (some a0) 2 2).bind fun v7 =>
  (rc_rc w5 v7 1).bind fun a9 =>
  (g_row_addTruth w5 a9 x2).bind fun w11 =>
  if x2 = 0 then
    (rc_gR w11 (some a0) 2 0).bind fun v14 =>
    (rc_gR w11 (some a0) 2 1).bind fun v16 =>
    (rc_rc w11 v16 4).bind fun a18 =>
    (f_rdr_row w11 a18).bind fun p20 =>
    (rc_gR p20.2 (some a0) 2 6).bind fun v22 =>
    (rc_aI p20.2 v22 0 0).bind fun v24 =>
    (rc_gR p20.2 (some a0) 2 7).bind fun v26 =>
    (rc_aI p20.2 v26 0 0).bind fun v28 =>
    (rc_gL p20.2 (some a0) 2 10).bind fun v30 =>
    (rc_rc p20.2 v14 3).bind fun a32 =>
    (f_map_addNew p20.2 a32 p20.1 v24 v28 v30).bind fun w34 =>
    b_srv_giveSet_120 w34 
  else
    (rc_gR w11 (some a0) 2 2).bind fun v36 =>
    (rc_gR w11 (some a0) 2 0).bind fun v38 =>
    (rc_rc w11 v38 3).bind fun a40 =>
    (f_map_valueAt w11 a40 x1).bind fun p42 =>
    (rc_rc p42.2 v36 1).bind fun a44 =>
    (g_row_addLong p42.2 a44 p42.1).bind fun w46 =>
    (rc_gR w46 (some a0) 2 0).bind fun v48 =>
    (rc_gL w46 (some a0) 2 10).bind fun v50 =>
    (rc_rc w46 v48 3).bind fun a52 =>
    (f_map_setValue w46 a52 x1 v50).bind fun w54 =>
    b_srv_giveSet_120 w54 

def b_srv_giveSet_16 (w : rc_M) (a0 : Nat) (x1 : Int32) (s0 : Int32) : Option (rc_M) :=
  if s0 = 0 then
    (rc_gR w (some a0) 2 0).bind fun v2 =>
    (rc_rc w v2 3).bind fun a4 =>
    (f_map_isFull w a4).bind fun p6 =>
    if p6.1 = 0 then
      b_srv_giveSet_40 p6.2 a0 x1 s0
    else
      (rc_gR p6.2 (some a0) 2 2).bind fun v9 =>
      (rc_rc p6.2 v9 1).bind fun a11 =>
      (g_row_addWord p6.2 a11 1).bind fun w13 =>
      some w13
  else
    b_srv_giveSet_40 w a0 x1 s0

def f_srv_giveSet (w : rc_M) (a0 : Nat) : Option (rc_M) :=
  (rc_rc w (some a0) 2).bind fun a1 =>
  (f_srv_placeTaken w a1 0).bind fun p3 =>
  if p3.1 = ((-1)) then
    b_srv_giveSet_16 p3.2 a0 p3.1 0
  else
    b_srv_giveSet_16 p3.2 a0 p3.1 1

def f_srv_giveValueAt (w : rc_M) (a0 : Nat) (x1 : Int32) : Option (rc_M) :=
  if x1 = ((-1)) then
    (rc_gR w (some a0) 2 2).bind fun v20 =>
    (rc_rc w v20 1).bind fun a22 =>
    (g_row_addWord w a22 2).bind fun w24 =>
    some w24
  else
    (rc_gR w (some a0) 2 2).bind fun v2 =>
    (rc_rc w v2 1).bind fun a4 =>
    (g_row_addWord w a4 0).bind fun w6 =>
    (rc_gR w6 (some a0) 2 2).bind fun v8 =>
    (rc_gR w6 (some a0) 2 0).bind fun v10 =>
    (rc_rc w6 v10 3).bind fun a12 =>
    (f_map_valueAt w6 a12 x1).bind fun p14 =>
    (rc_rc p14.2 v8 1).bind fun a16 =>
    (g_row_addLong p14.2 a16 p14.1).bind fun w18 =>
    some w18

def b_srv_giveSum_48 (k7 : rc_M → Nat → Int64 → Int32 → Int32 → Option (rc_M)) (w : rc_M) (a0 : Nat) (x1 : Int64) (x4 : Int32) (s0 : Int32) (s1 : Int32) : Option (rc_M) :=
  k7 w a0 x1 (s0 + s1) (x4 + 1)

def b_srv_giveSum_7 : Nat → rc_M → Nat → Int64 → Int32 → Int32 → Option (rc_M)
  | 0, _, _, _, _, _ => none
  | fuel + 1, w, a0, x1, x3, x4 =>
    (rc_gI w (some a0) 2 9).bind fun v1 =>
    if v1 ≤ x4 then
      (rc_gR w (some a0) 2 2).bind fun v4 =>
      (rc_rc w v4 1).bind fun a6 =>
      (g_row_addLong w a6 x1).bind fun w8 =>
      (rc_gR w8 (some a0) 2 2).bind fun v10 =>
      (rc_rc w8 v10 1).bind fun a12 =>
      (g_row_addWord w8 a12 x3).bind fun w14 =>
      some w14
    else
      (rc_rc w (some a0) 2).bind fun a16 =>
      (f_srv_placeTaken w a16 x4).bind fun p18 =>
      (rc_gR p18.2 (some a0) 2 0).bind fun v20 =>
      (rc_rc p18.2 v20 3).bind fun a22 =>
      (f_map_valueAt p18.2 a22 p18.1).bind fun p24 =>
      if p18.1 = ((-1)) then
        b_srv_giveSum_48 (b_srv_giveSum_7 fuel) p24.2 a0 (x1 + p24.1) x4 x3 1
      else
        b_srv_giveSum_48 (b_srv_giveSum_7 fuel) p24.2 a0 (x1 + p24.1) x4 x3 0

def f_srv_giveSum (w : rc_M) (a0 : Nat) : Option (rc_M) :=
  b_srv_giveSum_7 5000 w a0 0 0 0

def b_srv_giveList_130 (k67 : rc_M → Nat → Int32 → Int32 → Int32 → Option (rc_M)) (w : rc_M) (a0 : Nat) (x1 : Int32) (x3 : Int32) (x4 : Int32) : Option (rc_M) :=
  k67 w a0 x1 x3 (x4 + 1)

def b_srv_giveList_150 (w : rc_M) (s0 : Option Nat) (s1 : Int32) : Option (rc_M) :=
  (rc_rc w s0 1).bind fun a1 =>
  (g_row_addTruth w a1 s1).bind fun w3 =>
  some w3

def b_srv_giveList_67 : Nat → rc_M → Nat → Int32 → Int32 → Int32 → Option (rc_M)
  | 0, _, _, _, _, _ => none
  | fuel + 1, w, a0, x1, x3, x4 =>
    if x3 ≤ x4 then
      (rc_gR w (some a0) 2 2).bind fun v2 =>
      if x1 ≤ x3 then
        b_srv_giveList_150 w v2 0
      else
        b_srv_giveList_150 w v2 1
    else
      (rc_gR w (some a0) 2 0).bind fun v5 =>
      (rc_gI w (some a0) 2 11).bind fun v7 =>
      (rc_rc w v5 3).bind fun a9 =>
      (f_map_keyAt w a9 (v7 + x4)).bind fun p11 =>
      if p11.1 = none then
        b_srv_giveList_130 (b_srv_giveList_67 fuel) p11.2 a0 x1 x3 x4
      else
        (rc_gR p11.2 (some a0) 2 2).bind fun v14 =>
        (rc_rc p11.2 p11.1 1).bind fun a16 =>
        (g_row_size p11.2 a16).bind fun p18 =>
        (rc_rc p18.2 v14 1).bind fun a20 =>
        (g_row_addBytes p18.2 a20 p11.1 0 p18.1).bind fun w22 =>
        (rc_gR w22 (some a0) 2 2).bind fun v24 =>
        (rc_gR w22 (some a0) 2 0).bind fun v26 =>
        (rc_gI w22 (some a0) 2 11).bind fun v28 =>
        (rc_rc w22 v26 3).bind fun a30 =>
        (f_map_valueAt w22 a30 (v28 + x4)).bind fun p32 =>
        (rc_rc p32.2 v24 1).bind fun a34 =>
        (g_row_addLong p32.2 a34 p32.1).bind fun w36 =>
        b_srv_giveList_130 (b_srv_giveList_67 fuel) w36 a0 x1 x3 x4

def b_srv_giveList_49 (w : rc_M) (a0 : Nat) (x1 : Int32) (s0 : Int32) : Option (rc_M) :=
  (f_mat_min w x1 s0).bind fun p1 =>
  (rc_gR p1.2 (some a0) 2 2).bind fun v3 =>
  (rc_rc p1.2 v3 1).bind fun a5 =>
  (g_row_addWord p1.2 a5 p1.1).bind fun w7 =>
  b_srv_giveList_67 5000 w7 a0 x1 p1.1 0

def b_srv_giveList_27 (w : rc_M) (a0 : Nat) (s0 : Int32) : Option (rc_M) :=
  (rc_gI w (some a0) 2 12).bind fun v1 =>
  if 0 ≤ v1 then
    (rc_gI w (some a0) 2 12).bind fun v4 =>
    (f_mat_min w v4 8).bind fun p6 =>
    b_srv_giveList_49 p6.2 a0 s0 p6.1
  else
    b_srv_giveList_49 w a0 s0 8

def f_srv_giveList (w : rc_M) (a0 : Nat) : Option (rc_M) :=
  (rc_gI w (some a0) 2 11).bind fun v1 =>
  if 0 ≤ v1 then
    (rc_gR w (some a0) 2 0).bind fun v4 =>
    (rc_rc w v4 3).bind fun a6 =>
    (f_map_size w a6).bind fun p8 =>
    (rc_gI p8.2 (some a0) 2 11).bind fun v10 =>
    (f_mat_max p8.2 0 (p8.1 - v10)).bind fun p12 =>
    b_srv_giveList_27 p12.2 a0 p12.1
  else
    b_srv_giveList_27 w a0 0

def b_srv_giveRemoved_20 (w : rc_M) (a0 : Nat) (x1 : Int32) (s0 : Option Nat) (s1 : Int32) : Option (rc_M) :=
  (rc_rc w s0 1).bind fun a1 =>
  (g_row_addTruth w a1 s1).bind fun w3 =>
  (rc_gR w3 (some a0) 2 0).bind fun v5 =>
  (rc_rc w3 v5 3).bind fun a7 =>
  (f_map_remove w3 a7 x1).bind fun w9 =>
  some w9

def f_srv_giveRemoved (w : rc_M) (a0 : Nat) : Option (rc_M) :=
  (rc_rc w (some a0) 2).bind fun a1 =>
  (f_srv_placeTaken w a1 0).bind fun p3 =>
  (rc_gR p3.2 (some a0) 2 2).bind fun v5 =>
  if p3.1 = ((-1)) then
    b_srv_giveRemoved_20 p3.2 a0 p3.1 v5 0
  else
    b_srv_giveRemoved_20 p3.2 a0 p3.1 v5 1

def b_srv_give_112 (w : rc_M) : Option (rc_M) :=
  some w

def f_srv_give (w : rc_M) (a0 : Nat) : Option (rc_M) :=
  (rc_gI w (some a0) 2 8).bind fun v1 =>
  if v1 = 1 then
    (rc_rc w (some a0) 2).bind fun a4 =>
    (f_srv_giveSet w a4).bind fun w6 =>
    b_srv_give_112 w6 
  else
    if v1 = 2 then
      (rc_rc w (some a0) 2).bind fun a9 =>
      (f_srv_placeTaken w a9 0).bind fun p11 =>
      (rc_rc p11.2 (some a0) 2).bind fun a13 =>
      (f_srv_giveValueAt p11.2 a13 p11.1).bind fun w15 =>
      b_srv_give_112 w15 
    else
      if v1 = 3 then
        (rc_gR w (some a0) 2 0).bind fun v18 =>
        (rc_rc w (some a0) 2).bind fun a20 =>
        (f_srv_placeTaken w a20 0).bind fun p22 =>
        (rc_gL p22.2 (some a0) 2 10).bind fun v24 =>
        (rc_rc p22.2 v18 3).bind fun a26 =>
        (f_map_addToValue p22.2 a26 p22.1 v24).bind fun w28 =>
        (rc_rc w28 (some a0) 2).bind fun a30 =>
        (f_srv_placeTaken w28 a30 0).bind fun p32 =>
        (rc_rc p32.2 (some a0) 2).bind fun a34 =>
        (f_srv_giveValueAt p32.2 a34 p32.1).bind fun w36 =>
        b_srv_give_112 w36 
      else
        if v1 = 4 then
          (rc_rc w (some a0) 2).bind fun a39 =>
          (f_srv_giveSum w a39).bind fun w41 =>
          b_srv_give_112 w41 
        else
          if v1 = 5 then
            (rc_rc w (some a0) 2).bind fun a44 =>
            (f_srv_giveList w a44).bind fun w46 =>
            b_srv_give_112 w46 
          else
            if v1 = 6 then
              (rc_rc w (some a0) 2).bind fun a49 =>
              (f_srv_giveRemoved w a49).bind fun w51 =>
              b_srv_give_112 w51 
            else
              b_srv_give_112 w 

def b_srv_replyTo_17 (w : rc_M) (a0 : Nat) : Option (Option Nat × rc_M) :=
  (rc_gI w (some a0) 2 5).bind fun v1 =>
  (rc_pI w (some a0) 2 5 (v1 + 1)).bind fun w3 =>
  some (none, w3)

def b_srv_replyTo_126 (w : rc_M) (a0 : Nat) (r2 : Option Nat) (x3 : Int32) : Option (Option Nat × rc_M) :=
  (rc_gR w (some a0) 2 2).bind fun v1 =>
  (rc_rc w r2 6).bind fun a3 =>
  (f_rpl_keep w a3 x3 v1).bind fun w5 =>
  (rc_gR w5 (some a0) 2 2).bind fun v7 =>
  some (v7, w5)

def b_srv_replyTo_100 (w : rc_M) (a0 : Nat) (r2 : Option Nat) (x3 : Int32) (x5 : Int32) : Option (Option Nat × rc_M) :=
  (rc_rc w (some a0) 2).bind fun a1 =>
  (f_srv_beginReply w a1 x3 x5).bind fun w3 =>
  if x5 = 0 then
    (rc_gI w3 (some a0) 2 3).bind fun v6 =>
    (rc_pI w3 (some a0) 2 3 (v6 + 1)).bind fun w8 =>
    (rc_rc w8 (some a0) 2).bind fun a10 =>
    (f_srv_give w8 a10).bind fun w12 =>
    b_srv_replyTo_126 w12 a0 r2 x3
  else
    b_srv_replyTo_126 w3 a0 r2 x3

def f_srv_replyTo (w : rc_M) (a0 : Nat) (r1 : Option Nat) (r2 : Option Nat) : Option (Option Nat × rc_M) :=
  (rc_rc w r1 1).bind fun a1 =>
  (g_row_size w a1).bind fun p3 =>
  if p3.1 < 8 then
    b_srv_replyTo_17 p3.2 a0
  else
    (rc_rc p3.2 r1 1).bind fun a6 =>
    (g_row_wordAt p3.2 a6 4).bind fun p8 =>
    if p8.1 = 0 then
      (rc_rc p8.2 r1 1).bind fun a11 =>
      (g_row_wordAt p8.2 a11 0).bind fun p13 =>
      (rc_rc p13.2 r2 6).bind fun a15 =>
      (f_rpl_find p13.2 a15 p13.1).bind fun p17 =>
      if p17.1 = none then
        (rc_rc p17.2 (some a0) 2).bind fun a20 =>
        (f_srv_verdictOn p17.2 a20 r1).bind fun p22 =>
        if p22.1 = ((-1)) then
          (rc_gI p22.2 (some a0) 2 5).bind fun v31 =>
          (rc_pI p22.2 (some a0) 2 5 (v31 + 1)).bind fun w33 =>
          some (none, w33)
        else
          if p22.1 = 0 then
            (rc_rc p22.2 (some a0) 2).bind fun a26 =>
            (f_srv_isTaken p22.2 a26).bind fun p28 =>
            if p28.1 = 0 then
              b_srv_replyTo_100 p28.2 a0 r2 p13.1 4
            else
              b_srv_replyTo_100 p28.2 a0 r2 p13.1 p22.1
          else
            b_srv_replyTo_100 p22.2 a0 r2 p13.1 p22.1
      else
        (rc_gI p17.2 (some a0) 2 4).bind fun v35 =>
        (rc_pI p17.2 (some a0) 2 4 (v35 + 1)).bind fun w37 =>
        some (p17.1, w37)
    else
      b_srv_replyTo_17 p8.2 a0

def b_rec_init_99 : Nat → rc_M → Nat → Int32 → Option (rc_M)
  | 0, _, _, _ => none
  | fuel + 1, w, a0, x1 =>
    if 4 ≤ x1 then
      some w
    else
      (rc_gR w (some a0) 0 2).bind fun v2 =>
      (rc_new w 5).bind fun p4 =>
      (f_con_init p4.2 p4.1).bind fun w6 =>
      (rc_sR w6 v2 5 5 x1 (some p4.1)).bind fun w8 =>
      b_rec_init_99 fuel w8 a0 (x1 + 1)

def b_rec_init_72 : Nat → rc_M → Nat → Int32 → Option (rc_M)
  | 0, _, _, _ => none
  | fuel + 1, w, a0, x1 =>
    if 64 ≤ x1 then
      b_rec_init_99 5000 w a0 0
    else
      (rc_gR w (some a0) 0 1).bind fun v2 =>
      (rc_new w 1).bind fun p4 =>
      (g_row_init p4.2 p4.1).bind fun w6 =>
      (rc_sR w6 v2 4 1 x1 (some p4.1)).bind fun w8 =>
      b_rec_init_72 fuel w8 a0 (x1 + 1)

def f_rec_init (w : rc_M) (a0 : Nat) : Option (rc_M) :=
  (rc_new w 1).bind fun p1 =>
  (g_row_init p1.2 p1.1).bind fun w3 =>
  (rc_pR w3 (some a0) 0 0 (some p1.1)).bind fun w5 =>
  (rc_newA w5 4 64).bind fun p7 =>
  (rc_pR p7.2 (some a0) 0 1 (some p7.1)).bind fun w9 =>
  (rc_newA w9 5 4).bind fun p11 =>
  (rc_pR p11.2 (some a0) 0 2 (some p11.1)).bind fun w13 =>
  (rc_new w13 2).bind fun p15 =>
  (f_srv_init p15.2 p15.1).bind fun w17 =>
  (rc_pR w17 (some a0) 0 3 (some p15.1)).bind fun w19 =>
  (rc_new w19 1).bind fun p21 =>
  (g_row_init p21.2 p21.1).bind fun w23 =>
  (rc_pR w23 (some a0) 0 4 (some p21.1)).bind fun w25 =>
  (rc_new w25 1).bind fun p27 =>
  (g_row_init p27.2 p27.1).bind fun w29 =>
  (rc_pR w29 (some a0) 0 5 (some p27.1)).bind fun w31 =>
  (rc_pI w31 (some a0) 0 6 0).bind fun w33 =>
  b_rec_init_72 5000 w33 a0 0

def f_rec_slotRow (w : rc_M) (a0 : Nat) (x1 : Int32) : Option (Option Nat × rc_M) :=
  (rc_gR w (some a0) 0 1).bind fun v1 =>
  (rc_aR w v1 4 (x1 &&& 63)).bind fun v3 =>
  some (v3, w)

def f_rec_newSlot (w : rc_M) (a0 : Nat) : Option (Option Nat × rc_M) :=
  (rc_gI w (some a0) 0 6).bind fun v1 =>
  (rc_rc w (some a0) 0).bind fun a3 =>
  (f_rec_slotRow w a3 v1).bind fun p5 =>
  (rc_gI p5.2 (some a0) 0 6).bind fun v7 =>
  (rc_pI p5.2 (some a0) 0 6 (v7 + 1)).bind fun w9 =>
  (rc_rc w9 p5.1 1).bind fun a11 =>
  (g_row_clear w9 a11).bind fun w13 =>
  some (p5.1, w13)

def f_rec_tapeIsSlot (w : rc_M) (a0 : Nat) : Option (Int32 × rc_M) :=
  (rc_gR w (some a0) 0 0).bind fun v1 =>
  (rc_rc w v1 1).bind fun a3 =>
  (g_row_clear w a3).bind fun w5 =>
  (rc_gI w5 (some a0) 0 6).bind fun v7 =>
  some (v7 - 1, w5)

def f_rec_raw (w : rc_M) (a0 : Nat) : Option (Int32 × rc_M) :=
  (rc_rc w (some a0) 0).bind fun a1 =>
  (f_rec_newSlot w a1).bind fun p3 =>
  (rc_gR p3.2 (some a0) 0 0).bind fun v5 =>
  (rc_gR p3.2 (some a0) 0 0).bind fun v7 =>
  (rc_rc p3.2 v7 1).bind fun a9 =>
  (g_row_size p3.2 a9).bind fun p11 =>
  (rc_rc p11.2 p3.1 1).bind fun a13 =>
  (g_row_addPart p11.2 a13 v5 0 p11.1).bind fun w15 =>
  (rc_rc w15 (some a0) 0).bind fun a17 =>
  (f_rec_tapeIsSlot w15 a17).bind fun p19 =>
  some (p19.1, p19.2)

set_option maxRecDepth 100000 in
set_option maxHeartbeats 4000000 in
theorem ct_srv_placeTaken {l : Launch} {G : rc_G} {w : rc_M} {a0 : Nat} {x1 : Int32} {res : Int32 × rc_M} (h : f_srv_placeTaken w a0 x1 = some res) : rc_Ct l G y_srv_placeTaken prog_7_method_10_code 2 (some .int) 3 69 [va_rf (some a0), .int x1] w (some (.int res.1)) res.2 := by
  refine rc_enter (by decide +kernel) (by simp [lg_sl, va_rf_cat, rc_cat_i, rc_cat_l]) ?_
  intro X _ _ hN hF hL C E
  have hlv : lv_args 0 [va_rf (some a0), .int x1] = [(0, va_rf (some a0)), (1, .int x1)] := by simp [lv_args, va_rf_cat, rc_cat_i, rc_cat_l]
  rw [hlv]
  clear hlv
  unfold f_srv_placeTaken at h
  refine j_aload_n C d_srv_placeTaken_0 rfl 0 rfl ?_
  obtain ⟨v1, h2, h⟩ := Option.bind_eq_some_iff.mp h
  refine j_getR C fl_srv_12 h2 d_srv_placeTaken_1 rfl ?_
  refine j_aload_n C d_srv_placeTaken_4 rfl 0 rfl ?_
  obtain ⟨v3, h4, h⟩ := Option.bind_eq_some_iff.mp h
  refine j_getR C fl_srv_21 h4 d_srv_placeTaken_5 rfl ?_
  obtain ⟨a5, h6, h⟩ := Option.bind_eq_some_iff.mp h
  obtain ⟨p7, h8, h⟩ := Option.bind_eq_some_iff.mp h
  refine j_callV C (As := []) (st := [va_rf v1]) (sk' := [va_rf p7.1, va_rf v1]) mk_rdr_row (Or.inl T_568) T_569 T_570 (ci := 4) rfl h6 (rc_le hF (by decide)) (rc_le hL (by decide)) (ct_rdr_row h8) rfl rfl (by simp [va_rf_cat, rc_cat_i, rc_cat_l]) d_srv_placeTaken_8 rfl rfl ?_
  refine j_aload_n C d_srv_placeTaken_11 rfl 0 rfl ?_
  obtain ⟨v9, h10, h⟩ := Option.bind_eq_some_iff.mp h
  refine j_getR C fl_srv_42 h10 d_srv_placeTaken_12 rfl ?_
  refine j_iload_n C d_srv_placeTaken_15 rfl 1 rfl ?_
  obtain ⟨v11, h12, h⟩ := Option.bind_eq_some_iff.mp h
  refine j_iald C h12 d_srv_placeTaken_16 rfl ?_
  refine j_aload_n C d_srv_placeTaken_17 rfl 0 rfl ?_
  obtain ⟨v13, h14, h⟩ := Option.bind_eq_some_iff.mp h
  refine j_getR C fl_srv_46 h14 d_srv_placeTaken_18 rfl ?_
  refine j_iload_n C d_srv_placeTaken_21 rfl 1 rfl ?_
  obtain ⟨v15, h16, h⟩ := Option.bind_eq_some_iff.mp h
  refine j_iald C h16 d_srv_placeTaken_22 rfl ?_
  obtain ⟨a17, h18, h⟩ := Option.bind_eq_some_iff.mp h
  obtain ⟨p19, h20, h⟩ := Option.bind_eq_some_iff.mp h
  refine j_callV C (As := [va_rf p7.1, .int v11, .int v15]) (st := []) (sk' := [.int p19.1]) mk_map_placeOf (Or.inl T_572) T_265 T_266 (ci := 3) rfl h18 (rc_le hF (by decide)) (rc_le hL (by decide)) (ct_map_placeOf h20) rfl rfl (by decide) d_srv_placeTaken_23 rfl rfl ?_
  cases h
  exact j_iret C E d_srv_placeTaken_26

set_option maxRecDepth 100000 in
set_option maxHeartbeats 4000000 in
theorem k_srv_giveSet_120 {X : rc_X} {w0 : rc_M} (hF : (q_R X).frames = 5) (hL : (q_R X).locals = 119) (hN : q_n X = 3) (C : rc_C X "RecordCalls$Server" prog_7_method_11_code w0) {res : rc_M} (E : rc_E0 X y_srv_giveSet none none res) {w : rc_M}  (h : b_srv_giveSet_120 w  = some res) : rc_J X w 120 [] [] := by
  unfold b_srv_giveSet_120 at h
  cases h
  exact j_vret C E d_srv_giveSet_120

set_option maxRecDepth 100000 in
set_option maxHeartbeats 4000000 in
theorem k_srv_giveSet_40 {X : rc_X} {w0 : rc_M} (hF : (q_R X).frames = 5) (hL : (q_R X).locals = 119) (hN : q_n X = 3) (C : rc_C X "RecordCalls$Server" prog_7_method_11_code w0) {res : rc_M} (E : rc_E0 X y_srv_giveSet none none res) {w : rc_M} {a0 : Nat} {x1 : Int32} {x2 : Int32} (h : b_srv_giveSet_40 w a0 x1 x2 = some res) : rc_J X w 40 [] [(0, va_rf (some a0)), (1, .int x1), (2, .int x2)] := by
  unfold b_srv_giveSet_40 at h
  refine j_aload_n C d_srv_giveSet_40 rfl 0 rfl ?_
  obtain ⟨v1, h2, h⟩ := Option.bind_eq_some_iff.mp h
  refine j_getR C fl_srv_28 h2 d_srv_giveSet_41 rfl ?_
  refine j_iconst (v := 0) C d_srv_giveSet_44 rfl (by decide) ?_
  obtain ⟨a3, h4, h⟩ := Option.bind_eq_some_iff.mp h
  obtain ⟨w5, h6, h⟩ := Option.bind_eq_some_iff.mp h
  refine j_callV C (As := [.int 0]) (st := []) (sk' := []) mk_row_addWord (Or.inl T_554) T_360 T_361 (ci := 1) rfl h4 (rc_le hF (by decide)) (rc_le hL (by decide)) (cg_row_addWord h6) rfl rfl (by decide) d_srv_giveSet_45 rfl rfl ?_
  refine j_aload_n C d_srv_giveSet_48 rfl 0 rfl ?_
  obtain ⟨v7, h8, h⟩ := Option.bind_eq_some_iff.mp h
  refine j_getR C fl_srv_28 h8 d_srv_giveSet_49 rfl ?_
  refine j_iload_n C d_srv_giveSet_52 rfl 2 rfl ?_
  obtain ⟨a9, h10, h⟩ := Option.bind_eq_some_iff.mp h
  obtain ⟨w11, h12, h⟩ := Option.bind_eq_some_iff.mp h
  refine j_callV C (As := [.int x2]) (st := []) (sk' := []) mk_row_addTruth (Or.inl T_577) T_578 T_579 (ci := 1) rfl h10 (rc_le hF (by decide)) (rc_le hL (by decide)) (cg_row_addTruth h12) rfl rfl (by decide) d_srv_giveSet_53 rfl rfl ?_
  refine j_iload_n C d_srv_giveSet_56 rfl 2 rfl ?_
  refine j_if_eq (tgt := 90) C d_srv_giveSet_57 (by decide) rfl (fun c13 => ?_) (fun c13 => ?_)
  · rw [if_pos c13] at h
    refine j_aload_n C d_srv_giveSet_90 rfl 0 rfl ?_
    obtain ⟨v14, h15, h⟩ := Option.bind_eq_some_iff.mp h
    refine j_getR C fl_srv_12 h15 d_srv_giveSet_91 rfl ?_
    refine j_aload_n C d_srv_giveSet_94 rfl 0 rfl ?_
    obtain ⟨v16, h17, h⟩ := Option.bind_eq_some_iff.mp h
    refine j_getR C fl_srv_21 h17 d_srv_giveSet_95 rfl ?_
    obtain ⟨a18, h19, h⟩ := Option.bind_eq_some_iff.mp h
    obtain ⟨p20, h21, h⟩ := Option.bind_eq_some_iff.mp h
    refine j_callV C (As := []) (st := [va_rf v14]) (sk' := [va_rf p20.1, va_rf v14]) mk_rdr_row (Or.inl T_568) T_569 T_570 (ci := 4) rfl h19 (rc_le hF (by decide)) (rc_le hL (by decide)) (ct_rdr_row h21) rfl rfl (by simp [va_rf_cat, rc_cat_i, rc_cat_l]) d_srv_giveSet_98 rfl rfl ?_
    refine j_aload_n C d_srv_giveSet_101 rfl 0 rfl ?_
    obtain ⟨v22, h23, h⟩ := Option.bind_eq_some_iff.mp h
    refine j_getR C fl_srv_42 h23 d_srv_giveSet_102 rfl ?_
    refine j_iconst (v := 0) C d_srv_giveSet_105 rfl (by decide) ?_
    obtain ⟨v24, h25, h⟩ := Option.bind_eq_some_iff.mp h
    refine j_iald C h25 d_srv_giveSet_106 rfl ?_
    refine j_aload_n C d_srv_giveSet_107 rfl 0 rfl ?_
    obtain ⟨v26, h27, h⟩ := Option.bind_eq_some_iff.mp h
    refine j_getR C fl_srv_46 h27 d_srv_giveSet_108 rfl ?_
    refine j_iconst (v := 0) C d_srv_giveSet_111 rfl (by decide) ?_
    obtain ⟨v28, h29, h⟩ := Option.bind_eq_some_iff.mp h
    refine j_iald C h29 d_srv_giveSet_112 rfl ?_
    refine j_aload_n C d_srv_giveSet_113 rfl 0 rfl ?_
    obtain ⟨v30, h31, h⟩ := Option.bind_eq_some_iff.mp h
    refine j_getL C fl_srv_55 h31 d_srv_giveSet_114 rfl ?_
    obtain ⟨a32, h33, h⟩ := Option.bind_eq_some_iff.mp h
    obtain ⟨w34, h35, h⟩ := Option.bind_eq_some_iff.mp h
    refine j_callV C (As := [va_rf p20.1, .int v24, .int v28, .long v30]) (st := []) (sk' := []) mk_map_addNew (Or.inl T_587) T_588 T_589 (ci := 3) rfl h33 (rc_le hF (by decide)) (rc_le hL (by decide)) (ct_map_addNew h35) rfl rfl (by decide) d_srv_giveSet_117 rfl rfl ?_
    refine rc_J.sub (lv' := []) [] rfl ?_
    exact k_srv_giveSet_120 hF hL hN C E h
  · rw [if_neg c13] at h
    refine j_aload_n C d_srv_giveSet_60 rfl 0 rfl ?_
    obtain ⟨v36, h37, h⟩ := Option.bind_eq_some_iff.mp h
    refine j_getR C fl_srv_28 h37 d_srv_giveSet_61 rfl ?_
    refine j_aload_n C d_srv_giveSet_64 rfl 0 rfl ?_
    obtain ⟨v38, h39, h⟩ := Option.bind_eq_some_iff.mp h
    refine j_getR C fl_srv_12 h39 d_srv_giveSet_65 rfl ?_
    refine j_iload_n C d_srv_giveSet_68 rfl 1 rfl ?_
    obtain ⟨a40, h41, h⟩ := Option.bind_eq_some_iff.mp h
    obtain ⟨p42, h43, h⟩ := Option.bind_eq_some_iff.mp h
    refine j_callV C (As := [.int x1]) (st := [va_rf v36]) (sk' := [.long p42.1, va_rf v36]) mk_map_valueAt (Or.inl T_581) T_277 T_278 (ci := 3) rfl h41 (rc_le hF (by decide)) (rc_le hL (by decide)) (ct_map_valueAt h43) rfl rfl (by simp [va_rf_cat, rc_cat_i, rc_cat_l]) d_srv_giveSet_69 rfl rfl ?_
    obtain ⟨a44, h45, h⟩ := Option.bind_eq_some_iff.mp h
    obtain ⟨w46, h47, h⟩ := Option.bind_eq_some_iff.mp h
    refine j_callV C (As := [.long p42.1]) (st := []) (sk' := []) mk_row_addLong (Or.inl T_582) T_427 T_428 (ci := 1) rfl h45 (rc_le hF (by decide)) (rc_le hL (by decide)) (cg_row_addLong h47) rfl rfl (by decide) d_srv_giveSet_72 rfl rfl ?_
    refine j_aload_n C d_srv_giveSet_75 rfl 0 rfl ?_
    obtain ⟨v48, h49, h⟩ := Option.bind_eq_some_iff.mp h
    refine j_getR C fl_srv_12 h49 d_srv_giveSet_76 rfl ?_
    refine j_iload_n C d_srv_giveSet_79 rfl 1 rfl ?_
    refine j_aload_n C d_srv_giveSet_80 rfl 0 rfl ?_
    obtain ⟨v50, h51, h⟩ := Option.bind_eq_some_iff.mp h
    refine j_getL C fl_srv_55 h51 d_srv_giveSet_81 rfl ?_
    obtain ⟨a52, h53, h⟩ := Option.bind_eq_some_iff.mp h
    obtain ⟨w54, h55, h⟩ := Option.bind_eq_some_iff.mp h
    refine j_callV C (As := [.int x1, .long v50]) (st := []) (sk' := []) mk_map_setValue (Or.inl T_583) T_584 T_585 (ci := 3) rfl h53 (rc_le hF (by decide)) (rc_le hL (by decide)) (ct_map_setValue h55) rfl rfl (by decide) d_srv_giveSet_84 rfl rfl ?_
    refine j_goto (tgt := 120) C d_srv_giveSet_87 (by decide) ?_
    refine rc_J.sub (lv' := []) [] rfl ?_
    exact k_srv_giveSet_120 hF hL hN C E h

set_option maxRecDepth 100000 in
set_option maxHeartbeats 4000000 in
theorem k_srv_giveSet_16 {X : rc_X} {w0 : rc_M} (hF : (q_R X).frames = 5) (hL : (q_R X).locals = 119) (hN : q_n X = 3) (C : rc_C X "RecordCalls$Server" prog_7_method_11_code w0) {res : rc_M} (E : rc_E0 X y_srv_giveSet none none res) {w : rc_M} {a0 : Nat} {x1 : Int32} {s0 : Int32} (h : b_srv_giveSet_16 w a0 x1 s0 = some res) : rc_J X w 16 [.int s0] [(0, va_rf (some a0)), (1, .int x1)] := by
  unfold b_srv_giveSet_16 at h
  refine j_istore_n C (i := 2) d_srv_giveSet_16 rfl rfl [(2, .int s0), (0, va_rf (some a0)), (1, .int x1)] (rc_lt hN (by decide)) (by first | rfl | simp [va_rf_cat, rc_cat_i, rc_cat_l]) ?_
  refine j_iload_n C d_srv_giveSet_17 rfl 0 rfl ?_
  refine j_if_ne (tgt := 40) C d_srv_giveSet_18 (by decide) rfl (fun c1 => ?_) (fun c1 => ?_)
  · rw [if_neg c1] at h
    refine rc_J.sub (lv' := [(0, va_rf (some a0)), (1, .int x1), (2, .int s0)]) [1, 2, 0] rfl ?_
    exact k_srv_giveSet_40 hF hL hN C E h
  · rw [if_pos c1] at h
    refine j_aload_n C d_srv_giveSet_21 rfl 1 rfl ?_
    obtain ⟨v2, h3, h⟩ := Option.bind_eq_some_iff.mp h
    refine j_getR C fl_srv_12 h3 d_srv_giveSet_22 rfl ?_
    obtain ⟨a4, h5, h⟩ := Option.bind_eq_some_iff.mp h
    obtain ⟨p6, h7, h⟩ := Option.bind_eq_some_iff.mp h
    refine j_callV C (As := []) (st := []) (sk' := [.int p6.1]) mk_map_isFull (Or.inl T_573) T_574 T_575 (ci := 3) rfl h5 (rc_le hF (by decide)) (rc_le hL (by decide)) (ct_map_isFull h7) rfl rfl (by decide) d_srv_giveSet_25 rfl rfl ?_
    refine j_if_eq (tgt := 40) C d_srv_giveSet_28 (by decide) rfl (fun c8 => ?_) (fun c8 => ?_)
    · rw [if_pos c8] at h
      refine rc_J.sub (lv' := [(0, va_rf (some a0)), (1, .int x1), (2, .int s0)]) [1, 2, 0] rfl ?_
      exact k_srv_giveSet_40 hF hL hN C E h
    · rw [if_neg c8] at h
      refine j_aload_n C d_srv_giveSet_31 rfl 1 rfl ?_
      obtain ⟨v9, h10, h⟩ := Option.bind_eq_some_iff.mp h
      refine j_getR C fl_srv_28 h10 d_srv_giveSet_32 rfl ?_
      refine j_iconst (v := 1) C d_srv_giveSet_35 rfl (by decide) ?_
      obtain ⟨a11, h12, h⟩ := Option.bind_eq_some_iff.mp h
      obtain ⟨w13, h14, h⟩ := Option.bind_eq_some_iff.mp h
      refine j_callV C (As := [.int 1]) (st := []) (sk' := []) mk_row_addWord (Or.inl T_554) T_360 T_361 (ci := 1) rfl h12 (rc_le hF (by decide)) (rc_le hL (by decide)) (cg_row_addWord h14) rfl rfl (by decide) d_srv_giveSet_36 rfl rfl ?_
      cases h
      exact j_vret C E d_srv_giveSet_39

set_option maxRecDepth 100000 in
set_option maxHeartbeats 4000000 in
theorem ct_srv_giveSet {l : Launch} {G : rc_G} {w : rc_M} {a0 : Nat} {res : rc_M} (h : f_srv_giveSet w a0 = some res) : rc_Ct l G y_srv_giveSet prog_7_method_11_code 3 none 5 119 [va_rf (some a0)] w none res := by
  refine rc_enter (by decide +kernel) (by simp [lg_sl, va_rf_cat, rc_cat_i, rc_cat_l]) ?_
  intro X _ _ hN hF hL C E
  have hlv : lv_args 0 [va_rf (some a0)] = [(0, va_rf (some a0))] := by simp [lv_args, va_rf_cat, rc_cat_i, rc_cat_l]
  rw [hlv]
  clear hlv
  unfold f_srv_giveSet at h
  refine j_aload_n C d_srv_giveSet_0 rfl 0 rfl ?_
  refine j_iconst (v := 0) C d_srv_giveSet_1 rfl (by decide) ?_
  obtain ⟨a1, h2, h⟩ := Option.bind_eq_some_iff.mp h
  obtain ⟨p3, h4, h⟩ := Option.bind_eq_some_iff.mp h
  refine j_callV C (As := [.int 0]) (st := []) (sk' := [.int p3.1]) mk_srv_placeTaken (Or.inl T_564) T_566 S_17 (ci := 2) rfl h2 (rc_le hF (by decide)) (rc_le hL (by decide)) (ct_srv_placeTaken h4) rfl rfl (by decide) d_srv_giveSet_2 rfl rfl ?_
  refine j_istore_n C (i := 1) d_srv_giveSet_5 rfl rfl [(1, .int p3.1), (0, va_rf (some a0))] (rc_lt hN (by decide)) (by first | rfl | simp [va_rf_cat, rc_cat_i, rc_cat_l]) ?_
  refine j_iload_n C d_srv_giveSet_6 rfl 0 rfl ?_
  refine j_iconst (v := (-1)) C d_srv_giveSet_7 rfl (by decide) ?_
  refine j_icmp_eq (tgt := 15) C d_srv_giveSet_8 (by decide) rfl (fun c5 => ?_) (fun c5 => ?_)
  · rw [if_pos c5] at h
    refine j_iconst (v := 0) C d_srv_giveSet_15 rfl (by decide) ?_
    refine rc_J.sub (lv' := [(0, va_rf (some a0)), (1, .int p3.1)]) [1, 0] rfl ?_
    exact k_srv_giveSet_16 hF hL hN C E h
  · rw [if_neg c5] at h
    refine j_iconst (v := 1) C d_srv_giveSet_11 rfl (by decide) ?_
    refine j_goto (tgt := 16) C d_srv_giveSet_12 (by decide) ?_
    refine rc_J.sub (lv' := [(0, va_rf (some a0)), (1, .int p3.1)]) [1, 0] rfl ?_
    exact k_srv_giveSet_16 hF hL hN C E h

set_option maxRecDepth 100000 in
set_option maxHeartbeats 4000000 in
theorem ct_srv_giveValueAt {l : Launch} {G : rc_G} {w : rc_M} {a0 : Nat} {x1 : Int32} {res : rc_M} (h : f_srv_giveValueAt w a0 x1 = some res) : rc_Ct l G y_srv_giveValueAt prog_7_method_12_code 2 none 5 114 [va_rf (some a0), .int x1] w none res := by
  refine rc_enter (by decide +kernel) (by simp [lg_sl, va_rf_cat, rc_cat_i, rc_cat_l]) ?_
  intro X _ _ hN hF hL C E
  have hlv : lv_args 0 [va_rf (some a0), .int x1] = [(0, va_rf (some a0)), (1, .int x1)] := by simp [lv_args, va_rf_cat, rc_cat_i, rc_cat_l]
  rw [hlv]
  clear hlv
  unfold f_srv_giveValueAt at h
  refine j_iload_n C d_srv_giveValueAt_0 rfl 1 rfl ?_
  refine j_iconst (v := (-1)) C d_srv_giveValueAt_1 rfl (by decide) ?_
  refine j_icmp_ne (tgt := 14) C d_srv_giveValueAt_2 (by decide) rfl (fun c1 => ?_) (fun c1 => ?_)
  · rw [if_neg c1] at h
    refine j_aload_n C d_srv_giveValueAt_14 rfl 0 rfl ?_
    obtain ⟨v2, h3, h⟩ := Option.bind_eq_some_iff.mp h
    refine j_getR C fl_srv_28 h3 d_srv_giveValueAt_15 rfl ?_
    refine j_iconst (v := 0) C d_srv_giveValueAt_18 rfl (by decide) ?_
    obtain ⟨a4, h5, h⟩ := Option.bind_eq_some_iff.mp h
    obtain ⟨w6, h7, h⟩ := Option.bind_eq_some_iff.mp h
    refine j_callV C (As := [.int 0]) (st := []) (sk' := []) mk_row_addWord (Or.inl T_554) T_360 T_361 (ci := 1) rfl h5 (rc_le hF (by decide)) (rc_le hL (by decide)) (cg_row_addWord h7) rfl rfl (by decide) d_srv_giveValueAt_19 rfl rfl ?_
    refine j_aload_n C d_srv_giveValueAt_22 rfl 0 rfl ?_
    obtain ⟨v8, h9, h⟩ := Option.bind_eq_some_iff.mp h
    refine j_getR C fl_srv_28 h9 d_srv_giveValueAt_23 rfl ?_
    refine j_aload_n C d_srv_giveValueAt_26 rfl 0 rfl ?_
    obtain ⟨v10, h11, h⟩ := Option.bind_eq_some_iff.mp h
    refine j_getR C fl_srv_12 h11 d_srv_giveValueAt_27 rfl ?_
    refine j_iload_n C d_srv_giveValueAt_30 rfl 1 rfl ?_
    obtain ⟨a12, h13, h⟩ := Option.bind_eq_some_iff.mp h
    obtain ⟨p14, h15, h⟩ := Option.bind_eq_some_iff.mp h
    refine j_callV C (As := [.int x1]) (st := [va_rf v8]) (sk' := [.long p14.1, va_rf v8]) mk_map_valueAt (Or.inl T_581) T_277 T_278 (ci := 3) rfl h13 (rc_le hF (by decide)) (rc_le hL (by decide)) (ct_map_valueAt h15) rfl rfl (by simp [va_rf_cat, rc_cat_i, rc_cat_l]) d_srv_giveValueAt_31 rfl rfl ?_
    obtain ⟨a16, h17, h⟩ := Option.bind_eq_some_iff.mp h
    obtain ⟨w18, h19, h⟩ := Option.bind_eq_some_iff.mp h
    refine j_callV C (As := [.long p14.1]) (st := []) (sk' := []) mk_row_addLong (Or.inl T_582) T_427 T_428 (ci := 1) rfl h17 (rc_le hF (by decide)) (rc_le hL (by decide)) (cg_row_addLong h19) rfl rfl (by decide) d_srv_giveValueAt_34 rfl rfl ?_
    cases h
    exact j_vret C E d_srv_giveValueAt_37
  · rw [if_pos c1] at h
    refine j_aload_n C d_srv_giveValueAt_5 rfl 0 rfl ?_
    obtain ⟨v20, h21, h⟩ := Option.bind_eq_some_iff.mp h
    refine j_getR C fl_srv_28 h21 d_srv_giveValueAt_6 rfl ?_
    refine j_iconst (v := 2) C d_srv_giveValueAt_9 rfl (by decide) ?_
    obtain ⟨a22, h23, h⟩ := Option.bind_eq_some_iff.mp h
    obtain ⟨w24, h25, h⟩ := Option.bind_eq_some_iff.mp h
    refine j_callV C (As := [.int 2]) (st := []) (sk' := []) mk_row_addWord (Or.inl T_554) T_360 T_361 (ci := 1) rfl h23 (rc_le hF (by decide)) (rc_le hL (by decide)) (cg_row_addWord h25) rfl rfl (by decide) d_srv_giveValueAt_10 rfl rfl ?_
    cases h
    exact j_vret C E d_srv_giveValueAt_13

set_option maxRecDepth 100000 in
set_option maxHeartbeats 4000000 in
theorem k_srv_giveSum_48 {X : rc_X} {w0 : rc_M} (hF : (q_R X).frames = 5) (hL : (q_R X).locals = 114) (hN : q_n X = 6) (C : rc_C X "RecordCalls$Server" prog_7_method_13_code w0) {res : rc_M} (E : rc_E0 X y_srv_giveSum none none res) {k7 : rc_M → Nat → Int64 → Int32 → Int32 → Option (rc_M)} (hk7 : ∀ (w : rc_M) (a0 : Nat) (x1 : Int64) (x3 : Int32) (x4 : Int32), k7 w a0 x1 x3 x4 = some res → rc_J X w 7 [] [(0, va_rf (some a0)), (1, .long x1), (3, .int x3), (4, .int x4)]) {w : rc_M} {a0 : Nat} {x1 : Int64} {x4 : Int32} {s0 : Int32} {s1 : Int32} (h : b_srv_giveSum_48 k7 w a0 x1 x4 s0 s1 = some res) : rc_J X w 48 [.int s1, .int s0] [(0, va_rf (some a0)), (1, .long x1), (4, .int x4)] := by
  unfold b_srv_giveSum_48 at h
  refine j_iadd C d_srv_giveSum_48 rfl ?_
  refine j_istore_n C (i := 3) d_srv_giveSum_49 rfl rfl [(3, .int (s0 + s1)), (0, va_rf (some a0)), (1, .long x1), (4, .int x4)] (rc_lt hN (by decide)) (by first | rfl | simp [va_rf_cat, rc_cat_i, rc_cat_l]) ?_
  refine j_iinc C d_srv_giveSum_50 rfl 3 [(4, .int (x4 + 1)), (3, .int (s0 + s1)), (0, va_rf (some a0)), (1, .long x1)] rfl rfl (rc_lt hN (by decide)) (by first | rfl | simp [va_rf_cat, rc_cat_i, rc_cat_l]) ?_
  refine j_goto (tgt := 7) C d_srv_giveSum_53 (by decide) ?_
  refine rc_J.sub (lv' := [(0, va_rf (some a0)), (1, .long x1), (3, .int (s0 + s1)), (4, .int (x4 + 1))]) [2, 3, 1, 0] rfl ?_
  exact hk7 _ _ _ _ _ h

set_option maxRecDepth 100000 in
set_option maxHeartbeats 4000000 in
theorem k_srv_giveSum_7 {X : rc_X} {w0 : rc_M} (hF : (q_R X).frames = 5) (hL : (q_R X).locals = 114) (hN : q_n X = 6) (C : rc_C X "RecordCalls$Server" prog_7_method_13_code w0) {res : rc_M} (E : rc_E0 X y_srv_giveSum none none res) : ∀ (fuel : Nat) (w : rc_M) (a0 : Nat) (x1 : Int64) (x3 : Int32) (x4 : Int32), b_srv_giveSum_7 fuel w a0 x1 x3 x4 = some res → rc_J X w 7 [] [(0, va_rf (some a0)), (1, .long x1), (3, .int x3), (4, .int x4)] := by
  intro fuel
  induction fuel with
  | zero => intro w a0 x1 x3 x4 h; simp [b_srv_giveSum_7] at h
  | succ fuel ih =>
    intro w a0 x1 x3 x4 h
    unfold b_srv_giveSum_7 at h
    refine j_iload C d_srv_giveSum_7 rfl 3 rfl ?_
    refine j_aload_n C d_srv_giveSum_9 rfl 0 rfl ?_
    obtain ⟨v1, h2, h⟩ := Option.bind_eq_some_iff.mp h
    refine j_getI C fl_srv_52 h2 d_srv_giveSum_10 rfl ?_
    refine j_icmp_ge (tgt := 56) C d_srv_giveSum_13 (by decide) rfl (fun c3 => ?_) (fun c3 => ?_)
    · rw [if_pos c3] at h
      refine j_aload_n C d_srv_giveSum_56 rfl 0 rfl ?_
      obtain ⟨v4, h5, h⟩ := Option.bind_eq_some_iff.mp h
      refine j_getR C fl_srv_28 h5 d_srv_giveSum_57 rfl ?_
      refine j_lload_n C d_srv_giveSum_60 rfl 1 rfl ?_
      obtain ⟨a6, h7, h⟩ := Option.bind_eq_some_iff.mp h
      obtain ⟨w8, h9, h⟩ := Option.bind_eq_some_iff.mp h
      refine j_callV C (As := [.long x1]) (st := []) (sk' := []) mk_row_addLong (Or.inl T_582) T_427 T_428 (ci := 1) rfl h7 (rc_le hF (by decide)) (rc_le hL (by decide)) (cg_row_addLong h9) rfl rfl (by decide) d_srv_giveSum_61 rfl rfl ?_
      refine j_aload_n C d_srv_giveSum_64 rfl 0 rfl ?_
      obtain ⟨v10, h11, h⟩ := Option.bind_eq_some_iff.mp h
      refine j_getR C fl_srv_28 h11 d_srv_giveSum_65 rfl ?_
      refine j_iload_n C d_srv_giveSum_68 rfl 2 rfl ?_
      obtain ⟨a12, h13, h⟩ := Option.bind_eq_some_iff.mp h
      obtain ⟨w14, h15, h⟩ := Option.bind_eq_some_iff.mp h
      refine j_callV C (As := [.int x3]) (st := []) (sk' := []) mk_row_addWord (Or.inl T_554) T_360 T_361 (ci := 1) rfl h13 (rc_le hF (by decide)) (rc_le hL (by decide)) (cg_row_addWord h15) rfl rfl (by decide) d_srv_giveSum_69 rfl rfl ?_
      cases h
      exact j_vret C E d_srv_giveSum_72
    · rw [if_neg c3] at h
      refine j_aload_n C d_srv_giveSum_16 rfl 0 rfl ?_
      refine j_iload C d_srv_giveSum_17 rfl 3 rfl ?_
      obtain ⟨a16, h17, h⟩ := Option.bind_eq_some_iff.mp h
      obtain ⟨p18, h19, h⟩ := Option.bind_eq_some_iff.mp h
      refine j_callV C (As := [.int x4]) (st := []) (sk' := [.int p18.1]) mk_srv_placeTaken (Or.inl T_564) T_566 S_17 (ci := 2) rfl h17 (rc_le hF (by decide)) (rc_le hL (by decide)) (ct_srv_placeTaken h19) rfl rfl (by decide) d_srv_giveSum_19 rfl rfl ?_
      refine j_istore C (i := 5) d_srv_giveSum_22 rfl [(5, .int p18.1), (0, va_rf (some a0)), (1, .long x1), (3, .int x3), (4, .int x4)] (rc_lt hN (by decide)) (by first | rfl | simp [va_rf_cat, rc_cat_i, rc_cat_l]) ?_
      refine j_lload_n C d_srv_giveSum_24 rfl 2 rfl ?_
      refine j_aload_n C d_srv_giveSum_25 rfl 1 rfl ?_
      obtain ⟨v20, h21, h⟩ := Option.bind_eq_some_iff.mp h
      refine j_getR C fl_srv_12 h21 d_srv_giveSum_26 rfl ?_
      refine j_iload C d_srv_giveSum_29 rfl 0 rfl ?_
      obtain ⟨a22, h23, h⟩ := Option.bind_eq_some_iff.mp h
      obtain ⟨p24, h25, h⟩ := Option.bind_eq_some_iff.mp h
      refine j_callV C (As := [.int p18.1]) (st := [.long x1]) (sk' := [.long p24.1, .long x1]) mk_map_valueAt (Or.inl T_581) T_277 T_278 (ci := 3) rfl h23 (rc_le hF (by decide)) (rc_le hL (by decide)) (ct_map_valueAt h25) rfl rfl (by simp [va_rf_cat, rc_cat_i, rc_cat_l]) d_srv_giveSum_31 rfl rfl ?_
      refine j_ladd C d_srv_giveSum_34 rfl ?_
      refine j_lstore_n C (i := 1) d_srv_giveSum_35 rfl rfl [(1, .long (x1 + p24.1)), (5, .int p18.1), (0, va_rf (some a0)), (3, .int x3), (4, .int x4)] (rc_lt hN (by decide)) (by first | rfl | simp [va_rf_cat, rc_cat_i, rc_cat_l]) ?_
      refine j_iload_n C d_srv_giveSum_36 rfl 3 rfl ?_
      refine j_iload C d_srv_giveSum_37 rfl 1 rfl ?_
      refine j_iconst (v := (-1)) C d_srv_giveSum_39 rfl (by decide) ?_
      refine j_icmp_ne (tgt := 47) C d_srv_giveSum_40 (by decide) rfl (fun c26 => ?_) (fun c26 => ?_)
      · rw [if_neg c26] at h
        refine j_iconst (v := 0) C d_srv_giveSum_47 rfl (by decide) ?_
        refine rc_J.sub (lv' := [(0, va_rf (some a0)), (1, .long (x1 + p24.1)), (4, .int x4)]) [2, 0, 4] rfl ?_
        exact k_srv_giveSum_48 hF hL hN C E (fun w z0 z1 z2 z3 h => ih w z0 z1 z2 z3 h) h
      · rw [if_pos c26] at h
        refine j_iconst (v := 1) C d_srv_giveSum_43 rfl (by decide) ?_
        refine j_goto (tgt := 48) C d_srv_giveSum_44 (by decide) ?_
        refine rc_J.sub (lv' := [(0, va_rf (some a0)), (1, .long (x1 + p24.1)), (4, .int x4)]) [2, 0, 4] rfl ?_
        exact k_srv_giveSum_48 hF hL hN C E (fun w z0 z1 z2 z3 h => ih w z0 z1 z2 z3 h) h

set_option maxRecDepth 100000 in
set_option maxHeartbeats 4000000 in
theorem ct_srv_giveSum {l : Launch} {G : rc_G} {w : rc_M} {a0 : Nat} {res : rc_M} (h : f_srv_giveSum w a0 = some res) : rc_Ct l G y_srv_giveSum prog_7_method_13_code 6 none 5 114 [va_rf (some a0)] w none res := by
  refine rc_enter (by decide +kernel) (by simp [lg_sl, va_rf_cat, rc_cat_i, rc_cat_l]) ?_
  intro X _ _ hN hF hL C E
  have hlv : lv_args 0 [va_rf (some a0)] = [(0, va_rf (some a0))] := by simp [lv_args, va_rf_cat, rc_cat_i, rc_cat_l]
  rw [hlv]
  clear hlv
  unfold f_srv_giveSum at h
  refine j_lconst (v := 0) C d_srv_giveSum_0 rfl (by decide) ?_
  refine j_lstore_n C (i := 1) d_srv_giveSum_1 rfl rfl [(1, .long 0), (0, va_rf (some a0))] (rc_lt hN (by decide)) (by first | rfl | simp [va_rf_cat, rc_cat_i, rc_cat_l]) ?_
  refine j_iconst (v := 0) C d_srv_giveSum_2 rfl (by decide) ?_
  refine j_istore_n C (i := 3) d_srv_giveSum_3 rfl rfl [(3, .int 0), (1, .long 0), (0, va_rf (some a0))] (rc_lt hN (by decide)) (by first | rfl | simp [va_rf_cat, rc_cat_i, rc_cat_l]) ?_
  refine j_iconst (v := 0) C d_srv_giveSum_4 rfl (by decide) ?_
  refine j_istore C (i := 4) d_srv_giveSum_5 rfl [(4, .int 0), (3, .int 0), (1, .long 0), (0, va_rf (some a0))] (rc_lt hN (by decide)) (by first | rfl | simp [va_rf_cat, rc_cat_i, rc_cat_l]) ?_
  refine rc_J.sub (lv' := [(0, va_rf (some a0)), (1, .long 0), (3, .int 0), (4, .int 0)]) [3, 2, 1, 0] rfl ?_
  exact k_srv_giveSum_7 hF hL hN C E _ _ _ _ _ _ h

set_option maxRecDepth 100000 in
set_option maxHeartbeats 4000000 in
theorem k_srv_giveList_130 {X : rc_X} {w0 : rc_M} (hF : (q_R X).frames = 5) (hL : (q_R X).locals = 118) (hN : q_n X = 6) (C : rc_C X "RecordCalls$Server" prog_7_method_14_code w0) {res : rc_M} (E : rc_E0 X y_srv_giveList none none res) {k67 : rc_M → Nat → Int32 → Int32 → Int32 → Option (rc_M)} (hk67 : ∀ (w : rc_M) (a0 : Nat) (x1 : Int32) (x3 : Int32) (x4 : Int32), k67 w a0 x1 x3 x4 = some res → rc_J X w 67 [] [(0, va_rf (some a0)), (1, .int x1), (3, .int x3), (4, .int x4)]) {w : rc_M} {a0 : Nat} {x1 : Int32} {x3 : Int32} {x4 : Int32} (h : b_srv_giveList_130 k67 w a0 x1 x3 x4 = some res) : rc_J X w 130 [] [(0, va_rf (some a0)), (1, .int x1), (3, .int x3), (4, .int x4)] := by
  unfold b_srv_giveList_130 at h
  refine j_iinc C d_srv_giveList_130 rfl 3 [(4, .int (x4 + 1)), (0, va_rf (some a0)), (1, .int x1), (3, .int x3)] rfl rfl (rc_lt hN (by decide)) (by first | rfl | simp [va_rf_cat, rc_cat_i, rc_cat_l]) ?_
  refine j_goto (tgt := 67) C d_srv_giveList_133 (by decide) ?_
  refine rc_J.sub (lv' := [(0, va_rf (some a0)), (1, .int x1), (3, .int x3), (4, .int (x4 + 1))]) [1, 2, 3, 0] rfl ?_
  exact hk67 _ _ _ _ _ h

set_option maxRecDepth 100000 in
set_option maxHeartbeats 4000000 in
theorem k_srv_giveList_150 {X : rc_X} {w0 : rc_M} (hF : (q_R X).frames = 5) (hL : (q_R X).locals = 118) (hN : q_n X = 6) (C : rc_C X "RecordCalls$Server" prog_7_method_14_code w0) {res : rc_M} (E : rc_E0 X y_srv_giveList none none res) {w : rc_M} {s0 : Option Nat} {s1 : Int32} (h : b_srv_giveList_150 w s0 s1 = some res) : rc_J X w 150 [.int s1, va_rf s0] [] := by
  unfold b_srv_giveList_150 at h
  obtain ⟨a1, h2, h⟩ := Option.bind_eq_some_iff.mp h
  obtain ⟨w3, h4, h⟩ := Option.bind_eq_some_iff.mp h
  refine j_callV C (As := [.int s1]) (st := []) (sk' := []) mk_row_addTruth (Or.inl T_577) T_578 T_579 (ci := 1) rfl h2 (rc_le hF (by decide)) (rc_le hL (by decide)) (cg_row_addTruth h4) rfl rfl (by decide) d_srv_giveList_150 rfl rfl ?_
  cases h
  exact j_vret C E d_srv_giveList_153

set_option maxRecDepth 100000 in
set_option maxHeartbeats 4000000 in
theorem k_srv_giveList_67 {X : rc_X} {w0 : rc_M} (hF : (q_R X).frames = 5) (hL : (q_R X).locals = 118) (hN : q_n X = 6) (C : rc_C X "RecordCalls$Server" prog_7_method_14_code w0) {res : rc_M} (E : rc_E0 X y_srv_giveList none none res) : ∀ (fuel : Nat) (w : rc_M) (a0 : Nat) (x1 : Int32) (x3 : Int32) (x4 : Int32), b_srv_giveList_67 fuel w a0 x1 x3 x4 = some res → rc_J X w 67 [] [(0, va_rf (some a0)), (1, .int x1), (3, .int x3), (4, .int x4)] := by
  intro fuel
  induction fuel with
  | zero => intro w a0 x1 x3 x4 h; simp [b_srv_giveList_67] at h
  | succ fuel ih =>
    intro w a0 x1 x3 x4 h
    unfold b_srv_giveList_67 at h
    refine j_iload C d_srv_giveList_67 rfl 3 rfl ?_
    refine j_iload_n C d_srv_giveList_69 rfl 2 rfl ?_
    refine j_icmp_ge (tgt := 136) C d_srv_giveList_70 (by decide) rfl (fun c1 => ?_) (fun c1 => ?_)
    · rw [if_pos c1] at h
      refine j_aload_n C d_srv_giveList_136 rfl 0 rfl ?_
      obtain ⟨v2, h3, h⟩ := Option.bind_eq_some_iff.mp h
      refine j_getR C fl_srv_28 h3 d_srv_giveList_137 rfl ?_
      refine j_iload_n C d_srv_giveList_140 rfl 1 rfl ?_
      refine j_iload_n C d_srv_giveList_141 rfl 2 rfl ?_
      refine j_icmp_le (tgt := 149) C d_srv_giveList_142 (by decide) rfl (fun c4 => ?_) (fun c4 => ?_)
      · rw [if_pos c4] at h
        refine j_iconst (v := 0) C d_srv_giveList_149 rfl (by decide) ?_
        refine rc_J.sub (lv' := []) [] rfl ?_
        exact k_srv_giveList_150 hF hL hN C E h
      · rw [if_neg c4] at h
        refine j_iconst (v := 1) C d_srv_giveList_145 rfl (by decide) ?_
        refine j_goto (tgt := 150) C d_srv_giveList_146 (by decide) ?_
        refine rc_J.sub (lv' := []) [] rfl ?_
        exact k_srv_giveList_150 hF hL hN C E h
    · rw [if_neg c1] at h
      refine j_aload_n C d_srv_giveList_73 rfl 0 rfl ?_
      obtain ⟨v5, h6, h⟩ := Option.bind_eq_some_iff.mp h
      refine j_getR C fl_srv_12 h6 d_srv_giveList_74 rfl ?_
      refine j_aload_n C d_srv_giveList_77 rfl 0 rfl ?_
      obtain ⟨v7, h8, h⟩ := Option.bind_eq_some_iff.mp h
      refine j_getI C fl_srv_59 h8 d_srv_giveList_78 rfl ?_
      refine j_iload C d_srv_giveList_81 rfl 3 rfl ?_
      refine j_iadd C d_srv_giveList_83 rfl ?_
      obtain ⟨a9, h10, h⟩ := Option.bind_eq_some_iff.mp h
      obtain ⟨p11, h12, h⟩ := Option.bind_eq_some_iff.mp h
      refine j_callV C (As := [.int (v7 + x4)]) (st := []) (sk' := [va_rf p11.1]) mk_map_keyAt (Or.inl T_616) T_617 T_618 (ci := 3) rfl h10 (rc_le hF (by decide)) (rc_le hL (by decide)) (ct_map_keyAt h12) rfl rfl (by decide) d_srv_giveList_84 rfl rfl ?_
      refine j_astore C (i := 5) d_srv_giveList_87 rfl [(5, va_rf p11.1), (0, va_rf (some a0)), (1, .int x1), (3, .int x3), (4, .int x4)] (rc_lt hN (by decide)) (by first | rfl | simp [va_rf_cat, rc_cat_i, rc_cat_l]) ?_
      refine j_aload C d_srv_giveList_89 rfl 0 rfl ?_
      refine j_ifnull (tgt := 130) C d_srv_giveList_91 (by decide) rfl (fun c13 => ?_) (fun c13 => ?_)
      · rw [if_pos c13] at h
        refine rc_J.sub (lv' := [(0, va_rf (some a0)), (1, .int x1), (3, .int x3), (4, .int x4)]) [1, 2, 3, 4] rfl ?_
        exact k_srv_giveList_130 hF hL hN C E (fun w z0 z1 z2 z3 h => ih w z0 z1 z2 z3 h) h
      · rw [if_neg c13] at h
        refine j_aload_n C d_srv_giveList_94 rfl 1 rfl ?_
        obtain ⟨v14, h15, h⟩ := Option.bind_eq_some_iff.mp h
        refine j_getR C fl_srv_28 h15 d_srv_giveList_95 rfl ?_
        refine j_aload C d_srv_giveList_98 rfl 0 rfl ?_
        refine j_iconst (v := 0) C d_srv_giveList_100 rfl (by decide) ?_
        refine j_aload C d_srv_giveList_101 rfl 0 rfl ?_
        obtain ⟨a16, h17, h⟩ := Option.bind_eq_some_iff.mp h
        obtain ⟨p18, h19, h⟩ := Option.bind_eq_some_iff.mp h
        refine j_callV C (As := []) (st := [.int 0, va_rf p11.1, va_rf v14]) (sk' := [.int p18.1, .int 0, va_rf p11.1, va_rf v14]) mk_row_size (Or.inl T_481) T_221 T_222 (ci := 1) rfl h17 (rc_le hF (by decide)) (rc_le hL (by decide)) (cg_row_size h19) rfl rfl (by simp [va_rf_cat, rc_cat_i, rc_cat_l]) d_srv_giveList_103 rfl rfl ?_
        obtain ⟨a20, h21, h⟩ := Option.bind_eq_some_iff.mp h
        obtain ⟨w22, h23, h⟩ := Option.bind_eq_some_iff.mp h
        refine j_callV C (As := [va_rf p11.1, .int 0, .int p18.1]) (st := []) (sk' := []) mk_row_addBytes (Or.inl T_620) T_414 T_415 (ci := 1) rfl h21 (rc_le hF (by decide)) (rc_le hL (by decide)) (cg_row_addBytes h23) rfl rfl (by decide) d_srv_giveList_106 rfl rfl ?_
        refine j_aload_n C d_srv_giveList_109 rfl 1 rfl ?_
        obtain ⟨v24, h25, h⟩ := Option.bind_eq_some_iff.mp h
        refine j_getR C fl_srv_28 h25 d_srv_giveList_110 rfl ?_
        refine j_aload_n C d_srv_giveList_113 rfl 1 rfl ?_
        obtain ⟨v26, h27, h⟩ := Option.bind_eq_some_iff.mp h
        refine j_getR C fl_srv_12 h27 d_srv_giveList_114 rfl ?_
        refine j_aload_n C d_srv_giveList_117 rfl 1 rfl ?_
        obtain ⟨v28, h29, h⟩ := Option.bind_eq_some_iff.mp h
        refine j_getI C fl_srv_59 h29 d_srv_giveList_118 rfl ?_
        refine j_iload C d_srv_giveList_121 rfl 4 rfl ?_
        refine j_iadd C d_srv_giveList_123 rfl ?_
        obtain ⟨a30, h31, h⟩ := Option.bind_eq_some_iff.mp h
        obtain ⟨p32, h33, h⟩ := Option.bind_eq_some_iff.mp h
        refine j_callV C (As := [.int (v28 + x4)]) (st := [va_rf v24]) (sk' := [.long p32.1, va_rf v24]) mk_map_valueAt (Or.inl T_581) T_277 T_278 (ci := 3) rfl h31 (rc_le hF (by decide)) (rc_le hL (by decide)) (ct_map_valueAt h33) rfl rfl (by simp [va_rf_cat, rc_cat_i, rc_cat_l]) d_srv_giveList_124 rfl rfl ?_
        obtain ⟨a34, h35, h⟩ := Option.bind_eq_some_iff.mp h
        obtain ⟨w36, h37, h⟩ := Option.bind_eq_some_iff.mp h
        refine j_callV C (As := [.long p32.1]) (st := []) (sk' := []) mk_row_addLong (Or.inl T_582) T_427 T_428 (ci := 1) rfl h35 (rc_le hF (by decide)) (rc_le hL (by decide)) (cg_row_addLong h37) rfl rfl (by decide) d_srv_giveList_127 rfl rfl ?_
        refine rc_J.sub (lv' := [(0, va_rf (some a0)), (1, .int x1), (3, .int x3), (4, .int x4)]) [1, 2, 3, 4] rfl ?_
        exact k_srv_giveList_130 hF hL hN C E (fun w z0 z1 z2 z3 h => ih w z0 z1 z2 z3 h) h

set_option maxRecDepth 100000 in
set_option maxHeartbeats 4000000 in
theorem k_srv_giveList_49 {X : rc_X} {w0 : rc_M} (hF : (q_R X).frames = 5) (hL : (q_R X).locals = 118) (hN : q_n X = 6) (C : rc_C X "RecordCalls$Server" prog_7_method_14_code w0) {res : rc_M} (E : rc_E0 X y_srv_giveList none none res) {w : rc_M} {a0 : Nat} {x1 : Int32} {s0 : Int32} (h : b_srv_giveList_49 w a0 x1 s0 = some res) : rc_J X w 49 [.int s0] [(0, va_rf (some a0)), (1, .int x1)] := by
  unfold b_srv_giveList_49 at h
  refine j_istore_n C (i := 2) d_srv_giveList_49 rfl rfl [(2, .int s0), (0, va_rf (some a0)), (1, .int x1)] (rc_lt hN (by decide)) (by first | rfl | simp [va_rf_cat, rc_cat_i, rc_cat_l]) ?_
  refine j_iload_n C d_srv_giveList_50 rfl 2 rfl ?_
  refine j_iload_n C d_srv_giveList_51 rfl 0 rfl ?_
  obtain ⟨p1, h2, h⟩ := Option.bind_eq_some_iff.mp h
  refine j_callS C (As := [.int x1, .int s0]) (st := []) (sk' := [.int p1.1]) mk_mat_min (Or.inl T_615) T_246 (rc_le hF (by decide)) (rc_le hL (by decide)) (ct_mat_min h2) rfl rfl (by decide) d_srv_giveList_52 rfl rfl ?_
  refine j_istore_n C (i := 3) d_srv_giveList_55 rfl rfl [(3, .int p1.1), (2, .int s0), (0, va_rf (some a0)), (1, .int x1)] (rc_lt hN (by decide)) (by first | rfl | simp [va_rf_cat, rc_cat_i, rc_cat_l]) ?_
  refine j_aload_n C d_srv_giveList_56 rfl 2 rfl ?_
  obtain ⟨v3, h4, h⟩ := Option.bind_eq_some_iff.mp h
  refine j_getR C fl_srv_28 h4 d_srv_giveList_57 rfl ?_
  refine j_iload_n C d_srv_giveList_60 rfl 0 rfl ?_
  obtain ⟨a5, h6, h⟩ := Option.bind_eq_some_iff.mp h
  obtain ⟨w7, h8, h⟩ := Option.bind_eq_some_iff.mp h
  refine j_callV C (As := [.int p1.1]) (st := []) (sk' := []) mk_row_addWord (Or.inl T_554) T_360 T_361 (ci := 1) rfl h6 (rc_le hF (by decide)) (rc_le hL (by decide)) (cg_row_addWord h8) rfl rfl (by decide) d_srv_giveList_61 rfl rfl ?_
  refine j_iconst (v := 0) C d_srv_giveList_64 rfl (by decide) ?_
  refine j_istore C (i := 4) d_srv_giveList_65 rfl [(4, .int 0), (3, .int p1.1), (2, .int s0), (0, va_rf (some a0)), (1, .int x1)] (rc_lt hN (by decide)) (by first | rfl | simp [va_rf_cat, rc_cat_i, rc_cat_l]) ?_
  refine rc_J.sub (lv' := [(0, va_rf (some a0)), (1, .int x1), (3, .int p1.1), (4, .int 0)]) [3, 4, 1, 0] rfl ?_
  exact k_srv_giveList_67 hF hL hN C E _ _ _ _ _ _ h

set_option maxRecDepth 100000 in
set_option maxHeartbeats 4000000 in
theorem k_srv_giveList_27 {X : rc_X} {w0 : rc_M} (hF : (q_R X).frames = 5) (hL : (q_R X).locals = 118) (hN : q_n X = 6) (C : rc_C X "RecordCalls$Server" prog_7_method_14_code w0) {res : rc_M} (E : rc_E0 X y_srv_giveList none none res) {w : rc_M} {a0 : Nat} {s0 : Int32} (h : b_srv_giveList_27 w a0 s0 = some res) : rc_J X w 27 [.int s0] [(0, va_rf (some a0))] := by
  unfold b_srv_giveList_27 at h
  refine j_istore_n C (i := 1) d_srv_giveList_27 rfl rfl [(1, .int s0), (0, va_rf (some a0))] (rc_lt hN (by decide)) (by first | rfl | simp [va_rf_cat, rc_cat_i, rc_cat_l]) ?_
  refine j_aload_n C d_srv_giveList_28 rfl 1 rfl ?_
  obtain ⟨v1, h2, h⟩ := Option.bind_eq_some_iff.mp h
  refine j_getI C fl_srv_62 h2 d_srv_giveList_29 rfl ?_
  refine j_if_ge (tgt := 40) C d_srv_giveList_32 (by decide) rfl (fun c3 => ?_) (fun c3 => ?_)
  · rw [if_pos c3] at h
    refine j_aload_n C d_srv_giveList_40 rfl 1 rfl ?_
    obtain ⟨v4, h5, h⟩ := Option.bind_eq_some_iff.mp h
    refine j_getI C fl_srv_62 h5 d_srv_giveList_41 rfl ?_
    refine j_bipush (v := 8) C d_srv_giveList_44 rfl (by decide) ?_
    obtain ⟨p6, h7, h⟩ := Option.bind_eq_some_iff.mp h
    refine j_callS C (As := [.int v4, .int 8]) (st := []) (sk' := [.int p6.1]) mk_mat_min (Or.inl T_615) T_246 (rc_le hF (by decide)) (rc_le hL (by decide)) (ct_mat_min h7) rfl rfl (by decide) d_srv_giveList_46 rfl rfl ?_
    refine rc_J.sub (lv' := [(0, va_rf (some a0)), (1, .int s0)]) [1, 0] rfl ?_
    exact k_srv_giveList_49 hF hL hN C E h
  · rw [if_neg c3] at h
    refine j_bipush (v := 8) C d_srv_giveList_35 rfl (by decide) ?_
    refine j_goto (tgt := 49) C d_srv_giveList_37 (by decide) ?_
    refine rc_J.sub (lv' := [(0, va_rf (some a0)), (1, .int s0)]) [1, 0] rfl ?_
    exact k_srv_giveList_49 hF hL hN C E h

set_option maxRecDepth 100000 in
set_option maxHeartbeats 4000000 in
theorem ct_srv_giveList {l : Launch} {G : rc_G} {w : rc_M} {a0 : Nat} {res : rc_M} (h : f_srv_giveList w a0 = some res) : rc_Ct l G y_srv_giveList prog_7_method_14_code 6 none 5 118 [va_rf (some a0)] w none res := by
  refine rc_enter (by decide +kernel) (by simp [lg_sl, va_rf_cat, rc_cat_i, rc_cat_l]) ?_
  intro X _ _ hN hF hL C E
  have hlv : lv_args 0 [va_rf (some a0)] = [(0, va_rf (some a0))] := by simp [lv_args, va_rf_cat, rc_cat_i, rc_cat_l]
  rw [hlv]
  clear hlv
  unfold f_srv_giveList at h
  refine j_aload_n C d_srv_giveList_0 rfl 0 rfl ?_
  obtain ⟨v1, h2, h⟩ := Option.bind_eq_some_iff.mp h
  refine j_getI C fl_srv_59 h2 d_srv_giveList_1 rfl ?_
  refine j_if_ge (tgt := 11) C d_srv_giveList_4 (by decide) rfl (fun c3 => ?_) (fun c3 => ?_)
  · rw [if_pos c3] at h
    refine j_iconst (v := 0) C d_srv_giveList_11 rfl (by decide) ?_
    refine j_aload_n C d_srv_giveList_12 rfl 0 rfl ?_
    obtain ⟨v4, h5, h⟩ := Option.bind_eq_some_iff.mp h
    refine j_getR C fl_srv_12 h5 d_srv_giveList_13 rfl ?_
    obtain ⟨a6, h7, h⟩ := Option.bind_eq_some_iff.mp h
    obtain ⟨p8, h9, h⟩ := Option.bind_eq_some_iff.mp h
    refine j_callV C (As := []) (st := [.int 0]) (sk' := [.int p8.1, .int 0]) mk_map_size (Or.inl T_610) T_611 T_612 (ci := 3) rfl h7 (rc_le hF (by decide)) (rc_le hL (by decide)) (ct_map_size h9) rfl rfl (by simp [va_rf_cat, rc_cat_i, rc_cat_l]) d_srv_giveList_16 rfl rfl ?_
    refine j_aload_n C d_srv_giveList_19 rfl 0 rfl ?_
    obtain ⟨v10, h11, h⟩ := Option.bind_eq_some_iff.mp h
    refine j_getI C fl_srv_59 h11 d_srv_giveList_20 rfl ?_
    refine j_isub C d_srv_giveList_23 rfl ?_
    obtain ⟨p12, h13, h⟩ := Option.bind_eq_some_iff.mp h
    refine j_callS C (As := [.int 0, .int (p8.1 - v10)]) (st := []) (sk' := [.int p12.1]) mk_mat_max (Or.inl T_614) T_233 (rc_le hF (by decide)) (rc_le hL (by decide)) (ct_mat_max h13) rfl rfl (by decide) d_srv_giveList_24 rfl rfl ?_
    exact k_srv_giveList_27 hF hL hN C E h
  · rw [if_neg c3] at h
    refine j_iconst (v := 0) C d_srv_giveList_7 rfl (by decide) ?_
    refine j_goto (tgt := 27) C d_srv_giveList_8 (by decide) ?_
    exact k_srv_giveList_27 hF hL hN C E h

set_option maxRecDepth 100000 in
set_option maxHeartbeats 4000000 in
theorem k_srv_giveRemoved_20 {X : rc_X} {w0 : rc_M} (hF : (q_R X).frames = 5) (hL : (q_R X).locals = 113) (hN : q_n X = 2) (C : rc_C X "RecordCalls$Server" prog_7_method_15_code w0) {res : rc_M} (E : rc_E0 X y_srv_giveRemoved none none res) {w : rc_M} {a0 : Nat} {x1 : Int32} {s0 : Option Nat} {s1 : Int32} (h : b_srv_giveRemoved_20 w a0 x1 s0 s1 = some res) : rc_J X w 20 [.int s1, va_rf s0] [(0, va_rf (some a0)), (1, .int x1)] := by
  unfold b_srv_giveRemoved_20 at h
  obtain ⟨a1, h2, h⟩ := Option.bind_eq_some_iff.mp h
  obtain ⟨w3, h4, h⟩ := Option.bind_eq_some_iff.mp h
  refine j_callV C (As := [.int s1]) (st := []) (sk' := []) mk_row_addTruth (Or.inl T_577) T_578 T_579 (ci := 1) rfl h2 (rc_le hF (by decide)) (rc_le hL (by decide)) (cg_row_addTruth h4) rfl rfl (by decide) d_srv_giveRemoved_20 rfl rfl ?_
  refine j_aload_n C d_srv_giveRemoved_23 rfl 0 rfl ?_
  obtain ⟨v5, h6, h⟩ := Option.bind_eq_some_iff.mp h
  refine j_getR C fl_srv_12 h6 d_srv_giveRemoved_24 rfl ?_
  refine j_iload_n C d_srv_giveRemoved_27 rfl 1 rfl ?_
  obtain ⟨a7, h8, h⟩ := Option.bind_eq_some_iff.mp h
  obtain ⟨w9, h10, h⟩ := Option.bind_eq_some_iff.mp h
  refine j_callV C (As := [.int x1]) (st := []) (sk' := []) mk_map_remove (Or.inl T_625) T_626 T_627 (ci := 3) rfl h8 (rc_le hF (by decide)) (rc_le hL (by decide)) (ct_map_remove h10) rfl rfl (by decide) d_srv_giveRemoved_28 rfl rfl ?_
  cases h
  exact j_vret C E d_srv_giveRemoved_31

set_option maxRecDepth 100000 in
set_option maxHeartbeats 4000000 in
theorem ct_srv_giveRemoved {l : Launch} {G : rc_G} {w : rc_M} {a0 : Nat} {res : rc_M} (h : f_srv_giveRemoved w a0 = some res) : rc_Ct l G y_srv_giveRemoved prog_7_method_15_code 2 none 5 113 [va_rf (some a0)] w none res := by
  refine rc_enter (by decide +kernel) (by simp [lg_sl, va_rf_cat, rc_cat_i, rc_cat_l]) ?_
  intro X _ _ hN hF hL C E
  have hlv : lv_args 0 [va_rf (some a0)] = [(0, va_rf (some a0))] := by simp [lv_args, va_rf_cat, rc_cat_i, rc_cat_l]
  rw [hlv]
  clear hlv
  unfold f_srv_giveRemoved at h
  refine j_aload_n C d_srv_giveRemoved_0 rfl 0 rfl ?_
  refine j_iconst (v := 0) C d_srv_giveRemoved_1 rfl (by decide) ?_
  obtain ⟨a1, h2, h⟩ := Option.bind_eq_some_iff.mp h
  obtain ⟨p3, h4, h⟩ := Option.bind_eq_some_iff.mp h
  refine j_callV C (As := [.int 0]) (st := []) (sk' := [.int p3.1]) mk_srv_placeTaken (Or.inl T_564) T_566 S_17 (ci := 2) rfl h2 (rc_le hF (by decide)) (rc_le hL (by decide)) (ct_srv_placeTaken h4) rfl rfl (by decide) d_srv_giveRemoved_2 rfl rfl ?_
  refine j_istore_n C (i := 1) d_srv_giveRemoved_5 rfl rfl [(1, .int p3.1), (0, va_rf (some a0))] (rc_lt hN (by decide)) (by first | rfl | simp [va_rf_cat, rc_cat_i, rc_cat_l]) ?_
  refine j_aload_n C d_srv_giveRemoved_6 rfl 1 rfl ?_
  obtain ⟨v5, h6, h⟩ := Option.bind_eq_some_iff.mp h
  refine j_getR C fl_srv_28 h6 d_srv_giveRemoved_7 rfl ?_
  refine j_iload_n C d_srv_giveRemoved_10 rfl 0 rfl ?_
  refine j_iconst (v := (-1)) C d_srv_giveRemoved_11 rfl (by decide) ?_
  refine j_icmp_eq (tgt := 19) C d_srv_giveRemoved_12 (by decide) rfl (fun c7 => ?_) (fun c7 => ?_)
  · rw [if_pos c7] at h
    refine j_iconst (v := 0) C d_srv_giveRemoved_19 rfl (by decide) ?_
    refine rc_J.sub (lv' := [(0, va_rf (some a0)), (1, .int p3.1)]) [1, 0] rfl ?_
    exact k_srv_giveRemoved_20 hF hL hN C E h
  · rw [if_neg c7] at h
    refine j_iconst (v := 1) C d_srv_giveRemoved_15 rfl (by decide) ?_
    refine j_goto (tgt := 20) C d_srv_giveRemoved_16 (by decide) ?_
    refine rc_J.sub (lv' := [(0, va_rf (some a0)), (1, .int p3.1)]) [1, 0] rfl ?_
    exact k_srv_giveRemoved_20 hF hL hN C E h

set_option maxRecDepth 100000 in
set_option maxHeartbeats 4000000 in
theorem k_srv_give_112 {X : rc_X} {w0 : rc_M} (hF : (q_R X).frames = 6) (hL : (q_R X).locals = 143) (hN : q_n X = 1) (C : rc_C X "RecordCalls$Server" prog_7_method_9_code w0) {res : rc_M} (E : rc_E0 X y_srv_give none none res) {w : rc_M}  (h : b_srv_give_112 w  = some res) : rc_J X w 112 [] [] := by
  unfold b_srv_give_112 at h
  cases h
  exact j_vret C E d_srv_give_112

set_option maxRecDepth 100000 in
set_option maxHeartbeats 4000000 in
theorem ct_srv_give {l : Launch} {G : rc_G} {w : rc_M} {a0 : Nat} {res : rc_M} (h : f_srv_give w a0 = some res) : rc_Ct l G y_srv_give prog_7_method_9_code 1 none 6 143 [va_rf (some a0)] w none res := by
  refine rc_enter (by decide +kernel) (by simp [lg_sl, va_rf_cat, rc_cat_i, rc_cat_l]) ?_
  intro X _ _ hN hF hL C E
  have hlv : lv_args 0 [va_rf (some a0)] = [(0, va_rf (some a0))] := by simp [lv_args, va_rf_cat, rc_cat_i, rc_cat_l]
  rw [hlv]
  clear hlv
  unfold f_srv_give at h
  refine j_aload_n C d_srv_give_0 rfl 0 rfl ?_
  obtain ⟨v1, h2, h⟩ := Option.bind_eq_some_iff.mp h
  refine j_getI C fl_srv_49 h2 d_srv_give_1 rfl ?_
  by_cases c3 : v1 = 1
  · rw [if_pos c3] at h
    refine j_tableIn C d_srv_give_4 (tgt := 44) (by rw [c3]; decide) (by rw [c3]; decide) (by rw [c3]; rfl) (by decide) ?_
    refine j_aload_n C d_srv_give_44 rfl 0 rfl ?_
    obtain ⟨a4, h5, h⟩ := Option.bind_eq_some_iff.mp h
    obtain ⟨w6, h7, h⟩ := Option.bind_eq_some_iff.mp h
    refine j_callV C (As := []) (st := []) (sk' := []) mk_srv_giveSet (Or.inl T_560) T_562 S_16 (ci := 2) rfl h5 (rc_le hF (by decide)) (rc_le hL (by decide)) (ct_srv_giveSet h7) rfl rfl (by decide) d_srv_give_45 rfl rfl ?_
    refine j_goto (tgt := 112) C d_srv_give_48 (by decide) ?_
    refine rc_J.sub (lv' := []) [] rfl ?_
    exact k_srv_give_112 hF hL hN C E h
  · rw [if_neg c3] at h
    by_cases c8 : v1 = 2
    · rw [if_pos c8] at h
      refine j_tableIn C d_srv_give_4 (tgt := 51) (by rw [c8]; decide) (by rw [c8]; decide) (by rw [c8]; rfl) (by decide) ?_
      refine j_aload_n C d_srv_give_51 rfl 0 rfl ?_
      refine j_aload_n C d_srv_give_52 rfl 0 rfl ?_
      refine j_iconst (v := 0) C d_srv_give_53 rfl (by decide) ?_
      obtain ⟨a9, h10, h⟩ := Option.bind_eq_some_iff.mp h
      obtain ⟨p11, h12, h⟩ := Option.bind_eq_some_iff.mp h
      refine j_callV C (As := [.int 0]) (st := [va_rf (some a0)]) (sk' := [.int p11.1, va_rf (some a0)]) mk_srv_placeTaken (Or.inl T_564) T_566 S_17 (ci := 2) rfl h10 (rc_le hF (by decide)) (rc_le hL (by decide)) (ct_srv_placeTaken h12) rfl rfl (by simp [va_rf_cat, rc_cat_i, rc_cat_l]) d_srv_give_54 rfl rfl ?_
      obtain ⟨a13, h14, h⟩ := Option.bind_eq_some_iff.mp h
      obtain ⟨w15, h16, h⟩ := Option.bind_eq_some_iff.mp h
      refine j_callV C (As := [.int p11.1]) (st := []) (sk' := []) mk_srv_giveValueAt (Or.inl T_594) T_596 S_18 (ci := 2) rfl h14 (rc_le hF (by decide)) (rc_le hL (by decide)) (ct_srv_giveValueAt h16) rfl rfl (by decide) d_srv_give_57 rfl rfl ?_
      refine j_goto (tgt := 112) C d_srv_give_60 (by decide) ?_
      refine rc_J.sub (lv' := []) [] rfl ?_
      exact k_srv_give_112 hF hL hN C E h
    · rw [if_neg c8] at h
      by_cases c17 : v1 = 3
      · rw [if_pos c17] at h
        refine j_tableIn C d_srv_give_4 (tgt := 63) (by rw [c17]; decide) (by rw [c17]; decide) (by rw [c17]; rfl) (by decide) ?_
        refine j_aload_n C d_srv_give_63 rfl 0 rfl ?_
        obtain ⟨v18, h19, h⟩ := Option.bind_eq_some_iff.mp h
        refine j_getR C fl_srv_12 h19 d_srv_give_64 rfl ?_
        refine j_aload_n C d_srv_give_67 rfl 0 rfl ?_
        refine j_iconst (v := 0) C d_srv_give_68 rfl (by decide) ?_
        obtain ⟨a20, h21, h⟩ := Option.bind_eq_some_iff.mp h
        obtain ⟨p22, h23, h⟩ := Option.bind_eq_some_iff.mp h
        refine j_callV C (As := [.int 0]) (st := [va_rf v18]) (sk' := [.int p22.1, va_rf v18]) mk_srv_placeTaken (Or.inl T_564) T_566 S_17 (ci := 2) rfl h21 (rc_le hF (by decide)) (rc_le hL (by decide)) (ct_srv_placeTaken h23) rfl rfl (by simp [va_rf_cat, rc_cat_i, rc_cat_l]) d_srv_give_69 rfl rfl ?_
        refine j_aload_n C d_srv_give_72 rfl 0 rfl ?_
        obtain ⟨v24, h25, h⟩ := Option.bind_eq_some_iff.mp h
        refine j_getL C fl_srv_55 h25 d_srv_give_73 rfl ?_
        obtain ⟨a26, h27, h⟩ := Option.bind_eq_some_iff.mp h
        obtain ⟨w28, h29, h⟩ := Option.bind_eq_some_iff.mp h
        refine j_callV C (As := [.int p22.1, .long v24]) (st := []) (sk' := []) mk_map_addToValue (Or.inl T_598) T_599 T_600 (ci := 3) rfl h27 (rc_le hF (by decide)) (rc_le hL (by decide)) (ct_map_addToValue h29) rfl rfl (by decide) d_srv_give_76 rfl rfl ?_
        refine j_aload_n C d_srv_give_79 rfl 0 rfl ?_
        refine j_aload_n C d_srv_give_80 rfl 0 rfl ?_
        refine j_iconst (v := 0) C d_srv_give_81 rfl (by decide) ?_
        obtain ⟨a30, h31, h⟩ := Option.bind_eq_some_iff.mp h
        obtain ⟨p32, h33, h⟩ := Option.bind_eq_some_iff.mp h
        refine j_callV C (As := [.int 0]) (st := [va_rf (some a0)]) (sk' := [.int p32.1, va_rf (some a0)]) mk_srv_placeTaken (Or.inl T_564) T_566 S_17 (ci := 2) rfl h31 (rc_le hF (by decide)) (rc_le hL (by decide)) (ct_srv_placeTaken h33) rfl rfl (by simp [va_rf_cat, rc_cat_i, rc_cat_l]) d_srv_give_82 rfl rfl ?_
        obtain ⟨a34, h35, h⟩ := Option.bind_eq_some_iff.mp h
        obtain ⟨w36, h37, h⟩ := Option.bind_eq_some_iff.mp h
        refine j_callV C (As := [.int p32.1]) (st := []) (sk' := []) mk_srv_giveValueAt (Or.inl T_594) T_596 S_18 (ci := 2) rfl h35 (rc_le hF (by decide)) (rc_le hL (by decide)) (ct_srv_giveValueAt h37) rfl rfl (by decide) d_srv_give_85 rfl rfl ?_
        refine j_goto (tgt := 112) C d_srv_give_88 (by decide) ?_
        refine rc_J.sub (lv' := []) [] rfl ?_
        exact k_srv_give_112 hF hL hN C E h
      · rw [if_neg c17] at h
        by_cases c38 : v1 = 4
        · rw [if_pos c38] at h
          refine j_tableIn C d_srv_give_4 (tgt := 91) (by rw [c38]; decide) (by rw [c38]; decide) (by rw [c38]; rfl) (by decide) ?_
          refine j_aload_n C d_srv_give_91 rfl 0 rfl ?_
          obtain ⟨a39, h40, h⟩ := Option.bind_eq_some_iff.mp h
          obtain ⟨w41, h42, h⟩ := Option.bind_eq_some_iff.mp h
          refine j_callV C (As := []) (st := []) (sk' := []) mk_srv_giveSum (Or.inl T_602) T_604 S_19 (ci := 2) rfl h40 (rc_le hF (by decide)) (rc_le hL (by decide)) (ct_srv_giveSum h42) rfl rfl (by decide) d_srv_give_92 rfl rfl ?_
          refine j_goto (tgt := 112) C d_srv_give_95 (by decide) ?_
          refine rc_J.sub (lv' := []) [] rfl ?_
          exact k_srv_give_112 hF hL hN C E h
        · rw [if_neg c38] at h
          by_cases c43 : v1 = 5
          · rw [if_pos c43] at h
            refine j_tableIn C d_srv_give_4 (tgt := 98) (by rw [c43]; decide) (by rw [c43]; decide) (by rw [c43]; rfl) (by decide) ?_
            refine j_aload_n C d_srv_give_98 rfl 0 rfl ?_
            obtain ⟨a44, h45, h⟩ := Option.bind_eq_some_iff.mp h
            obtain ⟨w46, h47, h⟩ := Option.bind_eq_some_iff.mp h
            refine j_callV C (As := []) (st := []) (sk' := []) mk_srv_giveList (Or.inl T_606) T_608 S_20 (ci := 2) rfl h45 (rc_le hF (by decide)) (rc_le hL (by decide)) (ct_srv_giveList h47) rfl rfl (by decide) d_srv_give_99 rfl rfl ?_
            refine j_goto (tgt := 112) C d_srv_give_102 (by decide) ?_
            refine rc_J.sub (lv' := []) [] rfl ?_
            exact k_srv_give_112 hF hL hN C E h
          · rw [if_neg c43] at h
            by_cases c48 : v1 = 6
            · rw [if_pos c48] at h
              refine j_tableIn C d_srv_give_4 (tgt := 105) (by rw [c48]; decide) (by rw [c48]; decide) (by rw [c48]; rfl) (by decide) ?_
              refine j_aload_n C d_srv_give_105 rfl 0 rfl ?_
              obtain ⟨a49, h50, h⟩ := Option.bind_eq_some_iff.mp h
              obtain ⟨w51, h52, h⟩ := Option.bind_eq_some_iff.mp h
              refine j_callV C (As := []) (st := []) (sk' := []) mk_srv_giveRemoved (Or.inl T_621) T_623 S_21 (ci := 2) rfl h50 (rc_le hF (by decide)) (rc_le hL (by decide)) (ct_srv_giveRemoved h52) rfl rfl (by decide) d_srv_give_106 rfl rfl ?_
              refine j_goto (tgt := 112) C d_srv_give_109 (by decide) ?_
              refine rc_J.sub (lv' := []) [] rfl ?_
              exact k_srv_give_112 hF hL hN C E h
            · rw [if_neg c48] at h
              refine j_tableOut C d_srv_give_4 (tgt := 112) (by have e0 := lv_neT c3 (a := 1) (by decide); have e1 := lv_neT c8 (a := 2) (by decide); have e2 := lv_neT c17 (a := 3) (by decide); have e3 := lv_neT c38 (a := 4) (by decide); have e4 := lv_neT c43 (a := 5) (by decide); have e5 := lv_neT c48 (a := 6) (by decide); omega) (by decide) ?_
              refine rc_J.sub (lv' := []) [] rfl ?_
              exact k_srv_give_112 hF hL hN C E h

set_option maxRecDepth 100000 in
set_option maxHeartbeats 4000000 in
theorem k_srv_replyTo_17 {X : rc_X} {w0 : rc_M} (hF : (q_R X).frames = 7) (hL : (q_R X).locals = 163) (hN : q_n X = 6) (C : rc_C X "RecordCalls$Server" prog_7_method_2_code w0) {res : Option Nat × rc_M} (E : rc_E0 X y_srv_replyTo (some (.object "RecordCalls$Row")) (some (va_rf res.1)) res.2) {w : rc_M} {a0 : Nat} (h : b_srv_replyTo_17 w a0 = some res) : rc_J X w 17 [] [(0, va_rf (some a0))] := by
  unfold b_srv_replyTo_17 at h
  refine j_aload_n C d_srv_replyTo_17 rfl 0 rfl ?_
  refine j_dup C d_srv_replyTo_18 rfl (by first | rfl | exact va_rf_cat _) ?_
  obtain ⟨v1, h2, h⟩ := Option.bind_eq_some_iff.mp h
  refine j_getI C fl_srv_39 h2 d_srv_replyTo_19 rfl ?_
  refine j_iconst (v := 1) C d_srv_replyTo_22 rfl (by decide) ?_
  refine j_iadd C d_srv_replyTo_23 rfl ?_
  obtain ⟨w3, h4, h⟩ := Option.bind_eq_some_iff.mp h
  refine j_putV C (ci := 2) (k := 5) (by decide) (by decide) T_96 (Or.inl rfl) rfl rfl h4 d_srv_replyTo_24 rfl ?_
  refine j_null C d_srv_replyTo_27 rfl ?_
  cases h
  exact j_aret C (by first | exact Or.inl ⟨_, rfl⟩ | exact Or.inr ⟨_, rfl⟩) E d_srv_replyTo_28

set_option maxRecDepth 100000 in
set_option maxHeartbeats 4000000 in
theorem k_srv_replyTo_126 {X : rc_X} {w0 : rc_M} (hF : (q_R X).frames = 7) (hL : (q_R X).locals = 163) (hN : q_n X = 6) (C : rc_C X "RecordCalls$Server" prog_7_method_2_code w0) {res : Option Nat × rc_M} (E : rc_E0 X y_srv_replyTo (some (.object "RecordCalls$Row")) (some (va_rf res.1)) res.2) {w : rc_M} {a0 : Nat} {r2 : Option Nat} {x3 : Int32} (h : b_srv_replyTo_126 w a0 r2 x3 = some res) : rc_J X w 126 [] [(0, va_rf (some a0)), (2, va_rf r2), (3, .int x3)] := by
  unfold b_srv_replyTo_126 at h
  refine j_aload_n C d_srv_replyTo_126 rfl 1 rfl ?_
  refine j_iload_n C d_srv_replyTo_127 rfl 2 rfl ?_
  refine j_aload_n C d_srv_replyTo_128 rfl 0 rfl ?_
  obtain ⟨v1, h2, h⟩ := Option.bind_eq_some_iff.mp h
  refine j_getR C fl_srv_28 h2 d_srv_replyTo_129 rfl ?_
  obtain ⟨a3, h4, h⟩ := Option.bind_eq_some_iff.mp h
  obtain ⟨w5, h6, h⟩ := Option.bind_eq_some_iff.mp h
  refine j_callV C (As := [.int x3, va_rf v1]) (st := []) (sk' := []) mk_rpl_keep (Or.inl T_629) T_630 T_631 (ci := 6) rfl h4 (rc_le hF (by decide)) (rc_le hL (by decide)) (ct_rpl_keep h6) rfl rfl (by decide) d_srv_replyTo_132 rfl rfl ?_
  refine j_aload_n C d_srv_replyTo_135 rfl 0 rfl ?_
  obtain ⟨v7, h8, h⟩ := Option.bind_eq_some_iff.mp h
  refine j_getR C fl_srv_28 h8 d_srv_replyTo_136 rfl ?_
  cases h
  exact j_aret C (by first | exact Or.inl ⟨_, rfl⟩ | exact Or.inr ⟨_, rfl⟩) E d_srv_replyTo_139

set_option maxRecDepth 100000 in
set_option maxHeartbeats 4000000 in
theorem k_srv_replyTo_100 {X : rc_X} {w0 : rc_M} (hF : (q_R X).frames = 7) (hL : (q_R X).locals = 163) (hN : q_n X = 6) (C : rc_C X "RecordCalls$Server" prog_7_method_2_code w0) {res : Option Nat × rc_M} (E : rc_E0 X y_srv_replyTo (some (.object "RecordCalls$Row")) (some (va_rf res.1)) res.2) {w : rc_M} {a0 : Nat} {r2 : Option Nat} {x3 : Int32} {x5 : Int32} (h : b_srv_replyTo_100 w a0 r2 x3 x5 = some res) : rc_J X w 100 [] [(0, va_rf (some a0)), (2, va_rf r2), (3, .int x3), (5, .int x5)] := by
  unfold b_srv_replyTo_100 at h
  refine j_aload_n C d_srv_replyTo_100 rfl 0 rfl ?_
  refine j_iload_n C d_srv_replyTo_101 rfl 2 rfl ?_
  refine j_iload C d_srv_replyTo_102 rfl 3 rfl ?_
  obtain ⟨a1, h2, h⟩ := Option.bind_eq_some_iff.mp h
  obtain ⟨w3, h4, h⟩ := Option.bind_eq_some_iff.mp h
  refine j_callV C (As := [.int x3, .int x5]) (st := []) (sk' := []) mk_srv_beginReply (Or.inl T_549) T_551 S_14 (ci := 2) rfl h2 (rc_le hF (by decide)) (rc_le hL (by decide)) (ct_srv_beginReply h4) rfl rfl (by decide) d_srv_replyTo_104 rfl rfl ?_
  refine j_iload C d_srv_replyTo_107 rfl 3 rfl ?_
  refine j_if_ne (tgt := 126) C d_srv_replyTo_109 (by decide) rfl (fun c5 => ?_) (fun c5 => ?_)
  · rw [if_neg c5] at h
    refine rc_J.sub (lv' := [(0, va_rf (some a0)), (2, va_rf r2), (3, .int x3)]) [0, 1, 2] rfl ?_
    exact k_srv_replyTo_126 hF hL hN C E h
  · rw [if_pos c5] at h
    refine j_aload_n C d_srv_replyTo_112 rfl 0 rfl ?_
    refine j_dup C d_srv_replyTo_113 rfl (by first | rfl | exact va_rf_cat _) ?_
    obtain ⟨v6, h7, h⟩ := Option.bind_eq_some_iff.mp h
    refine j_getI C fl_srv_32 h7 d_srv_replyTo_114 rfl ?_
    refine j_iconst (v := 1) C d_srv_replyTo_117 rfl (by decide) ?_
    refine j_iadd C d_srv_replyTo_118 rfl ?_
    obtain ⟨w8, h9, h⟩ := Option.bind_eq_some_iff.mp h
    refine j_putV C (ci := 2) (k := 3) (by decide) (by decide) T_92 (Or.inl rfl) rfl rfl h9 d_srv_replyTo_119 rfl ?_
    refine j_aload_n C d_srv_replyTo_122 rfl 0 rfl ?_
    obtain ⟨a10, h11, h⟩ := Option.bind_eq_some_iff.mp h
    obtain ⟨w12, h13, h⟩ := Option.bind_eq_some_iff.mp h
    refine j_callV C (As := []) (st := []) (sk' := []) mk_srv_give (Or.inl T_556) T_558 S_15 (ci := 2) rfl h11 (rc_le hF (by decide)) (rc_le hL (by decide)) (ct_srv_give h13) rfl rfl (by decide) d_srv_replyTo_123 rfl rfl ?_
    refine rc_J.sub (lv' := [(0, va_rf (some a0)), (2, va_rf r2), (3, .int x3)]) [0, 1, 2] rfl ?_
    exact k_srv_replyTo_126 hF hL hN C E h

set_option maxRecDepth 100000 in
set_option maxHeartbeats 4000000 in
theorem ct_srv_replyTo {l : Launch} {G : rc_G} {w : rc_M} {a0 : Nat} {r1 : Option Nat} {r2 : Option Nat} {res : Option Nat × rc_M} (h : f_srv_replyTo w a0 r1 r2 = some res) : rc_Ct l G y_srv_replyTo prog_7_method_2_code 6 (some (.object "RecordCalls$Row")) 7 163 [va_rf (some a0), va_rf r1, va_rf r2] w (some (va_rf res.1)) res.2 := by
  refine rc_enter (by decide +kernel) (by simp [lg_sl, va_rf_cat, rc_cat_i, rc_cat_l]) ?_
  intro X _ _ hN hF hL C E
  have hlv : lv_args 0 [va_rf (some a0), va_rf r1, va_rf r2] = [(0, va_rf (some a0)), (1, va_rf r1), (2, va_rf r2)] := by simp [lv_args, va_rf_cat, rc_cat_i, rc_cat_l]
  rw [hlv]
  clear hlv
  unfold f_srv_replyTo at h
  refine j_aload_n C d_srv_replyTo_0 rfl 1 rfl ?_
  obtain ⟨a1, h2, h⟩ := Option.bind_eq_some_iff.mp h
  obtain ⟨p3, h4, h⟩ := Option.bind_eq_some_iff.mp h
  refine j_callV C (As := []) (st := []) (sk' := [.int p3.1]) mk_row_size (Or.inl T_481) T_221 T_222 (ci := 1) rfl h2 (rc_le hF (by decide)) (rc_le hL (by decide)) (cg_row_size h4) rfl rfl (by decide) d_srv_replyTo_1 rfl rfl ?_
  refine j_bipush (v := 8) C d_srv_replyTo_4 rfl (by decide) ?_
  refine j_icmp_lt (tgt := 17) C d_srv_replyTo_6 (by decide) rfl (fun c5 => ?_) (fun c5 => ?_)
  · rw [if_pos c5] at h
    refine rc_J.sub (lv' := [(0, va_rf (some a0))]) [0] rfl ?_
    exact k_srv_replyTo_17 hF hL hN C E h
  · rw [if_neg c5] at h
    refine j_aload_n C d_srv_replyTo_9 rfl 1 rfl ?_
    refine j_iconst (v := 4) C d_srv_replyTo_10 rfl (by decide) ?_
    obtain ⟨a6, h7, h⟩ := Option.bind_eq_some_iff.mp h
    obtain ⟨p8, h9, h⟩ := Option.bind_eq_some_iff.mp h
    refine j_callV C (As := [.int 4]) (st := []) (sk' := [.int p8.1]) mk_row_wordAt (Or.inl T_482) T_483 T_484 (ci := 1) rfl h7 (rc_le hF (by decide)) (rc_le hL (by decide)) (cg_row_wordAt h9) rfl rfl (by decide) d_srv_replyTo_11 rfl rfl ?_
    refine j_if_eq (tgt := 29) C d_srv_replyTo_14 (by decide) rfl (fun c10 => ?_) (fun c10 => ?_)
    · rw [if_pos c10] at h
      refine j_aload_n C d_srv_replyTo_29 rfl 1 rfl ?_
      refine j_iconst (v := 0) C d_srv_replyTo_30 rfl (by decide) ?_
      obtain ⟨a11, h12, h⟩ := Option.bind_eq_some_iff.mp h
      obtain ⟨p13, h14, h⟩ := Option.bind_eq_some_iff.mp h
      refine j_callV C (As := [.int 0]) (st := []) (sk' := [.int p13.1]) mk_row_wordAt (Or.inl T_482) T_483 T_484 (ci := 1) rfl h12 (rc_le hF (by decide)) (rc_le hL (by decide)) (cg_row_wordAt h14) rfl rfl (by decide) d_srv_replyTo_31 rfl rfl ?_
      refine j_istore_n C (i := 3) d_srv_replyTo_34 rfl rfl [(3, .int p13.1), (0, va_rf (some a0)), (1, va_rf r1), (2, va_rf r2)] (rc_lt hN (by decide)) (by first | rfl | simp [va_rf_cat, rc_cat_i, rc_cat_l]) ?_
      refine j_aload_n C d_srv_replyTo_35 rfl 3 rfl ?_
      refine j_iload_n C d_srv_replyTo_36 rfl 0 rfl ?_
      obtain ⟨a15, h16, h⟩ := Option.bind_eq_some_iff.mp h
      obtain ⟨p17, h18, h⟩ := Option.bind_eq_some_iff.mp h
      refine j_callV C (As := [.int p13.1]) (st := []) (sk' := [va_rf p17.1]) mk_rpl_find (Or.inl T_486) T_487 T_488 (ci := 6) rfl h16 (rc_le hF (by decide)) (rc_le hL (by decide)) (ct_rpl_find h18) rfl rfl (by decide) d_srv_replyTo_37 rfl rfl ?_
      refine j_astore C (i := 4) d_srv_replyTo_40 rfl [(4, va_rf p17.1), (3, .int p13.1), (0, va_rf (some a0)), (1, va_rf r1), (2, va_rf r2)] (rc_lt hN (by decide)) (by first | rfl | simp [va_rf_cat, rc_cat_i, rc_cat_l]) ?_
      refine j_aload C d_srv_replyTo_42 rfl 0 rfl ?_
      refine j_ifnull (tgt := 60) C d_srv_replyTo_44 (by decide) rfl (fun c19 => ?_) (fun c19 => ?_)
      · rw [if_pos c19] at h
        refine j_aload_n C d_srv_replyTo_60 rfl 2 rfl ?_
        refine j_aload_n C d_srv_replyTo_61 rfl 3 rfl ?_
        obtain ⟨a20, h21, h⟩ := Option.bind_eq_some_iff.mp h
        obtain ⟨p22, h23, h⟩ := Option.bind_eq_some_iff.mp h
        refine j_callV C (As := [va_rf r1]) (st := []) (sk' := [.int p22.1]) mk_srv_verdictOn (Or.inl T_490) T_492 S_9 (ci := 2) rfl h21 (rc_le hF (by decide)) (rc_le hL (by decide)) (ct_srv_verdictOn h23) rfl rfl (by decide) d_srv_replyTo_62 rfl rfl ?_
        refine j_istore C (i := 5) d_srv_replyTo_65 rfl [(5, .int p22.1), (4, va_rf p17.1), (3, .int p13.1), (0, va_rf (some a0)), (1, va_rf r1), (2, va_rf r2)] (rc_lt hN (by decide)) (by first | rfl | simp [va_rf_cat, rc_cat_i, rc_cat_l]) ?_
        refine j_iload C d_srv_replyTo_67 rfl 0 rfl ?_
        refine j_iconst (v := (-1)) C d_srv_replyTo_69 rfl (by decide) ?_
        refine j_icmp_ne (tgt := 85) C d_srv_replyTo_70 (by decide) rfl (fun c24 => ?_) (fun c24 => ?_)
        · rw [if_neg c24] at h
          refine j_iload C d_srv_replyTo_85 rfl 0 rfl ?_
          refine j_if_ne (tgt := 100) C d_srv_replyTo_87 (by decide) rfl (fun c25 => ?_) (fun c25 => ?_)
          · rw [if_neg c25] at h
            refine rc_J.sub (lv' := [(0, va_rf (some a0)), (2, va_rf r2), (3, .int p13.1), (5, .int p22.1)]) [3, 5, 2, 0] rfl ?_
            exact k_srv_replyTo_100 hF hL hN C E h
          · rw [if_pos c25] at h
            refine j_aload_n C d_srv_replyTo_90 rfl 3 rfl ?_
            obtain ⟨a26, h27, h⟩ := Option.bind_eq_some_iff.mp h
            obtain ⟨p28, h29, h⟩ := Option.bind_eq_some_iff.mp h
            refine j_callV C (As := []) (st := []) (sk' := [.int p28.1]) mk_srv_isTaken (Or.inl T_520) T_522 S_11 (ci := 2) rfl h27 (rc_le hF (by decide)) (rc_le hL (by decide)) (ct_srv_isTaken h29) rfl rfl (by decide) d_srv_replyTo_91 rfl rfl ?_
            refine j_if_ne (tgt := 100) C d_srv_replyTo_94 (by decide) rfl (fun c30 => ?_) (fun c30 => ?_)
            · rw [if_neg c30] at h
              refine rc_J.sub (lv' := [(0, va_rf (some a0)), (2, va_rf r2), (3, .int p13.1), (5, .int p22.1)]) [3, 5, 2, 0] rfl ?_
              exact k_srv_replyTo_100 hF hL hN C E h
            · rw [if_pos c30] at h
              refine j_iconst (v := 4) C d_srv_replyTo_97 rfl (by decide) ?_
              refine j_istore C (i := 5) d_srv_replyTo_98 rfl [(5, .int 4), (4, va_rf p17.1), (3, .int p13.1), (0, va_rf (some a0)), (1, va_rf r1), (2, va_rf r2)] (rc_lt hN (by decide)) (by first | rfl | simp [va_rf_cat, rc_cat_i, rc_cat_l]) ?_
              refine rc_J.sub (lv' := [(0, va_rf (some a0)), (2, va_rf r2), (3, .int p13.1), (5, .int 4)]) [3, 5, 2, 0] rfl ?_
              exact k_srv_replyTo_100 hF hL hN C E h
        · rw [if_pos c24] at h
          refine j_aload_n C d_srv_replyTo_73 rfl 3 rfl ?_
          refine j_dup C d_srv_replyTo_74 rfl (by first | rfl | exact va_rf_cat _) ?_
          obtain ⟨v31, h32, h⟩ := Option.bind_eq_some_iff.mp h
          refine j_getI C fl_srv_39 h32 d_srv_replyTo_75 rfl ?_
          refine j_iconst (v := 1) C d_srv_replyTo_78 rfl (by decide) ?_
          refine j_iadd C d_srv_replyTo_79 rfl ?_
          obtain ⟨w33, h34, h⟩ := Option.bind_eq_some_iff.mp h
          refine j_putV C (ci := 2) (k := 5) (by decide) (by decide) T_96 (Or.inl rfl) rfl rfl h34 d_srv_replyTo_80 rfl ?_
          refine j_null C d_srv_replyTo_83 rfl ?_
          cases h
          exact j_aret C (by first | exact Or.inl ⟨_, rfl⟩ | exact Or.inr ⟨_, rfl⟩) E d_srv_replyTo_84
      · rw [if_neg c19] at h
        refine j_aload_n C d_srv_replyTo_47 rfl 2 rfl ?_
        refine j_dup C d_srv_replyTo_48 rfl (by first | rfl | exact va_rf_cat _) ?_
        obtain ⟨v35, h36, h⟩ := Option.bind_eq_some_iff.mp h
        refine j_getI C fl_srv_36 h36 d_srv_replyTo_49 rfl ?_
        refine j_iconst (v := 1) C d_srv_replyTo_52 rfl (by decide) ?_
        refine j_iadd C d_srv_replyTo_53 rfl ?_
        obtain ⟨w37, h38, h⟩ := Option.bind_eq_some_iff.mp h
        refine j_putV C (ci := 2) (k := 4) (by decide) (by decide) T_94 (Or.inl rfl) rfl rfl h38 d_srv_replyTo_54 rfl ?_
        refine j_aload C d_srv_replyTo_57 rfl 0 rfl ?_
        cases h
        exact j_aret C (by first | exact Or.inl ⟨_, rfl⟩ | exact Or.inr ⟨_, rfl⟩) E d_srv_replyTo_59
    · rw [if_neg c10] at h
      refine rc_J.sub (lv' := [(0, va_rf (some a0))]) [0] rfl ?_
      exact k_srv_replyTo_17 hF hL hN C E h

set_option maxRecDepth 100000 in
set_option maxHeartbeats 4000000 in
theorem k_rec_init_99 {X : rc_X} {w0 : rc_M} (hF : (q_R X).frames = 4) (hL : (q_R X).locals = 81) (hN : q_n X = 2) (C : rc_C X "RecordCalls" prog_1_method_1_code w0) {res : rc_M} (E : rc_E0 X y_rec_init none none res) : ∀ (fuel : Nat) (w : rc_M) (a0 : Nat) (x1 : Int32), b_rec_init_99 fuel w a0 x1 = some res → rc_J X w 99 [] [(0, va_rf (some a0)), (1, .int x1)] := by
  intro fuel
  induction fuel with
  | zero => intro w a0 x1 h; simp [b_rec_init_99] at h
  | succ fuel ih =>
    intro w a0 x1 h
    unfold b_rec_init_99 at h
    refine j_iload_n C d_rec_init_99 rfl 1 rfl ?_
    refine j_iconst (v := 4) C d_rec_init_100 rfl (by decide) ?_
    refine j_icmp_ge (tgt := 123) C d_rec_init_101 (by decide) rfl (fun c1 => ?_) (fun c1 => ?_)
    · rw [if_pos c1] at h
      cases h
      exact j_vret C E d_rec_init_123
    · rw [if_neg c1] at h
      refine j_aload_n C d_rec_init_104 rfl 0 rfl ?_
      obtain ⟨v2, h3, h⟩ := Option.bind_eq_some_iff.mp h
      refine j_getR C fl_rec_22 h3 d_rec_init_105 rfl ?_
      refine j_iload_n C d_rec_init_108 rfl 1 rfl ?_
      obtain ⟨p4, h5, h⟩ := Option.bind_eq_some_iff.mp h
      refine j_new C (ci := 5) (by decide) T_41 T_133 T_6 h5 d_rec_init_109 rfl ?_
      refine j_dup C d_rec_init_112 rfl (by first | rfl | exact va_rf_cat _) ?_
      obtain ⟨w6, h7, h⟩ := Option.bind_eq_some_iff.mp h
      refine j_callI C (As := []) (st := [va_rf (some p4.1), .int x1, va_rf v2]) mk_con_init (Or.inr T_134) T_135 rfl rfl (rc_le hF (by decide)) (rc_le hL (by decide)) (ct_con_init h7) rfl rfl (by simp [va_rf_cat, rc_cat_i, rc_cat_l]) d_rec_init_113 rfl ?_
      obtain ⟨w8, h9, h⟩ := Option.bind_eq_some_iff.mp h
      refine j_aast C (kd := 5) (ci := 5) rfl h9 d_rec_init_116 rfl ?_
      refine j_iinc C d_rec_init_117 rfl 1 [(1, .int (x1 + 1)), (0, va_rf (some a0))] rfl rfl (rc_lt hN (by decide)) (by first | rfl | simp [va_rf_cat, rc_cat_i, rc_cat_l]) ?_
      refine j_goto (tgt := 99) C d_rec_init_120 (by decide) ?_
      refine rc_J.sub (lv' := [(0, va_rf (some a0)), (1, .int (x1 + 1))]) [1, 0] rfl ?_
      exact ih _ _ _ h

set_option maxRecDepth 100000 in
set_option maxHeartbeats 4000000 in
theorem k_rec_init_72 {X : rc_X} {w0 : rc_M} (hF : (q_R X).frames = 4) (hL : (q_R X).locals = 81) (hN : q_n X = 2) (C : rc_C X "RecordCalls" prog_1_method_1_code w0) {res : rc_M} (E : rc_E0 X y_rec_init none none res) : ∀ (fuel : Nat) (w : rc_M) (a0 : Nat) (x1 : Int32), b_rec_init_72 fuel w a0 x1 = some res → rc_J X w 72 [] [(0, va_rf (some a0)), (1, .int x1)] := by
  intro fuel
  induction fuel with
  | zero => intro w a0 x1 h; simp [b_rec_init_72] at h
  | succ fuel ih =>
    intro w a0 x1 h
    unfold b_rec_init_72 at h
    refine j_iload_n C d_rec_init_72 rfl 1 rfl ?_
    refine j_bipush (v := 64) C d_rec_init_73 rfl (by decide) ?_
    refine j_icmp_ge (tgt := 97) C d_rec_init_75 (by decide) rfl (fun c1 => ?_) (fun c1 => ?_)
    · rw [if_pos c1] at h
      refine j_iconst (v := 0) C d_rec_init_97 rfl (by decide) ?_
      refine j_istore_n C (i := 1) d_rec_init_98 rfl rfl [(1, .int 0), (0, va_rf (some a0))] (rc_lt hN (by decide)) (by first | rfl | simp [va_rf_cat, rc_cat_i, rc_cat_l]) ?_
      refine rc_J.sub (lv' := [(0, va_rf (some a0)), (1, .int 0)]) [1, 0] rfl ?_
      exact k_rec_init_99 hF hL hN C E _ _ _ _ h
    · rw [if_neg c1] at h
      refine j_aload_n C d_rec_init_78 rfl 0 rfl ?_
      obtain ⟨v2, h3, h⟩ := Option.bind_eq_some_iff.mp h
      refine j_getR C fl_rec_16 h3 d_rec_init_79 rfl ?_
      refine j_iload_n C d_rec_init_82 rfl 1 rfl ?_
      obtain ⟨p4, h5, h⟩ := Option.bind_eq_some_iff.mp h
      refine j_new C (ci := 1) (by decide) T_26 T_27 T_2 h5 d_rec_init_83 rfl ?_
      refine j_dup C d_rec_init_86 rfl (by first | rfl | exact va_rf_cat _) ?_
      obtain ⟨w6, h7, h⟩ := Option.bind_eq_some_iff.mp h
      refine j_callI C (As := []) (st := [va_rf (some p4.1), .int x1, va_rf v2]) mk_row_init (Or.inr T_28) T_29 rfl rfl (rc_le hF (by decide)) (rc_le hL (by decide)) (cg_row_init h7) rfl rfl (by simp [va_rf_cat, rc_cat_i, rc_cat_l]) d_rec_init_87 rfl ?_
      obtain ⟨w8, h9, h⟩ := Option.bind_eq_some_iff.mp h
      refine j_aast C (kd := 4) (ci := 1) rfl h9 d_rec_init_90 rfl ?_
      refine j_iinc C d_rec_init_91 rfl 1 [(1, .int (x1 + 1)), (0, va_rf (some a0))] rfl rfl (rc_lt hN (by decide)) (by first | rfl | simp [va_rf_cat, rc_cat_i, rc_cat_l]) ?_
      refine j_goto (tgt := 72) C d_rec_init_94 (by decide) ?_
      refine rc_J.sub (lv' := [(0, va_rf (some a0)), (1, .int (x1 + 1))]) [1, 0] rfl ?_
      exact ih _ _ _ h

set_option maxRecDepth 100000 in
set_option maxHeartbeats 4000000 in
theorem ct_rec_init {l : Launch} {G : rc_G} {w : rc_M} {a0 : Nat} {res : rc_M} (h : f_rec_init w a0 = some res) : rc_Ct l G y_rec_init prog_1_method_1_code 2 none 4 81 [va_rf (some a0)] w none res := by
  refine rc_enter (by decide +kernel) (by simp [lg_sl, va_rf_cat, rc_cat_i, rc_cat_l]) ?_
  intro X _ _ hN hF hL C E
  have hlv : lv_args 0 [va_rf (some a0)] = [(0, va_rf (some a0))] := by simp [lv_args, va_rf_cat, rc_cat_i, rc_cat_l]
  rw [hlv]
  clear hlv
  unfold f_rec_init at h
  refine j_aload_n C d_rec_init_0 rfl 0 rfl ?_
  refine j_oinit C rfl T_23 T_24 T_25 (rc_le hF (by decide)) (rc_le hL (by simp [va_rf_cat, rc_cat_i, rc_cat_l])) d_rec_init_1 rfl ?_
  refine j_aload_n C d_rec_init_4 rfl 0 rfl ?_
  obtain ⟨p1, h2, h⟩ := Option.bind_eq_some_iff.mp h
  refine j_new C (ci := 1) (by decide) T_26 T_27 T_2 h2 d_rec_init_5 rfl ?_
  refine j_dup C d_rec_init_8 rfl (by first | rfl | exact va_rf_cat _) ?_
  obtain ⟨w3, h4, h⟩ := Option.bind_eq_some_iff.mp h
  refine j_callI C (As := []) (st := [va_rf (some p1.1), va_rf (some a0)]) mk_row_init (Or.inr T_28) T_29 rfl rfl (rc_le hF (by decide)) (rc_le hL (by decide)) (cg_row_init h4) rfl rfl (by simp [va_rf_cat, rc_cat_i, rc_cat_l]) d_rec_init_9 rfl ?_
  obtain ⟨w5, h6, h⟩ := Option.bind_eq_some_iff.mp h
  refine j_putV C (ci := 0) (k := 0) (by decide) (by decide) T_182 (Or.inr ⟨rfl, E.2.1, rfl⟩) rfl (by first | rfl | exact rc_fo _ _ | exact rc_fa _ _) h6 d_rec_init_12 rfl ?_
  refine j_aload_n C d_rec_init_15 rfl 0 rfl ?_
  refine j_bipush (v := 64) C d_rec_init_16 rfl (by decide) ?_
  obtain ⟨p7, h8, h⟩ := Option.bind_eq_some_iff.mp h
  refine j_anewA C (kd := 4) (ci := 1) rfl rfl T_26 T_40 h8 d_rec_init_18 rfl ?_
  obtain ⟨w9, h10, h⟩ := Option.bind_eq_some_iff.mp h
  refine j_putV C (ci := 0) (k := 1) (by decide) (by decide) T_183 (Or.inr ⟨rfl, E.2.1, rfl⟩) rfl (by first | rfl | exact rc_fo _ _ | exact rc_fa _ _) h10 d_rec_init_21 rfl ?_
  refine j_aload_n C d_rec_init_24 rfl 0 rfl ?_
  refine j_iconst (v := 4) C d_rec_init_25 rfl (by decide) ?_
  obtain ⟨p11, h12, h⟩ := Option.bind_eq_some_iff.mp h
  refine j_anewA C (kd := 5) (ci := 5) rfl rfl T_41 T_42 h12 d_rec_init_26 rfl ?_
  obtain ⟨w13, h14, h⟩ := Option.bind_eq_some_iff.mp h
  refine j_putV C (ci := 0) (k := 2) (by decide) (by decide) T_184 (Or.inr ⟨rfl, E.2.1, rfl⟩) rfl (by first | rfl | exact rc_fo _ _ | exact rc_fa _ _) h14 d_rec_init_29 rfl ?_
  refine j_aload_n C d_rec_init_32 rfl 0 rfl ?_
  obtain ⟨p15, h16, h⟩ := Option.bind_eq_some_iff.mp h
  refine j_new C (ci := 2) (by decide) T_43 T_44 T_3 h16 d_rec_init_33 rfl ?_
  refine j_dup C d_rec_init_36 rfl (by first | rfl | exact va_rf_cat _) ?_
  obtain ⟨w17, h18, h⟩ := Option.bind_eq_some_iff.mp h
  refine j_callI C (As := []) (st := [va_rf (some p15.1), va_rf (some a0)]) mk_srv_init (Or.inr T_45) T_46 rfl rfl (rc_le hF (by decide)) (rc_le hL (by decide)) (ct_srv_init h18) rfl rfl (by simp [va_rf_cat, rc_cat_i, rc_cat_l]) d_rec_init_37 rfl ?_
  obtain ⟨w19, h20, h⟩ := Option.bind_eq_some_iff.mp h
  refine j_putV C (ci := 0) (k := 3) (by decide) (by decide) T_185 (Or.inr ⟨rfl, E.2.1, rfl⟩) rfl (by first | rfl | exact rc_fo _ _ | exact rc_fa _ _) h20 d_rec_init_40 rfl ?_
  refine j_aload_n C d_rec_init_43 rfl 0 rfl ?_
  obtain ⟨p21, h22, h⟩ := Option.bind_eq_some_iff.mp h
  refine j_new C (ci := 1) (by decide) T_26 T_27 T_2 h22 d_rec_init_44 rfl ?_
  refine j_dup C d_rec_init_47 rfl (by first | rfl | exact va_rf_cat _) ?_
  obtain ⟨w23, h24, h⟩ := Option.bind_eq_some_iff.mp h
  refine j_callI C (As := []) (st := [va_rf (some p21.1), va_rf (some a0)]) mk_row_init (Or.inr T_28) T_29 rfl rfl (rc_le hF (by decide)) (rc_le hL (by decide)) (cg_row_init h24) rfl rfl (by simp [va_rf_cat, rc_cat_i, rc_cat_l]) d_rec_init_48 rfl ?_
  obtain ⟨w25, h26, h⟩ := Option.bind_eq_some_iff.mp h
  refine j_putV C (ci := 0) (k := 4) (by decide) (by decide) T_186 (Or.inr ⟨rfl, E.2.1, rfl⟩) rfl (by first | rfl | exact rc_fo _ _ | exact rc_fa _ _) h26 d_rec_init_51 rfl ?_
  refine j_aload_n C d_rec_init_54 rfl 0 rfl ?_
  obtain ⟨p27, h28, h⟩ := Option.bind_eq_some_iff.mp h
  refine j_new C (ci := 1) (by decide) T_26 T_27 T_2 h28 d_rec_init_55 rfl ?_
  refine j_dup C d_rec_init_58 rfl (by first | rfl | exact va_rf_cat _) ?_
  obtain ⟨w29, h30, h⟩ := Option.bind_eq_some_iff.mp h
  refine j_callI C (As := []) (st := [va_rf (some p27.1), va_rf (some a0)]) mk_row_init (Or.inr T_28) T_29 rfl rfl (rc_le hF (by decide)) (rc_le hL (by decide)) (cg_row_init h30) rfl rfl (by simp [va_rf_cat, rc_cat_i, rc_cat_l]) d_rec_init_59 rfl ?_
  obtain ⟨w31, h32, h⟩ := Option.bind_eq_some_iff.mp h
  refine j_putV C (ci := 0) (k := 5) (by decide) (by decide) T_187 (Or.inr ⟨rfl, E.2.1, rfl⟩) rfl (by first | rfl | exact rc_fo _ _ | exact rc_fa _ _) h32 d_rec_init_62 rfl ?_
  refine j_aload_n C d_rec_init_65 rfl 0 rfl ?_
  refine j_iconst (v := 0) C d_rec_init_66 rfl (by decide) ?_
  obtain ⟨w33, h34, h⟩ := Option.bind_eq_some_iff.mp h
  refine j_putV C (ci := 0) (k := 6) (by decide) (by decide) T_188 (Or.inl rfl) rfl rfl h34 d_rec_init_67 rfl ?_
  refine j_iconst (v := 0) C d_rec_init_70 rfl (by decide) ?_
  refine j_istore_n C (i := 1) d_rec_init_71 rfl rfl [(1, .int 0), (0, va_rf (some a0))] (rc_lt hN (by decide)) (by first | rfl | simp [va_rf_cat, rc_cat_i, rc_cat_l]) ?_
  refine rc_J.sub (lv' := [(0, va_rf (some a0)), (1, .int 0)]) [1, 0] rfl ?_
  exact k_rec_init_72 hF hL hN C E _ _ _ _ h

set_option maxRecDepth 100000 in
set_option maxHeartbeats 4000000 in
theorem ct_rec_slotRow {l : Launch} {G : rc_G} {w : rc_M} {a0 : Nat} {x1 : Int32} {res : Option Nat × rc_M} (h : f_rec_slotRow w a0 x1 = some res) : rc_Ct l G y_rec_slotRow prog_1_method_18_code 2 (some (.object "RecordCalls$Row")) 0 0 [va_rf (some a0), .int x1] w (some (va_rf res.1)) res.2 := by
  refine rc_enter (by decide +kernel) (by simp [lg_sl, va_rf_cat, rc_cat_i, rc_cat_l]) ?_
  intro X _ _ hN hF hL C E
  have hlv : lv_args 0 [va_rf (some a0), .int x1] = [(0, va_rf (some a0)), (1, .int x1)] := by simp [lv_args, va_rf_cat, rc_cat_i, rc_cat_l]
  rw [hlv]
  clear hlv
  unfold f_rec_slotRow at h
  refine j_aload_n C d_rec_slotRow_0 rfl 0 rfl ?_
  obtain ⟨v1, h2, h⟩ := Option.bind_eq_some_iff.mp h
  refine j_getR C fl_rec_16 h2 d_rec_slotRow_1 rfl ?_
  refine j_iload_n C d_rec_slotRow_4 rfl 1 rfl ?_
  refine j_bipush (v := 63) C d_rec_slotRow_5 rfl (by decide) ?_
  refine j_iand C d_rec_slotRow_7 rfl ?_
  obtain ⟨v3, h4, h⟩ := Option.bind_eq_some_iff.mp h
  refine j_aald C (kd := 4) rfl h4 d_rec_slotRow_8 rfl ?_
  cases h
  exact j_aret C (by first | exact Or.inl ⟨_, rfl⟩ | exact Or.inr ⟨_, rfl⟩) E d_rec_slotRow_9

set_option maxRecDepth 100000 in
set_option maxHeartbeats 4000000 in
theorem ct_rec_newSlot {l : Launch} {G : rc_G} {w : rc_M} {a0 : Nat} {res : Option Nat × rc_M} (h : f_rec_newSlot w a0 = some res) : rc_Ct l G y_rec_newSlot prog_1_method_19_code 2 (some (.object "RecordCalls$Row")) 1 21 [va_rf (some a0)] w (some (va_rf res.1)) res.2 := by
  refine rc_enter (by decide +kernel) (by simp [lg_sl, va_rf_cat, rc_cat_i, rc_cat_l]) ?_
  intro X _ _ hN hF hL C E
  have hlv : lv_args 0 [va_rf (some a0)] = [(0, va_rf (some a0))] := by simp [lv_args, va_rf_cat, rc_cat_i, rc_cat_l]
  rw [hlv]
  clear hlv
  unfold f_rec_newSlot at h
  refine j_aload_n C d_rec_newSlot_0 rfl 0 rfl ?_
  refine j_aload_n C d_rec_newSlot_1 rfl 0 rfl ?_
  obtain ⟨v1, h2, h⟩ := Option.bind_eq_some_iff.mp h
  refine j_getI C fl_rec_39 h2 d_rec_newSlot_2 rfl ?_
  obtain ⟨a3, h4, h⟩ := Option.bind_eq_some_iff.mp h
  obtain ⟨p5, h6, h⟩ := Option.bind_eq_some_iff.mp h
  refine j_callV C (As := [.int v1]) (st := []) (sk' := [va_rf p5.1]) mk_rec_slotRow (Or.inl T_212) T_214 S_1 (ci := 0) rfl h4 (rc_le hF (by decide)) (rc_le hL (by decide)) (ct_rec_slotRow h6) rfl rfl (by decide) d_rec_newSlot_5 rfl rfl ?_
  refine j_astore_n C (i := 1) d_rec_newSlot_8 rfl rfl [(1, va_rf p5.1), (0, va_rf (some a0))] (rc_lt hN (by decide)) (by first | rfl | simp [va_rf_cat, rc_cat_i, rc_cat_l]) ?_
  refine j_aload_n C d_rec_newSlot_9 rfl 1 rfl ?_
  refine j_dup C d_rec_newSlot_10 rfl (by first | rfl | exact va_rf_cat _) ?_
  obtain ⟨v7, h8, h⟩ := Option.bind_eq_some_iff.mp h
  refine j_getI C fl_rec_39 h8 d_rec_newSlot_11 rfl ?_
  refine j_iconst (v := 1) C d_rec_newSlot_14 rfl (by decide) ?_
  refine j_iadd C d_rec_newSlot_15 rfl ?_
  obtain ⟨w9, h10, h⟩ := Option.bind_eq_some_iff.mp h
  refine j_putV C (ci := 0) (k := 6) (by decide) (by decide) T_188 (Or.inl rfl) rfl rfl h10 d_rec_newSlot_16 rfl ?_
  refine j_aload_n C d_rec_newSlot_19 rfl 0 rfl ?_
  obtain ⟨a11, h12, h⟩ := Option.bind_eq_some_iff.mp h
  obtain ⟨w13, h14, h⟩ := Option.bind_eq_some_iff.mp h
  refine j_callV C (As := []) (st := []) (sk' := []) mk_row_clear (Or.inl T_216) T_217 T_218 (ci := 1) rfl h12 (rc_le hF (by decide)) (rc_le hL (by decide)) (cg_row_clear h14) rfl rfl (by decide) d_rec_newSlot_20 rfl rfl ?_
  refine j_aload_n C d_rec_newSlot_23 rfl 0 rfl ?_
  cases h
  exact j_aret C (by first | exact Or.inl ⟨_, rfl⟩ | exact Or.inr ⟨_, rfl⟩) E d_rec_newSlot_24

set_option maxRecDepth 100000 in
set_option maxHeartbeats 4000000 in
theorem ct_rec_tapeIsSlot {l : Launch} {G : rc_G} {w : rc_M} {a0 : Nat} {res : Int32 × rc_M} (h : f_rec_tapeIsSlot w a0 = some res) : rc_Ct l G y_rec_tapeIsSlot prog_1_method_20_code 1 (some .int) 1 20 [va_rf (some a0)] w (some (.int res.1)) res.2 := by
  refine rc_enter (by decide +kernel) (by simp [lg_sl, va_rf_cat, rc_cat_i, rc_cat_l]) ?_
  intro X _ _ hN hF hL C E
  have hlv : lv_args 0 [va_rf (some a0)] = [(0, va_rf (some a0))] := by simp [lv_args, va_rf_cat, rc_cat_i, rc_cat_l]
  rw [hlv]
  clear hlv
  unfold f_rec_tapeIsSlot at h
  refine j_aload_n C d_rec_tapeIsSlot_0 rfl 0 rfl ?_
  obtain ⟨v1, h2, h⟩ := Option.bind_eq_some_iff.mp h
  refine j_getR C fl_rec_10 h2 d_rec_tapeIsSlot_1 rfl ?_
  obtain ⟨a3, h4, h⟩ := Option.bind_eq_some_iff.mp h
  obtain ⟨w5, h6, h⟩ := Option.bind_eq_some_iff.mp h
  refine j_callV C (As := []) (st := []) (sk' := []) mk_row_clear (Or.inl T_216) T_217 T_218 (ci := 1) rfl h4 (rc_le hF (by decide)) (rc_le hL (by decide)) (cg_row_clear h6) rfl rfl (by decide) d_rec_tapeIsSlot_4 rfl rfl ?_
  refine j_aload_n C d_rec_tapeIsSlot_7 rfl 0 rfl ?_
  obtain ⟨v7, h8, h⟩ := Option.bind_eq_some_iff.mp h
  refine j_getI C fl_rec_39 h8 d_rec_tapeIsSlot_8 rfl ?_
  refine j_iconst (v := 1) C d_rec_tapeIsSlot_11 rfl (by decide) ?_
  refine j_isub C d_rec_tapeIsSlot_12 rfl ?_
  cases h
  exact j_iret C E d_rec_tapeIsSlot_13

set_option maxRecDepth 100000 in
set_option maxHeartbeats 4000000 in
theorem ct_rec_raw {l : Launch} {G : rc_G} {w : rc_M} {a0 : Nat} {res : Int32 × rc_M} (h : f_rec_raw w a0 = some res) : rc_Ct l G y_rec_raw prog_1_method_4_code 1 (some .int) 4 94 [va_rf (some a0)] w (some (.int res.1)) res.2 := by
  refine rc_enter (by decide +kernel) (by simp [lg_sl, va_rf_cat, rc_cat_i, rc_cat_l]) ?_
  intro X _ _ hN hF hL C E
  have hlv : lv_args 0 [va_rf (some a0)] = [(0, va_rf (some a0))] := by simp [lv_args, va_rf_cat, rc_cat_i, rc_cat_l]
  rw [hlv]
  clear hlv
  unfold f_rec_raw at h
  refine j_aload_n C d_rec_raw_0 rfl 0 rfl ?_
  obtain ⟨a1, h2, h⟩ := Option.bind_eq_some_iff.mp h
  obtain ⟨p3, h4, h⟩ := Option.bind_eq_some_iff.mp h
  refine j_callV C (As := []) (st := []) (sk' := [va_rf p3.1]) mk_rec_newSlot (Or.inl T_208) T_210 S_0 (ci := 0) rfl h2 (rc_le hF (by decide)) (rc_le hL (by decide)) (ct_rec_newSlot h4) rfl rfl (by decide) d_rec_raw_1 rfl rfl ?_
  refine j_aload_n C d_rec_raw_4 rfl 0 rfl ?_
  obtain ⟨v5, h6, h⟩ := Option.bind_eq_some_iff.mp h
  refine j_getR C fl_rec_10 h6 d_rec_raw_5 rfl ?_
  refine j_iconst (v := 0) C d_rec_raw_8 rfl (by decide) ?_
  refine j_aload_n C d_rec_raw_9 rfl 0 rfl ?_
  obtain ⟨v7, h8, h⟩ := Option.bind_eq_some_iff.mp h
  refine j_getR C fl_rec_10 h8 d_rec_raw_10 rfl ?_
  obtain ⟨a9, h10, h⟩ := Option.bind_eq_some_iff.mp h
  obtain ⟨p11, h12, h⟩ := Option.bind_eq_some_iff.mp h
  refine j_callV C (As := []) (st := [.int 0, va_rf v5, va_rf p3.1]) (sk' := [.int p11.1, .int 0, va_rf v5, va_rf p3.1]) mk_row_size (Or.inl T_220) T_221 T_222 (ci := 1) rfl h10 (rc_le hF (by decide)) (rc_le hL (by decide)) (cg_row_size h12) rfl rfl (by simp [va_rf_cat, rc_cat_i, rc_cat_l]) d_rec_raw_13 rfl rfl ?_
  obtain ⟨a13, h14, h⟩ := Option.bind_eq_some_iff.mp h
  obtain ⟨w15, h16, h⟩ := Option.bind_eq_some_iff.mp h
  refine j_callV C (As := [va_rf v5, .int 0, .int p11.1]) (st := []) (sk' := []) mk_row_addPart (Or.inl T_224) T_225 T_226 (ci := 1) rfl h14 (rc_le hF (by decide)) (rc_le hL (by decide)) (cg_row_addPart h16) rfl rfl (by decide) d_rec_raw_16 rfl rfl ?_
  refine j_aload_n C d_rec_raw_19 rfl 0 rfl ?_
  obtain ⟨a17, h18, h⟩ := Option.bind_eq_some_iff.mp h
  obtain ⟨p19, h20, h⟩ := Option.bind_eq_some_iff.mp h
  refine j_callV C (As := []) (st := []) (sk' := [.int p19.1]) mk_rec_tapeIsSlot (Or.inl T_252) T_254 S_3 (ci := 0) rfl h18 (rc_le hF (by decide)) (rc_le hL (by decide)) (ct_rec_tapeIsSlot h20) rfl rfl (by decide) d_rec_raw_20 rfl rfl ?_
  cases h
  exact j_iret C E d_rec_raw_23

