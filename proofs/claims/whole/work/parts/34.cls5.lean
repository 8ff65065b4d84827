theorem fl_rec_29 : rc_FL "RecordCalls" 29 0 3 := ⟨by decide, by decide, Or.inl T_185⟩
theorem fl_rec_36 : rc_FL "RecordCalls" 36 0 5 := ⟨by decide, by decide, Or.inl T_187⟩
theorem fl_rec_153 : rc_FL "RecordCalls" 153 2 0 := ⟨by decide, by decide, Or.inr T_89⟩
theorem d_rec_fragments_0 : decode prog_1_method_23_code 0 = .ok (.iload_n 0, 1) := by decide +kernel
theorem d_rec_fragments_1 : decode prog_1_method_23_code 1 = .ok (.ifCond .eq 8, 3) := by decide +kernel
theorem d_rec_fragments_4 : decode prog_1_method_23_code 4 = .ok (.iload_n 1, 1) := by decide +kernel
theorem d_rec_fragments_5 : decode prog_1_method_23_code 5 = .ok (.iconst 1, 1) := by decide +kernel
theorem d_rec_fragments_6 : decode prog_1_method_23_code 6 = .ok (.if_icmp .ge 5, 3) := by decide +kernel
theorem d_rec_fragments_9 : decode prog_1_method_23_code 9 = .ok (.iconst 1, 1) := by decide +kernel
theorem d_rec_fragments_10 : decode prog_1_method_23_code 10 = .ok (.ireturn, 1) := by decide +kernel
theorem d_rec_fragments_11 : decode prog_1_method_23_code 11 = .ok (.iload_n 0, 1) := by decide +kernel
theorem d_rec_fragments_12 : decode prog_1_method_23_code 12 = .ok (.iconst 1, 1) := by decide +kernel
theorem d_rec_fragments_13 : decode prog_1_method_23_code 13 = .ok (.isub, 1) := by decide +kernel
theorem d_rec_fragments_14 : decode prog_1_method_23_code 14 = .ok (.iload_n 1, 1) := by decide +kernel
theorem d_rec_fragments_15 : decode prog_1_method_23_code 15 = .ok (.idiv, 1) := by decide +kernel
theorem d_rec_fragments_16 : decode prog_1_method_23_code 16 = .ok (.iconst 1, 1) := by decide +kernel
theorem d_rec_fragments_17 : decode prog_1_method_23_code 17 = .ok (.iadd, 1) := by decide +kernel
theorem d_rec_fragments_18 : decode prog_1_method_23_code 18 = .ok (.ireturn, 1) := by decide +kernel
theorem d_rec_addOneFragment_0 : decode prog_1_method_21_code 0 = .ok (.aload_n 0, 1) := by decide +kernel
theorem d_rec_addOneFragment_1 : decode prog_1_method_21_code 1 = .ok (.invokevirtual 61, 3) := by decide +kernel
theorem d_rec_addOneFragment_4 : decode prog_1_method_21_code 4 = .ok (.astore_n 2, 1) := by decide +kernel
theorem d_rec_addOneFragment_5 : decode prog_1_method_21_code 5 = .ok (.aload_n 2, 1) := by decide +kernel
theorem d_rec_addOneFragment_6 : decode prog_1_method_21_code 6 = .ok (.ldc 81, 2) := by decide +kernel
theorem d_rec_addOneFragment_8 : decode prog_1_method_21_code 8 = .ok (.aload_n 1, 1) := by decide +kernel
theorem d_rec_addOneFragment_9 : decode prog_1_method_21_code 9 = .ok (.invokevirtual 44, 3) := by decide +kernel
theorem d_rec_addOneFragment_12 : decode prog_1_method_21_code 12 = .ok (.ior, 1) := by decide +kernel
theorem d_rec_addOneFragment_13 : decode prog_1_method_21_code 13 = .ok (.invokevirtual 51, 3) := by decide +kernel
theorem d_rec_addOneFragment_16 : decode prog_1_method_21_code 16 = .ok (.aload_n 2, 1) := by decide +kernel
theorem d_rec_addOneFragment_17 : decode prog_1_method_21_code 17 = .ok (.aload_n 1, 1) := by decide +kernel
theorem d_rec_addOneFragment_18 : decode prog_1_method_21_code 18 = .ok (.iconst 0, 1) := by decide +kernel
theorem d_rec_addOneFragment_19 : decode prog_1_method_21_code 19 = .ok (.aload_n 1, 1) := by decide +kernel
theorem d_rec_addOneFragment_20 : decode prog_1_method_21_code 20 = .ok (.invokevirtual 44, 3) := by decide +kernel
theorem d_rec_addOneFragment_23 : decode prog_1_method_21_code 23 = .ok (.invokevirtual 65, 3) := by decide +kernel
theorem d_rec_addOneFragment_26 : decode prog_1_method_21_code 26 = .ok (.return_, 1) := by decide +kernel
theorem d_rec_isConnection_0 : decode prog_1_method_16_code 0 = .ok (.iload_n 0, 1) := by decide +kernel
theorem d_rec_isConnection_1 : decode prog_1_method_16_code 1 = .ok (.ifCond .lt 12, 3) := by decide +kernel
theorem d_rec_isConnection_4 : decode prog_1_method_16_code 4 = .ok (.iload_n 0, 1) := by decide +kernel
theorem d_rec_isConnection_5 : decode prog_1_method_16_code 5 = .ok (.iconst 4, 1) := by decide +kernel
theorem d_rec_isConnection_6 : decode prog_1_method_16_code 6 = .ok (.if_icmp .ge 7, 3) := by decide +kernel
theorem d_rec_isConnection_9 : decode prog_1_method_16_code 9 = .ok (.iconst 1, 1) := by decide +kernel
theorem d_rec_isConnection_10 : decode prog_1_method_16_code 10 = .ok (.goto 4, 3) := by decide +kernel
theorem d_rec_isConnection_13 : decode prog_1_method_16_code 13 = .ok (.iconst 0, 1) := by decide +kernel
theorem d_rec_isConnection_14 : decode prog_1_method_16_code 14 = .ok (.ireturn, 1) := by decide +kernel
theorem d_rec_isSlot_0 : decode prog_1_method_17_code 0 = .ok (.iload_n 1, 1) := by decide +kernel
theorem d_rec_isSlot_1 : decode prog_1_method_17_code 1 = .ok (.ifCond .lt 26, 3) := by decide +kernel
theorem d_rec_isSlot_4 : decode prog_1_method_17_code 4 = .ok (.iload_n 1, 1) := by decide +kernel
theorem d_rec_isSlot_5 : decode prog_1_method_17_code 5 = .ok (.aload_n 0, 1) := by decide +kernel
theorem d_rec_isSlot_6 : decode prog_1_method_17_code 6 = .ok (.getfield 39, 3) := by decide +kernel
theorem d_rec_isSlot_9 : decode prog_1_method_17_code 9 = .ok (.if_icmp .ge 18, 3) := by decide +kernel
theorem d_rec_isSlot_12 : decode prog_1_method_17_code 12 = .ok (.iload_n 1, 1) := by decide +kernel
theorem d_rec_isSlot_13 : decode prog_1_method_17_code 13 = .ok (.aload_n 0, 1) := by decide +kernel
theorem d_rec_isSlot_14 : decode prog_1_method_17_code 14 = .ok (.getfield 39, 3) := by decide +kernel
theorem d_rec_isSlot_17 : decode prog_1_method_17_code 17 = .ok (.bipush 64, 2) := by decide +kernel
theorem d_rec_isSlot_19 : decode prog_1_method_17_code 19 = .ok (.isub, 1) := by decide +kernel
theorem d_rec_isSlot_20 : decode prog_1_method_17_code 20 = .ok (.if_icmp .lt 7, 3) := by decide +kernel
theorem d_rec_isSlot_23 : decode prog_1_method_17_code 23 = .ok (.iconst 1, 1) := by decide +kernel
theorem d_rec_isSlot_24 : decode prog_1_method_17_code 24 = .ok (.goto 4, 3) := by decide +kernel
theorem d_rec_isSlot_27 : decode prog_1_method_17_code 27 = .ok (.iconst 0, 1) := by decide +kernel
theorem d_rec_isSlot_28 : decode prog_1_method_17_code 28 = .ok (.ireturn, 1) := by decide +kernel
theorem d_rec_addReply_0 : decode prog_1_method_24_code 0 = .ok (.aload_n 1, 1) := by decide +kernel
theorem d_rec_addReply_1 : decode prog_1_method_24_code 1 = .ok (.ifnonnull 5, 3) := by decide +kernel
theorem d_rec_addReply_4 : decode prog_1_method_24_code 4 = .ok (.iconst 0, 1) := by decide +kernel
theorem d_rec_addReply_5 : decode prog_1_method_24_code 5 = .ok (.ireturn, 1) := by decide +kernel
theorem d_rec_addReply_6 : decode prog_1_method_24_code 6 = .ok (.aload_n 0, 1) := by decide +kernel
theorem d_rec_addReply_7 : decode prog_1_method_24_code 7 = .ok (.aload_n 1, 1) := by decide +kernel
theorem d_rec_addReply_8 : decode prog_1_method_24_code 8 = .ok (.invokevirtual 97, 3) := by decide +kernel
theorem d_rec_addReply_11 : decode prog_1_method_24_code 11 = .ok (.iconst 1, 1) := by decide +kernel
theorem d_rec_addReply_12 : decode prog_1_method_24_code 12 = .ok (.ireturn, 1) := by decide +kernel
theorem d_rec_isJoined_0 : decode prog_1_method_26_code 0 = .ok (.aload_n 0, 1) := by decide +kernel
theorem d_rec_isJoined_1 : decode prog_1_method_26_code 1 = .ok (.getfield 36, 3) := by decide +kernel
theorem d_rec_isJoined_4 : decode prog_1_method_26_code 4 = .ok (.invokevirtual 82, 3) := by decide +kernel
theorem d_rec_isJoined_7 : decode prog_1_method_26_code 7 = .ok (.aload_n 1, 1) := by decide +kernel
theorem d_rec_isJoined_8 : decode prog_1_method_26_code 8 = .ok (.invokevirtual 44, 3) := by decide +kernel
theorem d_rec_isJoined_11 : decode prog_1_method_26_code 11 = .ok (.istore_n 2, 1) := by decide +kernel
theorem d_rec_isJoined_12 : decode prog_1_method_26_code 12 = .ok (.iconst 0, 1) := by decide +kernel
theorem d_rec_isJoined_13 : decode prog_1_method_26_code 13 = .ok (.istore_n 3, 1) := by decide +kernel
theorem d_rec_isJoined_14 : decode prog_1_method_26_code 14 = .ok (.iload_n 3, 1) := by decide +kernel
theorem d_rec_isJoined_15 : decode prog_1_method_26_code 15 = .ok (.iload_n 2, 1) := by decide +kernel
theorem d_rec_isJoined_16 : decode prog_1_method_26_code 16 = .ok (.iconst 4, 1) := by decide +kernel
theorem d_rec_isJoined_17 : decode prog_1_method_26_code 17 = .ok (.isub, 1) := by decide +kernel
theorem d_rec_isJoined_18 : decode prog_1_method_26_code 18 = .ok (.if_icmp .gt 68, 3) := by decide +kernel
theorem d_rec_isJoined_21 : decode prog_1_method_26_code 21 = .ok (.aload_n 1, 1) := by decide +kernel
theorem d_rec_isJoined_22 : decode prog_1_method_26_code 22 = .ok (.iload_n 3, 1) := by decide +kernel
theorem d_rec_isJoined_23 : decode prog_1_method_26_code 23 = .ok (.invokevirtual 143, 3) := by decide +kernel
theorem d_rec_isJoined_26 : decode prog_1_method_26_code 26 = .ok (.istore 4, 2) := by decide +kernel
theorem d_rec_isJoined_28 : decode prog_1_method_26_code 28 = .ok (.iload 4, 2) := by decide +kernel
theorem d_rec_isJoined_30 : decode prog_1_method_26_code 30 = .ok (.ldc 183, 2) := by decide +kernel
theorem d_rec_isJoined_32 : decode prog_1_method_26_code 32 = .ok (.iand, 1) := by decide +kernel
theorem d_rec_isJoined_33 : decode prog_1_method_26_code 33 = .ok (.istore 5, 2) := by decide +kernel
theorem d_rec_isJoined_35 : decode prog_1_method_26_code 35 = .ok (.iinc 3 4, 3) := by decide +kernel
theorem d_rec_isJoined_38 : decode prog_1_method_26_code 38 = .ok (.iload 5, 2) := by decide +kernel
theorem d_rec_isJoined_40 : decode prog_1_method_26_code 40 = .ok (.iload_n 2, 1) := by decide +kernel
theorem d_rec_isJoined_41 : decode prog_1_method_26_code 41 = .ok (.iload_n 3, 1) := by decide +kernel
theorem d_rec_isJoined_42 : decode prog_1_method_26_code 42 = .ok (.isub, 1) := by decide +kernel
theorem d_rec_isJoined_43 : decode prog_1_method_26_code 43 = .ok (.if_icmp .le 5, 3) := by decide +kernel
theorem d_rec_isJoined_46 : decode prog_1_method_26_code 46 = .ok (.iconst 0, 1) := by decide +kernel
theorem d_rec_isJoined_47 : decode prog_1_method_26_code 47 = .ok (.ireturn, 1) := by decide +kernel
theorem d_rec_isJoined_48 : decode prog_1_method_26_code 48 = .ok (.aload_n 0, 1) := by decide +kernel
theorem d_rec_isJoined_49 : decode prog_1_method_26_code 49 = .ok (.getfield 36, 3) := by decide +kernel
theorem d_rec_isJoined_52 : decode prog_1_method_26_code 52 = .ok (.aload_n 1, 1) := by decide +kernel
theorem d_rec_isJoined_53 : decode prog_1_method_26_code 53 = .ok (.iload_n 3, 1) := by decide +kernel
theorem d_rec_isJoined_54 : decode prog_1_method_26_code 54 = .ok (.iload 5, 2) := by decide +kernel
theorem d_rec_isJoined_56 : decode prog_1_method_26_code 56 = .ok (.invokevirtual 65, 3) := by decide +kernel
theorem d_rec_isJoined_59 : decode prog_1_method_26_code 59 = .ok (.iload_n 3, 1) := by decide +kernel
theorem d_rec_isJoined_60 : decode prog_1_method_26_code 60 = .ok (.iload 5, 2) := by decide +kernel
theorem d_rec_isJoined_62 : decode prog_1_method_26_code 62 = .ok (.iadd, 1) := by decide +kernel
theorem d_rec_isJoined_63 : decode prog_1_method_26_code 63 = .ok (.istore_n 3, 1) := by decide +kernel
theorem d_rec_isJoined_64 : decode prog_1_method_26_code 64 = .ok (.iload 4, 2) := by decide +kernel
theorem d_rec_isJoined_66 : decode prog_1_method_26_code 66 = .ok (.ldc 81, 2) := by decide +kernel
theorem d_rec_isJoined_68 : decode prog_1_method_26_code 68 = .ok (.iand, 1) := by decide +kernel
theorem d_rec_isJoined_69 : decode prog_1_method_26_code 69 = .ok (.ifCond .eq 14, 3) := by decide +kernel
theorem d_rec_isJoined_72 : decode prog_1_method_26_code 72 = .ok (.iload_n 3, 1) := by decide +kernel
theorem d_rec_isJoined_73 : decode prog_1_method_26_code 73 = .ok (.iload_n 2, 1) := by decide +kernel
theorem d_rec_isJoined_74 : decode prog_1_method_26_code 74 = .ok (.if_icmp .ne 7, 3) := by decide +kernel
theorem d_rec_isJoined_77 : decode prog_1_method_26_code 77 = .ok (.iconst 1, 1) := by decide +kernel
theorem d_rec_isJoined_78 : decode prog_1_method_26_code 78 = .ok (.goto 4, 3) := by decide +kernel
theorem d_rec_isJoined_81 : decode prog_1_method_26_code 81 = .ok (.iconst 0, 1) := by decide +kernel
theorem d_rec_isJoined_82 : decode prog_1_method_26_code 82 = .ok (.ireturn, 1) := by decide +kernel
theorem d_rec_isJoined_83 : decode prog_1_method_26_code 83 = .ok (.goto (-69), 3) := by decide +kernel
theorem d_rec_isJoined_86 : decode prog_1_method_26_code 86 = .ok (.iconst 0, 1) := by decide +kernel
theorem d_rec_isJoined_87 : decode prog_1_method_26_code 87 = .ok (.ireturn, 1) := by decide +kernel
theorem d_rec_saidByAccepted_0 : decode prog_1_method_28_code 0 = .ok (.aload_n 0, 1) := by decide +kernel
theorem d_rec_saidByAccepted_1 : decode prog_1_method_28_code 1 = .ok (.invokevirtual 44, 3) := by decide +kernel
theorem d_rec_saidByAccepted_4 : decode prog_1_method_28_code 4 = .ok (.istore_n 1, 1) := by decide +kernel
theorem d_rec_saidByAccepted_5 : decode prog_1_method_28_code 5 = .ok (.aload_n 0, 1) := by decide +kernel
theorem d_rec_saidByAccepted_6 : decode prog_1_method_28_code 6 = .ok (.bipush 12, 2) := by decide +kernel
theorem d_rec_saidByAccepted_8 : decode prog_1_method_28_code 8 = .ok (.invokevirtual 143, 3) := by decide +kernel
theorem d_rec_saidByAccepted_11 : decode prog_1_method_28_code 11 = .ok (.ifCond .ne 12, 3) := by decide +kernel
theorem d_rec_saidByAccepted_14 : decode prog_1_method_28_code 14 = .ok (.aload_n 0, 1) := by decide +kernel
theorem d_rec_saidByAccepted_15 : decode prog_1_method_28_code 15 = .ok (.bipush 16, 2) := by decide +kernel
theorem d_rec_saidByAccepted_17 : decode prog_1_method_28_code 17 = .ok (.invokevirtual 143, 3) := by decide +kernel
theorem d_rec_saidByAccepted_20 : decode prog_1_method_28_code 20 = .ok (.ifCond .eq 7, 3) := by decide +kernel
theorem d_rec_saidByAccepted_23 : decode prog_1_method_28_code 23 = .ok (.iconst 1, 1) := by decide +kernel
theorem d_rec_saidByAccepted_24 : decode prog_1_method_28_code 24 = .ok (.goto 4, 3) := by decide +kernel
theorem d_rec_saidByAccepted_27 : decode prog_1_method_28_code 27 = .ok (.iconst 0, 1) := by decide +kernel
theorem d_rec_saidByAccepted_28 : decode prog_1_method_28_code 28 = .ok (.istore_n 2, 1) := by decide +kernel
theorem d_rec_saidByAccepted_29 : decode prog_1_method_28_code 29 = .ok (.iload_n 1, 1) := by decide +kernel
theorem d_rec_saidByAccepted_30 : decode prog_1_method_28_code 30 = .ok (.bipush 24, 2) := by decide +kernel
theorem d_rec_saidByAccepted_32 : decode prog_1_method_28_code 32 = .ok (.if_icmp .lt 7, 3) := by decide +kernel
theorem d_rec_saidByAccepted_35 : decode prog_1_method_28_code 35 = .ok (.iload_n 2, 1) := by decide +kernel
theorem d_rec_saidByAccepted_36 : decode prog_1_method_28_code 36 = .ok (.ifCond .eq 5, 3) := by decide +kernel
theorem d_rec_saidByAccepted_39 : decode prog_1_method_28_code 39 = .ok (.iconst (-1), 1) := by decide +kernel
theorem d_rec_saidByAccepted_40 : decode prog_1_method_28_code 40 = .ok (.ireturn, 1) := by decide +kernel
theorem d_rec_saidByAccepted_41 : decode prog_1_method_28_code 41 = .ok (.aload_n 0, 1) := by decide +kernel
theorem d_rec_saidByAccepted_42 : decode prog_1_method_28_code 42 = .ok (.bipush 20, 2) := by decide +kernel
theorem d_rec_saidByAccepted_44 : decode prog_1_method_28_code 44 = .ok (.invokevirtual 143, 3) := by decide +kernel
theorem d_rec_saidByAccepted_47 : decode prog_1_method_28_code 47 = .ok (.istore_n 3, 1) := by decide +kernel
theorem d_rec_saidByAccepted_48 : decode prog_1_method_28_code 48 = .ok (.iload_n 3, 1) := by decide +kernel
theorem d_rec_saidByAccepted_49 : decode prog_1_method_28_code 49 = .ok (.tableswitch 93 0 4 #[35, 77, 41, 77, 77], 35) := by decide +kernel
theorem d_rec_saidByAccepted_84 : decode prog_1_method_28_code 84 = .ok (.iconst 1, 1) := by decide +kernel
theorem d_rec_saidByAccepted_85 : decode prog_1_method_28_code 85 = .ok (.istore 4, 2) := by decide +kernel
theorem d_rec_saidByAccepted_87 : decode prog_1_method_28_code 87 = .ok (.goto 58, 3) := by decide +kernel
theorem d_rec_saidByAccepted_90 : decode prog_1_method_28_code 90 = .ok (.iload_n 1, 1) := by decide +kernel
theorem d_rec_saidByAccepted_91 : decode prog_1_method_28_code 91 = .ok (.bipush 32, 2) := by decide +kernel
theorem d_rec_saidByAccepted_93 : decode prog_1_method_28_code 93 = .ok (.if_icmp .ne 27, 3) := by decide +kernel
theorem d_rec_saidByAccepted_96 : decode prog_1_method_28_code 96 = .ok (.aload_n 0, 1) := by decide +kernel
theorem d_rec_saidByAccepted_97 : decode prog_1_method_28_code 97 = .ok (.bipush 24, 2) := by decide +kernel
theorem d_rec_saidByAccepted_99 : decode prog_1_method_28_code 99 = .ok (.invokevirtual 143, 3) := by decide +kernel
theorem d_rec_saidByAccepted_102 : decode prog_1_method_28_code 102 = .ok (.iconst 1, 1) := by decide +kernel
theorem d_rec_saidByAccepted_103 : decode prog_1_method_28_code 103 = .ok (.if_icmp .ne 17, 3) := by decide +kernel
theorem d_rec_saidByAccepted_106 : decode prog_1_method_28_code 106 = .ok (.aload_n 0, 1) := by decide +kernel
theorem d_rec_saidByAccepted_107 : decode prog_1_method_28_code 107 = .ok (.bipush 28, 2) := by decide +kernel
theorem d_rec_saidByAccepted_109 : decode prog_1_method_28_code 109 = .ok (.invokevirtual 143, 3) := by decide +kernel
theorem d_rec_saidByAccepted_112 : decode prog_1_method_28_code 112 = .ok (.iconst 2, 1) := by decide +kernel
theorem d_rec_saidByAccepted_113 : decode prog_1_method_28_code 113 = .ok (.if_icmp .ne 7, 3) := by decide +kernel
theorem d_rec_saidByAccepted_116 : decode prog_1_method_28_code 116 = .ok (.iconst 1, 1) := by decide +kernel
theorem d_rec_saidByAccepted_117 : decode prog_1_method_28_code 117 = .ok (.goto 4, 3) := by decide +kernel
theorem d_rec_saidByAccepted_120 : decode prog_1_method_28_code 120 = .ok (.iconst 0, 1) := by decide +kernel
theorem d_rec_saidByAccepted_121 : decode prog_1_method_28_code 121 = .ok (.istore 4, 2) := by decide +kernel
theorem d_rec_saidByAccepted_123 : decode prog_1_method_28_code 123 = .ok (.goto 22, 3) := by decide +kernel
theorem d_rec_saidByAccepted_126 : decode prog_1_method_28_code 126 = .ok (.iload_n 1, 1) := by decide +kernel
theorem d_rec_saidByAccepted_127 : decode prog_1_method_28_code 127 = .ok (.bipush 24, 2) := by decide +kernel
theorem d_rec_saidByAccepted_129 : decode prog_1_method_28_code 129 = .ok (.if_icmp .ne 7, 3) := by decide +kernel
theorem d_rec_saidByAccepted_132 : decode prog_1_method_28_code 132 = .ok (.iconst 1, 1) := by decide +kernel
theorem d_rec_saidByAccepted_133 : decode prog_1_method_28_code 133 = .ok (.goto 4, 3) := by decide +kernel
theorem d_rec_saidByAccepted_136 : decode prog_1_method_28_code 136 = .ok (.iconst 0, 1) := by decide +kernel
theorem d_rec_saidByAccepted_137 : decode prog_1_method_28_code 137 = .ok (.istore 4, 2) := by decide +kernel
theorem d_rec_saidByAccepted_139 : decode prog_1_method_28_code 139 = .ok (.goto 6, 3) := by decide +kernel
theorem d_rec_saidByAccepted_142 : decode prog_1_method_28_code 142 = .ok (.iconst 0, 1) := by decide +kernel
theorem d_rec_saidByAccepted_143 : decode prog_1_method_28_code 143 = .ok (.istore 4, 2) := by decide +kernel
theorem d_rec_saidByAccepted_145 : decode prog_1_method_28_code 145 = .ok (.iload 4, 2) := by decide +kernel
theorem d_rec_saidByAccepted_147 : decode prog_1_method_28_code 147 = .ok (.ifCond .eq 7, 3) := by decide +kernel
theorem d_rec_saidByAccepted_150 : decode prog_1_method_28_code 150 = .ok (.iload_n 3, 1) := by decide +kernel
theorem d_rec_saidByAccepted_151 : decode prog_1_method_28_code 151 = .ok (.goto 4, 3) := by decide +kernel
theorem d_rec_saidByAccepted_154 : decode prog_1_method_28_code 154 = .ok (.iconst (-1), 1) := by decide +kernel
theorem d_rec_saidByAccepted_155 : decode prog_1_method_28_code 155 = .ok (.ireturn, 1) := by decide +kernel
theorem d_rec_saidByRefused_0 : decode prog_1_method_29_code 0 = .ok (.aload_n 0, 1) := by decide +kernel
theorem d_rec_saidByRefused_1 : decode prog_1_method_29_code 1 = .ok (.bipush 12, 2) := by decide +kernel
theorem d_rec_saidByRefused_3 : decode prog_1_method_29_code 3 = .ok (.invokevirtual 143, 3) := by decide +kernel
theorem d_rec_saidByRefused_6 : decode prog_1_method_29_code 6 = .ok (.istore_n 1, 1) := by decide +kernel
theorem d_rec_saidByRefused_7 : decode prog_1_method_29_code 7 = .ok (.aload_n 0, 1) := by decide +kernel
theorem d_rec_saidByRefused_8 : decode prog_1_method_29_code 8 = .ok (.bipush 16, 2) := by decide +kernel
theorem d_rec_saidByRefused_10 : decode prog_1_method_29_code 10 = .ok (.invokevirtual 143, 3) := by decide +kernel
theorem d_rec_saidByRefused_13 : decode prog_1_method_29_code 13 = .ok (.istore_n 2, 1) := by decide +kernel
theorem d_rec_saidByRefused_14 : decode prog_1_method_29_code 14 = .ok (.aload_n 0, 1) := by decide +kernel
theorem d_rec_saidByRefused_15 : decode prog_1_method_29_code 15 = .ok (.invokevirtual 44, 3) := by decide +kernel
theorem d_rec_saidByRefused_18 : decode prog_1_method_29_code 18 = .ok (.bipush 24, 2) := by decide +kernel
theorem d_rec_saidByRefused_20 : decode prog_1_method_29_code 20 = .ok (.if_icmp .ne 24, 3) := by decide +kernel
theorem d_rec_saidByRefused_23 : decode prog_1_method_29_code 23 = .ok (.iload_n 1, 1) := by decide +kernel
theorem d_rec_saidByRefused_24 : decode prog_1_method_29_code 24 = .ok (.ifCond .ne 20, 3) := by decide +kernel
theorem d_rec_saidByRefused_27 : decode prog_1_method_29_code 27 = .ok (.iload_n 2, 1) := by decide +kernel
theorem d_rec_saidByRefused_28 : decode prog_1_method_29_code 28 = .ok (.iconst 2, 1) := by decide +kernel
theorem d_rec_saidByRefused_29 : decode prog_1_method_29_code 29 = .ok (.if_icmp .ne 15, 3) := by decide +kernel
theorem d_rec_saidByRefused_32 : decode prog_1_method_29_code 32 = .ok (.aload_n 0, 1) := by decide +kernel
theorem d_rec_saidByRefused_33 : decode prog_1_method_29_code 33 = .ok (.bipush 20, 2) := by decide +kernel
theorem d_rec_saidByRefused_35 : decode prog_1_method_29_code 35 = .ok (.invokevirtual 143, 3) := by decide +kernel
theorem d_rec_saidByRefused_38 : decode prog_1_method_29_code 38 = .ok (.iconst 2, 1) := by decide +kernel
theorem d_rec_saidByRefused_39 : decode prog_1_method_29_code 39 = .ok (.if_icmp .ne 5, 3) := by decide +kernel
theorem d_rec_saidByRefused_42 : decode prog_1_method_29_code 42 = .ok (.iconst 5, 1) := by decide +kernel
theorem d_rec_saidByRefused_43 : decode prog_1_method_29_code 43 = .ok (.ireturn, 1) := by decide +kernel
theorem d_rec_saidByRefused_44 : decode prog_1_method_29_code 44 = .ok (.aload_n 0, 1) := by decide +kernel
theorem d_rec_saidByRefused_45 : decode prog_1_method_29_code 45 = .ok (.invokevirtual 44, 3) := by decide +kernel
theorem d_rec_saidByRefused_48 : decode prog_1_method_29_code 48 = .ok (.bipush 20, 2) := by decide +kernel
theorem d_rec_saidByRefused_50 : decode prog_1_method_29_code 50 = .ok (.if_icmp .ne 23, 3) := by decide +kernel
theorem d_rec_saidByRefused_53 : decode prog_1_method_29_code 53 = .ok (.iload_n 1, 1) := by decide +kernel
theorem d_rec_saidByRefused_54 : decode prog_1_method_29_code 54 = .ok (.iconst 1, 1) := by decide +kernel
theorem d_rec_saidByRefused_55 : decode prog_1_method_29_code 55 = .ok (.if_icmp .ne 18, 3) := by decide +kernel
theorem d_rec_saidByRefused_58 : decode prog_1_method_29_code 58 = .ok (.iload_n 2, 1) := by decide +kernel
theorem d_rec_saidByRefused_59 : decode prog_1_method_29_code 59 = .ok (.iconst 1, 1) := by decide +kernel
theorem d_rec_saidByRefused_60 : decode prog_1_method_29_code 60 = .ok (.if_icmp .eq 8, 3) := by decide +kernel
theorem d_rec_saidByRefused_63 : decode prog_1_method_29_code 63 = .ok (.iload_n 2, 1) := by decide +kernel
theorem d_rec_saidByRefused_64 : decode prog_1_method_29_code 64 = .ok (.iconst 3, 1) := by decide +kernel
theorem d_rec_saidByRefused_65 : decode prog_1_method_29_code 65 = .ok (.if_icmp .ne 8, 3) := by decide +kernel
theorem d_rec_saidByRefused_68 : decode prog_1_method_29_code 68 = .ok (.bipush 10, 2) := by decide +kernel
theorem d_rec_saidByRefused_70 : decode prog_1_method_29_code 70 = .ok (.iload_n 2, 1) := by decide +kernel
theorem d_rec_saidByRefused_71 : decode prog_1_method_29_code 71 = .ok (.iadd, 1) := by decide +kernel
theorem d_rec_saidByRefused_72 : decode prog_1_method_29_code 72 = .ok (.ireturn, 1) := by decide +kernel
theorem d_rec_saidByRefused_73 : decode prog_1_method_29_code 73 = .ok (.iconst (-1), 1) := by decide +kernel
theorem d_rec_saidByRefused_74 : decode prog_1_method_29_code 74 = .ok (.ireturn, 1) := by decide +kernel
theorem d_rec_saidBy_0 : decode prog_1_method_27_code 0 = .ok (.aload_n 0, 1) := by decide +kernel
theorem d_rec_saidBy_1 : decode prog_1_method_27_code 1 = .ok (.invokevirtual 44, 3) := by decide +kernel
theorem d_rec_saidBy_4 : decode prog_1_method_27_code 4 = .ok (.bipush 12, 2) := by decide +kernel
theorem d_rec_saidBy_6 : decode prog_1_method_27_code 6 = .ok (.if_icmp .lt 12, 3) := by decide +kernel
theorem d_rec_saidBy_9 : decode prog_1_method_27_code 9 = .ok (.aload_n 0, 1) := by decide +kernel
theorem d_rec_saidBy_10 : decode prog_1_method_27_code 10 = .ok (.iconst 4, 1) := by decide +kernel
theorem d_rec_saidBy_11 : decode prog_1_method_27_code 11 = .ok (.invokevirtual 143, 3) := by decide +kernel
theorem d_rec_saidBy_14 : decode prog_1_method_27_code 14 = .ok (.iconst 1, 1) := by decide +kernel
theorem d_rec_saidBy_15 : decode prog_1_method_27_code 15 = .ok (.if_icmp .eq 5, 3) := by decide +kernel
theorem d_rec_saidBy_18 : decode prog_1_method_27_code 18 = .ok (.iconst (-1), 1) := by decide +kernel
theorem d_rec_saidBy_19 : decode prog_1_method_27_code 19 = .ok (.ireturn, 1) := by decide +kernel
theorem d_rec_saidBy_20 : decode prog_1_method_27_code 20 = .ok (.aload_n 0, 1) := by decide +kernel
theorem d_rec_saidBy_21 : decode prog_1_method_27_code 21 = .ok (.bipush 8, 2) := by decide +kernel
theorem d_rec_saidBy_23 : decode prog_1_method_27_code 23 = .ok (.invokevirtual 143, 3) := by decide +kernel
theorem d_rec_saidBy_26 : decode prog_1_method_27_code 26 = .ok (.lookupswitch 36 #[(0, 26), (1, 31)], 26) := by decide +kernel
theorem d_rec_saidBy_52 : decode prog_1_method_27_code 52 = .ok (.aload_n 0, 1) := by decide +kernel
theorem d_rec_saidBy_53 : decode prog_1_method_27_code 53 = .ok (.invokestatic 184, 3) := by decide +kernel
theorem d_rec_saidBy_56 : decode prog_1_method_27_code 56 = .ok (.ireturn, 1) := by decide +kernel
theorem d_rec_saidBy_57 : decode prog_1_method_27_code 57 = .ok (.aload_n 0, 1) := by decide +kernel
theorem d_rec_saidBy_58 : decode prog_1_method_27_code 58 = .ok (.invokestatic 187, 3) := by decide +kernel
theorem d_rec_saidBy_61 : decode prog_1_method_27_code 61 = .ok (.ireturn, 1) := by decide +kernel
theorem d_rec_saidBy_62 : decode prog_1_method_27_code 62 = .ok (.iconst (-1), 1) := by decide +kernel
theorem d_rec_saidBy_63 : decode prog_1_method_27_code 63 = .ok (.ireturn, 1) := by decide +kernel
theorem d_rec_placeOfTape_0 : decode prog_1_method_25_code 0 = .ok (.aload_n 0, 1) := by decide +kernel
theorem d_rec_placeOfTape_1 : decode prog_1_method_25_code 1 = .ok (.getfield 29, 3) := by decide +kernel
theorem d_rec_placeOfTape_4 : decode prog_1_method_25_code 4 = .ok (.getfield 153, 3) := by decide +kernel
theorem d_rec_placeOfTape_7 : decode prog_1_method_25_code 7 = .ok (.aload_n 0, 1) := by decide +kernel
theorem d_rec_placeOfTape_8 : decode prog_1_method_25_code 8 = .ok (.getfield 10, 3) := by decide +kernel
theorem d_rec_placeOfTape_11 : decode prog_1_method_25_code 11 = .ok (.iconst 0, 1) := by decide +kernel
theorem d_rec_placeOfTape_12 : decode prog_1_method_25_code 12 = .ok (.aload_n 0, 1) := by decide +kernel
theorem d_rec_placeOfTape_13 : decode prog_1_method_25_code 13 = .ok (.getfield 10, 3) := by decide +kernel
theorem d_rec_placeOfTape_16 : decode prog_1_method_25_code 16 = .ok (.invokevirtual 44, 3) := by decide +kernel
theorem d_rec_placeOfTape_19 : decode prog_1_method_25_code 19 = .ok (.invokevirtual 179, 3) := by decide +kernel
theorem d_rec_placeOfTape_22 : decode prog_1_method_25_code 22 = .ok (.ireturn, 1) := by decide +kernel
theorem d_rec_value_0 : decode prog_1_method_13_code 0 = .ok (.aload_n 0, 1) := by decide +kernel
theorem d_rec_value_1 : decode prog_1_method_13_code 1 = .ok (.getfield 29, 3) := by decide +kernel
theorem d_rec_value_4 : decode prog_1_method_13_code 4 = .ok (.getfield 153, 3) := by decide +kernel
theorem d_rec_value_7 : decode prog_1_method_13_code 7 = .ok (.aload_n 0, 1) := by decide +kernel
theorem d_rec_value_8 : decode prog_1_method_13_code 8 = .ok (.invokevirtual 157, 3) := by decide +kernel
theorem d_rec_value_11 : decode prog_1_method_13_code 11 = .ok (.invokevirtual 160, 3) := by decide +kernel
theorem d_rec_value_14 : decode prog_1_method_13_code 14 = .ok (.lreturn, 1) := by decide +kernel
theorem d_rec_has_0 : decode prog_1_method_14_code 0 = .ok (.aload_n 0, 1) := by decide +kernel
theorem d_rec_has_1 : decode prog_1_method_14_code 1 = .ok (.invokevirtual 157, 3) := by decide +kernel
theorem d_rec_has_4 : decode prog_1_method_14_code 4 = .ok (.iconst (-1), 1) := by decide +kernel
theorem d_rec_has_5 : decode prog_1_method_14_code 5 = .ok (.if_icmp .eq 7, 3) := by decide +kernel
theorem d_rec_has_8 : decode prog_1_method_14_code 8 = .ok (.iconst 1, 1) := by decide +kernel
theorem d_rec_has_9 : decode prog_1_method_14_code 9 = .ok (.goto 4, 3) := by decide +kernel
theorem d_rec_has_12 : decode prog_1_method_14_code 12 = .ok (.iconst 0, 1) := by decide +kernel
theorem d_rec_has_13 : decode prog_1_method_14_code 13 = .ok (.ireturn, 1) := by decide +kernel
def b_rec_fragments_9 (w : rc_M) : Option (Int32 × rc_M) :=
  some (1, w)

def f_rec_fragments (w : rc_M) (x0 : Int32) (x1 : Int32) : Option (Int32 × rc_M) :=
  if x0 = 0 then
    b_rec_fragments_9 w 
  else
    if 1 ≤ x1 then
      if x1 = 0 then none else
      some (((x0 - 1) / x1) + 1, w)
    else
      b_rec_fragments_9 w 

def f_rec_addOneFragment (w : rc_M) (a0 : Nat) (r1 : Option Nat) : Option (rc_M) :=
  (rc_rc w (some a0) 0).bind fun a1 =>
  (f_rec_newSlot w a1).bind fun p3 =>
  (rc_rc p3.2 r1 1).bind fun a5 =>
  (g_row_size p3.2 a5).bind fun p7 =>
  (rc_rc p7.2 p3.1 1).bind fun a9 =>
  (g_row_addWord p7.2 a9 (((-2147483648)) ||| p7.1)).bind fun w11 =>
  (rc_rc w11 r1 1).bind fun a13 =>
  (g_row_size w11 a13).bind fun p15 =>
  (rc_rc p15.2 p3.1 1).bind fun a17 =>
  (g_row_addPart p15.2 a17 r1 0 p15.1).bind fun w19 =>
  some w19

def b_rec_isConnection_14 (w : rc_M) (s0 : Int32) : Option (Int32 × rc_M) :=
  rc_z1 s0 w

def b_rec_isConnection_13 (w : rc_M) : Option (Int32 × rc_M) :=
  b_rec_isConnection_14 w 0

def f_rec_isConnection (w : rc_M) (x0 : Int32) : Option (Int32 × rc_M) :=
  if x0 < 0 then
    b_rec_isConnection_13 w 
  else
    if 4 ≤ x0 then
      b_rec_isConnection_13 w 
    else
      b_rec_isConnection_14 w 1

def b_rec_isSlot_28 (w : rc_M) (s0 : Int32) : Option (Int32 × rc_M) :=
  rc_z1 s0 w

def b_rec_isSlot_27 (w : rc_M) : Option (Int32 × rc_M) :=
  b_rec_isSlot_28 w 0

def f_rec_isSlot (w : rc_M) (a0 : Nat) (x1 : Int32) : Option (Int32 × rc_M) :=
  if x1 < 0 then
    b_rec_isSlot_27 w 
  else
    (rc_gI w (some a0) 0 6).bind fun v2 =>
    if v2 ≤ x1 then
      b_rec_isSlot_27 w 
    else
      (rc_gI w (some a0) 0 6).bind fun v5 =>
      if x1 < (v5 - 64) then
        b_rec_isSlot_27 w 
      else
        b_rec_isSlot_28 w 1

def f_rec_addReply (w : rc_M) (a0 : Nat) (r1 : Option Nat) : Option (Int32 × rc_M) :=
  if r1 = none then
    some (0, w)
  else
    (rc_rc w (some a0) 0).bind fun a2 =>
    (f_rec_addOneFragment w a2 r1).bind fun w4 =>
    some (1, w4)

def b_rec_isJoined_82 (w : rc_M) (s0 : Int32) : Option (Int32 × rc_M) :=
  rc_z1 s0 w

def b_rec_isJoined_14 : Nat → rc_M → Nat → Option Nat → Int32 → Int32 → Option (Int32 × rc_M)
  | 0, _, _, _, _, _ => none
  | fuel + 1, w, a0, r1, x2, x3 =>
    if (x2 - 4) < x3 then
      rc_z1 0 w
    else
      (rc_rc w r1 1).bind fun a2 =>
      (g_row_wordAt w a2 x3).bind fun p4 =>
      if (p4.1 &&& 2147483647) ≤ (x2 - (x3 + 4)) then
        (rc_gR p4.2 (some a0) 0 5).bind fun v7 =>
        (rc_rc p4.2 v7 1).bind fun a9 =>
        (g_row_addPart p4.2 a9 r1 (x3 + 4) (p4.1 &&& 2147483647)).bind fun w11 =>
        if (p4.1 &&& ((-2147483648))) = 0 then
          b_rec_isJoined_14 fuel w11 a0 r1 x2 ((x3 + 4) + (p4.1 &&& 2147483647))
        else
          if ((x3 + 4) + (p4.1 &&& 2147483647)) = x2 then
            b_rec_isJoined_82 w11 1
          else
            b_rec_isJoined_82 w11 0
      else
        rc_z1 0 p4.2

def f_rec_isJoined (w : rc_M) (a0 : Nat) (r1 : Option Nat) : Option (Int32 × rc_M) :=
  (rc_gR w (some a0) 0 5).bind fun v1 =>
  (rc_rc w v1 1).bind fun a3 =>
  (g_row_clear w a3).bind fun w5 =>
  (rc_rc w5 r1 1).bind fun a7 =>
  (g_row_size w5 a7).bind fun p9 =>
  b_rec_isJoined_14 5000 p9.2 a0 r1 p9.1 0

def b_rec_saidByAccepted_39 (w : rc_M) : Option (Int32 × rc_M) :=
  some ((-1), w)

def b_rec_saidByAccepted_155 (w : rc_M) (s0 : Int32) : Option (Int32 × rc_M) :=
  some (s0, w)

def b_rec_saidByAccepted_145 (w : rc_M) (x3 : Int32) (x4 : Int32) : Option (Int32 × rc_M) :=
  if x4 = 0 then
    b_rec_saidByAccepted_155 w ((-1))
  else
    b_rec_saidByAccepted_155 w x3

def b_rec_saidByAccepted_121 (w : rc_M) (x3 : Int32) (s0 : Int32) : Option (Int32 × rc_M) :=
  b_rec_saidByAccepted_145 w x3 s0

def b_rec_saidByAccepted_120 (w : rc_M) (x3 : Int32) : Option (Int32 × rc_M) :=
  b_rec_saidByAccepted_121 w x3 0

def b_rec_saidByAccepted_137 (w : rc_M) (x3 : Int32) (s0 : Int32) : Option (Int32 × rc_M) :=
  b_rec_saidByAccepted_145 w x3 s0

def b_rec_saidByAccepted_126 (w : rc_M) (x1 : Int32) (x3 : Int32) : Option (Int32 × rc_M) :=
  if x1 = 24 then
    b_rec_saidByAccepted_137 w x3 1
  else
    b_rec_saidByAccepted_137 w x3 0

def b_rec_saidByAccepted_28 (w : rc_M) (r0 : Option Nat) (x1 : Int32) (s0 : Int32) : Option (Int32 × rc_M) :=
  if x1 < 24 then
    b_rec_saidByAccepted_39 w 
  else
    if s0 = 0 then
      (rc_rc w r0 1).bind fun a3 =>
      (g_row_wordAt w a3 20).bind fun p5 =>
      if p5.1 = 0 then
        b_rec_saidByAccepted_145 p5.2 p5.1 1
      else
        if p5.1 = 1 then
          b_rec_saidByAccepted_126 p5.2 x1 p5.1
        else
          if p5.1 = 2 then
            if x1 = 32 then
              (rc_rc p5.2 r0 1).bind fun a11 =>
              (g_row_wordAt p5.2 a11 24).bind fun p13 =>
              if p13.1 = 1 then
                (rc_rc p13.2 r0 1).bind fun a16 =>
                (g_row_wordAt p13.2 a16 28).bind fun p18 =>
                if p18.1 = 2 then
                  b_rec_saidByAccepted_121 p18.2 p5.1 1
                else
                  b_rec_saidByAccepted_120 p18.2 p5.1
              else
                b_rec_saidByAccepted_120 p13.2 p5.1
            else
              b_rec_saidByAccepted_120 p5.2 p5.1
          else
            if p5.1 = 3 then
              b_rec_saidByAccepted_126 p5.2 x1 p5.1
            else
              if p5.1 = 4 then
                b_rec_saidByAccepted_126 p5.2 x1 p5.1
              else
                b_rec_saidByAccepted_145 p5.2 p5.1 0
    else
      b_rec_saidByAccepted_39 w 

def b_rec_saidByAccepted_23 (w : rc_M) (r0 : Option Nat) (x1 : Int32) : Option (Int32 × rc_M) :=
  b_rec_saidByAccepted_28 w r0 x1 1

def f_rec_saidByAccepted (w : rc_M) (r0 : Option Nat) : Option (Int32 × rc_M) :=
  (rc_rc w r0 1).bind fun a1 =>
  (g_row_size w a1).bind fun p3 =>
  (rc_rc p3.2 r0 1).bind fun a5 =>
  (g_row_wordAt p3.2 a5 12).bind fun p7 =>
  if p7.1 = 0 then
    (rc_rc p7.2 r0 1).bind fun a10 =>
    (g_row_wordAt p7.2 a10 16).bind fun p12 =>
    if p12.1 = 0 then
      b_rec_saidByAccepted_28 p12.2 r0 p3.1 0
    else
      b_rec_saidByAccepted_23 p12.2 r0 p3.1
  else
    b_rec_saidByAccepted_23 p7.2 r0 p3.1

def b_rec_saidByRefused_68 (w : rc_M) (x2 : Int32) : Option (Int32 × rc_M) :=
  some (10 + x2, w)

def b_rec_saidByRefused_73 (w : rc_M) : Option (Int32 × rc_M) :=
  some ((-1), w)

def b_rec_saidByRefused_44 (w : rc_M) (r0 : Option Nat) (x1 : Int32) (x2 : Int32) : Option (Int32 × rc_M) :=
  (rc_rc w r0 1).bind fun a1 =>
  (g_row_size w a1).bind fun p3 =>
  if p3.1 = 20 then
    if x1 = 1 then
      if x2 = 1 then
        b_rec_saidByRefused_68 p3.2 x2
      else
        if x2 = 3 then
          b_rec_saidByRefused_68 p3.2 x2
        else
          b_rec_saidByRefused_73 p3.2 
    else
      b_rec_saidByRefused_73 p3.2 
  else
    b_rec_saidByRefused_73 p3.2 

def f_rec_saidByRefused (w : rc_M) (r0 : Option Nat) : Option (Int32 × rc_M) :=
  (rc_rc w r0 1).bind fun a1 =>
  (g_row_wordAt w a1 12).bind fun p3 =>
  (rc_rc p3.2 r0 1).bind fun a5 =>
  (g_row_wordAt p3.2 a5 16).bind fun p7 =>
  (rc_rc p7.2 r0 1).bind fun a9 =>
  (g_row_size p7.2 a9).bind fun p11 =>
  if p11.1 = 24 then
    if p3.1 = 0 then
      if p7.1 = 2 then
        (rc_rc p11.2 r0 1).bind fun a16 =>
        (g_row_wordAt p11.2 a16 20).bind fun p18 =>
        if p18.1 = 2 then
          some (5, p18.2)
        else
          b_rec_saidByRefused_44 p18.2 r0 p3.1 p7.1
      else
        b_rec_saidByRefused_44 p11.2 r0 p3.1 p7.1
    else
      b_rec_saidByRefused_44 p11.2 r0 p3.1 p7.1
  else
    b_rec_saidByRefused_44 p11.2 r0 p3.1 p7.1

def b_rec_saidBy_18 (w : rc_M) : Option (Int32 × rc_M) :=
  some ((-1), w)

def f_rec_saidBy (w : rc_M) (r0 : Option Nat) : Option (Int32 × rc_M) :=
  (rc_rc w r0 1).bind fun a1 =>
  (g_row_size w a1).bind fun p3 =>
  if p3.1 < 12 then
    b_rec_saidBy_18 p3.2 
  else
    (rc_rc p3.2 r0 1).bind fun a6 =>
    (g_row_wordAt p3.2 a6 4).bind fun p8 =>
    if p8.1 = 1 then
      (rc_rc p8.2 r0 1).bind fun a11 =>
      (g_row_wordAt p8.2 a11 8).bind fun p13 =>
      if p13.1 = 0 then
        (f_rec_saidByAccepted p13.2 r0).bind fun p16 =>
        some (p16.1, p16.2)
      else
        if p13.1 = 1 then
          (f_rec_saidByRefused p13.2 r0).bind fun p19 =>
          some (p19.1, p19.2)
        else
          some ((-1), p13.2)
    else
      b_rec_saidBy_18 p8.2 

def f_rec_placeOfTape (w : rc_M) (a0 : Nat) : Option (Int32 × rc_M) :=
  (rc_gR w (some a0) 0 3).bind fun v1 =>
  (rc_gR w v1 2 0).bind fun v3 =>
  (rc_gR w (some a0) 0 0).bind fun v5 =>
  (rc_gR w (some a0) 0 0).bind fun v7 =>
  (rc_rc w v7 1).bind fun a9 =>
  (g_row_size w a9).bind fun p11 =>
  (rc_rc p11.2 v3 3).bind fun a13 =>
  (f_map_placeOf p11.2 a13 v5 0 p11.1).bind fun p15 =>
  some (p15.1, p15.2)

def f_rec_value (w : rc_M) (a0 : Nat) : Option (Int64 × rc_M) :=
  (rc_gR w (some a0) 0 3).bind fun v1 =>
  (rc_gR w v1 2 0).bind fun v3 =>
  (rc_rc w (some a0) 0).bind fun a5 =>
  (f_rec_placeOfTape w a5).bind fun p7 =>
  (rc_rc p7.2 v3 3).bind fun a9 =>
  (f_map_valueAt p7.2 a9 p7.1).bind fun p11 =>
  some (p11.1, p11.2)

def b_rec_has_13 (w : rc_M) (s0 : Int32) : Option (Int32 × rc_M) :=
  rc_z1 s0 w

def f_rec_has (w : rc_M) (a0 : Nat) : Option (Int32 × rc_M) :=
  (rc_rc w (some a0) 0).bind fun a1 =>
  (f_rec_placeOfTape w a1).bind fun p3 =>
  if p3.1 = ((-1)) then
    b_rec_has_13 p3.2 0
  else
    b_rec_has_13 p3.2 1

set_option maxRecDepth 100000 in
set_option maxHeartbeats 4000000 in
theorem k_rec_fragments_9 {X : rc_X} {w0 : rc_M} (hF : (q_R X).frames = 0) (hL : (q_R X).locals = 0) (hN : q_n X = 2) (C : rc_C X "RecordCalls" prog_1_method_23_code w0) {res : Int32 × rc_M} (E : rc_E0 X y_rec_fragments (some .int) (some (.int res.1)) res.2) {w : rc_M}  (h : b_rec_fragments_9 w  = some res) : rc_J X w 9 [] [] := by
  unfold b_rec_fragments_9 at h
  refine j_iconst (v := 1) C d_rec_fragments_9 rfl (by decide) ?_
  cases h
  exact j_iret C E d_rec_fragments_10

set_option maxRecDepth 100000 in
set_option maxHeartbeats 4000000 in
theorem ct_rec_fragments {l : Launch} {G : rc_G} {w : rc_M} {x0 : Int32} {x1 : Int32} {res : Int32 × rc_M} (h : f_rec_fragments w x0 x1 = some res) : rc_Ct l G y_rec_fragments prog_1_method_23_code 2 (some .int) 0 0 [.int x0, .int x1] w (some (.int res.1)) res.2 := by
  refine rc_enter (by decide +kernel) (by simp [lg_sl, va_rf_cat, rc_cat_i, rc_cat_l]) ?_
  intro X _ _ hN hF hL C E
  have hlv : lv_args 0 [.int x0, .int x1] = [(0, .int x0), (1, .int x1)] := by simp [lv_args, va_rf_cat, rc_cat_i, rc_cat_l]
  rw [hlv]
  clear hlv
  unfold f_rec_fragments at h
  refine j_iload_n C d_rec_fragments_0 rfl 0 rfl ?_
  refine j_if_eq (tgt := 9) C d_rec_fragments_1 (by decide) rfl (fun c1 => ?_) (fun c1 => ?_)
  · rw [if_pos c1] at h
    refine rc_J.sub (lv' := []) [] rfl ?_
    exact k_rec_fragments_9 hF hL hN C E h
  · rw [if_neg c1] at h
    refine j_iload_n C d_rec_fragments_4 rfl 1 rfl ?_
    refine j_iconst (v := 1) C d_rec_fragments_5 rfl (by decide) ?_
    refine j_icmp_ge (tgt := 11) C d_rec_fragments_6 (by decide) rfl (fun c2 => ?_) (fun c2 => ?_)
    · rw [if_pos c2] at h
      refine j_iload_n C d_rec_fragments_11 rfl 0 rfl ?_
      refine j_iconst (v := 1) C d_rec_fragments_12 rfl (by decide) ?_
      refine j_isub C d_rec_fragments_13 rfl ?_
      refine j_iload_n C d_rec_fragments_14 rfl 1 rfl ?_
      by_cases c3 : x1 = 0
      · rw [if_pos c3] at h; cases h
      rw [if_neg c3] at h
      refine j_idiv C d_rec_fragments_15 rfl c3 ?_
      refine j_iconst (v := 1) C d_rec_fragments_16 rfl (by decide) ?_
      refine j_iadd C d_rec_fragments_17 rfl ?_
      cases h
      exact j_iret C E d_rec_fragments_18
    · rw [if_neg c2] at h
      refine rc_J.sub (lv' := []) [] rfl ?_
      exact k_rec_fragments_9 hF hL hN C E h

set_option maxRecDepth 100000 in
set_option maxHeartbeats 4000000 in
theorem ct_rec_addOneFragment {l : Launch} {G : rc_G} {w : rc_M} {a0 : Nat} {r1 : Option Nat} {res : rc_M} (h : f_rec_addOneFragment w a0 r1 = some res) : rc_Ct l G y_rec_addOneFragment prog_1_method_21_code 3 none 4 94 [va_rf (some a0), va_rf r1] w none res := by
  refine rc_enter (by decide +kernel) (by simp [lg_sl, va_rf_cat, rc_cat_i, rc_cat_l]) ?_
  intro X _ _ hN hF hL C E
  have hlv : lv_args 0 [va_rf (some a0), va_rf r1] = [(0, va_rf (some a0)), (1, va_rf r1)] := by simp [lv_args, va_rf_cat, rc_cat_i, rc_cat_l]
  rw [hlv]
  clear hlv
  unfold f_rec_addOneFragment at h
  refine j_aload_n C d_rec_addOneFragment_0 rfl 0 rfl ?_
  obtain ⟨a1, h2, h⟩ := Option.bind_eq_some_iff.mp h
  obtain ⟨p3, h4, h⟩ := Option.bind_eq_some_iff.mp h
  refine j_callV C (As := []) (st := []) (sk' := [va_rf p3.1]) mk_rec_newSlot (Or.inl T_208) T_210 S_0 (ci := 0) rfl h2 (rc_le hF (by decide)) (rc_le hL (by decide)) (ct_rec_newSlot h4) rfl rfl (by decide) d_rec_addOneFragment_1 rfl rfl ?_
  refine j_astore_n C (i := 2) d_rec_addOneFragment_4 rfl rfl [(2, va_rf p3.1), (0, va_rf (some a0)), (1, va_rf r1)] (rc_lt hN (by decide)) (by first | rfl | simp [va_rf_cat, rc_cat_i, rc_cat_l]) ?_
  refine j_aload_n C d_rec_addOneFragment_5 rfl 0 rfl ?_
  refine j_ldc C d_rec_addOneFragment_6 rfl T_401 ?_
  refine j_aload_n C d_rec_addOneFragment_8 rfl 2 rfl ?_
  obtain ⟨a5, h6, h⟩ := Option.bind_eq_some_iff.mp h
  obtain ⟨p7, h8, h⟩ := Option.bind_eq_some_iff.mp h
  refine j_callV C (As := []) (st := [.int ((-2147483648)), va_rf p3.1]) (sk' := [.int p7.1, .int ((-2147483648)), va_rf p3.1]) mk_row_size (Or.inl T_220) T_221 T_222 (ci := 1) rfl h6 (rc_le hF (by decide)) (rc_le hL (by decide)) (cg_row_size h8) rfl rfl (by simp [va_rf_cat, rc_cat_i, rc_cat_l]) d_rec_addOneFragment_9 rfl rfl ?_
  refine j_ior C d_rec_addOneFragment_12 rfl ?_
  obtain ⟨a9, h10, h⟩ := Option.bind_eq_some_iff.mp h
  obtain ⟨w11, h12, h⟩ := Option.bind_eq_some_iff.mp h
  refine j_callV C (As := [.int (((-2147483648)) ||| p7.1)]) (st := []) (sk' := []) mk_row_addWord (Or.inl T_359) T_360 T_361 (ci := 1) rfl h10 (rc_le hF (by decide)) (rc_le hL (by decide)) (cg_row_addWord h12) rfl rfl (by decide) d_rec_addOneFragment_13 rfl rfl ?_
  refine j_aload_n C d_rec_addOneFragment_16 rfl 0 rfl ?_
  refine j_aload_n C d_rec_addOneFragment_17 rfl 2 rfl ?_
  refine j_iconst (v := 0) C d_rec_addOneFragment_18 rfl (by decide) ?_
  refine j_aload_n C d_rec_addOneFragment_19 rfl 2 rfl ?_
  obtain ⟨a13, h14, h⟩ := Option.bind_eq_some_iff.mp h
  obtain ⟨p15, h16, h⟩ := Option.bind_eq_some_iff.mp h
  refine j_callV C (As := []) (st := [.int 0, va_rf r1, va_rf p3.1]) (sk' := [.int p15.1, .int 0, va_rf r1, va_rf p3.1]) mk_row_size (Or.inl T_220) T_221 T_222 (ci := 1) rfl h14 (rc_le hF (by decide)) (rc_le hL (by decide)) (cg_row_size h16) rfl rfl (by simp [va_rf_cat, rc_cat_i, rc_cat_l]) d_rec_addOneFragment_20 rfl rfl ?_
  obtain ⟨a17, h18, h⟩ := Option.bind_eq_some_iff.mp h
  obtain ⟨w19, h20, h⟩ := Option.bind_eq_some_iff.mp h
  refine j_callV C (As := [va_rf r1, .int 0, .int p15.1]) (st := []) (sk' := []) mk_row_addPart (Or.inl T_224) T_225 T_226 (ci := 1) rfl h18 (rc_le hF (by decide)) (rc_le hL (by decide)) (cg_row_addPart h20) rfl rfl (by decide) d_rec_addOneFragment_23 rfl rfl ?_
  cases h
  exact j_vret C E d_rec_addOneFragment_26

set_option maxRecDepth 100000 in
set_option maxHeartbeats 4000000 in
theorem k_rec_isConnection_14 {X : rc_X} {w0 : rc_M} (hF : (q_R X).frames = 0) (hL : (q_R X).locals = 0) (hN : q_n X = 1) (C : rc_C X "RecordCalls" prog_1_method_16_code w0) {res : Int32 × rc_M} (E : rc_E0 X y_rec_isConnection (some .boolean) (some (.int res.1)) res.2) {w : rc_M} {s0 : Int32} (h : b_rec_isConnection_14 w s0 = some res) : rc_J X w 14 [.int s0] [] := by
  unfold b_rec_isConnection_14 at h
  obtain ⟨hz, rfl⟩ := rc_z1_spec h
  exact j_zret C hz E d_rec_isConnection_14

set_option maxRecDepth 100000 in
set_option maxHeartbeats 4000000 in
theorem k_rec_isConnection_13 {X : rc_X} {w0 : rc_M} (hF : (q_R X).frames = 0) (hL : (q_R X).locals = 0) (hN : q_n X = 1) (C : rc_C X "RecordCalls" prog_1_method_16_code w0) {res : Int32 × rc_M} (E : rc_E0 X y_rec_isConnection (some .boolean) (some (.int res.1)) res.2) {w : rc_M}  (h : b_rec_isConnection_13 w  = some res) : rc_J X w 13 [] [] := by
  unfold b_rec_isConnection_13 at h
  refine j_iconst (v := 0) C d_rec_isConnection_13 rfl (by decide) ?_
  exact k_rec_isConnection_14 hF hL hN C E h

set_option maxRecDepth 100000 in
set_option maxHeartbeats 4000000 in
theorem ct_rec_isConnection {l : Launch} {G : rc_G} {w : rc_M} {x0 : Int32} {res : Int32 × rc_M} (h : f_rec_isConnection w x0 = some res) : rc_Ct l G y_rec_isConnection prog_1_method_16_code 1 (some .boolean) 0 0 [.int x0] w (some (.int res.1)) res.2 := by
  refine rc_enter (by decide +kernel) (by simp [lg_sl, va_rf_cat, rc_cat_i, rc_cat_l]) ?_
  intro X _ _ hN hF hL C E
  have hlv : lv_args 0 [.int x0] = [(0, .int x0)] := by simp [lv_args, va_rf_cat, rc_cat_i, rc_cat_l]
  rw [hlv]
  clear hlv
  unfold f_rec_isConnection at h
  refine j_iload_n C d_rec_isConnection_0 rfl 0 rfl ?_
  refine j_if_lt (tgt := 13) C d_rec_isConnection_1 (by decide) rfl (fun c1 => ?_) (fun c1 => ?_)
  · rw [if_pos c1] at h
    refine rc_J.sub (lv' := []) [] rfl ?_
    exact k_rec_isConnection_13 hF hL hN C E h
  · rw [if_neg c1] at h
    refine j_iload_n C d_rec_isConnection_4 rfl 0 rfl ?_
    refine j_iconst (v := 4) C d_rec_isConnection_5 rfl (by decide) ?_
    refine j_icmp_ge (tgt := 13) C d_rec_isConnection_6 (by decide) rfl (fun c2 => ?_) (fun c2 => ?_)
    · rw [if_pos c2] at h
      refine rc_J.sub (lv' := []) [] rfl ?_
      exact k_rec_isConnection_13 hF hL hN C E h
    · rw [if_neg c2] at h
      refine j_iconst (v := 1) C d_rec_isConnection_9 rfl (by decide) ?_
      refine j_goto (tgt := 14) C d_rec_isConnection_10 (by decide) ?_
      refine rc_J.sub (lv' := []) [] rfl ?_
      exact k_rec_isConnection_14 hF hL hN C E h

set_option maxRecDepth 100000 in
set_option maxHeartbeats 4000000 in
theorem k_rec_isSlot_28 {X : rc_X} {w0 : rc_M} (hF : (q_R X).frames = 0) (hL : (q_R X).locals = 0) (hN : q_n X = 2) (C : rc_C X "RecordCalls" prog_1_method_17_code w0) {res : Int32 × rc_M} (E : rc_E0 X y_rec_isSlot (some .boolean) (some (.int res.1)) res.2) {w : rc_M} {s0 : Int32} (h : b_rec_isSlot_28 w s0 = some res) : rc_J X w 28 [.int s0] [] := by
  unfold b_rec_isSlot_28 at h
  obtain ⟨hz, rfl⟩ := rc_z1_spec h
  exact j_zret C hz E d_rec_isSlot_28

set_option maxRecDepth 100000 in
set_option maxHeartbeats 4000000 in
theorem k_rec_isSlot_27 {X : rc_X} {w0 : rc_M} (hF : (q_R X).frames = 0) (hL : (q_R X).locals = 0) (hN : q_n X = 2) (C : rc_C X "RecordCalls" prog_1_method_17_code w0) {res : Int32 × rc_M} (E : rc_E0 X y_rec_isSlot (some .boolean) (some (.int res.1)) res.2) {w : rc_M}  (h : b_rec_isSlot_27 w  = some res) : rc_J X w 27 [] [] := by
  unfold b_rec_isSlot_27 at h
  refine j_iconst (v := 0) C d_rec_isSlot_27 rfl (by decide) ?_
  exact k_rec_isSlot_28 hF hL hN C E h

set_option maxRecDepth 100000 in
set_option maxHeartbeats 4000000 in
theorem ct_rec_isSlot {l : Launch} {G : rc_G} {w : rc_M} {a0 : Nat} {x1 : Int32} {res : Int32 × rc_M} (h : f_rec_isSlot w a0 x1 = some res) : rc_Ct l G y_rec_isSlot prog_1_method_17_code 2 (some .boolean) 0 0 [va_rf (some a0), .int x1] w (some (.int res.1)) res.2 := by
  refine rc_enter (by decide +kernel) (by simp [lg_sl, va_rf_cat, rc_cat_i, rc_cat_l]) ?_
  intro X _ _ hN hF hL C E
  have hlv : lv_args 0 [va_rf (some a0), .int x1] = [(0, va_rf (some a0)), (1, .int x1)] := by simp [lv_args, va_rf_cat, rc_cat_i, rc_cat_l]
  rw [hlv]
  clear hlv
  unfold f_rec_isSlot at h
  refine j_iload_n C d_rec_isSlot_0 rfl 1 rfl ?_
  refine j_if_lt (tgt := 27) C d_rec_isSlot_1 (by decide) rfl (fun c1 => ?_) (fun c1 => ?_)
  · rw [if_pos c1] at h
    refine rc_J.sub (lv' := []) [] rfl ?_
    exact k_rec_isSlot_27 hF hL hN C E h
  · rw [if_neg c1] at h
    refine j_iload_n C d_rec_isSlot_4 rfl 1 rfl ?_
    refine j_aload_n C d_rec_isSlot_5 rfl 0 rfl ?_
    obtain ⟨v2, h3, h⟩ := Option.bind_eq_some_iff.mp h
    refine j_getI C fl_rec_39 h3 d_rec_isSlot_6 rfl ?_
    refine j_icmp_ge (tgt := 27) C d_rec_isSlot_9 (by decide) rfl (fun c4 => ?_) (fun c4 => ?_)
    · rw [if_pos c4] at h
      refine rc_J.sub (lv' := []) [] rfl ?_
      exact k_rec_isSlot_27 hF hL hN C E h
    · rw [if_neg c4] at h
      refine j_iload_n C d_rec_isSlot_12 rfl 1 rfl ?_
      refine j_aload_n C d_rec_isSlot_13 rfl 0 rfl ?_
      obtain ⟨v5, h6, h⟩ := Option.bind_eq_some_iff.mp h
      refine j_getI C fl_rec_39 h6 d_rec_isSlot_14 rfl ?_
      refine j_bipush (v := 64) C d_rec_isSlot_17 rfl (by decide) ?_
      refine j_isub C d_rec_isSlot_19 rfl ?_
      refine j_icmp_lt (tgt := 27) C d_rec_isSlot_20 (by decide) rfl (fun c7 => ?_) (fun c7 => ?_)
      · rw [if_pos c7] at h
        refine rc_J.sub (lv' := []) [] rfl ?_
        exact k_rec_isSlot_27 hF hL hN C E h
      · rw [if_neg c7] at h
        refine j_iconst (v := 1) C d_rec_isSlot_23 rfl (by decide) ?_
        refine j_goto (tgt := 28) C d_rec_isSlot_24 (by decide) ?_
        refine rc_J.sub (lv' := []) [] rfl ?_
        exact k_rec_isSlot_28 hF hL hN C E h

set_option maxRecDepth 100000 in
set_option maxHeartbeats 4000000 in
theorem ct_rec_addReply {l : Launch} {G : rc_G} {w : rc_M} {a0 : Nat} {r1 : Option Nat} {res : Int32 × rc_M} (h : f_rec_addReply w a0 r1 = some res) : rc_Ct l G y_rec_addReply prog_1_method_24_code 2 (some .int) 5 116 [va_rf (some a0), va_rf r1] w (some (.int res.1)) res.2 := by
  refine rc_enter (by decide +kernel) (by simp [lg_sl, va_rf_cat, rc_cat_i, rc_cat_l]) ?_
  intro X _ _ hN hF hL C E
  have hlv : lv_args 0 [va_rf (some a0), va_rf r1] = [(0, va_rf (some a0)), (1, va_rf r1)] := by simp [lv_args, va_rf_cat, rc_cat_i, rc_cat_l]
  rw [hlv]
  clear hlv
  unfold f_rec_addReply at h
  refine j_aload_n C d_rec_addReply_0 rfl 1 rfl ?_
  refine j_ifnonnull (tgt := 6) C d_rec_addReply_1 (by decide) rfl (fun c1 => ?_) (fun c1 => ?_)
  · rw [if_neg c1] at h
    refine j_aload_n C d_rec_addReply_6 rfl 0 rfl ?_
    refine j_aload_n C d_rec_addReply_7 rfl 1 rfl ?_
    obtain ⟨a2, h3, h⟩ := Option.bind_eq_some_iff.mp h
    obtain ⟨w4, h5, h⟩ := Option.bind_eq_some_iff.mp h
    refine j_callV C (As := [va_rf r1]) (st := []) (sk' := []) mk_rec_addOneFragment (Or.inl T_430) T_432 S_6 (ci := 0) rfl h3 (rc_le hF (by decide)) (rc_le hL (by decide)) (ct_rec_addOneFragment h5) rfl rfl (by decide) d_rec_addReply_8 rfl rfl ?_
    refine j_iconst (v := 1) C d_rec_addReply_11 rfl (by decide) ?_
    cases h
    exact j_iret C E d_rec_addReply_12
  · rw [if_pos c1] at h
    refine j_iconst (v := 0) C d_rec_addReply_4 rfl (by decide) ?_
    cases h
    exact j_iret C E d_rec_addReply_5

set_option maxRecDepth 100000 in
set_option maxHeartbeats 4000000 in
theorem k_rec_isJoined_82 {X : rc_X} {w0 : rc_M} (hF : (q_R X).frames = 4) (hL : (q_R X).locals = 94) (hN : q_n X = 6) (C : rc_C X "RecordCalls" prog_1_method_26_code w0) {res : Int32 × rc_M} (E : rc_E0 X y_rec_isJoined (some .boolean) (some (.int res.1)) res.2) {w : rc_M} {s0 : Int32} (h : b_rec_isJoined_82 w s0 = some res) : rc_J X w 82 [.int s0] [] := by
  unfold b_rec_isJoined_82 at h
  obtain ⟨hz, rfl⟩ := rc_z1_spec h
  exact j_zret C hz E d_rec_isJoined_82

set_option maxRecDepth 100000 in
set_option maxHeartbeats 4000000 in
theorem k_rec_isJoined_14 {X : rc_X} {w0 : rc_M} (hF : (q_R X).frames = 4) (hL : (q_R X).locals = 94) (hN : q_n X = 6) (C : rc_C X "RecordCalls" prog_1_method_26_code w0) {res : Int32 × rc_M} (E : rc_E0 X y_rec_isJoined (some .boolean) (some (.int res.1)) res.2) : ∀ (fuel : Nat) (w : rc_M) (a0 : Nat) (r1 : Option Nat) (x2 : Int32) (x3 : Int32), b_rec_isJoined_14 fuel w a0 r1 x2 x3 = some res → rc_J X w 14 [] [(0, va_rf (some a0)), (1, va_rf r1), (2, .int x2), (3, .int x3)] := by
  intro fuel
  induction fuel with
  | zero => intro w a0 r1 x2 x3 h; simp [b_rec_isJoined_14] at h
  | succ fuel ih =>
    intro w a0 r1 x2 x3 h
    unfold b_rec_isJoined_14 at h
    refine j_iload_n C d_rec_isJoined_14 rfl 3 rfl ?_
    refine j_iload_n C d_rec_isJoined_15 rfl 2 rfl ?_
    refine j_iconst (v := 4) C d_rec_isJoined_16 rfl (by decide) ?_
    refine j_isub C d_rec_isJoined_17 rfl ?_
    refine j_icmp_gt (tgt := 86) C d_rec_isJoined_18 (by decide) rfl (fun c1 => ?_) (fun c1 => ?_)
    · rw [if_pos c1] at h
      refine j_iconst (v := 0) C d_rec_isJoined_86 rfl (by decide) ?_
      obtain ⟨hz, rfl⟩ := rc_z1_spec h
      exact j_zret C hz E d_rec_isJoined_87
    · rw [if_neg c1] at h
      refine j_aload_n C d_rec_isJoined_21 rfl 1 rfl ?_
      refine j_iload_n C d_rec_isJoined_22 rfl 3 rfl ?_
      obtain ⟨a2, h3, h⟩ := Option.bind_eq_some_iff.mp h
      obtain ⟨p4, h5, h⟩ := Option.bind_eq_some_iff.mp h
      refine j_callV C (As := [.int x3]) (st := []) (sk' := [.int p4.1]) mk_row_wordAt (Or.inl T_678) T_483 T_484 (ci := 1) rfl h3 (rc_le hF (by decide)) (rc_le hL (by decide)) (cg_row_wordAt h5) rfl rfl (by decide) d_rec_isJoined_23 rfl rfl ?_
      refine j_istore C (i := 4) d_rec_isJoined_26 rfl [(4, .int p4.1), (0, va_rf (some a0)), (1, va_rf r1), (2, .int x2), (3, .int x3)] (rc_lt hN (by decide)) (by first | rfl | simp [va_rf_cat, rc_cat_i, rc_cat_l]) ?_
      refine j_iload C d_rec_isJoined_28 rfl 0 rfl ?_
      refine j_ldc C d_rec_isJoined_30 rfl T_690 ?_
      refine j_iand C d_rec_isJoined_32 rfl ?_
      refine j_istore C (i := 5) d_rec_isJoined_33 rfl [(5, .int (p4.1 &&& 2147483647)), (4, .int p4.1), (0, va_rf (some a0)), (1, va_rf r1), (2, .int x2), (3, .int x3)] (rc_lt hN (by decide)) (by first | rfl | simp [va_rf_cat, rc_cat_i, rc_cat_l]) ?_
      refine j_iinc C d_rec_isJoined_35 rfl 5 [(3, .int (x3 + 4)), (5, .int (p4.1 &&& 2147483647)), (4, .int p4.1), (0, va_rf (some a0)), (1, va_rf r1), (2, .int x2)] rfl rfl (rc_lt hN (by decide)) (by first | rfl | simp [va_rf_cat, rc_cat_i, rc_cat_l]) ?_
      refine j_iload C d_rec_isJoined_38 rfl 1 rfl ?_
      refine j_iload_n C d_rec_isJoined_40 rfl 5 rfl ?_
      refine j_iload_n C d_rec_isJoined_41 rfl 0 rfl ?_
      refine j_isub C d_rec_isJoined_42 rfl ?_
      refine j_icmp_le (tgt := 48) C d_rec_isJoined_43 (by decide) rfl (fun c6 => ?_) (fun c6 => ?_)
      · rw [if_pos c6] at h
        refine j_aload_n C d_rec_isJoined_48 rfl 3 rfl ?_
        obtain ⟨v7, h8, h⟩ := Option.bind_eq_some_iff.mp h
        refine j_getR C fl_rec_36 h8 d_rec_isJoined_49 rfl ?_
        refine j_aload_n C d_rec_isJoined_52 rfl 4 rfl ?_
        refine j_iload_n C d_rec_isJoined_53 rfl 0 rfl ?_
        refine j_iload C d_rec_isJoined_54 rfl 1 rfl ?_
        obtain ⟨a9, h10, h⟩ := Option.bind_eq_some_iff.mp h
        obtain ⟨w11, h12, h⟩ := Option.bind_eq_some_iff.mp h
        refine j_callV C (As := [va_rf r1, .int (x3 + 4), .int (p4.1 &&& 2147483647)]) (st := []) (sk' := []) mk_row_addPart (Or.inl T_224) T_225 T_226 (ci := 1) rfl h10 (rc_le hF (by decide)) (rc_le hL (by decide)) (cg_row_addPart h12) rfl rfl (by decide) d_rec_isJoined_56 rfl rfl ?_
        refine j_iload_n C d_rec_isJoined_59 rfl 0 rfl ?_
        refine j_iload C d_rec_isJoined_60 rfl 1 rfl ?_
        refine j_iadd C d_rec_isJoined_62 rfl ?_
        refine j_istore_n C (i := 3) d_rec_isJoined_63 rfl rfl [(3, .int ((x3 + 4) + (p4.1 &&& 2147483647))), (5, .int (p4.1 &&& 2147483647)), (4, .int p4.1), (0, va_rf (some a0)), (1, va_rf r1), (2, .int x2)] (rc_lt hN (by decide)) (by first | rfl | simp [va_rf_cat, rc_cat_i, rc_cat_l]) ?_
        refine j_iload C d_rec_isJoined_64 rfl 2 rfl ?_
        refine j_ldc C d_rec_isJoined_66 rfl T_401 ?_
        refine j_iand C d_rec_isJoined_68 rfl ?_
        refine j_if_eq (tgt := 83) C d_rec_isJoined_69 (by decide) rfl (fun c13 => ?_) (fun c13 => ?_)
        · rw [if_pos c13] at h
          refine j_goto (tgt := 14) C d_rec_isJoined_83 (by decide) ?_
          refine rc_J.sub (lv' := [(0, va_rf (some a0)), (1, va_rf r1), (2, .int x2), (3, .int ((x3 + 4) + (p4.1 &&& 2147483647)))]) [3, 4, 5, 0] rfl ?_
          exact ih _ _ _ _ _ h
        · rw [if_neg c13] at h
          refine j_iload_n C d_rec_isJoined_72 rfl 0 rfl ?_
          refine j_iload_n C d_rec_isJoined_73 rfl 5 rfl ?_
          refine j_icmp_ne (tgt := 81) C d_rec_isJoined_74 (by decide) rfl (fun c14 => ?_) (fun c14 => ?_)
          · rw [if_neg c14] at h
            refine j_iconst (v := 0) C d_rec_isJoined_81 rfl (by decide) ?_
            refine rc_J.sub (lv' := []) [] rfl ?_
            exact k_rec_isJoined_82 hF hL hN C E h
          · rw [if_pos c14] at h
            refine j_iconst (v := 1) C d_rec_isJoined_77 rfl (by decide) ?_
            refine j_goto (tgt := 82) C d_rec_isJoined_78 (by decide) ?_
            refine rc_J.sub (lv' := []) [] rfl ?_
            exact k_rec_isJoined_82 hF hL hN C E h
      · rw [if_neg c6] at h
        refine j_iconst (v := 0) C d_rec_isJoined_46 rfl (by decide) ?_
        obtain ⟨hz, rfl⟩ := rc_z1_spec h
        exact j_zret C hz E d_rec_isJoined_47

set_option maxRecDepth 100000 in
set_option maxHeartbeats 4000000 in
theorem ct_rec_isJoined {l : Launch} {G : rc_G} {w : rc_M} {a0 : Nat} {r1 : Option Nat} {res : Int32 × rc_M} (h : f_rec_isJoined w a0 r1 = some res) : rc_Ct l G y_rec_isJoined prog_1_method_26_code 6 (some .boolean) 4 94 [va_rf (some a0), va_rf r1] w (some (.int res.1)) res.2 := by
  refine rc_enter (by decide +kernel) (by simp [lg_sl, va_rf_cat, rc_cat_i, rc_cat_l]) ?_
  intro X _ _ hN hF hL C E
  have hlv : lv_args 0 [va_rf (some a0), va_rf r1] = [(0, va_rf (some a0)), (1, va_rf r1)] := by simp [lv_args, va_rf_cat, rc_cat_i, rc_cat_l]
  rw [hlv]
  clear hlv
  unfold f_rec_isJoined at h
  refine j_aload_n C d_rec_isJoined_0 rfl 0 rfl ?_
  obtain ⟨v1, h2, h⟩ := Option.bind_eq_some_iff.mp h
  refine j_getR C fl_rec_36 h2 d_rec_isJoined_1 rfl ?_
  obtain ⟨a3, h4, h⟩ := Option.bind_eq_some_iff.mp h
  obtain ⟨w5, h6, h⟩ := Option.bind_eq_some_iff.mp h
  refine j_callV C (As := []) (st := []) (sk' := []) mk_row_clear (Or.inl T_216) T_217 T_218 (ci := 1) rfl h4 (rc_le hF (by decide)) (rc_le hL (by decide)) (cg_row_clear h6) rfl rfl (by decide) d_rec_isJoined_4 rfl rfl ?_
  refine j_aload_n C d_rec_isJoined_7 rfl 1 rfl ?_
  obtain ⟨a7, h8, h⟩ := Option.bind_eq_some_iff.mp h
  obtain ⟨p9, h10, h⟩ := Option.bind_eq_some_iff.mp h
  refine j_callV C (As := []) (st := []) (sk' := [.int p9.1]) mk_row_size (Or.inl T_220) T_221 T_222 (ci := 1) rfl h8 (rc_le hF (by decide)) (rc_le hL (by decide)) (cg_row_size h10) rfl rfl (by decide) d_rec_isJoined_8 rfl rfl ?_
  refine j_istore_n C (i := 2) d_rec_isJoined_11 rfl rfl [(2, .int p9.1), (0, va_rf (some a0)), (1, va_rf r1)] (rc_lt hN (by decide)) (by first | rfl | simp [va_rf_cat, rc_cat_i, rc_cat_l]) ?_
  refine j_iconst (v := 0) C d_rec_isJoined_12 rfl (by decide) ?_
  refine j_istore_n C (i := 3) d_rec_isJoined_13 rfl rfl [(3, .int 0), (2, .int p9.1), (0, va_rf (some a0)), (1, va_rf r1)] (rc_lt hN (by decide)) (by first | rfl | simp [va_rf_cat, rc_cat_i, rc_cat_l]) ?_
  refine rc_J.sub (lv' := [(0, va_rf (some a0)), (1, va_rf r1), (2, .int p9.1), (3, .int 0)]) [2, 3, 1, 0] rfl ?_
  exact k_rec_isJoined_14 hF hL hN C E _ _ _ _ _ _ h

set_option maxRecDepth 100000 in
set_option maxHeartbeats 4000000 in
theorem k_rec_saidByAccepted_39 {X : rc_X} {w0 : rc_M} (hF : (q_R X).frames = 1) (hL : (q_R X).locals = 21) (hN : q_n X = 5) (C : rc_C X "RecordCalls" prog_1_method_28_code w0) {res : Int32 × rc_M} (E : rc_E0 X y_rec_saidByAccepted (some .int) (some (.int res.1)) res.2) {w : rc_M}  (h : b_rec_saidByAccepted_39 w  = some res) : rc_J X w 39 [] [] := by
  unfold b_rec_saidByAccepted_39 at h
  refine j_iconst (v := (-1)) C d_rec_saidByAccepted_39 rfl (by decide) ?_
  cases h
  exact j_iret C E d_rec_saidByAccepted_40

set_option maxRecDepth 100000 in
set_option maxHeartbeats 4000000 in
theorem k_rec_saidByAccepted_155 {X : rc_X} {w0 : rc_M} (hF : (q_R X).frames = 1) (hL : (q_R X).locals = 21) (hN : q_n X = 5) (C : rc_C X "RecordCalls" prog_1_method_28_code w0) {res : Int32 × rc_M} (E : rc_E0 X y_rec_saidByAccepted (some .int) (some (.int res.1)) res.2) {w : rc_M} {s0 : Int32} (h : b_rec_saidByAccepted_155 w s0 = some res) : rc_J X w 155 [.int s0] [] := by
  unfold b_rec_saidByAccepted_155 at h
  cases h
  exact j_iret C E d_rec_saidByAccepted_155

set_option maxRecDepth 100000 in
set_option maxHeartbeats 4000000 in
theorem k_rec_saidByAccepted_145 {X : rc_X} {w0 : rc_M} (hF : (q_R X).frames = 1) (hL : (q_R X).locals = 21) (hN : q_n X = 5) (C : rc_C X "RecordCalls" prog_1_method_28_code w0) {res : Int32 × rc_M} (E : rc_E0 X y_rec_saidByAccepted (some .int) (some (.int res.1)) res.2) {w : rc_M} {x3 : Int32} {x4 : Int32} (h : b_rec_saidByAccepted_145 w x3 x4 = some res) : rc_J X w 145 [] [(3, .int x3), (4, .int x4)] := by
  unfold b_rec_saidByAccepted_145 at h
  refine j_iload C d_rec_saidByAccepted_145 rfl 1 rfl ?_
  refine j_if_eq (tgt := 154) C d_rec_saidByAccepted_147 (by decide) rfl (fun c1 => ?_) (fun c1 => ?_)
  · rw [if_pos c1] at h
    refine j_iconst (v := (-1)) C d_rec_saidByAccepted_154 rfl (by decide) ?_
    refine rc_J.sub (lv' := []) [] rfl ?_
    exact k_rec_saidByAccepted_155 hF hL hN C E h
  · rw [if_neg c1] at h
    refine j_iload_n C d_rec_saidByAccepted_150 rfl 0 rfl ?_
    refine j_goto (tgt := 155) C d_rec_saidByAccepted_151 (by decide) ?_
    refine rc_J.sub (lv' := []) [] rfl ?_
    exact k_rec_saidByAccepted_155 hF hL hN C E h

set_option maxRecDepth 100000 in
set_option maxHeartbeats 4000000 in
theorem k_rec_saidByAccepted_121 {X : rc_X} {w0 : rc_M} (hF : (q_R X).frames = 1) (hL : (q_R X).locals = 21) (hN : q_n X = 5) (C : rc_C X "RecordCalls" prog_1_method_28_code w0) {res : Int32 × rc_M} (E : rc_E0 X y_rec_saidByAccepted (some .int) (some (.int res.1)) res.2) {w : rc_M} {x3 : Int32} {s0 : Int32} (h : b_rec_saidByAccepted_121 w x3 s0 = some res) : rc_J X w 121 [.int s0] [(3, .int x3)] := by
  unfold b_rec_saidByAccepted_121 at h
  refine j_istore C (i := 4) d_rec_saidByAccepted_121 rfl [(4, .int s0), (3, .int x3)] (rc_lt hN (by decide)) (by first | rfl | simp [va_rf_cat, rc_cat_i, rc_cat_l]) ?_
  refine j_goto (tgt := 145) C d_rec_saidByAccepted_123 (by decide) ?_
  refine rc_J.sub (lv' := [(3, .int x3), (4, .int s0)]) [1, 0] rfl ?_
  exact k_rec_saidByAccepted_145 hF hL hN C E h

set_option maxRecDepth 100000 in
set_option maxHeartbeats 4000000 in
theorem k_rec_saidByAccepted_120 {X : rc_X} {w0 : rc_M} (hF : (q_R X).frames = 1) (hL : (q_R X).locals = 21) (hN : q_n X = 5) (C : rc_C X "RecordCalls" prog_1_method_28_code w0) {res : Int32 × rc_M} (E : rc_E0 X y_rec_saidByAccepted (some .int) (some (.int res.1)) res.2) {w : rc_M} {x3 : Int32} (h : b_rec_saidByAccepted_120 w x3 = some res) : rc_J X w 120 [] [(3, .int x3)] := by
  unfold b_rec_saidByAccepted_120 at h
  refine j_iconst (v := 0) C d_rec_saidByAccepted_120 rfl (by decide) ?_
  exact k_rec_saidByAccepted_121 hF hL hN C E h

set_option maxRecDepth 100000 in
set_option maxHeartbeats 4000000 in
theorem k_rec_saidByAccepted_137 {X : rc_X} {w0 : rc_M} (hF : (q_R X).frames = 1) (hL : (q_R X).locals = 21) (hN : q_n X = 5) (C : rc_C X "RecordCalls" prog_1_method_28_code w0) {res : Int32 × rc_M} (E : rc_E0 X y_rec_saidByAccepted (some .int) (some (.int res.1)) res.2) {w : rc_M} {x3 : Int32} {s0 : Int32} (h : b_rec_saidByAccepted_137 w x3 s0 = some res) : rc_J X w 137 [.int s0] [(3, .int x3)] := by
  unfold b_rec_saidByAccepted_137 at h
  refine j_istore C (i := 4) d_rec_saidByAccepted_137 rfl [(4, .int s0), (3, .int x3)] (rc_lt hN (by decide)) (by first | rfl | simp [va_rf_cat, rc_cat_i, rc_cat_l]) ?_
  refine j_goto (tgt := 145) C d_rec_saidByAccepted_139 (by decide) ?_
  refine rc_J.sub (lv' := [(3, .int x3), (4, .int s0)]) [1, 0] rfl ?_
  exact k_rec_saidByAccepted_145 hF hL hN C E h

set_option maxRecDepth 100000 in
set_option maxHeartbeats 4000000 in
theorem k_rec_saidByAccepted_126 {X : rc_X} {w0 : rc_M} (hF : (q_R X).frames = 1) (hL : (q_R X).locals = 21) (hN : q_n X = 5) (C : rc_C X "RecordCalls" prog_1_method_28_code w0) {res : Int32 × rc_M} (E : rc_E0 X y_rec_saidByAccepted (some .int) (some (.int res.1)) res.2) {w : rc_M} {x1 : Int32} {x3 : Int32} (h : b_rec_saidByAccepted_126 w x1 x3 = some res) : rc_J X w 126 [] [(1, .int x1), (3, .int x3)] := by
  unfold b_rec_saidByAccepted_126 at h
  refine j_iload_n C d_rec_saidByAccepted_126 rfl 0 rfl ?_
  refine j_bipush (v := 24) C d_rec_saidByAccepted_127 rfl (by decide) ?_
  refine j_icmp_ne (tgt := 136) C d_rec_saidByAccepted_129 (by decide) rfl (fun c1 => ?_) (fun c1 => ?_)
  · rw [if_neg c1] at h
    refine j_iconst (v := 0) C d_rec_saidByAccepted_136 rfl (by decide) ?_
    refine rc_J.sub (lv' := [(3, .int x3)]) [1] rfl ?_
    exact k_rec_saidByAccepted_137 hF hL hN C E h
  · rw [if_pos c1] at h
    refine j_iconst (v := 1) C d_rec_saidByAccepted_132 rfl (by decide) ?_
    refine j_goto (tgt := 137) C d_rec_saidByAccepted_133 (by decide) ?_
    refine rc_J.sub (lv' := [(3, .int x3)]) [1] rfl ?_
    exact k_rec_saidByAccepted_137 hF hL hN C E h

set_option maxRecDepth 100000 in
set_option maxHeartbeats 4000000 in
theorem k_rec_saidByAccepted_28 {X : rc_X} {w0 : rc_M} (hF : (q_R X).frames = 1) (hL : (q_R X).locals = 21) (hN : q_n X = 5) (C : rc_C X "RecordCalls" prog_1_method_28_code w0) {res : Int32 × rc_M} (E : rc_E0 X y_rec_saidByAccepted (some .int) (some (.int res.1)) res.2) {w : rc_M} {r0 : Option Nat} {x1 : Int32} {s0 : Int32} (h : b_rec_saidByAccepted_28 w r0 x1 s0 = some res) : rc_J X w 28 [.int s0] [(0, va_rf r0), (1, .int x1)] := by
  unfold b_rec_saidByAccepted_28 at h
  refine j_istore_n C (i := 2) d_rec_saidByAccepted_28 rfl rfl [(2, .int s0), (0, va_rf r0), (1, .int x1)] (rc_lt hN (by decide)) (by first | rfl | simp [va_rf_cat, rc_cat_i, rc_cat_l]) ?_
  refine j_iload_n C d_rec_saidByAccepted_29 rfl 2 rfl ?_
  refine j_bipush (v := 24) C d_rec_saidByAccepted_30 rfl (by decide) ?_
  refine j_icmp_lt (tgt := 39) C d_rec_saidByAccepted_32 (by decide) rfl (fun c1 => ?_) (fun c1 => ?_)
  · rw [if_pos c1] at h
    refine rc_J.sub (lv' := []) [] rfl ?_
    exact k_rec_saidByAccepted_39 hF hL hN C E h
  · rw [if_neg c1] at h
    refine j_iload_n C d_rec_saidByAccepted_35 rfl 0 rfl ?_
    refine j_if_eq (tgt := 41) C d_rec_saidByAccepted_36 (by decide) rfl (fun c2 => ?_) (fun c2 => ?_)
    · rw [if_pos c2] at h
      refine j_aload_n C d_rec_saidByAccepted_41 rfl 1 rfl ?_
      refine j_bipush (v := 20) C d_rec_saidByAccepted_42 rfl (by decide) ?_
      obtain ⟨a3, h4, h⟩ := Option.bind_eq_some_iff.mp h
      obtain ⟨p5, h6, h⟩ := Option.bind_eq_some_iff.mp h
      refine j_callV C (As := [.int 20]) (st := []) (sk' := [.int p5.1]) mk_row_wordAt (Or.inl T_678) T_483 T_484 (ci := 1) rfl h4 (rc_le hF (by decide)) (rc_le hL (by decide)) (cg_row_wordAt h6) rfl rfl (by decide) d_rec_saidByAccepted_44 rfl rfl ?_
      refine j_istore_n C (i := 3) d_rec_saidByAccepted_47 rfl rfl [(3, .int p5.1), (2, .int s0), (0, va_rf r0), (1, .int x1)] (rc_lt hN (by decide)) (by first | rfl | simp [va_rf_cat, rc_cat_i, rc_cat_l]) ?_
      refine j_iload_n C d_rec_saidByAccepted_48 rfl 0 rfl ?_
      by_cases c7 : p5.1 = 0
      · rw [if_pos c7] at h
        refine j_tableIn C d_rec_saidByAccepted_49 (tgt := 84) (by rw [c7]; decide) (by rw [c7]; decide) (by rw [c7]; rfl) (by decide) ?_
        refine j_iconst (v := 1) C d_rec_saidByAccepted_84 rfl (by decide) ?_
        refine j_istore C (i := 4) d_rec_saidByAccepted_85 rfl [(4, .int 1), (3, .int p5.1), (2, .int s0), (0, va_rf r0), (1, .int x1)] (rc_lt hN (by decide)) (by first | rfl | simp [va_rf_cat, rc_cat_i, rc_cat_l]) ?_
        refine j_goto (tgt := 145) C d_rec_saidByAccepted_87 (by decide) ?_
        refine rc_J.sub (lv' := [(3, .int p5.1), (4, .int 1)]) [1, 0] rfl ?_
        exact k_rec_saidByAccepted_145 hF hL hN C E h
      · rw [if_neg c7] at h
        by_cases c8 : p5.1 = 1
        · rw [if_pos c8] at h
          refine j_tableIn C d_rec_saidByAccepted_49 (tgt := 126) (by rw [c8]; decide) (by rw [c8]; decide) (by rw [c8]; rfl) (by decide) ?_
          refine rc_J.sub (lv' := [(1, .int x1), (3, .int p5.1)]) [3, 0] rfl ?_
          exact k_rec_saidByAccepted_126 hF hL hN C E h
        · rw [if_neg c8] at h
          by_cases c9 : p5.1 = 2
          · rw [if_pos c9] at h
            refine j_tableIn C d_rec_saidByAccepted_49 (tgt := 90) (by rw [c9]; decide) (by rw [c9]; decide) (by rw [c9]; rfl) (by decide) ?_
            refine j_iload_n C d_rec_saidByAccepted_90 rfl 3 rfl ?_
            refine j_bipush (v := 32) C d_rec_saidByAccepted_91 rfl (by decide) ?_
            refine j_icmp_ne (tgt := 120) C d_rec_saidByAccepted_93 (by decide) rfl (fun c10 => ?_) (fun c10 => ?_)
            · rw [if_neg c10] at h
              refine rc_J.sub (lv' := [(3, .int p5.1)]) [0] rfl ?_
              exact k_rec_saidByAccepted_120 hF hL hN C E h
            · rw [if_pos c10] at h
              refine j_aload_n C d_rec_saidByAccepted_96 rfl 2 rfl ?_
              refine j_bipush (v := 24) C d_rec_saidByAccepted_97 rfl (by decide) ?_
              obtain ⟨a11, h12, h⟩ := Option.bind_eq_some_iff.mp h
              obtain ⟨p13, h14, h⟩ := Option.bind_eq_some_iff.mp h
              refine j_callV C (As := [.int 24]) (st := []) (sk' := [.int p13.1]) mk_row_wordAt (Or.inl T_678) T_483 T_484 (ci := 1) rfl h12 (rc_le hF (by decide)) (rc_le hL (by decide)) (cg_row_wordAt h14) rfl rfl (by decide) d_rec_saidByAccepted_99 rfl rfl ?_
              refine j_iconst (v := 1) C d_rec_saidByAccepted_102 rfl (by decide) ?_
              refine j_icmp_ne (tgt := 120) C d_rec_saidByAccepted_103 (by decide) rfl (fun c15 => ?_) (fun c15 => ?_)
              · rw [if_neg c15] at h
                refine rc_J.sub (lv' := [(3, .int p5.1)]) [0] rfl ?_
                exact k_rec_saidByAccepted_120 hF hL hN C E h
              · rw [if_pos c15] at h
                refine j_aload_n C d_rec_saidByAccepted_106 rfl 2 rfl ?_
                refine j_bipush (v := 28) C d_rec_saidByAccepted_107 rfl (by decide) ?_
                obtain ⟨a16, h17, h⟩ := Option.bind_eq_some_iff.mp h
                obtain ⟨p18, h19, h⟩ := Option.bind_eq_some_iff.mp h
                refine j_callV C (As := [.int 28]) (st := []) (sk' := [.int p18.1]) mk_row_wordAt (Or.inl T_678) T_483 T_484 (ci := 1) rfl h17 (rc_le hF (by decide)) (rc_le hL (by decide)) (cg_row_wordAt h19) rfl rfl (by decide) d_rec_saidByAccepted_109 rfl rfl ?_
                refine j_iconst (v := 2) C d_rec_saidByAccepted_112 rfl (by decide) ?_
                refine j_icmp_ne (tgt := 120) C d_rec_saidByAccepted_113 (by decide) rfl (fun c20 => ?_) (fun c20 => ?_)
                · rw [if_neg c20] at h
                  refine rc_J.sub (lv' := [(3, .int p5.1)]) [0] rfl ?_
                  exact k_rec_saidByAccepted_120 hF hL hN C E h
                · rw [if_pos c20] at h
                  refine j_iconst (v := 1) C d_rec_saidByAccepted_116 rfl (by decide) ?_
                  refine j_goto (tgt := 121) C d_rec_saidByAccepted_117 (by decide) ?_
                  refine rc_J.sub (lv' := [(3, .int p5.1)]) [0] rfl ?_
                  exact k_rec_saidByAccepted_121 hF hL hN C E h
          · rw [if_neg c9] at h
            by_cases c21 : p5.1 = 3
            · rw [if_pos c21] at h
              refine j_tableIn C d_rec_saidByAccepted_49 (tgt := 126) (by rw [c21]; decide) (by rw [c21]; decide) (by rw [c21]; rfl) (by decide) ?_
              refine rc_J.sub (lv' := [(1, .int x1), (3, .int p5.1)]) [3, 0] rfl ?_
              exact k_rec_saidByAccepted_126 hF hL hN C E h
            · rw [if_neg c21] at h
              by_cases c22 : p5.1 = 4
              · rw [if_pos c22] at h
                refine j_tableIn C d_rec_saidByAccepted_49 (tgt := 126) (by rw [c22]; decide) (by rw [c22]; decide) (by rw [c22]; rfl) (by decide) ?_
                refine rc_J.sub (lv' := [(1, .int x1), (3, .int p5.1)]) [3, 0] rfl ?_
                exact k_rec_saidByAccepted_126 hF hL hN C E h
              · rw [if_neg c22] at h
                refine j_tableOut C d_rec_saidByAccepted_49 (tgt := 142) (by have e0 := lv_neT c7 (a := 0) (by decide); have e1 := lv_neT c8 (a := 1) (by decide); have e2 := lv_neT c9 (a := 2) (by decide); have e3 := lv_neT c21 (a := 3) (by decide); have e4 := lv_neT c22 (a := 4) (by decide); omega) (by decide) ?_
                refine j_iconst (v := 0) C d_rec_saidByAccepted_142 rfl (by decide) ?_
                refine j_istore C (i := 4) d_rec_saidByAccepted_143 rfl [(4, .int 0), (3, .int p5.1), (2, .int s0), (0, va_rf r0), (1, .int x1)] (rc_lt hN (by decide)) (by first | rfl | simp [va_rf_cat, rc_cat_i, rc_cat_l]) ?_
                refine rc_J.sub (lv' := [(3, .int p5.1), (4, .int 0)]) [1, 0] rfl ?_
                exact k_rec_saidByAccepted_145 hF hL hN C E h
    · rw [if_neg c2] at h
      refine rc_J.sub (lv' := []) [] rfl ?_
      exact k_rec_saidByAccepted_39 hF hL hN C E h

set_option maxRecDepth 100000 in
set_option maxHeartbeats 4000000 in
theorem k_rec_saidByAccepted_23 {X : rc_X} {w0 : rc_M} (hF : (q_R X).frames = 1) (hL : (q_R X).locals = 21) (hN : q_n X = 5) (C : rc_C X "RecordCalls" prog_1_method_28_code w0) {res : Int32 × rc_M} (E : rc_E0 X y_rec_saidByAccepted (some .int) (some (.int res.1)) res.2) {w : rc_M} {r0 : Option Nat} {x1 : Int32} (h : b_rec_saidByAccepted_23 w r0 x1 = some res) : rc_J X w 23 [] [(0, va_rf r0), (1, .int x1)] := by
  unfold b_rec_saidByAccepted_23 at h
  refine j_iconst (v := 1) C d_rec_saidByAccepted_23 rfl (by decide) ?_
  refine j_goto (tgt := 28) C d_rec_saidByAccepted_24 (by decide) ?_
  exact k_rec_saidByAccepted_28 hF hL hN C E h

set_option maxRecDepth 100000 in
set_option maxHeartbeats 4000000 in
theorem ct_rec_saidByAccepted {l : Launch} {G : rc_G} {w : rc_M} {r0 : Option Nat} {res : Int32 × rc_M} (h : f_rec_saidByAccepted w r0 = some res) : rc_Ct l G y_rec_saidByAccepted prog_1_method_28_code 5 (some .int) 1 21 [va_rf r0] w (some (.int res.1)) res.2 := by
  refine rc_enter (by decide +kernel) (by simp [lg_sl, va_rf_cat, rc_cat_i, rc_cat_l]) ?_
  intro X _ _ hN hF hL C E
  have hlv : lv_args 0 [va_rf r0] = [(0, va_rf r0)] := by simp [lv_args, va_rf_cat, rc_cat_i, rc_cat_l]
  rw [hlv]
  clear hlv
  unfold f_rec_saidByAccepted at h
  refine j_aload_n C d_rec_saidByAccepted_0 rfl 0 rfl ?_
  obtain ⟨a1, h2, h⟩ := Option.bind_eq_some_iff.mp h
  obtain ⟨p3, h4, h⟩ := Option.bind_eq_some_iff.mp h
  refine j_callV C (As := []) (st := []) (sk' := [.int p3.1]) mk_row_size (Or.inl T_220) T_221 T_222 (ci := 1) rfl h2 (rc_le hF (by decide)) (rc_le hL (by decide)) (cg_row_size h4) rfl rfl (by decide) d_rec_saidByAccepted_1 rfl rfl ?_
  refine j_istore_n C (i := 1) d_rec_saidByAccepted_4 rfl rfl [(1, .int p3.1), (0, va_rf r0)] (rc_lt hN (by decide)) (by first | rfl | simp [va_rf_cat, rc_cat_i, rc_cat_l]) ?_
  refine j_aload_n C d_rec_saidByAccepted_5 rfl 1 rfl ?_
  refine j_bipush (v := 12) C d_rec_saidByAccepted_6 rfl (by decide) ?_
  obtain ⟨a5, h6, h⟩ := Option.bind_eq_some_iff.mp h
  obtain ⟨p7, h8, h⟩ := Option.bind_eq_some_iff.mp h
  refine j_callV C (As := [.int 12]) (st := []) (sk' := [.int p7.1]) mk_row_wordAt (Or.inl T_678) T_483 T_484 (ci := 1) rfl h6 (rc_le hF (by decide)) (rc_le hL (by decide)) (cg_row_wordAt h8) rfl rfl (by decide) d_rec_saidByAccepted_8 rfl rfl ?_
  refine j_if_ne (tgt := 23) C d_rec_saidByAccepted_11 (by decide) rfl (fun c9 => ?_) (fun c9 => ?_)
  · rw [if_neg c9] at h
    refine rc_J.sub (lv' := [(0, va_rf r0), (1, .int p3.1)]) [1, 0] rfl ?_
    exact k_rec_saidByAccepted_23 hF hL hN C E h
  · rw [if_pos c9] at h
    refine j_aload_n C d_rec_saidByAccepted_14 rfl 1 rfl ?_
    refine j_bipush (v := 16) C d_rec_saidByAccepted_15 rfl (by decide) ?_
    obtain ⟨a10, h11, h⟩ := Option.bind_eq_some_iff.mp h
    obtain ⟨p12, h13, h⟩ := Option.bind_eq_some_iff.mp h
    refine j_callV C (As := [.int 16]) (st := []) (sk' := [.int p12.1]) mk_row_wordAt (Or.inl T_678) T_483 T_484 (ci := 1) rfl h11 (rc_le hF (by decide)) (rc_le hL (by decide)) (cg_row_wordAt h13) rfl rfl (by decide) d_rec_saidByAccepted_17 rfl rfl ?_
    refine j_if_eq (tgt := 27) C d_rec_saidByAccepted_20 (by decide) rfl (fun c14 => ?_) (fun c14 => ?_)
    · rw [if_pos c14] at h
      refine j_iconst (v := 0) C d_rec_saidByAccepted_27 rfl (by decide) ?_
      refine rc_J.sub (lv' := [(0, va_rf r0), (1, .int p3.1)]) [1, 0] rfl ?_
      exact k_rec_saidByAccepted_28 hF hL hN C E h
    · rw [if_neg c14] at h
      refine rc_J.sub (lv' := [(0, va_rf r0), (1, .int p3.1)]) [1, 0] rfl ?_
      exact k_rec_saidByAccepted_23 hF hL hN C E h

set_option maxRecDepth 100000 in
set_option maxHeartbeats 4000000 in
theorem k_rec_saidByRefused_68 {X : rc_X} {w0 : rc_M} (hF : (q_R X).frames = 1) (hL : (q_R X).locals = 21) (hN : q_n X = 3) (C : rc_C X "RecordCalls" prog_1_method_29_code w0) {res : Int32 × rc_M} (E : rc_E0 X y_rec_saidByRefused (some .int) (some (.int res.1)) res.2) {w : rc_M} {x2 : Int32} (h : b_rec_saidByRefused_68 w x2 = some res) : rc_J X w 68 [] [(2, .int x2)] := by
  unfold b_rec_saidByRefused_68 at h
  refine j_bipush (v := 10) C d_rec_saidByRefused_68 rfl (by decide) ?_
  refine j_iload_n C d_rec_saidByRefused_70 rfl 0 rfl ?_
  refine j_iadd C d_rec_saidByRefused_71 rfl ?_
  cases h
  exact j_iret C E d_rec_saidByRefused_72

set_option maxRecDepth 100000 in
set_option maxHeartbeats 4000000 in
theorem k_rec_saidByRefused_73 {X : rc_X} {w0 : rc_M} (hF : (q_R X).frames = 1) (hL : (q_R X).locals = 21) (hN : q_n X = 3) (C : rc_C X "RecordCalls" prog_1_method_29_code w0) {res : Int32 × rc_M} (E : rc_E0 X y_rec_saidByRefused (some .int) (some (.int res.1)) res.2) {w : rc_M}  (h : b_rec_saidByRefused_73 w  = some res) : rc_J X w 73 [] [] := by
  unfold b_rec_saidByRefused_73 at h
  refine j_iconst (v := (-1)) C d_rec_saidByRefused_73 rfl (by decide) ?_
  cases h
  exact j_iret C E d_rec_saidByRefused_74

set_option maxRecDepth 100000 in
set_option maxHeartbeats 4000000 in
theorem k_rec_saidByRefused_44 {X : rc_X} {w0 : rc_M} (hF : (q_R X).frames = 1) (hL : (q_R X).locals = 21) (hN : q_n X = 3) (C : rc_C X "RecordCalls" prog_1_method_29_code w0) {res : Int32 × rc_M} (E : rc_E0 X y_rec_saidByRefused (some .int) (some (.int res.1)) res.2) {w : rc_M} {r0 : Option Nat} {x1 : Int32} {x2 : Int32} (h : b_rec_saidByRefused_44 w r0 x1 x2 = some res) : rc_J X w 44 [] [(0, va_rf r0), (1, .int x1), (2, .int x2)] := by
  unfold b_rec_saidByRefused_44 at h
  refine j_aload_n C d_rec_saidByRefused_44 rfl 0 rfl ?_
  obtain ⟨a1, h2, h⟩ := Option.bind_eq_some_iff.mp h
  obtain ⟨p3, h4, h⟩ := Option.bind_eq_some_iff.mp h
  refine j_callV C (As := []) (st := []) (sk' := [.int p3.1]) mk_row_size (Or.inl T_220) T_221 T_222 (ci := 1) rfl h2 (rc_le hF (by decide)) (rc_le hL (by decide)) (cg_row_size h4) rfl rfl (by decide) d_rec_saidByRefused_45 rfl rfl ?_
  refine j_bipush (v := 20) C d_rec_saidByRefused_48 rfl (by decide) ?_
  refine j_icmp_ne (tgt := 73) C d_rec_saidByRefused_50 (by decide) rfl (fun c5 => ?_) (fun c5 => ?_)
  · rw [if_neg c5] at h
    refine rc_J.sub (lv' := []) [] rfl ?_
    exact k_rec_saidByRefused_73 hF hL hN C E h
  · rw [if_pos c5] at h
    refine j_iload_n C d_rec_saidByRefused_53 rfl 1 rfl ?_
    refine j_iconst (v := 1) C d_rec_saidByRefused_54 rfl (by decide) ?_
    refine j_icmp_ne (tgt := 73) C d_rec_saidByRefused_55 (by decide) rfl (fun c6 => ?_) (fun c6 => ?_)
    · rw [if_neg c6] at h
      refine rc_J.sub (lv' := []) [] rfl ?_
      exact k_rec_saidByRefused_73 hF hL hN C E h
    · rw [if_pos c6] at h
      refine j_iload_n C d_rec_saidByRefused_58 rfl 2 rfl ?_
      refine j_iconst (v := 1) C d_rec_saidByRefused_59 rfl (by decide) ?_
      refine j_icmp_eq (tgt := 68) C d_rec_saidByRefused_60 (by decide) rfl (fun c7 => ?_) (fun c7 => ?_)
      · rw [if_pos c7] at h
        refine rc_J.sub (lv' := [(2, .int x2)]) [2] rfl ?_
        exact k_rec_saidByRefused_68 hF hL hN C E h
      · rw [if_neg c7] at h
        refine j_iload_n C d_rec_saidByRefused_63 rfl 2 rfl ?_
        refine j_iconst (v := 3) C d_rec_saidByRefused_64 rfl (by decide) ?_
        refine j_icmp_ne (tgt := 73) C d_rec_saidByRefused_65 (by decide) rfl (fun c8 => ?_) (fun c8 => ?_)
        · rw [if_neg c8] at h
          refine rc_J.sub (lv' := []) [] rfl ?_
          exact k_rec_saidByRefused_73 hF hL hN C E h
        · rw [if_pos c8] at h
          refine rc_J.sub (lv' := [(2, .int x2)]) [2] rfl ?_
          exact k_rec_saidByRefused_68 hF hL hN C E h

set_option maxRecDepth 100000 in
set_option maxHeartbeats 4000000 in
theorem ct_rec_saidByRefused {l : Launch} {G : rc_G} {w : rc_M} {r0 : Option Nat} {res : Int32 × rc_M} (h : f_rec_saidByRefused w r0 = some res) : rc_Ct l G y_rec_saidByRefused prog_1_method_29_code 3 (some .int) 1 21 [va_rf r0] w (some (.int res.1)) res.2 := by
  refine rc_enter (by decide +kernel) (by simp [lg_sl, va_rf_cat, rc_cat_i, rc_cat_l]) ?_
  intro X _ _ hN hF hL C E
  have hlv : lv_args 0 [va_rf r0] = [(0, va_rf r0)] := by simp [lv_args, va_rf_cat, rc_cat_i, rc_cat_l]
  rw [hlv]
  clear hlv
  unfold f_rec_saidByRefused at h
  refine j_aload_n C d_rec_saidByRefused_0 rfl 0 rfl ?_
  refine j_bipush (v := 12) C d_rec_saidByRefused_1 rfl (by decide) ?_
  obtain ⟨a1, h2, h⟩ := Option.bind_eq_some_iff.mp h
  obtain ⟨p3, h4, h⟩ := Option.bind_eq_some_iff.mp h
  refine j_callV C (As := [.int 12]) (st := []) (sk' := [.int p3.1]) mk_row_wordAt (Or.inl T_678) T_483 T_484 (ci := 1) rfl h2 (rc_le hF (by decide)) (rc_le hL (by decide)) (cg_row_wordAt h4) rfl rfl (by decide) d_rec_saidByRefused_3 rfl rfl ?_
  refine j_istore_n C (i := 1) d_rec_saidByRefused_6 rfl rfl [(1, .int p3.1), (0, va_rf r0)] (rc_lt hN (by decide)) (by first | rfl | simp [va_rf_cat, rc_cat_i, rc_cat_l]) ?_
  refine j_aload_n C d_rec_saidByRefused_7 rfl 1 rfl ?_
  refine j_bipush (v := 16) C d_rec_saidByRefused_8 rfl (by decide) ?_
  obtain ⟨a5, h6, h⟩ := Option.bind_eq_some_iff.mp h
  obtain ⟨p7, h8, h⟩ := Option.bind_eq_some_iff.mp h
  refine j_callV C (As := [.int 16]) (st := []) (sk' := [.int p7.1]) mk_row_wordAt (Or.inl T_678) T_483 T_484 (ci := 1) rfl h6 (rc_le hF (by decide)) (rc_le hL (by decide)) (cg_row_wordAt h8) rfl rfl (by decide) d_rec_saidByRefused_10 rfl rfl ?_
  refine j_istore_n C (i := 2) d_rec_saidByRefused_13 rfl rfl [(2, .int p7.1), (1, .int p3.1), (0, va_rf r0)] (rc_lt hN (by decide)) (by first | rfl | simp [va_rf_cat, rc_cat_i, rc_cat_l]) ?_
  refine j_aload_n C d_rec_saidByRefused_14 rfl 2 rfl ?_
  obtain ⟨a9, h10, h⟩ := Option.bind_eq_some_iff.mp h
  obtain ⟨p11, h12, h⟩ := Option.bind_eq_some_iff.mp h
  refine j_callV C (As := []) (st := []) (sk' := [.int p11.1]) mk_row_size (Or.inl T_220) T_221 T_222 (ci := 1) rfl h10 (rc_le hF (by decide)) (rc_le hL (by decide)) (cg_row_size h12) rfl rfl (by decide) d_rec_saidByRefused_15 rfl rfl ?_
  refine j_bipush (v := 24) C d_rec_saidByRefused_18 rfl (by decide) ?_
  refine j_icmp_ne (tgt := 44) C d_rec_saidByRefused_20 (by decide) rfl (fun c13 => ?_) (fun c13 => ?_)
  · rw [if_neg c13] at h
    refine rc_J.sub (lv' := [(0, va_rf r0), (1, .int p3.1), (2, .int p7.1)]) [2, 1, 0] rfl ?_
    exact k_rec_saidByRefused_44 hF hL hN C E h
  · rw [if_pos c13] at h
    refine j_iload_n C d_rec_saidByRefused_23 rfl 1 rfl ?_
    refine j_if_ne (tgt := 44) C d_rec_saidByRefused_24 (by decide) rfl (fun c14 => ?_) (fun c14 => ?_)
    · rw [if_neg c14] at h
      refine rc_J.sub (lv' := [(0, va_rf r0), (1, .int p3.1), (2, .int p7.1)]) [2, 1, 0] rfl ?_
      exact k_rec_saidByRefused_44 hF hL hN C E h
    · rw [if_pos c14] at h
      refine j_iload_n C d_rec_saidByRefused_27 rfl 0 rfl ?_
      refine j_iconst (v := 2) C d_rec_saidByRefused_28 rfl (by decide) ?_
      refine j_icmp_ne (tgt := 44) C d_rec_saidByRefused_29 (by decide) rfl (fun c15 => ?_) (fun c15 => ?_)
      · rw [if_neg c15] at h
        refine rc_J.sub (lv' := [(0, va_rf r0), (1, .int p3.1), (2, .int p7.1)]) [2, 1, 0] rfl ?_
        exact k_rec_saidByRefused_44 hF hL hN C E h
      · rw [if_pos c15] at h
        refine j_aload_n C d_rec_saidByRefused_32 rfl 2 rfl ?_
        refine j_bipush (v := 20) C d_rec_saidByRefused_33 rfl (by decide) ?_
        obtain ⟨a16, h17, h⟩ := Option.bind_eq_some_iff.mp h
        obtain ⟨p18, h19, h⟩ := Option.bind_eq_some_iff.mp h
        refine j_callV C (As := [.int 20]) (st := []) (sk' := [.int p18.1]) mk_row_wordAt (Or.inl T_678) T_483 T_484 (ci := 1) rfl h17 (rc_le hF (by decide)) (rc_le hL (by decide)) (cg_row_wordAt h19) rfl rfl (by decide) d_rec_saidByRefused_35 rfl rfl ?_
        refine j_iconst (v := 2) C d_rec_saidByRefused_38 rfl (by decide) ?_
        refine j_icmp_ne (tgt := 44) C d_rec_saidByRefused_39 (by decide) rfl (fun c20 => ?_) (fun c20 => ?_)
        · rw [if_neg c20] at h
          refine rc_J.sub (lv' := [(0, va_rf r0), (1, .int p3.1), (2, .int p7.1)]) [2, 1, 0] rfl ?_
          exact k_rec_saidByRefused_44 hF hL hN C E h
        · rw [if_pos c20] at h
          refine j_iconst (v := 5) C d_rec_saidByRefused_42 rfl (by decide) ?_
          cases h
          exact j_iret C E d_rec_saidByRefused_43

set_option maxRecDepth 100000 in
set_option maxHeartbeats 4000000 in
theorem k_rec_saidBy_18 {X : rc_X} {w0 : rc_M} (hF : (q_R X).frames = 2) (hL : (q_R X).locals = 45) (hN : q_n X = 1) (C : rc_C X "RecordCalls" prog_1_method_27_code w0) {res : Int32 × rc_M} (E : rc_E0 X y_rec_saidBy (some .int) (some (.int res.1)) res.2) {w : rc_M}  (h : b_rec_saidBy_18 w  = some res) : rc_J X w 18 [] [] := by
  unfold b_rec_saidBy_18 at h
  refine j_iconst (v := (-1)) C d_rec_saidBy_18 rfl (by decide) ?_
  cases h
  exact j_iret C E d_rec_saidBy_19

set_option maxRecDepth 100000 in
set_option maxHeartbeats 4000000 in
theorem ct_rec_saidBy {l : Launch} {G : rc_G} {w : rc_M} {r0 : Option Nat} {res : Int32 × rc_M} (h : f_rec_saidBy w r0 = some res) : rc_Ct l G y_rec_saidBy prog_1_method_27_code 1 (some .int) 2 45 [va_rf r0] w (some (.int res.1)) res.2 := by
  refine rc_enter (by decide +kernel) (by simp [lg_sl, va_rf_cat, rc_cat_i, rc_cat_l]) ?_
  intro X _ _ hN hF hL C E
  have hlv : lv_args 0 [va_rf r0] = [(0, va_rf r0)] := by simp [lv_args, va_rf_cat, rc_cat_i, rc_cat_l]
  rw [hlv]
  clear hlv
  unfold f_rec_saidBy at h
  refine j_aload_n C d_rec_saidBy_0 rfl 0 rfl ?_
  obtain ⟨a1, h2, h⟩ := Option.bind_eq_some_iff.mp h
  obtain ⟨p3, h4, h⟩ := Option.bind_eq_some_iff.mp h
  refine j_callV C (As := []) (st := []) (sk' := [.int p3.1]) mk_row_size (Or.inl T_220) T_221 T_222 (ci := 1) rfl h2 (rc_le hF (by decide)) (rc_le hL (by decide)) (cg_row_size h4) rfl rfl (by decide) d_rec_saidBy_1 rfl rfl ?_
  refine j_bipush (v := 12) C d_rec_saidBy_4 rfl (by decide) ?_
  refine j_icmp_lt (tgt := 18) C d_rec_saidBy_6 (by decide) rfl (fun c5 => ?_) (fun c5 => ?_)
  · rw [if_pos c5] at h
    refine rc_J.sub (lv' := []) [] rfl ?_
    exact k_rec_saidBy_18 hF hL hN C E h
  · rw [if_neg c5] at h
    refine j_aload_n C d_rec_saidBy_9 rfl 0 rfl ?_
    refine j_iconst (v := 4) C d_rec_saidBy_10 rfl (by decide) ?_
    obtain ⟨a6, h7, h⟩ := Option.bind_eq_some_iff.mp h
    obtain ⟨p8, h9, h⟩ := Option.bind_eq_some_iff.mp h
    refine j_callV C (As := [.int 4]) (st := []) (sk' := [.int p8.1]) mk_row_wordAt (Or.inl T_678) T_483 T_484 (ci := 1) rfl h7 (rc_le hF (by decide)) (rc_le hL (by decide)) (cg_row_wordAt h9) rfl rfl (by decide) d_rec_saidBy_11 rfl rfl ?_
    refine j_iconst (v := 1) C d_rec_saidBy_14 rfl (by decide) ?_
    refine j_icmp_eq (tgt := 20) C d_rec_saidBy_15 (by decide) rfl (fun c10 => ?_) (fun c10 => ?_)
    · rw [if_pos c10] at h
      refine j_aload_n C d_rec_saidBy_20 rfl 0 rfl ?_
      refine j_bipush (v := 8) C d_rec_saidBy_21 rfl (by decide) ?_
      obtain ⟨a11, h12, h⟩ := Option.bind_eq_some_iff.mp h
      obtain ⟨p13, h14, h⟩ := Option.bind_eq_some_iff.mp h
      refine j_callV C (As := [.int 8]) (st := []) (sk' := [.int p13.1]) mk_row_wordAt (Or.inl T_678) T_483 T_484 (ci := 1) rfl h12 (rc_le hF (by decide)) (rc_le hL (by decide)) (cg_row_wordAt h14) rfl rfl (by decide) d_rec_saidBy_23 rfl rfl ?_
      by_cases c15 : p13.1 = 0
      · rw [if_pos c15] at h
        refine j_lookup C d_rec_saidBy_26 (tgt := 52) (off := 26) (by decide) (by rw [c15]; first | done | rfl) (by decide) ?_
        refine j_aload_n C d_rec_saidBy_52 rfl 0 rfl ?_
        obtain ⟨p16, h17, h⟩ := Option.bind_eq_some_iff.mp h
        refine j_callS C (As := [va_rf r0]) (st := []) (sk' := [.int p16.1]) mk_rec_saidByAccepted (Or.inl T_694) T_695 (rc_le hF (by decide)) (rc_le hL (by decide)) (ct_rec_saidByAccepted h17) rfl rfl (by decide) d_rec_saidBy_53 rfl rfl ?_
        cases h
        exact j_iret C E d_rec_saidBy_56
      · rw [if_neg c15] at h
        by_cases c18 : p13.1 = 1
        · rw [if_pos c18] at h
          refine j_lookup C d_rec_saidBy_26 (tgt := 57) (off := 31) (by decide) (by rw [c18]; first | done | rfl) (by decide) ?_
          refine j_aload_n C d_rec_saidBy_57 rfl 0 rfl ?_
          obtain ⟨p19, h20, h⟩ := Option.bind_eq_some_iff.mp h
          refine j_callS C (As := [va_rf r0]) (st := []) (sk' := [.int p19.1]) mk_rec_saidByRefused (Or.inl T_697) T_698 (rc_le hF (by decide)) (rc_le hL (by decide)) (ct_rec_saidByRefused h20) rfl rfl (by decide) d_rec_saidBy_58 rfl rfl ?_
          cases h
          exact j_iret C E d_rec_saidBy_61
        · rw [if_neg c18] at h
          refine j_lookup C d_rec_saidBy_26 (tgt := 62) (off := 36) (by decide) (by rw [lv_osw c15 (by decide), lv_osw c18 (by decide)]; first | done | rfl) (by decide) ?_
          refine j_iconst (v := (-1)) C d_rec_saidBy_62 rfl (by decide) ?_
          cases h
          exact j_iret C E d_rec_saidBy_63
    · rw [if_neg c10] at h
      refine rc_J.sub (lv' := []) [] rfl ?_
      exact k_rec_saidBy_18 hF hL hN C E h

set_option maxRecDepth 100000 in
set_option maxHeartbeats 4000000 in
theorem ct_rec_placeOfTape {l : Launch} {G : rc_G} {w : rc_M} {a0 : Nat} {res : Int32 × rc_M} (h : f_rec_placeOfTape w a0 = some res) : rc_Ct l G y_rec_placeOfTape prog_1_method_25_code 1 (some .int) 3 69 [va_rf (some a0)] w (some (.int res.1)) res.2 := by
  refine rc_enter (by decide +kernel) (by simp [lg_sl, va_rf_cat, rc_cat_i, rc_cat_l]) ?_
  intro X _ _ hN hF hL C E
  have hlv : lv_args 0 [va_rf (some a0)] = [(0, va_rf (some a0))] := by simp [lv_args, va_rf_cat, rc_cat_i, rc_cat_l]
  rw [hlv]
  clear hlv
  unfold f_rec_placeOfTape at h
  refine j_aload_n C d_rec_placeOfTape_0 rfl 0 rfl ?_
  obtain ⟨v1, h2, h⟩ := Option.bind_eq_some_iff.mp h
  refine j_getR C fl_rec_29 h2 d_rec_placeOfTape_1 rfl ?_
  obtain ⟨v3, h4, h⟩ := Option.bind_eq_some_iff.mp h
  refine j_getR C fl_rec_153 h4 d_rec_placeOfTape_4 rfl ?_
  refine j_aload_n C d_rec_placeOfTape_7 rfl 0 rfl ?_
  obtain ⟨v5, h6, h⟩ := Option.bind_eq_some_iff.mp h
  refine j_getR C fl_rec_10 h6 d_rec_placeOfTape_8 rfl ?_
  refine j_iconst (v := 0) C d_rec_placeOfTape_11 rfl (by decide) ?_
  refine j_aload_n C d_rec_placeOfTape_12 rfl 0 rfl ?_
  obtain ⟨v7, h8, h⟩ := Option.bind_eq_some_iff.mp h
  refine j_getR C fl_rec_10 h8 d_rec_placeOfTape_13 rfl ?_
  obtain ⟨a9, h10, h⟩ := Option.bind_eq_some_iff.mp h
  obtain ⟨p11, h12, h⟩ := Option.bind_eq_some_iff.mp h
  refine j_callV C (As := []) (st := [.int 0, va_rf v5, va_rf v3]) (sk' := [.int p11.1, .int 0, va_rf v5, va_rf v3]) mk_row_size (Or.inl T_220) T_221 T_222 (ci := 1) rfl h10 (rc_le hF (by decide)) (rc_le hL (by decide)) (cg_row_size h12) rfl rfl (by simp [va_rf_cat, rc_cat_i, rc_cat_l]) d_rec_placeOfTape_16 rfl rfl ?_
  obtain ⟨a13, h14, h⟩ := Option.bind_eq_some_iff.mp h
  obtain ⟨p15, h16, h⟩ := Option.bind_eq_some_iff.mp h
  refine j_callV C (As := [va_rf v5, .int 0, .int p11.1]) (st := []) (sk' := [.int p15.1]) mk_map_placeOf (Or.inl T_264) T_265 T_266 (ci := 3) rfl h14 (rc_le hF (by decide)) (rc_le hL (by decide)) (ct_map_placeOf h16) rfl rfl (by decide) d_rec_placeOfTape_19 rfl rfl ?_
  cases h
  exact j_iret C E d_rec_placeOfTape_22

set_option maxRecDepth 100000 in
set_option maxHeartbeats 4000000 in
theorem ct_rec_value {l : Launch} {G : rc_G} {w : rc_M} {a0 : Nat} {res : Int64 × rc_M} (h : f_rec_value w a0 = some res) : rc_Ct l G y_rec_value prog_1_method_13_code 1 (some .long) 4 89 [va_rf (some a0)] w (some (.long res.1)) res.2 := by
  refine rc_enter (by decide +kernel) (by simp [lg_sl, va_rf_cat, rc_cat_i, rc_cat_l]) ?_
  intro X _ _ hN hF hL C E
  have hlv : lv_args 0 [va_rf (some a0)] = [(0, va_rf (some a0))] := by simp [lv_args, va_rf_cat, rc_cat_i, rc_cat_l]
  rw [hlv]
  clear hlv
  unfold f_rec_value at h
  refine j_aload_n C d_rec_value_0 rfl 0 rfl ?_
  obtain ⟨v1, h2, h⟩ := Option.bind_eq_some_iff.mp h
  refine j_getR C fl_rec_29 h2 d_rec_value_1 rfl ?_
  obtain ⟨v3, h4, h⟩ := Option.bind_eq_some_iff.mp h
  refine j_getR C fl_rec_153 h4 d_rec_value_4 rfl ?_
  refine j_aload_n C d_rec_value_7 rfl 0 rfl ?_
  obtain ⟨a5, h6, h⟩ := Option.bind_eq_some_iff.mp h
  obtain ⟨p7, h8, h⟩ := Option.bind_eq_some_iff.mp h
  refine j_callV C (As := []) (st := [va_rf v3]) (sk' := [.int p7.1, va_rf v3]) mk_rec_placeOfTape (Or.inl T_260) T_262 S_4 (ci := 0) rfl h6 (rc_le hF (by decide)) (rc_le hL (by decide)) (ct_rec_placeOfTape h8) rfl rfl (by simp [va_rf_cat, rc_cat_i, rc_cat_l]) d_rec_value_8 rfl rfl ?_
  obtain ⟨a9, h10, h⟩ := Option.bind_eq_some_iff.mp h
  obtain ⟨p11, h12, h⟩ := Option.bind_eq_some_iff.mp h
  refine j_callV C (As := [.int p7.1]) (st := []) (sk' := [.long p11.1]) mk_map_valueAt (Or.inl T_276) T_277 T_278 (ci := 3) rfl h10 (rc_le hF (by decide)) (rc_le hL (by decide)) (ct_map_valueAt h12) rfl rfl (by decide) d_rec_value_11 rfl rfl ?_
  cases h
  exact j_lret C E d_rec_value_14

set_option maxRecDepth 100000 in
set_option maxHeartbeats 4000000 in
theorem k_rec_has_13 {X : rc_X} {w0 : rc_M} (hF : (q_R X).frames = 4) (hL : (q_R X).locals = 89) (hN : q_n X = 1) (C : rc_C X "RecordCalls" prog_1_method_14_code w0) {res : Int32 × rc_M} (E : rc_E0 X y_rec_has (some .boolean) (some (.int res.1)) res.2) {w : rc_M} {s0 : Int32} (h : b_rec_has_13 w s0 = some res) : rc_J X w 13 [.int s0] [] := by
  unfold b_rec_has_13 at h
  obtain ⟨hz, rfl⟩ := rc_z1_spec h
  exact j_zret C hz E d_rec_has_13

set_option maxRecDepth 100000 in
set_option maxHeartbeats 4000000 in
theorem ct_rec_has {l : Launch} {G : rc_G} {w : rc_M} {a0 : Nat} {res : Int32 × rc_M} (h : f_rec_has w a0 = some res) : rc_Ct l G y_rec_has prog_1_method_14_code 1 (some .boolean) 4 89 [va_rf (some a0)] w (some (.int res.1)) res.2 := by
  refine rc_enter (by decide +kernel) (by simp [lg_sl, va_rf_cat, rc_cat_i, rc_cat_l]) ?_
  intro X _ _ hN hF hL C E
  have hlv : lv_args 0 [va_rf (some a0)] = [(0, va_rf (some a0))] := by simp [lv_args, va_rf_cat, rc_cat_i, rc_cat_l]
  rw [hlv]
  clear hlv
  unfold f_rec_has at h
  refine j_aload_n C d_rec_has_0 rfl 0 rfl ?_
  obtain ⟨a1, h2, h⟩ := Option.bind_eq_some_iff.mp h
  obtain ⟨p3, h4, h⟩ := Option.bind_eq_some_iff.mp h
  refine j_callV C (As := []) (st := []) (sk' := [.int p3.1]) mk_rec_placeOfTape (Or.inl T_260) T_262 S_4 (ci := 0) rfl h2 (rc_le hF (by decide)) (rc_le hL (by decide)) (ct_rec_placeOfTape h4) rfl rfl (by decide) d_rec_has_1 rfl rfl ?_
  refine j_iconst (v := (-1)) C d_rec_has_4 rfl (by decide) ?_
  refine j_icmp_eq (tgt := 12) C d_rec_has_5 (by decide) rfl (fun c5 => ?_) (fun c5 => ?_)
  · rw [if_pos c5] at h
    refine j_iconst (v := 0) C d_rec_has_12 rfl (by decide) ?_
    refine rc_J.sub (lv' := []) [] rfl ?_
    exact k_rec_has_13 hF hL hN C E h
  · rw [if_neg c5] at h
    refine j_iconst (v := 1) C d_rec_has_8 rfl (by decide) ?_
    refine j_goto (tgt := 13) C d_rec_has_9 (by decide) ?_
    refine rc_J.sub (lv' := []) [] rfl ?_
    exact k_rec_has_13 hF hL hN C E h

