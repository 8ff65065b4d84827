def rc_exn : List String := ["java/lang/RuntimeException", "java/lang/Exception"]
set_option maxRecDepth 100000 in
theorem at_50 : ∀ a ∈ Bundle.ownAtoms0 "RecordCalls" 50 "java/lang/UnsupportedOperationException" rc_exn, a ∈ rc_tb ∨ a ∈ rc_st := by decide +kernel
set_option maxRecDepth 100000 in
theorem at_57 : ∀ a ∈ Bundle.ownAtoms0 "RecordCalls" 57 "java/lang/IllegalArgumentException" rc_exn, a ∈ rc_tb ∨ a ∈ rc_st := by decide +kernel
set_option maxRecDepth 100000 in
theorem at_109 : ∀ a ∈ Bundle.ownAtoms0 "RecordCalls" 109 "java/lang/IndexOutOfBoundsException" rc_exn, a ∈ rc_tb ∨ a ∈ rc_st := by decide +kernel
theorem fl_rec_33 : rc_FL "RecordCalls" 33 0 4 := ⟨by decide, by decide, Or.inl T_186⟩
theorem fl_rec_121 : rc_FL "RecordCalls" 121 5 0 := ⟨by decide, by decide, Or.inr T_162⟩
theorem fl_rec_124 : rc_FL "RecordCalls" 124 5 1 := ⟨by decide, by decide, Or.inr T_164⟩
theorem fl_rec_167 : rc_FL "RecordCalls" 167 2 3 := ⟨by decide, by decide, Or.inr T_93⟩
theorem fl_rec_170 : rc_FL "RecordCalls" 170 2 4 := ⟨by decide, by decide, Or.inr T_95⟩
theorem fl_rec_173 : rc_FL "RecordCalls" 173 2 5 := ⟨by decide, by decide, Or.inr T_97⟩
theorem d_rec_feed_0 : decode prog_1_method_2_code 0 = .ok (.aload_n 0, 1) := by decide +kernel
theorem d_rec_feed_1 : decode prog_1_method_2_code 1 = .ok (.getfield 10, 3) := by decide +kernel
theorem d_rec_feed_4 : decode prog_1_method_2_code 4 = .ok (.invokevirtual 44, 3) := by decide +kernel
theorem d_rec_feed_7 : decode prog_1_method_2_code 7 = .ok (.bipush 20, 2) := by decide +kernel
theorem d_rec_feed_9 : decode prog_1_method_2_code 9 = .ok (.iadd, 1) := by decide +kernel
theorem d_rec_feed_10 : decode prog_1_method_2_code 10 = .ok (.sipush 1600, 3) := by decide +kernel
theorem d_rec_feed_13 : decode prog_1_method_2_code 13 = .ok (.if_icmp .le 11, 3) := by decide +kernel
theorem d_rec_feed_16 : decode prog_1_method_2_code 16 = .ok (.new 48, 3) := by decide +kernel
theorem d_rec_feed_19 : decode prog_1_method_2_code 19 = .ok (.dup, 1) := by decide +kernel
theorem d_rec_feed_20 : decode prog_1_method_2_code 20 = .ok (.invokespecial 50, 3) := by decide +kernel
theorem d_rec_feed_23 : decode prog_1_method_2_code 23 = .ok (.athrow, 1) := by decide +kernel
theorem d_rec_feed_24 : decode prog_1_method_2_code 24 = .ok (.aload_n 0, 1) := by decide +kernel
theorem d_rec_feed_25 : decode prog_1_method_2_code 25 = .ok (.getfield 10, 3) := by decide +kernel
theorem d_rec_feed_28 : decode prog_1_method_2_code 28 = .ok (.iload_n 1, 1) := by decide +kernel
theorem d_rec_feed_29 : decode prog_1_method_2_code 29 = .ok (.invokevirtual 51, 3) := by decide +kernel
theorem d_rec_feed_32 : decode prog_1_method_2_code 32 = .ok (.aload_n 0, 1) := by decide +kernel
theorem d_rec_feed_33 : decode prog_1_method_2_code 33 = .ok (.getfield 10, 3) := by decide +kernel
theorem d_rec_feed_36 : decode prog_1_method_2_code 36 = .ok (.iload_n 2, 1) := by decide +kernel
theorem d_rec_feed_37 : decode prog_1_method_2_code 37 = .ok (.invokevirtual 51, 3) := by decide +kernel
theorem d_rec_feed_40 : decode prog_1_method_2_code 40 = .ok (.aload_n 0, 1) := by decide +kernel
theorem d_rec_feed_41 : decode prog_1_method_2_code 41 = .ok (.getfield 10, 3) := by decide +kernel
theorem d_rec_feed_44 : decode prog_1_method_2_code 44 = .ok (.iload_n 3, 1) := by decide +kernel
theorem d_rec_feed_45 : decode prog_1_method_2_code 45 = .ok (.invokevirtual 51, 3) := by decide +kernel
theorem d_rec_feed_48 : decode prog_1_method_2_code 48 = .ok (.aload_n 0, 1) := by decide +kernel
theorem d_rec_feed_49 : decode prog_1_method_2_code 49 = .ok (.getfield 10, 3) := by decide +kernel
theorem d_rec_feed_52 : decode prog_1_method_2_code 52 = .ok (.iload 4, 2) := by decide +kernel
theorem d_rec_feed_54 : decode prog_1_method_2_code 54 = .ok (.invokevirtual 51, 3) := by decide +kernel
theorem d_rec_feed_57 : decode prog_1_method_2_code 57 = .ok (.aload_n 0, 1) := by decide +kernel
theorem d_rec_feed_58 : decode prog_1_method_2_code 58 = .ok (.getfield 10, 3) := by decide +kernel
theorem d_rec_feed_61 : decode prog_1_method_2_code 61 = .ok (.iload 5, 2) := by decide +kernel
theorem d_rec_feed_63 : decode prog_1_method_2_code 63 = .ok (.invokevirtual 51, 3) := by decide +kernel
theorem d_rec_feed_66 : decode prog_1_method_2_code 66 = .ok (.aload_n 0, 1) := by decide +kernel
theorem d_rec_feed_67 : decode prog_1_method_2_code 67 = .ok (.getfield 10, 3) := by decide +kernel
theorem d_rec_feed_70 : decode prog_1_method_2_code 70 = .ok (.invokevirtual 44, 3) := by decide +kernel
theorem d_rec_feed_73 : decode prog_1_method_2_code 73 = .ok (.ireturn, 1) := by decide +kernel
theorem d_rec_end_0 : decode prog_1_method_3_code 0 = .ok (.iload_n 1, 1) := by decide +kernel
theorem d_rec_end_1 : decode prog_1_method_3_code 1 = .ok (.ifCond .lt 14, 3) := by decide +kernel
theorem d_rec_end_4 : decode prog_1_method_3_code 4 = .ok (.iload_n 1, 1) := by decide +kernel
theorem d_rec_end_5 : decode prog_1_method_3_code 5 = .ok (.aload_n 0, 1) := by decide +kernel
theorem d_rec_end_6 : decode prog_1_method_3_code 6 = .ok (.getfield 10, 3) := by decide +kernel
theorem d_rec_end_9 : decode prog_1_method_3_code 9 = .ok (.invokevirtual 44, 3) := by decide +kernel
theorem d_rec_end_12 : decode prog_1_method_3_code 12 = .ok (.if_icmp .le 11, 3) := by decide +kernel
theorem d_rec_end_15 : decode prog_1_method_3_code 15 = .ok (.new 55, 3) := by decide +kernel
theorem d_rec_end_18 : decode prog_1_method_3_code 18 = .ok (.dup, 1) := by decide +kernel
theorem d_rec_end_19 : decode prog_1_method_3_code 19 = .ok (.invokespecial 57, 3) := by decide +kernel
theorem d_rec_end_22 : decode prog_1_method_3_code 22 = .ok (.athrow, 1) := by decide +kernel
theorem d_rec_end_23 : decode prog_1_method_3_code 23 = .ok (.aload_n 0, 1) := by decide +kernel
theorem d_rec_end_24 : decode prog_1_method_3_code 24 = .ok (.getfield 10, 3) := by decide +kernel
theorem d_rec_end_27 : decode prog_1_method_3_code 27 = .ok (.iload_n 1, 1) := by decide +kernel
theorem d_rec_end_28 : decode prog_1_method_3_code 28 = .ok (.invokevirtual 58, 3) := by decide +kernel
theorem d_rec_end_31 : decode prog_1_method_3_code 31 = .ok (.return_, 1) := by decide +kernel
theorem d_rec_record_0 : decode prog_1_method_5_code 0 = .ok (.iload_n 1, 1) := by decide +kernel
theorem d_rec_record_1 : decode prog_1_method_5_code 1 = .ok (.iconst 1, 1) := by decide +kernel
theorem d_rec_record_2 : decode prog_1_method_5_code 2 = .ok (.if_icmp .lt 30, 3) := by decide +kernel
theorem d_rec_record_5 : decode prog_1_method_5_code 5 = .ok (.aload_n 0, 1) := by decide +kernel
theorem d_rec_record_6 : decode prog_1_method_5_code 6 = .ok (.getfield 10, 3) := by decide +kernel
theorem d_rec_record_9 : decode prog_1_method_5_code 9 = .ok (.invokevirtual 44, 3) := by decide +kernel
theorem d_rec_record_12 : decode prog_1_method_5_code 12 = .ok (.iconst 4, 1) := by decide +kernel
theorem d_rec_record_13 : decode prog_1_method_5_code 13 = .ok (.aload_n 0, 1) := by decide +kernel
theorem d_rec_record_14 : decode prog_1_method_5_code 14 = .ok (.getfield 10, 3) := by decide +kernel
theorem d_rec_record_17 : decode prog_1_method_5_code 17 = .ok (.invokevirtual 44, 3) := by decide +kernel
theorem d_rec_record_20 : decode prog_1_method_5_code 20 = .ok (.iload_n 1, 1) := by decide +kernel
theorem d_rec_record_21 : decode prog_1_method_5_code 21 = .ok (.invokestatic 72, 3) := by decide +kernel
theorem d_rec_record_24 : decode prog_1_method_5_code 24 = .ok (.imul, 1) := by decide +kernel
theorem d_rec_record_25 : decode prog_1_method_5_code 25 = .ok (.iadd, 1) := by decide +kernel
theorem d_rec_record_26 : decode prog_1_method_5_code 26 = .ok (.sipush 1600, 3) := by decide +kernel
theorem d_rec_record_29 : decode prog_1_method_5_code 29 = .ok (.if_icmp .le 11, 3) := by decide +kernel
theorem d_rec_record_32 : decode prog_1_method_5_code 32 = .ok (.new 55, 3) := by decide +kernel
theorem d_rec_record_35 : decode prog_1_method_5_code 35 = .ok (.dup, 1) := by decide +kernel
theorem d_rec_record_36 : decode prog_1_method_5_code 36 = .ok (.invokespecial 57, 3) := by decide +kernel
theorem d_rec_record_39 : decode prog_1_method_5_code 39 = .ok (.athrow, 1) := by decide +kernel
theorem d_rec_record_40 : decode prog_1_method_5_code 40 = .ok (.aload_n 0, 1) := by decide +kernel
theorem d_rec_record_41 : decode prog_1_method_5_code 41 = .ok (.invokevirtual 61, 3) := by decide +kernel
theorem d_rec_record_44 : decode prog_1_method_5_code 44 = .ok (.astore_n 2, 1) := by decide +kernel
theorem d_rec_record_45 : decode prog_1_method_5_code 45 = .ok (.aload_n 0, 1) := by decide +kernel
theorem d_rec_record_46 : decode prog_1_method_5_code 46 = .ok (.getfield 10, 3) := by decide +kernel
theorem d_rec_record_49 : decode prog_1_method_5_code 49 = .ok (.invokevirtual 44, 3) := by decide +kernel
theorem d_rec_record_52 : decode prog_1_method_5_code 52 = .ok (.istore_n 3, 1) := by decide +kernel
theorem d_rec_record_53 : decode prog_1_method_5_code 53 = .ok (.iload_n 3, 1) := by decide +kernel
theorem d_rec_record_54 : decode prog_1_method_5_code 54 = .ok (.iload_n 1, 1) := by decide +kernel
theorem d_rec_record_55 : decode prog_1_method_5_code 55 = .ok (.invokestatic 72, 3) := by decide +kernel
theorem d_rec_record_58 : decode prog_1_method_5_code 58 = .ok (.istore 4, 2) := by decide +kernel
theorem d_rec_record_60 : decode prog_1_method_5_code 60 = .ok (.iconst 0, 1) := by decide +kernel
theorem d_rec_record_61 : decode prog_1_method_5_code 61 = .ok (.istore 5, 2) := by decide +kernel
theorem d_rec_record_63 : decode prog_1_method_5_code 63 = .ok (.iconst 1, 1) := by decide +kernel
theorem d_rec_record_64 : decode prog_1_method_5_code 64 = .ok (.istore 6, 2) := by decide +kernel
theorem d_rec_record_66 : decode prog_1_method_5_code 66 = .ok (.iload 6, 2) := by decide +kernel
theorem d_rec_record_68 : decode prog_1_method_5_code 68 = .ok (.iload 4, 2) := by decide +kernel
theorem d_rec_record_70 : decode prog_1_method_5_code 70 = .ok (.if_icmp .gt 59, 3) := by decide +kernel
theorem d_rec_record_73 : decode prog_1_method_5_code 73 = .ok (.iload_n 1, 1) := by decide +kernel
theorem d_rec_record_74 : decode prog_1_method_5_code 74 = .ok (.iload_n 3, 1) := by decide +kernel
theorem d_rec_record_75 : decode prog_1_method_5_code 75 = .ok (.iload 5, 2) := by decide +kernel
theorem d_rec_record_77 : decode prog_1_method_5_code 77 = .ok (.isub, 1) := by decide +kernel
theorem d_rec_record_78 : decode prog_1_method_5_code 78 = .ok (.invokestatic 76, 3) := by decide +kernel
theorem d_rec_record_81 : decode prog_1_method_5_code 81 = .ok (.istore 7, 2) := by decide +kernel
theorem d_rec_record_83 : decode prog_1_method_5_code 83 = .ok (.aload_n 2, 1) := by decide +kernel
theorem d_rec_record_84 : decode prog_1_method_5_code 84 = .ok (.iload 6, 2) := by decide +kernel
theorem d_rec_record_86 : decode prog_1_method_5_code 86 = .ok (.iload 4, 2) := by decide +kernel
theorem d_rec_record_88 : decode prog_1_method_5_code 88 = .ok (.if_icmp .ne 11, 3) := by decide +kernel
theorem d_rec_record_91 : decode prog_1_method_5_code 91 = .ok (.ldc 81, 2) := by decide +kernel
theorem d_rec_record_93 : decode prog_1_method_5_code 93 = .ok (.iload 7, 2) := by decide +kernel
theorem d_rec_record_95 : decode prog_1_method_5_code 95 = .ok (.ior, 1) := by decide +kernel
theorem d_rec_record_96 : decode prog_1_method_5_code 96 = .ok (.goto 5, 3) := by decide +kernel
theorem d_rec_record_99 : decode prog_1_method_5_code 99 = .ok (.iload 7, 2) := by decide +kernel
theorem d_rec_record_101 : decode prog_1_method_5_code 101 = .ok (.invokevirtual 51, 3) := by decide +kernel
theorem d_rec_record_104 : decode prog_1_method_5_code 104 = .ok (.aload_n 2, 1) := by decide +kernel
theorem d_rec_record_105 : decode prog_1_method_5_code 105 = .ok (.aload_n 0, 1) := by decide +kernel
theorem d_rec_record_106 : decode prog_1_method_5_code 106 = .ok (.getfield 10, 3) := by decide +kernel
theorem d_rec_record_109 : decode prog_1_method_5_code 109 = .ok (.iload 5, 2) := by decide +kernel
theorem d_rec_record_111 : decode prog_1_method_5_code 111 = .ok (.iload 7, 2) := by decide +kernel
theorem d_rec_record_113 : decode prog_1_method_5_code 113 = .ok (.invokevirtual 65, 3) := by decide +kernel
theorem d_rec_record_116 : decode prog_1_method_5_code 116 = .ok (.iload 5, 2) := by decide +kernel
theorem d_rec_record_118 : decode prog_1_method_5_code 118 = .ok (.iload 7, 2) := by decide +kernel
theorem d_rec_record_120 : decode prog_1_method_5_code 120 = .ok (.iadd, 1) := by decide +kernel
theorem d_rec_record_121 : decode prog_1_method_5_code 121 = .ok (.istore 5, 2) := by decide +kernel
theorem d_rec_record_123 : decode prog_1_method_5_code 123 = .ok (.iinc 6 1, 3) := by decide +kernel
theorem d_rec_record_126 : decode prog_1_method_5_code 126 = .ok (.goto (-60), 3) := by decide +kernel
theorem d_rec_record_129 : decode prog_1_method_5_code 129 = .ok (.aload_n 0, 1) := by decide +kernel
theorem d_rec_record_130 : decode prog_1_method_5_code 130 = .ok (.invokevirtual 69, 3) := by decide +kernel
theorem d_rec_record_133 : decode prog_1_method_5_code 133 = .ok (.ireturn, 1) := by decide +kernel
theorem d_rec_call_0 : decode prog_1_method_6_code 0 = .ok (.aload_n 0, 1) := by decide +kernel
theorem d_rec_call_1 : decode prog_1_method_6_code 1 = .ok (.getfield 10, 3) := by decide +kernel
theorem d_rec_call_4 : decode prog_1_method_6_code 4 = .ok (.invokevirtual 44, 3) := by decide +kernel
theorem d_rec_call_7 : decode prog_1_method_6_code 7 = .ok (.bipush 16, 2) := by decide +kernel
theorem d_rec_call_9 : decode prog_1_method_6_code 9 = .ok (.if_icmp .le 11, 3) := by decide +kernel
theorem d_rec_call_12 : decode prog_1_method_6_code 12 = .ok (.new 55, 3) := by decide +kernel
theorem d_rec_call_15 : decode prog_1_method_6_code 15 = .ok (.dup, 1) := by decide +kernel
theorem d_rec_call_16 : decode prog_1_method_6_code 16 = .ok (.invokespecial 57, 3) := by decide +kernel
theorem d_rec_call_19 : decode prog_1_method_6_code 19 = .ok (.athrow, 1) := by decide +kernel
theorem d_rec_call_20 : decode prog_1_method_6_code 20 = .ok (.aload_n 0, 1) := by decide +kernel
theorem d_rec_call_21 : decode prog_1_method_6_code 21 = .ok (.getfield 36, 3) := by decide +kernel
theorem d_rec_call_24 : decode prog_1_method_6_code 24 = .ok (.invokevirtual 82, 3) := by decide +kernel
theorem d_rec_call_27 : decode prog_1_method_6_code 27 = .ok (.aload_n 0, 1) := by decide +kernel
theorem d_rec_call_28 : decode prog_1_method_6_code 28 = .ok (.getfield 36, 3) := by decide +kernel
theorem d_rec_call_31 : decode prog_1_method_6_code 31 = .ok (.iload_n 1, 1) := by decide +kernel
theorem d_rec_call_32 : decode prog_1_method_6_code 32 = .ok (.invokevirtual 51, 3) := by decide +kernel
theorem d_rec_call_35 : decode prog_1_method_6_code 35 = .ok (.aload_n 0, 1) := by decide +kernel
theorem d_rec_call_36 : decode prog_1_method_6_code 36 = .ok (.getfield 36, 3) := by decide +kernel
theorem d_rec_call_39 : decode prog_1_method_6_code 39 = .ok (.iconst 0, 1) := by decide +kernel
theorem d_rec_call_40 : decode prog_1_method_6_code 40 = .ok (.invokevirtual 51, 3) := by decide +kernel
theorem d_rec_call_43 : decode prog_1_method_6_code 43 = .ok (.aload_n 0, 1) := by decide +kernel
theorem d_rec_call_44 : decode prog_1_method_6_code 44 = .ok (.getfield 36, 3) := by decide +kernel
theorem d_rec_call_47 : decode prog_1_method_6_code 47 = .ok (.iconst 2, 1) := by decide +kernel
theorem d_rec_call_48 : decode prog_1_method_6_code 48 = .ok (.invokevirtual 51, 3) := by decide +kernel
theorem d_rec_call_51 : decode prog_1_method_6_code 51 = .ok (.aload_n 0, 1) := by decide +kernel
theorem d_rec_call_52 : decode prog_1_method_6_code 52 = .ok (.getfield 36, 3) := by decide +kernel
theorem d_rec_call_55 : decode prog_1_method_6_code 55 = .ok (.ldc 85, 2) := by decide +kernel
theorem d_rec_call_57 : decode prog_1_method_6_code 57 = .ok (.invokevirtual 51, 3) := by decide +kernel
theorem d_rec_call_60 : decode prog_1_method_6_code 60 = .ok (.aload_n 0, 1) := by decide +kernel
theorem d_rec_call_61 : decode prog_1_method_6_code 61 = .ok (.getfield 36, 3) := by decide +kernel
theorem d_rec_call_64 : decode prog_1_method_6_code 64 = .ok (.iload_n 2, 1) := by decide +kernel
theorem d_rec_call_65 : decode prog_1_method_6_code 65 = .ok (.invokevirtual 51, 3) := by decide +kernel
theorem d_rec_call_68 : decode prog_1_method_6_code 68 = .ok (.aload_n 0, 1) := by decide +kernel
theorem d_rec_call_69 : decode prog_1_method_6_code 69 = .ok (.getfield 36, 3) := by decide +kernel
theorem d_rec_call_72 : decode prog_1_method_6_code 72 = .ok (.iload_n 3, 1) := by decide +kernel
theorem d_rec_call_73 : decode prog_1_method_6_code 73 = .ok (.invokevirtual 51, 3) := by decide +kernel
theorem d_rec_call_76 : decode prog_1_method_6_code 76 = .ok (.aload_n 0, 1) := by decide +kernel
theorem d_rec_call_77 : decode prog_1_method_6_code 77 = .ok (.getfield 36, 3) := by decide +kernel
theorem d_rec_call_80 : decode prog_1_method_6_code 80 = .ok (.invokestatic 86, 3) := by decide +kernel
theorem d_rec_call_83 : decode prog_1_method_6_code 83 = .ok (.aload_n 0, 1) := by decide +kernel
theorem d_rec_call_84 : decode prog_1_method_6_code 84 = .ok (.getfield 36, 3) := by decide +kernel
theorem d_rec_call_87 : decode prog_1_method_6_code 87 = .ok (.invokestatic 86, 3) := by decide +kernel
theorem d_rec_call_90 : decode prog_1_method_6_code 90 = .ok (.aload_n 0, 1) := by decide +kernel
theorem d_rec_call_91 : decode prog_1_method_6_code 91 = .ok (.getfield 36, 3) := by decide +kernel
theorem d_rec_call_94 : decode prog_1_method_6_code 94 = .ok (.aload_n 0, 1) := by decide +kernel
theorem d_rec_call_95 : decode prog_1_method_6_code 95 = .ok (.getfield 10, 3) := by decide +kernel
theorem d_rec_call_98 : decode prog_1_method_6_code 98 = .ok (.iconst 0, 1) := by decide +kernel
theorem d_rec_call_99 : decode prog_1_method_6_code 99 = .ok (.aload_n 0, 1) := by decide +kernel
theorem d_rec_call_100 : decode prog_1_method_6_code 100 = .ok (.getfield 10, 3) := by decide +kernel
theorem d_rec_call_103 : decode prog_1_method_6_code 103 = .ok (.invokevirtual 44, 3) := by decide +kernel
theorem d_rec_call_106 : decode prog_1_method_6_code 106 = .ok (.invokevirtual 90, 3) := by decide +kernel
theorem d_rec_call_109 : decode prog_1_method_6_code 109 = .ok (.iload 4, 2) := by decide +kernel
theorem d_rec_call_111 : decode prog_1_method_6_code 111 = .ok (.ifCond .eq 12, 3) := by decide +kernel
theorem d_rec_call_114 : decode prog_1_method_6_code 114 = .ok (.aload_n 0, 1) := by decide +kernel
theorem d_rec_call_115 : decode prog_1_method_6_code 115 = .ok (.getfield 36, 3) := by decide +kernel
theorem d_rec_call_118 : decode prog_1_method_6_code 118 = .ok (.lload 5, 2) := by decide +kernel
theorem d_rec_call_120 : decode prog_1_method_6_code 120 = .ok (.invokevirtual 93, 3) := by decide +kernel
theorem d_rec_call_123 : decode prog_1_method_6_code 123 = .ok (.aload_n 0, 1) := by decide +kernel
theorem d_rec_call_124 : decode prog_1_method_6_code 124 = .ok (.aload_n 0, 1) := by decide +kernel
theorem d_rec_call_125 : decode prog_1_method_6_code 125 = .ok (.getfield 36, 3) := by decide +kernel
theorem d_rec_call_128 : decode prog_1_method_6_code 128 = .ok (.invokevirtual 97, 3) := by decide +kernel
theorem d_rec_call_131 : decode prog_1_method_6_code 131 = .ok (.aload_n 0, 1) := by decide +kernel
theorem d_rec_call_132 : decode prog_1_method_6_code 132 = .ok (.invokevirtual 69, 3) := by decide +kernel
theorem d_rec_call_135 : decode prog_1_method_6_code 135 = .ok (.ireturn, 1) := by decide +kernel
theorem d_rec_push_0 : decode prog_1_method_7_code 0 = .ok (.iload_n 1, 1) := by decide +kernel
theorem d_rec_push_1 : decode prog_1_method_7_code 1 = .ok (.invokestatic 100, 3) := by decide +kernel
theorem d_rec_push_4 : decode prog_1_method_7_code 4 = .ok (.ifCond .eq 11, 3) := by decide +kernel
theorem d_rec_push_7 : decode prog_1_method_7_code 7 = .ok (.aload_n 0, 1) := by decide +kernel
theorem d_rec_push_8 : decode prog_1_method_7_code 8 = .ok (.iload_n 2, 1) := by decide +kernel
theorem d_rec_push_9 : decode prog_1_method_7_code 9 = .ok (.invokevirtual 104, 3) := by decide +kernel
theorem d_rec_push_12 : decode prog_1_method_7_code 12 = .ok (.ifCond .ne 11, 3) := by decide +kernel
theorem d_rec_push_15 : decode prog_1_method_7_code 15 = .ok (.new 107, 3) := by decide +kernel
theorem d_rec_push_18 : decode prog_1_method_7_code 18 = .ok (.dup, 1) := by decide +kernel
theorem d_rec_push_19 : decode prog_1_method_7_code 19 = .ok (.invokespecial 109, 3) := by decide +kernel
theorem d_rec_push_22 : decode prog_1_method_7_code 22 = .ok (.athrow, 1) := by decide +kernel
theorem d_rec_push_23 : decode prog_1_method_7_code 23 = .ok (.aload_n 0, 1) := by decide +kernel
theorem d_rec_push_24 : decode prog_1_method_7_code 24 = .ok (.iload_n 2, 1) := by decide +kernel
theorem d_rec_push_25 : decode prog_1_method_7_code 25 = .ok (.invokevirtual 110, 3) := by decide +kernel
theorem d_rec_push_28 : decode prog_1_method_7_code 28 = .ok (.astore 5, 2) := by decide +kernel
theorem d_rec_push_30 : decode prog_1_method_7_code 30 = .ok (.iload 4, 2) := by decide +kernel
theorem d_rec_push_32 : decode prog_1_method_7_code 32 = .ok (.ifCond .lt 19, 3) := by decide +kernel
theorem d_rec_push_35 : decode prog_1_method_7_code 35 = .ok (.iload_n 3, 1) := by decide +kernel
theorem d_rec_push_36 : decode prog_1_method_7_code 36 = .ok (.ifCond .lt 15, 3) := by decide +kernel
theorem d_rec_push_39 : decode prog_1_method_7_code 39 = .ok (.iload_n 3, 1) := by decide +kernel
theorem d_rec_push_40 : decode prog_1_method_7_code 40 = .ok (.aload 5, 2) := by decide +kernel
theorem d_rec_push_42 : decode prog_1_method_7_code 42 = .ok (.invokevirtual 44, 3) := by decide +kernel
theorem d_rec_push_45 : decode prog_1_method_7_code 45 = .ok (.iload 4, 2) := by decide +kernel
theorem d_rec_push_47 : decode prog_1_method_7_code 47 = .ok (.isub, 1) := by decide +kernel
theorem d_rec_push_48 : decode prog_1_method_7_code 48 = .ok (.if_icmp .le 11, 3) := by decide +kernel
theorem d_rec_push_51 : decode prog_1_method_7_code 51 = .ok (.new 107, 3) := by decide +kernel
theorem d_rec_push_54 : decode prog_1_method_7_code 54 = .ok (.dup, 1) := by decide +kernel
theorem d_rec_push_55 : decode prog_1_method_7_code 55 = .ok (.invokespecial 109, 3) := by decide +kernel
theorem d_rec_push_58 : decode prog_1_method_7_code 58 = .ok (.athrow, 1) := by decide +kernel
theorem d_rec_push_59 : decode prog_1_method_7_code 59 = .ok (.aload_n 0, 1) := by decide +kernel
theorem d_rec_push_60 : decode prog_1_method_7_code 60 = .ok (.getfield 33, 3) := by decide +kernel
theorem d_rec_push_63 : decode prog_1_method_7_code 63 = .ok (.invokevirtual 82, 3) := by decide +kernel
theorem d_rec_push_66 : decode prog_1_method_7_code 66 = .ok (.aload_n 0, 1) := by decide +kernel
theorem d_rec_push_67 : decode prog_1_method_7_code 67 = .ok (.getfield 33, 3) := by decide +kernel
theorem d_rec_push_70 : decode prog_1_method_7_code 70 = .ok (.aload 5, 2) := by decide +kernel
theorem d_rec_push_72 : decode prog_1_method_7_code 72 = .ok (.iload_n 3, 1) := by decide +kernel
theorem d_rec_push_73 : decode prog_1_method_7_code 73 = .ok (.iload 4, 2) := by decide +kernel
theorem d_rec_push_75 : decode prog_1_method_7_code 75 = .ok (.invokevirtual 65, 3) := by decide +kernel
theorem d_rec_push_78 : decode prog_1_method_7_code 78 = .ok (.aload_n 0, 1) := by decide +kernel
theorem d_rec_push_79 : decode prog_1_method_7_code 79 = .ok (.getfield 22, 3) := by decide +kernel
theorem d_rec_push_82 : decode prog_1_method_7_code 82 = .ok (.iload_n 1, 1) := by decide +kernel
theorem d_rec_push_83 : decode prog_1_method_7_code 83 = .ok (.aaload, 1) := by decide +kernel
theorem d_rec_push_84 : decode prog_1_method_7_code 84 = .ok (.astore 6, 2) := by decide +kernel
theorem d_rec_push_86 : decode prog_1_method_7_code 86 = .ok (.iconst 0, 1) := by decide +kernel
theorem d_rec_push_87 : decode prog_1_method_7_code 87 = .ok (.istore 7, 2) := by decide +kernel
theorem d_rec_push_89 : decode prog_1_method_7_code 89 = .ok (.iconst 0, 1) := by decide +kernel
theorem d_rec_push_90 : decode prog_1_method_7_code 90 = .ok (.istore 8, 2) := by decide +kernel
theorem d_rec_push_92 : decode prog_1_method_7_code 92 = .ok (.iload 8, 2) := by decide +kernel
theorem d_rec_push_94 : decode prog_1_method_7_code 94 = .ok (.iload 4, 2) := by decide +kernel
theorem d_rec_push_96 : decode prog_1_method_7_code 96 = .ok (.if_icmp .ge 61, 3) := by decide +kernel
theorem d_rec_push_99 : decode prog_1_method_7_code 99 = .ok (.aload 6, 2) := by decide +kernel
theorem d_rec_push_101 : decode prog_1_method_7_code 101 = .ok (.aload_n 0, 1) := by decide +kernel
theorem d_rec_push_102 : decode prog_1_method_7_code 102 = .ok (.getfield 33, 3) := by decide +kernel
theorem d_rec_push_105 : decode prog_1_method_7_code 105 = .ok (.iload 8, 2) := by decide +kernel
theorem d_rec_push_107 : decode prog_1_method_7_code 107 = .ok (.invokevirtual 114, 3) := by decide +kernel
theorem d_rec_push_110 : decode prog_1_method_7_code 110 = .ok (.invokevirtual 118, 3) := by decide +kernel
theorem d_rec_push_113 : decode prog_1_method_7_code 113 = .ok (.ifCond .eq 38, 3) := by decide +kernel
theorem d_rec_push_116 : decode prog_1_method_7_code 116 = .ok (.aload_n 0, 1) := by decide +kernel
theorem d_rec_push_117 : decode prog_1_method_7_code 117 = .ok (.getfield 29, 3) := by decide +kernel
theorem d_rec_push_120 : decode prog_1_method_7_code 120 = .ok (.aload 6, 2) := by decide +kernel
theorem d_rec_push_122 : decode prog_1_method_7_code 122 = .ok (.getfield 121, 3) := by decide +kernel
theorem d_rec_push_125 : decode prog_1_method_7_code 125 = .ok (.aload 6, 2) := by decide +kernel
theorem d_rec_push_127 : decode prog_1_method_7_code 127 = .ok (.getfield 124, 3) := by decide +kernel
theorem d_rec_push_130 : decode prog_1_method_7_code 130 = .ok (.invokevirtual 128, 3) := by decide +kernel
theorem d_rec_push_133 : decode prog_1_method_7_code 133 = .ok (.astore 9, 2) := by decide +kernel
theorem d_rec_push_135 : decode prog_1_method_7_code 135 = .ok (.aload 6, 2) := by decide +kernel
theorem d_rec_push_137 : decode prog_1_method_7_code 137 = .ok (.invokevirtual 132, 3) := by decide +kernel
theorem d_rec_push_140 : decode prog_1_method_7_code 140 = .ok (.iload 7, 2) := by decide +kernel
theorem d_rec_push_142 : decode prog_1_method_7_code 142 = .ok (.aload_n 0, 1) := by decide +kernel
theorem d_rec_push_143 : decode prog_1_method_7_code 143 = .ok (.aload 9, 2) := by decide +kernel
theorem d_rec_push_145 : decode prog_1_method_7_code 145 = .ok (.invokevirtual 135, 3) := by decide +kernel
theorem d_rec_push_148 : decode prog_1_method_7_code 148 = .ok (.iadd, 1) := by decide +kernel
theorem d_rec_push_149 : decode prog_1_method_7_code 149 = .ok (.istore 7, 2) := by decide +kernel
theorem d_rec_push_151 : decode prog_1_method_7_code 151 = .ok (.iinc 8 1, 3) := by decide +kernel
theorem d_rec_push_154 : decode prog_1_method_7_code 154 = .ok (.goto (-62), 3) := by decide +kernel
theorem d_rec_push_157 : decode prog_1_method_7_code 157 = .ok (.iload 7, 2) := by decide +kernel
theorem d_rec_push_159 : decode prog_1_method_7_code 159 = .ok (.ireturn, 1) := by decide +kernel
theorem d_rec_open_0 : decode prog_1_method_8_code 0 = .ok (.iload_n 1, 1) := by decide +kernel
theorem d_rec_open_1 : decode prog_1_method_8_code 1 = .ok (.invokestatic 100, 3) := by decide +kernel
theorem d_rec_open_4 : decode prog_1_method_8_code 4 = .ok (.ifCond .ne 11, 3) := by decide +kernel
theorem d_rec_open_7 : decode prog_1_method_8_code 7 = .ok (.new 107, 3) := by decide +kernel
theorem d_rec_open_10 : decode prog_1_method_8_code 10 = .ok (.dup, 1) := by decide +kernel
theorem d_rec_open_11 : decode prog_1_method_8_code 11 = .ok (.invokespecial 109, 3) := by decide +kernel
theorem d_rec_open_14 : decode prog_1_method_8_code 14 = .ok (.athrow, 1) := by decide +kernel
theorem d_rec_open_15 : decode prog_1_method_8_code 15 = .ok (.aload_n 0, 1) := by decide +kernel
theorem d_rec_open_16 : decode prog_1_method_8_code 16 = .ok (.getfield 22, 3) := by decide +kernel
theorem d_rec_open_19 : decode prog_1_method_8_code 19 = .ok (.iload_n 1, 1) := by decide +kernel
theorem d_rec_open_20 : decode prog_1_method_8_code 20 = .ok (.aaload, 1) := by decide +kernel
theorem d_rec_open_21 : decode prog_1_method_8_code 21 = .ok (.invokevirtual 139, 3) := by decide +kernel
theorem d_rec_open_24 : decode prog_1_method_8_code 24 = .ok (.ireturn, 1) := by decide +kernel
theorem d_rec_length_0 : decode prog_1_method_9_code 0 = .ok (.aload_n 0, 1) := by decide +kernel
theorem d_rec_length_1 : decode prog_1_method_9_code 1 = .ok (.iload_n 1, 1) := by decide +kernel
theorem d_rec_length_2 : decode prog_1_method_9_code 2 = .ok (.invokevirtual 104, 3) := by decide +kernel
theorem d_rec_length_5 : decode prog_1_method_9_code 5 = .ok (.ifCond .ne 11, 3) := by decide +kernel
theorem d_rec_length_8 : decode prog_1_method_9_code 8 = .ok (.new 107, 3) := by decide +kernel
theorem d_rec_length_11 : decode prog_1_method_9_code 11 = .ok (.dup, 1) := by decide +kernel
theorem d_rec_length_12 : decode prog_1_method_9_code 12 = .ok (.invokespecial 109, 3) := by decide +kernel
theorem d_rec_length_15 : decode prog_1_method_9_code 15 = .ok (.athrow, 1) := by decide +kernel
theorem d_rec_length_16 : decode prog_1_method_9_code 16 = .ok (.aload_n 0, 1) := by decide +kernel
theorem d_rec_length_17 : decode prog_1_method_9_code 17 = .ok (.iload_n 1, 1) := by decide +kernel
theorem d_rec_length_18 : decode prog_1_method_9_code 18 = .ok (.invokevirtual 110, 3) := by decide +kernel
theorem d_rec_length_21 : decode prog_1_method_9_code 21 = .ok (.invokevirtual 44, 3) := by decide +kernel
theorem d_rec_length_24 : decode prog_1_method_9_code 24 = .ok (.ireturn, 1) := by decide +kernel
theorem d_rec_byteAt_0 : decode prog_1_method_10_code 0 = .ok (.aload_n 0, 1) := by decide +kernel
theorem d_rec_byteAt_1 : decode prog_1_method_10_code 1 = .ok (.iload_n 1, 1) := by decide +kernel
theorem d_rec_byteAt_2 : decode prog_1_method_10_code 2 = .ok (.invokevirtual 104, 3) := by decide +kernel
theorem d_rec_byteAt_5 : decode prog_1_method_10_code 5 = .ok (.ifCond .eq 19, 3) := by decide +kernel
theorem d_rec_byteAt_8 : decode prog_1_method_10_code 8 = .ok (.iload_n 2, 1) := by decide +kernel
theorem d_rec_byteAt_9 : decode prog_1_method_10_code 9 = .ok (.ifCond .lt 15, 3) := by decide +kernel
theorem d_rec_byteAt_12 : decode prog_1_method_10_code 12 = .ok (.iload_n 2, 1) := by decide +kernel
theorem d_rec_byteAt_13 : decode prog_1_method_10_code 13 = .ok (.aload_n 0, 1) := by decide +kernel
theorem d_rec_byteAt_14 : decode prog_1_method_10_code 14 = .ok (.iload_n 1, 1) := by decide +kernel
theorem d_rec_byteAt_15 : decode prog_1_method_10_code 15 = .ok (.invokevirtual 110, 3) := by decide +kernel
theorem d_rec_byteAt_18 : decode prog_1_method_10_code 18 = .ok (.invokevirtual 44, 3) := by decide +kernel
theorem d_rec_byteAt_21 : decode prog_1_method_10_code 21 = .ok (.if_icmp .lt 11, 3) := by decide +kernel
theorem d_rec_byteAt_24 : decode prog_1_method_10_code 24 = .ok (.new 107, 3) := by decide +kernel
theorem d_rec_byteAt_27 : decode prog_1_method_10_code 27 = .ok (.dup, 1) := by decide +kernel
theorem d_rec_byteAt_28 : decode prog_1_method_10_code 28 = .ok (.invokespecial 109, 3) := by decide +kernel
theorem d_rec_byteAt_31 : decode prog_1_method_10_code 31 = .ok (.athrow, 1) := by decide +kernel
theorem d_rec_byteAt_32 : decode prog_1_method_10_code 32 = .ok (.aload_n 0, 1) := by decide +kernel
theorem d_rec_byteAt_33 : decode prog_1_method_10_code 33 = .ok (.iload_n 1, 1) := by decide +kernel
theorem d_rec_byteAt_34 : decode prog_1_method_10_code 34 = .ok (.invokevirtual 110, 3) := by decide +kernel
theorem d_rec_byteAt_37 : decode prog_1_method_10_code 37 = .ok (.iload_n 2, 1) := by decide +kernel
theorem d_rec_byteAt_38 : decode prog_1_method_10_code 38 = .ok (.invokevirtual 114, 3) := by decide +kernel
theorem d_rec_byteAt_41 : decode prog_1_method_10_code 41 = .ok (.ireturn, 1) := by decide +kernel
theorem d_rec_word_0 : decode prog_1_method_11_code 0 = .ok (.aload_n 0, 1) := by decide +kernel
theorem d_rec_word_1 : decode prog_1_method_11_code 1 = .ok (.iload_n 1, 1) := by decide +kernel
theorem d_rec_word_2 : decode prog_1_method_11_code 2 = .ok (.invokevirtual 104, 3) := by decide +kernel
theorem d_rec_word_5 : decode prog_1_method_11_code 5 = .ok (.ifCond .eq 21, 3) := by decide +kernel
theorem d_rec_word_8 : decode prog_1_method_11_code 8 = .ok (.iload_n 2, 1) := by decide +kernel
theorem d_rec_word_9 : decode prog_1_method_11_code 9 = .ok (.ifCond .lt 17, 3) := by decide +kernel
theorem d_rec_word_12 : decode prog_1_method_11_code 12 = .ok (.iload_n 2, 1) := by decide +kernel
theorem d_rec_word_13 : decode prog_1_method_11_code 13 = .ok (.aload_n 0, 1) := by decide +kernel
theorem d_rec_word_14 : decode prog_1_method_11_code 14 = .ok (.iload_n 1, 1) := by decide +kernel
theorem d_rec_word_15 : decode prog_1_method_11_code 15 = .ok (.invokevirtual 110, 3) := by decide +kernel
theorem d_rec_word_18 : decode prog_1_method_11_code 18 = .ok (.invokevirtual 44, 3) := by decide +kernel
theorem d_rec_word_21 : decode prog_1_method_11_code 21 = .ok (.iconst 4, 1) := by decide +kernel
theorem d_rec_word_22 : decode prog_1_method_11_code 22 = .ok (.isub, 1) := by decide +kernel
theorem d_rec_word_23 : decode prog_1_method_11_code 23 = .ok (.if_icmp .le 11, 3) := by decide +kernel
theorem d_rec_word_26 : decode prog_1_method_11_code 26 = .ok (.new 107, 3) := by decide +kernel
theorem d_rec_word_29 : decode prog_1_method_11_code 29 = .ok (.dup, 1) := by decide +kernel
theorem d_rec_word_30 : decode prog_1_method_11_code 30 = .ok (.invokespecial 109, 3) := by decide +kernel
theorem d_rec_word_33 : decode prog_1_method_11_code 33 = .ok (.athrow, 1) := by decide +kernel
theorem d_rec_word_34 : decode prog_1_method_11_code 34 = .ok (.aload_n 0, 1) := by decide +kernel
theorem d_rec_word_35 : decode prog_1_method_11_code 35 = .ok (.iload_n 1, 1) := by decide +kernel
theorem d_rec_word_36 : decode prog_1_method_11_code 36 = .ok (.invokevirtual 110, 3) := by decide +kernel
theorem d_rec_word_39 : decode prog_1_method_11_code 39 = .ok (.iload_n 2, 1) := by decide +kernel
theorem d_rec_word_40 : decode prog_1_method_11_code 40 = .ok (.invokevirtual 143, 3) := by decide +kernel
theorem d_rec_word_43 : decode prog_1_method_11_code 43 = .ok (.ireturn, 1) := by decide +kernel
theorem d_rec_says_0 : decode prog_1_method_12_code 0 = .ok (.aload_n 0, 1) := by decide +kernel
theorem d_rec_says_1 : decode prog_1_method_12_code 1 = .ok (.iload_n 1, 1) := by decide +kernel
theorem d_rec_says_2 : decode prog_1_method_12_code 2 = .ok (.invokevirtual 104, 3) := by decide +kernel
theorem d_rec_says_5 : decode prog_1_method_12_code 5 = .ok (.ifCond .ne 11, 3) := by decide +kernel
theorem d_rec_says_8 : decode prog_1_method_12_code 8 = .ok (.new 107, 3) := by decide +kernel
theorem d_rec_says_11 : decode prog_1_method_12_code 11 = .ok (.dup, 1) := by decide +kernel
theorem d_rec_says_12 : decode prog_1_method_12_code 12 = .ok (.invokespecial 109, 3) := by decide +kernel
theorem d_rec_says_15 : decode prog_1_method_12_code 15 = .ok (.athrow, 1) := by decide +kernel
theorem d_rec_says_16 : decode prog_1_method_12_code 16 = .ok (.aload_n 0, 1) := by decide +kernel
theorem d_rec_says_17 : decode prog_1_method_12_code 17 = .ok (.aload_n 0, 1) := by decide +kernel
theorem d_rec_says_18 : decode prog_1_method_12_code 18 = .ok (.iload_n 1, 1) := by decide +kernel
theorem d_rec_says_19 : decode prog_1_method_12_code 19 = .ok (.invokevirtual 110, 3) := by decide +kernel
theorem d_rec_says_22 : decode prog_1_method_12_code 22 = .ok (.invokevirtual 146, 3) := by decide +kernel
theorem d_rec_says_25 : decode prog_1_method_12_code 25 = .ok (.ifCond .ne 5, 3) := by decide +kernel
theorem d_rec_says_28 : decode prog_1_method_12_code 28 = .ok (.iconst (-1), 1) := by decide +kernel
theorem d_rec_says_29 : decode prog_1_method_12_code 29 = .ok (.ireturn, 1) := by decide +kernel
theorem d_rec_says_30 : decode prog_1_method_12_code 30 = .ok (.aload_n 0, 1) := by decide +kernel
theorem d_rec_says_31 : decode prog_1_method_12_code 31 = .ok (.getfield 36, 3) := by decide +kernel
theorem d_rec_says_34 : decode prog_1_method_12_code 34 = .ok (.invokestatic 150, 3) := by decide +kernel
theorem d_rec_says_37 : decode prog_1_method_12_code 37 = .ok (.istore_n 3, 1) := by decide +kernel
theorem d_rec_says_38 : decode prog_1_method_12_code 38 = .ok (.iload_n 3, 1) := by decide +kernel
theorem d_rec_says_39 : decode prog_1_method_12_code 39 = .ok (.iconst (-1), 1) := by decide +kernel
theorem d_rec_says_40 : decode prog_1_method_12_code 40 = .ok (.if_icmp .eq 15, 3) := by decide +kernel
theorem d_rec_says_43 : decode prog_1_method_12_code 43 = .ok (.aload_n 0, 1) := by decide +kernel
theorem d_rec_says_44 : decode prog_1_method_12_code 44 = .ok (.getfield 36, 3) := by decide +kernel
theorem d_rec_says_47 : decode prog_1_method_12_code 47 = .ok (.iconst 0, 1) := by decide +kernel
theorem d_rec_says_48 : decode prog_1_method_12_code 48 = .ok (.invokevirtual 143, 3) := by decide +kernel
theorem d_rec_says_51 : decode prog_1_method_12_code 51 = .ok (.iload_n 2, 1) := by decide +kernel
theorem d_rec_says_52 : decode prog_1_method_12_code 52 = .ok (.if_icmp .ne 5, 3) := by decide +kernel
theorem d_rec_says_55 : decode prog_1_method_12_code 55 = .ok (.iload_n 3, 1) := by decide +kernel
theorem d_rec_says_56 : decode prog_1_method_12_code 56 = .ok (.ireturn, 1) := by decide +kernel
theorem d_rec_says_57 : decode prog_1_method_12_code 57 = .ok (.bipush (-2), 2) := by decide +kernel
theorem d_rec_says_59 : decode prog_1_method_12_code 59 = .ok (.ireturn, 1) := by decide +kernel
theorem d_rec_count_0 : decode prog_1_method_15_code 0 = .ok (.iload_n 1, 1) := by decide +kernel
theorem d_rec_count_1 : decode prog_1_method_15_code 1 = .ok (.tableswitch 75 0 4 #[35, 40, 51, 59, 67], 35) := by decide +kernel
theorem d_rec_count_36 : decode prog_1_method_15_code 36 = .ok (.aload_n 0, 1) := by decide +kernel
theorem d_rec_count_37 : decode prog_1_method_15_code 37 = .ok (.getfield 39, 3) := by decide +kernel
theorem d_rec_count_40 : decode prog_1_method_15_code 40 = .ok (.ireturn, 1) := by decide +kernel
theorem d_rec_count_41 : decode prog_1_method_15_code 41 = .ok (.aload_n 0, 1) := by decide +kernel
theorem d_rec_count_42 : decode prog_1_method_15_code 42 = .ok (.getfield 29, 3) := by decide +kernel
theorem d_rec_count_45 : decode prog_1_method_15_code 45 = .ok (.getfield 153, 3) := by decide +kernel
theorem d_rec_count_48 : decode prog_1_method_15_code 48 = .ok (.invokevirtual 166, 3) := by decide +kernel
theorem d_rec_count_51 : decode prog_1_method_15_code 51 = .ok (.ireturn, 1) := by decide +kernel
theorem d_rec_count_52 : decode prog_1_method_15_code 52 = .ok (.aload_n 0, 1) := by decide +kernel
theorem d_rec_count_53 : decode prog_1_method_15_code 53 = .ok (.getfield 29, 3) := by decide +kernel
theorem d_rec_count_56 : decode prog_1_method_15_code 56 = .ok (.getfield 167, 3) := by decide +kernel
theorem d_rec_count_59 : decode prog_1_method_15_code 59 = .ok (.ireturn, 1) := by decide +kernel
theorem d_rec_count_60 : decode prog_1_method_15_code 60 = .ok (.aload_n 0, 1) := by decide +kernel
theorem d_rec_count_61 : decode prog_1_method_15_code 61 = .ok (.getfield 29, 3) := by decide +kernel
theorem d_rec_count_64 : decode prog_1_method_15_code 64 = .ok (.getfield 170, 3) := by decide +kernel
theorem d_rec_count_67 : decode prog_1_method_15_code 67 = .ok (.ireturn, 1) := by decide +kernel
theorem d_rec_count_68 : decode prog_1_method_15_code 68 = .ok (.aload_n 0, 1) := by decide +kernel
theorem d_rec_count_69 : decode prog_1_method_15_code 69 = .ok (.getfield 29, 3) := by decide +kernel
theorem d_rec_count_72 : decode prog_1_method_15_code 72 = .ok (.getfield 173, 3) := by decide +kernel
theorem d_rec_count_75 : decode prog_1_method_15_code 75 = .ok (.ireturn, 1) := by decide +kernel
theorem d_rec_count_76 : decode prog_1_method_15_code 76 = .ok (.iload_n 1, 1) := by decide +kernel
theorem d_rec_count_77 : decode prog_1_method_15_code 77 = .ok (.iconst 5, 1) := by decide +kernel
theorem d_rec_count_78 : decode prog_1_method_15_code 78 = .ok (.isub, 1) := by decide +kernel
theorem d_rec_count_79 : decode prog_1_method_15_code 79 = .ok (.istore_n 2, 1) := by decide +kernel
theorem d_rec_count_80 : decode prog_1_method_15_code 80 = .ok (.iload_n 2, 1) := by decide +kernel
theorem d_rec_count_81 : decode prog_1_method_15_code 81 = .ok (.invokestatic 100, 3) := by decide +kernel
theorem d_rec_count_84 : decode prog_1_method_15_code 84 = .ok (.ifCond .ne 11, 3) := by decide +kernel
theorem d_rec_count_87 : decode prog_1_method_15_code 87 = .ok (.new 55, 3) := by decide +kernel
theorem d_rec_count_90 : decode prog_1_method_15_code 90 = .ok (.dup, 1) := by decide +kernel
theorem d_rec_count_91 : decode prog_1_method_15_code 91 = .ok (.invokespecial 57, 3) := by decide +kernel
theorem d_rec_count_94 : decode prog_1_method_15_code 94 = .ok (.athrow, 1) := by decide +kernel
theorem d_rec_count_95 : decode prog_1_method_15_code 95 = .ok (.aload_n 0, 1) := by decide +kernel
theorem d_rec_count_96 : decode prog_1_method_15_code 96 = .ok (.getfield 22, 3) := by decide +kernel
theorem d_rec_count_99 : decode prog_1_method_15_code 99 = .ok (.iload_n 2, 1) := by decide +kernel
theorem d_rec_count_100 : decode prog_1_method_15_code 100 = .ok (.aaload, 1) := by decide +kernel
theorem d_rec_count_101 : decode prog_1_method_15_code 101 = .ok (.invokevirtual 176, 3) := by decide +kernel
theorem d_rec_count_104 : decode prog_1_method_15_code 104 = .ok (.ireturn, 1) := by decide +kernel
def f_rec_feed (w : rc_M) (a0 : Nat) (x1 : Int32) (x2 : Int32) (x3 : Int32) (x4 : Int32) (x5 : Int32) : Option (Option Int32 × rc_M) :=
  (rc_gR w (some a0) 0 0).bind fun v1 =>
  (rc_rc w v1 1).bind fun a3 =>
  (g_row_size w a3).bind fun p5 =>
  if (p5.1 + 20) ≤ 1600 then
    (rc_gR p5.2 (some a0) 0 0).bind fun v8 =>
    (rc_rc p5.2 v8 1).bind fun a10 =>
    (g_row_addWord p5.2 a10 x1).bind fun w12 =>
    (rc_gR w12 (some a0) 0 0).bind fun v14 =>
    (rc_rc w12 v14 1).bind fun a16 =>
    (g_row_addWord w12 a16 x2).bind fun w18 =>
    (rc_gR w18 (some a0) 0 0).bind fun v20 =>
    (rc_rc w18 v20 1).bind fun a22 =>
    (g_row_addWord w18 a22 x3).bind fun w24 =>
    (rc_gR w24 (some a0) 0 0).bind fun v26 =>
    (rc_rc w24 v26 1).bind fun a28 =>
    (g_row_addWord w24 a28 x4).bind fun w30 =>
    (rc_gR w30 (some a0) 0 0).bind fun v32 =>
    (rc_rc w30 v32 1).bind fun a34 =>
    (g_row_addWord w30 a34 x5).bind fun w36 =>
    (rc_gR w36 (some a0) 0 0).bind fun v38 =>
    (rc_rc w36 v38 1).bind fun a40 =>
    (g_row_size w36 a40).bind fun p42 =>
    some (some p42.1, p42.2)
  else
    (rc_throw p5.2).bind fun w44 =>
    some (none, w44)

def b_rec_end_15 (w : rc_M) : Option (Option Unit × rc_M) :=
  (rc_throw w).bind fun w1 =>
  some (none, w1)

def f_rec_end (w : rc_M) (a0 : Nat) (x1 : Int32) : Option (Option Unit × rc_M) :=
  if x1 < 0 then
    b_rec_end_15 w 
  else
    (rc_gR w (some a0) 0 0).bind fun v2 =>
    (rc_rc w v2 1).bind fun a4 =>
    (g_row_size w a4).bind fun p6 =>
    if x1 ≤ p6.1 then
      (rc_gR p6.2 (some a0) 0 0).bind fun v9 =>
      (rc_rc p6.2 v9 1).bind fun a11 =>
      (g_row_cutTo p6.2 a11 x1).bind fun w13 =>
      some (some (), w13)
    else
      b_rec_end_15 p6.2 

def b_rec_record_32 (w : rc_M) : Option (Option Int32 × rc_M) :=
  (rc_throw w).bind fun w1 =>
  some (none, w1)

def b_rec_record_101 (k66 : rc_M → Nat → Int32 → Option Nat → Int32 → Int32 → Int32 → Int32 → Option (Option Int32 × rc_M)) (w : rc_M) (a0 : Nat) (x1 : Int32) (r2 : Option Nat) (x3 : Int32) (x4 : Int32) (x5 : Int32) (x6 : Int32) (x7 : Int32) (s0 : Option Nat) (s1 : Int32) : Option (Option Int32 × rc_M) :=
  (rc_rc w s0 1).bind fun a1 =>
  (g_row_addWord w a1 s1).bind fun w3 =>
  (rc_gR w3 (some a0) 0 0).bind fun v5 =>
  (rc_rc w3 r2 1).bind fun a7 =>
  (g_row_addPart w3 a7 v5 x5 x7).bind fun w9 =>
  k66 w9 a0 x1 r2 x3 x4 (x5 + x7) (x6 + 1)

def b_rec_record_66 : Nat → rc_M → Nat → Int32 → Option Nat → Int32 → Int32 → Int32 → Int32 → Option (Option Int32 × rc_M)
  | 0, _, _, _, _, _, _, _, _ => none
  | fuel + 1, w, a0, x1, r2, x3, x4, x5, x6 =>
    if x4 < x6 then
      (rc_rc w (some a0) 0).bind fun a2 =>
      (f_rec_tapeIsSlot w a2).bind fun p4 =>
      some (some p4.1, p4.2)
    else
      (f_mat_min w x1 (x3 - x5)).bind fun p6 =>
      if x6 = x4 then
        b_rec_record_101 (b_rec_record_66 fuel) p6.2 a0 x1 r2 x3 x4 x5 x6 p6.1 r2 (((-2147483648)) ||| p6.1)
      else
        b_rec_record_101 (b_rec_record_66 fuel) p6.2 a0 x1 r2 x3 x4 x5 x6 p6.1 r2 p6.1

def f_rec_record (w : rc_M) (a0 : Nat) (x1 : Int32) : Option (Option Int32 × rc_M) :=
  if x1 < 1 then
    b_rec_record_32 w 
  else
    (rc_gR w (some a0) 0 0).bind fun v2 =>
    (rc_rc w v2 1).bind fun a4 =>
    (g_row_size w a4).bind fun p6 =>
    (rc_gR p6.2 (some a0) 0 0).bind fun v8 =>
    (rc_rc p6.2 v8 1).bind fun a10 =>
    (g_row_size p6.2 a10).bind fun p12 =>
    (f_rec_fragments p12.2 p12.1 x1).bind fun p14 =>
    if (p6.1 + (4 * p14.1)) ≤ 1600 then
      (rc_rc p14.2 (some a0) 0).bind fun a17 =>
      (f_rec_newSlot p14.2 a17).bind fun p19 =>
      (rc_gR p19.2 (some a0) 0 0).bind fun v21 =>
      (rc_rc p19.2 v21 1).bind fun a23 =>
      (g_row_size p19.2 a23).bind fun p25 =>
      (f_rec_fragments p25.2 p25.1 x1).bind fun p27 =>
      b_rec_record_66 5000 p27.2 a0 x1 p19.1 p25.1 p27.1 0 1
    else
      b_rec_record_32 p14.2 

def b_rec_call_123 (w : rc_M) (a0 : Nat) : Option (Option Int32 × rc_M) :=
  (rc_gR w (some a0) 0 5).bind fun v1 =>
  (rc_rc w (some a0) 0).bind fun a3 =>
  (f_rec_addOneFragment w a3 v1).bind fun w5 =>
  (rc_rc w5 (some a0) 0).bind fun a7 =>
  (f_rec_tapeIsSlot w5 a7).bind fun p9 =>
  some (some p9.1, p9.2)

def f_rec_call (w : rc_M) (a0 : Nat) (x1 : Int32) (x2 : Int32) (x3 : Int32) (x4 : Int32) (x5 : Int64) : Option (Option Int32 × rc_M) :=
  (rc_gR w (some a0) 0 0).bind fun v1 =>
  (rc_rc w v1 1).bind fun a3 =>
  (g_row_size w a3).bind fun p5 =>
  if p5.1 ≤ 16 then
    (rc_gR p5.2 (some a0) 0 5).bind fun v8 =>
    (rc_rc p5.2 v8 1).bind fun a10 =>
    (g_row_clear p5.2 a10).bind fun w12 =>
    (rc_gR w12 (some a0) 0 5).bind fun v14 =>
    (rc_rc w12 v14 1).bind fun a16 =>
    (g_row_addWord w12 a16 x1).bind fun w18 =>
    (rc_gR w18 (some a0) 0 5).bind fun v20 =>
    (rc_rc w18 v20 1).bind fun a22 =>
    (g_row_addWord w18 a22 0).bind fun w24 =>
    (rc_gR w24 (some a0) 0 5).bind fun v26 =>
    (rc_rc w24 v26 1).bind fun a28 =>
    (g_row_addWord w24 a28 2).bind fun w30 =>
    (rc_gR w30 (some a0) 0 5).bind fun v32 =>
    (rc_rc w30 v32 1).bind fun a34 =>
    (g_row_addWord w30 a34 400100).bind fun w36 =>
    (rc_gR w36 (some a0) 0 5).bind fun v38 =>
    (rc_rc w36 v38 1).bind fun a40 =>
    (g_row_addWord w36 a40 x2).bind fun w42 =>
    (rc_gR w42 (some a0) 0 5).bind fun v44 =>
    (rc_rc w42 v44 1).bind fun a46 =>
    (g_row_addWord w42 a46 x3).bind fun w48 =>
    (rc_gR w48 (some a0) 0 5).bind fun v50 =>
    (f_rec_addNobody w48 v50).bind fun w52 =>
    (rc_gR w52 (some a0) 0 5).bind fun v54 =>
    (f_rec_addNobody w52 v54).bind fun w56 =>
    (rc_gR w56 (some a0) 0 5).bind fun v58 =>
    (rc_gR w56 (some a0) 0 0).bind fun v60 =>
    (rc_gR w56 (some a0) 0 0).bind fun v62 =>
    (rc_rc w56 v62 1).bind fun a64 =>
    (g_row_size w56 a64).bind fun p66 =>
    (rc_rc p66.2 v58 1).bind fun a68 =>
    (g_row_addBytes p66.2 a68 v60 0 p66.1).bind fun w70 =>
    if x4 = 0 then
      b_rec_call_123 w70 a0
    else
      (rc_gR w70 (some a0) 0 5).bind fun v73 =>
      (rc_rc w70 v73 1).bind fun a75 =>
      (g_row_addLong w70 a75 x5).bind fun w77 =>
      b_rec_call_123 w77 a0
  else
    (rc_throw p5.2).bind fun w79 =>
    some (none, w79)

def b_rec_push_15 (w : rc_M) : Option (Option Int32 × rc_M) :=
  (rc_throw w).bind fun w1 =>
  some (none, w1)

def b_rec_push_51 (w : rc_M) : Option (Option Int32 × rc_M) :=
  (rc_throw w).bind fun w1 =>
  some (none, w1)

def b_rec_push_151 (k92 : rc_M → Nat → Int32 → Option Nat → Int32 → Int32 → Option (Option Int32 × rc_M)) (w : rc_M) (a0 : Nat) (x4 : Int32) (r6 : Option Nat) (x7 : Int32) (x8 : Int32) : Option (Option Int32 × rc_M) :=
  k92 w a0 x4 r6 x7 (x8 + 1)

def b_rec_push_92 : Nat → rc_M → Nat → Int32 → Option Nat → Int32 → Int32 → Option (Option Int32 × rc_M)
  | 0, _, _, _, _, _, _ => none
  | fuel + 1, w, a0, x4, r6, x7, x8 =>
    if x4 ≤ x8 then
      some (some x7, w)
    else
      (rc_gR w (some a0) 0 4).bind fun v2 =>
      (rc_rc w v2 1).bind fun a4 =>
      (g_row_at w a4 x8).bind fun p6 =>
      (rc_rc p6.2 r6 5).bind fun a8 =>
      (f_con_isWholeWith p6.2 a8 p6.1).bind fun p10 =>
      if p10.1 = 0 then
        b_rec_push_151 (b_rec_push_92 fuel) p10.2 a0 x4 r6 x7 x8
      else
        (rc_gR p10.2 (some a0) 0 3).bind fun v13 =>
        (rc_gR p10.2 r6 5 0).bind fun v15 =>
        (rc_gR p10.2 r6 5 1).bind fun v17 =>
        (rc_rc p10.2 v13 2).bind fun a19 =>
        (f_srv_replyTo p10.2 a19 v15 v17).bind fun p21 =>
        (rc_rc p21.2 r6 5).bind fun a23 =>
        (f_con_forgetRecord p21.2 a23).bind fun w25 =>
        (rc_rc w25 (some a0) 0).bind fun a27 =>
        (f_rec_addReply w25 a27 p21.1).bind fun p29 =>
        b_rec_push_151 (b_rec_push_92 fuel) p29.2 a0 x4 r6 (x7 + p29.1) x8

def f_rec_push (w : rc_M) (a0 : Nat) (x1 : Int32) (x2 : Int32) (x3 : Int32) (x4 : Int32) : Option (Option Int32 × rc_M) :=
  (f_rec_isConnection w x1).bind fun p1 =>
  if p1.1 = 0 then
    b_rec_push_15 p1.2 
  else
    (rc_rc p1.2 (some a0) 0).bind fun a4 =>
    (f_rec_isSlot p1.2 a4 x2).bind fun p6 =>
    if p6.1 = 0 then
      b_rec_push_15 p6.2 
    else
      (rc_rc p6.2 (some a0) 0).bind fun a9 =>
      (f_rec_slotRow p6.2 a9 x2).bind fun p11 =>
      if x4 < 0 then
        b_rec_push_51 p11.2 
      else
        if x3 < 0 then
          b_rec_push_51 p11.2 
        else
          (rc_rc p11.2 p11.1 1).bind fun a15 =>
          (g_row_size p11.2 a15).bind fun p17 =>
          if x3 ≤ (p17.1 - x4) then
            (rc_gR p17.2 (some a0) 0 4).bind fun v20 =>
            (rc_rc p17.2 v20 1).bind fun a22 =>
            (g_row_clear p17.2 a22).bind fun w24 =>
            (rc_gR w24 (some a0) 0 4).bind fun v26 =>
            (rc_rc w24 v26 1).bind fun a28 =>
            (g_row_addPart w24 a28 p11.1 x3 x4).bind fun w30 =>
            (rc_gR w30 (some a0) 0 2).bind fun v32 =>
            (rc_aR w30 v32 5 x1).bind fun v34 =>
            b_rec_push_92 5000 w30 a0 x4 v34 0 0
          else
            b_rec_push_51 p17.2 

def f_rec_open (w : rc_M) (a0 : Nat) (x1 : Int32) : Option (Option Int32 × rc_M) :=
  (f_rec_isConnection w x1).bind fun p1 =>
  if p1.1 = 0 then
    (rc_throw p1.2).bind fun w12 =>
    some (none, w12)
  else
    (rc_gR p1.2 (some a0) 0 2).bind fun v4 =>
    (rc_aR p1.2 v4 5 x1).bind fun v6 =>
    (rc_rc p1.2 v6 5).bind fun a8 =>
    (f_con_openAnew p1.2 a8).bind fun p10 =>
    rc_z1T p10.1 p10.2

def f_rec_length (w : rc_M) (a0 : Nat) (x1 : Int32) : Option (Option Int32 × rc_M) :=
  (rc_rc w (some a0) 0).bind fun a1 =>
  (f_rec_isSlot w a1 x1).bind fun p3 =>
  if p3.1 = 0 then
    (rc_throw p3.2).bind fun w14 =>
    some (none, w14)
  else
    (rc_rc p3.2 (some a0) 0).bind fun a6 =>
    (f_rec_slotRow p3.2 a6 x1).bind fun p8 =>
    (rc_rc p8.2 p8.1 1).bind fun a10 =>
    (g_row_size p8.2 a10).bind fun p12 =>
    some (some p12.1, p12.2)

def b_rec_byteAt_24 (w : rc_M) : Option (Option Int32 × rc_M) :=
  (rc_throw w).bind fun w1 =>
  some (none, w1)

def f_rec_byteAt (w : rc_M) (a0 : Nat) (x1 : Int32) (x2 : Int32) : Option (Option Int32 × rc_M) :=
  (rc_rc w (some a0) 0).bind fun a1 =>
  (f_rec_isSlot w a1 x1).bind fun p3 =>
  if p3.1 = 0 then
    b_rec_byteAt_24 p3.2 
  else
    if x2 < 0 then
      b_rec_byteAt_24 p3.2 
    else
      (rc_rc p3.2 (some a0) 0).bind fun a7 =>
      (f_rec_slotRow p3.2 a7 x1).bind fun p9 =>
      (rc_rc p9.2 p9.1 1).bind fun a11 =>
      (g_row_size p9.2 a11).bind fun p13 =>
      if x2 < p13.1 then
        (rc_rc p13.2 (some a0) 0).bind fun a16 =>
        (f_rec_slotRow p13.2 a16 x1).bind fun p18 =>
        (rc_rc p18.2 p18.1 1).bind fun a20 =>
        (g_row_at p18.2 a20 x2).bind fun p22 =>
        some (some p22.1, p22.2)
      else
        b_rec_byteAt_24 p13.2 

def b_rec_word_26 (w : rc_M) : Option (Option Int32 × rc_M) :=
  (rc_throw w).bind fun w1 =>
  some (none, w1)

def f_rec_word (w : rc_M) (a0 : Nat) (x1 : Int32) (x2 : Int32) : Option (Option Int32 × rc_M) :=
  (rc_rc w (some a0) 0).bind fun a1 =>
  (f_rec_isSlot w a1 x1).bind fun p3 =>
  if p3.1 = 0 then
    b_rec_word_26 p3.2 
  else
    if x2 < 0 then
      b_rec_word_26 p3.2 
    else
      (rc_rc p3.2 (some a0) 0).bind fun a7 =>
      (f_rec_slotRow p3.2 a7 x1).bind fun p9 =>
      (rc_rc p9.2 p9.1 1).bind fun a11 =>
      (g_row_size p9.2 a11).bind fun p13 =>
      if x2 ≤ (p13.1 - 4) then
        (rc_rc p13.2 (some a0) 0).bind fun a16 =>
        (f_rec_slotRow p13.2 a16 x1).bind fun p18 =>
        (rc_rc p18.2 p18.1 1).bind fun a20 =>
        (g_row_wordAt p18.2 a20 x2).bind fun p22 =>
        some (some p22.1, p22.2)
      else
        b_rec_word_26 p13.2 

def b_rec_says_55 (w : rc_M) (x3 : Int32) : Option (Option Int32 × rc_M) :=
  some (some x3, w)

def f_rec_says (w : rc_M) (a0 : Nat) (x1 : Int32) (x2 : Int32) : Option (Option Int32 × rc_M) :=
  (rc_rc w (some a0) 0).bind fun a1 =>
  (f_rec_isSlot w a1 x1).bind fun p3 =>
  if p3.1 = 0 then
    (rc_throw p3.2).bind fun w27 =>
    some (none, w27)
  else
    (rc_rc p3.2 (some a0) 0).bind fun a6 =>
    (f_rec_slotRow p3.2 a6 x1).bind fun p8 =>
    (rc_rc p8.2 (some a0) 0).bind fun a10 =>
    (f_rec_isJoined p8.2 a10 p8.1).bind fun p12 =>
    if p12.1 = 0 then
      some (some ((-1)), p12.2)
    else
      (rc_gR p12.2 (some a0) 0 5).bind fun v15 =>
      (f_rec_saidBy p12.2 v15).bind fun p17 =>
      if p17.1 = ((-1)) then
        b_rec_says_55 p17.2 p17.1
      else
        (rc_gR p17.2 (some a0) 0 5).bind fun v20 =>
        (rc_rc p17.2 v20 1).bind fun a22 =>
        (g_row_wordAt p17.2 a22 0).bind fun p24 =>
        if p24.1 = x2 then
          b_rec_says_55 p24.2 p17.1
        else
          some (some ((-2)), p24.2)

def f_rec_count (w : rc_M) (a0 : Nat) (x1 : Int32) : Option (Option Int32 × rc_M) :=
  if x1 = 0 then
    (rc_gI w (some a0) 0 6).bind fun v2 =>
    some (some v2, w)
  else
    if x1 = 1 then
      (rc_gR w (some a0) 0 3).bind fun v5 =>
      (rc_gR w v5 2 0).bind fun v7 =>
      (rc_rc w v7 3).bind fun a9 =>
      (f_map_size w a9).bind fun p11 =>
      some (some p11.1, p11.2)
    else
      if x1 = 2 then
        (rc_gR w (some a0) 0 3).bind fun v14 =>
        (rc_gI w v14 2 3).bind fun v16 =>
        some (some v16, w)
      else
        if x1 = 3 then
          (rc_gR w (some a0) 0 3).bind fun v19 =>
          (rc_gI w v19 2 4).bind fun v21 =>
          some (some v21, w)
        else
          if x1 = 4 then
            (rc_gR w (some a0) 0 3).bind fun v24 =>
            (rc_gI w v24 2 5).bind fun v26 =>
            some (some v26, w)
          else
            (f_rec_isConnection w (x1 - 5)).bind fun p28 =>
            if p28.1 = 0 then
              (rc_throw p28.2).bind fun w39 =>
              some (none, w39)
            else
              (rc_gR p28.2 (some a0) 0 2).bind fun v31 =>
              (rc_aR p28.2 v31 5 (x1 - 5)).bind fun v33 =>
              (rc_rc p28.2 v33 5).bind fun a35 =>
              (f_con_bytesWaiting p28.2 a35).bind fun p37 =>
              some (some p37.1, p37.2)

set_option maxRecDepth 100000 in
set_option maxHeartbeats 4000000 in
theorem ct_rec_feed {l : Launch} {G : rc_G} (hfl : l.flags = flags0) {w : rc_M} {a0 : Nat} {x1 : Int32} {x2 : Int32} {x3 : Int32} {x4 : Int32} {x5 : Int32} {res : Option Int32 × rc_M} (h : f_rec_feed w a0 x1 x2 x3 x4 x5 = some res) : rc_CtT l G y_rec_feed prog_1_method_2_code 6 (some .int) 6 92 "java/lang/UnsupportedOperationException" [va_rf (some a0), .int x1, .int x2, .int x3, .int x4, .int x5] w (res.1.map (fun x => some (.int x))) res.2 := by
  refine rc_enterT hfl (by decide +kernel) (by simp [lg_sl, va_rf_cat, rc_cat_i, rc_cat_l]) ?_
  intro X _ _ hN hF hL C E
  have hlv : lv_args 0 [va_rf (some a0), .int x1, .int x2, .int x3, .int x4, .int x5] = [(0, va_rf (some a0)), (1, .int x1), (2, .int x2), (3, .int x3), (4, .int x4), (5, .int x5)] := by simp [lv_args, va_rf_cat, rc_cat_i, rc_cat_l]
  rw [hlv]
  clear hlv
  unfold f_rec_feed at h
  refine j_aload_n C d_rec_feed_0 rfl 0 rfl ?_
  obtain ⟨v1, h2, h⟩ := Option.bind_eq_some_iff.mp h
  refine j_getR C fl_rec_10 h2 d_rec_feed_1 rfl ?_
  obtain ⟨a3, h4, h⟩ := Option.bind_eq_some_iff.mp h
  obtain ⟨p5, h6, h⟩ := Option.bind_eq_some_iff.mp h
  refine j_callV C (As := []) (st := []) (sk' := [.int p5.1]) mk_row_size (Or.inl T_220) T_221 T_222 (ci := 1) rfl h4 (rc_le hF (by decide)) (rc_le hL (by decide)) (cg_row_size h6) rfl rfl (by decide) d_rec_feed_4 rfl rfl ?_
  refine j_bipush (v := 20) C d_rec_feed_7 rfl (by decide) ?_
  refine j_iadd C d_rec_feed_9 rfl ?_
  refine j_sipush (v := 1600) C d_rec_feed_10 rfl (by decide) ?_
  refine j_icmp_le (tgt := 24) C d_rec_feed_13 (by decide) rfl (fun c7 => ?_) (fun c7 => ?_)
  · rw [if_pos c7] at h
    refine j_aload_n C d_rec_feed_24 rfl 0 rfl ?_
    obtain ⟨v8, h9, h⟩ := Option.bind_eq_some_iff.mp h
    refine j_getR C fl_rec_10 h9 d_rec_feed_25 rfl ?_
    refine j_iload_n C d_rec_feed_28 rfl 1 rfl ?_
    obtain ⟨a10, h11, h⟩ := Option.bind_eq_some_iff.mp h
    obtain ⟨w12, h13, h⟩ := Option.bind_eq_some_iff.mp h
    refine j_callV C (As := [.int x1]) (st := []) (sk' := []) mk_row_addWord (Or.inl T_359) T_360 T_361 (ci := 1) rfl h11 (rc_le hF (by decide)) (rc_le hL (by decide)) (cg_row_addWord h13) rfl rfl (by decide) d_rec_feed_29 rfl rfl ?_
    refine j_aload_n C d_rec_feed_32 rfl 0 rfl ?_
    obtain ⟨v14, h15, h⟩ := Option.bind_eq_some_iff.mp h
    refine j_getR C fl_rec_10 h15 d_rec_feed_33 rfl ?_
    refine j_iload_n C d_rec_feed_36 rfl 2 rfl ?_
    obtain ⟨a16, h17, h⟩ := Option.bind_eq_some_iff.mp h
    obtain ⟨w18, h19, h⟩ := Option.bind_eq_some_iff.mp h
    refine j_callV C (As := [.int x2]) (st := []) (sk' := []) mk_row_addWord (Or.inl T_359) T_360 T_361 (ci := 1) rfl h17 (rc_le hF (by decide)) (rc_le hL (by decide)) (cg_row_addWord h19) rfl rfl (by decide) d_rec_feed_37 rfl rfl ?_
    refine j_aload_n C d_rec_feed_40 rfl 0 rfl ?_
    obtain ⟨v20, h21, h⟩ := Option.bind_eq_some_iff.mp h
    refine j_getR C fl_rec_10 h21 d_rec_feed_41 rfl ?_
    refine j_iload_n C d_rec_feed_44 rfl 3 rfl ?_
    obtain ⟨a22, h23, h⟩ := Option.bind_eq_some_iff.mp h
    obtain ⟨w24, h25, h⟩ := Option.bind_eq_some_iff.mp h
    refine j_callV C (As := [.int x3]) (st := []) (sk' := []) mk_row_addWord (Or.inl T_359) T_360 T_361 (ci := 1) rfl h23 (rc_le hF (by decide)) (rc_le hL (by decide)) (cg_row_addWord h25) rfl rfl (by decide) d_rec_feed_45 rfl rfl ?_
    refine j_aload_n C d_rec_feed_48 rfl 0 rfl ?_
    obtain ⟨v26, h27, h⟩ := Option.bind_eq_some_iff.mp h
    refine j_getR C fl_rec_10 h27 d_rec_feed_49 rfl ?_
    refine j_iload C d_rec_feed_52 rfl 4 rfl ?_
    obtain ⟨a28, h29, h⟩ := Option.bind_eq_some_iff.mp h
    obtain ⟨w30, h31, h⟩ := Option.bind_eq_some_iff.mp h
    refine j_callV C (As := [.int x4]) (st := []) (sk' := []) mk_row_addWord (Or.inl T_359) T_360 T_361 (ci := 1) rfl h29 (rc_le hF (by decide)) (rc_le hL (by decide)) (cg_row_addWord h31) rfl rfl (by decide) d_rec_feed_54 rfl rfl ?_
    refine j_aload_n C d_rec_feed_57 rfl 0 rfl ?_
    obtain ⟨v32, h33, h⟩ := Option.bind_eq_some_iff.mp h
    refine j_getR C fl_rec_10 h33 d_rec_feed_58 rfl ?_
    refine j_iload C d_rec_feed_61 rfl 5 rfl ?_
    obtain ⟨a34, h35, h⟩ := Option.bind_eq_some_iff.mp h
    obtain ⟨w36, h37, h⟩ := Option.bind_eq_some_iff.mp h
    refine j_callV C (As := [.int x5]) (st := []) (sk' := []) mk_row_addWord (Or.inl T_359) T_360 T_361 (ci := 1) rfl h35 (rc_le hF (by decide)) (rc_le hL (by decide)) (cg_row_addWord h37) rfl rfl (by decide) d_rec_feed_63 rfl rfl ?_
    refine j_aload_n C d_rec_feed_66 rfl 0 rfl ?_
    obtain ⟨v38, h39, h⟩ := Option.bind_eq_some_iff.mp h
    refine j_getR C fl_rec_10 h39 d_rec_feed_67 rfl ?_
    obtain ⟨a40, h41, h⟩ := Option.bind_eq_some_iff.mp h
    obtain ⟨p42, h43, h⟩ := Option.bind_eq_some_iff.mp h
    refine j_callV C (As := []) (st := []) (sk' := [.int p42.1]) mk_row_size (Or.inl T_220) T_221 T_222 (ci := 1) rfl h41 (rc_le hF (by decide)) (rc_le hL (by decide)) (cg_row_size h43) rfl rfl (by decide) d_rec_feed_70 rfl rfl ?_
    cases h
    exact j_iretT C E d_rec_feed_73
  · rw [if_neg c7] at h
    obtain ⟨w44, h45, h⟩ := Option.bind_eq_some_iff.mp h
    cases h
    exact j_throw C (names := rc_exn) E h45 T_296 T_297 T_12 (by decide) (by decide) at_50 (rc_lt hF (by decide)) (rc_le hL (by first | decide | simp [va_rf_cat, rc_cat_i, rc_cat_l])) d_rec_feed_16 d_rec_feed_19 d_rec_feed_20 d_rec_feed_23

set_option maxRecDepth 100000 in
set_option maxHeartbeats 4000000 in
theorem k_rec_end_15 {X : rc_X} {w0 : rc_M} (hF : (q_R X).frames = 6) (hL : (q_R X).locals = 90) (hN : q_n X = 2) (C : rc_C X "RecordCalls" prog_1_method_3_code w0) {res : Option Unit × rc_M} (E : rc_E1 X none "java/lang/IllegalArgumentException" (res.1.map (fun _ => none)) res.2) {w : rc_M}  (h : b_rec_end_15 w  = some res) : rc_J X w 15 [] [] := by
  unfold b_rec_end_15 at h
  obtain ⟨w1, h2, h⟩ := Option.bind_eq_some_iff.mp h
  cases h
  exact j_throw C (names := rc_exn) E h2 T_371 T_372 T_16 (by decide) (by decide) at_57 (rc_lt hF (by decide)) (rc_le hL (by first | decide | simp [va_rf_cat, rc_cat_i, rc_cat_l])) d_rec_end_15 d_rec_end_18 d_rec_end_19 d_rec_end_22

set_option maxRecDepth 100000 in
set_option maxHeartbeats 4000000 in
theorem ct_rec_end {l : Launch} {G : rc_G} (hfl : l.flags = flags0) {w : rc_M} {a0 : Nat} {x1 : Int32} {res : Option Unit × rc_M} (h : f_rec_end w a0 x1 = some res) : rc_CtT l G y_rec_end prog_1_method_3_code 2 none 6 90 "java/lang/IllegalArgumentException" [va_rf (some a0), .int x1] w (res.1.map (fun _ => none)) res.2 := by
  refine rc_enterT hfl (by decide +kernel) (by simp [lg_sl, va_rf_cat, rc_cat_i, rc_cat_l]) ?_
  intro X _ _ hN hF hL C E
  have hlv : lv_args 0 [va_rf (some a0), .int x1] = [(0, va_rf (some a0)), (1, .int x1)] := by simp [lv_args, va_rf_cat, rc_cat_i, rc_cat_l]
  rw [hlv]
  clear hlv
  unfold f_rec_end at h
  refine j_iload_n C d_rec_end_0 rfl 1 rfl ?_
  refine j_if_lt (tgt := 15) C d_rec_end_1 (by decide) rfl (fun c1 => ?_) (fun c1 => ?_)
  · rw [if_pos c1] at h
    refine rc_J.sub (lv' := []) [] rfl ?_
    exact k_rec_end_15 hF hL hN C E h
  · rw [if_neg c1] at h
    refine j_iload_n C d_rec_end_4 rfl 1 rfl ?_
    refine j_aload_n C d_rec_end_5 rfl 0 rfl ?_
    obtain ⟨v2, h3, h⟩ := Option.bind_eq_some_iff.mp h
    refine j_getR C fl_rec_10 h3 d_rec_end_6 rfl ?_
    obtain ⟨a4, h5, h⟩ := Option.bind_eq_some_iff.mp h
    obtain ⟨p6, h7, h⟩ := Option.bind_eq_some_iff.mp h
    refine j_callV C (As := []) (st := [.int x1]) (sk' := [.int p6.1, .int x1]) mk_row_size (Or.inl T_220) T_221 T_222 (ci := 1) rfl h5 (rc_le hF (by decide)) (rc_le hL (by decide)) (cg_row_size h7) rfl rfl (by simp [va_rf_cat, rc_cat_i, rc_cat_l]) d_rec_end_9 rfl rfl ?_
    refine j_icmp_le (tgt := 23) C d_rec_end_12 (by decide) rfl (fun c8 => ?_) (fun c8 => ?_)
    · rw [if_pos c8] at h
      refine j_aload_n C d_rec_end_23 rfl 0 rfl ?_
      obtain ⟨v9, h10, h⟩ := Option.bind_eq_some_iff.mp h
      refine j_getR C fl_rec_10 h10 d_rec_end_24 rfl ?_
      refine j_iload_n C d_rec_end_27 rfl 1 rfl ?_
      obtain ⟨a11, h12, h⟩ := Option.bind_eq_some_iff.mp h
      obtain ⟨w13, h14, h⟩ := Option.bind_eq_some_iff.mp h
      refine j_callV C (As := [.int x1]) (st := []) (sk' := []) mk_row_cutTo (Or.inl T_386) T_387 T_388 (ci := 1) rfl h12 (rc_le hF (by decide)) (rc_le hL (by decide)) (cg_row_cutTo h14) rfl rfl (by decide) d_rec_end_28 rfl rfl ?_
      cases h
      exact j_vretT C E d_rec_end_31
    · rw [if_neg c8] at h
      refine rc_J.sub (lv' := []) [] rfl ?_
      exact k_rec_end_15 hF hL hN C E h

set_option maxRecDepth 100000 in
set_option maxHeartbeats 4000000 in
theorem k_rec_record_32 {X : rc_X} {w0 : rc_M} (hF : (q_R X).frames = 6) (hL : (q_R X).locals = 94) (hN : q_n X = 8) (C : rc_C X "RecordCalls" prog_1_method_5_code w0) {res : Option Int32 × rc_M} (E : rc_E1 X (some .int) "java/lang/IllegalArgumentException" (res.1.map (fun x => some (.int x))) res.2) {w : rc_M}  (h : b_rec_record_32 w  = some res) : rc_J X w 32 [] [] := by
  unfold b_rec_record_32 at h
  obtain ⟨w1, h2, h⟩ := Option.bind_eq_some_iff.mp h
  cases h
  exact j_throw C (names := rc_exn) E h2 T_371 T_372 T_16 (by decide) (by decide) at_57 (rc_lt hF (by decide)) (rc_le hL (by first | decide | simp [va_rf_cat, rc_cat_i, rc_cat_l])) d_rec_record_32 d_rec_record_35 d_rec_record_36 d_rec_record_39

set_option maxRecDepth 100000 in
set_option maxHeartbeats 4000000 in
theorem k_rec_record_101 {X : rc_X} {w0 : rc_M} (hF : (q_R X).frames = 6) (hL : (q_R X).locals = 94) (hN : q_n X = 8) (C : rc_C X "RecordCalls" prog_1_method_5_code w0) {res : Option Int32 × rc_M} (E : rc_E1 X (some .int) "java/lang/IllegalArgumentException" (res.1.map (fun x => some (.int x))) res.2) {k66 : rc_M → Nat → Int32 → Option Nat → Int32 → Int32 → Int32 → Int32 → Option (Option Int32 × rc_M)} (hk66 : ∀ (w : rc_M) (a0 : Nat) (x1 : Int32) (r2 : Option Nat) (x3 : Int32) (x4 : Int32) (x5 : Int32) (x6 : Int32), k66 w a0 x1 r2 x3 x4 x5 x6 = some res → rc_J X w 66 [] [(0, va_rf (some a0)), (1, .int x1), (2, va_rf r2), (3, .int x3), (4, .int x4), (5, .int x5), (6, .int x6)]) {w : rc_M} {a0 : Nat} {x1 : Int32} {r2 : Option Nat} {x3 : Int32} {x4 : Int32} {x5 : Int32} {x6 : Int32} {x7 : Int32} {s0 : Option Nat} {s1 : Int32} (h : b_rec_record_101 k66 w a0 x1 r2 x3 x4 x5 x6 x7 s0 s1 = some res) : rc_J X w 101 [.int s1, va_rf s0] [(0, va_rf (some a0)), (1, .int x1), (2, va_rf r2), (3, .int x3), (4, .int x4), (5, .int x5), (6, .int x6), (7, .int x7)] := by
  unfold b_rec_record_101 at h
  obtain ⟨a1, h2, h⟩ := Option.bind_eq_some_iff.mp h
  obtain ⟨w3, h4, h⟩ := Option.bind_eq_some_iff.mp h
  refine j_callV C (As := [.int s1]) (st := []) (sk' := []) mk_row_addWord (Or.inl T_359) T_360 T_361 (ci := 1) rfl h2 (rc_le hF (by decide)) (rc_le hL (by decide)) (cg_row_addWord h4) rfl rfl (by decide) d_rec_record_101 rfl rfl ?_
  refine j_aload_n C d_rec_record_104 rfl 2 rfl ?_
  refine j_aload_n C d_rec_record_105 rfl 0 rfl ?_
  obtain ⟨v5, h6, h⟩ := Option.bind_eq_some_iff.mp h
  refine j_getR C fl_rec_10 h6 d_rec_record_106 rfl ?_
  refine j_iload C d_rec_record_109 rfl 5 rfl ?_
  refine j_iload C d_rec_record_111 rfl 7 rfl ?_
  obtain ⟨a7, h8, h⟩ := Option.bind_eq_some_iff.mp h
  obtain ⟨w9, h10, h⟩ := Option.bind_eq_some_iff.mp h
  refine j_callV C (As := [va_rf v5, .int x5, .int x7]) (st := []) (sk' := []) mk_row_addPart (Or.inl T_224) T_225 T_226 (ci := 1) rfl h8 (rc_le hF (by decide)) (rc_le hL (by decide)) (cg_row_addPart h10) rfl rfl (by decide) d_rec_record_113 rfl rfl ?_
  refine j_iload C d_rec_record_116 rfl 5 rfl ?_
  refine j_iload C d_rec_record_118 rfl 7 rfl ?_
  refine j_iadd C d_rec_record_120 rfl ?_
  refine j_istore C (i := 5) d_rec_record_121 rfl [(5, .int (x5 + x7)), (0, va_rf (some a0)), (1, .int x1), (2, va_rf r2), (3, .int x3), (4, .int x4), (6, .int x6), (7, .int x7)] (rc_lt hN (by decide)) (by first | rfl | simp [va_rf_cat, rc_cat_i, rc_cat_l]) ?_
  refine j_iinc C d_rec_record_123 rfl 6 [(6, .int (x6 + 1)), (5, .int (x5 + x7)), (0, va_rf (some a0)), (1, .int x1), (2, va_rf r2), (3, .int x3), (4, .int x4), (7, .int x7)] rfl rfl (rc_lt hN (by decide)) (by first | rfl | simp [va_rf_cat, rc_cat_i, rc_cat_l]) ?_
  refine j_goto (tgt := 66) C d_rec_record_126 (by decide) ?_
  refine rc_J.sub (lv' := [(0, va_rf (some a0)), (1, .int x1), (2, va_rf r2), (3, .int x3), (4, .int x4), (5, .int (x5 + x7)), (6, .int (x6 + 1))]) [2, 3, 4, 5, 6, 1, 0] rfl ?_
  exact hk66 _ _ _ _ _ _ _ _ h

set_option maxRecDepth 100000 in
set_option maxHeartbeats 4000000 in
theorem k_rec_record_66 {X : rc_X} {w0 : rc_M} (hF : (q_R X).frames = 6) (hL : (q_R X).locals = 94) (hN : q_n X = 8) (C : rc_C X "RecordCalls" prog_1_method_5_code w0) {res : Option Int32 × rc_M} (E : rc_E1 X (some .int) "java/lang/IllegalArgumentException" (res.1.map (fun x => some (.int x))) res.2) : ∀ (fuel : Nat) (w : rc_M) (a0 : Nat) (x1 : Int32) (r2 : Option Nat) (x3 : Int32) (x4 : Int32) (x5 : Int32) (x6 : Int32), b_rec_record_66 fuel w a0 x1 r2 x3 x4 x5 x6 = some res → rc_J X w 66 [] [(0, va_rf (some a0)), (1, .int x1), (2, va_rf r2), (3, .int x3), (4, .int x4), (5, .int x5), (6, .int x6)] := by
  intro fuel
  induction fuel with
  | zero => intro w a0 x1 r2 x3 x4 x5 x6 h; simp [b_rec_record_66] at h
  | succ fuel ih =>
    intro w a0 x1 r2 x3 x4 x5 x6 h
    unfold b_rec_record_66 at h
    refine j_iload C d_rec_record_66 rfl 6 rfl ?_
    refine j_iload C d_rec_record_68 rfl 4 rfl ?_
    refine j_icmp_gt (tgt := 129) C d_rec_record_70 (by decide) rfl (fun c1 => ?_) (fun c1 => ?_)
    · rw [if_pos c1] at h
      refine j_aload_n C d_rec_record_129 rfl 0 rfl ?_
      obtain ⟨a2, h3, h⟩ := Option.bind_eq_some_iff.mp h
      obtain ⟨p4, h5, h⟩ := Option.bind_eq_some_iff.mp h
      refine j_callV C (As := []) (st := []) (sk' := [.int p4.1]) mk_rec_tapeIsSlot (Or.inl T_252) T_254 S_3 (ci := 0) rfl h3 (rc_le hF (by decide)) (rc_le hL (by decide)) (ct_rec_tapeIsSlot h5) rfl rfl (by decide) d_rec_record_130 rfl rfl ?_
      cases h
      exact j_iretT C E d_rec_record_133
    · rw [if_neg c1] at h
      refine j_iload_n C d_rec_record_73 rfl 1 rfl ?_
      refine j_iload_n C d_rec_record_74 rfl 3 rfl ?_
      refine j_iload C d_rec_record_75 rfl 5 rfl ?_
      refine j_isub C d_rec_record_77 rfl ?_
      obtain ⟨p6, h7, h⟩ := Option.bind_eq_some_iff.mp h
      refine j_callS C (As := [.int x1, .int (x3 - x5)]) (st := []) (sk' := [.int p6.1]) mk_mat_min (Or.inl T_400) T_246 (rc_le hF (by decide)) (rc_le hL (by decide)) (ct_mat_min h7) rfl rfl (by decide) d_rec_record_78 rfl rfl ?_
      refine j_istore C (i := 7) d_rec_record_81 rfl [(7, .int p6.1), (0, va_rf (some a0)), (1, .int x1), (2, va_rf r2), (3, .int x3), (4, .int x4), (5, .int x5), (6, .int x6)] (rc_lt hN (by decide)) (by first | rfl | simp [va_rf_cat, rc_cat_i, rc_cat_l]) ?_
      refine j_aload_n C d_rec_record_83 rfl 3 rfl ?_
      refine j_iload C d_rec_record_84 rfl 7 rfl ?_
      refine j_iload C d_rec_record_86 rfl 5 rfl ?_
      refine j_icmp_ne (tgt := 99) C d_rec_record_88 (by decide) rfl (fun c8 => ?_) (fun c8 => ?_)
      · rw [if_neg c8] at h
        refine j_iload C d_rec_record_99 rfl 0 rfl ?_
        refine rc_J.sub (lv' := [(0, va_rf (some a0)), (1, .int x1), (2, va_rf r2), (3, .int x3), (4, .int x4), (5, .int x5), (6, .int x6), (7, .int p6.1)]) [1, 2, 3, 4, 5, 6, 7, 0] rfl ?_
        exact k_rec_record_101 hF hL hN C E (fun w z0 z1 z2 z3 z4 z5 z6 h => ih w z0 z1 z2 z3 z4 z5 z6 h) h
      · rw [if_pos c8] at h
        refine j_ldc C d_rec_record_91 rfl T_401 ?_
        refine j_iload C d_rec_record_93 rfl 0 rfl ?_
        refine j_ior C d_rec_record_95 rfl ?_
        refine j_goto (tgt := 101) C d_rec_record_96 (by decide) ?_
        refine rc_J.sub (lv' := [(0, va_rf (some a0)), (1, .int x1), (2, va_rf r2), (3, .int x3), (4, .int x4), (5, .int x5), (6, .int x6), (7, .int p6.1)]) [1, 2, 3, 4, 5, 6, 7, 0] rfl ?_
        exact k_rec_record_101 hF hL hN C E (fun w z0 z1 z2 z3 z4 z5 z6 h => ih w z0 z1 z2 z3 z4 z5 z6 h) h

set_option maxRecDepth 100000 in
set_option maxHeartbeats 4000000 in
theorem ct_rec_record {l : Launch} {G : rc_G} (hfl : l.flags = flags0) {w : rc_M} {a0 : Nat} {x1 : Int32} {res : Option Int32 × rc_M} (h : f_rec_record w a0 x1 = some res) : rc_CtT l G y_rec_record prog_1_method_5_code 8 (some .int) 6 94 "java/lang/IllegalArgumentException" [va_rf (some a0), .int x1] w (res.1.map (fun x => some (.int x))) res.2 := by
  refine rc_enterT hfl (by decide +kernel) (by simp [lg_sl, va_rf_cat, rc_cat_i, rc_cat_l]) ?_
  intro X _ _ hN hF hL C E
  have hlv : lv_args 0 [va_rf (some a0), .int x1] = [(0, va_rf (some a0)), (1, .int x1)] := by simp [lv_args, va_rf_cat, rc_cat_i, rc_cat_l]
  rw [hlv]
  clear hlv
  unfold f_rec_record at h
  refine j_iload_n C d_rec_record_0 rfl 1 rfl ?_
  refine j_iconst (v := 1) C d_rec_record_1 rfl (by decide) ?_
  refine j_icmp_lt (tgt := 32) C d_rec_record_2 (by decide) rfl (fun c1 => ?_) (fun c1 => ?_)
  · rw [if_pos c1] at h
    refine rc_J.sub (lv' := []) [] rfl ?_
    exact k_rec_record_32 hF hL hN C E h
  · rw [if_neg c1] at h
    refine j_aload_n C d_rec_record_5 rfl 0 rfl ?_
    obtain ⟨v2, h3, h⟩ := Option.bind_eq_some_iff.mp h
    refine j_getR C fl_rec_10 h3 d_rec_record_6 rfl ?_
    obtain ⟨a4, h5, h⟩ := Option.bind_eq_some_iff.mp h
    obtain ⟨p6, h7, h⟩ := Option.bind_eq_some_iff.mp h
    refine j_callV C (As := []) (st := []) (sk' := [.int p6.1]) mk_row_size (Or.inl T_220) T_221 T_222 (ci := 1) rfl h5 (rc_le hF (by decide)) (rc_le hL (by decide)) (cg_row_size h7) rfl rfl (by decide) d_rec_record_9 rfl rfl ?_
    refine j_iconst (v := 4) C d_rec_record_12 rfl (by decide) ?_
    refine j_aload_n C d_rec_record_13 rfl 0 rfl ?_
    obtain ⟨v8, h9, h⟩ := Option.bind_eq_some_iff.mp h
    refine j_getR C fl_rec_10 h9 d_rec_record_14 rfl ?_
    obtain ⟨a10, h11, h⟩ := Option.bind_eq_some_iff.mp h
    obtain ⟨p12, h13, h⟩ := Option.bind_eq_some_iff.mp h
    refine j_callV C (As := []) (st := [.int 4, .int p6.1]) (sk' := [.int p12.1, .int 4, .int p6.1]) mk_row_size (Or.inl T_220) T_221 T_222 (ci := 1) rfl h11 (rc_le hF (by decide)) (rc_le hL (by decide)) (cg_row_size h13) rfl rfl (by simp [va_rf_cat, rc_cat_i, rc_cat_l]) d_rec_record_17 rfl rfl ?_
    refine j_iload_n C d_rec_record_20 rfl 1 rfl ?_
    obtain ⟨p14, h15, h⟩ := Option.bind_eq_some_iff.mp h
    refine j_callS C (As := [.int p12.1, .int x1]) (st := [.int 4, .int p6.1]) (sk' := [.int p14.1, .int 4, .int p6.1]) mk_rec_fragments (Or.inl T_397) T_398 (rc_le hF (by decide)) (rc_le hL (by decide)) (ct_rec_fragments h15) rfl rfl (by simp [va_rf_cat, rc_cat_i, rc_cat_l]) d_rec_record_21 rfl rfl ?_
    refine j_imul C d_rec_record_24 rfl ?_
    refine j_iadd C d_rec_record_25 rfl ?_
    refine j_sipush (v := 1600) C d_rec_record_26 rfl (by decide) ?_
    refine j_icmp_le (tgt := 40) C d_rec_record_29 (by decide) rfl (fun c16 => ?_) (fun c16 => ?_)
    · rw [if_pos c16] at h
      refine j_aload_n C d_rec_record_40 rfl 0 rfl ?_
      obtain ⟨a17, h18, h⟩ := Option.bind_eq_some_iff.mp h
      obtain ⟨p19, h20, h⟩ := Option.bind_eq_some_iff.mp h
      refine j_callV C (As := []) (st := []) (sk' := [va_rf p19.1]) mk_rec_newSlot (Or.inl T_208) T_210 S_0 (ci := 0) rfl h18 (rc_le hF (by decide)) (rc_le hL (by decide)) (ct_rec_newSlot h20) rfl rfl (by decide) d_rec_record_41 rfl rfl ?_
      refine j_astore_n C (i := 2) d_rec_record_44 rfl rfl [(2, va_rf p19.1), (0, va_rf (some a0)), (1, .int x1)] (rc_lt hN (by decide)) (by first | rfl | simp [va_rf_cat, rc_cat_i, rc_cat_l]) ?_
      refine j_aload_n C d_rec_record_45 rfl 1 rfl ?_
      obtain ⟨v21, h22, h⟩ := Option.bind_eq_some_iff.mp h
      refine j_getR C fl_rec_10 h22 d_rec_record_46 rfl ?_
      obtain ⟨a23, h24, h⟩ := Option.bind_eq_some_iff.mp h
      obtain ⟨p25, h26, h⟩ := Option.bind_eq_some_iff.mp h
      refine j_callV C (As := []) (st := []) (sk' := [.int p25.1]) mk_row_size (Or.inl T_220) T_221 T_222 (ci := 1) rfl h24 (rc_le hF (by decide)) (rc_le hL (by decide)) (cg_row_size h26) rfl rfl (by decide) d_rec_record_49 rfl rfl ?_
      refine j_istore_n C (i := 3) d_rec_record_52 rfl rfl [(3, .int p25.1), (2, va_rf p19.1), (0, va_rf (some a0)), (1, .int x1)] (rc_lt hN (by decide)) (by first | rfl | simp [va_rf_cat, rc_cat_i, rc_cat_l]) ?_
      refine j_iload_n C d_rec_record_53 rfl 0 rfl ?_
      refine j_iload_n C d_rec_record_54 rfl 3 rfl ?_
      obtain ⟨p27, h28, h⟩ := Option.bind_eq_some_iff.mp h
      refine j_callS C (As := [.int p25.1, .int x1]) (st := []) (sk' := [.int p27.1]) mk_rec_fragments (Or.inl T_397) T_398 (rc_le hF (by decide)) (rc_le hL (by decide)) (ct_rec_fragments h28) rfl rfl (by decide) d_rec_record_55 rfl rfl ?_
      refine j_istore C (i := 4) d_rec_record_58 rfl [(4, .int p27.1), (3, .int p25.1), (2, va_rf p19.1), (0, va_rf (some a0)), (1, .int x1)] (rc_lt hN (by decide)) (by first | rfl | simp [va_rf_cat, rc_cat_i, rc_cat_l]) ?_
      refine j_iconst (v := 0) C d_rec_record_60 rfl (by decide) ?_
      refine j_istore C (i := 5) d_rec_record_61 rfl [(5, .int 0), (4, .int p27.1), (3, .int p25.1), (2, va_rf p19.1), (0, va_rf (some a0)), (1, .int x1)] (rc_lt hN (by decide)) (by first | rfl | simp [va_rf_cat, rc_cat_i, rc_cat_l]) ?_
      refine j_iconst (v := 1) C d_rec_record_63 rfl (by decide) ?_
      refine j_istore C (i := 6) d_rec_record_64 rfl [(6, .int 1), (5, .int 0), (4, .int p27.1), (3, .int p25.1), (2, va_rf p19.1), (0, va_rf (some a0)), (1, .int x1)] (rc_lt hN (by decide)) (by first | rfl | simp [va_rf_cat, rc_cat_i, rc_cat_l]) ?_
      refine rc_J.sub (lv' := [(0, va_rf (some a0)), (1, .int x1), (2, va_rf p19.1), (3, .int p25.1), (4, .int p27.1), (5, .int 0), (6, .int 1)]) [5, 6, 4, 3, 2, 1, 0] rfl ?_
      exact k_rec_record_66 hF hL hN C E _ _ _ _ _ _ _ _ _ h
    · rw [if_neg c16] at h
      refine rc_J.sub (lv' := []) [] rfl ?_
      exact k_rec_record_32 hF hL hN C E h

set_option maxRecDepth 100000 in
set_option maxHeartbeats 4000000 in
theorem k_rec_call_123 {X : rc_X} {w0 : rc_M} (hF : (q_R X).frames = 6) (hL : (q_R X).locals = 118) (hN : q_n X = 7) (C : rc_C X "RecordCalls" prog_1_method_6_code w0) {res : Option Int32 × rc_M} (E : rc_E1 X (some .int) "java/lang/IllegalArgumentException" (res.1.map (fun x => some (.int x))) res.2) {w : rc_M} {a0 : Nat} (h : b_rec_call_123 w a0 = some res) : rc_J X w 123 [] [(0, va_rf (some a0))] := by
  unfold b_rec_call_123 at h
  refine j_aload_n C d_rec_call_123 rfl 0 rfl ?_
  refine j_aload_n C d_rec_call_124 rfl 0 rfl ?_
  obtain ⟨v1, h2, h⟩ := Option.bind_eq_some_iff.mp h
  refine j_getR C fl_rec_36 h2 d_rec_call_125 rfl ?_
  obtain ⟨a3, h4, h⟩ := Option.bind_eq_some_iff.mp h
  obtain ⟨w5, h6, h⟩ := Option.bind_eq_some_iff.mp h
  refine j_callV C (As := [va_rf v1]) (st := []) (sk' := []) mk_rec_addOneFragment (Or.inl T_430) T_432 S_6 (ci := 0) rfl h4 (rc_le hF (by decide)) (rc_le hL (by decide)) (ct_rec_addOneFragment h6) rfl rfl (by decide) d_rec_call_128 rfl rfl ?_
  refine j_aload_n C d_rec_call_131 rfl 0 rfl ?_
  obtain ⟨a7, h8, h⟩ := Option.bind_eq_some_iff.mp h
  obtain ⟨p9, h10, h⟩ := Option.bind_eq_some_iff.mp h
  refine j_callV C (As := []) (st := []) (sk' := [.int p9.1]) mk_rec_tapeIsSlot (Or.inl T_252) T_254 S_3 (ci := 0) rfl h8 (rc_le hF (by decide)) (rc_le hL (by decide)) (ct_rec_tapeIsSlot h10) rfl rfl (by decide) d_rec_call_132 rfl rfl ?_
  cases h
  exact j_iretT C E d_rec_call_135

set_option maxRecDepth 100000 in
set_option maxHeartbeats 4000000 in
theorem ct_rec_call {l : Launch} {G : rc_G} (hfl : l.flags = flags0) {w : rc_M} {a0 : Nat} {x1 : Int32} {x2 : Int32} {x3 : Int32} {x4 : Int32} {x5 : Int64} {res : Option Int32 × rc_M} (h : f_rec_call w a0 x1 x2 x3 x4 x5 = some res) : rc_CtT l G y_rec_call prog_1_method_6_code 7 (some .int) 6 118 "java/lang/IllegalArgumentException" [va_rf (some a0), .int x1, .int x2, .int x3, .int x4, .long x5] w (res.1.map (fun x => some (.int x))) res.2 := by
  refine rc_enterT hfl (by decide +kernel) (by simp [lg_sl, va_rf_cat, rc_cat_i, rc_cat_l]) ?_
  intro X _ _ hN hF hL C E
  have hlv : lv_args 0 [va_rf (some a0), .int x1, .int x2, .int x3, .int x4, .long x5] = [(0, va_rf (some a0)), (1, .int x1), (2, .int x2), (3, .int x3), (4, .int x4), (5, .long x5)] := by simp [lv_args, va_rf_cat, rc_cat_i, rc_cat_l]
  rw [hlv]
  clear hlv
  unfold f_rec_call at h
  refine j_aload_n C d_rec_call_0 rfl 0 rfl ?_
  obtain ⟨v1, h2, h⟩ := Option.bind_eq_some_iff.mp h
  refine j_getR C fl_rec_10 h2 d_rec_call_1 rfl ?_
  obtain ⟨a3, h4, h⟩ := Option.bind_eq_some_iff.mp h
  obtain ⟨p5, h6, h⟩ := Option.bind_eq_some_iff.mp h
  refine j_callV C (As := []) (st := []) (sk' := [.int p5.1]) mk_row_size (Or.inl T_220) T_221 T_222 (ci := 1) rfl h4 (rc_le hF (by decide)) (rc_le hL (by decide)) (cg_row_size h6) rfl rfl (by decide) d_rec_call_4 rfl rfl ?_
  refine j_bipush (v := 16) C d_rec_call_7 rfl (by decide) ?_
  refine j_icmp_le (tgt := 20) C d_rec_call_9 (by decide) rfl (fun c7 => ?_) (fun c7 => ?_)
  · rw [if_pos c7] at h
    refine j_aload_n C d_rec_call_20 rfl 0 rfl ?_
    obtain ⟨v8, h9, h⟩ := Option.bind_eq_some_iff.mp h
    refine j_getR C fl_rec_36 h9 d_rec_call_21 rfl ?_
    obtain ⟨a10, h11, h⟩ := Option.bind_eq_some_iff.mp h
    obtain ⟨w12, h13, h⟩ := Option.bind_eq_some_iff.mp h
    refine j_callV C (As := []) (st := []) (sk' := []) mk_row_clear (Or.inl T_216) T_217 T_218 (ci := 1) rfl h11 (rc_le hF (by decide)) (rc_le hL (by decide)) (cg_row_clear h13) rfl rfl (by decide) d_rec_call_24 rfl rfl ?_
    refine j_aload_n C d_rec_call_27 rfl 0 rfl ?_
    obtain ⟨v14, h15, h⟩ := Option.bind_eq_some_iff.mp h
    refine j_getR C fl_rec_36 h15 d_rec_call_28 rfl ?_
    refine j_iload_n C d_rec_call_31 rfl 1 rfl ?_
    obtain ⟨a16, h17, h⟩ := Option.bind_eq_some_iff.mp h
    obtain ⟨w18, h19, h⟩ := Option.bind_eq_some_iff.mp h
    refine j_callV C (As := [.int x1]) (st := []) (sk' := []) mk_row_addWord (Or.inl T_359) T_360 T_361 (ci := 1) rfl h17 (rc_le hF (by decide)) (rc_le hL (by decide)) (cg_row_addWord h19) rfl rfl (by decide) d_rec_call_32 rfl rfl ?_
    refine j_aload_n C d_rec_call_35 rfl 0 rfl ?_
    obtain ⟨v20, h21, h⟩ := Option.bind_eq_some_iff.mp h
    refine j_getR C fl_rec_36 h21 d_rec_call_36 rfl ?_
    refine j_iconst (v := 0) C d_rec_call_39 rfl (by decide) ?_
    obtain ⟨a22, h23, h⟩ := Option.bind_eq_some_iff.mp h
    obtain ⟨w24, h25, h⟩ := Option.bind_eq_some_iff.mp h
    refine j_callV C (As := [.int 0]) (st := []) (sk' := []) mk_row_addWord (Or.inl T_359) T_360 T_361 (ci := 1) rfl h23 (rc_le hF (by decide)) (rc_le hL (by decide)) (cg_row_addWord h25) rfl rfl (by decide) d_rec_call_40 rfl rfl ?_
    refine j_aload_n C d_rec_call_43 rfl 0 rfl ?_
    obtain ⟨v26, h27, h⟩ := Option.bind_eq_some_iff.mp h
    refine j_getR C fl_rec_36 h27 d_rec_call_44 rfl ?_
    refine j_iconst (v := 2) C d_rec_call_47 rfl (by decide) ?_
    obtain ⟨a28, h29, h⟩ := Option.bind_eq_some_iff.mp h
    obtain ⟨w30, h31, h⟩ := Option.bind_eq_some_iff.mp h
    refine j_callV C (As := [.int 2]) (st := []) (sk' := []) mk_row_addWord (Or.inl T_359) T_360 T_361 (ci := 1) rfl h29 (rc_le hF (by decide)) (rc_le hL (by decide)) (cg_row_addWord h31) rfl rfl (by decide) d_rec_call_48 rfl rfl ?_
    refine j_aload_n C d_rec_call_51 rfl 0 rfl ?_
    obtain ⟨v32, h33, h⟩ := Option.bind_eq_some_iff.mp h
    refine j_getR C fl_rec_36 h33 d_rec_call_52 rfl ?_
    refine j_ldc C d_rec_call_55 rfl T_409 ?_
    obtain ⟨a34, h35, h⟩ := Option.bind_eq_some_iff.mp h
    obtain ⟨w36, h37, h⟩ := Option.bind_eq_some_iff.mp h
    refine j_callV C (As := [.int 400100]) (st := []) (sk' := []) mk_row_addWord (Or.inl T_359) T_360 T_361 (ci := 1) rfl h35 (rc_le hF (by decide)) (rc_le hL (by decide)) (cg_row_addWord h37) rfl rfl (by decide) d_rec_call_57 rfl rfl ?_
    refine j_aload_n C d_rec_call_60 rfl 0 rfl ?_
    obtain ⟨v38, h39, h⟩ := Option.bind_eq_some_iff.mp h
    refine j_getR C fl_rec_36 h39 d_rec_call_61 rfl ?_
    refine j_iload_n C d_rec_call_64 rfl 2 rfl ?_
    obtain ⟨a40, h41, h⟩ := Option.bind_eq_some_iff.mp h
    obtain ⟨w42, h43, h⟩ := Option.bind_eq_some_iff.mp h
    refine j_callV C (As := [.int x2]) (st := []) (sk' := []) mk_row_addWord (Or.inl T_359) T_360 T_361 (ci := 1) rfl h41 (rc_le hF (by decide)) (rc_le hL (by decide)) (cg_row_addWord h43) rfl rfl (by decide) d_rec_call_65 rfl rfl ?_
    refine j_aload_n C d_rec_call_68 rfl 0 rfl ?_
    obtain ⟨v44, h45, h⟩ := Option.bind_eq_some_iff.mp h
    refine j_getR C fl_rec_36 h45 d_rec_call_69 rfl ?_
    refine j_iload_n C d_rec_call_72 rfl 3 rfl ?_
    obtain ⟨a46, h47, h⟩ := Option.bind_eq_some_iff.mp h
    obtain ⟨w48, h49, h⟩ := Option.bind_eq_some_iff.mp h
    refine j_callV C (As := [.int x3]) (st := []) (sk' := []) mk_row_addWord (Or.inl T_359) T_360 T_361 (ci := 1) rfl h47 (rc_le hF (by decide)) (rc_le hL (by decide)) (cg_row_addWord h49) rfl rfl (by decide) d_rec_call_73 rfl rfl ?_
    refine j_aload_n C d_rec_call_76 rfl 0 rfl ?_
    obtain ⟨v50, h51, h⟩ := Option.bind_eq_some_iff.mp h
    refine j_getR C fl_rec_36 h51 d_rec_call_77 rfl ?_
    obtain ⟨w52, h53, h⟩ := Option.bind_eq_some_iff.mp h
    refine j_callS C (As := [va_rf v50]) (st := []) (sk' := []) mk_rec_addNobody (Or.inl T_410) T_411 (rc_le hF (by decide)) (rc_le hL (by decide)) (ct_rec_addNobody h53) rfl rfl (by decide) d_rec_call_80 rfl rfl ?_
    refine j_aload_n C d_rec_call_83 rfl 0 rfl ?_
    obtain ⟨v54, h55, h⟩ := Option.bind_eq_some_iff.mp h
    refine j_getR C fl_rec_36 h55 d_rec_call_84 rfl ?_
    obtain ⟨w56, h57, h⟩ := Option.bind_eq_some_iff.mp h
    refine j_callS C (As := [va_rf v54]) (st := []) (sk' := []) mk_rec_addNobody (Or.inl T_410) T_411 (rc_le hF (by decide)) (rc_le hL (by decide)) (ct_rec_addNobody h57) rfl rfl (by decide) d_rec_call_87 rfl rfl ?_
    refine j_aload_n C d_rec_call_90 rfl 0 rfl ?_
    obtain ⟨v58, h59, h⟩ := Option.bind_eq_some_iff.mp h
    refine j_getR C fl_rec_36 h59 d_rec_call_91 rfl ?_
    refine j_aload_n C d_rec_call_94 rfl 0 rfl ?_
    obtain ⟨v60, h61, h⟩ := Option.bind_eq_some_iff.mp h
    refine j_getR C fl_rec_10 h61 d_rec_call_95 rfl ?_
    refine j_iconst (v := 0) C d_rec_call_98 rfl (by decide) ?_
    refine j_aload_n C d_rec_call_99 rfl 0 rfl ?_
    obtain ⟨v62, h63, h⟩ := Option.bind_eq_some_iff.mp h
    refine j_getR C fl_rec_10 h63 d_rec_call_100 rfl ?_
    obtain ⟨a64, h65, h⟩ := Option.bind_eq_some_iff.mp h
    obtain ⟨p66, h67, h⟩ := Option.bind_eq_some_iff.mp h
    refine j_callV C (As := []) (st := [.int 0, va_rf v60, va_rf v58]) (sk' := [.int p66.1, .int 0, va_rf v60, va_rf v58]) mk_row_size (Or.inl T_220) T_221 T_222 (ci := 1) rfl h65 (rc_le hF (by decide)) (rc_le hL (by decide)) (cg_row_size h67) rfl rfl (by simp [va_rf_cat, rc_cat_i, rc_cat_l]) d_rec_call_103 rfl rfl ?_
    obtain ⟨a68, h69, h⟩ := Option.bind_eq_some_iff.mp h
    obtain ⟨w70, h71, h⟩ := Option.bind_eq_some_iff.mp h
    refine j_callV C (As := [va_rf v60, .int 0, .int p66.1]) (st := []) (sk' := []) mk_row_addBytes (Or.inl T_413) T_414 T_415 (ci := 1) rfl h69 (rc_le hF (by decide)) (rc_le hL (by decide)) (cg_row_addBytes h71) rfl rfl (by decide) d_rec_call_106 rfl rfl ?_
    refine j_iload C d_rec_call_109 rfl 4 rfl ?_
    refine j_if_eq (tgt := 123) C d_rec_call_111 (by decide) rfl (fun c72 => ?_) (fun c72 => ?_)
    · rw [if_pos c72] at h
      refine rc_J.sub (lv' := [(0, va_rf (some a0))]) [0] rfl ?_
      exact k_rec_call_123 hF hL hN C E h
    · rw [if_neg c72] at h
      refine j_aload_n C d_rec_call_114 rfl 0 rfl ?_
      obtain ⟨v73, h74, h⟩ := Option.bind_eq_some_iff.mp h
      refine j_getR C fl_rec_36 h74 d_rec_call_115 rfl ?_
      refine j_lload C d_rec_call_118 rfl 5 rfl ?_
      obtain ⟨a75, h76, h⟩ := Option.bind_eq_some_iff.mp h
      obtain ⟨w77, h78, h⟩ := Option.bind_eq_some_iff.mp h
      refine j_callV C (As := [.long x5]) (st := []) (sk' := []) mk_row_addLong (Or.inl T_426) T_427 T_428 (ci := 1) rfl h76 (rc_le hF (by decide)) (rc_le hL (by decide)) (cg_row_addLong h78) rfl rfl (by decide) d_rec_call_120 rfl rfl ?_
      refine rc_J.sub (lv' := [(0, va_rf (some a0))]) [0] rfl ?_
      exact k_rec_call_123 hF hL hN C E h
  · rw [if_neg c7] at h
    obtain ⟨w79, h80, h⟩ := Option.bind_eq_some_iff.mp h
    cases h
    exact j_throw C (names := rc_exn) E h80 T_371 T_372 T_16 (by decide) (by decide) at_57 (rc_lt hF (by decide)) (rc_le hL (by first | decide | simp [va_rf_cat, rc_cat_i, rc_cat_l])) d_rec_call_12 d_rec_call_15 d_rec_call_16 d_rec_call_19

set_option maxRecDepth 100000 in
set_option maxHeartbeats 4000000 in
theorem k_rec_push_15 {X : rc_X} {w0 : rc_M} (hF : (q_R X).frames = 8) (hL : (q_R X).locals = 188) (hN : q_n X = 10) (C : rc_C X "RecordCalls" prog_1_method_7_code w0) {res : Option Int32 × rc_M} (E : rc_E1 X (some .int) "java/lang/IndexOutOfBoundsException" (res.1.map (fun x => some (.int x))) res.2) {w : rc_M}  (h : b_rec_push_15 w  = some res) : rc_J X w 15 [] [] := by
  unfold b_rec_push_15 at h
  obtain ⟨w1, h2, h⟩ := Option.bind_eq_some_iff.mp h
  cases h
  exact j_throw C (names := rc_exn) E h2 T_449 T_450 T_17 (by decide) (by decide) at_109 (rc_lt hF (by decide)) (rc_le hL (by first | decide | simp [va_rf_cat, rc_cat_i, rc_cat_l])) d_rec_push_15 d_rec_push_18 d_rec_push_19 d_rec_push_22

set_option maxRecDepth 100000 in
set_option maxHeartbeats 4000000 in
theorem k_rec_push_51 {X : rc_X} {w0 : rc_M} (hF : (q_R X).frames = 8) (hL : (q_R X).locals = 188) (hN : q_n X = 10) (C : rc_C X "RecordCalls" prog_1_method_7_code w0) {res : Option Int32 × rc_M} (E : rc_E1 X (some .int) "java/lang/IndexOutOfBoundsException" (res.1.map (fun x => some (.int x))) res.2) {w : rc_M}  (h : b_rec_push_51 w  = some res) : rc_J X w 51 [] [] := by
  unfold b_rec_push_51 at h
  obtain ⟨w1, h2, h⟩ := Option.bind_eq_some_iff.mp h
  cases h
  exact j_throw C (names := rc_exn) E h2 T_449 T_450 T_17 (by decide) (by decide) at_109 (rc_lt hF (by decide)) (rc_le hL (by first | decide | simp [va_rf_cat, rc_cat_i, rc_cat_l])) d_rec_push_51 d_rec_push_54 d_rec_push_55 d_rec_push_58

set_option maxRecDepth 100000 in
set_option maxHeartbeats 4000000 in
theorem k_rec_push_151 {X : rc_X} {w0 : rc_M} (hF : (q_R X).frames = 8) (hL : (q_R X).locals = 188) (hN : q_n X = 10) (C : rc_C X "RecordCalls" prog_1_method_7_code w0) {res : Option Int32 × rc_M} (E : rc_E1 X (some .int) "java/lang/IndexOutOfBoundsException" (res.1.map (fun x => some (.int x))) res.2) {k92 : rc_M → Nat → Int32 → Option Nat → Int32 → Int32 → Option (Option Int32 × rc_M)} (hk92 : ∀ (w : rc_M) (a0 : Nat) (x4 : Int32) (r6 : Option Nat) (x7 : Int32) (x8 : Int32), k92 w a0 x4 r6 x7 x8 = some res → rc_J X w 92 [] [(0, va_rf (some a0)), (4, .int x4), (6, va_rf r6), (7, .int x7), (8, .int x8)]) {w : rc_M} {a0 : Nat} {x4 : Int32} {r6 : Option Nat} {x7 : Int32} {x8 : Int32} (h : b_rec_push_151 k92 w a0 x4 r6 x7 x8 = some res) : rc_J X w 151 [] [(0, va_rf (some a0)), (4, .int x4), (6, va_rf r6), (7, .int x7), (8, .int x8)] := by
  unfold b_rec_push_151 at h
  refine j_iinc C d_rec_push_151 rfl 4 [(8, .int (x8 + 1)), (0, va_rf (some a0)), (4, .int x4), (6, va_rf r6), (7, .int x7)] rfl rfl (rc_lt hN (by decide)) (by first | rfl | simp [va_rf_cat, rc_cat_i, rc_cat_l]) ?_
  refine j_goto (tgt := 92) C d_rec_push_154 (by decide) ?_
  refine rc_J.sub (lv' := [(0, va_rf (some a0)), (4, .int x4), (6, va_rf r6), (7, .int x7), (8, .int (x8 + 1))]) [1, 2, 3, 4, 0] rfl ?_
  exact hk92 _ _ _ _ _ _ h

set_option maxRecDepth 100000 in
set_option maxHeartbeats 4000000 in
theorem k_rec_push_92 {X : rc_X} {w0 : rc_M} (hF : (q_R X).frames = 8) (hL : (q_R X).locals = 188) (hN : q_n X = 10) (C : rc_C X "RecordCalls" prog_1_method_7_code w0) {res : Option Int32 × rc_M} (E : rc_E1 X (some .int) "java/lang/IndexOutOfBoundsException" (res.1.map (fun x => some (.int x))) res.2) : ∀ (fuel : Nat) (w : rc_M) (a0 : Nat) (x4 : Int32) (r6 : Option Nat) (x7 : Int32) (x8 : Int32), b_rec_push_92 fuel w a0 x4 r6 x7 x8 = some res → rc_J X w 92 [] [(0, va_rf (some a0)), (4, .int x4), (6, va_rf r6), (7, .int x7), (8, .int x8)] := by
  intro fuel
  induction fuel with
  | zero => intro w a0 x4 r6 x7 x8 h; simp [b_rec_push_92] at h
  | succ fuel ih =>
    intro w a0 x4 r6 x7 x8 h
    unfold b_rec_push_92 at h
    refine j_iload C d_rec_push_92 rfl 4 rfl ?_
    refine j_iload C d_rec_push_94 rfl 1 rfl ?_
    refine j_icmp_ge (tgt := 157) C d_rec_push_96 (by decide) rfl (fun c1 => ?_) (fun c1 => ?_)
    · rw [if_pos c1] at h
      refine j_iload C d_rec_push_157 rfl 3 rfl ?_
      cases h
      exact j_iretT C E d_rec_push_159
    · rw [if_neg c1] at h
      refine j_aload C d_rec_push_99 rfl 2 rfl ?_
      refine j_aload_n C d_rec_push_101 rfl 0 rfl ?_
      obtain ⟨v2, h3, h⟩ := Option.bind_eq_some_iff.mp h
      refine j_getR C fl_rec_33 h3 d_rec_push_102 rfl ?_
      refine j_iload C d_rec_push_105 rfl 4 rfl ?_
      obtain ⟨a4, h5, h⟩ := Option.bind_eq_some_iff.mp h
      obtain ⟨p6, h7, h⟩ := Option.bind_eq_some_iff.mp h
      refine j_callV C (As := [.int x8]) (st := [va_rf r6]) (sk' := [.int p6.1, va_rf r6]) mk_row_at (Or.inl T_464) T_273 T_274 (ci := 1) rfl h5 (rc_le hF (by decide)) (rc_le hL (by decide)) (cg_row_at h7) rfl rfl (by simp [va_rf_cat, rc_cat_i, rc_cat_l]) d_rec_push_107 rfl rfl ?_
      obtain ⟨a8, h9, h⟩ := Option.bind_eq_some_iff.mp h
      obtain ⟨p10, h11, h⟩ := Option.bind_eq_some_iff.mp h
      refine j_callV C (As := [.int p6.1]) (st := []) (sk' := [.int p10.1]) mk_con_isWholeWith (Or.inl T_465) T_466 T_467 (ci := 5) rfl h9 (rc_le hF (by decide)) (rc_le hL (by decide)) (ct_con_isWholeWith h11) rfl rfl (by decide) d_rec_push_110 rfl rfl ?_
      refine j_if_eq (tgt := 151) C d_rec_push_113 (by decide) rfl (fun c12 => ?_) (fun c12 => ?_)
      · rw [if_pos c12] at h
        exact k_rec_push_151 hF hL hN C E (fun w z0 z1 z2 z3 z4 h => ih w z0 z1 z2 z3 z4 h) h
      · rw [if_neg c12] at h
        refine j_aload_n C d_rec_push_116 rfl 0 rfl ?_
        obtain ⟨v13, h14, h⟩ := Option.bind_eq_some_iff.mp h
        refine j_getR C fl_rec_29 h14 d_rec_push_117 rfl ?_
        refine j_aload C d_rec_push_120 rfl 2 rfl ?_
        obtain ⟨v15, h16, h⟩ := Option.bind_eq_some_iff.mp h
        refine j_getR C fl_rec_121 h16 d_rec_push_122 rfl ?_
        refine j_aload C d_rec_push_125 rfl 2 rfl ?_
        obtain ⟨v17, h18, h⟩ := Option.bind_eq_some_iff.mp h
        refine j_getR C fl_rec_124 h18 d_rec_push_127 rfl ?_
        obtain ⟨a19, h20, h⟩ := Option.bind_eq_some_iff.mp h
        obtain ⟨p21, h22, h⟩ := Option.bind_eq_some_iff.mp h
        refine j_callV C (As := [va_rf v15, va_rf v17]) (st := []) (sk' := [va_rf p21.1]) mk_srv_replyTo (Or.inl T_477) T_478 T_479 (ci := 2) rfl h20 (rc_le hF (by decide)) (rc_le hL (by decide)) (ct_srv_replyTo h22) rfl rfl (by decide) d_rec_push_130 rfl rfl ?_
        refine j_astore C (i := 9) d_rec_push_133 rfl [(9, va_rf p21.1), (0, va_rf (some a0)), (4, .int x4), (6, va_rf r6), (7, .int x7), (8, .int x8)] (rc_lt hN (by decide)) (by first | rfl | simp [va_rf_cat, rc_cat_i, rc_cat_l]) ?_
        refine j_aload C d_rec_push_135 rfl 3 rfl ?_
        obtain ⟨a23, h24, h⟩ := Option.bind_eq_some_iff.mp h
        obtain ⟨w25, h26, h⟩ := Option.bind_eq_some_iff.mp h
        refine j_callV C (As := []) (st := []) (sk' := []) mk_con_forgetRecord (Or.inl T_636) T_637 T_638 (ci := 5) rfl h24 (rc_le hF (by decide)) (rc_le hL (by decide)) (ct_con_forgetRecord h26) rfl rfl (by decide) d_rec_push_137 rfl rfl ?_
        refine j_iload C d_rec_push_140 rfl 4 rfl ?_
        refine j_aload_n C d_rec_push_142 rfl 1 rfl ?_
        refine j_aload C d_rec_push_143 rfl 0 rfl ?_
        obtain ⟨a27, h28, h⟩ := Option.bind_eq_some_iff.mp h
        obtain ⟨p29, h30, h⟩ := Option.bind_eq_some_iff.mp h
        refine j_callV C (As := [va_rf p21.1]) (st := [.int x7]) (sk' := [.int p29.1, .int x7]) mk_rec_addReply (Or.inl T_641) T_643 S_22 (ci := 0) rfl h28 (rc_le hF (by decide)) (rc_le hL (by decide)) (ct_rec_addReply h30) rfl rfl (by simp [va_rf_cat, rc_cat_i, rc_cat_l]) d_rec_push_145 rfl rfl ?_
        refine j_iadd C d_rec_push_148 rfl ?_
        refine j_istore C (i := 7) d_rec_push_149 rfl [(7, .int (x7 + p29.1)), (9, va_rf p21.1), (0, va_rf (some a0)), (4, .int x4), (6, va_rf r6), (8, .int x8)] (rc_lt hN (by decide)) (by first | rfl | simp [va_rf_cat, rc_cat_i, rc_cat_l]) ?_
        refine rc_J.sub (lv' := [(0, va_rf (some a0)), (4, .int x4), (6, va_rf r6), (7, .int (x7 + p29.1)), (8, .int x8)]) [2, 3, 4, 0, 5] rfl ?_
        exact k_rec_push_151 hF hL hN C E (fun w z0 z1 z2 z3 z4 h => ih w z0 z1 z2 z3 z4 h) h

set_option maxRecDepth 100000 in
set_option maxHeartbeats 4000000 in
theorem ct_rec_push {l : Launch} {G : rc_G} (hfl : l.flags = flags0) {w : rc_M} {a0 : Nat} {x1 : Int32} {x2 : Int32} {x3 : Int32} {x4 : Int32} {res : Option Int32 × rc_M} (h : f_rec_push w a0 x1 x2 x3 x4 = some res) : rc_CtT l G y_rec_push prog_1_method_7_code 10 (some .int) 8 188 "java/lang/IndexOutOfBoundsException" [va_rf (some a0), .int x1, .int x2, .int x3, .int x4] w (res.1.map (fun x => some (.int x))) res.2 := by
  refine rc_enterT hfl (by decide +kernel) (by simp [lg_sl, va_rf_cat, rc_cat_i, rc_cat_l]) ?_
  intro X _ _ hN hF hL C E
  have hlv : lv_args 0 [va_rf (some a0), .int x1, .int x2, .int x3, .int x4] = [(0, va_rf (some a0)), (1, .int x1), (2, .int x2), (3, .int x3), (4, .int x4)] := by simp [lv_args, va_rf_cat, rc_cat_i, rc_cat_l]
  rw [hlv]
  clear hlv
  unfold f_rec_push at h
  refine j_iload_n C d_rec_push_0 rfl 1 rfl ?_
  obtain ⟨p1, h2, h⟩ := Option.bind_eq_some_iff.mp h
  refine j_callS C (As := [.int x1]) (st := []) (sk' := [.int p1.1]) mk_rec_isConnection (Or.inl T_442) T_443 (rc_le hF (by decide)) (rc_le hL (by decide)) (ct_rec_isConnection h2) rfl rfl (by decide) d_rec_push_1 rfl rfl ?_
  refine j_if_eq (tgt := 15) C d_rec_push_4 (by decide) rfl (fun c3 => ?_) (fun c3 => ?_)
  · rw [if_pos c3] at h
    refine rc_J.sub (lv' := []) [] rfl ?_
    exact k_rec_push_15 hF hL hN C E h
  · rw [if_neg c3] at h
    refine j_aload_n C d_rec_push_7 rfl 0 rfl ?_
    refine j_iload_n C d_rec_push_8 rfl 2 rfl ?_
    obtain ⟨a4, h5, h⟩ := Option.bind_eq_some_iff.mp h
    obtain ⟨p6, h7, h⟩ := Option.bind_eq_some_iff.mp h
    refine j_callV C (As := [.int x2]) (st := []) (sk' := [.int p6.1]) mk_rec_isSlot (Or.inl T_445) T_447 S_7 (ci := 0) rfl h5 (rc_le hF (by decide)) (rc_le hL (by decide)) (ct_rec_isSlot h7) rfl rfl (by decide) d_rec_push_9 rfl rfl ?_
    refine j_if_ne (tgt := 23) C d_rec_push_12 (by decide) rfl (fun c8 => ?_) (fun c8 => ?_)
    · rw [if_neg c8] at h
      refine j_aload_n C d_rec_push_23 rfl 0 rfl ?_
      refine j_iload_n C d_rec_push_24 rfl 2 rfl ?_
      obtain ⟨a9, h10, h⟩ := Option.bind_eq_some_iff.mp h
      obtain ⟨p11, h12, h⟩ := Option.bind_eq_some_iff.mp h
      refine j_callV C (As := [.int x2]) (st := []) (sk' := [va_rf p11.1]) mk_rec_slotRow (Or.inl T_212) T_214 S_1 (ci := 0) rfl h10 (rc_le hF (by decide)) (rc_le hL (by decide)) (ct_rec_slotRow h12) rfl rfl (by decide) d_rec_push_25 rfl rfl ?_
      refine j_astore C (i := 5) d_rec_push_28 rfl [(5, va_rf p11.1), (0, va_rf (some a0)), (1, .int x1), (2, .int x2), (3, .int x3), (4, .int x4)] (rc_lt hN (by decide)) (by first | rfl | simp [va_rf_cat, rc_cat_i, rc_cat_l]) ?_
      refine j_iload C d_rec_push_30 rfl 5 rfl ?_
      refine j_if_lt (tgt := 51) C d_rec_push_32 (by decide) rfl (fun c13 => ?_) (fun c13 => ?_)
      · rw [if_pos c13] at h
        refine rc_J.sub (lv' := []) [] rfl ?_
        exact k_rec_push_51 hF hL hN C E h
      · rw [if_neg c13] at h
        refine j_iload_n C d_rec_push_35 rfl 4 rfl ?_
        refine j_if_lt (tgt := 51) C d_rec_push_36 (by decide) rfl (fun c14 => ?_) (fun c14 => ?_)
        · rw [if_pos c14] at h
          refine rc_J.sub (lv' := []) [] rfl ?_
          exact k_rec_push_51 hF hL hN C E h
        · rw [if_neg c14] at h
          refine j_iload_n C d_rec_push_39 rfl 4 rfl ?_
          refine j_aload C d_rec_push_40 rfl 0 rfl ?_
          obtain ⟨a15, h16, h⟩ := Option.bind_eq_some_iff.mp h
          obtain ⟨p17, h18, h⟩ := Option.bind_eq_some_iff.mp h
          refine j_callV C (As := []) (st := [.int x3]) (sk' := [.int p17.1, .int x3]) mk_row_size (Or.inl T_220) T_221 T_222 (ci := 1) rfl h16 (rc_le hF (by decide)) (rc_le hL (by decide)) (cg_row_size h18) rfl rfl (by simp [va_rf_cat, rc_cat_i, rc_cat_l]) d_rec_push_42 rfl rfl ?_
          refine j_iload C d_rec_push_45 rfl 5 rfl ?_
          refine j_isub C d_rec_push_47 rfl ?_
          refine j_icmp_le (tgt := 59) C d_rec_push_48 (by decide) rfl (fun c19 => ?_) (fun c19 => ?_)
          · rw [if_pos c19] at h
            refine j_aload_n C d_rec_push_59 rfl 1 rfl ?_
            obtain ⟨v20, h21, h⟩ := Option.bind_eq_some_iff.mp h
            refine j_getR C fl_rec_33 h21 d_rec_push_60 rfl ?_
            obtain ⟨a22, h23, h⟩ := Option.bind_eq_some_iff.mp h
            obtain ⟨w24, h25, h⟩ := Option.bind_eq_some_iff.mp h
            refine j_callV C (As := []) (st := []) (sk' := []) mk_row_clear (Or.inl T_216) T_217 T_218 (ci := 1) rfl h23 (rc_le hF (by decide)) (rc_le hL (by decide)) (cg_row_clear h25) rfl rfl (by decide) d_rec_push_63 rfl rfl ?_
            refine j_aload_n C d_rec_push_66 rfl 1 rfl ?_
            obtain ⟨v26, h27, h⟩ := Option.bind_eq_some_iff.mp h
            refine j_getR C fl_rec_33 h27 d_rec_push_67 rfl ?_
            refine j_aload C d_rec_push_70 rfl 0 rfl ?_
            refine j_iload_n C d_rec_push_72 rfl 4 rfl ?_
            refine j_iload C d_rec_push_73 rfl 5 rfl ?_
            obtain ⟨a28, h29, h⟩ := Option.bind_eq_some_iff.mp h
            obtain ⟨w30, h31, h⟩ := Option.bind_eq_some_iff.mp h
            refine j_callV C (As := [va_rf p11.1, .int x3, .int x4]) (st := []) (sk' := []) mk_row_addPart (Or.inl T_224) T_225 T_226 (ci := 1) rfl h29 (rc_le hF (by decide)) (rc_le hL (by decide)) (cg_row_addPart h31) rfl rfl (by decide) d_rec_push_75 rfl rfl ?_
            refine j_aload_n C d_rec_push_78 rfl 1 rfl ?_
            obtain ⟨v32, h33, h⟩ := Option.bind_eq_some_iff.mp h
            refine j_getR C fl_rec_22 h33 d_rec_push_79 rfl ?_
            refine j_iload_n C d_rec_push_82 rfl 2 rfl ?_
            obtain ⟨v34, h35, h⟩ := Option.bind_eq_some_iff.mp h
            refine j_aald C (kd := 5) rfl h35 d_rec_push_83 rfl ?_
            refine j_astore C (i := 6) d_rec_push_84 rfl [(6, va_rf v34), (5, va_rf p11.1), (0, va_rf (some a0)), (1, .int x1), (2, .int x2), (3, .int x3), (4, .int x4)] (rc_lt hN (by decide)) (by first | rfl | simp [va_rf_cat, rc_cat_i, rc_cat_l]) ?_
            refine j_iconst (v := 0) C d_rec_push_86 rfl (by decide) ?_
            refine j_istore C (i := 7) d_rec_push_87 rfl [(7, .int 0), (6, va_rf v34), (5, va_rf p11.1), (0, va_rf (some a0)), (1, .int x1), (2, .int x2), (3, .int x3), (4, .int x4)] (rc_lt hN (by decide)) (by first | rfl | simp [va_rf_cat, rc_cat_i, rc_cat_l]) ?_
            refine j_iconst (v := 0) C d_rec_push_89 rfl (by decide) ?_
            refine j_istore C (i := 8) d_rec_push_90 rfl [(8, .int 0), (7, .int 0), (6, va_rf v34), (5, va_rf p11.1), (0, va_rf (some a0)), (1, .int x1), (2, .int x2), (3, .int x3), (4, .int x4)] (rc_lt hN (by decide)) (by first | rfl | simp [va_rf_cat, rc_cat_i, rc_cat_l]) ?_
            refine rc_J.sub (lv' := [(0, va_rf (some a0)), (4, .int x4), (6, va_rf v34), (7, .int 0), (8, .int 0)]) [4, 8, 2, 1, 0] rfl ?_
            exact k_rec_push_92 hF hL hN C E _ _ _ _ _ _ _ h
          · rw [if_neg c19] at h
            refine rc_J.sub (lv' := []) [] rfl ?_
            exact k_rec_push_51 hF hL hN C E h
    · rw [if_pos c8] at h
      refine rc_J.sub (lv' := []) [] rfl ?_
      exact k_rec_push_15 hF hL hN C E h

set_option maxRecDepth 100000 in
set_option maxHeartbeats 4000000 in
theorem ct_rec_open {l : Launch} {G : rc_G} (hfl : l.flags = flags0) {w : rc_M} {a0 : Nat} {x1 : Int32} {res : Option Int32 × rc_M} (h : f_rec_open w a0 x1 = some res) : rc_CtT l G y_rec_open prog_1_method_8_code 2 (some .boolean) 6 90 "java/lang/IndexOutOfBoundsException" [va_rf (some a0), .int x1] w (res.1.map (fun x => some (.int x))) res.2 := by
  refine rc_enterT hfl (by decide +kernel) (by simp [lg_sl, va_rf_cat, rc_cat_i, rc_cat_l]) ?_
  intro X _ _ hN hF hL C E
  have hlv : lv_args 0 [va_rf (some a0), .int x1] = [(0, va_rf (some a0)), (1, .int x1)] := by simp [lv_args, va_rf_cat, rc_cat_i, rc_cat_l]
  rw [hlv]
  clear hlv
  unfold f_rec_open at h
  refine j_iload_n C d_rec_open_0 rfl 1 rfl ?_
  obtain ⟨p1, h2, h⟩ := Option.bind_eq_some_iff.mp h
  refine j_callS C (As := [.int x1]) (st := []) (sk' := [.int p1.1]) mk_rec_isConnection (Or.inl T_442) T_443 (rc_le hF (by decide)) (rc_le hL (by decide)) (ct_rec_isConnection h2) rfl rfl (by decide) d_rec_open_1 rfl rfl ?_
  refine j_if_ne (tgt := 15) C d_rec_open_4 (by decide) rfl (fun c3 => ?_) (fun c3 => ?_)
  · rw [if_neg c3] at h
    refine j_aload_n C d_rec_open_15 rfl 0 rfl ?_
    obtain ⟨v4, h5, h⟩ := Option.bind_eq_some_iff.mp h
    refine j_getR C fl_rec_22 h5 d_rec_open_16 rfl ?_
    refine j_iload_n C d_rec_open_19 rfl 1 rfl ?_
    obtain ⟨v6, h7, h⟩ := Option.bind_eq_some_iff.mp h
    refine j_aald C (kd := 5) rfl h7 d_rec_open_20 rfl ?_
    obtain ⟨a8, h9, h⟩ := Option.bind_eq_some_iff.mp h
    obtain ⟨p10, h11, h⟩ := Option.bind_eq_some_iff.mp h
    refine j_callV C (As := []) (st := []) (sk' := [.int p10.1]) mk_con_openAnew (Or.inl T_652) T_653 T_654 (ci := 5) rfl h9 (rc_le hF (by decide)) (rc_le hL (by decide)) (ct_con_openAnew h11) rfl rfl (by decide) d_rec_open_21 rfl rfl ?_
    obtain ⟨hz, rfl⟩ := rc_z1T_spec h
    exact j_zretT C hz E d_rec_open_24
  · rw [if_pos c3] at h
    obtain ⟨w12, h13, h⟩ := Option.bind_eq_some_iff.mp h
    cases h
    exact j_throw C (names := rc_exn) E h13 T_449 T_450 T_17 (by decide) (by decide) at_109 (rc_lt hF (by decide)) (rc_le hL (by first | decide | simp [va_rf_cat, rc_cat_i, rc_cat_l])) d_rec_open_7 d_rec_open_10 d_rec_open_11 d_rec_open_14

set_option maxRecDepth 100000 in
set_option maxHeartbeats 4000000 in
theorem ct_rec_length {l : Launch} {G : rc_G} (hfl : l.flags = flags0) {w : rc_M} {a0 : Nat} {x1 : Int32} {res : Option Int32 × rc_M} (h : f_rec_length w a0 x1 = some res) : rc_CtT l G y_rec_length prog_1_method_9_code 2 (some .int) 6 90 "java/lang/IndexOutOfBoundsException" [va_rf (some a0), .int x1] w (res.1.map (fun x => some (.int x))) res.2 := by
  refine rc_enterT hfl (by decide +kernel) (by simp [lg_sl, va_rf_cat, rc_cat_i, rc_cat_l]) ?_
  intro X _ _ hN hF hL C E
  have hlv : lv_args 0 [va_rf (some a0), .int x1] = [(0, va_rf (some a0)), (1, .int x1)] := by simp [lv_args, va_rf_cat, rc_cat_i, rc_cat_l]
  rw [hlv]
  clear hlv
  unfold f_rec_length at h
  refine j_aload_n C d_rec_length_0 rfl 0 rfl ?_
  refine j_iload_n C d_rec_length_1 rfl 1 rfl ?_
  obtain ⟨a1, h2, h⟩ := Option.bind_eq_some_iff.mp h
  obtain ⟨p3, h4, h⟩ := Option.bind_eq_some_iff.mp h
  refine j_callV C (As := [.int x1]) (st := []) (sk' := [.int p3.1]) mk_rec_isSlot (Or.inl T_445) T_447 S_7 (ci := 0) rfl h2 (rc_le hF (by decide)) (rc_le hL (by decide)) (ct_rec_isSlot h4) rfl rfl (by decide) d_rec_length_2 rfl rfl ?_
  refine j_if_ne (tgt := 16) C d_rec_length_5 (by decide) rfl (fun c5 => ?_) (fun c5 => ?_)
  · rw [if_neg c5] at h
    refine j_aload_n C d_rec_length_16 rfl 0 rfl ?_
    refine j_iload_n C d_rec_length_17 rfl 1 rfl ?_
    obtain ⟨a6, h7, h⟩ := Option.bind_eq_some_iff.mp h
    obtain ⟨p8, h9, h⟩ := Option.bind_eq_some_iff.mp h
    refine j_callV C (As := [.int x1]) (st := []) (sk' := [va_rf p8.1]) mk_rec_slotRow (Or.inl T_212) T_214 S_1 (ci := 0) rfl h7 (rc_le hF (by decide)) (rc_le hL (by decide)) (ct_rec_slotRow h9) rfl rfl (by decide) d_rec_length_18 rfl rfl ?_
    obtain ⟨a10, h11, h⟩ := Option.bind_eq_some_iff.mp h
    obtain ⟨p12, h13, h⟩ := Option.bind_eq_some_iff.mp h
    refine j_callV C (As := []) (st := []) (sk' := [.int p12.1]) mk_row_size (Or.inl T_220) T_221 T_222 (ci := 1) rfl h11 (rc_le hF (by decide)) (rc_le hL (by decide)) (cg_row_size h13) rfl rfl (by decide) d_rec_length_21 rfl rfl ?_
    cases h
    exact j_iretT C E d_rec_length_24
  · rw [if_pos c5] at h
    obtain ⟨w14, h15, h⟩ := Option.bind_eq_some_iff.mp h
    cases h
    exact j_throw C (names := rc_exn) E h15 T_449 T_450 T_17 (by decide) (by decide) at_109 (rc_lt hF (by decide)) (rc_le hL (by first | decide | simp [va_rf_cat, rc_cat_i, rc_cat_l])) d_rec_length_8 d_rec_length_11 d_rec_length_12 d_rec_length_15

set_option maxRecDepth 100000 in
set_option maxHeartbeats 4000000 in
theorem k_rec_byteAt_24 {X : rc_X} {w0 : rc_M} (hF : (q_R X).frames = 6) (hL : (q_R X).locals = 90) (hN : q_n X = 3) (C : rc_C X "RecordCalls" prog_1_method_10_code w0) {res : Option Int32 × rc_M} (E : rc_E1 X (some .int) "java/lang/IndexOutOfBoundsException" (res.1.map (fun x => some (.int x))) res.2) {w : rc_M}  (h : b_rec_byteAt_24 w  = some res) : rc_J X w 24 [] [] := by
  unfold b_rec_byteAt_24 at h
  obtain ⟨w1, h2, h⟩ := Option.bind_eq_some_iff.mp h
  cases h
  exact j_throw C (names := rc_exn) E h2 T_449 T_450 T_17 (by decide) (by decide) at_109 (rc_lt hF (by decide)) (rc_le hL (by first | decide | simp [va_rf_cat, rc_cat_i, rc_cat_l])) d_rec_byteAt_24 d_rec_byteAt_27 d_rec_byteAt_28 d_rec_byteAt_31

set_option maxRecDepth 100000 in
set_option maxHeartbeats 4000000 in
theorem ct_rec_byteAt {l : Launch} {G : rc_G} (hfl : l.flags = flags0) {w : rc_M} {a0 : Nat} {x1 : Int32} {x2 : Int32} {res : Option Int32 × rc_M} (h : f_rec_byteAt w a0 x1 x2 = some res) : rc_CtT l G y_rec_byteAt prog_1_method_10_code 3 (some .int) 6 90 "java/lang/IndexOutOfBoundsException" [va_rf (some a0), .int x1, .int x2] w (res.1.map (fun x => some (.int x))) res.2 := by
  refine rc_enterT hfl (by decide +kernel) (by simp [lg_sl, va_rf_cat, rc_cat_i, rc_cat_l]) ?_
  intro X _ _ hN hF hL C E
  have hlv : lv_args 0 [va_rf (some a0), .int x1, .int x2] = [(0, va_rf (some a0)), (1, .int x1), (2, .int x2)] := by simp [lv_args, va_rf_cat, rc_cat_i, rc_cat_l]
  rw [hlv]
  clear hlv
  unfold f_rec_byteAt at h
  refine j_aload_n C d_rec_byteAt_0 rfl 0 rfl ?_
  refine j_iload_n C d_rec_byteAt_1 rfl 1 rfl ?_
  obtain ⟨a1, h2, h⟩ := Option.bind_eq_some_iff.mp h
  obtain ⟨p3, h4, h⟩ := Option.bind_eq_some_iff.mp h
  refine j_callV C (As := [.int x1]) (st := []) (sk' := [.int p3.1]) mk_rec_isSlot (Or.inl T_445) T_447 S_7 (ci := 0) rfl h2 (rc_le hF (by decide)) (rc_le hL (by decide)) (ct_rec_isSlot h4) rfl rfl (by decide) d_rec_byteAt_2 rfl rfl ?_
  refine j_if_eq (tgt := 24) C d_rec_byteAt_5 (by decide) rfl (fun c5 => ?_) (fun c5 => ?_)
  · rw [if_pos c5] at h
    refine rc_J.sub (lv' := []) [] rfl ?_
    exact k_rec_byteAt_24 hF hL hN C E h
  · rw [if_neg c5] at h
    refine j_iload_n C d_rec_byteAt_8 rfl 2 rfl ?_
    refine j_if_lt (tgt := 24) C d_rec_byteAt_9 (by decide) rfl (fun c6 => ?_) (fun c6 => ?_)
    · rw [if_pos c6] at h
      refine rc_J.sub (lv' := []) [] rfl ?_
      exact k_rec_byteAt_24 hF hL hN C E h
    · rw [if_neg c6] at h
      refine j_iload_n C d_rec_byteAt_12 rfl 2 rfl ?_
      refine j_aload_n C d_rec_byteAt_13 rfl 0 rfl ?_
      refine j_iload_n C d_rec_byteAt_14 rfl 1 rfl ?_
      obtain ⟨a7, h8, h⟩ := Option.bind_eq_some_iff.mp h
      obtain ⟨p9, h10, h⟩ := Option.bind_eq_some_iff.mp h
      refine j_callV C (As := [.int x1]) (st := [.int x2]) (sk' := [va_rf p9.1, .int x2]) mk_rec_slotRow (Or.inl T_212) T_214 S_1 (ci := 0) rfl h8 (rc_le hF (by decide)) (rc_le hL (by decide)) (ct_rec_slotRow h10) rfl rfl (by simp [va_rf_cat, rc_cat_i, rc_cat_l]) d_rec_byteAt_15 rfl rfl ?_
      obtain ⟨a11, h12, h⟩ := Option.bind_eq_some_iff.mp h
      obtain ⟨p13, h14, h⟩ := Option.bind_eq_some_iff.mp h
      refine j_callV C (As := []) (st := [.int x2]) (sk' := [.int p13.1, .int x2]) mk_row_size (Or.inl T_220) T_221 T_222 (ci := 1) rfl h12 (rc_le hF (by decide)) (rc_le hL (by decide)) (cg_row_size h14) rfl rfl (by simp [va_rf_cat, rc_cat_i, rc_cat_l]) d_rec_byteAt_18 rfl rfl ?_
      refine j_icmp_lt (tgt := 32) C d_rec_byteAt_21 (by decide) rfl (fun c15 => ?_) (fun c15 => ?_)
      · rw [if_pos c15] at h
        refine j_aload_n C d_rec_byteAt_32 rfl 0 rfl ?_
        refine j_iload_n C d_rec_byteAt_33 rfl 1 rfl ?_
        obtain ⟨a16, h17, h⟩ := Option.bind_eq_some_iff.mp h
        obtain ⟨p18, h19, h⟩ := Option.bind_eq_some_iff.mp h
        refine j_callV C (As := [.int x1]) (st := []) (sk' := [va_rf p18.1]) mk_rec_slotRow (Or.inl T_212) T_214 S_1 (ci := 0) rfl h17 (rc_le hF (by decide)) (rc_le hL (by decide)) (ct_rec_slotRow h19) rfl rfl (by decide) d_rec_byteAt_34 rfl rfl ?_
        refine j_iload_n C d_rec_byteAt_37 rfl 2 rfl ?_
        obtain ⟨a20, h21, h⟩ := Option.bind_eq_some_iff.mp h
        obtain ⟨p22, h23, h⟩ := Option.bind_eq_some_iff.mp h
        refine j_callV C (As := [.int x2]) (st := []) (sk' := [.int p22.1]) mk_row_at (Or.inl T_464) T_273 T_274 (ci := 1) rfl h21 (rc_le hF (by decide)) (rc_le hL (by decide)) (cg_row_at h23) rfl rfl (by decide) d_rec_byteAt_38 rfl rfl ?_
        cases h
        exact j_iretT C E d_rec_byteAt_41
      · rw [if_neg c15] at h
        refine rc_J.sub (lv' := []) [] rfl ?_
        exact k_rec_byteAt_24 hF hL hN C E h

set_option maxRecDepth 100000 in
set_option maxHeartbeats 4000000 in
theorem k_rec_word_26 {X : rc_X} {w0 : rc_M} (hF : (q_R X).frames = 6) (hL : (q_R X).locals = 90) (hN : q_n X = 3) (C : rc_C X "RecordCalls" prog_1_method_11_code w0) {res : Option Int32 × rc_M} (E : rc_E1 X (some .int) "java/lang/IndexOutOfBoundsException" (res.1.map (fun x => some (.int x))) res.2) {w : rc_M}  (h : b_rec_word_26 w  = some res) : rc_J X w 26 [] [] := by
  unfold b_rec_word_26 at h
  obtain ⟨w1, h2, h⟩ := Option.bind_eq_some_iff.mp h
  cases h
  exact j_throw C (names := rc_exn) E h2 T_449 T_450 T_17 (by decide) (by decide) at_109 (rc_lt hF (by decide)) (rc_le hL (by first | decide | simp [va_rf_cat, rc_cat_i, rc_cat_l])) d_rec_word_26 d_rec_word_29 d_rec_word_30 d_rec_word_33

set_option maxRecDepth 100000 in
set_option maxHeartbeats 4000000 in
theorem ct_rec_word {l : Launch} {G : rc_G} (hfl : l.flags = flags0) {w : rc_M} {a0 : Nat} {x1 : Int32} {x2 : Int32} {res : Option Int32 × rc_M} (h : f_rec_word w a0 x1 x2 = some res) : rc_CtT l G y_rec_word prog_1_method_11_code 3 (some .int) 6 90 "java/lang/IndexOutOfBoundsException" [va_rf (some a0), .int x1, .int x2] w (res.1.map (fun x => some (.int x))) res.2 := by
  refine rc_enterT hfl (by decide +kernel) (by simp [lg_sl, va_rf_cat, rc_cat_i, rc_cat_l]) ?_
  intro X _ _ hN hF hL C E
  have hlv : lv_args 0 [va_rf (some a0), .int x1, .int x2] = [(0, va_rf (some a0)), (1, .int x1), (2, .int x2)] := by simp [lv_args, va_rf_cat, rc_cat_i, rc_cat_l]
  rw [hlv]
  clear hlv
  unfold f_rec_word at h
  refine j_aload_n C d_rec_word_0 rfl 0 rfl ?_
  refine j_iload_n C d_rec_word_1 rfl 1 rfl ?_
  obtain ⟨a1, h2, h⟩ := Option.bind_eq_some_iff.mp h
  obtain ⟨p3, h4, h⟩ := Option.bind_eq_some_iff.mp h
  refine j_callV C (As := [.int x1]) (st := []) (sk' := [.int p3.1]) mk_rec_isSlot (Or.inl T_445) T_447 S_7 (ci := 0) rfl h2 (rc_le hF (by decide)) (rc_le hL (by decide)) (ct_rec_isSlot h4) rfl rfl (by decide) d_rec_word_2 rfl rfl ?_
  refine j_if_eq (tgt := 26) C d_rec_word_5 (by decide) rfl (fun c5 => ?_) (fun c5 => ?_)
  · rw [if_pos c5] at h
    refine rc_J.sub (lv' := []) [] rfl ?_
    exact k_rec_word_26 hF hL hN C E h
  · rw [if_neg c5] at h
    refine j_iload_n C d_rec_word_8 rfl 2 rfl ?_
    refine j_if_lt (tgt := 26) C d_rec_word_9 (by decide) rfl (fun c6 => ?_) (fun c6 => ?_)
    · rw [if_pos c6] at h
      refine rc_J.sub (lv' := []) [] rfl ?_
      exact k_rec_word_26 hF hL hN C E h
    · rw [if_neg c6] at h
      refine j_iload_n C d_rec_word_12 rfl 2 rfl ?_
      refine j_aload_n C d_rec_word_13 rfl 0 rfl ?_
      refine j_iload_n C d_rec_word_14 rfl 1 rfl ?_
      obtain ⟨a7, h8, h⟩ := Option.bind_eq_some_iff.mp h
      obtain ⟨p9, h10, h⟩ := Option.bind_eq_some_iff.mp h
      refine j_callV C (As := [.int x1]) (st := [.int x2]) (sk' := [va_rf p9.1, .int x2]) mk_rec_slotRow (Or.inl T_212) T_214 S_1 (ci := 0) rfl h8 (rc_le hF (by decide)) (rc_le hL (by decide)) (ct_rec_slotRow h10) rfl rfl (by simp [va_rf_cat, rc_cat_i, rc_cat_l]) d_rec_word_15 rfl rfl ?_
      obtain ⟨a11, h12, h⟩ := Option.bind_eq_some_iff.mp h
      obtain ⟨p13, h14, h⟩ := Option.bind_eq_some_iff.mp h
      refine j_callV C (As := []) (st := [.int x2]) (sk' := [.int p13.1, .int x2]) mk_row_size (Or.inl T_220) T_221 T_222 (ci := 1) rfl h12 (rc_le hF (by decide)) (rc_le hL (by decide)) (cg_row_size h14) rfl rfl (by simp [va_rf_cat, rc_cat_i, rc_cat_l]) d_rec_word_18 rfl rfl ?_
      refine j_iconst (v := 4) C d_rec_word_21 rfl (by decide) ?_
      refine j_isub C d_rec_word_22 rfl ?_
      refine j_icmp_le (tgt := 34) C d_rec_word_23 (by decide) rfl (fun c15 => ?_) (fun c15 => ?_)
      · rw [if_pos c15] at h
        refine j_aload_n C d_rec_word_34 rfl 0 rfl ?_
        refine j_iload_n C d_rec_word_35 rfl 1 rfl ?_
        obtain ⟨a16, h17, h⟩ := Option.bind_eq_some_iff.mp h
        obtain ⟨p18, h19, h⟩ := Option.bind_eq_some_iff.mp h
        refine j_callV C (As := [.int x1]) (st := []) (sk' := [va_rf p18.1]) mk_rec_slotRow (Or.inl T_212) T_214 S_1 (ci := 0) rfl h17 (rc_le hF (by decide)) (rc_le hL (by decide)) (ct_rec_slotRow h19) rfl rfl (by decide) d_rec_word_36 rfl rfl ?_
        refine j_iload_n C d_rec_word_39 rfl 2 rfl ?_
        obtain ⟨a20, h21, h⟩ := Option.bind_eq_some_iff.mp h
        obtain ⟨p22, h23, h⟩ := Option.bind_eq_some_iff.mp h
        refine j_callV C (As := [.int x2]) (st := []) (sk' := [.int p22.1]) mk_row_wordAt (Or.inl T_678) T_483 T_484 (ci := 1) rfl h21 (rc_le hF (by decide)) (rc_le hL (by decide)) (cg_row_wordAt h23) rfl rfl (by decide) d_rec_word_40 rfl rfl ?_
        cases h
        exact j_iretT C E d_rec_word_43
      · rw [if_neg c15] at h
        refine rc_J.sub (lv' := []) [] rfl ?_
        exact k_rec_word_26 hF hL hN C E h

set_option maxRecDepth 100000 in
set_option maxHeartbeats 4000000 in
theorem k_rec_says_55 {X : rc_X} {w0 : rc_M} (hF : (q_R X).frames = 6) (hL : (q_R X).locals = 119) (hN : q_n X = 4) (C : rc_C X "RecordCalls" prog_1_method_12_code w0) {res : Option Int32 × rc_M} (E : rc_E1 X (some .int) "java/lang/IndexOutOfBoundsException" (res.1.map (fun x => some (.int x))) res.2) {w : rc_M} {x3 : Int32} (h : b_rec_says_55 w x3 = some res) : rc_J X w 55 [] [(3, .int x3)] := by
  unfold b_rec_says_55 at h
  refine j_iload_n C d_rec_says_55 rfl 0 rfl ?_
  cases h
  exact j_iretT C E d_rec_says_56

set_option maxRecDepth 100000 in
set_option maxHeartbeats 4000000 in
theorem ct_rec_says {l : Launch} {G : rc_G} (hfl : l.flags = flags0) {w : rc_M} {a0 : Nat} {x1 : Int32} {x2 : Int32} {res : Option Int32 × rc_M} (h : f_rec_says w a0 x1 x2 = some res) : rc_CtT l G y_rec_says prog_1_method_12_code 4 (some .int) 6 119 "java/lang/IndexOutOfBoundsException" [va_rf (some a0), .int x1, .int x2] w (res.1.map (fun x => some (.int x))) res.2 := by
  refine rc_enterT hfl (by decide +kernel) (by simp [lg_sl, va_rf_cat, rc_cat_i, rc_cat_l]) ?_
  intro X _ _ hN hF hL C E
  have hlv : lv_args 0 [va_rf (some a0), .int x1, .int x2] = [(0, va_rf (some a0)), (1, .int x1), (2, .int x2)] := by simp [lv_args, va_rf_cat, rc_cat_i, rc_cat_l]
  rw [hlv]
  clear hlv
  unfold f_rec_says at h
  refine j_aload_n C d_rec_says_0 rfl 0 rfl ?_
  refine j_iload_n C d_rec_says_1 rfl 1 rfl ?_
  obtain ⟨a1, h2, h⟩ := Option.bind_eq_some_iff.mp h
  obtain ⟨p3, h4, h⟩ := Option.bind_eq_some_iff.mp h
  refine j_callV C (As := [.int x1]) (st := []) (sk' := [.int p3.1]) mk_rec_isSlot (Or.inl T_445) T_447 S_7 (ci := 0) rfl h2 (rc_le hF (by decide)) (rc_le hL (by decide)) (ct_rec_isSlot h4) rfl rfl (by decide) d_rec_says_2 rfl rfl ?_
  refine j_if_ne (tgt := 16) C d_rec_says_5 (by decide) rfl (fun c5 => ?_) (fun c5 => ?_)
  · rw [if_neg c5] at h
    refine j_aload_n C d_rec_says_16 rfl 0 rfl ?_
    refine j_aload_n C d_rec_says_17 rfl 0 rfl ?_
    refine j_iload_n C d_rec_says_18 rfl 1 rfl ?_
    obtain ⟨a6, h7, h⟩ := Option.bind_eq_some_iff.mp h
    obtain ⟨p8, h9, h⟩ := Option.bind_eq_some_iff.mp h
    refine j_callV C (As := [.int x1]) (st := [va_rf (some a0)]) (sk' := [va_rf p8.1, va_rf (some a0)]) mk_rec_slotRow (Or.inl T_212) T_214 S_1 (ci := 0) rfl h7 (rc_le hF (by decide)) (rc_le hL (by decide)) (ct_rec_slotRow h9) rfl rfl (by simp [va_rf_cat, rc_cat_i, rc_cat_l]) d_rec_says_19 rfl rfl ?_
    obtain ⟨a10, h11, h⟩ := Option.bind_eq_some_iff.mp h
    obtain ⟨p12, h13, h⟩ := Option.bind_eq_some_iff.mp h
    refine j_callV C (As := [va_rf p8.1]) (st := []) (sk' := [.int p12.1]) mk_rec_isJoined (Or.inl T_686) T_688 S_23 (ci := 0) rfl h11 (rc_le hF (by decide)) (rc_le hL (by decide)) (ct_rec_isJoined h13) rfl rfl (by decide) d_rec_says_22 rfl rfl ?_
    refine j_if_ne (tgt := 30) C d_rec_says_25 (by decide) rfl (fun c14 => ?_) (fun c14 => ?_)
    · rw [if_neg c14] at h
      refine j_aload_n C d_rec_says_30 rfl 0 rfl ?_
      obtain ⟨v15, h16, h⟩ := Option.bind_eq_some_iff.mp h
      refine j_getR C fl_rec_36 h16 d_rec_says_31 rfl ?_
      obtain ⟨p17, h18, h⟩ := Option.bind_eq_some_iff.mp h
      refine j_callS C (As := [va_rf v15]) (st := []) (sk' := [.int p17.1]) mk_rec_saidBy (Or.inl T_691) T_692 (rc_le hF (by decide)) (rc_le hL (by decide)) (ct_rec_saidBy h18) rfl rfl (by decide) d_rec_says_34 rfl rfl ?_
      refine j_istore_n C (i := 3) d_rec_says_37 rfl rfl [(3, .int p17.1), (0, va_rf (some a0)), (1, .int x1), (2, .int x2)] (rc_lt hN (by decide)) (by first | rfl | simp [va_rf_cat, rc_cat_i, rc_cat_l]) ?_
      refine j_iload_n C d_rec_says_38 rfl 0 rfl ?_
      refine j_iconst (v := (-1)) C d_rec_says_39 rfl (by decide) ?_
      refine j_icmp_eq (tgt := 55) C d_rec_says_40 (by decide) rfl (fun c19 => ?_) (fun c19 => ?_)
      · rw [if_pos c19] at h
        refine rc_J.sub (lv' := [(3, .int p17.1)]) [0] rfl ?_
        exact k_rec_says_55 hF hL hN C E h
      · rw [if_neg c19] at h
        refine j_aload_n C d_rec_says_43 rfl 1 rfl ?_
        obtain ⟨v20, h21, h⟩ := Option.bind_eq_some_iff.mp h
        refine j_getR C fl_rec_36 h21 d_rec_says_44 rfl ?_
        refine j_iconst (v := 0) C d_rec_says_47 rfl (by decide) ?_
        obtain ⟨a22, h23, h⟩ := Option.bind_eq_some_iff.mp h
        obtain ⟨p24, h25, h⟩ := Option.bind_eq_some_iff.mp h
        refine j_callV C (As := [.int 0]) (st := []) (sk' := [.int p24.1]) mk_row_wordAt (Or.inl T_678) T_483 T_484 (ci := 1) rfl h23 (rc_le hF (by decide)) (rc_le hL (by decide)) (cg_row_wordAt h25) rfl rfl (by decide) d_rec_says_48 rfl rfl ?_
        refine j_iload_n C d_rec_says_51 rfl 3 rfl ?_
        refine j_icmp_ne (tgt := 57) C d_rec_says_52 (by decide) rfl (fun c26 => ?_) (fun c26 => ?_)
        · rw [if_neg c26] at h
          refine j_bipush (v := (-2)) C d_rec_says_57 rfl (by decide) ?_
          cases h
          exact j_iretT C E d_rec_says_59
        · rw [if_pos c26] at h
          refine rc_J.sub (lv' := [(3, .int p17.1)]) [0] rfl ?_
          exact k_rec_says_55 hF hL hN C E h
    · rw [if_pos c14] at h
      refine j_iconst (v := (-1)) C d_rec_says_28 rfl (by decide) ?_
      cases h
      exact j_iretT C E d_rec_says_29
  · rw [if_pos c5] at h
    obtain ⟨w27, h28, h⟩ := Option.bind_eq_some_iff.mp h
    cases h
    exact j_throw C (names := rc_exn) E h28 T_449 T_450 T_17 (by decide) (by decide) at_109 (rc_lt hF (by decide)) (rc_le hL (by first | decide | simp [va_rf_cat, rc_cat_i, rc_cat_l])) d_rec_says_8 d_rec_says_11 d_rec_says_12 d_rec_says_15

set_option maxRecDepth 100000 in
set_option maxHeartbeats 4000000 in
theorem ct_rec_count {l : Launch} {G : rc_G} (hfl : l.flags = flags0) {w : rc_M} {a0 : Nat} {x1 : Int32} {res : Option Int32 × rc_M} (h : f_rec_count w a0 x1 = some res) : rc_CtT l G y_rec_count prog_1_method_15_code 3 (some .int) 6 90 "java/lang/IllegalArgumentException" [va_rf (some a0), .int x1] w (res.1.map (fun x => some (.int x))) res.2 := by
  refine rc_enterT hfl (by decide +kernel) (by simp [lg_sl, va_rf_cat, rc_cat_i, rc_cat_l]) ?_
  intro X _ _ hN hF hL C E
  have hlv : lv_args 0 [va_rf (some a0), .int x1] = [(0, va_rf (some a0)), (1, .int x1)] := by simp [lv_args, va_rf_cat, rc_cat_i, rc_cat_l]
  rw [hlv]
  clear hlv
  unfold f_rec_count at h
  refine j_iload_n C d_rec_count_0 rfl 1 rfl ?_
  by_cases c1 : x1 = 0
  · rw [if_pos c1] at h
    refine j_tableIn C d_rec_count_1 (tgt := 36) (by rw [c1]; decide) (by rw [c1]; decide) (by rw [c1]; rfl) (by decide) ?_
    refine j_aload_n C d_rec_count_36 rfl 0 rfl ?_
    obtain ⟨v2, h3, h⟩ := Option.bind_eq_some_iff.mp h
    refine j_getI C fl_rec_39 h3 d_rec_count_37 rfl ?_
    cases h
    exact j_iretT C E d_rec_count_40
  · rw [if_neg c1] at h
    by_cases c4 : x1 = 1
    · rw [if_pos c4] at h
      refine j_tableIn C d_rec_count_1 (tgt := 41) (by rw [c4]; decide) (by rw [c4]; decide) (by rw [c4]; rfl) (by decide) ?_
      refine j_aload_n C d_rec_count_41 rfl 0 rfl ?_
      obtain ⟨v5, h6, h⟩ := Option.bind_eq_some_iff.mp h
      refine j_getR C fl_rec_29 h6 d_rec_count_42 rfl ?_
      obtain ⟨v7, h8, h⟩ := Option.bind_eq_some_iff.mp h
      refine j_getR C fl_rec_153 h8 d_rec_count_45 rfl ?_
      obtain ⟨a9, h10, h⟩ := Option.bind_eq_some_iff.mp h
      obtain ⟨p11, h12, h⟩ := Option.bind_eq_some_iff.mp h
      refine j_callV C (As := []) (st := []) (sk' := [.int p11.1]) mk_map_size (Or.inl T_707) T_611 T_612 (ci := 3) rfl h10 (rc_le hF (by decide)) (rc_le hL (by decide)) (ct_map_size h12) rfl rfl (by decide) d_rec_count_48 rfl rfl ?_
      cases h
      exact j_iretT C E d_rec_count_51
    · rw [if_neg c4] at h
      by_cases c13 : x1 = 2
      · rw [if_pos c13] at h
        refine j_tableIn C d_rec_count_1 (tgt := 52) (by rw [c13]; decide) (by rw [c13]; decide) (by rw [c13]; rfl) (by decide) ?_
        refine j_aload_n C d_rec_count_52 rfl 0 rfl ?_
        obtain ⟨v14, h15, h⟩ := Option.bind_eq_some_iff.mp h
        refine j_getR C fl_rec_29 h15 d_rec_count_53 rfl ?_
        obtain ⟨v16, h17, h⟩ := Option.bind_eq_some_iff.mp h
        refine j_getI C fl_rec_167 h17 d_rec_count_56 rfl ?_
        cases h
        exact j_iretT C E d_rec_count_59
      · rw [if_neg c13] at h
        by_cases c18 : x1 = 3
        · rw [if_pos c18] at h
          refine j_tableIn C d_rec_count_1 (tgt := 60) (by rw [c18]; decide) (by rw [c18]; decide) (by rw [c18]; rfl) (by decide) ?_
          refine j_aload_n C d_rec_count_60 rfl 0 rfl ?_
          obtain ⟨v19, h20, h⟩ := Option.bind_eq_some_iff.mp h
          refine j_getR C fl_rec_29 h20 d_rec_count_61 rfl ?_
          obtain ⟨v21, h22, h⟩ := Option.bind_eq_some_iff.mp h
          refine j_getI C fl_rec_170 h22 d_rec_count_64 rfl ?_
          cases h
          exact j_iretT C E d_rec_count_67
        · rw [if_neg c18] at h
          by_cases c23 : x1 = 4
          · rw [if_pos c23] at h
            refine j_tableIn C d_rec_count_1 (tgt := 68) (by rw [c23]; decide) (by rw [c23]; decide) (by rw [c23]; rfl) (by decide) ?_
            refine j_aload_n C d_rec_count_68 rfl 0 rfl ?_
            obtain ⟨v24, h25, h⟩ := Option.bind_eq_some_iff.mp h
            refine j_getR C fl_rec_29 h25 d_rec_count_69 rfl ?_
            obtain ⟨v26, h27, h⟩ := Option.bind_eq_some_iff.mp h
            refine j_getI C fl_rec_173 h27 d_rec_count_72 rfl ?_
            cases h
            exact j_iretT C E d_rec_count_75
          · rw [if_neg c23] at h
            refine j_tableOut C d_rec_count_1 (tgt := 76) (by have e0 := lv_neT c1 (a := 0) (by decide); have e1 := lv_neT c4 (a := 1) (by decide); have e2 := lv_neT c13 (a := 2) (by decide); have e3 := lv_neT c18 (a := 3) (by decide); have e4 := lv_neT c23 (a := 4) (by decide); omega) (by decide) ?_
            refine j_iload_n C d_rec_count_76 rfl 1 rfl ?_
            refine j_iconst (v := 5) C d_rec_count_77 rfl (by decide) ?_
            refine j_isub C d_rec_count_78 rfl ?_
            refine j_istore_n C (i := 2) d_rec_count_79 rfl rfl [(2, .int (x1 - 5)), (0, va_rf (some a0)), (1, .int x1)] (rc_lt hN (by decide)) (by first | rfl | simp [va_rf_cat, rc_cat_i, rc_cat_l]) ?_
            refine j_iload_n C d_rec_count_80 rfl 0 rfl ?_
            obtain ⟨p28, h29, h⟩ := Option.bind_eq_some_iff.mp h
            refine j_callS C (As := [.int (x1 - 5)]) (st := []) (sk' := [.int p28.1]) mk_rec_isConnection (Or.inl T_442) T_443 (rc_le hF (by decide)) (rc_le hL (by decide)) (ct_rec_isConnection h29) rfl rfl (by decide) d_rec_count_81 rfl rfl ?_
            refine j_if_ne (tgt := 95) C d_rec_count_84 (by decide) rfl (fun c30 => ?_) (fun c30 => ?_)
            · rw [if_neg c30] at h
              refine j_aload_n C d_rec_count_95 rfl 1 rfl ?_
              obtain ⟨v31, h32, h⟩ := Option.bind_eq_some_iff.mp h
              refine j_getR C fl_rec_22 h32 d_rec_count_96 rfl ?_
              refine j_iload_n C d_rec_count_99 rfl 0 rfl ?_
              obtain ⟨v33, h34, h⟩ := Option.bind_eq_some_iff.mp h
              refine j_aald C (kd := 5) rfl h34 d_rec_count_100 rfl ?_
              obtain ⟨a35, h36, h⟩ := Option.bind_eq_some_iff.mp h
              obtain ⟨p37, h38, h⟩ := Option.bind_eq_some_iff.mp h
              refine j_callV C (As := []) (st := []) (sk' := [.int p37.1]) mk_con_bytesWaiting (Or.inl T_708) T_709 T_710 (ci := 5) rfl h36 (rc_le hF (by decide)) (rc_le hL (by decide)) (ct_con_bytesWaiting h38) rfl rfl (by decide) d_rec_count_101 rfl rfl ?_
              cases h
              exact j_iretT C E d_rec_count_104
            · rw [if_pos c30] at h
              obtain ⟨w39, h40, h⟩ := Option.bind_eq_some_iff.mp h
              cases h
              exact j_throw C (names := rc_exn) E h40 T_371 T_372 T_16 (by decide) (by decide) at_57 (rc_lt hF (by decide)) (rc_le hL (by first | decide | simp [va_rf_cat, rc_cat_i, rc_cat_l])) d_rec_count_87 d_rec_count_90 d_rec_count_91 d_rec_count_94

