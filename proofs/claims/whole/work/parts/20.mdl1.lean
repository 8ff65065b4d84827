theorem fl_mdl_7 : rc_FL "RecordCallsModel" 7 7 1 := ⟨by decide, by decide, Or.inl T_720⟩
theorem fl_mdl_14 : rc_FL "RecordCallsModel" 14 7 3 := ⟨by decide, by decide, Or.inl T_722⟩
theorem fl_mdl_18 : rc_FL "RecordCallsModel" 18 7 4 := ⟨by decide, by decide, Or.inl T_723⟩
theorem fl_mdl_34 : rc_FL "RecordCallsModel" 34 7 11 := ⟨by decide, by decide, Or.inl T_730⟩
theorem fl_mdl_37 : rc_FL "RecordCallsModel" 37 7 12 := ⟨by decide, by decide, Or.inl T_731⟩
theorem fl_mdl_40 : rc_FL "RecordCallsModel" 40 7 13 := ⟨by decide, by decide, Or.inl T_732⟩
theorem fl_mdl_43 : rc_FL "RecordCallsModel" 43 7 14 := ⟨by decide, by decide, Or.inl T_733⟩
theorem fl_mdl_46 : rc_FL "RecordCallsModel" 46 7 15 := ⟨by decide, by decide, Or.inl T_734⟩
theorem fl_mdl_49 : rc_FL "RecordCallsModel" 49 7 16 := ⟨by decide, by decide, Or.inl T_735⟩
theorem fl_mdl_53 : rc_FL "RecordCallsModel" 53 7 17 := ⟨by decide, by decide, Or.inl T_736⟩
theorem fl_mdl_56 : rc_FL "RecordCallsModel" 56 7 18 := ⟨by decide, by decide, Or.inl T_737⟩
theorem fl_mdl_74 : rc_FL "RecordCallsModel" 74 7 0 := ⟨by decide, by decide, Or.inl T_719⟩
theorem fl_mdl_78 : rc_FL "RecordCallsModel" 78 7 5 := ⟨by decide, by decide, Or.inl T_724⟩
theorem fl_mdl_93 : rc_FL "RecordCallsModel" 93 7 2 := ⟨by decide, by decide, Or.inl T_721⟩
theorem d_mdl_init_0 : decode prog_9_method_1_code 0 = .ok (.aload_n 0, 1) := by decide +kernel
theorem d_mdl_init_1 : decode prog_9_method_1_code 1 = .ok (.invokespecial 1, 3) := by decide +kernel
theorem d_mdl_init_4 : decode prog_9_method_1_code 4 = .ok (.aload_n 0, 1) := by decide +kernel
theorem d_mdl_init_5 : decode prog_9_method_1_code 5 = .ok (.sipush 1600, 3) := by decide +kernel
theorem d_mdl_init_8 : decode prog_9_method_1_code 8 = .ok (.newarray .int, 2) := by decide +kernel
theorem d_mdl_init_10 : decode prog_9_method_1_code 10 = .ok (.putfield 7, 3) := by decide +kernel
theorem d_mdl_init_13 : decode prog_9_method_1_code 13 = .ok (.aload_n 0, 1) := by decide +kernel
theorem d_mdl_init_14 : decode prog_9_method_1_code 14 = .ok (.ldc 13, 2) := by decide +kernel
theorem d_mdl_init_16 : decode prog_9_method_1_code 16 = .ok (.newarray .byte, 2) := by decide +kernel
theorem d_mdl_init_18 : decode prog_9_method_1_code 18 = .ok (.putfield 14, 3) := by decide +kernel
theorem d_mdl_init_21 : decode prog_9_method_1_code 21 = .ok (.aload_n 0, 1) := by decide +kernel
theorem d_mdl_init_22 : decode prog_9_method_1_code 22 = .ok (.bipush 64, 2) := by decide +kernel
theorem d_mdl_init_24 : decode prog_9_method_1_code 24 = .ok (.newarray .int, 2) := by decide +kernel
theorem d_mdl_init_26 : decode prog_9_method_1_code 26 = .ok (.putfield 18, 3) := by decide +kernel
theorem d_mdl_init_29 : decode prog_9_method_1_code 29 = .ok (.aload_n 0, 1) := by decide +kernel
theorem d_mdl_init_30 : decode prog_9_method_1_code 30 = .ok (.sipush 1600, 3) := by decide +kernel
theorem d_mdl_init_33 : decode prog_9_method_1_code 33 = .ok (.newarray .byte, 2) := by decide +kernel
theorem d_mdl_init_35 : decode prog_9_method_1_code 35 = .ok (.putfield 21, 3) := by decide +kernel
theorem d_mdl_init_38 : decode prog_9_method_1_code 38 = .ok (.aload_n 0, 1) := by decide +kernel
theorem d_mdl_init_39 : decode prog_9_method_1_code 39 = .ok (.sipush 656, 3) := by decide +kernel
theorem d_mdl_init_42 : decode prog_9_method_1_code 42 = .ok (.newarray .byte, 2) := by decide +kernel
theorem d_mdl_init_44 : decode prog_9_method_1_code 44 = .ok (.putfield 24, 3) := by decide +kernel
theorem d_mdl_init_47 : decode prog_9_method_1_code 47 = .ok (.aload_n 0, 1) := by decide +kernel
theorem d_mdl_init_48 : decode prog_9_method_1_code 48 = .ok (.bipush 41, 2) := by decide +kernel
theorem d_mdl_init_50 : decode prog_9_method_1_code 50 = .ok (.newarray .int, 2) := by decide +kernel
theorem d_mdl_init_52 : decode prog_9_method_1_code 52 = .ok (.putfield 27, 3) := by decide +kernel
theorem d_mdl_init_55 : decode prog_9_method_1_code 55 = .ok (.aload_n 0, 1) := by decide +kernel
theorem d_mdl_init_56 : decode prog_9_method_1_code 56 = .ok (.bipush 41, 2) := by decide +kernel
theorem d_mdl_init_58 : decode prog_9_method_1_code 58 = .ok (.newarray .long, 2) := by decide +kernel
theorem d_mdl_init_60 : decode prog_9_method_1_code 60 = .ok (.putfield 30, 3) := by decide +kernel
theorem d_mdl_init_63 : decode prog_9_method_1_code 63 = .ok (.aload_n 0, 1) := by decide +kernel
theorem d_mdl_init_64 : decode prog_9_method_1_code 64 = .ok (.sipush 4800, 3) := by decide +kernel
theorem d_mdl_init_67 : decode prog_9_method_1_code 67 = .ok (.newarray .byte, 2) := by decide +kernel
theorem d_mdl_init_69 : decode prog_9_method_1_code 69 = .ok (.putfield 34, 3) := by decide +kernel
theorem d_mdl_init_72 : decode prog_9_method_1_code 72 = .ok (.aload_n 0, 1) := by decide +kernel
theorem d_mdl_init_73 : decode prog_9_method_1_code 73 = .ok (.iconst 4, 1) := by decide +kernel
theorem d_mdl_init_74 : decode prog_9_method_1_code 74 = .ok (.newarray .int, 2) := by decide +kernel
theorem d_mdl_init_76 : decode prog_9_method_1_code 76 = .ok (.putfield 37, 3) := by decide +kernel
theorem d_mdl_init_79 : decode prog_9_method_1_code 79 = .ok (.aload_n 0, 1) := by decide +kernel
theorem d_mdl_init_80 : decode prog_9_method_1_code 80 = .ok (.iconst 4, 1) := by decide +kernel
theorem d_mdl_init_81 : decode prog_9_method_1_code 81 = .ok (.newarray .int, 2) := by decide +kernel
theorem d_mdl_init_83 : decode prog_9_method_1_code 83 = .ok (.putfield 40, 3) := by decide +kernel
theorem d_mdl_init_86 : decode prog_9_method_1_code 86 = .ok (.aload_n 0, 1) := by decide +kernel
theorem d_mdl_init_87 : decode prog_9_method_1_code 87 = .ok (.iconst 4, 1) := by decide +kernel
theorem d_mdl_init_88 : decode prog_9_method_1_code 88 = .ok (.newarray .int, 2) := by decide +kernel
theorem d_mdl_init_90 : decode prog_9_method_1_code 90 = .ok (.putfield 43, 3) := by decide +kernel
theorem d_mdl_init_93 : decode prog_9_method_1_code 93 = .ok (.aload_n 0, 1) := by decide +kernel
theorem d_mdl_init_94 : decode prog_9_method_1_code 94 = .ok (.iconst 4, 1) := by decide +kernel
theorem d_mdl_init_95 : decode prog_9_method_1_code 95 = .ok (.newarray .int, 2) := by decide +kernel
theorem d_mdl_init_97 : decode prog_9_method_1_code 97 = .ok (.putfield 46, 3) := by decide +kernel
theorem d_mdl_init_100 : decode prog_9_method_1_code 100 = .ok (.aload_n 0, 1) := by decide +kernel
theorem d_mdl_init_101 : decode prog_9_method_1_code 101 = .ok (.iconst 4, 1) := by decide +kernel
theorem d_mdl_init_102 : decode prog_9_method_1_code 102 = .ok (.newarray .boolean, 2) := by decide +kernel
theorem d_mdl_init_104 : decode prog_9_method_1_code 104 = .ok (.putfield 49, 3) := by decide +kernel
theorem d_mdl_init_107 : decode prog_9_method_1_code 107 = .ok (.aload_n 0, 1) := by decide +kernel
theorem d_mdl_init_108 : decode prog_9_method_1_code 108 = .ok (.iconst 4, 1) := by decide +kernel
theorem d_mdl_init_109 : decode prog_9_method_1_code 109 = .ok (.newarray .boolean, 2) := by decide +kernel
theorem d_mdl_init_111 : decode prog_9_method_1_code 111 = .ok (.putfield 53, 3) := by decide +kernel
theorem d_mdl_init_114 : decode prog_9_method_1_code 114 = .ok (.aload_n 0, 1) := by decide +kernel
theorem d_mdl_init_115 : decode prog_9_method_1_code 115 = .ok (.iconst 4, 1) := by decide +kernel
theorem d_mdl_init_116 : decode prog_9_method_1_code 116 = .ok (.newarray .boolean, 2) := by decide +kernel
theorem d_mdl_init_118 : decode prog_9_method_1_code 118 = .ok (.putfield 56, 3) := by decide +kernel
theorem d_mdl_init_121 : decode prog_9_method_1_code 121 = .ok (.aload_n 0, 1) := by decide +kernel
theorem d_mdl_init_122 : decode prog_9_method_1_code 122 = .ok (.bipush 32, 2) := by decide +kernel
theorem d_mdl_init_124 : decode prog_9_method_1_code 124 = .ok (.newarray .int, 2) := by decide +kernel
theorem d_mdl_init_126 : decode prog_9_method_1_code 126 = .ok (.putfield 59, 3) := by decide +kernel
theorem d_mdl_init_129 : decode prog_9_method_1_code 129 = .ok (.aload_n 0, 1) := by decide +kernel
theorem d_mdl_init_130 : decode prog_9_method_1_code 130 = .ok (.bipush 32, 2) := by decide +kernel
theorem d_mdl_init_132 : decode prog_9_method_1_code 132 = .ok (.newarray .int, 2) := by decide +kernel
theorem d_mdl_init_134 : decode prog_9_method_1_code 134 = .ok (.putfield 62, 3) := by decide +kernel
theorem d_mdl_init_137 : decode prog_9_method_1_code 137 = .ok (.aload_n 0, 1) := by decide +kernel
theorem d_mdl_init_138 : decode prog_9_method_1_code 138 = .ok (.sipush 12800, 3) := by decide +kernel
theorem d_mdl_init_141 : decode prog_9_method_1_code 141 = .ok (.newarray .byte, 2) := by decide +kernel
theorem d_mdl_init_143 : decode prog_9_method_1_code 143 = .ok (.putfield 65, 3) := by decide +kernel
theorem d_mdl_init_146 : decode prog_9_method_1_code 146 = .ok (.aload_n 0, 1) := by decide +kernel
theorem d_mdl_init_147 : decode prog_9_method_1_code 147 = .ok (.iconst 4, 1) := by decide +kernel
theorem d_mdl_init_148 : decode prog_9_method_1_code 148 = .ok (.newarray .int, 2) := by decide +kernel
theorem d_mdl_init_150 : decode prog_9_method_1_code 150 = .ok (.putfield 68, 3) := by decide +kernel
theorem d_mdl_init_153 : decode prog_9_method_1_code 153 = .ok (.aload_n 0, 1) := by decide +kernel
theorem d_mdl_init_154 : decode prog_9_method_1_code 154 = .ok (.sipush 400, 3) := by decide +kernel
theorem d_mdl_init_157 : decode prog_9_method_1_code 157 = .ok (.newarray .byte, 2) := by decide +kernel
theorem d_mdl_init_159 : decode prog_9_method_1_code 159 = .ok (.putfield 71, 3) := by decide +kernel
theorem d_mdl_init_162 : decode prog_9_method_1_code 162 = .ok (.return_, 1) := by decide +kernel
theorem d_mdl_thrown_0 : decode prog_9_method_2_code 0 = .ok (.aload_n 0, 1) := by decide +kernel
theorem d_mdl_thrown_1 : decode prog_9_method_2_code 1 = .ok (.getfield 74, 3) := by decide +kernel
theorem d_mdl_thrown_4 : decode prog_9_method_2_code 4 = .ok (.ireturn, 1) := by decide +kernel
theorem d_mdl_isSlot_0 : decode prog_9_method_3_code 0 = .ok (.iload_n 1, 1) := by decide +kernel
theorem d_mdl_isSlot_1 : decode prog_9_method_3_code 1 = .ok (.ifCond .lt 26, 3) := by decide +kernel
theorem d_mdl_isSlot_4 : decode prog_9_method_3_code 4 = .ok (.iload_n 1, 1) := by decide +kernel
theorem d_mdl_isSlot_5 : decode prog_9_method_3_code 5 = .ok (.aload_n 0, 1) := by decide +kernel
theorem d_mdl_isSlot_6 : decode prog_9_method_3_code 6 = .ok (.getfield 78, 3) := by decide +kernel
theorem d_mdl_isSlot_9 : decode prog_9_method_3_code 9 = .ok (.if_icmp .ge 18, 3) := by decide +kernel
theorem d_mdl_isSlot_12 : decode prog_9_method_3_code 12 = .ok (.iload_n 1, 1) := by decide +kernel
theorem d_mdl_isSlot_13 : decode prog_9_method_3_code 13 = .ok (.aload_n 0, 1) := by decide +kernel
theorem d_mdl_isSlot_14 : decode prog_9_method_3_code 14 = .ok (.getfield 78, 3) := by decide +kernel
theorem d_mdl_isSlot_17 : decode prog_9_method_3_code 17 = .ok (.bipush 64, 2) := by decide +kernel
theorem d_mdl_isSlot_19 : decode prog_9_method_3_code 19 = .ok (.isub, 1) := by decide +kernel
theorem d_mdl_isSlot_20 : decode prog_9_method_3_code 20 = .ok (.if_icmp .lt 7, 3) := by decide +kernel
theorem d_mdl_isSlot_23 : decode prog_9_method_3_code 23 = .ok (.iconst 1, 1) := by decide +kernel
theorem d_mdl_isSlot_24 : decode prog_9_method_3_code 24 = .ok (.goto 4, 3) := by decide +kernel
theorem d_mdl_isSlot_27 : decode prog_9_method_3_code 27 = .ok (.iconst 0, 1) := by decide +kernel
theorem d_mdl_isSlot_28 : decode prog_9_method_3_code 28 = .ok (.ireturn, 1) := by decide +kernel
theorem d_mdl_base_0 : decode prog_9_method_4_code 0 = .ok (.sipush 1600, 3) := by decide +kernel
theorem d_mdl_base_3 : decode prog_9_method_4_code 3 = .ok (.iload_n 0, 1) := by decide +kernel
theorem d_mdl_base_4 : decode prog_9_method_4_code 4 = .ok (.bipush 64, 2) := by decide +kernel
theorem d_mdl_base_6 : decode prog_9_method_4_code 6 = .ok (.irem, 1) := by decide +kernel
theorem d_mdl_base_7 : decode prog_9_method_4_code 7 = .ok (.imul, 1) := by decide +kernel
theorem d_mdl_base_8 : decode prog_9_method_4_code 8 = .ok (.ireturn, 1) := by decide +kernel
theorem d_mdl_newSlot_0 : decode prog_9_method_5_code 0 = .ok (.aload_n 0, 1) := by decide +kernel
theorem d_mdl_newSlot_1 : decode prog_9_method_5_code 1 = .ok (.getfield 18, 3) := by decide +kernel
theorem d_mdl_newSlot_4 : decode prog_9_method_5_code 4 = .ok (.aload_n 0, 1) := by decide +kernel
theorem d_mdl_newSlot_5 : decode prog_9_method_5_code 5 = .ok (.getfield 78, 3) := by decide +kernel
theorem d_mdl_newSlot_8 : decode prog_9_method_5_code 8 = .ok (.bipush 64, 2) := by decide +kernel
theorem d_mdl_newSlot_10 : decode prog_9_method_5_code 10 = .ok (.irem, 1) := by decide +kernel
theorem d_mdl_newSlot_11 : decode prog_9_method_5_code 11 = .ok (.iconst 0, 1) := by decide +kernel
theorem d_mdl_newSlot_12 : decode prog_9_method_5_code 12 = .ok (.iastore, 1) := by decide +kernel
theorem d_mdl_newSlot_13 : decode prog_9_method_5_code 13 = .ok (.aload_n 0, 1) := by decide +kernel
theorem d_mdl_newSlot_14 : decode prog_9_method_5_code 14 = .ok (.dup, 1) := by decide +kernel
theorem d_mdl_newSlot_15 : decode prog_9_method_5_code 15 = .ok (.getfield 78, 3) := by decide +kernel
theorem d_mdl_newSlot_18 : decode prog_9_method_5_code 18 = .ok (.iconst 1, 1) := by decide +kernel
theorem d_mdl_newSlot_19 : decode prog_9_method_5_code 19 = .ok (.iadd, 1) := by decide +kernel
theorem d_mdl_newSlot_20 : decode prog_9_method_5_code 20 = .ok (.putfield 78, 3) := by decide +kernel
theorem d_mdl_newSlot_23 : decode prog_9_method_5_code 23 = .ok (.aload_n 0, 1) := by decide +kernel
theorem d_mdl_newSlot_24 : decode prog_9_method_5_code 24 = .ok (.getfield 78, 3) := by decide +kernel
theorem d_mdl_newSlot_27 : decode prog_9_method_5_code 27 = .ok (.iconst 1, 1) := by decide +kernel
theorem d_mdl_newSlot_28 : decode prog_9_method_5_code 28 = .ok (.isub, 1) := by decide +kernel
theorem d_mdl_newSlot_29 : decode prog_9_method_5_code 29 = .ok (.ireturn, 1) := by decide +kernel
theorem d_mdl_slotByte_0 : decode prog_9_method_6_code 0 = .ok (.aload_n 0, 1) := by decide +kernel
theorem d_mdl_slotByte_1 : decode prog_9_method_6_code 1 = .ok (.getfield 14, 3) := by decide +kernel
theorem d_mdl_slotByte_4 : decode prog_9_method_6_code 4 = .ok (.iload_n 1, 1) := by decide +kernel
theorem d_mdl_slotByte_5 : decode prog_9_method_6_code 5 = .ok (.invokestatic 81, 3) := by decide +kernel
theorem d_mdl_slotByte_8 : decode prog_9_method_6_code 8 = .ok (.aload_n 0, 1) := by decide +kernel
theorem d_mdl_slotByte_9 : decode prog_9_method_6_code 9 = .ok (.getfield 18, 3) := by decide +kernel
theorem d_mdl_slotByte_12 : decode prog_9_method_6_code 12 = .ok (.iload_n 1, 1) := by decide +kernel
theorem d_mdl_slotByte_13 : decode prog_9_method_6_code 13 = .ok (.bipush 64, 2) := by decide +kernel
theorem d_mdl_slotByte_15 : decode prog_9_method_6_code 15 = .ok (.irem, 1) := by decide +kernel
theorem d_mdl_slotByte_16 : decode prog_9_method_6_code 16 = .ok (.iaload, 1) := by decide +kernel
theorem d_mdl_slotByte_17 : decode prog_9_method_6_code 17 = .ok (.iadd, 1) := by decide +kernel
theorem d_mdl_slotByte_18 : decode prog_9_method_6_code 18 = .ok (.iload_n 2, 1) := by decide +kernel
theorem d_mdl_slotByte_19 : decode prog_9_method_6_code 19 = .ok (.i2b, 1) := by decide +kernel
theorem d_mdl_slotByte_20 : decode prog_9_method_6_code 20 = .ok (.bastore, 1) := by decide +kernel
theorem d_mdl_slotByte_21 : decode prog_9_method_6_code 21 = .ok (.aload_n 0, 1) := by decide +kernel
theorem d_mdl_slotByte_22 : decode prog_9_method_6_code 22 = .ok (.getfield 18, 3) := by decide +kernel
theorem d_mdl_slotByte_25 : decode prog_9_method_6_code 25 = .ok (.iload_n 1, 1) := by decide +kernel
theorem d_mdl_slotByte_26 : decode prog_9_method_6_code 26 = .ok (.bipush 64, 2) := by decide +kernel
theorem d_mdl_slotByte_28 : decode prog_9_method_6_code 28 = .ok (.irem, 1) := by decide +kernel
theorem d_mdl_slotByte_29 : decode prog_9_method_6_code 29 = .ok (.dup2, 1) := by decide +kernel
theorem d_mdl_slotByte_30 : decode prog_9_method_6_code 30 = .ok (.iaload, 1) := by decide +kernel
theorem d_mdl_slotByte_31 : decode prog_9_method_6_code 31 = .ok (.iconst 1, 1) := by decide +kernel
theorem d_mdl_slotByte_32 : decode prog_9_method_6_code 32 = .ok (.iadd, 1) := by decide +kernel
theorem d_mdl_slotByte_33 : decode prog_9_method_6_code 33 = .ok (.iastore, 1) := by decide +kernel
theorem d_mdl_slotByte_34 : decode prog_9_method_6_code 34 = .ok (.return_, 1) := by decide +kernel
theorem d_mdl_slotWord_0 : decode prog_9_method_7_code 0 = .ok (.bipush 24, 2) := by decide +kernel
theorem d_mdl_slotWord_2 : decode prog_9_method_7_code 2 = .ok (.istore_n 3, 1) := by decide +kernel
theorem d_mdl_slotWord_3 : decode prog_9_method_7_code 3 = .ok (.iload_n 3, 1) := by decide +kernel
theorem d_mdl_slotWord_4 : decode prog_9_method_7_code 4 = .ok (.ifCond .lt 19, 3) := by decide +kernel
theorem d_mdl_slotWord_7 : decode prog_9_method_7_code 7 = .ok (.aload_n 0, 1) := by decide +kernel
theorem d_mdl_slotWord_8 : decode prog_9_method_7_code 8 = .ok (.iload_n 1, 1) := by decide +kernel
theorem d_mdl_slotWord_9 : decode prog_9_method_7_code 9 = .ok (.iload_n 2, 1) := by decide +kernel
theorem d_mdl_slotWord_10 : decode prog_9_method_7_code 10 = .ok (.iload_n 3, 1) := by decide +kernel
theorem d_mdl_slotWord_11 : decode prog_9_method_7_code 11 = .ok (.ishr, 1) := by decide +kernel
theorem d_mdl_slotWord_12 : decode prog_9_method_7_code 12 = .ok (.invokevirtual 85, 3) := by decide +kernel
theorem d_mdl_slotWord_15 : decode prog_9_method_7_code 15 = .ok (.iload_n 3, 1) := by decide +kernel
theorem d_mdl_slotWord_16 : decode prog_9_method_7_code 16 = .ok (.bipush 8, 2) := by decide +kernel
theorem d_mdl_slotWord_18 : decode prog_9_method_7_code 18 = .ok (.isub, 1) := by decide +kernel
theorem d_mdl_slotWord_19 : decode prog_9_method_7_code 19 = .ok (.istore_n 3, 1) := by decide +kernel
theorem d_mdl_slotWord_20 : decode prog_9_method_7_code 20 = .ok (.goto (-17), 3) := by decide +kernel
theorem d_mdl_slotWord_23 : decode prog_9_method_7_code 23 = .ok (.return_, 1) := by decide +kernel
theorem d_mdl_raw_0 : decode prog_9_method_8_code 0 = .ok (.aload_n 0, 1) := by decide +kernel
theorem d_mdl_raw_1 : decode prog_9_method_8_code 1 = .ok (.iconst 0, 1) := by decide +kernel
theorem d_mdl_raw_2 : decode prog_9_method_8_code 2 = .ok (.putfield 74, 3) := by decide +kernel
theorem d_mdl_raw_5 : decode prog_9_method_8_code 5 = .ok (.aload_n 0, 1) := by decide +kernel
theorem d_mdl_raw_6 : decode prog_9_method_8_code 6 = .ok (.invokevirtual 89, 3) := by decide +kernel
theorem d_mdl_raw_9 : decode prog_9_method_8_code 9 = .ok (.istore_n 1, 1) := by decide +kernel
theorem d_mdl_raw_10 : decode prog_9_method_8_code 10 = .ok (.iconst 0, 1) := by decide +kernel
theorem d_mdl_raw_11 : decode prog_9_method_8_code 11 = .ok (.istore_n 2, 1) := by decide +kernel
theorem d_mdl_raw_12 : decode prog_9_method_8_code 12 = .ok (.iload_n 2, 1) := by decide +kernel
theorem d_mdl_raw_13 : decode prog_9_method_8_code 13 = .ok (.aload_n 0, 1) := by decide +kernel
theorem d_mdl_raw_14 : decode prog_9_method_8_code 14 = .ok (.getfield 93, 3) := by decide +kernel
theorem d_mdl_raw_17 : decode prog_9_method_8_code 17 = .ok (.if_icmp .ge 20, 3) := by decide +kernel
theorem d_mdl_raw_20 : decode prog_9_method_8_code 20 = .ok (.aload_n 0, 1) := by decide +kernel
theorem d_mdl_raw_21 : decode prog_9_method_8_code 21 = .ok (.iload_n 1, 1) := by decide +kernel
theorem d_mdl_raw_22 : decode prog_9_method_8_code 22 = .ok (.aload_n 0, 1) := by decide +kernel
theorem d_mdl_raw_23 : decode prog_9_method_8_code 23 = .ok (.getfield 7, 3) := by decide +kernel
theorem d_mdl_raw_26 : decode prog_9_method_8_code 26 = .ok (.iload_n 2, 1) := by decide +kernel
theorem d_mdl_raw_27 : decode prog_9_method_8_code 27 = .ok (.iaload, 1) := by decide +kernel
theorem d_mdl_raw_28 : decode prog_9_method_8_code 28 = .ok (.invokevirtual 85, 3) := by decide +kernel
theorem d_mdl_raw_31 : decode prog_9_method_8_code 31 = .ok (.iinc 2 1, 3) := by decide +kernel
theorem d_mdl_raw_34 : decode prog_9_method_8_code 34 = .ok (.goto (-22), 3) := by decide +kernel
theorem d_mdl_raw_37 : decode prog_9_method_8_code 37 = .ok (.aload_n 0, 1) := by decide +kernel
theorem d_mdl_raw_38 : decode prog_9_method_8_code 38 = .ok (.iconst 0, 1) := by decide +kernel
theorem d_mdl_raw_39 : decode prog_9_method_8_code 39 = .ok (.putfield 93, 3) := by decide +kernel
theorem d_mdl_raw_42 : decode prog_9_method_8_code 42 = .ok (.iload_n 1, 1) := by decide +kernel
theorem d_mdl_raw_43 : decode prog_9_method_8_code 43 = .ok (.ireturn, 1) := by decide +kernel
theorem d_mdl_record_0 : decode prog_9_method_9_code 0 = .ok (.iload_n 1, 1) := by decide +kernel
theorem d_mdl_record_1 : decode prog_9_method_9_code 1 = .ok (.iconst 1, 1) := by decide +kernel
theorem d_mdl_record_2 : decode prog_9_method_9_code 2 = .ok (.if_icmp .ge 7, 3) := by decide +kernel
theorem d_mdl_record_5 : decode prog_9_method_9_code 5 = .ok (.iconst 0, 1) := by decide +kernel
theorem d_mdl_record_6 : decode prog_9_method_9_code 6 = .ok (.goto 24, 3) := by decide +kernel
theorem d_mdl_record_9 : decode prog_9_method_9_code 9 = .ok (.aload_n 0, 1) := by decide +kernel
theorem d_mdl_record_10 : decode prog_9_method_9_code 10 = .ok (.getfield 93, 3) := by decide +kernel
theorem d_mdl_record_13 : decode prog_9_method_9_code 13 = .ok (.ifCond .ne 7, 3) := by decide +kernel
theorem d_mdl_record_16 : decode prog_9_method_9_code 16 = .ok (.iconst 1, 1) := by decide +kernel
theorem d_mdl_record_17 : decode prog_9_method_9_code 17 = .ok (.goto 13, 3) := by decide +kernel
theorem d_mdl_record_20 : decode prog_9_method_9_code 20 = .ok (.aload_n 0, 1) := by decide +kernel
theorem d_mdl_record_21 : decode prog_9_method_9_code 21 = .ok (.getfield 93, 3) := by decide +kernel
theorem d_mdl_record_24 : decode prog_9_method_9_code 24 = .ok (.iconst 1, 1) := by decide +kernel
theorem d_mdl_record_25 : decode prog_9_method_9_code 25 = .ok (.isub, 1) := by decide +kernel
theorem d_mdl_record_26 : decode prog_9_method_9_code 26 = .ok (.iload_n 1, 1) := by decide +kernel
theorem d_mdl_record_27 : decode prog_9_method_9_code 27 = .ok (.idiv, 1) := by decide +kernel
theorem d_mdl_record_28 : decode prog_9_method_9_code 28 = .ok (.iconst 1, 1) := by decide +kernel
theorem d_mdl_record_29 : decode prog_9_method_9_code 29 = .ok (.iadd, 1) := by decide +kernel
theorem d_mdl_record_30 : decode prog_9_method_9_code 30 = .ok (.istore_n 2, 1) := by decide +kernel
theorem d_mdl_record_31 : decode prog_9_method_9_code 31 = .ok (.aload_n 0, 1) := by decide +kernel
theorem d_mdl_record_32 : decode prog_9_method_9_code 32 = .ok (.iload_n 1, 1) := by decide +kernel
theorem d_mdl_record_33 : decode prog_9_method_9_code 33 = .ok (.iconst 1, 1) := by decide +kernel
theorem d_mdl_record_34 : decode prog_9_method_9_code 34 = .ok (.if_icmp .lt 17, 3) := by decide +kernel
theorem d_mdl_record_37 : decode prog_9_method_9_code 37 = .ok (.aload_n 0, 1) := by decide +kernel
theorem d_mdl_record_38 : decode prog_9_method_9_code 38 = .ok (.getfield 93, 3) := by decide +kernel
theorem d_mdl_record_41 : decode prog_9_method_9_code 41 = .ok (.iconst 4, 1) := by decide +kernel
theorem d_mdl_record_42 : decode prog_9_method_9_code 42 = .ok (.iload_n 2, 1) := by decide +kernel
theorem d_mdl_record_43 : decode prog_9_method_9_code 43 = .ok (.imul, 1) := by decide +kernel
theorem d_mdl_record_44 : decode prog_9_method_9_code 44 = .ok (.iadd, 1) := by decide +kernel
theorem d_mdl_record_45 : decode prog_9_method_9_code 45 = .ok (.sipush 1600, 3) := by decide +kernel
theorem d_mdl_record_48 : decode prog_9_method_9_code 48 = .ok (.if_icmp .le 7, 3) := by decide +kernel
theorem d_mdl_record_51 : decode prog_9_method_9_code 51 = .ok (.iconst 1, 1) := by decide +kernel
theorem d_mdl_record_52 : decode prog_9_method_9_code 52 = .ok (.goto 4, 3) := by decide +kernel
theorem d_mdl_record_55 : decode prog_9_method_9_code 55 = .ok (.iconst 0, 1) := by decide +kernel
theorem d_mdl_record_56 : decode prog_9_method_9_code 56 = .ok (.putfield 74, 3) := by decide +kernel
theorem d_mdl_record_59 : decode prog_9_method_9_code 59 = .ok (.aload_n 0, 1) := by decide +kernel
theorem d_mdl_record_60 : decode prog_9_method_9_code 60 = .ok (.getfield 74, 3) := by decide +kernel
theorem d_mdl_record_63 : decode prog_9_method_9_code 63 = .ok (.ifCond .le 5, 3) := by decide +kernel
theorem d_mdl_record_66 : decode prog_9_method_9_code 66 = .ok (.iconst 0, 1) := by decide +kernel
theorem d_mdl_record_67 : decode prog_9_method_9_code 67 = .ok (.ireturn, 1) := by decide +kernel
theorem d_mdl_record_68 : decode prog_9_method_9_code 68 = .ok (.aload_n 0, 1) := by decide +kernel
theorem d_mdl_record_69 : decode prog_9_method_9_code 69 = .ok (.invokevirtual 89, 3) := by decide +kernel
theorem d_mdl_record_72 : decode prog_9_method_9_code 72 = .ok (.istore_n 3, 1) := by decide +kernel
theorem d_mdl_record_73 : decode prog_9_method_9_code 73 = .ok (.iconst 0, 1) := by decide +kernel
theorem d_mdl_record_74 : decode prog_9_method_9_code 74 = .ok (.istore 4, 2) := by decide +kernel
theorem d_mdl_record_76 : decode prog_9_method_9_code 76 = .ok (.iconst 0, 1) := by decide +kernel
theorem d_mdl_record_77 : decode prog_9_method_9_code 77 = .ok (.istore 5, 2) := by decide +kernel
theorem d_mdl_record_79 : decode prog_9_method_9_code 79 = .ok (.iload 5, 2) := by decide +kernel
theorem d_mdl_record_81 : decode prog_9_method_9_code 81 = .ok (.iload_n 2, 1) := by decide +kernel
theorem d_mdl_record_82 : decode prog_9_method_9_code 82 = .ok (.if_icmp .ge 102, 3) := by decide +kernel
theorem d_mdl_record_85 : decode prog_9_method_9_code 85 = .ok (.iload 5, 2) := by decide +kernel
theorem d_mdl_record_87 : decode prog_9_method_9_code 87 = .ok (.iload_n 2, 1) := by decide +kernel
theorem d_mdl_record_88 : decode prog_9_method_9_code 88 = .ok (.iconst 1, 1) := by decide +kernel
theorem d_mdl_record_89 : decode prog_9_method_9_code 89 = .ok (.isub, 1) := by decide +kernel
theorem d_mdl_record_90 : decode prog_9_method_9_code 90 = .ok (.if_icmp .ne 7, 3) := by decide +kernel
theorem d_mdl_record_93 : decode prog_9_method_9_code 93 = .ok (.iconst 1, 1) := by decide +kernel
theorem d_mdl_record_94 : decode prog_9_method_9_code 94 = .ok (.goto 4, 3) := by decide +kernel
theorem d_mdl_record_97 : decode prog_9_method_9_code 97 = .ok (.iconst 0, 1) := by decide +kernel
theorem d_mdl_record_98 : decode prog_9_method_9_code 98 = .ok (.istore 6, 2) := by decide +kernel
theorem d_mdl_record_100 : decode prog_9_method_9_code 100 = .ok (.iload 6, 2) := by decide +kernel
theorem d_mdl_record_102 : decode prog_9_method_9_code 102 = .ok (.ifCond .eq 13, 3) := by decide +kernel
theorem d_mdl_record_105 : decode prog_9_method_9_code 105 = .ok (.aload_n 0, 1) := by decide +kernel
theorem d_mdl_record_106 : decode prog_9_method_9_code 106 = .ok (.getfield 93, 3) := by decide +kernel
theorem d_mdl_record_109 : decode prog_9_method_9_code 109 = .ok (.iload 4, 2) := by decide +kernel
theorem d_mdl_record_111 : decode prog_9_method_9_code 111 = .ok (.isub, 1) := by decide +kernel
theorem d_mdl_record_112 : decode prog_9_method_9_code 112 = .ok (.goto 4, 3) := by decide +kernel
theorem d_mdl_record_115 : decode prog_9_method_9_code 115 = .ok (.iload_n 1, 1) := by decide +kernel
theorem d_mdl_record_116 : decode prog_9_method_9_code 116 = .ok (.istore 7, 2) := by decide +kernel
theorem d_mdl_record_118 : decode prog_9_method_9_code 118 = .ok (.aload_n 0, 1) := by decide +kernel
theorem d_mdl_record_119 : decode prog_9_method_9_code 119 = .ok (.iload_n 3, 1) := by decide +kernel
theorem d_mdl_record_120 : decode prog_9_method_9_code 120 = .ok (.iload 6, 2) := by decide +kernel
theorem d_mdl_record_122 : decode prog_9_method_9_code 122 = .ok (.ifCond .eq 13, 3) := by decide +kernel
theorem d_mdl_record_125 : decode prog_9_method_9_code 125 = .ok (.iload 7, 2) := by decide +kernel
theorem d_mdl_record_127 : decode prog_9_method_9_code 127 = .ok (.ldc 96, 2) := by decide +kernel
theorem d_mdl_record_129 : decode prog_9_method_9_code 129 = .ok (.isub, 1) := by decide +kernel
theorem d_mdl_record_130 : decode prog_9_method_9_code 130 = .ok (.iconst 1, 1) := by decide +kernel
theorem d_mdl_record_131 : decode prog_9_method_9_code 131 = .ok (.isub, 1) := by decide +kernel
theorem d_mdl_record_132 : decode prog_9_method_9_code 132 = .ok (.goto 5, 3) := by decide +kernel
theorem d_mdl_record_135 : decode prog_9_method_9_code 135 = .ok (.iload 7, 2) := by decide +kernel
theorem d_mdl_record_137 : decode prog_9_method_9_code 137 = .ok (.invokevirtual 97, 3) := by decide +kernel
theorem d_mdl_record_140 : decode prog_9_method_9_code 140 = .ok (.iconst 0, 1) := by decide +kernel
theorem d_mdl_record_141 : decode prog_9_method_9_code 141 = .ok (.istore 8, 2) := by decide +kernel
theorem d_mdl_record_143 : decode prog_9_method_9_code 143 = .ok (.iload 8, 2) := by decide +kernel
theorem d_mdl_record_145 : decode prog_9_method_9_code 145 = .ok (.iload 7, 2) := by decide +kernel
theorem d_mdl_record_147 : decode prog_9_method_9_code 147 = .ok (.if_icmp .ge 24, 3) := by decide +kernel
theorem d_mdl_record_150 : decode prog_9_method_9_code 150 = .ok (.aload_n 0, 1) := by decide +kernel
theorem d_mdl_record_151 : decode prog_9_method_9_code 151 = .ok (.iload_n 3, 1) := by decide +kernel
theorem d_mdl_record_152 : decode prog_9_method_9_code 152 = .ok (.aload_n 0, 1) := by decide +kernel
theorem d_mdl_record_153 : decode prog_9_method_9_code 153 = .ok (.getfield 7, 3) := by decide +kernel
theorem d_mdl_record_156 : decode prog_9_method_9_code 156 = .ok (.iload 4, 2) := by decide +kernel
theorem d_mdl_record_158 : decode prog_9_method_9_code 158 = .ok (.iload 8, 2) := by decide +kernel
theorem d_mdl_record_160 : decode prog_9_method_9_code 160 = .ok (.iadd, 1) := by decide +kernel
theorem d_mdl_record_161 : decode prog_9_method_9_code 161 = .ok (.iaload, 1) := by decide +kernel
theorem d_mdl_record_162 : decode prog_9_method_9_code 162 = .ok (.invokevirtual 85, 3) := by decide +kernel
theorem d_mdl_record_165 : decode prog_9_method_9_code 165 = .ok (.iinc 8 1, 3) := by decide +kernel
theorem d_mdl_record_168 : decode prog_9_method_9_code 168 = .ok (.goto (-25), 3) := by decide +kernel
theorem d_mdl_record_171 : decode prog_9_method_9_code 171 = .ok (.iload 4, 2) := by decide +kernel
theorem d_mdl_record_173 : decode prog_9_method_9_code 173 = .ok (.iload 7, 2) := by decide +kernel
theorem d_mdl_record_175 : decode prog_9_method_9_code 175 = .ok (.iadd, 1) := by decide +kernel
theorem d_mdl_record_176 : decode prog_9_method_9_code 176 = .ok (.istore 4, 2) := by decide +kernel
theorem d_mdl_record_178 : decode prog_9_method_9_code 178 = .ok (.iinc 5 1, 3) := by decide +kernel
theorem d_mdl_record_181 : decode prog_9_method_9_code 181 = .ok (.goto (-102), 3) := by decide +kernel
theorem d_mdl_record_184 : decode prog_9_method_9_code 184 = .ok (.aload_n 0, 1) := by decide +kernel
theorem d_mdl_record_185 : decode prog_9_method_9_code 185 = .ok (.iconst 0, 1) := by decide +kernel
theorem d_mdl_record_186 : decode prog_9_method_9_code 186 = .ok (.putfield 93, 3) := by decide +kernel
theorem d_mdl_record_189 : decode prog_9_method_9_code 189 = .ok (.iload_n 3, 1) := by decide +kernel
theorem d_mdl_record_190 : decode prog_9_method_9_code 190 = .ok (.ireturn, 1) := by decide +kernel
theorem d_mdl_call_0 : decode prog_9_method_10_code 0 = .ok (.aload_n 0, 1) := by decide +kernel
theorem d_mdl_call_1 : decode prog_9_method_10_code 1 = .ok (.aload_n 0, 1) := by decide +kernel
theorem d_mdl_call_2 : decode prog_9_method_10_code 2 = .ok (.getfield 93, 3) := by decide +kernel
theorem d_mdl_call_5 : decode prog_9_method_10_code 5 = .ok (.bipush 16, 2) := by decide +kernel
theorem d_mdl_call_7 : decode prog_9_method_10_code 7 = .ok (.if_icmp .le 7, 3) := by decide +kernel
theorem d_mdl_call_10 : decode prog_9_method_10_code 10 = .ok (.iconst 1, 1) := by decide +kernel
theorem d_mdl_call_11 : decode prog_9_method_10_code 11 = .ok (.goto 4, 3) := by decide +kernel
theorem d_mdl_call_14 : decode prog_9_method_10_code 14 = .ok (.iconst 0, 1) := by decide +kernel
theorem d_mdl_call_15 : decode prog_9_method_10_code 15 = .ok (.putfield 74, 3) := by decide +kernel
theorem d_mdl_call_18 : decode prog_9_method_10_code 18 = .ok (.aload_n 0, 1) := by decide +kernel
theorem d_mdl_call_19 : decode prog_9_method_10_code 19 = .ok (.getfield 74, 3) := by decide +kernel
theorem d_mdl_call_22 : decode prog_9_method_10_code 22 = .ok (.ifCond .le 5, 3) := by decide +kernel
theorem d_mdl_call_25 : decode prog_9_method_10_code 25 = .ok (.iconst 0, 1) := by decide +kernel
theorem d_mdl_call_26 : decode prog_9_method_10_code 26 = .ok (.ireturn, 1) := by decide +kernel
theorem d_mdl_call_27 : decode prog_9_method_10_code 27 = .ok (.aload_n 0, 1) := by decide +kernel
theorem d_mdl_call_28 : decode prog_9_method_10_code 28 = .ok (.getfield 93, 3) := by decide +kernel
theorem d_mdl_call_31 : decode prog_9_method_10_code 31 = .ok (.iconst 3, 1) := by decide +kernel
theorem d_mdl_call_32 : decode prog_9_method_10_code 32 = .ok (.iadd, 1) := by decide +kernel
theorem d_mdl_call_33 : decode prog_9_method_10_code 33 = .ok (.iconst 4, 1) := by decide +kernel
theorem d_mdl_call_34 : decode prog_9_method_10_code 34 = .ok (.idiv, 1) := by decide +kernel
theorem d_mdl_call_35 : decode prog_9_method_10_code 35 = .ok (.iconst 4, 1) := by decide +kernel
theorem d_mdl_call_36 : decode prog_9_method_10_code 36 = .ok (.imul, 1) := by decide +kernel
theorem d_mdl_call_37 : decode prog_9_method_10_code 37 = .ok (.istore 7, 2) := by decide +kernel
theorem d_mdl_call_39 : decode prog_9_method_10_code 39 = .ok (.aload_n 0, 1) := by decide +kernel
theorem d_mdl_call_40 : decode prog_9_method_10_code 40 = .ok (.invokevirtual 89, 3) := by decide +kernel
theorem d_mdl_call_43 : decode prog_9_method_10_code 43 = .ok (.istore 8, 2) := by decide +kernel
theorem d_mdl_call_45 : decode prog_9_method_10_code 45 = .ok (.aload_n 0, 1) := by decide +kernel
theorem d_mdl_call_46 : decode prog_9_method_10_code 46 = .ok (.iload 8, 2) := by decide +kernel
theorem d_mdl_call_48 : decode prog_9_method_10_code 48 = .ok (.bipush 44, 2) := by decide +kernel
theorem d_mdl_call_50 : decode prog_9_method_10_code 50 = .ok (.iload 7, 2) := by decide +kernel
theorem d_mdl_call_52 : decode prog_9_method_10_code 52 = .ok (.iadd, 1) := by decide +kernel
theorem d_mdl_call_53 : decode prog_9_method_10_code 53 = .ok (.iload 4, 2) := by decide +kernel
theorem d_mdl_call_55 : decode prog_9_method_10_code 55 = .ok (.ifCond .eq 8, 3) := by decide +kernel
theorem d_mdl_call_58 : decode prog_9_method_10_code 58 = .ok (.bipush 8, 2) := by decide +kernel
theorem d_mdl_call_60 : decode prog_9_method_10_code 60 = .ok (.goto 4, 3) := by decide +kernel
theorem d_mdl_call_63 : decode prog_9_method_10_code 63 = .ok (.iconst 0, 1) := by decide +kernel
theorem d_mdl_call_64 : decode prog_9_method_10_code 64 = .ok (.iadd, 1) := by decide +kernel
theorem d_mdl_call_65 : decode prog_9_method_10_code 65 = .ok (.ldc 96, 2) := by decide +kernel
theorem d_mdl_call_67 : decode prog_9_method_10_code 67 = .ok (.isub, 1) := by decide +kernel
theorem d_mdl_call_68 : decode prog_9_method_10_code 68 = .ok (.iconst 1, 1) := by decide +kernel
theorem d_mdl_call_69 : decode prog_9_method_10_code 69 = .ok (.isub, 1) := by decide +kernel
theorem d_mdl_call_70 : decode prog_9_method_10_code 70 = .ok (.invokevirtual 97, 3) := by decide +kernel
theorem d_mdl_call_73 : decode prog_9_method_10_code 73 = .ok (.aload_n 0, 1) := by decide +kernel
theorem d_mdl_call_74 : decode prog_9_method_10_code 74 = .ok (.iload 8, 2) := by decide +kernel
theorem d_mdl_call_76 : decode prog_9_method_10_code 76 = .ok (.iload_n 1, 1) := by decide +kernel
theorem d_mdl_call_77 : decode prog_9_method_10_code 77 = .ok (.invokevirtual 97, 3) := by decide +kernel
theorem d_mdl_call_80 : decode prog_9_method_10_code 80 = .ok (.aload_n 0, 1) := by decide +kernel
theorem d_mdl_call_81 : decode prog_9_method_10_code 81 = .ok (.iload 8, 2) := by decide +kernel
theorem d_mdl_call_83 : decode prog_9_method_10_code 83 = .ok (.iconst 0, 1) := by decide +kernel
theorem d_mdl_call_84 : decode prog_9_method_10_code 84 = .ok (.invokevirtual 97, 3) := by decide +kernel
theorem d_mdl_call_87 : decode prog_9_method_10_code 87 = .ok (.aload_n 0, 1) := by decide +kernel
theorem d_mdl_call_88 : decode prog_9_method_10_code 88 = .ok (.iload 8, 2) := by decide +kernel
theorem d_mdl_call_90 : decode prog_9_method_10_code 90 = .ok (.iconst 2, 1) := by decide +kernel
theorem d_mdl_call_91 : decode prog_9_method_10_code 91 = .ok (.invokevirtual 97, 3) := by decide +kernel
theorem d_mdl_call_94 : decode prog_9_method_10_code 94 = .ok (.aload_n 0, 1) := by decide +kernel
theorem d_mdl_call_95 : decode prog_9_method_10_code 95 = .ok (.iload 8, 2) := by decide +kernel
theorem d_mdl_call_97 : decode prog_9_method_10_code 97 = .ok (.ldc 100, 2) := by decide +kernel
theorem d_mdl_call_99 : decode prog_9_method_10_code 99 = .ok (.invokevirtual 97, 3) := by decide +kernel
theorem d_mdl_call_102 : decode prog_9_method_10_code 102 = .ok (.aload_n 0, 1) := by decide +kernel
theorem d_mdl_call_103 : decode prog_9_method_10_code 103 = .ok (.iload 8, 2) := by decide +kernel
theorem d_mdl_call_105 : decode prog_9_method_10_code 105 = .ok (.iload_n 2, 1) := by decide +kernel
theorem d_mdl_call_106 : decode prog_9_method_10_code 106 = .ok (.invokevirtual 97, 3) := by decide +kernel
theorem d_mdl_call_109 : decode prog_9_method_10_code 109 = .ok (.aload_n 0, 1) := by decide +kernel
theorem d_mdl_call_110 : decode prog_9_method_10_code 110 = .ok (.iload 8, 2) := by decide +kernel
theorem d_mdl_call_112 : decode prog_9_method_10_code 112 = .ok (.iload_n 3, 1) := by decide +kernel
theorem d_mdl_call_113 : decode prog_9_method_10_code 113 = .ok (.invokevirtual 97, 3) := by decide +kernel
theorem d_mdl_call_116 : decode prog_9_method_10_code 116 = .ok (.iconst 0, 1) := by decide +kernel
theorem d_mdl_call_117 : decode prog_9_method_10_code 117 = .ok (.istore 9, 2) := by decide +kernel
theorem d_mdl_call_119 : decode prog_9_method_10_code 119 = .ok (.iload 9, 2) := by decide +kernel
theorem d_mdl_call_121 : decode prog_9_method_10_code 121 = .ok (.iconst 4, 1) := by decide +kernel
theorem d_mdl_call_122 : decode prog_9_method_10_code 122 = .ok (.if_icmp .ge 16, 3) := by decide +kernel
theorem d_mdl_call_125 : decode prog_9_method_10_code 125 = .ok (.aload_n 0, 1) := by decide +kernel
theorem d_mdl_call_126 : decode prog_9_method_10_code 126 = .ok (.iload 8, 2) := by decide +kernel
theorem d_mdl_call_128 : decode prog_9_method_10_code 128 = .ok (.iconst 0, 1) := by decide +kernel
theorem d_mdl_call_129 : decode prog_9_method_10_code 129 = .ok (.invokevirtual 97, 3) := by decide +kernel
theorem d_mdl_call_132 : decode prog_9_method_10_code 132 = .ok (.iinc 9 1, 3) := by decide +kernel
theorem d_mdl_call_135 : decode prog_9_method_10_code 135 = .ok (.goto (-16), 3) := by decide +kernel
theorem d_mdl_call_138 : decode prog_9_method_10_code 138 = .ok (.aload_n 0, 1) := by decide +kernel
theorem d_mdl_call_139 : decode prog_9_method_10_code 139 = .ok (.iload 8, 2) := by decide +kernel
theorem d_mdl_call_141 : decode prog_9_method_10_code 141 = .ok (.aload_n 0, 1) := by decide +kernel
theorem d_mdl_call_142 : decode prog_9_method_10_code 142 = .ok (.getfield 93, 3) := by decide +kernel
theorem d_mdl_call_145 : decode prog_9_method_10_code 145 = .ok (.invokevirtual 97, 3) := by decide +kernel
theorem d_mdl_call_148 : decode prog_9_method_10_code 148 = .ok (.iconst 0, 1) := by decide +kernel
theorem d_mdl_call_149 : decode prog_9_method_10_code 149 = .ok (.istore 9, 2) := by decide +kernel
theorem d_mdl_call_151 : decode prog_9_method_10_code 151 = .ok (.iload 9, 2) := by decide +kernel
theorem d_mdl_call_153 : decode prog_9_method_10_code 153 = .ok (.iload 7, 2) := by decide +kernel
theorem d_mdl_call_155 : decode prog_9_method_10_code 155 = .ok (.if_icmp .ge 35, 3) := by decide +kernel
theorem d_mdl_call_158 : decode prog_9_method_10_code 158 = .ok (.aload_n 0, 1) := by decide +kernel
theorem d_mdl_call_159 : decode prog_9_method_10_code 159 = .ok (.iload 8, 2) := by decide +kernel
theorem d_mdl_call_161 : decode prog_9_method_10_code 161 = .ok (.iload 9, 2) := by decide +kernel
theorem d_mdl_call_163 : decode prog_9_method_10_code 163 = .ok (.aload_n 0, 1) := by decide +kernel
theorem d_mdl_call_164 : decode prog_9_method_10_code 164 = .ok (.getfield 93, 3) := by decide +kernel
theorem d_mdl_call_167 : decode prog_9_method_10_code 167 = .ok (.if_icmp .ge 13, 3) := by decide +kernel
theorem d_mdl_call_170 : decode prog_9_method_10_code 170 = .ok (.aload_n 0, 1) := by decide +kernel
theorem d_mdl_call_171 : decode prog_9_method_10_code 171 = .ok (.getfield 7, 3) := by decide +kernel
theorem d_mdl_call_174 : decode prog_9_method_10_code 174 = .ok (.iload 9, 2) := by decide +kernel
theorem d_mdl_call_176 : decode prog_9_method_10_code 176 = .ok (.iaload, 1) := by decide +kernel
theorem d_mdl_call_177 : decode prog_9_method_10_code 177 = .ok (.goto 4, 3) := by decide +kernel
theorem d_mdl_call_180 : decode prog_9_method_10_code 180 = .ok (.iconst 0, 1) := by decide +kernel
theorem d_mdl_call_181 : decode prog_9_method_10_code 181 = .ok (.invokevirtual 85, 3) := by decide +kernel
theorem d_mdl_call_184 : decode prog_9_method_10_code 184 = .ok (.iinc 9 1, 3) := by decide +kernel
theorem d_mdl_call_187 : decode prog_9_method_10_code 187 = .ok (.goto (-36), 3) := by decide +kernel
theorem d_mdl_call_190 : decode prog_9_method_10_code 190 = .ok (.iload 4, 2) := by decide +kernel
theorem d_mdl_call_192 : decode prog_9_method_10_code 192 = .ok (.ifCond .eq 24, 3) := by decide +kernel
theorem d_mdl_call_195 : decode prog_9_method_10_code 195 = .ok (.aload_n 0, 1) := by decide +kernel
theorem d_mdl_call_196 : decode prog_9_method_10_code 196 = .ok (.iload 8, 2) := by decide +kernel
theorem d_mdl_call_198 : decode prog_9_method_10_code 198 = .ok (.lload 5, 2) := by decide +kernel
theorem d_mdl_call_200 : decode prog_9_method_10_code 200 = .ok (.bipush 32, 2) := by decide +kernel
theorem d_mdl_call_202 : decode prog_9_method_10_code 202 = .ok (.lshr, 1) := by decide +kernel
theorem d_mdl_call_203 : decode prog_9_method_10_code 203 = .ok (.l2i, 1) := by decide +kernel
theorem d_mdl_call_204 : decode prog_9_method_10_code 204 = .ok (.invokevirtual 97, 3) := by decide +kernel
theorem d_mdl_call_207 : decode prog_9_method_10_code 207 = .ok (.aload_n 0, 1) := by decide +kernel
theorem d_mdl_call_208 : decode prog_9_method_10_code 208 = .ok (.iload 8, 2) := by decide +kernel
theorem d_mdl_call_210 : decode prog_9_method_10_code 210 = .ok (.lload 5, 2) := by decide +kernel
theorem d_mdl_call_212 : decode prog_9_method_10_code 212 = .ok (.l2i, 1) := by decide +kernel
theorem d_mdl_call_213 : decode prog_9_method_10_code 213 = .ok (.invokevirtual 97, 3) := by decide +kernel
theorem d_mdl_call_216 : decode prog_9_method_10_code 216 = .ok (.aload_n 0, 1) := by decide +kernel
theorem d_mdl_call_217 : decode prog_9_method_10_code 217 = .ok (.iconst 0, 1) := by decide +kernel
theorem d_mdl_call_218 : decode prog_9_method_10_code 218 = .ok (.putfield 93, 3) := by decide +kernel
theorem d_mdl_call_221 : decode prog_9_method_10_code 221 = .ok (.iload 8, 2) := by decide +kernel
theorem d_mdl_call_223 : decode prog_9_method_10_code 223 = .ok (.ireturn, 1) := by decide +kernel
theorem d_mdl_take_0 : decode prog_9_method_12_code 0 = .ok (.aload_n 0, 1) := by decide +kernel
theorem d_mdl_take_1 : decode prog_9_method_12_code 1 = .ok (.getfield 53, 3) := by decide +kernel
theorem d_mdl_take_4 : decode prog_9_method_12_code 4 = .ok (.iload_n 1, 1) := by decide +kernel
theorem d_mdl_take_5 : decode prog_9_method_12_code 5 = .ok (.baload, 1) := by decide +kernel
theorem d_mdl_take_6 : decode prog_9_method_12_code 6 = .ok (.ifCond .eq 45, 3) := by decide +kernel
theorem d_mdl_take_9 : decode prog_9_method_12_code 9 = .ok (.aload_n 0, 1) := by decide +kernel
theorem d_mdl_take_10 : decode prog_9_method_12_code 10 = .ok (.getfield 34, 3) := by decide +kernel
theorem d_mdl_take_13 : decode prog_9_method_12_code 13 = .ok (.sipush 1200, 3) := by decide +kernel
theorem d_mdl_take_16 : decode prog_9_method_12_code 16 = .ok (.iload_n 1, 1) := by decide +kernel
theorem d_mdl_take_17 : decode prog_9_method_12_code 17 = .ok (.imul, 1) := by decide +kernel
theorem d_mdl_take_18 : decode prog_9_method_12_code 18 = .ok (.aload_n 0, 1) := by decide +kernel
theorem d_mdl_take_19 : decode prog_9_method_12_code 19 = .ok (.getfield 37, 3) := by decide +kernel
theorem d_mdl_take_22 : decode prog_9_method_12_code 22 = .ok (.iload_n 1, 1) := by decide +kernel
theorem d_mdl_take_23 : decode prog_9_method_12_code 23 = .ok (.iaload, 1) := by decide +kernel
theorem d_mdl_take_24 : decode prog_9_method_12_code 24 = .ok (.iadd, 1) := by decide +kernel
theorem d_mdl_take_25 : decode prog_9_method_12_code 25 = .ok (.iload_n 2, 1) := by decide +kernel
theorem d_mdl_take_26 : decode prog_9_method_12_code 26 = .ok (.i2b, 1) := by decide +kernel
theorem d_mdl_take_27 : decode prog_9_method_12_code 27 = .ok (.bastore, 1) := by decide +kernel
theorem d_mdl_take_28 : decode prog_9_method_12_code 28 = .ok (.aload_n 0, 1) := by decide +kernel
theorem d_mdl_take_29 : decode prog_9_method_12_code 29 = .ok (.getfield 37, 3) := by decide +kernel
theorem d_mdl_take_32 : decode prog_9_method_12_code 32 = .ok (.iload_n 1, 1) := by decide +kernel
theorem d_mdl_take_33 : decode prog_9_method_12_code 33 = .ok (.dup2, 1) := by decide +kernel
theorem d_mdl_take_34 : decode prog_9_method_12_code 34 = .ok (.iaload, 1) := by decide +kernel
theorem d_mdl_take_35 : decode prog_9_method_12_code 35 = .ok (.iconst 1, 1) := by decide +kernel
theorem d_mdl_take_36 : decode prog_9_method_12_code 36 = .ok (.iadd, 1) := by decide +kernel
theorem d_mdl_take_37 : decode prog_9_method_12_code 37 = .ok (.iastore, 1) := by decide +kernel
theorem d_mdl_take_38 : decode prog_9_method_12_code 38 = .ok (.aload_n 0, 1) := by decide +kernel
theorem d_mdl_take_39 : decode prog_9_method_12_code 39 = .ok (.getfield 46, 3) := by decide +kernel
theorem d_mdl_take_42 : decode prog_9_method_12_code 42 = .ok (.iload_n 1, 1) := by decide +kernel
theorem d_mdl_take_43 : decode prog_9_method_12_code 43 = .ok (.dup2, 1) := by decide +kernel
theorem d_mdl_take_44 : decode prog_9_method_12_code 44 = .ok (.iaload, 1) := by decide +kernel
theorem d_mdl_take_45 : decode prog_9_method_12_code 45 = .ok (.iconst 1, 1) := by decide +kernel
theorem d_mdl_take_46 : decode prog_9_method_12_code 46 = .ok (.isub, 1) := by decide +kernel
theorem d_mdl_take_47 : decode prog_9_method_12_code 47 = .ok (.iastore, 1) := by decide +kernel
theorem d_mdl_take_48 : decode prog_9_method_12_code 48 = .ok (.goto 119, 3) := by decide +kernel
theorem d_mdl_take_51 : decode prog_9_method_12_code 51 = .ok (.aload_n 0, 1) := by decide +kernel
theorem d_mdl_take_52 : decode prog_9_method_12_code 52 = .ok (.getfield 43, 3) := by decide +kernel
theorem d_mdl_take_55 : decode prog_9_method_12_code 55 = .ok (.iload_n 1, 1) := by decide +kernel
theorem d_mdl_take_56 : decode prog_9_method_12_code 56 = .ok (.aload_n 0, 1) := by decide +kernel
theorem d_mdl_take_57 : decode prog_9_method_12_code 57 = .ok (.getfield 43, 3) := by decide +kernel
theorem d_mdl_take_60 : decode prog_9_method_12_code 60 = .ok (.iload_n 1, 1) := by decide +kernel
theorem d_mdl_take_61 : decode prog_9_method_12_code 61 = .ok (.iaload, 1) := by decide +kernel
theorem d_mdl_take_62 : decode prog_9_method_12_code 62 = .ok (.bipush 8, 2) := by decide +kernel
theorem d_mdl_take_64 : decode prog_9_method_12_code 64 = .ok (.ishl, 1) := by decide +kernel
theorem d_mdl_take_65 : decode prog_9_method_12_code 65 = .ok (.iload_n 2, 1) := by decide +kernel
theorem d_mdl_take_66 : decode prog_9_method_12_code 66 = .ok (.ior, 1) := by decide +kernel
theorem d_mdl_take_67 : decode prog_9_method_12_code 67 = .ok (.iastore, 1) := by decide +kernel
theorem d_mdl_take_68 : decode prog_9_method_12_code 68 = .ok (.aload_n 0, 1) := by decide +kernel
theorem d_mdl_take_69 : decode prog_9_method_12_code 69 = .ok (.getfield 40, 3) := by decide +kernel
theorem d_mdl_take_72 : decode prog_9_method_12_code 72 = .ok (.iload_n 1, 1) := by decide +kernel
theorem d_mdl_take_73 : decode prog_9_method_12_code 73 = .ok (.dup2, 1) := by decide +kernel
theorem d_mdl_take_74 : decode prog_9_method_12_code 74 = .ok (.iaload, 1) := by decide +kernel
theorem d_mdl_take_75 : decode prog_9_method_12_code 75 = .ok (.iconst 1, 1) := by decide +kernel
theorem d_mdl_take_76 : decode prog_9_method_12_code 76 = .ok (.iadd, 1) := by decide +kernel
theorem d_mdl_take_77 : decode prog_9_method_12_code 77 = .ok (.iastore, 1) := by decide +kernel
theorem d_mdl_take_78 : decode prog_9_method_12_code 78 = .ok (.aload_n 0, 1) := by decide +kernel
theorem d_mdl_take_79 : decode prog_9_method_12_code 79 = .ok (.getfield 40, 3) := by decide +kernel
theorem d_mdl_take_82 : decode prog_9_method_12_code 82 = .ok (.iload_n 1, 1) := by decide +kernel
theorem d_mdl_take_83 : decode prog_9_method_12_code 83 = .ok (.iaload, 1) := by decide +kernel
theorem d_mdl_take_84 : decode prog_9_method_12_code 84 = .ok (.iconst 4, 1) := by decide +kernel
theorem d_mdl_take_85 : decode prog_9_method_12_code 85 = .ok (.if_icmp .ge 5, 3) := by decide +kernel
theorem d_mdl_take_88 : decode prog_9_method_12_code 88 = .ok (.iconst 0, 1) := by decide +kernel
theorem d_mdl_take_89 : decode prog_9_method_12_code 89 = .ok (.ireturn, 1) := by decide +kernel
theorem d_mdl_take_90 : decode prog_9_method_12_code 90 = .ok (.aload_n 0, 1) := by decide +kernel
theorem d_mdl_take_91 : decode prog_9_method_12_code 91 = .ok (.getfield 40, 3) := by decide +kernel
theorem d_mdl_take_94 : decode prog_9_method_12_code 94 = .ok (.iload_n 1, 1) := by decide +kernel
theorem d_mdl_take_95 : decode prog_9_method_12_code 95 = .ok (.iconst 0, 1) := by decide +kernel
theorem d_mdl_take_96 : decode prog_9_method_12_code 96 = .ok (.iastore, 1) := by decide +kernel
theorem d_mdl_take_97 : decode prog_9_method_12_code 97 = .ok (.aload_n 0, 1) := by decide +kernel
theorem d_mdl_take_98 : decode prog_9_method_12_code 98 = .ok (.getfield 49, 3) := by decide +kernel
theorem d_mdl_take_101 : decode prog_9_method_12_code 101 = .ok (.iload_n 1, 1) := by decide +kernel
theorem d_mdl_take_102 : decode prog_9_method_12_code 102 = .ok (.aload_n 0, 1) := by decide +kernel
theorem d_mdl_take_103 : decode prog_9_method_12_code 103 = .ok (.getfield 43, 3) := by decide +kernel
theorem d_mdl_take_106 : decode prog_9_method_12_code 106 = .ok (.iload_n 1, 1) := by decide +kernel
theorem d_mdl_take_107 : decode prog_9_method_12_code 107 = .ok (.iaload, 1) := by decide +kernel
theorem d_mdl_take_108 : decode prog_9_method_12_code 108 = .ok (.ifCond .ge 7, 3) := by decide +kernel
theorem d_mdl_take_111 : decode prog_9_method_12_code 111 = .ok (.iconst 1, 1) := by decide +kernel
theorem d_mdl_take_112 : decode prog_9_method_12_code 112 = .ok (.goto 4, 3) := by decide +kernel
theorem d_mdl_take_115 : decode prog_9_method_12_code 115 = .ok (.iconst 0, 1) := by decide +kernel
theorem d_mdl_take_116 : decode prog_9_method_12_code 116 = .ok (.bastore, 1) := by decide +kernel
theorem d_mdl_take_117 : decode prog_9_method_12_code 117 = .ok (.aload_n 0, 1) := by decide +kernel
theorem d_mdl_take_118 : decode prog_9_method_12_code 118 = .ok (.getfield 46, 3) := by decide +kernel
theorem d_mdl_take_121 : decode prog_9_method_12_code 121 = .ok (.iload_n 1, 1) := by decide +kernel
theorem d_mdl_take_122 : decode prog_9_method_12_code 122 = .ok (.aload_n 0, 1) := by decide +kernel
theorem d_mdl_take_123 : decode prog_9_method_12_code 123 = .ok (.getfield 43, 3) := by decide +kernel
theorem d_mdl_take_126 : decode prog_9_method_12_code 126 = .ok (.iload_n 1, 1) := by decide +kernel
theorem d_mdl_take_127 : decode prog_9_method_12_code 127 = .ok (.iaload, 1) := by decide +kernel
theorem d_mdl_take_128 : decode prog_9_method_12_code 128 = .ok (.ldc 96, 2) := by decide +kernel
theorem d_mdl_take_130 : decode prog_9_method_12_code 130 = .ok (.iand, 1) := by decide +kernel
theorem d_mdl_take_131 : decode prog_9_method_12_code 131 = .ok (.iastore, 1) := by decide +kernel
theorem d_mdl_take_132 : decode prog_9_method_12_code 132 = .ok (.aload_n 0, 1) := by decide +kernel
theorem d_mdl_take_133 : decode prog_9_method_12_code 133 = .ok (.getfield 53, 3) := by decide +kernel
theorem d_mdl_take_136 : decode prog_9_method_12_code 136 = .ok (.iload_n 1, 1) := by decide +kernel
theorem d_mdl_take_137 : decode prog_9_method_12_code 137 = .ok (.iconst 1, 1) := by decide +kernel
theorem d_mdl_take_138 : decode prog_9_method_12_code 138 = .ok (.bastore, 1) := by decide +kernel
theorem d_mdl_take_139 : decode prog_9_method_12_code 139 = .ok (.aload_n 0, 1) := by decide +kernel
theorem d_mdl_take_140 : decode prog_9_method_12_code 140 = .ok (.getfield 46, 3) := by decide +kernel
theorem d_mdl_take_143 : decode prog_9_method_12_code 143 = .ok (.iload_n 1, 1) := by decide +kernel
theorem d_mdl_take_144 : decode prog_9_method_12_code 144 = .ok (.iaload, 1) := by decide +kernel
theorem d_mdl_take_145 : decode prog_9_method_12_code 145 = .ok (.sipush 1200, 3) := by decide +kernel
theorem d_mdl_take_148 : decode prog_9_method_12_code 148 = .ok (.aload_n 0, 1) := by decide +kernel
theorem d_mdl_take_149 : decode prog_9_method_12_code 149 = .ok (.getfield 37, 3) := by decide +kernel
theorem d_mdl_take_152 : decode prog_9_method_12_code 152 = .ok (.iload_n 1, 1) := by decide +kernel
theorem d_mdl_take_153 : decode prog_9_method_12_code 153 = .ok (.iaload, 1) := by decide +kernel
theorem d_mdl_take_154 : decode prog_9_method_12_code 154 = .ok (.isub, 1) := by decide +kernel
theorem d_mdl_take_155 : decode prog_9_method_12_code 155 = .ok (.if_icmp .le 12, 3) := by decide +kernel
theorem d_mdl_take_158 : decode prog_9_method_12_code 158 = .ok (.aload_n 0, 1) := by decide +kernel
theorem d_mdl_take_159 : decode prog_9_method_12_code 159 = .ok (.getfield 56, 3) := by decide +kernel
theorem d_mdl_take_162 : decode prog_9_method_12_code 162 = .ok (.iload_n 1, 1) := by decide +kernel
theorem d_mdl_take_163 : decode prog_9_method_12_code 163 = .ok (.iconst 1, 1) := by decide +kernel
theorem d_mdl_take_164 : decode prog_9_method_12_code 164 = .ok (.bastore, 1) := by decide +kernel
theorem d_mdl_take_165 : decode prog_9_method_12_code 165 = .ok (.iconst 0, 1) := by decide +kernel
theorem d_mdl_take_166 : decode prog_9_method_12_code 166 = .ok (.ireturn, 1) := by decide +kernel
theorem d_mdl_take_167 : decode prog_9_method_12_code 167 = .ok (.aload_n 0, 1) := by decide +kernel
theorem d_mdl_take_168 : decode prog_9_method_12_code 168 = .ok (.getfield 46, 3) := by decide +kernel
theorem d_mdl_take_171 : decode prog_9_method_12_code 171 = .ok (.iload_n 1, 1) := by decide +kernel
theorem d_mdl_take_172 : decode prog_9_method_12_code 172 = .ok (.iaload, 1) := by decide +kernel
theorem d_mdl_take_173 : decode prog_9_method_12_code 173 = .ok (.ifCond .ne 17, 3) := by decide +kernel
theorem d_mdl_take_176 : decode prog_9_method_12_code 176 = .ok (.aload_n 0, 1) := by decide +kernel
theorem d_mdl_take_177 : decode prog_9_method_12_code 177 = .ok (.getfield 53, 3) := by decide +kernel
theorem d_mdl_take_180 : decode prog_9_method_12_code 180 = .ok (.iload_n 1, 1) := by decide +kernel
theorem d_mdl_take_181 : decode prog_9_method_12_code 181 = .ok (.iconst 0, 1) := by decide +kernel
theorem d_mdl_take_182 : decode prog_9_method_12_code 182 = .ok (.bastore, 1) := by decide +kernel
theorem d_mdl_take_183 : decode prog_9_method_12_code 183 = .ok (.aload_n 0, 1) := by decide +kernel
theorem d_mdl_take_184 : decode prog_9_method_12_code 184 = .ok (.getfield 49, 3) := by decide +kernel
theorem d_mdl_take_187 : decode prog_9_method_12_code 187 = .ok (.iload_n 1, 1) := by decide +kernel
theorem d_mdl_take_188 : decode prog_9_method_12_code 188 = .ok (.baload, 1) := by decide +kernel
theorem d_mdl_take_189 : decode prog_9_method_12_code 189 = .ok (.ireturn, 1) := by decide +kernel
theorem d_mdl_take_190 : decode prog_9_method_12_code 190 = .ok (.iconst 0, 1) := by decide +kernel
theorem d_mdl_take_191 : decode prog_9_method_12_code 191 = .ok (.ireturn, 1) := by decide +kernel
def f_mdl_init (w : rc_M) (a0 : Nat) : Option (rc_M) :=
  (rc_newA w 0 1600).bind fun p1 =>
  (rc_pR p1.2 (some a0) 7 1 (some p1.1)).bind fun w3 =>
  (rc_newA w3 2 102400).bind fun p5 =>
  (rc_pR p5.2 (some a0) 7 3 (some p5.1)).bind fun w7 =>
  (rc_newA w7 0 64).bind fun p9 =>
  (rc_pR p9.2 (some a0) 7 4 (some p9.1)).bind fun w11 =>
  (rc_newA w11 2 1600).bind fun p13 =>
  (rc_pR p13.2 (some a0) 7 6 (some p13.1)).bind fun w15 =>
  (rc_newA w15 2 656).bind fun p17 =>
  (rc_pR p17.2 (some a0) 7 7 (some p17.1)).bind fun w19 =>
  (rc_newA w19 0 41).bind fun p21 =>
  (rc_pR p21.2 (some a0) 7 8 (some p21.1)).bind fun w23 =>
  (rc_newA w23 1 41).bind fun p25 =>
  (rc_pR p25.2 (some a0) 7 9 (some p25.1)).bind fun w27 =>
  (rc_newA w27 2 4800).bind fun p29 =>
  (rc_pR p29.2 (some a0) 7 11 (some p29.1)).bind fun w31 =>
  (rc_newA w31 0 4).bind fun p33 =>
  (rc_pR p33.2 (some a0) 7 12 (some p33.1)).bind fun w35 =>
  (rc_newA w35 0 4).bind fun p37 =>
  (rc_pR p37.2 (some a0) 7 13 (some p37.1)).bind fun w39 =>
  (rc_newA w39 0 4).bind fun p41 =>
  (rc_pR p41.2 (some a0) 7 14 (some p41.1)).bind fun w43 =>
  (rc_newA w43 0 4).bind fun p45 =>
  (rc_pR p45.2 (some a0) 7 15 (some p45.1)).bind fun w47 =>
  (rc_newA w47 3 4).bind fun p49 =>
  (rc_pR p49.2 (some a0) 7 16 (some p49.1)).bind fun w51 =>
  (rc_newA w51 3 4).bind fun p53 =>
  (rc_pR p53.2 (some a0) 7 17 (some p53.1)).bind fun w55 =>
  (rc_newA w55 3 4).bind fun p57 =>
  (rc_pR p57.2 (some a0) 7 18 (some p57.1)).bind fun w59 =>
  (rc_newA w59 0 32).bind fun p61 =>
  (rc_pR p61.2 (some a0) 7 19 (some p61.1)).bind fun w63 =>
  (rc_newA w63 0 32).bind fun p65 =>
  (rc_pR p65.2 (some a0) 7 20 (some p65.1)).bind fun w67 =>
  (rc_newA w67 2 12800).bind fun p69 =>
  (rc_pR p69.2 (some a0) 7 21 (some p69.1)).bind fun w71 =>
  (rc_newA w71 0 4).bind fun p73 =>
  (rc_pR p73.2 (some a0) 7 22 (some p73.1)).bind fun w75 =>
  (rc_newA w75 2 400).bind fun p77 =>
  (rc_pR p77.2 (some a0) 7 31 (some p77.1)).bind fun w79 =>
  some w79

def f_mdl_thrown (w : rc_M) (a0 : Nat) : Option (Int32 × rc_M) :=
  (rc_gI w (some a0) 7 0).bind fun v1 =>
  some (v1, w)

def b_mdl_isSlot_28 (w : rc_M) (s0 : Int32) : Option (Int32 × rc_M) :=
  rc_z1 s0 w

def b_mdl_isSlot_27 (w : rc_M) : Option (Int32 × rc_M) :=
  b_mdl_isSlot_28 w 0

def f_mdl_isSlot (w : rc_M) (a0 : Nat) (x1 : Int32) : Option (Int32 × rc_M) :=
  if x1 < 0 then
    b_mdl_isSlot_27 w 
  else
    (rc_gI w (some a0) 7 5).bind fun v2 =>
    if v2 ≤ x1 then
      b_mdl_isSlot_27 w 
    else
      (rc_gI w (some a0) 7 5).bind fun v5 =>
      if x1 < (v5 - 64) then
        b_mdl_isSlot_27 w 
      else
        b_mdl_isSlot_28 w 1

def f_mdl_base (w : rc_M) (x0 : Int32) : Option (Int32 × rc_M) :=
  some (1600 * (x0 - x0 / 64 * 64), w)

def f_mdl_newSlot (w : rc_M) (a0 : Nat) : Option (Int32 × rc_M) :=
  (rc_gR w (some a0) 7 4).bind fun v1 =>
  (rc_gI w (some a0) 7 5).bind fun v3 =>
  (rc_sI w v1 0 (v3 - v3 / 64 * 64) 0).bind fun w6 =>
  (rc_gI w6 (some a0) 7 5).bind fun v8 =>
  (rc_pI w6 (some a0) 7 5 (v8 + 1)).bind fun w10 =>
  (rc_gI w10 (some a0) 7 5).bind fun v12 =>
  some (v12 - 1, w10)

def f_mdl_slotByte (w : rc_M) (a0 : Nat) (x1 : Int32) (x2 : Int32) : Option (rc_M) :=
  (rc_gR w (some a0) 7 3).bind fun v1 =>
  (f_mdl_base w x1).bind fun p3 =>
  (rc_gR p3.2 (some a0) 7 4).bind fun v5 =>
  (rc_aI p3.2 v5 0 (x1 - x1 / 64 * 64)).bind fun v8 =>
  (rc_sI p3.2 v1 2 (p3.1 + v8) x2.toInt8.toInt32).bind fun w10 =>
  (rc_gR w10 (some a0) 7 4).bind fun v12 =>
  (rc_aI w10 v12 0 (x1 - x1 / 64 * 64)).bind fun v15 =>
  (rc_sI w10 v12 0 (x1 - x1 / 64 * 64) (v15 + 1)).bind fun w17 =>
  some w17

def b_mdl_slotWord_3 : Nat → rc_M → Nat → Int32 → Int32 → Int32 → Option (rc_M)
  | 0, _, _, _, _, _ => none
  | fuel + 1, w, a0, x1, x2, x3 =>
    if x3 < 0 then
      some w
    else
      (rc_rc w (some a0) 7).bind fun a2 =>
      (f_mdl_slotByte w a2 x1 (x2 >>> (x3 &&& 31))).bind fun w4 =>
      b_mdl_slotWord_3 fuel w4 a0 x1 x2 (x3 - 8)

def f_mdl_slotWord (w : rc_M) (a0 : Nat) (x1 : Int32) (x2 : Int32) : Option (rc_M) :=
  b_mdl_slotWord_3 5000 w a0 x1 x2 24

def b_mdl_raw_12 : Nat → rc_M → Nat → Int32 → Int32 → Option (Int32 × rc_M)
  | 0, _, _, _, _ => none
  | fuel + 1, w, a0, x1, x2 =>
    (rc_gI w (some a0) 7 2).bind fun v1 =>
    if v1 ≤ x2 then
      (rc_pI w (some a0) 7 2 0).bind fun w4 =>
      some (x1, w4)
    else
      (rc_gR w (some a0) 7 1).bind fun v6 =>
      (rc_aI w v6 0 x2).bind fun v8 =>
      (rc_rc w (some a0) 7).bind fun a10 =>
      (f_mdl_slotByte w a10 x1 v8).bind fun w12 =>
      b_mdl_raw_12 fuel w12 a0 x1 (x2 + 1)

def f_mdl_raw (w : rc_M) (a0 : Nat) : Option (Int32 × rc_M) :=
  (rc_pI w (some a0) 7 0 0).bind fun w1 =>
  (rc_rc w1 (some a0) 7).bind fun a3 =>
  (f_mdl_newSlot w1 a3).bind fun p5 =>
  b_mdl_raw_12 5000 p5.2 a0 p5.1 0

def b_mdl_record_143 (k79 : rc_M → Nat → Int32 → Int32 → Int32 → Int32 → Int32 → Option (Int32 × rc_M)) : Nat → rc_M → Nat → Int32 → Int32 → Int32 → Int32 → Int32 → Int32 → Int32 → Option (Int32 × rc_M)
  | 0, _, _, _, _, _, _, _, _, _ => none
  | fuel + 1, w, a0, x1, x2, x3, x4, x5, x7, x8 =>
    if x7 ≤ x8 then
      k79 w a0 x1 x2 x3 (x4 + x7) (x5 + 1)
    else
      (rc_gR w (some a0) 7 1).bind fun v2 =>
      (rc_aI w v2 0 (x4 + x8)).bind fun v4 =>
      (rc_rc w (some a0) 7).bind fun a6 =>
      (f_mdl_slotByte w a6 x3 v4).bind fun w8 =>
      b_mdl_record_143 k79 fuel w8 a0 x1 x2 x3 x4 x5 x7 (x8 + 1)

def b_mdl_record_137 (k79 : rc_M → Nat → Int32 → Int32 → Int32 → Int32 → Int32 → Option (Int32 × rc_M)) (w : rc_M) (a0 : Nat) (x1 : Int32) (x2 : Int32) (x3 : Int32) (x4 : Int32) (x5 : Int32) (x7 : Int32) (s0 : Option Nat) (s1 : Int32) (s2 : Int32) : Option (Int32 × rc_M) :=
  (rc_rc w s0 7).bind fun a1 =>
  (f_mdl_slotWord w a1 s1 s2).bind fun w3 =>
  b_mdl_record_143 k79 5000 w3 a0 x1 x2 x3 x4 x5 x7 0

def b_mdl_record_116 (k79 : rc_M → Nat → Int32 → Int32 → Int32 → Int32 → Int32 → Option (Int32 × rc_M)) (w : rc_M) (a0 : Nat) (x1 : Int32) (x2 : Int32) (x3 : Int32) (x4 : Int32) (x5 : Int32) (x6 : Int32) (s0 : Int32) : Option (Int32 × rc_M) :=
  if x6 = 0 then
    b_mdl_record_137 k79 w a0 x1 x2 x3 x4 x5 s0 (some a0) x3 s0
  else
    b_mdl_record_137 k79 w a0 x1 x2 x3 x4 x5 s0 (some a0) x3 ((s0 - 2147483647) - 1)

def b_mdl_record_98 (k79 : rc_M → Nat → Int32 → Int32 → Int32 → Int32 → Int32 → Option (Int32 × rc_M)) (w : rc_M) (a0 : Nat) (x1 : Int32) (x2 : Int32) (x3 : Int32) (x4 : Int32) (x5 : Int32) (s0 : Int32) : Option (Int32 × rc_M) :=
  if s0 = 0 then
    b_mdl_record_116 k79 w a0 x1 x2 x3 x4 x5 s0 x1
  else
    (rc_gI w (some a0) 7 2).bind fun v2 =>
    b_mdl_record_116 k79 w a0 x1 x2 x3 x4 x5 s0 (v2 - x4)

def b_mdl_record_79 : Nat → rc_M → Nat → Int32 → Int32 → Int32 → Int32 → Int32 → Option (Int32 × rc_M)
  | 0, _, _, _, _, _, _, _ => none
  | fuel + 1, w, a0, x1, x2, x3, x4, x5 =>
    if x2 ≤ x5 then
      (rc_pI w (some a0) 7 2 0).bind fun w2 =>
      some (x3, w2)
    else
      if x5 = (x2 - 1) then
        b_mdl_record_98 (b_mdl_record_79 fuel) w a0 x1 x2 x3 x4 x5 1
      else
        b_mdl_record_98 (b_mdl_record_79 fuel) w a0 x1 x2 x3 x4 x5 0

def b_mdl_record_56 (w : rc_M) (a0 : Nat) (x1 : Int32) (x2 : Int32) (s0 : Option Nat) (s1 : Int32) : Option (Int32 × rc_M) :=
  (rc_pI w s0 7 0 s1).bind fun w1 =>
  (rc_gI w1 (some a0) 7 0).bind fun v3 =>
  if v3 ≤ 0 then
    (rc_rc w1 (some a0) 7).bind fun a6 =>
    (f_mdl_newSlot w1 a6).bind fun p8 =>
    b_mdl_record_79 5000 p8.2 a0 x1 x2 p8.1 0 0
  else
    some (0, w1)

def b_mdl_record_51 (w : rc_M) (a0 : Nat) (x1 : Int32) (x2 : Int32) (s0 : Option Nat) : Option (Int32 × rc_M) :=
  b_mdl_record_56 w a0 x1 x2 s0 1

def b_mdl_record_30 (w : rc_M) (a0 : Nat) (x1 : Int32) (s0 : Int32) : Option (Int32 × rc_M) :=
  if x1 < 1 then
    b_mdl_record_51 w a0 x1 s0 (some a0)
  else
    (rc_gI w (some a0) 7 2).bind fun v2 =>
    if (v2 + (4 * s0)) ≤ 1600 then
      b_mdl_record_56 w a0 x1 s0 (some a0) 0
    else
      b_mdl_record_51 w a0 x1 s0 (some a0)

def f_mdl_record (w : rc_M) (a0 : Nat) (x1 : Int32) : Option (Int32 × rc_M) :=
  if 1 ≤ x1 then
    (rc_gI w (some a0) 7 2).bind fun v2 =>
    if v2 = 0 then
      b_mdl_record_30 w a0 x1 1
    else
      (rc_gI w (some a0) 7 2).bind fun v5 =>
      if x1 = 0 then none else
      b_mdl_record_30 w a0 x1 (((v5 - 1) / x1) + 1)
  else
    b_mdl_record_30 w a0 x1 0

def b_mdl_call_181 (k151 : rc_M → Nat → Int32 → Int64 → Int32 → Int32 → Int32 → Option (Int32 × rc_M)) (w : rc_M) (a0 : Nat) (x4 : Int32) (x5 : Int64) (x7 : Int32) (x8 : Int32) (x9 : Int32) (s0 : Option Nat) (s1 : Int32) (s2 : Int32) : Option (Int32 × rc_M) :=
  (rc_rc w s0 7).bind fun a1 =>
  (f_mdl_slotByte w a1 s1 s2).bind fun w3 =>
  k151 w3 a0 x4 x5 x7 x8 (x9 + 1)

def b_mdl_call_216 (w : rc_M) (a0 : Nat) (x8 : Int32) : Option (Int32 × rc_M) :=
  (rc_pI w (some a0) 7 2 0).bind fun w1 =>
  some (x8, w1)

def b_mdl_call_151 : Nat → rc_M → Nat → Int32 → Int64 → Int32 → Int32 → Int32 → Option (Int32 × rc_M)
  | 0, _, _, _, _, _, _, _ => none
  | fuel + 1, w, a0, x4, x5, x7, x8, x9 =>
    if x7 ≤ x9 then
      if x4 = 0 then
        b_mdl_call_216 w a0 x8
      else
        (rc_rc w (some a0) 7).bind fun a3 =>
        (f_mdl_slotWord w a3 x8 ((x5 >>> ((32 : Int32).toInt64 &&& 63)).toInt32)).bind fun w5 =>
        (rc_rc w5 (some a0) 7).bind fun a7 =>
        (f_mdl_slotWord w5 a7 x8 x5.toInt32).bind fun w9 =>
        b_mdl_call_216 w9 a0 x8
    else
      (rc_gI w (some a0) 7 2).bind fun v11 =>
      if v11 ≤ x9 then
        b_mdl_call_181 (b_mdl_call_151 fuel) w a0 x4 x5 x7 x8 x9 (some a0) x8 0
      else
        (rc_gR w (some a0) 7 1).bind fun v14 =>
        (rc_aI w v14 0 x9).bind fun v16 =>
        b_mdl_call_181 (b_mdl_call_151 fuel) w a0 x4 x5 x7 x8 x9 (some a0) x8 v16

def b_mdl_call_119 : Nat → rc_M → Nat → Int32 → Int64 → Int32 → Int32 → Int32 → Option (Int32 × rc_M)
  | 0, _, _, _, _, _, _, _ => none
  | fuel + 1, w, a0, x4, x5, x7, x8, x9 =>
    if 4 ≤ x9 then
      (rc_gI w (some a0) 7 2).bind fun v2 =>
      (rc_rc w (some a0) 7).bind fun a4 =>
      (f_mdl_slotWord w a4 x8 v2).bind fun w6 =>
      b_mdl_call_151 5000 w6 a0 x4 x5 x7 x8 0
    else
      (rc_rc w (some a0) 7).bind fun a8 =>
      (f_mdl_slotWord w a8 x8 0).bind fun w10 =>
      b_mdl_call_119 fuel w10 a0 x4 x5 x7 x8 (x9 + 1)

def b_mdl_call_64 (w : rc_M) (a0 : Nat) (x1 : Int32) (x2 : Int32) (x3 : Int32) (x4 : Int32) (x5 : Int64) (x7 : Int32) (x8 : Int32) (s0 : Option Nat) (s1 : Int32) (s2 : Int32) (s3 : Int32) : Option (Int32 × rc_M) :=
  (rc_rc w s0 7).bind fun a1 =>
  (f_mdl_slotWord w a1 s1 (((s2 + s3) - 2147483647) - 1)).bind fun w3 =>
  (rc_rc w3 (some a0) 7).bind fun a5 =>
  (f_mdl_slotWord w3 a5 x8 x1).bind fun w7 =>
  (rc_rc w7 (some a0) 7).bind fun a9 =>
  (f_mdl_slotWord w7 a9 x8 0).bind fun w11 =>
  (rc_rc w11 (some a0) 7).bind fun a13 =>
  (f_mdl_slotWord w11 a13 x8 2).bind fun w15 =>
  (rc_rc w15 (some a0) 7).bind fun a17 =>
  (f_mdl_slotWord w15 a17 x8 400100).bind fun w19 =>
  (rc_rc w19 (some a0) 7).bind fun a21 =>
  (f_mdl_slotWord w19 a21 x8 x2).bind fun w23 =>
  (rc_rc w23 (some a0) 7).bind fun a25 =>
  (f_mdl_slotWord w23 a25 x8 x3).bind fun w27 =>
  b_mdl_call_119 5000 w27 a0 x4 x5 x7 x8 0

def b_mdl_call_15 (w : rc_M) (a0 : Nat) (x1 : Int32) (x2 : Int32) (x3 : Int32) (x4 : Int32) (x5 : Int64) (s0 : Option Nat) (s1 : Int32) : Option (Int32 × rc_M) :=
  (rc_pI w s0 7 0 s1).bind fun w1 =>
  (rc_gI w1 (some a0) 7 0).bind fun v3 =>
  if v3 ≤ 0 then
    (rc_gI w1 (some a0) 7 2).bind fun v6 =>
    (rc_rc w1 (some a0) 7).bind fun a9 =>
    (f_mdl_newSlot w1 a9).bind fun p11 =>
    if x4 = 0 then
      b_mdl_call_64 p11.2 a0 x1 x2 x3 x4 x5 (((v6 + 3) / 4) * 4) p11.1 (some a0) p11.1 (44 + (((v6 + 3) / 4) * 4)) 0
    else
      b_mdl_call_64 p11.2 a0 x1 x2 x3 x4 x5 (((v6 + 3) / 4) * 4) p11.1 (some a0) p11.1 (44 + (((v6 + 3) / 4) * 4)) 8
  else
    some (0, w1)

def f_mdl_call (w : rc_M) (a0 : Nat) (x1 : Int32) (x2 : Int32) (x3 : Int32) (x4 : Int32) (x5 : Int64) : Option (Int32 × rc_M) :=
  (rc_gI w (some a0) 7 2).bind fun v1 =>
  if v1 ≤ 16 then
    b_mdl_call_15 w a0 x1 x2 x3 x4 x5 (some a0) 0
  else
    b_mdl_call_15 w a0 x1 x2 x3 x4 x5 (some a0) 1

def b_mdl_take_167 (w : rc_M) (a0 : Nat) (x1 : Int32) : Option (Int32 × rc_M) :=
  (rc_gR w (some a0) 7 15).bind fun v1 =>
  (rc_aI w v1 0 x1).bind fun v3 =>
  if v3 = 0 then
    (rc_gR w (some a0) 7 17).bind fun v6 =>
    (rc_sI w v6 3 x1 0).bind fun w8 =>
    (rc_gR w8 (some a0) 7 16).bind fun v10 =>
    (rc_aI w8 v10 3 x1).bind fun v12 =>
    rc_z1 v12 w8
  else
    rc_z1 0 w

def b_mdl_take_116 (w : rc_M) (a0 : Nat) (x1 : Int32) (s0 : Option Nat) (s1 : Int32) (s2 : Int32) : Option (Int32 × rc_M) :=
  (rc_sI w s0 3 s1 s2).bind fun w1 =>
  (rc_gR w1 (some a0) 7 15).bind fun v3 =>
  (rc_gR w1 (some a0) 7 14).bind fun v5 =>
  (rc_aI w1 v5 0 x1).bind fun v7 =>
  (rc_sI w1 v3 0 x1 (v7 &&& 2147483647)).bind fun w9 =>
  (rc_gR w9 (some a0) 7 17).bind fun v11 =>
  (rc_sI w9 v11 3 x1 1).bind fun w13 =>
  (rc_gR w13 (some a0) 7 15).bind fun v15 =>
  (rc_aI w13 v15 0 x1).bind fun v17 =>
  (rc_gR w13 (some a0) 7 12).bind fun v19 =>
  (rc_aI w13 v19 0 x1).bind fun v21 =>
  if v17 ≤ (1200 - v21) then
    b_mdl_take_167 w13 a0 x1
  else
    (rc_gR w13 (some a0) 7 18).bind fun v24 =>
    (rc_sI w13 v24 3 x1 1).bind fun w26 =>
    rc_z1 0 w26

def f_mdl_take (w : rc_M) (a0 : Nat) (x1 : Int32) (x2 : Int32) : Option (Int32 × rc_M) :=
  (rc_gR w (some a0) 7 17).bind fun v1 =>
  (rc_aI w v1 3 x1).bind fun v3 =>
  if v3 = 0 then
    (rc_gR w (some a0) 7 14).bind fun v6 =>
    (rc_gR w (some a0) 7 14).bind fun v8 =>
    (rc_aI w v8 0 x1).bind fun v10 =>
    (rc_sI w v6 0 x1 ((v10 <<< (8 &&& 31)) ||| x2)).bind fun w12 =>
    (rc_gR w12 (some a0) 7 13).bind fun v14 =>
    (rc_aI w12 v14 0 x1).bind fun v16 =>
    (rc_sI w12 v14 0 x1 (v16 + 1)).bind fun w18 =>
    (rc_gR w18 (some a0) 7 13).bind fun v20 =>
    (rc_aI w18 v20 0 x1).bind fun v22 =>
    if 4 ≤ v22 then
      (rc_gR w18 (some a0) 7 13).bind fun v25 =>
      (rc_sI w18 v25 0 x1 0).bind fun w27 =>
      (rc_gR w27 (some a0) 7 16).bind fun v29 =>
      (rc_gR w27 (some a0) 7 14).bind fun v31 =>
      (rc_aI w27 v31 0 x1).bind fun v33 =>
      if 0 ≤ v33 then
        b_mdl_take_116 w27 a0 x1 v29 x1 0
      else
        b_mdl_take_116 w27 a0 x1 v29 x1 1
    else
      rc_z1 0 w18
  else
    (rc_gR w (some a0) 7 11).bind fun v36 =>
    (rc_gR w (some a0) 7 12).bind fun v38 =>
    (rc_aI w v38 0 x1).bind fun v40 =>
    (rc_sI w v36 2 ((1200 * x1) + v40) x2.toInt8.toInt32).bind fun w42 =>
    (rc_gR w42 (some a0) 7 12).bind fun v44 =>
    (rc_aI w42 v44 0 x1).bind fun v46 =>
    (rc_sI w42 v44 0 x1 (v46 + 1)).bind fun w48 =>
    (rc_gR w48 (some a0) 7 15).bind fun v50 =>
    (rc_aI w48 v50 0 x1).bind fun v52 =>
    (rc_sI w48 v50 0 x1 (v52 - 1)).bind fun w54 =>
    b_mdl_take_167 w54 a0 x1

set_option maxRecDepth 100000 in
set_option maxHeartbeats 4000000 in
theorem ct_mdl_init {l : Launch} {G : rc_G} {w : rc_M} {a0 : Nat} {res : rc_M} (h : f_mdl_init w a0 = some res) : rc_Ct l G y_mdl_init prog_9_method_1_code 1 none 1 20 [va_rf (some a0)] w none res := by
  refine rc_enter (by decide +kernel) (by simp [lg_sl, va_rf_cat, rc_cat_i, rc_cat_l]) ?_
  intro X _ _ hN hF hL C E
  have hlv : lv_args 0 [va_rf (some a0)] = [(0, va_rf (some a0))] := by simp [lv_args, va_rf_cat, rc_cat_i, rc_cat_l]
  rw [hlv]
  clear hlv
  unfold f_mdl_init at h
  refine j_aload_n C d_mdl_init_0 rfl 0 rfl ?_
  refine j_oinit C rfl T_717 T_24 T_25 (rc_le hF (by decide)) (rc_le hL (by simp [va_rf_cat, rc_cat_i, rc_cat_l])) d_mdl_init_1 rfl ?_
  refine j_aload_n C d_mdl_init_4 rfl 0 rfl ?_
  refine j_sipush (v := 1600) C d_mdl_init_5 rfl (by decide) ?_
  obtain ⟨p1, h2, h⟩ := Option.bind_eq_some_iff.mp h
  refine j_newA C (kd := 0) (ty := .int) rfl rfl (fun _ _ h => h) (fun _ _ => rfl) (by decide) T_132 h2 d_mdl_init_8 rfl ?_
  obtain ⟨w3, h4, h⟩ := Option.bind_eq_some_iff.mp h
  refine j_putV C (ci := 7) (k := 1) (by decide) (by decide) T_720 (Or.inr ⟨rfl, E.2.1, rfl⟩) rfl (by first | rfl | exact rc_fo _ _ | exact rc_fa _ _) h4 d_mdl_init_10 rfl ?_
  refine j_aload_n C d_mdl_init_13 rfl 0 rfl ?_
  refine j_ldc C d_mdl_init_14 rfl T_718 ?_
  obtain ⟨p5, h6, h⟩ := Option.bind_eq_some_iff.mp h
  refine j_newA C (kd := 2) (ty := .byte) rfl rfl (fun _ _ h => h) (fun _ _ => rfl) (by decide) T_39 h6 d_mdl_init_16 rfl ?_
  obtain ⟨w7, h8, h⟩ := Option.bind_eq_some_iff.mp h
  refine j_putV C (ci := 7) (k := 3) (by decide) (by decide) T_722 (Or.inr ⟨rfl, E.2.1, rfl⟩) rfl (by first | rfl | exact rc_fo _ _ | exact rc_fa _ _) h8 d_mdl_init_18 rfl ?_
  refine j_aload_n C d_mdl_init_21 rfl 0 rfl ?_
  refine j_bipush (v := 64) C d_mdl_init_22 rfl (by decide) ?_
  obtain ⟨p9, h10, h⟩ := Option.bind_eq_some_iff.mp h
  refine j_newA C (kd := 0) (ty := .int) rfl rfl (fun _ _ h => h) (fun _ _ => rfl) (by decide) T_132 h10 d_mdl_init_24 rfl ?_
  obtain ⟨w11, h12, h⟩ := Option.bind_eq_some_iff.mp h
  refine j_putV C (ci := 7) (k := 4) (by decide) (by decide) T_723 (Or.inr ⟨rfl, E.2.1, rfl⟩) rfl (by first | rfl | exact rc_fo _ _ | exact rc_fa _ _) h12 d_mdl_init_26 rfl ?_
  refine j_aload_n C d_mdl_init_29 rfl 0 rfl ?_
  refine j_sipush (v := 1600) C d_mdl_init_30 rfl (by decide) ?_
  obtain ⟨p13, h14, h⟩ := Option.bind_eq_some_iff.mp h
  refine j_newA C (kd := 2) (ty := .byte) rfl rfl (fun _ _ h => h) (fun _ _ => rfl) (by decide) T_39 h14 d_mdl_init_33 rfl ?_
  obtain ⟨w15, h16, h⟩ := Option.bind_eq_some_iff.mp h
  refine j_putV C (ci := 7) (k := 6) (by decide) (by decide) T_725 (Or.inr ⟨rfl, E.2.1, rfl⟩) rfl (by first | rfl | exact rc_fo _ _ | exact rc_fa _ _) h16 d_mdl_init_35 rfl ?_
  refine j_aload_n C d_mdl_init_38 rfl 0 rfl ?_
  refine j_sipush (v := 656) C d_mdl_init_39 rfl (by decide) ?_
  obtain ⟨p17, h18, h⟩ := Option.bind_eq_some_iff.mp h
  refine j_newA C (kd := 2) (ty := .byte) rfl rfl (fun _ _ h => h) (fun _ _ => rfl) (by decide) T_39 h18 d_mdl_init_42 rfl ?_
  obtain ⟨w19, h20, h⟩ := Option.bind_eq_some_iff.mp h
  refine j_putV C (ci := 7) (k := 7) (by decide) (by decide) T_726 (Or.inr ⟨rfl, E.2.1, rfl⟩) rfl (by first | rfl | exact rc_fo _ _ | exact rc_fa _ _) h20 d_mdl_init_44 rfl ?_
  refine j_aload_n C d_mdl_init_47 rfl 0 rfl ?_
  refine j_bipush (v := 41) C d_mdl_init_48 rfl (by decide) ?_
  obtain ⟨p21, h22, h⟩ := Option.bind_eq_some_iff.mp h
  refine j_newA C (kd := 0) (ty := .int) rfl rfl (fun _ _ h => h) (fun _ _ => rfl) (by decide) T_132 h22 d_mdl_init_50 rfl ?_
  obtain ⟨w23, h24, h⟩ := Option.bind_eq_some_iff.mp h
  refine j_putV C (ci := 7) (k := 8) (by decide) (by decide) T_727 (Or.inr ⟨rfl, E.2.1, rfl⟩) rfl (by first | rfl | exact rc_fo _ _ | exact rc_fa _ _) h24 d_mdl_init_52 rfl ?_
  refine j_aload_n C d_mdl_init_55 rfl 0 rfl ?_
  refine j_bipush (v := 41) C d_mdl_init_56 rfl (by decide) ?_
  obtain ⟨p25, h26, h⟩ := Option.bind_eq_some_iff.mp h
  refine j_newA C (kd := 1) (ty := .long) rfl rfl (fun _ _ h => h) (fun _ _ => rfl) (by decide) T_67 h26 d_mdl_init_58 rfl ?_
  obtain ⟨w27, h28, h⟩ := Option.bind_eq_some_iff.mp h
  refine j_putV C (ci := 7) (k := 9) (by decide) (by decide) T_728 (Or.inr ⟨rfl, E.2.1, rfl⟩) rfl (by first | rfl | exact rc_fo _ _ | exact rc_fa _ _) h28 d_mdl_init_60 rfl ?_
  refine j_aload_n C d_mdl_init_63 rfl 0 rfl ?_
  refine j_sipush (v := 4800) C d_mdl_init_64 rfl (by decide) ?_
  obtain ⟨p29, h30, h⟩ := Option.bind_eq_some_iff.mp h
  refine j_newA C (kd := 2) (ty := .byte) rfl rfl (fun _ _ h => h) (fun _ _ => rfl) (by decide) T_39 h30 d_mdl_init_67 rfl ?_
  obtain ⟨w31, h32, h⟩ := Option.bind_eq_some_iff.mp h
  refine j_putV C (ci := 7) (k := 11) (by decide) (by decide) T_730 (Or.inr ⟨rfl, E.2.1, rfl⟩) rfl (by first | rfl | exact rc_fo _ _ | exact rc_fa _ _) h32 d_mdl_init_69 rfl ?_
  refine j_aload_n C d_mdl_init_72 rfl 0 rfl ?_
  refine j_iconst (v := 4) C d_mdl_init_73 rfl (by decide) ?_
  obtain ⟨p33, h34, h⟩ := Option.bind_eq_some_iff.mp h
  refine j_newA C (kd := 0) (ty := .int) rfl rfl (fun _ _ h => h) (fun _ _ => rfl) (by decide) T_132 h34 d_mdl_init_74 rfl ?_
  obtain ⟨w35, h36, h⟩ := Option.bind_eq_some_iff.mp h
  refine j_putV C (ci := 7) (k := 12) (by decide) (by decide) T_731 (Or.inr ⟨rfl, E.2.1, rfl⟩) rfl (by first | rfl | exact rc_fo _ _ | exact rc_fa _ _) h36 d_mdl_init_76 rfl ?_
  refine j_aload_n C d_mdl_init_79 rfl 0 rfl ?_
  refine j_iconst (v := 4) C d_mdl_init_80 rfl (by decide) ?_
  obtain ⟨p37, h38, h⟩ := Option.bind_eq_some_iff.mp h
  refine j_newA C (kd := 0) (ty := .int) rfl rfl (fun _ _ h => h) (fun _ _ => rfl) (by decide) T_132 h38 d_mdl_init_81 rfl ?_
  obtain ⟨w39, h40, h⟩ := Option.bind_eq_some_iff.mp h
  refine j_putV C (ci := 7) (k := 13) (by decide) (by decide) T_732 (Or.inr ⟨rfl, E.2.1, rfl⟩) rfl (by first | rfl | exact rc_fo _ _ | exact rc_fa _ _) h40 d_mdl_init_83 rfl ?_
  refine j_aload_n C d_mdl_init_86 rfl 0 rfl ?_
  refine j_iconst (v := 4) C d_mdl_init_87 rfl (by decide) ?_
  obtain ⟨p41, h42, h⟩ := Option.bind_eq_some_iff.mp h
  refine j_newA C (kd := 0) (ty := .int) rfl rfl (fun _ _ h => h) (fun _ _ => rfl) (by decide) T_132 h42 d_mdl_init_88 rfl ?_
  obtain ⟨w43, h44, h⟩ := Option.bind_eq_some_iff.mp h
  refine j_putV C (ci := 7) (k := 14) (by decide) (by decide) T_733 (Or.inr ⟨rfl, E.2.1, rfl⟩) rfl (by first | rfl | exact rc_fo _ _ | exact rc_fa _ _) h44 d_mdl_init_90 rfl ?_
  refine j_aload_n C d_mdl_init_93 rfl 0 rfl ?_
  refine j_iconst (v := 4) C d_mdl_init_94 rfl (by decide) ?_
  obtain ⟨p45, h46, h⟩ := Option.bind_eq_some_iff.mp h
  refine j_newA C (kd := 0) (ty := .int) rfl rfl (fun _ _ h => h) (fun _ _ => rfl) (by decide) T_132 h46 d_mdl_init_95 rfl ?_
  obtain ⟨w47, h48, h⟩ := Option.bind_eq_some_iff.mp h
  refine j_putV C (ci := 7) (k := 15) (by decide) (by decide) T_734 (Or.inr ⟨rfl, E.2.1, rfl⟩) rfl (by first | rfl | exact rc_fo _ _ | exact rc_fa _ _) h48 d_mdl_init_97 rfl ?_
  refine j_aload_n C d_mdl_init_100 rfl 0 rfl ?_
  refine j_iconst (v := 4) C d_mdl_init_101 rfl (by decide) ?_
  obtain ⟨p49, h50, h⟩ := Option.bind_eq_some_iff.mp h
  refine j_newA C (kd := 3) (ty := .boolean) rfl rfl (fun _ _ h => h) (fun _ _ => rfl) (by decide) T_822 h50 d_mdl_init_102 rfl ?_
  obtain ⟨w51, h52, h⟩ := Option.bind_eq_some_iff.mp h
  refine j_putV C (ci := 7) (k := 16) (by decide) (by decide) T_735 (Or.inr ⟨rfl, E.2.1, rfl⟩) rfl (by first | rfl | exact rc_fo _ _ | exact rc_fa _ _) h52 d_mdl_init_104 rfl ?_
  refine j_aload_n C d_mdl_init_107 rfl 0 rfl ?_
  refine j_iconst (v := 4) C d_mdl_init_108 rfl (by decide) ?_
  obtain ⟨p53, h54, h⟩ := Option.bind_eq_some_iff.mp h
  refine j_newA C (kd := 3) (ty := .boolean) rfl rfl (fun _ _ h => h) (fun _ _ => rfl) (by decide) T_822 h54 d_mdl_init_109 rfl ?_
  obtain ⟨w55, h56, h⟩ := Option.bind_eq_some_iff.mp h
  refine j_putV C (ci := 7) (k := 17) (by decide) (by decide) T_736 (Or.inr ⟨rfl, E.2.1, rfl⟩) rfl (by first | rfl | exact rc_fo _ _ | exact rc_fa _ _) h56 d_mdl_init_111 rfl ?_
  refine j_aload_n C d_mdl_init_114 rfl 0 rfl ?_
  refine j_iconst (v := 4) C d_mdl_init_115 rfl (by decide) ?_
  obtain ⟨p57, h58, h⟩ := Option.bind_eq_some_iff.mp h
  refine j_newA C (kd := 3) (ty := .boolean) rfl rfl (fun _ _ h => h) (fun _ _ => rfl) (by decide) T_822 h58 d_mdl_init_116 rfl ?_
  obtain ⟨w59, h60, h⟩ := Option.bind_eq_some_iff.mp h
  refine j_putV C (ci := 7) (k := 18) (by decide) (by decide) T_737 (Or.inr ⟨rfl, E.2.1, rfl⟩) rfl (by first | rfl | exact rc_fo _ _ | exact rc_fa _ _) h60 d_mdl_init_118 rfl ?_
  refine j_aload_n C d_mdl_init_121 rfl 0 rfl ?_
  refine j_bipush (v := 32) C d_mdl_init_122 rfl (by decide) ?_
  obtain ⟨p61, h62, h⟩ := Option.bind_eq_some_iff.mp h
  refine j_newA C (kd := 0) (ty := .int) rfl rfl (fun _ _ h => h) (fun _ _ => rfl) (by decide) T_132 h62 d_mdl_init_124 rfl ?_
  obtain ⟨w63, h64, h⟩ := Option.bind_eq_some_iff.mp h
  refine j_putV C (ci := 7) (k := 19) (by decide) (by decide) T_738 (Or.inr ⟨rfl, E.2.1, rfl⟩) rfl (by first | rfl | exact rc_fo _ _ | exact rc_fa _ _) h64 d_mdl_init_126 rfl ?_
  refine j_aload_n C d_mdl_init_129 rfl 0 rfl ?_
  refine j_bipush (v := 32) C d_mdl_init_130 rfl (by decide) ?_
  obtain ⟨p65, h66, h⟩ := Option.bind_eq_some_iff.mp h
  refine j_newA C (kd := 0) (ty := .int) rfl rfl (fun _ _ h => h) (fun _ _ => rfl) (by decide) T_132 h66 d_mdl_init_132 rfl ?_
  obtain ⟨w67, h68, h⟩ := Option.bind_eq_some_iff.mp h
  refine j_putV C (ci := 7) (k := 20) (by decide) (by decide) T_739 (Or.inr ⟨rfl, E.2.1, rfl⟩) rfl (by first | rfl | exact rc_fo _ _ | exact rc_fa _ _) h68 d_mdl_init_134 rfl ?_
  refine j_aload_n C d_mdl_init_137 rfl 0 rfl ?_
  refine j_sipush (v := 12800) C d_mdl_init_138 rfl (by decide) ?_
  obtain ⟨p69, h70, h⟩ := Option.bind_eq_some_iff.mp h
  refine j_newA C (kd := 2) (ty := .byte) rfl rfl (fun _ _ h => h) (fun _ _ => rfl) (by decide) T_39 h70 d_mdl_init_141 rfl ?_
  obtain ⟨w71, h72, h⟩ := Option.bind_eq_some_iff.mp h
  refine j_putV C (ci := 7) (k := 21) (by decide) (by decide) T_740 (Or.inr ⟨rfl, E.2.1, rfl⟩) rfl (by first | rfl | exact rc_fo _ _ | exact rc_fa _ _) h72 d_mdl_init_143 rfl ?_
  refine j_aload_n C d_mdl_init_146 rfl 0 rfl ?_
  refine j_iconst (v := 4) C d_mdl_init_147 rfl (by decide) ?_
  obtain ⟨p73, h74, h⟩ := Option.bind_eq_some_iff.mp h
  refine j_newA C (kd := 0) (ty := .int) rfl rfl (fun _ _ h => h) (fun _ _ => rfl) (by decide) T_132 h74 d_mdl_init_148 rfl ?_
  obtain ⟨w75, h76, h⟩ := Option.bind_eq_some_iff.mp h
  refine j_putV C (ci := 7) (k := 22) (by decide) (by decide) T_741 (Or.inr ⟨rfl, E.2.1, rfl⟩) rfl (by first | rfl | exact rc_fo _ _ | exact rc_fa _ _) h76 d_mdl_init_150 rfl ?_
  refine j_aload_n C d_mdl_init_153 rfl 0 rfl ?_
  refine j_sipush (v := 400) C d_mdl_init_154 rfl (by decide) ?_
  obtain ⟨p77, h78, h⟩ := Option.bind_eq_some_iff.mp h
  refine j_newA C (kd := 2) (ty := .byte) rfl rfl (fun _ _ h => h) (fun _ _ => rfl) (by decide) T_39 h78 d_mdl_init_157 rfl ?_
  obtain ⟨w79, h80, h⟩ := Option.bind_eq_some_iff.mp h
  refine j_putV C (ci := 7) (k := 31) (by decide) (by decide) T_750 (Or.inr ⟨rfl, E.2.1, rfl⟩) rfl (by first | rfl | exact rc_fo _ _ | exact rc_fa _ _) h80 d_mdl_init_159 rfl ?_
  cases h
  exact j_vret C E d_mdl_init_162

set_option maxRecDepth 100000 in
set_option maxHeartbeats 4000000 in
theorem ct_mdl_thrown {l : Launch} {G : rc_G} {w : rc_M} {a0 : Nat} {res : Int32 × rc_M} (h : f_mdl_thrown w a0 = some res) : rc_Ct l G y_mdl_thrown prog_9_method_2_code 1 (some .int) 0 0 [va_rf (some a0)] w (some (.int res.1)) res.2 := by
  refine rc_enter (by decide +kernel) (by simp [lg_sl, va_rf_cat, rc_cat_i, rc_cat_l]) ?_
  intro X _ _ hN hF hL C E
  have hlv : lv_args 0 [va_rf (some a0)] = [(0, va_rf (some a0))] := by simp [lv_args, va_rf_cat, rc_cat_i, rc_cat_l]
  rw [hlv]
  clear hlv
  unfold f_mdl_thrown at h
  refine j_aload_n C d_mdl_thrown_0 rfl 0 rfl ?_
  obtain ⟨v1, h2, h⟩ := Option.bind_eq_some_iff.mp h
  refine j_getI C fl_mdl_74 h2 d_mdl_thrown_1 rfl ?_
  cases h
  exact j_iret C E d_mdl_thrown_4

set_option maxRecDepth 100000 in
set_option maxHeartbeats 4000000 in
theorem k_mdl_isSlot_28 {X : rc_X} {w0 : rc_M} (hF : (q_R X).frames = 0) (hL : (q_R X).locals = 0) (hN : q_n X = 2) (C : rc_C X "RecordCallsModel" prog_9_method_3_code w0) {res : Int32 × rc_M} (E : rc_E0 X y_mdl_isSlot (some .boolean) (some (.int res.1)) res.2) {w : rc_M} {s0 : Int32} (h : b_mdl_isSlot_28 w s0 = some res) : rc_J X w 28 [.int s0] [] := by
  unfold b_mdl_isSlot_28 at h
  obtain ⟨hz, rfl⟩ := rc_z1_spec h
  exact j_zret C hz E d_mdl_isSlot_28

set_option maxRecDepth 100000 in
set_option maxHeartbeats 4000000 in
theorem k_mdl_isSlot_27 {X : rc_X} {w0 : rc_M} (hF : (q_R X).frames = 0) (hL : (q_R X).locals = 0) (hN : q_n X = 2) (C : rc_C X "RecordCallsModel" prog_9_method_3_code w0) {res : Int32 × rc_M} (E : rc_E0 X y_mdl_isSlot (some .boolean) (some (.int res.1)) res.2) {w : rc_M}  (h : b_mdl_isSlot_27 w  = some res) : rc_J X w 27 [] [] := by
  unfold b_mdl_isSlot_27 at h
  refine j_iconst (v := 0) C d_mdl_isSlot_27 rfl (by decide) ?_
  exact k_mdl_isSlot_28 hF hL hN C E h

set_option maxRecDepth 100000 in
set_option maxHeartbeats 4000000 in
theorem ct_mdl_isSlot {l : Launch} {G : rc_G} {w : rc_M} {a0 : Nat} {x1 : Int32} {res : Int32 × rc_M} (h : f_mdl_isSlot w a0 x1 = some res) : rc_Ct l G y_mdl_isSlot prog_9_method_3_code 2 (some .boolean) 0 0 [va_rf (some a0), .int x1] w (some (.int res.1)) res.2 := by
  refine rc_enter (by decide +kernel) (by simp [lg_sl, va_rf_cat, rc_cat_i, rc_cat_l]) ?_
  intro X _ _ hN hF hL C E
  have hlv : lv_args 0 [va_rf (some a0), .int x1] = [(0, va_rf (some a0)), (1, .int x1)] := by simp [lv_args, va_rf_cat, rc_cat_i, rc_cat_l]
  rw [hlv]
  clear hlv
  unfold f_mdl_isSlot at h
  refine j_iload_n C d_mdl_isSlot_0 rfl 1 rfl ?_
  refine j_if_lt (tgt := 27) C d_mdl_isSlot_1 (by decide) rfl (fun c1 => ?_) (fun c1 => ?_)
  · rw [if_pos c1] at h
    refine rc_J.sub (lv' := []) [] rfl ?_
    exact k_mdl_isSlot_27 hF hL hN C E h
  · rw [if_neg c1] at h
    refine j_iload_n C d_mdl_isSlot_4 rfl 1 rfl ?_
    refine j_aload_n C d_mdl_isSlot_5 rfl 0 rfl ?_
    obtain ⟨v2, h3, h⟩ := Option.bind_eq_some_iff.mp h
    refine j_getI C fl_mdl_78 h3 d_mdl_isSlot_6 rfl ?_
    refine j_icmp_ge (tgt := 27) C d_mdl_isSlot_9 (by decide) rfl (fun c4 => ?_) (fun c4 => ?_)
    · rw [if_pos c4] at h
      refine rc_J.sub (lv' := []) [] rfl ?_
      exact k_mdl_isSlot_27 hF hL hN C E h
    · rw [if_neg c4] at h
      refine j_iload_n C d_mdl_isSlot_12 rfl 1 rfl ?_
      refine j_aload_n C d_mdl_isSlot_13 rfl 0 rfl ?_
      obtain ⟨v5, h6, h⟩ := Option.bind_eq_some_iff.mp h
      refine j_getI C fl_mdl_78 h6 d_mdl_isSlot_14 rfl ?_
      refine j_bipush (v := 64) C d_mdl_isSlot_17 rfl (by decide) ?_
      refine j_isub C d_mdl_isSlot_19 rfl ?_
      refine j_icmp_lt (tgt := 27) C d_mdl_isSlot_20 (by decide) rfl (fun c7 => ?_) (fun c7 => ?_)
      · rw [if_pos c7] at h
        refine rc_J.sub (lv' := []) [] rfl ?_
        exact k_mdl_isSlot_27 hF hL hN C E h
      · rw [if_neg c7] at h
        refine j_iconst (v := 1) C d_mdl_isSlot_23 rfl (by decide) ?_
        refine j_goto (tgt := 28) C d_mdl_isSlot_24 (by decide) ?_
        refine rc_J.sub (lv' := []) [] rfl ?_
        exact k_mdl_isSlot_28 hF hL hN C E h

set_option maxRecDepth 100000 in
set_option maxHeartbeats 4000000 in
theorem ct_mdl_base {l : Launch} {G : rc_G} {w : rc_M} {x0 : Int32} {res : Int32 × rc_M} (h : f_mdl_base w x0 = some res) : rc_Ct l G y_mdl_base prog_9_method_4_code 1 (some .int) 0 0 [.int x0] w (some (.int res.1)) res.2 := by
  refine rc_enter (by decide +kernel) (by simp [lg_sl, va_rf_cat, rc_cat_i, rc_cat_l]) ?_
  intro X _ _ hN hF hL C E
  have hlv : lv_args 0 [.int x0] = [(0, .int x0)] := by simp [lv_args, va_rf_cat, rc_cat_i, rc_cat_l]
  rw [hlv]
  clear hlv
  unfold f_mdl_base at h
  refine j_sipush (v := 1600) C d_mdl_base_0 rfl (by decide) ?_
  refine j_iload_n C d_mdl_base_3 rfl 0 rfl ?_
  refine j_bipush (v := 64) C d_mdl_base_4 rfl (by decide) ?_
  refine j_irem C d_mdl_base_6 rfl (by decide) ?_
  refine j_imul C d_mdl_base_7 rfl ?_
  cases h
  exact j_iret C E d_mdl_base_8

set_option maxRecDepth 100000 in
set_option maxHeartbeats 4000000 in
theorem ct_mdl_newSlot {l : Launch} {G : rc_G} {w : rc_M} {a0 : Nat} {res : Int32 × rc_M} (h : f_mdl_newSlot w a0 = some res) : rc_Ct l G y_mdl_newSlot prog_9_method_5_code 1 (some .int) 0 0 [va_rf (some a0)] w (some (.int res.1)) res.2 := by
  refine rc_enter (by decide +kernel) (by simp [lg_sl, va_rf_cat, rc_cat_i, rc_cat_l]) ?_
  intro X _ _ hN hF hL C E
  have hlv : lv_args 0 [va_rf (some a0)] = [(0, va_rf (some a0))] := by simp [lv_args, va_rf_cat, rc_cat_i, rc_cat_l]
  rw [hlv]
  clear hlv
  unfold f_mdl_newSlot at h
  refine j_aload_n C d_mdl_newSlot_0 rfl 0 rfl ?_
  obtain ⟨v1, h2, h⟩ := Option.bind_eq_some_iff.mp h
  refine j_getR C fl_mdl_18 h2 d_mdl_newSlot_1 rfl ?_
  refine j_aload_n C d_mdl_newSlot_4 rfl 0 rfl ?_
  obtain ⟨v3, h4, h⟩ := Option.bind_eq_some_iff.mp h
  refine j_getI C fl_mdl_78 h4 d_mdl_newSlot_5 rfl ?_
  refine j_bipush (v := 64) C d_mdl_newSlot_8 rfl (by decide) ?_
  refine j_irem C d_mdl_newSlot_10 rfl (by decide) ?_
  refine j_iconst (v := 0) C d_mdl_newSlot_11 rfl (by decide) ?_
  obtain ⟨w6, h7, h⟩ := Option.bind_eq_some_iff.mp h
  refine j_iast C h7 d_mdl_newSlot_12 rfl ?_
  refine j_aload_n C d_mdl_newSlot_13 rfl 0 rfl ?_
  refine j_dup C d_mdl_newSlot_14 rfl (by first | rfl | exact va_rf_cat _) ?_
  obtain ⟨v8, h9, h⟩ := Option.bind_eq_some_iff.mp h
  refine j_getI C fl_mdl_78 h9 d_mdl_newSlot_15 rfl ?_
  refine j_iconst (v := 1) C d_mdl_newSlot_18 rfl (by decide) ?_
  refine j_iadd C d_mdl_newSlot_19 rfl ?_
  obtain ⟨w10, h11, h⟩ := Option.bind_eq_some_iff.mp h
  refine j_putV C (ci := 7) (k := 5) (by decide) (by decide) T_724 (Or.inl rfl) rfl rfl h11 d_mdl_newSlot_20 rfl ?_
  refine j_aload_n C d_mdl_newSlot_23 rfl 0 rfl ?_
  obtain ⟨v12, h13, h⟩ := Option.bind_eq_some_iff.mp h
  refine j_getI C fl_mdl_78 h13 d_mdl_newSlot_24 rfl ?_
  refine j_iconst (v := 1) C d_mdl_newSlot_27 rfl (by decide) ?_
  refine j_isub C d_mdl_newSlot_28 rfl ?_
  cases h
  exact j_iret C E d_mdl_newSlot_29

set_option maxRecDepth 100000 in
set_option maxHeartbeats 4000000 in
theorem ct_mdl_slotByte {l : Launch} {G : rc_G} {w : rc_M} {a0 : Nat} {x1 : Int32} {x2 : Int32} {res : rc_M} (h : f_mdl_slotByte w a0 x1 x2 = some res) : rc_Ct l G y_mdl_slotByte prog_9_method_6_code 3 none 1 20 [va_rf (some a0), .int x1, .int x2] w none res := by
  refine rc_enter (by decide +kernel) (by simp [lg_sl, va_rf_cat, rc_cat_i, rc_cat_l]) ?_
  intro X _ _ hN hF hL C E
  have hlv : lv_args 0 [va_rf (some a0), .int x1, .int x2] = [(0, va_rf (some a0)), (1, .int x1), (2, .int x2)] := by simp [lv_args, va_rf_cat, rc_cat_i, rc_cat_l]
  rw [hlv]
  clear hlv
  unfold f_mdl_slotByte at h
  refine j_aload_n C d_mdl_slotByte_0 rfl 0 rfl ?_
  obtain ⟨v1, h2, h⟩ := Option.bind_eq_some_iff.mp h
  refine j_getR C fl_mdl_14 h2 d_mdl_slotByte_1 rfl ?_
  refine j_iload_n C d_mdl_slotByte_4 rfl 1 rfl ?_
  obtain ⟨p3, h4, h⟩ := Option.bind_eq_some_iff.mp h
  refine j_callS C (As := [.int x1]) (st := [va_rf v1]) (sk' := [.int p3.1, va_rf v1]) mk_mdl_base (Or.inl T_839) T_840 (rc_le hF (by decide)) (rc_le hL (by decide)) (ct_mdl_base h4) rfl rfl (by simp [va_rf_cat, rc_cat_i, rc_cat_l]) d_mdl_slotByte_5 rfl rfl ?_
  refine j_aload_n C d_mdl_slotByte_8 rfl 0 rfl ?_
  obtain ⟨v5, h6, h⟩ := Option.bind_eq_some_iff.mp h
  refine j_getR C fl_mdl_18 h6 d_mdl_slotByte_9 rfl ?_
  refine j_iload_n C d_mdl_slotByte_12 rfl 1 rfl ?_
  refine j_bipush (v := 64) C d_mdl_slotByte_13 rfl (by decide) ?_
  refine j_irem C d_mdl_slotByte_15 rfl (by decide) ?_
  obtain ⟨v8, h9, h⟩ := Option.bind_eq_some_iff.mp h
  refine j_iald C h9 d_mdl_slotByte_16 rfl ?_
  refine j_iadd C d_mdl_slotByte_17 rfl ?_
  refine j_iload_n C d_mdl_slotByte_18 rfl 2 rfl ?_
  refine j_i2b C d_mdl_slotByte_19 rfl ?_
  obtain ⟨w10, h11, h⟩ := Option.bind_eq_some_iff.mp h
  refine j_bast C h11 d_mdl_slotByte_20 rfl ?_
  refine j_aload_n C d_mdl_slotByte_21 rfl 0 rfl ?_
  obtain ⟨v12, h13, h⟩ := Option.bind_eq_some_iff.mp h
  refine j_getR C fl_mdl_18 h13 d_mdl_slotByte_22 rfl ?_
  refine j_iload_n C d_mdl_slotByte_25 rfl 1 rfl ?_
  refine j_bipush (v := 64) C d_mdl_slotByte_26 rfl (by decide) ?_
  refine j_irem C d_mdl_slotByte_28 rfl (by decide) ?_
  refine j_dup2 C d_mdl_slotByte_29 rfl (by first | rfl | exact va_rf_cat _) (by first | rfl | exact va_rf_cat _) ?_
  obtain ⟨v15, h16, h⟩ := Option.bind_eq_some_iff.mp h
  refine j_iald C h16 d_mdl_slotByte_30 rfl ?_
  refine j_iconst (v := 1) C d_mdl_slotByte_31 rfl (by decide) ?_
  refine j_iadd C d_mdl_slotByte_32 rfl ?_
  obtain ⟨w17, h18, h⟩ := Option.bind_eq_some_iff.mp h
  refine j_iast C h18 d_mdl_slotByte_33 rfl ?_
  cases h
  exact j_vret C E d_mdl_slotByte_34

set_option maxRecDepth 100000 in
set_option maxHeartbeats 4000000 in
theorem k_mdl_slotWord_3 {X : rc_X} {w0 : rc_M} (hF : (q_R X).frames = 2) (hL : (q_R X).locals = 42) (hN : q_n X = 4) (C : rc_C X "RecordCallsModel" prog_9_method_7_code w0) {res : rc_M} (E : rc_E0 X y_mdl_slotWord none none res) : ∀ (fuel : Nat) (w : rc_M) (a0 : Nat) (x1 : Int32) (x2 : Int32) (x3 : Int32), b_mdl_slotWord_3 fuel w a0 x1 x2 x3 = some res → rc_J X w 3 [] [(0, va_rf (some a0)), (1, .int x1), (2, .int x2), (3, .int x3)] := by
  intro fuel
  induction fuel with
  | zero => intro w a0 x1 x2 x3 h; simp [b_mdl_slotWord_3] at h
  | succ fuel ih =>
    intro w a0 x1 x2 x3 h
    unfold b_mdl_slotWord_3 at h
    refine j_iload_n C d_mdl_slotWord_3 rfl 3 rfl ?_
    refine j_if_lt (tgt := 23) C d_mdl_slotWord_4 (by decide) rfl (fun c1 => ?_) (fun c1 => ?_)
    · rw [if_pos c1] at h
      cases h
      exact j_vret C E d_mdl_slotWord_23
    · rw [if_neg c1] at h
      refine j_aload_n C d_mdl_slotWord_7 rfl 0 rfl ?_
      refine j_iload_n C d_mdl_slotWord_8 rfl 1 rfl ?_
      refine j_iload_n C d_mdl_slotWord_9 rfl 2 rfl ?_
      refine j_iload_n C d_mdl_slotWord_10 rfl 3 rfl ?_
      refine j_ishr C d_mdl_slotWord_11 rfl ?_
      obtain ⟨a2, h3, h⟩ := Option.bind_eq_some_iff.mp h
      obtain ⟨w4, h5, h⟩ := Option.bind_eq_some_iff.mp h
      refine j_callV C (As := [.int x1, .int (x2 >>> (x3 &&& 31))]) (st := []) (sk' := []) mk_mdl_slotByte (Or.inl T_835) T_837 S_25 (ci := 7) rfl h3 (rc_le hF (by decide)) (rc_le hL (by decide)) (ct_mdl_slotByte h5) rfl rfl (by decide) d_mdl_slotWord_12 rfl rfl ?_
      refine j_iload_n C d_mdl_slotWord_15 rfl 3 rfl ?_
      refine j_bipush (v := 8) C d_mdl_slotWord_16 rfl (by decide) ?_
      refine j_isub C d_mdl_slotWord_18 rfl ?_
      refine j_istore_n C (i := 3) d_mdl_slotWord_19 rfl rfl [(3, .int (x3 - 8)), (0, va_rf (some a0)), (1, .int x1), (2, .int x2)] (rc_lt hN (by decide)) (by first | rfl | simp [va_rf_cat, rc_cat_i, rc_cat_l]) ?_
      refine j_goto (tgt := 3) C d_mdl_slotWord_20 (by decide) ?_
      refine rc_J.sub (lv' := [(0, va_rf (some a0)), (1, .int x1), (2, .int x2), (3, .int (x3 - 8))]) [1, 2, 3, 0] rfl ?_
      exact ih _ _ _ _ _ h

set_option maxRecDepth 100000 in
set_option maxHeartbeats 4000000 in
theorem ct_mdl_slotWord {l : Launch} {G : rc_G} {w : rc_M} {a0 : Nat} {x1 : Int32} {x2 : Int32} {res : rc_M} (h : f_mdl_slotWord w a0 x1 x2 = some res) : rc_Ct l G y_mdl_slotWord prog_9_method_7_code 4 none 2 42 [va_rf (some a0), .int x1, .int x2] w none res := by
  refine rc_enter (by decide +kernel) (by simp [lg_sl, va_rf_cat, rc_cat_i, rc_cat_l]) ?_
  intro X _ _ hN hF hL C E
  have hlv : lv_args 0 [va_rf (some a0), .int x1, .int x2] = [(0, va_rf (some a0)), (1, .int x1), (2, .int x2)] := by simp [lv_args, va_rf_cat, rc_cat_i, rc_cat_l]
  rw [hlv]
  clear hlv
  unfold f_mdl_slotWord at h
  refine j_bipush (v := 24) C d_mdl_slotWord_0 rfl (by decide) ?_
  refine j_istore_n C (i := 3) d_mdl_slotWord_2 rfl rfl [(3, .int 24), (0, va_rf (some a0)), (1, .int x1), (2, .int x2)] (rc_lt hN (by decide)) (by first | rfl | simp [va_rf_cat, rc_cat_i, rc_cat_l]) ?_
  refine rc_J.sub (lv' := [(0, va_rf (some a0)), (1, .int x1), (2, .int x2), (3, .int 24)]) [1, 2, 3, 0] rfl ?_
  exact k_mdl_slotWord_3 hF hL hN C E _ _ _ _ _ _ h

set_option maxRecDepth 100000 in
set_option maxHeartbeats 4000000 in
theorem k_mdl_raw_12 {X : rc_X} {w0 : rc_M} (hF : (q_R X).frames = 2) (hL : (q_R X).locals = 42) (hN : q_n X = 3) (C : rc_C X "RecordCallsModel" prog_9_method_8_code w0) {res : Int32 × rc_M} (E : rc_E0 X y_mdl_raw (some .int) (some (.int res.1)) res.2) : ∀ (fuel : Nat) (w : rc_M) (a0 : Nat) (x1 : Int32) (x2 : Int32), b_mdl_raw_12 fuel w a0 x1 x2 = some res → rc_J X w 12 [] [(0, va_rf (some a0)), (1, .int x1), (2, .int x2)] := by
  intro fuel
  induction fuel with
  | zero => intro w a0 x1 x2 h; simp [b_mdl_raw_12] at h
  | succ fuel ih =>
    intro w a0 x1 x2 h
    unfold b_mdl_raw_12 at h
    refine j_iload_n C d_mdl_raw_12 rfl 2 rfl ?_
    refine j_aload_n C d_mdl_raw_13 rfl 0 rfl ?_
    obtain ⟨v1, h2, h⟩ := Option.bind_eq_some_iff.mp h
    refine j_getI C fl_mdl_93 h2 d_mdl_raw_14 rfl ?_
    refine j_icmp_ge (tgt := 37) C d_mdl_raw_17 (by decide) rfl (fun c3 => ?_) (fun c3 => ?_)
    · rw [if_pos c3] at h
      refine j_aload_n C d_mdl_raw_37 rfl 0 rfl ?_
      refine j_iconst (v := 0) C d_mdl_raw_38 rfl (by decide) ?_
      obtain ⟨w4, h5, h⟩ := Option.bind_eq_some_iff.mp h
      refine j_putV C (ci := 7) (k := 2) (by decide) (by decide) T_721 (Or.inl rfl) rfl rfl h5 d_mdl_raw_39 rfl ?_
      refine j_iload_n C d_mdl_raw_42 rfl 1 rfl ?_
      cases h
      exact j_iret C E d_mdl_raw_43
    · rw [if_neg c3] at h
      refine j_aload_n C d_mdl_raw_20 rfl 0 rfl ?_
      refine j_iload_n C d_mdl_raw_21 rfl 1 rfl ?_
      refine j_aload_n C d_mdl_raw_22 rfl 0 rfl ?_
      obtain ⟨v6, h7, h⟩ := Option.bind_eq_some_iff.mp h
      refine j_getR C fl_mdl_7 h7 d_mdl_raw_23 rfl ?_
      refine j_iload_n C d_mdl_raw_26 rfl 2 rfl ?_
      obtain ⟨v8, h9, h⟩ := Option.bind_eq_some_iff.mp h
      refine j_iald C h9 d_mdl_raw_27 rfl ?_
      obtain ⟨a10, h11, h⟩ := Option.bind_eq_some_iff.mp h
      obtain ⟨w12, h13, h⟩ := Option.bind_eq_some_iff.mp h
      refine j_callV C (As := [.int x1, .int v8]) (st := []) (sk' := []) mk_mdl_slotByte (Or.inl T_835) T_837 S_25 (ci := 7) rfl h11 (rc_le hF (by decide)) (rc_le hL (by decide)) (ct_mdl_slotByte h13) rfl rfl (by decide) d_mdl_raw_28 rfl rfl ?_
      refine j_iinc C d_mdl_raw_31 rfl 2 [(2, .int (x2 + 1)), (0, va_rf (some a0)), (1, .int x1)] rfl rfl (rc_lt hN (by decide)) (by first | rfl | simp [va_rf_cat, rc_cat_i, rc_cat_l]) ?_
      refine j_goto (tgt := 12) C d_mdl_raw_34 (by decide) ?_
      refine rc_J.sub (lv' := [(0, va_rf (some a0)), (1, .int x1), (2, .int (x2 + 1))]) [1, 2, 0] rfl ?_
      exact ih _ _ _ _ h

set_option maxRecDepth 100000 in
set_option maxHeartbeats 4000000 in
theorem ct_mdl_raw {l : Launch} {G : rc_G} {w : rc_M} {a0 : Nat} {res : Int32 × rc_M} (h : f_mdl_raw w a0 = some res) : rc_Ct l G y_mdl_raw prog_9_method_8_code 3 (some .int) 2 42 [va_rf (some a0)] w (some (.int res.1)) res.2 := by
  refine rc_enter (by decide +kernel) (by simp [lg_sl, va_rf_cat, rc_cat_i, rc_cat_l]) ?_
  intro X _ _ hN hF hL C E
  have hlv : lv_args 0 [va_rf (some a0)] = [(0, va_rf (some a0))] := by simp [lv_args, va_rf_cat, rc_cat_i, rc_cat_l]
  rw [hlv]
  clear hlv
  unfold f_mdl_raw at h
  refine j_aload_n C d_mdl_raw_0 rfl 0 rfl ?_
  refine j_iconst (v := 0) C d_mdl_raw_1 rfl (by decide) ?_
  obtain ⟨w1, h2, h⟩ := Option.bind_eq_some_iff.mp h
  refine j_putV C (ci := 7) (k := 0) (by decide) (by decide) T_719 (Or.inl rfl) rfl rfl h2 d_mdl_raw_2 rfl ?_
  refine j_aload_n C d_mdl_raw_5 rfl 0 rfl ?_
  obtain ⟨a3, h4, h⟩ := Option.bind_eq_some_iff.mp h
  obtain ⟨p5, h6, h⟩ := Option.bind_eq_some_iff.mp h
  refine j_callV C (As := []) (st := []) (sk' := [.int p5.1]) mk_mdl_newSlot (Or.inl T_831) T_833 S_24 (ci := 7) rfl h4 (rc_le hF (by decide)) (rc_le hL (by decide)) (ct_mdl_newSlot h6) rfl rfl (by decide) d_mdl_raw_6 rfl rfl ?_
  refine j_istore_n C (i := 1) d_mdl_raw_9 rfl rfl [(1, .int p5.1), (0, va_rf (some a0))] (rc_lt hN (by decide)) (by first | rfl | simp [va_rf_cat, rc_cat_i, rc_cat_l]) ?_
  refine j_iconst (v := 0) C d_mdl_raw_10 rfl (by decide) ?_
  refine j_istore_n C (i := 2) d_mdl_raw_11 rfl rfl [(2, .int 0), (1, .int p5.1), (0, va_rf (some a0))] (rc_lt hN (by decide)) (by first | rfl | simp [va_rf_cat, rc_cat_i, rc_cat_l]) ?_
  refine rc_J.sub (lv' := [(0, va_rf (some a0)), (1, .int p5.1), (2, .int 0)]) [2, 1, 0] rfl ?_
  exact k_mdl_raw_12 hF hL hN C E _ _ _ _ _ h

set_option maxRecDepth 100000 in
set_option maxHeartbeats 4000000 in
theorem k_mdl_record_143 {X : rc_X} {w0 : rc_M} (hF : (q_R X).frames = 3) (hL : (q_R X).locals = 65) (hN : q_n X = 9) (C : rc_C X "RecordCallsModel" prog_9_method_9_code w0) {res : Int32 × rc_M} (E : rc_E0 X y_mdl_record (some .int) (some (.int res.1)) res.2) {k79 : rc_M → Nat → Int32 → Int32 → Int32 → Int32 → Int32 → Option (Int32 × rc_M)} (hk79 : ∀ (w : rc_M) (a0 : Nat) (x1 : Int32) (x2 : Int32) (x3 : Int32) (x4 : Int32) (x5 : Int32), k79 w a0 x1 x2 x3 x4 x5 = some res → rc_J X w 79 [] [(0, va_rf (some a0)), (1, .int x1), (2, .int x2), (3, .int x3), (4, .int x4), (5, .int x5)]) : ∀ (fuel : Nat) (w : rc_M) (a0 : Nat) (x1 : Int32) (x2 : Int32) (x3 : Int32) (x4 : Int32) (x5 : Int32) (x7 : Int32) (x8 : Int32), b_mdl_record_143 k79 fuel w a0 x1 x2 x3 x4 x5 x7 x8 = some res → rc_J X w 143 [] [(0, va_rf (some a0)), (1, .int x1), (2, .int x2), (3, .int x3), (4, .int x4), (5, .int x5), (7, .int x7), (8, .int x8)] := by
  intro fuel
  induction fuel with
  | zero => intro w a0 x1 x2 x3 x4 x5 x7 x8 h; simp [b_mdl_record_143] at h
  | succ fuel ih =>
    intro w a0 x1 x2 x3 x4 x5 x7 x8 h
    unfold b_mdl_record_143 at h
    refine j_iload C d_mdl_record_143 rfl 7 rfl ?_
    refine j_iload C d_mdl_record_145 rfl 6 rfl ?_
    refine j_icmp_ge (tgt := 171) C d_mdl_record_147 (by decide) rfl (fun c1 => ?_) (fun c1 => ?_)
    · rw [if_pos c1] at h
      refine j_iload C d_mdl_record_171 rfl 4 rfl ?_
      refine j_iload C d_mdl_record_173 rfl 6 rfl ?_
      refine j_iadd C d_mdl_record_175 rfl ?_
      refine j_istore C (i := 4) d_mdl_record_176 rfl [(4, .int (x4 + x7)), (0, va_rf (some a0)), (1, .int x1), (2, .int x2), (3, .int x3), (5, .int x5), (7, .int x7), (8, .int x8)] (rc_lt hN (by decide)) (by first | rfl | simp [va_rf_cat, rc_cat_i, rc_cat_l]) ?_
      refine j_iinc C d_mdl_record_178 rfl 5 [(5, .int (x5 + 1)), (4, .int (x4 + x7)), (0, va_rf (some a0)), (1, .int x1), (2, .int x2), (3, .int x3), (7, .int x7), (8, .int x8)] rfl rfl (rc_lt hN (by decide)) (by first | rfl | simp [va_rf_cat, rc_cat_i, rc_cat_l]) ?_
      refine j_goto (tgt := 79) C d_mdl_record_181 (by decide) ?_
      refine rc_J.sub (lv' := [(0, va_rf (some a0)), (1, .int x1), (2, .int x2), (3, .int x3), (4, .int (x4 + x7)), (5, .int (x5 + 1))]) [2, 3, 4, 5, 1, 0] rfl ?_
      exact hk79 _ _ _ _ _ _ _ h
    · rw [if_neg c1] at h
      refine j_aload_n C d_mdl_record_150 rfl 0 rfl ?_
      refine j_iload_n C d_mdl_record_151 rfl 3 rfl ?_
      refine j_aload_n C d_mdl_record_152 rfl 0 rfl ?_
      obtain ⟨v2, h3, h⟩ := Option.bind_eq_some_iff.mp h
      refine j_getR C fl_mdl_7 h3 d_mdl_record_153 rfl ?_
      refine j_iload C d_mdl_record_156 rfl 4 rfl ?_
      refine j_iload C d_mdl_record_158 rfl 7 rfl ?_
      refine j_iadd C d_mdl_record_160 rfl ?_
      obtain ⟨v4, h5, h⟩ := Option.bind_eq_some_iff.mp h
      refine j_iald C h5 d_mdl_record_161 rfl ?_
      obtain ⟨a6, h7, h⟩ := Option.bind_eq_some_iff.mp h
      obtain ⟨w8, h9, h⟩ := Option.bind_eq_some_iff.mp h
      refine j_callV C (As := [.int x3, .int v4]) (st := []) (sk' := []) mk_mdl_slotByte (Or.inl T_835) T_837 S_25 (ci := 7) rfl h7 (rc_le hF (by decide)) (rc_le hL (by decide)) (ct_mdl_slotByte h9) rfl rfl (by decide) d_mdl_record_162 rfl rfl ?_
      refine j_iinc C d_mdl_record_165 rfl 7 [(8, .int (x8 + 1)), (0, va_rf (some a0)), (1, .int x1), (2, .int x2), (3, .int x3), (4, .int x4), (5, .int x5), (7, .int x7)] rfl rfl (rc_lt hN (by decide)) (by first | rfl | simp [va_rf_cat, rc_cat_i, rc_cat_l]) ?_
      refine j_goto (tgt := 143) C d_mdl_record_168 (by decide) ?_
      refine rc_J.sub (lv' := [(0, va_rf (some a0)), (1, .int x1), (2, .int x2), (3, .int x3), (4, .int x4), (5, .int x5), (7, .int x7), (8, .int (x8 + 1))]) [1, 2, 3, 4, 5, 6, 7, 0] rfl ?_
      exact ih _ _ _ _ _ _ _ _ _ h

set_option maxRecDepth 100000 in
set_option maxHeartbeats 4000000 in
theorem k_mdl_record_137 {X : rc_X} {w0 : rc_M} (hF : (q_R X).frames = 3) (hL : (q_R X).locals = 65) (hN : q_n X = 9) (C : rc_C X "RecordCallsModel" prog_9_method_9_code w0) {res : Int32 × rc_M} (E : rc_E0 X y_mdl_record (some .int) (some (.int res.1)) res.2) {k79 : rc_M → Nat → Int32 → Int32 → Int32 → Int32 → Int32 → Option (Int32 × rc_M)} (hk79 : ∀ (w : rc_M) (a0 : Nat) (x1 : Int32) (x2 : Int32) (x3 : Int32) (x4 : Int32) (x5 : Int32), k79 w a0 x1 x2 x3 x4 x5 = some res → rc_J X w 79 [] [(0, va_rf (some a0)), (1, .int x1), (2, .int x2), (3, .int x3), (4, .int x4), (5, .int x5)]) {w : rc_M} {a0 : Nat} {x1 : Int32} {x2 : Int32} {x3 : Int32} {x4 : Int32} {x5 : Int32} {x7 : Int32} {s0 : Option Nat} {s1 : Int32} {s2 : Int32} (h : b_mdl_record_137 k79 w a0 x1 x2 x3 x4 x5 x7 s0 s1 s2 = some res) : rc_J X w 137 [.int s2, .int s1, va_rf s0] [(0, va_rf (some a0)), (1, .int x1), (2, .int x2), (3, .int x3), (4, .int x4), (5, .int x5), (7, .int x7)] := by
  unfold b_mdl_record_137 at h
  obtain ⟨a1, h2, h⟩ := Option.bind_eq_some_iff.mp h
  obtain ⟨w3, h4, h⟩ := Option.bind_eq_some_iff.mp h
  refine j_callV C (As := [.int s1, .int s2]) (st := []) (sk' := []) mk_mdl_slotWord (Or.inl T_847) T_849 S_26 (ci := 7) rfl h2 (rc_le hF (by decide)) (rc_le hL (by decide)) (ct_mdl_slotWord h4) rfl rfl (by decide) d_mdl_record_137 rfl rfl ?_
  refine j_iconst (v := 0) C d_mdl_record_140 rfl (by decide) ?_
  refine j_istore C (i := 8) d_mdl_record_141 rfl [(8, .int 0), (0, va_rf (some a0)), (1, .int x1), (2, .int x2), (3, .int x3), (4, .int x4), (5, .int x5), (7, .int x7)] (rc_lt hN (by decide)) (by first | rfl | simp [va_rf_cat, rc_cat_i, rc_cat_l]) ?_
  refine rc_J.sub (lv' := [(0, va_rf (some a0)), (1, .int x1), (2, .int x2), (3, .int x3), (4, .int x4), (5, .int x5), (7, .int x7), (8, .int 0)]) [1, 2, 3, 4, 5, 6, 7, 0] rfl ?_
  exact k_mdl_record_143 hF hL hN C E hk79 _ _ _ _ _ _ _ _ _ _ h

set_option maxRecDepth 100000 in
set_option maxHeartbeats 4000000 in
theorem k_mdl_record_116 {X : rc_X} {w0 : rc_M} (hF : (q_R X).frames = 3) (hL : (q_R X).locals = 65) (hN : q_n X = 9) (C : rc_C X "RecordCallsModel" prog_9_method_9_code w0) {res : Int32 × rc_M} (E : rc_E0 X y_mdl_record (some .int) (some (.int res.1)) res.2) {k79 : rc_M → Nat → Int32 → Int32 → Int32 → Int32 → Int32 → Option (Int32 × rc_M)} (hk79 : ∀ (w : rc_M) (a0 : Nat) (x1 : Int32) (x2 : Int32) (x3 : Int32) (x4 : Int32) (x5 : Int32), k79 w a0 x1 x2 x3 x4 x5 = some res → rc_J X w 79 [] [(0, va_rf (some a0)), (1, .int x1), (2, .int x2), (3, .int x3), (4, .int x4), (5, .int x5)]) {w : rc_M} {a0 : Nat} {x1 : Int32} {x2 : Int32} {x3 : Int32} {x4 : Int32} {x5 : Int32} {x6 : Int32} {s0 : Int32} (h : b_mdl_record_116 k79 w a0 x1 x2 x3 x4 x5 x6 s0 = some res) : rc_J X w 116 [.int s0] [(0, va_rf (some a0)), (1, .int x1), (2, .int x2), (3, .int x3), (4, .int x4), (5, .int x5), (6, .int x6)] := by
  unfold b_mdl_record_116 at h
  refine j_istore C (i := 7) d_mdl_record_116 rfl [(7, .int s0), (0, va_rf (some a0)), (1, .int x1), (2, .int x2), (3, .int x3), (4, .int x4), (5, .int x5), (6, .int x6)] (rc_lt hN (by decide)) (by first | rfl | simp [va_rf_cat, rc_cat_i, rc_cat_l]) ?_
  refine j_aload_n C d_mdl_record_118 rfl 1 rfl ?_
  refine j_iload_n C d_mdl_record_119 rfl 4 rfl ?_
  refine j_iload C d_mdl_record_120 rfl 7 rfl ?_
  refine j_if_eq (tgt := 135) C d_mdl_record_122 (by decide) rfl (fun c1 => ?_) (fun c1 => ?_)
  · rw [if_pos c1] at h
    refine j_iload C d_mdl_record_135 rfl 0 rfl ?_
    refine rc_J.sub (lv' := [(0, va_rf (some a0)), (1, .int x1), (2, .int x2), (3, .int x3), (4, .int x4), (5, .int x5), (7, .int s0)]) [1, 2, 3, 4, 5, 6, 0] rfl ?_
    exact k_mdl_record_137 hF hL hN C E hk79 h
  · rw [if_neg c1] at h
    refine j_iload C d_mdl_record_125 rfl 0 rfl ?_
    refine j_ldc C d_mdl_record_127 rfl T_846 ?_
    refine j_isub C d_mdl_record_129 rfl ?_
    refine j_iconst (v := 1) C d_mdl_record_130 rfl (by decide) ?_
    refine j_isub C d_mdl_record_131 rfl ?_
    refine j_goto (tgt := 137) C d_mdl_record_132 (by decide) ?_
    refine rc_J.sub (lv' := [(0, va_rf (some a0)), (1, .int x1), (2, .int x2), (3, .int x3), (4, .int x4), (5, .int x5), (7, .int s0)]) [1, 2, 3, 4, 5, 6, 0] rfl ?_
    exact k_mdl_record_137 hF hL hN C E hk79 h

set_option maxRecDepth 100000 in
set_option maxHeartbeats 4000000 in
theorem k_mdl_record_98 {X : rc_X} {w0 : rc_M} (hF : (q_R X).frames = 3) (hL : (q_R X).locals = 65) (hN : q_n X = 9) (C : rc_C X "RecordCallsModel" prog_9_method_9_code w0) {res : Int32 × rc_M} (E : rc_E0 X y_mdl_record (some .int) (some (.int res.1)) res.2) {k79 : rc_M → Nat → Int32 → Int32 → Int32 → Int32 → Int32 → Option (Int32 × rc_M)} (hk79 : ∀ (w : rc_M) (a0 : Nat) (x1 : Int32) (x2 : Int32) (x3 : Int32) (x4 : Int32) (x5 : Int32), k79 w a0 x1 x2 x3 x4 x5 = some res → rc_J X w 79 [] [(0, va_rf (some a0)), (1, .int x1), (2, .int x2), (3, .int x3), (4, .int x4), (5, .int x5)]) {w : rc_M} {a0 : Nat} {x1 : Int32} {x2 : Int32} {x3 : Int32} {x4 : Int32} {x5 : Int32} {s0 : Int32} (h : b_mdl_record_98 k79 w a0 x1 x2 x3 x4 x5 s0 = some res) : rc_J X w 98 [.int s0] [(0, va_rf (some a0)), (1, .int x1), (2, .int x2), (3, .int x3), (4, .int x4), (5, .int x5)] := by
  unfold b_mdl_record_98 at h
  refine j_istore C (i := 6) d_mdl_record_98 rfl [(6, .int s0), (0, va_rf (some a0)), (1, .int x1), (2, .int x2), (3, .int x3), (4, .int x4), (5, .int x5)] (rc_lt hN (by decide)) (by first | rfl | simp [va_rf_cat, rc_cat_i, rc_cat_l]) ?_
  refine j_iload C d_mdl_record_100 rfl 0 rfl ?_
  refine j_if_eq (tgt := 115) C d_mdl_record_102 (by decide) rfl (fun c1 => ?_) (fun c1 => ?_)
  · rw [if_pos c1] at h
    refine j_iload_n C d_mdl_record_115 rfl 2 rfl ?_
    refine rc_J.sub (lv' := [(0, va_rf (some a0)), (1, .int x1), (2, .int x2), (3, .int x3), (4, .int x4), (5, .int x5), (6, .int s0)]) [1, 2, 3, 4, 5, 6, 0] rfl ?_
    exact k_mdl_record_116 hF hL hN C E hk79 h
  · rw [if_neg c1] at h
    refine j_aload_n C d_mdl_record_105 rfl 1 rfl ?_
    obtain ⟨v2, h3, h⟩ := Option.bind_eq_some_iff.mp h
    refine j_getI C fl_mdl_93 h3 d_mdl_record_106 rfl ?_
    refine j_iload C d_mdl_record_109 rfl 5 rfl ?_
    refine j_isub C d_mdl_record_111 rfl ?_
    refine j_goto (tgt := 116) C d_mdl_record_112 (by decide) ?_
    refine rc_J.sub (lv' := [(0, va_rf (some a0)), (1, .int x1), (2, .int x2), (3, .int x3), (4, .int x4), (5, .int x5), (6, .int s0)]) [1, 2, 3, 4, 5, 6, 0] rfl ?_
    exact k_mdl_record_116 hF hL hN C E hk79 h

set_option maxRecDepth 100000 in
set_option maxHeartbeats 4000000 in
theorem k_mdl_record_79 {X : rc_X} {w0 : rc_M} (hF : (q_R X).frames = 3) (hL : (q_R X).locals = 65) (hN : q_n X = 9) (C : rc_C X "RecordCallsModel" prog_9_method_9_code w0) {res : Int32 × rc_M} (E : rc_E0 X y_mdl_record (some .int) (some (.int res.1)) res.2) : ∀ (fuel : Nat) (w : rc_M) (a0 : Nat) (x1 : Int32) (x2 : Int32) (x3 : Int32) (x4 : Int32) (x5 : Int32), b_mdl_record_79 fuel w a0 x1 x2 x3 x4 x5 = some res → rc_J X w 79 [] [(0, va_rf (some a0)), (1, .int x1), (2, .int x2), (3, .int x3), (4, .int x4), (5, .int x5)] := by
  intro fuel
  induction fuel with
  | zero => intro w a0 x1 x2 x3 x4 x5 h; simp [b_mdl_record_79] at h
  | succ fuel ih =>
    intro w a0 x1 x2 x3 x4 x5 h
    unfold b_mdl_record_79 at h
    refine j_iload C d_mdl_record_79 rfl 5 rfl ?_
    refine j_iload_n C d_mdl_record_81 rfl 2 rfl ?_
    refine j_icmp_ge (tgt := 184) C d_mdl_record_82 (by decide) rfl (fun c1 => ?_) (fun c1 => ?_)
    · rw [if_pos c1] at h
      refine j_aload_n C d_mdl_record_184 rfl 0 rfl ?_
      refine j_iconst (v := 0) C d_mdl_record_185 rfl (by decide) ?_
      obtain ⟨w2, h3, h⟩ := Option.bind_eq_some_iff.mp h
      refine j_putV C (ci := 7) (k := 2) (by decide) (by decide) T_721 (Or.inl rfl) rfl rfl h3 d_mdl_record_186 rfl ?_
      refine j_iload_n C d_mdl_record_189 rfl 3 rfl ?_
      cases h
      exact j_iret C E d_mdl_record_190
    · rw [if_neg c1] at h
      refine j_iload C d_mdl_record_85 rfl 5 rfl ?_
      refine j_iload_n C d_mdl_record_87 rfl 2 rfl ?_
      refine j_iconst (v := 1) C d_mdl_record_88 rfl (by decide) ?_
      refine j_isub C d_mdl_record_89 rfl ?_
      refine j_icmp_ne (tgt := 97) C d_mdl_record_90 (by decide) rfl (fun c4 => ?_) (fun c4 => ?_)
      · rw [if_neg c4] at h
        refine j_iconst (v := 0) C d_mdl_record_97 rfl (by decide) ?_
        exact k_mdl_record_98 hF hL hN C E (fun w z0 z1 z2 z3 z4 z5 h => ih w z0 z1 z2 z3 z4 z5 h) h
      · rw [if_pos c4] at h
        refine j_iconst (v := 1) C d_mdl_record_93 rfl (by decide) ?_
        refine j_goto (tgt := 98) C d_mdl_record_94 (by decide) ?_
        exact k_mdl_record_98 hF hL hN C E (fun w z0 z1 z2 z3 z4 z5 h => ih w z0 z1 z2 z3 z4 z5 h) h

set_option maxRecDepth 100000 in
set_option maxHeartbeats 4000000 in
theorem k_mdl_record_56 {X : rc_X} {w0 : rc_M} (hF : (q_R X).frames = 3) (hL : (q_R X).locals = 65) (hN : q_n X = 9) (C : rc_C X "RecordCallsModel" prog_9_method_9_code w0) {res : Int32 × rc_M} (E : rc_E0 X y_mdl_record (some .int) (some (.int res.1)) res.2) {w : rc_M} {a0 : Nat} {x1 : Int32} {x2 : Int32} {s0 : Option Nat} {s1 : Int32} (h : b_mdl_record_56 w a0 x1 x2 s0 s1 = some res) : rc_J X w 56 [.int s1, va_rf s0] [(0, va_rf (some a0)), (1, .int x1), (2, .int x2)] := by
  unfold b_mdl_record_56 at h
  obtain ⟨w1, h2, h⟩ := Option.bind_eq_some_iff.mp h
  refine j_putV C (ci := 7) (k := 0) (by decide) (by decide) T_719 (Or.inl rfl) rfl rfl h2 d_mdl_record_56 rfl ?_
  refine j_aload_n C d_mdl_record_59 rfl 0 rfl ?_
  obtain ⟨v3, h4, h⟩ := Option.bind_eq_some_iff.mp h
  refine j_getI C fl_mdl_74 h4 d_mdl_record_60 rfl ?_
  refine j_if_le (tgt := 68) C d_mdl_record_63 (by decide) rfl (fun c5 => ?_) (fun c5 => ?_)
  · rw [if_pos c5] at h
    refine j_aload_n C d_mdl_record_68 rfl 0 rfl ?_
    obtain ⟨a6, h7, h⟩ := Option.bind_eq_some_iff.mp h
    obtain ⟨p8, h9, h⟩ := Option.bind_eq_some_iff.mp h
    refine j_callV C (As := []) (st := []) (sk' := [.int p8.1]) mk_mdl_newSlot (Or.inl T_831) T_833 S_24 (ci := 7) rfl h7 (rc_le hF (by decide)) (rc_le hL (by decide)) (ct_mdl_newSlot h9) rfl rfl (by decide) d_mdl_record_69 rfl rfl ?_
    refine j_istore_n C (i := 3) d_mdl_record_72 rfl rfl [(3, .int p8.1), (0, va_rf (some a0)), (1, .int x1), (2, .int x2)] (rc_lt hN (by decide)) (by first | rfl | simp [va_rf_cat, rc_cat_i, rc_cat_l]) ?_
    refine j_iconst (v := 0) C d_mdl_record_73 rfl (by decide) ?_
    refine j_istore C (i := 4) d_mdl_record_74 rfl [(4, .int 0), (3, .int p8.1), (0, va_rf (some a0)), (1, .int x1), (2, .int x2)] (rc_lt hN (by decide)) (by first | rfl | simp [va_rf_cat, rc_cat_i, rc_cat_l]) ?_
    refine j_iconst (v := 0) C d_mdl_record_76 rfl (by decide) ?_
    refine j_istore C (i := 5) d_mdl_record_77 rfl [(5, .int 0), (4, .int 0), (3, .int p8.1), (0, va_rf (some a0)), (1, .int x1), (2, .int x2)] (rc_lt hN (by decide)) (by first | rfl | simp [va_rf_cat, rc_cat_i, rc_cat_l]) ?_
    refine rc_J.sub (lv' := [(0, va_rf (some a0)), (1, .int x1), (2, .int x2), (3, .int p8.1), (4, .int 0), (5, .int 0)]) [3, 4, 5, 2, 1, 0] rfl ?_
    exact k_mdl_record_79 hF hL hN C E _ _ _ _ _ _ _ _ h
  · rw [if_neg c5] at h
    refine j_iconst (v := 0) C d_mdl_record_66 rfl (by decide) ?_
    cases h
    exact j_iret C E d_mdl_record_67

set_option maxRecDepth 100000 in
set_option maxHeartbeats 4000000 in
theorem k_mdl_record_51 {X : rc_X} {w0 : rc_M} (hF : (q_R X).frames = 3) (hL : (q_R X).locals = 65) (hN : q_n X = 9) (C : rc_C X "RecordCallsModel" prog_9_method_9_code w0) {res : Int32 × rc_M} (E : rc_E0 X y_mdl_record (some .int) (some (.int res.1)) res.2) {w : rc_M} {a0 : Nat} {x1 : Int32} {x2 : Int32} {s0 : Option Nat} (h : b_mdl_record_51 w a0 x1 x2 s0 = some res) : rc_J X w 51 [va_rf s0] [(0, va_rf (some a0)), (1, .int x1), (2, .int x2)] := by
  unfold b_mdl_record_51 at h
  refine j_iconst (v := 1) C d_mdl_record_51 rfl (by decide) ?_
  refine j_goto (tgt := 56) C d_mdl_record_52 (by decide) ?_
  exact k_mdl_record_56 hF hL hN C E h

set_option maxRecDepth 100000 in
set_option maxHeartbeats 4000000 in
theorem k_mdl_record_30 {X : rc_X} {w0 : rc_M} (hF : (q_R X).frames = 3) (hL : (q_R X).locals = 65) (hN : q_n X = 9) (C : rc_C X "RecordCallsModel" prog_9_method_9_code w0) {res : Int32 × rc_M} (E : rc_E0 X y_mdl_record (some .int) (some (.int res.1)) res.2) {w : rc_M} {a0 : Nat} {x1 : Int32} {s0 : Int32} (h : b_mdl_record_30 w a0 x1 s0 = some res) : rc_J X w 30 [.int s0] [(0, va_rf (some a0)), (1, .int x1)] := by
  unfold b_mdl_record_30 at h
  refine j_istore_n C (i := 2) d_mdl_record_30 rfl rfl [(2, .int s0), (0, va_rf (some a0)), (1, .int x1)] (rc_lt hN (by decide)) (by first | rfl | simp [va_rf_cat, rc_cat_i, rc_cat_l]) ?_
  refine j_aload_n C d_mdl_record_31 rfl 1 rfl ?_
  refine j_iload_n C d_mdl_record_32 rfl 2 rfl ?_
  refine j_iconst (v := 1) C d_mdl_record_33 rfl (by decide) ?_
  refine j_icmp_lt (tgt := 51) C d_mdl_record_34 (by decide) rfl (fun c1 => ?_) (fun c1 => ?_)
  · rw [if_pos c1] at h
    refine rc_J.sub (lv' := [(0, va_rf (some a0)), (1, .int x1), (2, .int s0)]) [1, 2, 0] rfl ?_
    exact k_mdl_record_51 hF hL hN C E h
  · rw [if_neg c1] at h
    refine j_aload_n C d_mdl_record_37 rfl 1 rfl ?_
    obtain ⟨v2, h3, h⟩ := Option.bind_eq_some_iff.mp h
    refine j_getI C fl_mdl_93 h3 d_mdl_record_38 rfl ?_
    refine j_iconst (v := 4) C d_mdl_record_41 rfl (by decide) ?_
    refine j_iload_n C d_mdl_record_42 rfl 0 rfl ?_
    refine j_imul C d_mdl_record_43 rfl ?_
    refine j_iadd C d_mdl_record_44 rfl ?_
    refine j_sipush (v := 1600) C d_mdl_record_45 rfl (by decide) ?_
    refine j_icmp_le (tgt := 55) C d_mdl_record_48 (by decide) rfl (fun c4 => ?_) (fun c4 => ?_)
    · rw [if_pos c4] at h
      refine j_iconst (v := 0) C d_mdl_record_55 rfl (by decide) ?_
      refine rc_J.sub (lv' := [(0, va_rf (some a0)), (1, .int x1), (2, .int s0)]) [1, 2, 0] rfl ?_
      exact k_mdl_record_56 hF hL hN C E h
    · rw [if_neg c4] at h
      refine rc_J.sub (lv' := [(0, va_rf (some a0)), (1, .int x1), (2, .int s0)]) [1, 2, 0] rfl ?_
      exact k_mdl_record_51 hF hL hN C E h

set_option maxRecDepth 100000 in
set_option maxHeartbeats 4000000 in
theorem ct_mdl_record {l : Launch} {G : rc_G} {w : rc_M} {a0 : Nat} {x1 : Int32} {res : Int32 × rc_M} (h : f_mdl_record w a0 x1 = some res) : rc_Ct l G y_mdl_record prog_9_method_9_code 9 (some .int) 3 65 [va_rf (some a0), .int x1] w (some (.int res.1)) res.2 := by
  refine rc_enter (by decide +kernel) (by simp [lg_sl, va_rf_cat, rc_cat_i, rc_cat_l]) ?_
  intro X _ _ hN hF hL C E
  have hlv : lv_args 0 [va_rf (some a0), .int x1] = [(0, va_rf (some a0)), (1, .int x1)] := by simp [lv_args, va_rf_cat, rc_cat_i, rc_cat_l]
  rw [hlv]
  clear hlv
  unfold f_mdl_record at h
  refine j_iload_n C d_mdl_record_0 rfl 1 rfl ?_
  refine j_iconst (v := 1) C d_mdl_record_1 rfl (by decide) ?_
  refine j_icmp_ge (tgt := 9) C d_mdl_record_2 (by decide) rfl (fun c1 => ?_) (fun c1 => ?_)
  · rw [if_pos c1] at h
    refine j_aload_n C d_mdl_record_9 rfl 0 rfl ?_
    obtain ⟨v2, h3, h⟩ := Option.bind_eq_some_iff.mp h
    refine j_getI C fl_mdl_93 h3 d_mdl_record_10 rfl ?_
    refine j_if_ne (tgt := 20) C d_mdl_record_13 (by decide) rfl (fun c4 => ?_) (fun c4 => ?_)
    · rw [if_neg c4] at h
      refine j_aload_n C d_mdl_record_20 rfl 0 rfl ?_
      obtain ⟨v5, h6, h⟩ := Option.bind_eq_some_iff.mp h
      refine j_getI C fl_mdl_93 h6 d_mdl_record_21 rfl ?_
      refine j_iconst (v := 1) C d_mdl_record_24 rfl (by decide) ?_
      refine j_isub C d_mdl_record_25 rfl ?_
      refine j_iload_n C d_mdl_record_26 rfl 1 rfl ?_
      by_cases c7 : x1 = 0
      · rw [if_pos c7] at h; cases h
      rw [if_neg c7] at h
      refine j_idiv C d_mdl_record_27 rfl c7 ?_
      refine j_iconst (v := 1) C d_mdl_record_28 rfl (by decide) ?_
      refine j_iadd C d_mdl_record_29 rfl ?_
      exact k_mdl_record_30 hF hL hN C E h
    · rw [if_pos c4] at h
      refine j_iconst (v := 1) C d_mdl_record_16 rfl (by decide) ?_
      refine j_goto (tgt := 30) C d_mdl_record_17 (by decide) ?_
      exact k_mdl_record_30 hF hL hN C E h
  · rw [if_neg c1] at h
    refine j_iconst (v := 0) C d_mdl_record_5 rfl (by decide) ?_
    refine j_goto (tgt := 30) C d_mdl_record_6 (by decide) ?_
    exact k_mdl_record_30 hF hL hN C E h

set_option maxRecDepth 100000 in
set_option maxHeartbeats 4000000 in
theorem k_mdl_call_181 {X : rc_X} {w0 : rc_M} (hF : (q_R X).frames = 3) (hL : (q_R X).locals = 65) (hN : q_n X = 10) (C : rc_C X "RecordCallsModel" prog_9_method_10_code w0) {res : Int32 × rc_M} (E : rc_E0 X y_mdl_call (some .int) (some (.int res.1)) res.2) {k151 : rc_M → Nat → Int32 → Int64 → Int32 → Int32 → Int32 → Option (Int32 × rc_M)} (hk151 : ∀ (w : rc_M) (a0 : Nat) (x4 : Int32) (x5 : Int64) (x7 : Int32) (x8 : Int32) (x9 : Int32), k151 w a0 x4 x5 x7 x8 x9 = some res → rc_J X w 151 [] [(0, va_rf (some a0)), (4, .int x4), (5, .long x5), (7, .int x7), (8, .int x8), (9, .int x9)]) {w : rc_M} {a0 : Nat} {x4 : Int32} {x5 : Int64} {x7 : Int32} {x8 : Int32} {x9 : Int32} {s0 : Option Nat} {s1 : Int32} {s2 : Int32} (h : b_mdl_call_181 k151 w a0 x4 x5 x7 x8 x9 s0 s1 s2 = some res) : rc_J X w 181 [.int s2, .int s1, va_rf s0] [(0, va_rf (some a0)), (4, .int x4), (5, .long x5), (7, .int x7), (8, .int x8), (9, .int x9)] := by
  unfold b_mdl_call_181 at h
  obtain ⟨a1, h2, h⟩ := Option.bind_eq_some_iff.mp h
  obtain ⟨w3, h4, h⟩ := Option.bind_eq_some_iff.mp h
  refine j_callV C (As := [.int s1, .int s2]) (st := []) (sk' := []) mk_mdl_slotByte (Or.inl T_835) T_837 S_25 (ci := 7) rfl h2 (rc_le hF (by decide)) (rc_le hL (by decide)) (ct_mdl_slotByte h4) rfl rfl (by decide) d_mdl_call_181 rfl rfl ?_
  refine j_iinc C d_mdl_call_184 rfl 5 [(9, .int (x9 + 1)), (0, va_rf (some a0)), (4, .int x4), (5, .long x5), (7, .int x7), (8, .int x8)] rfl rfl (rc_lt hN (by decide)) (by first | rfl | simp [va_rf_cat, rc_cat_i, rc_cat_l]) ?_
  refine j_goto (tgt := 151) C d_mdl_call_187 (by decide) ?_
  refine rc_J.sub (lv' := [(0, va_rf (some a0)), (4, .int x4), (5, .long x5), (7, .int x7), (8, .int x8), (9, .int (x9 + 1))]) [1, 2, 3, 4, 5, 0] rfl ?_
  exact hk151 _ _ _ _ _ _ _ h

set_option maxRecDepth 100000 in
set_option maxHeartbeats 4000000 in
theorem k_mdl_call_216 {X : rc_X} {w0 : rc_M} (hF : (q_R X).frames = 3) (hL : (q_R X).locals = 65) (hN : q_n X = 10) (C : rc_C X "RecordCallsModel" prog_9_method_10_code w0) {res : Int32 × rc_M} (E : rc_E0 X y_mdl_call (some .int) (some (.int res.1)) res.2) {w : rc_M} {a0 : Nat} {x8 : Int32} (h : b_mdl_call_216 w a0 x8 = some res) : rc_J X w 216 [] [(0, va_rf (some a0)), (8, .int x8)] := by
  unfold b_mdl_call_216 at h
  refine j_aload_n C d_mdl_call_216 rfl 0 rfl ?_
  refine j_iconst (v := 0) C d_mdl_call_217 rfl (by decide) ?_
  obtain ⟨w1, h2, h⟩ := Option.bind_eq_some_iff.mp h
  refine j_putV C (ci := 7) (k := 2) (by decide) (by decide) T_721 (Or.inl rfl) rfl rfl h2 d_mdl_call_218 rfl ?_
  refine j_iload C d_mdl_call_221 rfl 1 rfl ?_
  cases h
  exact j_iret C E d_mdl_call_223

set_option maxRecDepth 100000 in
set_option maxHeartbeats 4000000 in
theorem k_mdl_call_151 {X : rc_X} {w0 : rc_M} (hF : (q_R X).frames = 3) (hL : (q_R X).locals = 65) (hN : q_n X = 10) (C : rc_C X "RecordCallsModel" prog_9_method_10_code w0) {res : Int32 × rc_M} (E : rc_E0 X y_mdl_call (some .int) (some (.int res.1)) res.2) : ∀ (fuel : Nat) (w : rc_M) (a0 : Nat) (x4 : Int32) (x5 : Int64) (x7 : Int32) (x8 : Int32) (x9 : Int32), b_mdl_call_151 fuel w a0 x4 x5 x7 x8 x9 = some res → rc_J X w 151 [] [(0, va_rf (some a0)), (4, .int x4), (5, .long x5), (7, .int x7), (8, .int x8), (9, .int x9)] := by
  intro fuel
  induction fuel with
  | zero => intro w a0 x4 x5 x7 x8 x9 h; simp [b_mdl_call_151] at h
  | succ fuel ih =>
    intro w a0 x4 x5 x7 x8 x9 h
    unfold b_mdl_call_151 at h
    refine j_iload C d_mdl_call_151 rfl 5 rfl ?_
    refine j_iload C d_mdl_call_153 rfl 3 rfl ?_
    refine j_icmp_ge (tgt := 190) C d_mdl_call_155 (by decide) rfl (fun c1 => ?_) (fun c1 => ?_)
    · rw [if_pos c1] at h
      refine j_iload C d_mdl_call_190 rfl 1 rfl ?_
      refine j_if_eq (tgt := 216) C d_mdl_call_192 (by decide) rfl (fun c2 => ?_) (fun c2 => ?_)
      · rw [if_pos c2] at h
        refine rc_J.sub (lv' := [(0, va_rf (some a0)), (8, .int x8)]) [0, 4] rfl ?_
        exact k_mdl_call_216 hF hL hN C E h
      · rw [if_neg c2] at h
        refine j_aload_n C d_mdl_call_195 rfl 0 rfl ?_
        refine j_iload C d_mdl_call_196 rfl 4 rfl ?_
        refine j_lload C d_mdl_call_198 rfl 2 rfl ?_
        refine j_bipush (v := 32) C d_mdl_call_200 rfl (by decide) ?_
        refine j_lshr C d_mdl_call_202 rfl ?_
        refine j_l2i C d_mdl_call_203 rfl ?_
        obtain ⟨a3, h4, h⟩ := Option.bind_eq_some_iff.mp h
        obtain ⟨w5, h6, h⟩ := Option.bind_eq_some_iff.mp h
        refine j_callV C (As := [.int x8, .int ((x5 >>> ((32 : Int32).toInt64 &&& 63)).toInt32)]) (st := []) (sk' := []) mk_mdl_slotWord (Or.inl T_847) T_849 S_26 (ci := 7) rfl h4 (rc_le hF (by decide)) (rc_le hL (by decide)) (ct_mdl_slotWord h6) rfl rfl (by decide) d_mdl_call_204 rfl rfl ?_
        refine j_aload_n C d_mdl_call_207 rfl 0 rfl ?_
        refine j_iload C d_mdl_call_208 rfl 4 rfl ?_
        refine j_lload C d_mdl_call_210 rfl 2 rfl ?_
        refine j_l2i C d_mdl_call_212 rfl ?_
        obtain ⟨a7, h8, h⟩ := Option.bind_eq_some_iff.mp h
        obtain ⟨w9, h10, h⟩ := Option.bind_eq_some_iff.mp h
        refine j_callV C (As := [.int x8, .int x5.toInt32]) (st := []) (sk' := []) mk_mdl_slotWord (Or.inl T_847) T_849 S_26 (ci := 7) rfl h8 (rc_le hF (by decide)) (rc_le hL (by decide)) (ct_mdl_slotWord h10) rfl rfl (by decide) d_mdl_call_213 rfl rfl ?_
        refine rc_J.sub (lv' := [(0, va_rf (some a0)), (8, .int x8)]) [0, 4] rfl ?_
        exact k_mdl_call_216 hF hL hN C E h
    · rw [if_neg c1] at h
      refine j_aload_n C d_mdl_call_158 rfl 0 rfl ?_
      refine j_iload C d_mdl_call_159 rfl 4 rfl ?_
      refine j_iload C d_mdl_call_161 rfl 5 rfl ?_
      refine j_aload_n C d_mdl_call_163 rfl 0 rfl ?_
      obtain ⟨v11, h12, h⟩ := Option.bind_eq_some_iff.mp h
      refine j_getI C fl_mdl_93 h12 d_mdl_call_164 rfl ?_
      refine j_icmp_ge (tgt := 180) C d_mdl_call_167 (by decide) rfl (fun c13 => ?_) (fun c13 => ?_)
      · rw [if_pos c13] at h
        refine j_iconst (v := 0) C d_mdl_call_180 rfl (by decide) ?_
        exact k_mdl_call_181 hF hL hN C E (fun w z0 z1 z2 z3 z4 z5 h => ih w z0 z1 z2 z3 z4 z5 h) h
      · rw [if_neg c13] at h
        refine j_aload_n C d_mdl_call_170 rfl 0 rfl ?_
        obtain ⟨v14, h15, h⟩ := Option.bind_eq_some_iff.mp h
        refine j_getR C fl_mdl_7 h15 d_mdl_call_171 rfl ?_
        refine j_iload C d_mdl_call_174 rfl 5 rfl ?_
        obtain ⟨v16, h17, h⟩ := Option.bind_eq_some_iff.mp h
        refine j_iald C h17 d_mdl_call_176 rfl ?_
        refine j_goto (tgt := 181) C d_mdl_call_177 (by decide) ?_
        exact k_mdl_call_181 hF hL hN C E (fun w z0 z1 z2 z3 z4 z5 h => ih w z0 z1 z2 z3 z4 z5 h) h

set_option maxRecDepth 100000 in
set_option maxHeartbeats 4000000 in
theorem k_mdl_call_119 {X : rc_X} {w0 : rc_M} (hF : (q_R X).frames = 3) (hL : (q_R X).locals = 65) (hN : q_n X = 10) (C : rc_C X "RecordCallsModel" prog_9_method_10_code w0) {res : Int32 × rc_M} (E : rc_E0 X y_mdl_call (some .int) (some (.int res.1)) res.2) : ∀ (fuel : Nat) (w : rc_M) (a0 : Nat) (x4 : Int32) (x5 : Int64) (x7 : Int32) (x8 : Int32) (x9 : Int32), b_mdl_call_119 fuel w a0 x4 x5 x7 x8 x9 = some res → rc_J X w 119 [] [(0, va_rf (some a0)), (4, .int x4), (5, .long x5), (7, .int x7), (8, .int x8), (9, .int x9)] := by
  intro fuel
  induction fuel with
  | zero => intro w a0 x4 x5 x7 x8 x9 h; simp [b_mdl_call_119] at h
  | succ fuel ih =>
    intro w a0 x4 x5 x7 x8 x9 h
    unfold b_mdl_call_119 at h
    refine j_iload C d_mdl_call_119 rfl 5 rfl ?_
    refine j_iconst (v := 4) C d_mdl_call_121 rfl (by decide) ?_
    refine j_icmp_ge (tgt := 138) C d_mdl_call_122 (by decide) rfl (fun c1 => ?_) (fun c1 => ?_)
    · rw [if_pos c1] at h
      refine j_aload_n C d_mdl_call_138 rfl 0 rfl ?_
      refine j_iload C d_mdl_call_139 rfl 4 rfl ?_
      refine j_aload_n C d_mdl_call_141 rfl 0 rfl ?_
      obtain ⟨v2, h3, h⟩ := Option.bind_eq_some_iff.mp h
      refine j_getI C fl_mdl_93 h3 d_mdl_call_142 rfl ?_
      obtain ⟨a4, h5, h⟩ := Option.bind_eq_some_iff.mp h
      obtain ⟨w6, h7, h⟩ := Option.bind_eq_some_iff.mp h
      refine j_callV C (As := [.int x8, .int v2]) (st := []) (sk' := []) mk_mdl_slotWord (Or.inl T_847) T_849 S_26 (ci := 7) rfl h5 (rc_le hF (by decide)) (rc_le hL (by decide)) (ct_mdl_slotWord h7) rfl rfl (by decide) d_mdl_call_145 rfl rfl ?_
      refine j_iconst (v := 0) C d_mdl_call_148 rfl (by decide) ?_
      refine j_istore C (i := 9) d_mdl_call_149 rfl [(9, .int 0), (0, va_rf (some a0)), (4, .int x4), (5, .long x5), (7, .int x7), (8, .int x8)] (rc_lt hN (by decide)) (by first | rfl | simp [va_rf_cat, rc_cat_i, rc_cat_l]) ?_
      refine rc_J.sub (lv' := [(0, va_rf (some a0)), (4, .int x4), (5, .long x5), (7, .int x7), (8, .int x8), (9, .int 0)]) [1, 2, 3, 4, 5, 0] rfl ?_
      exact k_mdl_call_151 hF hL hN C E _ _ _ _ _ _ _ _ h
    · rw [if_neg c1] at h
      refine j_aload_n C d_mdl_call_125 rfl 0 rfl ?_
      refine j_iload C d_mdl_call_126 rfl 4 rfl ?_
      refine j_iconst (v := 0) C d_mdl_call_128 rfl (by decide) ?_
      obtain ⟨a8, h9, h⟩ := Option.bind_eq_some_iff.mp h
      obtain ⟨w10, h11, h⟩ := Option.bind_eq_some_iff.mp h
      refine j_callV C (As := [.int x8, .int 0]) (st := []) (sk' := []) mk_mdl_slotWord (Or.inl T_847) T_849 S_26 (ci := 7) rfl h9 (rc_le hF (by decide)) (rc_le hL (by decide)) (ct_mdl_slotWord h11) rfl rfl (by decide) d_mdl_call_129 rfl rfl ?_
      refine j_iinc C d_mdl_call_132 rfl 5 [(9, .int (x9 + 1)), (0, va_rf (some a0)), (4, .int x4), (5, .long x5), (7, .int x7), (8, .int x8)] rfl rfl (rc_lt hN (by decide)) (by first | rfl | simp [va_rf_cat, rc_cat_i, rc_cat_l]) ?_
      refine j_goto (tgt := 119) C d_mdl_call_135 (by decide) ?_
      refine rc_J.sub (lv' := [(0, va_rf (some a0)), (4, .int x4), (5, .long x5), (7, .int x7), (8, .int x8), (9, .int (x9 + 1))]) [1, 2, 3, 4, 5, 0] rfl ?_
      exact ih _ _ _ _ _ _ _ h

set_option maxRecDepth 100000 in
set_option maxHeartbeats 4000000 in
theorem k_mdl_call_64 {X : rc_X} {w0 : rc_M} (hF : (q_R X).frames = 3) (hL : (q_R X).locals = 65) (hN : q_n X = 10) (C : rc_C X "RecordCallsModel" prog_9_method_10_code w0) {res : Int32 × rc_M} (E : rc_E0 X y_mdl_call (some .int) (some (.int res.1)) res.2) {w : rc_M} {a0 : Nat} {x1 : Int32} {x2 : Int32} {x3 : Int32} {x4 : Int32} {x5 : Int64} {x7 : Int32} {x8 : Int32} {s0 : Option Nat} {s1 : Int32} {s2 : Int32} {s3 : Int32} (h : b_mdl_call_64 w a0 x1 x2 x3 x4 x5 x7 x8 s0 s1 s2 s3 = some res) : rc_J X w 64 [.int s3, .int s2, .int s1, va_rf s0] [(0, va_rf (some a0)), (1, .int x1), (2, .int x2), (3, .int x3), (4, .int x4), (5, .long x5), (7, .int x7), (8, .int x8)] := by
  unfold b_mdl_call_64 at h
  refine j_iadd C d_mdl_call_64 rfl ?_
  refine j_ldc C d_mdl_call_65 rfl T_846 ?_
  refine j_isub C d_mdl_call_67 rfl ?_
  refine j_iconst (v := 1) C d_mdl_call_68 rfl (by decide) ?_
  refine j_isub C d_mdl_call_69 rfl ?_
  obtain ⟨a1, h2, h⟩ := Option.bind_eq_some_iff.mp h
  obtain ⟨w3, h4, h⟩ := Option.bind_eq_some_iff.mp h
  refine j_callV C (As := [.int s1, .int (((s2 + s3) - 2147483647) - 1)]) (st := []) (sk' := []) mk_mdl_slotWord (Or.inl T_847) T_849 S_26 (ci := 7) rfl h2 (rc_le hF (by decide)) (rc_le hL (by decide)) (ct_mdl_slotWord h4) rfl rfl (by decide) d_mdl_call_70 rfl rfl ?_
  refine j_aload_n C d_mdl_call_73 rfl 0 rfl ?_
  refine j_iload C d_mdl_call_74 rfl 7 rfl ?_
  refine j_iload_n C d_mdl_call_76 rfl 1 rfl ?_
  obtain ⟨a5, h6, h⟩ := Option.bind_eq_some_iff.mp h
  obtain ⟨w7, h8, h⟩ := Option.bind_eq_some_iff.mp h
  refine j_callV C (As := [.int x8, .int x1]) (st := []) (sk' := []) mk_mdl_slotWord (Or.inl T_847) T_849 S_26 (ci := 7) rfl h6 (rc_le hF (by decide)) (rc_le hL (by decide)) (ct_mdl_slotWord h8) rfl rfl (by decide) d_mdl_call_77 rfl rfl ?_
  refine j_aload_n C d_mdl_call_80 rfl 0 rfl ?_
  refine j_iload C d_mdl_call_81 rfl 7 rfl ?_
  refine j_iconst (v := 0) C d_mdl_call_83 rfl (by decide) ?_
  obtain ⟨a9, h10, h⟩ := Option.bind_eq_some_iff.mp h
  obtain ⟨w11, h12, h⟩ := Option.bind_eq_some_iff.mp h
  refine j_callV C (As := [.int x8, .int 0]) (st := []) (sk' := []) mk_mdl_slotWord (Or.inl T_847) T_849 S_26 (ci := 7) rfl h10 (rc_le hF (by decide)) (rc_le hL (by decide)) (ct_mdl_slotWord h12) rfl rfl (by decide) d_mdl_call_84 rfl rfl ?_
  refine j_aload_n C d_mdl_call_87 rfl 0 rfl ?_
  refine j_iload C d_mdl_call_88 rfl 7 rfl ?_
  refine j_iconst (v := 2) C d_mdl_call_90 rfl (by decide) ?_
  obtain ⟨a13, h14, h⟩ := Option.bind_eq_some_iff.mp h
  obtain ⟨w15, h16, h⟩ := Option.bind_eq_some_iff.mp h
  refine j_callV C (As := [.int x8, .int 2]) (st := []) (sk' := []) mk_mdl_slotWord (Or.inl T_847) T_849 S_26 (ci := 7) rfl h14 (rc_le hF (by decide)) (rc_le hL (by decide)) (ct_mdl_slotWord h16) rfl rfl (by decide) d_mdl_call_91 rfl rfl ?_
  refine j_aload_n C d_mdl_call_94 rfl 0 rfl ?_
  refine j_iload C d_mdl_call_95 rfl 7 rfl ?_
  refine j_ldc C d_mdl_call_97 rfl T_855 ?_
  obtain ⟨a17, h18, h⟩ := Option.bind_eq_some_iff.mp h
  obtain ⟨w19, h20, h⟩ := Option.bind_eq_some_iff.mp h
  refine j_callV C (As := [.int x8, .int 400100]) (st := []) (sk' := []) mk_mdl_slotWord (Or.inl T_847) T_849 S_26 (ci := 7) rfl h18 (rc_le hF (by decide)) (rc_le hL (by decide)) (ct_mdl_slotWord h20) rfl rfl (by decide) d_mdl_call_99 rfl rfl ?_
  refine j_aload_n C d_mdl_call_102 rfl 0 rfl ?_
  refine j_iload C d_mdl_call_103 rfl 7 rfl ?_
  refine j_iload_n C d_mdl_call_105 rfl 2 rfl ?_
  obtain ⟨a21, h22, h⟩ := Option.bind_eq_some_iff.mp h
  obtain ⟨w23, h24, h⟩ := Option.bind_eq_some_iff.mp h
  refine j_callV C (As := [.int x8, .int x2]) (st := []) (sk' := []) mk_mdl_slotWord (Or.inl T_847) T_849 S_26 (ci := 7) rfl h22 (rc_le hF (by decide)) (rc_le hL (by decide)) (ct_mdl_slotWord h24) rfl rfl (by decide) d_mdl_call_106 rfl rfl ?_
  refine j_aload_n C d_mdl_call_109 rfl 0 rfl ?_
  refine j_iload C d_mdl_call_110 rfl 7 rfl ?_
  refine j_iload_n C d_mdl_call_112 rfl 3 rfl ?_
  obtain ⟨a25, h26, h⟩ := Option.bind_eq_some_iff.mp h
  obtain ⟨w27, h28, h⟩ := Option.bind_eq_some_iff.mp h
  refine j_callV C (As := [.int x8, .int x3]) (st := []) (sk' := []) mk_mdl_slotWord (Or.inl T_847) T_849 S_26 (ci := 7) rfl h26 (rc_le hF (by decide)) (rc_le hL (by decide)) (ct_mdl_slotWord h28) rfl rfl (by decide) d_mdl_call_113 rfl rfl ?_
  refine j_iconst (v := 0) C d_mdl_call_116 rfl (by decide) ?_
  refine j_istore C (i := 9) d_mdl_call_117 rfl [(9, .int 0), (0, va_rf (some a0)), (1, .int x1), (2, .int x2), (3, .int x3), (4, .int x4), (5, .long x5), (7, .int x7), (8, .int x8)] (rc_lt hN (by decide)) (by first | rfl | simp [va_rf_cat, rc_cat_i, rc_cat_l]) ?_
  refine rc_J.sub (lv' := [(0, va_rf (some a0)), (4, .int x4), (5, .long x5), (7, .int x7), (8, .int x8), (9, .int 0)]) [1, 5, 6, 7, 8, 0] rfl ?_
  exact k_mdl_call_119 hF hL hN C E _ _ _ _ _ _ _ _ h

set_option maxRecDepth 100000 in
set_option maxHeartbeats 4000000 in
theorem k_mdl_call_15 {X : rc_X} {w0 : rc_M} (hF : (q_R X).frames = 3) (hL : (q_R X).locals = 65) (hN : q_n X = 10) (C : rc_C X "RecordCallsModel" prog_9_method_10_code w0) {res : Int32 × rc_M} (E : rc_E0 X y_mdl_call (some .int) (some (.int res.1)) res.2) {w : rc_M} {a0 : Nat} {x1 : Int32} {x2 : Int32} {x3 : Int32} {x4 : Int32} {x5 : Int64} {s0 : Option Nat} {s1 : Int32} (h : b_mdl_call_15 w a0 x1 x2 x3 x4 x5 s0 s1 = some res) : rc_J X w 15 [.int s1, va_rf s0] [(0, va_rf (some a0)), (1, .int x1), (2, .int x2), (3, .int x3), (4, .int x4), (5, .long x5)] := by
  unfold b_mdl_call_15 at h
  obtain ⟨w1, h2, h⟩ := Option.bind_eq_some_iff.mp h
  refine j_putV C (ci := 7) (k := 0) (by decide) (by decide) T_719 (Or.inl rfl) rfl rfl h2 d_mdl_call_15 rfl ?_
  refine j_aload_n C d_mdl_call_18 rfl 0 rfl ?_
  obtain ⟨v3, h4, h⟩ := Option.bind_eq_some_iff.mp h
  refine j_getI C fl_mdl_74 h4 d_mdl_call_19 rfl ?_
  refine j_if_le (tgt := 27) C d_mdl_call_22 (by decide) rfl (fun c5 => ?_) (fun c5 => ?_)
  · rw [if_pos c5] at h
    refine j_aload_n C d_mdl_call_27 rfl 0 rfl ?_
    obtain ⟨v6, h7, h⟩ := Option.bind_eq_some_iff.mp h
    refine j_getI C fl_mdl_93 h7 d_mdl_call_28 rfl ?_
    refine j_iconst (v := 3) C d_mdl_call_31 rfl (by decide) ?_
    refine j_iadd C d_mdl_call_32 rfl ?_
    refine j_iconst (v := 4) C d_mdl_call_33 rfl (by decide) ?_
    refine j_idiv C d_mdl_call_34 rfl (by decide) ?_
    refine j_iconst (v := 4) C d_mdl_call_35 rfl (by decide) ?_
    refine j_imul C d_mdl_call_36 rfl ?_
    refine j_istore C (i := 7) d_mdl_call_37 rfl [(7, .int (((v6 + 3) / 4) * 4)), (0, va_rf (some a0)), (1, .int x1), (2, .int x2), (3, .int x3), (4, .int x4), (5, .long x5)] (rc_lt hN (by decide)) (by first | rfl | simp [va_rf_cat, rc_cat_i, rc_cat_l]) ?_
    refine j_aload_n C d_mdl_call_39 rfl 1 rfl ?_
    obtain ⟨a9, h10, h⟩ := Option.bind_eq_some_iff.mp h
    obtain ⟨p11, h12, h⟩ := Option.bind_eq_some_iff.mp h
    refine j_callV C (As := []) (st := []) (sk' := [.int p11.1]) mk_mdl_newSlot (Or.inl T_831) T_833 S_24 (ci := 7) rfl h10 (rc_le hF (by decide)) (rc_le hL (by decide)) (ct_mdl_newSlot h12) rfl rfl (by decide) d_mdl_call_40 rfl rfl ?_
    refine j_istore C (i := 8) d_mdl_call_43 rfl [(8, .int p11.1), (7, .int (((v6 + 3) / 4) * 4)), (0, va_rf (some a0)), (1, .int x1), (2, .int x2), (3, .int x3), (4, .int x4), (5, .long x5)] (rc_lt hN (by decide)) (by first | rfl | simp [va_rf_cat, rc_cat_i, rc_cat_l]) ?_
    refine j_aload_n C d_mdl_call_45 rfl 2 rfl ?_
    refine j_iload C d_mdl_call_46 rfl 0 rfl ?_
    refine j_bipush (v := 44) C d_mdl_call_48 rfl (by decide) ?_
    refine j_iload C d_mdl_call_50 rfl 1 rfl ?_
    refine j_iadd C d_mdl_call_52 rfl ?_
    refine j_iload C d_mdl_call_53 rfl 6 rfl ?_
    refine j_if_eq (tgt := 63) C d_mdl_call_55 (by decide) rfl (fun c13 => ?_) (fun c13 => ?_)
    · rw [if_pos c13] at h
      refine j_iconst (v := 0) C d_mdl_call_63 rfl (by decide) ?_
      refine rc_J.sub (lv' := [(0, va_rf (some a0)), (1, .int x1), (2, .int x2), (3, .int x3), (4, .int x4), (5, .long x5), (7, .int (((v6 + 3) / 4) * 4)), (8, .int p11.1)]) [2, 3, 4, 5, 6, 7, 1, 0] rfl ?_
      exact k_mdl_call_64 hF hL hN C E h
    · rw [if_neg c13] at h
      refine j_bipush (v := 8) C d_mdl_call_58 rfl (by decide) ?_
      refine j_goto (tgt := 64) C d_mdl_call_60 (by decide) ?_
      refine rc_J.sub (lv' := [(0, va_rf (some a0)), (1, .int x1), (2, .int x2), (3, .int x3), (4, .int x4), (5, .long x5), (7, .int (((v6 + 3) / 4) * 4)), (8, .int p11.1)]) [2, 3, 4, 5, 6, 7, 1, 0] rfl ?_
      exact k_mdl_call_64 hF hL hN C E h
  · rw [if_neg c5] at h
    refine j_iconst (v := 0) C d_mdl_call_25 rfl (by decide) ?_
    cases h
    exact j_iret C E d_mdl_call_26

set_option maxRecDepth 100000 in
set_option maxHeartbeats 4000000 in
theorem ct_mdl_call {l : Launch} {G : rc_G} {w : rc_M} {a0 : Nat} {x1 : Int32} {x2 : Int32} {x3 : Int32} {x4 : Int32} {x5 : Int64} {res : Int32 × rc_M} (h : f_mdl_call w a0 x1 x2 x3 x4 x5 = some res) : rc_Ct l G y_mdl_call prog_9_method_10_code 10 (some .int) 3 65 [va_rf (some a0), .int x1, .int x2, .int x3, .int x4, .long x5] w (some (.int res.1)) res.2 := by
  refine rc_enter (by decide +kernel) (by simp [lg_sl, va_rf_cat, rc_cat_i, rc_cat_l]) ?_
  intro X _ _ hN hF hL C E
  have hlv : lv_args 0 [va_rf (some a0), .int x1, .int x2, .int x3, .int x4, .long x5] = [(0, va_rf (some a0)), (1, .int x1), (2, .int x2), (3, .int x3), (4, .int x4), (5, .long x5)] := by simp [lv_args, va_rf_cat, rc_cat_i, rc_cat_l]
  rw [hlv]
  clear hlv
  unfold f_mdl_call at h
  refine j_aload_n C d_mdl_call_0 rfl 0 rfl ?_
  refine j_aload_n C d_mdl_call_1 rfl 0 rfl ?_
  obtain ⟨v1, h2, h⟩ := Option.bind_eq_some_iff.mp h
  refine j_getI C fl_mdl_93 h2 d_mdl_call_2 rfl ?_
  refine j_bipush (v := 16) C d_mdl_call_5 rfl (by decide) ?_
  refine j_icmp_le (tgt := 14) C d_mdl_call_7 (by decide) rfl (fun c3 => ?_) (fun c3 => ?_)
  · rw [if_pos c3] at h
    refine j_iconst (v := 0) C d_mdl_call_14 rfl (by decide) ?_
    exact k_mdl_call_15 hF hL hN C E h
  · rw [if_neg c3] at h
    refine j_iconst (v := 1) C d_mdl_call_10 rfl (by decide) ?_
    refine j_goto (tgt := 15) C d_mdl_call_11 (by decide) ?_
    exact k_mdl_call_15 hF hL hN C E h

set_option maxRecDepth 100000 in
set_option maxHeartbeats 4000000 in
theorem k_mdl_take_167 {X : rc_X} {w0 : rc_M} (hF : (q_R X).frames = 0) (hL : (q_R X).locals = 0) (hN : q_n X = 3) (C : rc_C X "RecordCallsModel" prog_9_method_12_code w0) {res : Int32 × rc_M} (E : rc_E0 X y_mdl_take (some .boolean) (some (.int res.1)) res.2) {w : rc_M} {a0 : Nat} {x1 : Int32} (h : b_mdl_take_167 w a0 x1 = some res) : rc_J X w 167 [] [(0, va_rf (some a0)), (1, .int x1)] := by
  unfold b_mdl_take_167 at h
  refine j_aload_n C d_mdl_take_167 rfl 0 rfl ?_
  obtain ⟨v1, h2, h⟩ := Option.bind_eq_some_iff.mp h
  refine j_getR C fl_mdl_46 h2 d_mdl_take_168 rfl ?_
  refine j_iload_n C d_mdl_take_171 rfl 1 rfl ?_
  obtain ⟨v3, h4, h⟩ := Option.bind_eq_some_iff.mp h
  refine j_iald C h4 d_mdl_take_172 rfl ?_
  refine j_if_ne (tgt := 190) C d_mdl_take_173 (by decide) rfl (fun c5 => ?_) (fun c5 => ?_)
  · rw [if_neg c5] at h
    refine j_iconst (v := 0) C d_mdl_take_190 rfl (by decide) ?_
    obtain ⟨hz, rfl⟩ := rc_z1_spec h
    exact j_zret C hz E d_mdl_take_191
  · rw [if_pos c5] at h
    refine j_aload_n C d_mdl_take_176 rfl 0 rfl ?_
    obtain ⟨v6, h7, h⟩ := Option.bind_eq_some_iff.mp h
    refine j_getR C fl_mdl_53 h7 d_mdl_take_177 rfl ?_
    refine j_iload_n C d_mdl_take_180 rfl 1 rfl ?_
    refine j_iconst (v := 0) C d_mdl_take_181 rfl (by decide) ?_
    obtain ⟨w8, h9, h⟩ := Option.bind_eq_some_iff.mp h
    refine j_zast C h9 d_mdl_take_182 rfl ?_
    refine j_aload_n C d_mdl_take_183 rfl 0 rfl ?_
    obtain ⟨v10, h11, h⟩ := Option.bind_eq_some_iff.mp h
    refine j_getR C fl_mdl_49 h11 d_mdl_take_184 rfl ?_
    refine j_iload_n C d_mdl_take_187 rfl 1 rfl ?_
    obtain ⟨v12, h13, h⟩ := Option.bind_eq_some_iff.mp h
    refine j_zald C h13 d_mdl_take_188 rfl ?_
    obtain ⟨hz, rfl⟩ := rc_z1_spec h
    exact j_zret C hz E d_mdl_take_189

set_option maxRecDepth 100000 in
set_option maxHeartbeats 4000000 in
theorem k_mdl_take_116 {X : rc_X} {w0 : rc_M} (hF : (q_R X).frames = 0) (hL : (q_R X).locals = 0) (hN : q_n X = 3) (C : rc_C X "RecordCallsModel" prog_9_method_12_code w0) {res : Int32 × rc_M} (E : rc_E0 X y_mdl_take (some .boolean) (some (.int res.1)) res.2) {w : rc_M} {a0 : Nat} {x1 : Int32} {s0 : Option Nat} {s1 : Int32} {s2 : Int32} (h : b_mdl_take_116 w a0 x1 s0 s1 s2 = some res) : rc_J X w 116 [.int s2, .int s1, va_rf s0] [(0, va_rf (some a0)), (1, .int x1)] := by
  unfold b_mdl_take_116 at h
  obtain ⟨w1, h2, h⟩ := Option.bind_eq_some_iff.mp h
  refine j_zast C h2 d_mdl_take_116 rfl ?_
  refine j_aload_n C d_mdl_take_117 rfl 0 rfl ?_
  obtain ⟨v3, h4, h⟩ := Option.bind_eq_some_iff.mp h
  refine j_getR C fl_mdl_46 h4 d_mdl_take_118 rfl ?_
  refine j_iload_n C d_mdl_take_121 rfl 1 rfl ?_
  refine j_aload_n C d_mdl_take_122 rfl 0 rfl ?_
  obtain ⟨v5, h6, h⟩ := Option.bind_eq_some_iff.mp h
  refine j_getR C fl_mdl_43 h6 d_mdl_take_123 rfl ?_
  refine j_iload_n C d_mdl_take_126 rfl 1 rfl ?_
  obtain ⟨v7, h8, h⟩ := Option.bind_eq_some_iff.mp h
  refine j_iald C h8 d_mdl_take_127 rfl ?_
  refine j_ldc C d_mdl_take_128 rfl T_846 ?_
  refine j_iand C d_mdl_take_130 rfl ?_
  obtain ⟨w9, h10, h⟩ := Option.bind_eq_some_iff.mp h
  refine j_iast C h10 d_mdl_take_131 rfl ?_
  refine j_aload_n C d_mdl_take_132 rfl 0 rfl ?_
  obtain ⟨v11, h12, h⟩ := Option.bind_eq_some_iff.mp h
  refine j_getR C fl_mdl_53 h12 d_mdl_take_133 rfl ?_
  refine j_iload_n C d_mdl_take_136 rfl 1 rfl ?_
  refine j_iconst (v := 1) C d_mdl_take_137 rfl (by decide) ?_
  obtain ⟨w13, h14, h⟩ := Option.bind_eq_some_iff.mp h
  refine j_zast C h14 d_mdl_take_138 rfl ?_
  refine j_aload_n C d_mdl_take_139 rfl 0 rfl ?_
  obtain ⟨v15, h16, h⟩ := Option.bind_eq_some_iff.mp h
  refine j_getR C fl_mdl_46 h16 d_mdl_take_140 rfl ?_
  refine j_iload_n C d_mdl_take_143 rfl 1 rfl ?_
  obtain ⟨v17, h18, h⟩ := Option.bind_eq_some_iff.mp h
  refine j_iald C h18 d_mdl_take_144 rfl ?_
  refine j_sipush (v := 1200) C d_mdl_take_145 rfl (by decide) ?_
  refine j_aload_n C d_mdl_take_148 rfl 0 rfl ?_
  obtain ⟨v19, h20, h⟩ := Option.bind_eq_some_iff.mp h
  refine j_getR C fl_mdl_37 h20 d_mdl_take_149 rfl ?_
  refine j_iload_n C d_mdl_take_152 rfl 1 rfl ?_
  obtain ⟨v21, h22, h⟩ := Option.bind_eq_some_iff.mp h
  refine j_iald C h22 d_mdl_take_153 rfl ?_
  refine j_isub C d_mdl_take_154 rfl ?_
  refine j_icmp_le (tgt := 167) C d_mdl_take_155 (by decide) rfl (fun c23 => ?_) (fun c23 => ?_)
  · rw [if_pos c23] at h
    exact k_mdl_take_167 hF hL hN C E h
  · rw [if_neg c23] at h
    refine j_aload_n C d_mdl_take_158 rfl 0 rfl ?_
    obtain ⟨v24, h25, h⟩ := Option.bind_eq_some_iff.mp h
    refine j_getR C fl_mdl_56 h25 d_mdl_take_159 rfl ?_
    refine j_iload_n C d_mdl_take_162 rfl 1 rfl ?_
    refine j_iconst (v := 1) C d_mdl_take_163 rfl (by decide) ?_
    obtain ⟨w26, h27, h⟩ := Option.bind_eq_some_iff.mp h
    refine j_zast C h27 d_mdl_take_164 rfl ?_
    refine j_iconst (v := 0) C d_mdl_take_165 rfl (by decide) ?_
    obtain ⟨hz, rfl⟩ := rc_z1_spec h
    exact j_zret C hz E d_mdl_take_166

set_option maxRecDepth 100000 in
set_option maxHeartbeats 4000000 in
theorem ct_mdl_take {l : Launch} {G : rc_G} {w : rc_M} {a0 : Nat} {x1 : Int32} {x2 : Int32} {res : Int32 × rc_M} (h : f_mdl_take w a0 x1 x2 = some res) : rc_Ct l G y_mdl_take prog_9_method_12_code 3 (some .boolean) 0 0 [va_rf (some a0), .int x1, .int x2] w (some (.int res.1)) res.2 := by
  refine rc_enter (by decide +kernel) (by simp [lg_sl, va_rf_cat, rc_cat_i, rc_cat_l]) ?_
  intro X _ _ hN hF hL C E
  have hlv : lv_args 0 [va_rf (some a0), .int x1, .int x2] = [(0, va_rf (some a0)), (1, .int x1), (2, .int x2)] := by simp [lv_args, va_rf_cat, rc_cat_i, rc_cat_l]
  rw [hlv]
  clear hlv
  unfold f_mdl_take at h
  refine j_aload_n C d_mdl_take_0 rfl 0 rfl ?_
  obtain ⟨v1, h2, h⟩ := Option.bind_eq_some_iff.mp h
  refine j_getR C fl_mdl_53 h2 d_mdl_take_1 rfl ?_
  refine j_iload_n C d_mdl_take_4 rfl 1 rfl ?_
  obtain ⟨v3, h4, h⟩ := Option.bind_eq_some_iff.mp h
  refine j_zald C h4 d_mdl_take_5 rfl ?_
  refine j_if_eq (tgt := 51) C d_mdl_take_6 (by decide) rfl (fun c5 => ?_) (fun c5 => ?_)
  · rw [if_pos c5] at h
    refine j_aload_n C d_mdl_take_51 rfl 0 rfl ?_
    obtain ⟨v6, h7, h⟩ := Option.bind_eq_some_iff.mp h
    refine j_getR C fl_mdl_43 h7 d_mdl_take_52 rfl ?_
    refine j_iload_n C d_mdl_take_55 rfl 1 rfl ?_
    refine j_aload_n C d_mdl_take_56 rfl 0 rfl ?_
    obtain ⟨v8, h9, h⟩ := Option.bind_eq_some_iff.mp h
    refine j_getR C fl_mdl_43 h9 d_mdl_take_57 rfl ?_
    refine j_iload_n C d_mdl_take_60 rfl 1 rfl ?_
    obtain ⟨v10, h11, h⟩ := Option.bind_eq_some_iff.mp h
    refine j_iald C h11 d_mdl_take_61 rfl ?_
    refine j_bipush (v := 8) C d_mdl_take_62 rfl (by decide) ?_
    refine j_ishl C d_mdl_take_64 rfl ?_
    refine j_iload_n C d_mdl_take_65 rfl 2 rfl ?_
    refine j_ior C d_mdl_take_66 rfl ?_
    obtain ⟨w12, h13, h⟩ := Option.bind_eq_some_iff.mp h
    refine j_iast C h13 d_mdl_take_67 rfl ?_
    refine j_aload_n C d_mdl_take_68 rfl 0 rfl ?_
    obtain ⟨v14, h15, h⟩ := Option.bind_eq_some_iff.mp h
    refine j_getR C fl_mdl_40 h15 d_mdl_take_69 rfl ?_
    refine j_iload_n C d_mdl_take_72 rfl 1 rfl ?_
    refine j_dup2 C d_mdl_take_73 rfl (by first | rfl | exact va_rf_cat _) (by first | rfl | exact va_rf_cat _) ?_
    obtain ⟨v16, h17, h⟩ := Option.bind_eq_some_iff.mp h
    refine j_iald C h17 d_mdl_take_74 rfl ?_
    refine j_iconst (v := 1) C d_mdl_take_75 rfl (by decide) ?_
    refine j_iadd C d_mdl_take_76 rfl ?_
    obtain ⟨w18, h19, h⟩ := Option.bind_eq_some_iff.mp h
    refine j_iast C h19 d_mdl_take_77 rfl ?_
    refine j_aload_n C d_mdl_take_78 rfl 0 rfl ?_
    obtain ⟨v20, h21, h⟩ := Option.bind_eq_some_iff.mp h
    refine j_getR C fl_mdl_40 h21 d_mdl_take_79 rfl ?_
    refine j_iload_n C d_mdl_take_82 rfl 1 rfl ?_
    obtain ⟨v22, h23, h⟩ := Option.bind_eq_some_iff.mp h
    refine j_iald C h23 d_mdl_take_83 rfl ?_
    refine j_iconst (v := 4) C d_mdl_take_84 rfl (by decide) ?_
    refine j_icmp_ge (tgt := 90) C d_mdl_take_85 (by decide) rfl (fun c24 => ?_) (fun c24 => ?_)
    · rw [if_pos c24] at h
      refine j_aload_n C d_mdl_take_90 rfl 0 rfl ?_
      obtain ⟨v25, h26, h⟩ := Option.bind_eq_some_iff.mp h
      refine j_getR C fl_mdl_40 h26 d_mdl_take_91 rfl ?_
      refine j_iload_n C d_mdl_take_94 rfl 1 rfl ?_
      refine j_iconst (v := 0) C d_mdl_take_95 rfl (by decide) ?_
      obtain ⟨w27, h28, h⟩ := Option.bind_eq_some_iff.mp h
      refine j_iast C h28 d_mdl_take_96 rfl ?_
      refine j_aload_n C d_mdl_take_97 rfl 0 rfl ?_
      obtain ⟨v29, h30, h⟩ := Option.bind_eq_some_iff.mp h
      refine j_getR C fl_mdl_49 h30 d_mdl_take_98 rfl ?_
      refine j_iload_n C d_mdl_take_101 rfl 1 rfl ?_
      refine j_aload_n C d_mdl_take_102 rfl 0 rfl ?_
      obtain ⟨v31, h32, h⟩ := Option.bind_eq_some_iff.mp h
      refine j_getR C fl_mdl_43 h32 d_mdl_take_103 rfl ?_
      refine j_iload_n C d_mdl_take_106 rfl 1 rfl ?_
      obtain ⟨v33, h34, h⟩ := Option.bind_eq_some_iff.mp h
      refine j_iald C h34 d_mdl_take_107 rfl ?_
      refine j_if_ge (tgt := 115) C d_mdl_take_108 (by decide) rfl (fun c35 => ?_) (fun c35 => ?_)
      · rw [if_pos c35] at h
        refine j_iconst (v := 0) C d_mdl_take_115 rfl (by decide) ?_
        refine rc_J.sub (lv' := [(0, va_rf (some a0)), (1, .int x1)]) [0, 1] rfl ?_
        exact k_mdl_take_116 hF hL hN C E h
      · rw [if_neg c35] at h
        refine j_iconst (v := 1) C d_mdl_take_111 rfl (by decide) ?_
        refine j_goto (tgt := 116) C d_mdl_take_112 (by decide) ?_
        refine rc_J.sub (lv' := [(0, va_rf (some a0)), (1, .int x1)]) [0, 1] rfl ?_
        exact k_mdl_take_116 hF hL hN C E h
    · rw [if_neg c24] at h
      refine j_iconst (v := 0) C d_mdl_take_88 rfl (by decide) ?_
      obtain ⟨hz, rfl⟩ := rc_z1_spec h
      exact j_zret C hz E d_mdl_take_89
  · rw [if_neg c5] at h
    refine j_aload_n C d_mdl_take_9 rfl 0 rfl ?_
    obtain ⟨v36, h37, h⟩ := Option.bind_eq_some_iff.mp h
    refine j_getR C fl_mdl_34 h37 d_mdl_take_10 rfl ?_
    refine j_sipush (v := 1200) C d_mdl_take_13 rfl (by decide) ?_
    refine j_iload_n C d_mdl_take_16 rfl 1 rfl ?_
    refine j_imul C d_mdl_take_17 rfl ?_
    refine j_aload_n C d_mdl_take_18 rfl 0 rfl ?_
    obtain ⟨v38, h39, h⟩ := Option.bind_eq_some_iff.mp h
    refine j_getR C fl_mdl_37 h39 d_mdl_take_19 rfl ?_
    refine j_iload_n C d_mdl_take_22 rfl 1 rfl ?_
    obtain ⟨v40, h41, h⟩ := Option.bind_eq_some_iff.mp h
    refine j_iald C h41 d_mdl_take_23 rfl ?_
    refine j_iadd C d_mdl_take_24 rfl ?_
    refine j_iload_n C d_mdl_take_25 rfl 2 rfl ?_
    refine j_i2b C d_mdl_take_26 rfl ?_
    obtain ⟨w42, h43, h⟩ := Option.bind_eq_some_iff.mp h
    refine j_bast C h43 d_mdl_take_27 rfl ?_
    refine j_aload_n C d_mdl_take_28 rfl 0 rfl ?_
    obtain ⟨v44, h45, h⟩ := Option.bind_eq_some_iff.mp h
    refine j_getR C fl_mdl_37 h45 d_mdl_take_29 rfl ?_
    refine j_iload_n C d_mdl_take_32 rfl 1 rfl ?_
    refine j_dup2 C d_mdl_take_33 rfl (by first | rfl | exact va_rf_cat _) (by first | rfl | exact va_rf_cat _) ?_
    obtain ⟨v46, h47, h⟩ := Option.bind_eq_some_iff.mp h
    refine j_iald C h47 d_mdl_take_34 rfl ?_
    refine j_iconst (v := 1) C d_mdl_take_35 rfl (by decide) ?_
    refine j_iadd C d_mdl_take_36 rfl ?_
    obtain ⟨w48, h49, h⟩ := Option.bind_eq_some_iff.mp h
    refine j_iast C h49 d_mdl_take_37 rfl ?_
    refine j_aload_n C d_mdl_take_38 rfl 0 rfl ?_
    obtain ⟨v50, h51, h⟩ := Option.bind_eq_some_iff.mp h
    refine j_getR C fl_mdl_46 h51 d_mdl_take_39 rfl ?_
    refine j_iload_n C d_mdl_take_42 rfl 1 rfl ?_
    refine j_dup2 C d_mdl_take_43 rfl (by first | rfl | exact va_rf_cat _) (by first | rfl | exact va_rf_cat _) ?_
    obtain ⟨v52, h53, h⟩ := Option.bind_eq_some_iff.mp h
    refine j_iald C h53 d_mdl_take_44 rfl ?_
    refine j_iconst (v := 1) C d_mdl_take_45 rfl (by decide) ?_
    refine j_isub C d_mdl_take_46 rfl ?_
    obtain ⟨w54, h55, h⟩ := Option.bind_eq_some_iff.mp h
    refine j_iast C h55 d_mdl_take_47 rfl ?_
    refine j_goto (tgt := 167) C d_mdl_take_48 (by decide) ?_
    refine rc_J.sub (lv' := [(0, va_rf (some a0)), (1, .int x1)]) [0, 1] rfl ?_
    exact k_mdl_take_167 hF hL hN C E h

