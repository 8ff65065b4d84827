theorem fl_mdl_21 : rc_FL "RecordCallsModel" 21 7 6 := ⟨by decide, by decide, Or.inl T_725⟩
theorem fl_mdl_59 : rc_FL "RecordCallsModel" 59 7 19 := ⟨by decide, by decide, Or.inl T_738⟩
theorem fl_mdl_68 : rc_FL "RecordCallsModel" 68 7 22 := ⟨by decide, by decide, Or.inl T_741⟩
theorem fl_mdl_147 : rc_FL "RecordCallsModel" 147 7 25 := ⟨by decide, by decide, Or.inl T_744⟩
theorem fl_mdl_150 : rc_FL "RecordCallsModel" 150 7 24 := ⟨by decide, by decide, Or.inl T_743⟩
theorem d_mdl_keep_0 : decode prog_9_method_22_code 0 = .ok (.aload_n 0, 1) := by decide +kernel
theorem d_mdl_keep_1 : decode prog_9_method_22_code 1 = .ok (.getfield 68, 3) := by decide +kernel
theorem d_mdl_keep_4 : decode prog_9_method_22_code 4 = .ok (.iload_n 1, 1) := by decide +kernel
theorem d_mdl_keep_5 : decode prog_9_method_22_code 5 = .ok (.iaload, 1) := by decide +kernel
theorem d_mdl_keep_6 : decode prog_9_method_22_code 6 = .ok (.bipush 8, 2) := by decide +kernel
theorem d_mdl_keep_8 : decode prog_9_method_22_code 8 = .ok (.if_icmp .ne 108, 3) := by decide +kernel
theorem d_mdl_keep_11 : decode prog_9_method_22_code 11 = .ok (.bipush 8, 2) := by decide +kernel
theorem d_mdl_keep_13 : decode prog_9_method_22_code 13 = .ok (.iload_n 1, 1) := by decide +kernel
theorem d_mdl_keep_14 : decode prog_9_method_22_code 14 = .ok (.imul, 1) := by decide +kernel
theorem d_mdl_keep_15 : decode prog_9_method_22_code 15 = .ok (.istore_n 3, 1) := by decide +kernel
theorem d_mdl_keep_16 : decode prog_9_method_22_code 16 = .ok (.iload_n 3, 1) := by decide +kernel
theorem d_mdl_keep_17 : decode prog_9_method_22_code 17 = .ok (.bipush 8, 2) := by decide +kernel
theorem d_mdl_keep_19 : decode prog_9_method_22_code 19 = .ok (.iload_n 1, 1) := by decide +kernel
theorem d_mdl_keep_20 : decode prog_9_method_22_code 20 = .ok (.imul, 1) := by decide +kernel
theorem d_mdl_keep_21 : decode prog_9_method_22_code 21 = .ok (.bipush 7, 2) := by decide +kernel
theorem d_mdl_keep_23 : decode prog_9_method_22_code 23 = .ok (.iadd, 1) := by decide +kernel
theorem d_mdl_keep_24 : decode prog_9_method_22_code 24 = .ok (.if_icmp .ge 84, 3) := by decide +kernel
theorem d_mdl_keep_27 : decode prog_9_method_22_code 27 = .ok (.aload_n 0, 1) := by decide +kernel
theorem d_mdl_keep_28 : decode prog_9_method_22_code 28 = .ok (.getfield 59, 3) := by decide +kernel
theorem d_mdl_keep_31 : decode prog_9_method_22_code 31 = .ok (.iload_n 3, 1) := by decide +kernel
theorem d_mdl_keep_32 : decode prog_9_method_22_code 32 = .ok (.aload_n 0, 1) := by decide +kernel
theorem d_mdl_keep_33 : decode prog_9_method_22_code 33 = .ok (.getfield 59, 3) := by decide +kernel
theorem d_mdl_keep_36 : decode prog_9_method_22_code 36 = .ok (.iload_n 3, 1) := by decide +kernel
theorem d_mdl_keep_37 : decode prog_9_method_22_code 37 = .ok (.iconst 1, 1) := by decide +kernel
theorem d_mdl_keep_38 : decode prog_9_method_22_code 38 = .ok (.iadd, 1) := by decide +kernel
theorem d_mdl_keep_39 : decode prog_9_method_22_code 39 = .ok (.iaload, 1) := by decide +kernel
theorem d_mdl_keep_40 : decode prog_9_method_22_code 40 = .ok (.iastore, 1) := by decide +kernel
theorem d_mdl_keep_41 : decode prog_9_method_22_code 41 = .ok (.aload_n 0, 1) := by decide +kernel
theorem d_mdl_keep_42 : decode prog_9_method_22_code 42 = .ok (.getfield 62, 3) := by decide +kernel
theorem d_mdl_keep_45 : decode prog_9_method_22_code 45 = .ok (.iload_n 3, 1) := by decide +kernel
theorem d_mdl_keep_46 : decode prog_9_method_22_code 46 = .ok (.aload_n 0, 1) := by decide +kernel
theorem d_mdl_keep_47 : decode prog_9_method_22_code 47 = .ok (.getfield 62, 3) := by decide +kernel
theorem d_mdl_keep_50 : decode prog_9_method_22_code 50 = .ok (.iload_n 3, 1) := by decide +kernel
theorem d_mdl_keep_51 : decode prog_9_method_22_code 51 = .ok (.iconst 1, 1) := by decide +kernel
theorem d_mdl_keep_52 : decode prog_9_method_22_code 52 = .ok (.iadd, 1) := by decide +kernel
theorem d_mdl_keep_53 : decode prog_9_method_22_code 53 = .ok (.iaload, 1) := by decide +kernel
theorem d_mdl_keep_54 : decode prog_9_method_22_code 54 = .ok (.iastore, 1) := by decide +kernel
theorem d_mdl_keep_55 : decode prog_9_method_22_code 55 = .ok (.iconst 0, 1) := by decide +kernel
theorem d_mdl_keep_56 : decode prog_9_method_22_code 56 = .ok (.istore 4, 2) := by decide +kernel
theorem d_mdl_keep_58 : decode prog_9_method_22_code 58 = .ok (.iload 4, 2) := by decide +kernel
theorem d_mdl_keep_60 : decode prog_9_method_22_code 60 = .ok (.sipush 400, 3) := by decide +kernel
theorem d_mdl_keep_63 : decode prog_9_method_22_code 63 = .ok (.if_icmp .ge 39, 3) := by decide +kernel
theorem d_mdl_keep_66 : decode prog_9_method_22_code 66 = .ok (.aload_n 0, 1) := by decide +kernel
theorem d_mdl_keep_67 : decode prog_9_method_22_code 67 = .ok (.getfield 65, 3) := by decide +kernel
theorem d_mdl_keep_70 : decode prog_9_method_22_code 70 = .ok (.sipush 400, 3) := by decide +kernel
theorem d_mdl_keep_73 : decode prog_9_method_22_code 73 = .ok (.iload_n 3, 1) := by decide +kernel
theorem d_mdl_keep_74 : decode prog_9_method_22_code 74 = .ok (.imul, 1) := by decide +kernel
theorem d_mdl_keep_75 : decode prog_9_method_22_code 75 = .ok (.iload 4, 2) := by decide +kernel
theorem d_mdl_keep_77 : decode prog_9_method_22_code 77 = .ok (.iadd, 1) := by decide +kernel
theorem d_mdl_keep_78 : decode prog_9_method_22_code 78 = .ok (.aload_n 0, 1) := by decide +kernel
theorem d_mdl_keep_79 : decode prog_9_method_22_code 79 = .ok (.getfield 65, 3) := by decide +kernel
theorem d_mdl_keep_82 : decode prog_9_method_22_code 82 = .ok (.sipush 400, 3) := by decide +kernel
theorem d_mdl_keep_85 : decode prog_9_method_22_code 85 = .ok (.iload_n 3, 1) := by decide +kernel
theorem d_mdl_keep_86 : decode prog_9_method_22_code 86 = .ok (.imul, 1) := by decide +kernel
theorem d_mdl_keep_87 : decode prog_9_method_22_code 87 = .ok (.sipush 400, 3) := by decide +kernel
theorem d_mdl_keep_90 : decode prog_9_method_22_code 90 = .ok (.iadd, 1) := by decide +kernel
theorem d_mdl_keep_91 : decode prog_9_method_22_code 91 = .ok (.iload 4, 2) := by decide +kernel
theorem d_mdl_keep_93 : decode prog_9_method_22_code 93 = .ok (.iadd, 1) := by decide +kernel
theorem d_mdl_keep_94 : decode prog_9_method_22_code 94 = .ok (.baload, 1) := by decide +kernel
theorem d_mdl_keep_95 : decode prog_9_method_22_code 95 = .ok (.bastore, 1) := by decide +kernel
theorem d_mdl_keep_96 : decode prog_9_method_22_code 96 = .ok (.iinc 4 1, 3) := by decide +kernel
theorem d_mdl_keep_99 : decode prog_9_method_22_code 99 = .ok (.goto (-41), 3) := by decide +kernel
theorem d_mdl_keep_102 : decode prog_9_method_22_code 102 = .ok (.iinc 3 1, 3) := by decide +kernel
theorem d_mdl_keep_105 : decode prog_9_method_22_code 105 = .ok (.goto (-89), 3) := by decide +kernel
theorem d_mdl_keep_108 : decode prog_9_method_22_code 108 = .ok (.aload_n 0, 1) := by decide +kernel
theorem d_mdl_keep_109 : decode prog_9_method_22_code 109 = .ok (.getfield 68, 3) := by decide +kernel
theorem d_mdl_keep_112 : decode prog_9_method_22_code 112 = .ok (.iload_n 1, 1) := by decide +kernel
theorem d_mdl_keep_113 : decode prog_9_method_22_code 113 = .ok (.bipush 7, 2) := by decide +kernel
theorem d_mdl_keep_115 : decode prog_9_method_22_code 115 = .ok (.iastore, 1) := by decide +kernel
theorem d_mdl_keep_116 : decode prog_9_method_22_code 116 = .ok (.bipush 8, 2) := by decide +kernel
theorem d_mdl_keep_118 : decode prog_9_method_22_code 118 = .ok (.iload_n 1, 1) := by decide +kernel
theorem d_mdl_keep_119 : decode prog_9_method_22_code 119 = .ok (.imul, 1) := by decide +kernel
theorem d_mdl_keep_120 : decode prog_9_method_22_code 120 = .ok (.aload_n 0, 1) := by decide +kernel
theorem d_mdl_keep_121 : decode prog_9_method_22_code 121 = .ok (.getfield 68, 3) := by decide +kernel
theorem d_mdl_keep_124 : decode prog_9_method_22_code 124 = .ok (.iload_n 1, 1) := by decide +kernel
theorem d_mdl_keep_125 : decode prog_9_method_22_code 125 = .ok (.iaload, 1) := by decide +kernel
theorem d_mdl_keep_126 : decode prog_9_method_22_code 126 = .ok (.iadd, 1) := by decide +kernel
theorem d_mdl_keep_127 : decode prog_9_method_22_code 127 = .ok (.istore_n 3, 1) := by decide +kernel
theorem d_mdl_keep_128 : decode prog_9_method_22_code 128 = .ok (.aload_n 0, 1) := by decide +kernel
theorem d_mdl_keep_129 : decode prog_9_method_22_code 129 = .ok (.getfield 68, 3) := by decide +kernel
theorem d_mdl_keep_132 : decode prog_9_method_22_code 132 = .ok (.iload_n 1, 1) := by decide +kernel
theorem d_mdl_keep_133 : decode prog_9_method_22_code 133 = .ok (.dup2, 1) := by decide +kernel
theorem d_mdl_keep_134 : decode prog_9_method_22_code 134 = .ok (.iaload, 1) := by decide +kernel
theorem d_mdl_keep_135 : decode prog_9_method_22_code 135 = .ok (.iconst 1, 1) := by decide +kernel
theorem d_mdl_keep_136 : decode prog_9_method_22_code 136 = .ok (.iadd, 1) := by decide +kernel
theorem d_mdl_keep_137 : decode prog_9_method_22_code 137 = .ok (.iastore, 1) := by decide +kernel
theorem d_mdl_keep_138 : decode prog_9_method_22_code 138 = .ok (.aload_n 0, 1) := by decide +kernel
theorem d_mdl_keep_139 : decode prog_9_method_22_code 139 = .ok (.getfield 59, 3) := by decide +kernel
theorem d_mdl_keep_142 : decode prog_9_method_22_code 142 = .ok (.iload_n 3, 1) := by decide +kernel
theorem d_mdl_keep_143 : decode prog_9_method_22_code 143 = .ok (.iload_n 2, 1) := by decide +kernel
theorem d_mdl_keep_144 : decode prog_9_method_22_code 144 = .ok (.iastore, 1) := by decide +kernel
theorem d_mdl_keep_145 : decode prog_9_method_22_code 145 = .ok (.aload_n 0, 1) := by decide +kernel
theorem d_mdl_keep_146 : decode prog_9_method_22_code 146 = .ok (.getfield 62, 3) := by decide +kernel
theorem d_mdl_keep_149 : decode prog_9_method_22_code 149 = .ok (.iload_n 3, 1) := by decide +kernel
theorem d_mdl_keep_150 : decode prog_9_method_22_code 150 = .ok (.aload_n 0, 1) := by decide +kernel
theorem d_mdl_keep_151 : decode prog_9_method_22_code 151 = .ok (.getfield 140, 3) := by decide +kernel
theorem d_mdl_keep_154 : decode prog_9_method_22_code 154 = .ok (.iastore, 1) := by decide +kernel
theorem d_mdl_keep_155 : decode prog_9_method_22_code 155 = .ok (.iconst 0, 1) := by decide +kernel
theorem d_mdl_keep_156 : decode prog_9_method_22_code 156 = .ok (.istore 4, 2) := by decide +kernel
theorem d_mdl_keep_158 : decode prog_9_method_22_code 158 = .ok (.iload 4, 2) := by decide +kernel
theorem d_mdl_keep_160 : decode prog_9_method_22_code 160 = .ok (.aload_n 0, 1) := by decide +kernel
theorem d_mdl_keep_161 : decode prog_9_method_22_code 161 = .ok (.getfield 140, 3) := by decide +kernel
theorem d_mdl_keep_164 : decode prog_9_method_22_code 164 = .ok (.if_icmp .ge 29, 3) := by decide +kernel
theorem d_mdl_keep_167 : decode prog_9_method_22_code 167 = .ok (.aload_n 0, 1) := by decide +kernel
theorem d_mdl_keep_168 : decode prog_9_method_22_code 168 = .ok (.getfield 65, 3) := by decide +kernel
theorem d_mdl_keep_171 : decode prog_9_method_22_code 171 = .ok (.sipush 400, 3) := by decide +kernel
theorem d_mdl_keep_174 : decode prog_9_method_22_code 174 = .ok (.iload_n 3, 1) := by decide +kernel
theorem d_mdl_keep_175 : decode prog_9_method_22_code 175 = .ok (.imul, 1) := by decide +kernel
theorem d_mdl_keep_176 : decode prog_9_method_22_code 176 = .ok (.iload 4, 2) := by decide +kernel
theorem d_mdl_keep_178 : decode prog_9_method_22_code 178 = .ok (.iadd, 1) := by decide +kernel
theorem d_mdl_keep_179 : decode prog_9_method_22_code 179 = .ok (.aload_n 0, 1) := by decide +kernel
theorem d_mdl_keep_180 : decode prog_9_method_22_code 180 = .ok (.getfield 71, 3) := by decide +kernel
theorem d_mdl_keep_183 : decode prog_9_method_22_code 183 = .ok (.iload 4, 2) := by decide +kernel
theorem d_mdl_keep_185 : decode prog_9_method_22_code 185 = .ok (.baload, 1) := by decide +kernel
theorem d_mdl_keep_186 : decode prog_9_method_22_code 186 = .ok (.bastore, 1) := by decide +kernel
theorem d_mdl_keep_187 : decode prog_9_method_22_code 187 = .ok (.iinc 4 1, 3) := by decide +kernel
theorem d_mdl_keep_190 : decode prog_9_method_22_code 190 = .ok (.goto (-32), 3) := by decide +kernel
theorem d_mdl_keep_193 : decode prog_9_method_22_code 193 = .ok (.aload_n 0, 1) := by decide +kernel
theorem d_mdl_keep_194 : decode prog_9_method_22_code 194 = .ok (.iload_n 3, 1) := by decide +kernel
theorem d_mdl_keep_195 : decode prog_9_method_22_code 195 = .ok (.invokevirtual 153, 3) := by decide +kernel
theorem d_mdl_keep_198 : decode prog_9_method_22_code 198 = .ok (.return_, 1) := by decide +kernel
theorem d_mdl_serve_0 : decode prog_9_method_21_code 0 = .ok (.aload_n 0, 1) := by decide +kernel
theorem d_mdl_serve_1 : decode prog_9_method_21_code 1 = .ok (.getfield 109, 3) := by decide +kernel
theorem d_mdl_serve_4 : decode prog_9_method_21_code 4 = .ok (.istore_n 1, 1) := by decide +kernel
theorem d_mdl_serve_5 : decode prog_9_method_21_code 5 = .ok (.aload_n 0, 1) := by decide +kernel
theorem d_mdl_serve_6 : decode prog_9_method_21_code 6 = .ok (.getfield 37, 3) := by decide +kernel
theorem d_mdl_serve_9 : decode prog_9_method_21_code 9 = .ok (.iload_n 1, 1) := by decide +kernel
theorem d_mdl_serve_10 : decode prog_9_method_21_code 10 = .ok (.iaload, 1) := by decide +kernel
theorem d_mdl_serve_11 : decode prog_9_method_21_code 11 = .ok (.bipush 8, 2) := by decide +kernel
theorem d_mdl_serve_13 : decode prog_9_method_21_code 13 = .ok (.if_icmp .lt 11, 3) := by decide +kernel
theorem d_mdl_serve_16 : decode prog_9_method_21_code 16 = .ok (.aload_n 0, 1) := by decide +kernel
theorem d_mdl_serve_17 : decode prog_9_method_21_code 17 = .ok (.iconst 4, 1) := by decide +kernel
theorem d_mdl_serve_18 : decode prog_9_method_21_code 18 = .ok (.invokevirtual 126, 3) := by decide +kernel
theorem d_mdl_serve_21 : decode prog_9_method_21_code 21 = .ok (.ifCond .eq 15, 3) := by decide +kernel
theorem d_mdl_serve_24 : decode prog_9_method_21_code 24 = .ok (.aload_n 0, 1) := by decide +kernel
theorem d_mdl_serve_25 : decode prog_9_method_21_code 25 = .ok (.dup, 1) := by decide +kernel
theorem d_mdl_serve_26 : decode prog_9_method_21_code 26 = .ok (.getfield 147, 3) := by decide +kernel
theorem d_mdl_serve_29 : decode prog_9_method_21_code 29 = .ok (.iconst 1, 1) := by decide +kernel
theorem d_mdl_serve_30 : decode prog_9_method_21_code 30 = .ok (.iadd, 1) := by decide +kernel
theorem d_mdl_serve_31 : decode prog_9_method_21_code 31 = .ok (.putfield 147, 3) := by decide +kernel
theorem d_mdl_serve_34 : decode prog_9_method_21_code 34 = .ok (.iconst 0, 1) := by decide +kernel
theorem d_mdl_serve_35 : decode prog_9_method_21_code 35 = .ok (.ireturn, 1) := by decide +kernel
theorem d_mdl_serve_36 : decode prog_9_method_21_code 36 = .ok (.aload_n 0, 1) := by decide +kernel
theorem d_mdl_serve_37 : decode prog_9_method_21_code 37 = .ok (.iconst 0, 1) := by decide +kernel
theorem d_mdl_serve_38 : decode prog_9_method_21_code 38 = .ok (.invokevirtual 126, 3) := by decide +kernel
theorem d_mdl_serve_41 : decode prog_9_method_21_code 41 = .ok (.istore_n 2, 1) := by decide +kernel
theorem d_mdl_serve_42 : decode prog_9_method_21_code 42 = .ok (.iconst 0, 1) := by decide +kernel
theorem d_mdl_serve_43 : decode prog_9_method_21_code 43 = .ok (.istore_n 3, 1) := by decide +kernel
theorem d_mdl_serve_44 : decode prog_9_method_21_code 44 = .ok (.iload_n 3, 1) := by decide +kernel
theorem d_mdl_serve_45 : decode prog_9_method_21_code 45 = .ok (.aload_n 0, 1) := by decide +kernel
theorem d_mdl_serve_46 : decode prog_9_method_21_code 46 = .ok (.getfield 68, 3) := by decide +kernel
theorem d_mdl_serve_49 : decode prog_9_method_21_code 49 = .ok (.iload_n 1, 1) := by decide +kernel
theorem d_mdl_serve_50 : decode prog_9_method_21_code 50 = .ok (.iaload, 1) := by decide +kernel
theorem d_mdl_serve_51 : decode prog_9_method_21_code 51 = .ok (.if_icmp .ge 46, 3) := by decide +kernel
theorem d_mdl_serve_54 : decode prog_9_method_21_code 54 = .ok (.aload_n 0, 1) := by decide +kernel
theorem d_mdl_serve_55 : decode prog_9_method_21_code 55 = .ok (.getfield 59, 3) := by decide +kernel
theorem d_mdl_serve_58 : decode prog_9_method_21_code 58 = .ok (.bipush 8, 2) := by decide +kernel
theorem d_mdl_serve_60 : decode prog_9_method_21_code 60 = .ok (.iload_n 1, 1) := by decide +kernel
theorem d_mdl_serve_61 : decode prog_9_method_21_code 61 = .ok (.imul, 1) := by decide +kernel
theorem d_mdl_serve_62 : decode prog_9_method_21_code 62 = .ok (.iload_n 3, 1) := by decide +kernel
theorem d_mdl_serve_63 : decode prog_9_method_21_code 63 = .ok (.iadd, 1) := by decide +kernel
theorem d_mdl_serve_64 : decode prog_9_method_21_code 64 = .ok (.iaload, 1) := by decide +kernel
theorem d_mdl_serve_65 : decode prog_9_method_21_code 65 = .ok (.iload_n 2, 1) := by decide +kernel
theorem d_mdl_serve_66 : decode prog_9_method_21_code 66 = .ok (.if_icmp .ne 25, 3) := by decide +kernel
theorem d_mdl_serve_69 : decode prog_9_method_21_code 69 = .ok (.aload_n 0, 1) := by decide +kernel
theorem d_mdl_serve_70 : decode prog_9_method_21_code 70 = .ok (.dup, 1) := by decide +kernel
theorem d_mdl_serve_71 : decode prog_9_method_21_code 71 = .ok (.getfield 150, 3) := by decide +kernel
theorem d_mdl_serve_74 : decode prog_9_method_21_code 74 = .ok (.iconst 1, 1) := by decide +kernel
theorem d_mdl_serve_75 : decode prog_9_method_21_code 75 = .ok (.iadd, 1) := by decide +kernel
theorem d_mdl_serve_76 : decode prog_9_method_21_code 76 = .ok (.putfield 150, 3) := by decide +kernel
theorem d_mdl_serve_79 : decode prog_9_method_21_code 79 = .ok (.aload_n 0, 1) := by decide +kernel
theorem d_mdl_serve_80 : decode prog_9_method_21_code 80 = .ok (.bipush 8, 2) := by decide +kernel
theorem d_mdl_serve_82 : decode prog_9_method_21_code 82 = .ok (.iload_n 1, 1) := by decide +kernel
theorem d_mdl_serve_83 : decode prog_9_method_21_code 83 = .ok (.imul, 1) := by decide +kernel
theorem d_mdl_serve_84 : decode prog_9_method_21_code 84 = .ok (.iload_n 3, 1) := by decide +kernel
theorem d_mdl_serve_85 : decode prog_9_method_21_code 85 = .ok (.iadd, 1) := by decide +kernel
theorem d_mdl_serve_86 : decode prog_9_method_21_code 86 = .ok (.invokevirtual 153, 3) := by decide +kernel
theorem d_mdl_serve_89 : decode prog_9_method_21_code 89 = .ok (.iconst 1, 1) := by decide +kernel
theorem d_mdl_serve_90 : decode prog_9_method_21_code 90 = .ok (.ireturn, 1) := by decide +kernel
theorem d_mdl_serve_91 : decode prog_9_method_21_code 91 = .ok (.iinc 3 1, 3) := by decide +kernel
theorem d_mdl_serve_94 : decode prog_9_method_21_code 94 = .ok (.goto (-50), 3) := by decide +kernel
theorem d_mdl_serve_97 : decode prog_9_method_21_code 97 = .ok (.aload_n 0, 1) := by decide +kernel
theorem d_mdl_serve_98 : decode prog_9_method_21_code 98 = .ok (.iconst 0, 1) := by decide +kernel
theorem d_mdl_serve_99 : decode prog_9_method_21_code 99 = .ok (.putfield 140, 3) := by decide +kernel
theorem d_mdl_serve_102 : decode prog_9_method_21_code 102 = .ok (.aload_n 0, 1) := by decide +kernel
theorem d_mdl_serve_103 : decode prog_9_method_21_code 103 = .ok (.iload_n 2, 1) := by decide +kernel
theorem d_mdl_serve_104 : decode prog_9_method_21_code 104 = .ok (.invokevirtual 156, 3) := by decide +kernel
theorem d_mdl_serve_107 : decode prog_9_method_21_code 107 = .ok (.ifCond .ne 15, 3) := by decide +kernel
theorem d_mdl_serve_110 : decode prog_9_method_21_code 110 = .ok (.aload_n 0, 1) := by decide +kernel
theorem d_mdl_serve_111 : decode prog_9_method_21_code 111 = .ok (.dup, 1) := by decide +kernel
theorem d_mdl_serve_112 : decode prog_9_method_21_code 112 = .ok (.getfield 147, 3) := by decide +kernel
theorem d_mdl_serve_115 : decode prog_9_method_21_code 115 = .ok (.iconst 1, 1) := by decide +kernel
theorem d_mdl_serve_116 : decode prog_9_method_21_code 116 = .ok (.iadd, 1) := by decide +kernel
theorem d_mdl_serve_117 : decode prog_9_method_21_code 117 = .ok (.putfield 147, 3) := by decide +kernel
theorem d_mdl_serve_120 : decode prog_9_method_21_code 120 = .ok (.iconst 0, 1) := by decide +kernel
theorem d_mdl_serve_121 : decode prog_9_method_21_code 121 = .ok (.ireturn, 1) := by decide +kernel
theorem d_mdl_serve_122 : decode prog_9_method_21_code 122 = .ok (.aload_n 0, 1) := by decide +kernel
theorem d_mdl_serve_123 : decode prog_9_method_21_code 123 = .ok (.iload_n 1, 1) := by decide +kernel
theorem d_mdl_serve_124 : decode prog_9_method_21_code 124 = .ok (.iload_n 2, 1) := by decide +kernel
theorem d_mdl_serve_125 : decode prog_9_method_21_code 125 = .ok (.invokevirtual 159, 3) := by decide +kernel
theorem d_mdl_serve_128 : decode prog_9_method_21_code 128 = .ok (.iconst 1, 1) := by decide +kernel
theorem d_mdl_serve_129 : decode prog_9_method_21_code 129 = .ok (.ireturn, 1) := by decide +kernel
theorem d_mdl_push_0 : decode prog_9_method_11_code 0 = .ok (.iload_n 1, 1) := by decide +kernel
theorem d_mdl_push_1 : decode prog_9_method_11_code 1 = .ok (.ifCond .lt 58, 3) := by decide +kernel
theorem d_mdl_push_4 : decode prog_9_method_11_code 4 = .ok (.iload_n 1, 1) := by decide +kernel
theorem d_mdl_push_5 : decode prog_9_method_11_code 5 = .ok (.iconst 4, 1) := by decide +kernel
theorem d_mdl_push_6 : decode prog_9_method_11_code 6 = .ok (.if_icmp .ge 53, 3) := by decide +kernel
theorem d_mdl_push_9 : decode prog_9_method_11_code 9 = .ok (.aload_n 0, 1) := by decide +kernel
theorem d_mdl_push_10 : decode prog_9_method_11_code 10 = .ok (.iload_n 2, 1) := by decide +kernel
theorem d_mdl_push_11 : decode prog_9_method_11_code 11 = .ok (.invokevirtual 101, 3) := by decide +kernel
theorem d_mdl_push_14 : decode prog_9_method_11_code 14 = .ok (.ifCond .eq 45, 3) := by decide +kernel
theorem d_mdl_push_17 : decode prog_9_method_11_code 17 = .ok (.iload 4, 2) := by decide +kernel
theorem d_mdl_push_19 : decode prog_9_method_11_code 19 = .ok (.ifCond .lt 40, 3) := by decide +kernel
theorem d_mdl_push_22 : decode prog_9_method_11_code 22 = .ok (.iload_n 3, 1) := by decide +kernel
theorem d_mdl_push_23 : decode prog_9_method_11_code 23 = .ok (.ifCond .lt 36, 3) := by decide +kernel
theorem d_mdl_push_26 : decode prog_9_method_11_code 26 = .ok (.iload_n 3, 1) := by decide +kernel
theorem d_mdl_push_27 : decode prog_9_method_11_code 27 = .ok (.aload_n 0, 1) := by decide +kernel
theorem d_mdl_push_28 : decode prog_9_method_11_code 28 = .ok (.getfield 18, 3) := by decide +kernel
theorem d_mdl_push_31 : decode prog_9_method_11_code 31 = .ok (.iload_n 2, 1) := by decide +kernel
theorem d_mdl_push_32 : decode prog_9_method_11_code 32 = .ok (.bipush 64, 2) := by decide +kernel
theorem d_mdl_push_34 : decode prog_9_method_11_code 34 = .ok (.irem, 1) := by decide +kernel
theorem d_mdl_push_35 : decode prog_9_method_11_code 35 = .ok (.iaload, 1) := by decide +kernel
theorem d_mdl_push_36 : decode prog_9_method_11_code 36 = .ok (.if_icmp .gt 23, 3) := by decide +kernel
theorem d_mdl_push_39 : decode prog_9_method_11_code 39 = .ok (.iload 4, 2) := by decide +kernel
theorem d_mdl_push_41 : decode prog_9_method_11_code 41 = .ok (.aload_n 0, 1) := by decide +kernel
theorem d_mdl_push_42 : decode prog_9_method_11_code 42 = .ok (.getfield 18, 3) := by decide +kernel
theorem d_mdl_push_45 : decode prog_9_method_11_code 45 = .ok (.iload_n 2, 1) := by decide +kernel
theorem d_mdl_push_46 : decode prog_9_method_11_code 46 = .ok (.bipush 64, 2) := by decide +kernel
theorem d_mdl_push_48 : decode prog_9_method_11_code 48 = .ok (.irem, 1) := by decide +kernel
theorem d_mdl_push_49 : decode prog_9_method_11_code 49 = .ok (.iaload, 1) := by decide +kernel
theorem d_mdl_push_50 : decode prog_9_method_11_code 50 = .ok (.iload_n 3, 1) := by decide +kernel
theorem d_mdl_push_51 : decode prog_9_method_11_code 51 = .ok (.isub, 1) := by decide +kernel
theorem d_mdl_push_52 : decode prog_9_method_11_code 52 = .ok (.if_icmp .gt 7, 3) := by decide +kernel
theorem d_mdl_push_55 : decode prog_9_method_11_code 55 = .ok (.iconst 1, 1) := by decide +kernel
theorem d_mdl_push_56 : decode prog_9_method_11_code 56 = .ok (.goto 4, 3) := by decide +kernel
theorem d_mdl_push_59 : decode prog_9_method_11_code 59 = .ok (.iconst 0, 1) := by decide +kernel
theorem d_mdl_push_60 : decode prog_9_method_11_code 60 = .ok (.istore 5, 2) := by decide +kernel
theorem d_mdl_push_62 : decode prog_9_method_11_code 62 = .ok (.aload_n 0, 1) := by decide +kernel
theorem d_mdl_push_63 : decode prog_9_method_11_code 63 = .ok (.iload 5, 2) := by decide +kernel
theorem d_mdl_push_65 : decode prog_9_method_11_code 65 = .ok (.ifCond .eq 7, 3) := by decide +kernel
theorem d_mdl_push_68 : decode prog_9_method_11_code 68 = .ok (.iconst 0, 1) := by decide +kernel
theorem d_mdl_push_69 : decode prog_9_method_11_code 69 = .ok (.goto 4, 3) := by decide +kernel
theorem d_mdl_push_72 : decode prog_9_method_11_code 72 = .ok (.iconst 1, 1) := by decide +kernel
theorem d_mdl_push_73 : decode prog_9_method_11_code 73 = .ok (.putfield 74, 3) := by decide +kernel
theorem d_mdl_push_76 : decode prog_9_method_11_code 76 = .ok (.aload_n 0, 1) := by decide +kernel
theorem d_mdl_push_77 : decode prog_9_method_11_code 77 = .ok (.getfield 74, 3) := by decide +kernel
theorem d_mdl_push_80 : decode prog_9_method_11_code 80 = .ok (.ifCond .le 5, 3) := by decide +kernel
theorem d_mdl_push_83 : decode prog_9_method_11_code 83 = .ok (.iconst 0, 1) := by decide +kernel
theorem d_mdl_push_84 : decode prog_9_method_11_code 84 = .ok (.ireturn, 1) := by decide +kernel
theorem d_mdl_push_85 : decode prog_9_method_11_code 85 = .ok (.iconst 0, 1) := by decide +kernel
theorem d_mdl_push_86 : decode prog_9_method_11_code 86 = .ok (.istore 6, 2) := by decide +kernel
theorem d_mdl_push_88 : decode prog_9_method_11_code 88 = .ok (.iload 6, 2) := by decide +kernel
theorem d_mdl_push_90 : decode prog_9_method_11_code 90 = .ok (.iload 4, 2) := by decide +kernel
theorem d_mdl_push_92 : decode prog_9_method_11_code 92 = .ok (.if_icmp .ge 30, 3) := by decide +kernel
theorem d_mdl_push_95 : decode prog_9_method_11_code 95 = .ok (.aload_n 0, 1) := by decide +kernel
theorem d_mdl_push_96 : decode prog_9_method_11_code 96 = .ok (.getfield 21, 3) := by decide +kernel
theorem d_mdl_push_99 : decode prog_9_method_11_code 99 = .ok (.iload 6, 2) := by decide +kernel
theorem d_mdl_push_101 : decode prog_9_method_11_code 101 = .ok (.aload_n 0, 1) := by decide +kernel
theorem d_mdl_push_102 : decode prog_9_method_11_code 102 = .ok (.getfield 14, 3) := by decide +kernel
theorem d_mdl_push_105 : decode prog_9_method_11_code 105 = .ok (.iload_n 2, 1) := by decide +kernel
theorem d_mdl_push_106 : decode prog_9_method_11_code 106 = .ok (.invokestatic 81, 3) := by decide +kernel
theorem d_mdl_push_109 : decode prog_9_method_11_code 109 = .ok (.iload_n 3, 1) := by decide +kernel
theorem d_mdl_push_110 : decode prog_9_method_11_code 110 = .ok (.iadd, 1) := by decide +kernel
theorem d_mdl_push_111 : decode prog_9_method_11_code 111 = .ok (.iload 6, 2) := by decide +kernel
theorem d_mdl_push_113 : decode prog_9_method_11_code 113 = .ok (.iadd, 1) := by decide +kernel
theorem d_mdl_push_114 : decode prog_9_method_11_code 114 = .ok (.baload, 1) := by decide +kernel
theorem d_mdl_push_115 : decode prog_9_method_11_code 115 = .ok (.bastore, 1) := by decide +kernel
theorem d_mdl_push_116 : decode prog_9_method_11_code 116 = .ok (.iinc 6 1, 3) := by decide +kernel
theorem d_mdl_push_119 : decode prog_9_method_11_code 119 = .ok (.goto (-31), 3) := by decide +kernel
theorem d_mdl_push_122 : decode prog_9_method_11_code 122 = .ok (.iconst 0, 1) := by decide +kernel
theorem d_mdl_push_123 : decode prog_9_method_11_code 123 = .ok (.istore 6, 2) := by decide +kernel
theorem d_mdl_push_125 : decode prog_9_method_11_code 125 = .ok (.iconst 0, 1) := by decide +kernel
theorem d_mdl_push_126 : decode prog_9_method_11_code 126 = .ok (.istore 7, 2) := by decide +kernel
theorem d_mdl_push_128 : decode prog_9_method_11_code 128 = .ok (.iload 7, 2) := by decide +kernel
theorem d_mdl_push_130 : decode prog_9_method_11_code 130 = .ok (.iload 4, 2) := by decide +kernel
theorem d_mdl_push_132 : decode prog_9_method_11_code 132 = .ok (.if_icmp .ge 67, 3) := by decide +kernel
theorem d_mdl_push_135 : decode prog_9_method_11_code 135 = .ok (.aload_n 0, 1) := by decide +kernel
theorem d_mdl_push_136 : decode prog_9_method_11_code 136 = .ok (.getfield 56, 3) := by decide +kernel
theorem d_mdl_push_139 : decode prog_9_method_11_code 139 = .ok (.iload_n 1, 1) := by decide +kernel
theorem d_mdl_push_140 : decode prog_9_method_11_code 140 = .ok (.baload, 1) := by decide +kernel
theorem d_mdl_push_141 : decode prog_9_method_11_code 141 = .ok (.ifCond .ne 52, 3) := by decide +kernel
theorem d_mdl_push_144 : decode prog_9_method_11_code 144 = .ok (.aload_n 0, 1) := by decide +kernel
theorem d_mdl_push_145 : decode prog_9_method_11_code 145 = .ok (.iload_n 1, 1) := by decide +kernel
theorem d_mdl_push_146 : decode prog_9_method_11_code 146 = .ok (.aload_n 0, 1) := by decide +kernel
theorem d_mdl_push_147 : decode prog_9_method_11_code 147 = .ok (.getfield 21, 3) := by decide +kernel
theorem d_mdl_push_150 : decode prog_9_method_11_code 150 = .ok (.iload 7, 2) := by decide +kernel
theorem d_mdl_push_152 : decode prog_9_method_11_code 152 = .ok (.baload, 1) := by decide +kernel
theorem d_mdl_push_153 : decode prog_9_method_11_code 153 = .ok (.sipush 255, 3) := by decide +kernel
theorem d_mdl_push_156 : decode prog_9_method_11_code 156 = .ok (.iand, 1) := by decide +kernel
theorem d_mdl_push_157 : decode prog_9_method_11_code 157 = .ok (.invokevirtual 105, 3) := by decide +kernel
theorem d_mdl_push_160 : decode prog_9_method_11_code 160 = .ok (.ifCond .eq 33, 3) := by decide +kernel
theorem d_mdl_push_163 : decode prog_9_method_11_code 163 = .ok (.aload_n 0, 1) := by decide +kernel
theorem d_mdl_push_164 : decode prog_9_method_11_code 164 = .ok (.iload_n 1, 1) := by decide +kernel
theorem d_mdl_push_165 : decode prog_9_method_11_code 165 = .ok (.putfield 109, 3) := by decide +kernel
theorem d_mdl_push_168 : decode prog_9_method_11_code 168 = .ok (.aload_n 0, 1) := by decide +kernel
theorem d_mdl_push_169 : decode prog_9_method_11_code 169 = .ok (.invokevirtual 112, 3) := by decide +kernel
theorem d_mdl_push_172 : decode prog_9_method_11_code 172 = .ok (.ifCond .eq 10, 3) := by decide +kernel
theorem d_mdl_push_175 : decode prog_9_method_11_code 175 = .ok (.iload 6, 2) := by decide +kernel
theorem d_mdl_push_177 : decode prog_9_method_11_code 177 = .ok (.iconst 1, 1) := by decide +kernel
theorem d_mdl_push_178 : decode prog_9_method_11_code 178 = .ok (.iadd, 1) := by decide +kernel
theorem d_mdl_push_179 : decode prog_9_method_11_code 179 = .ok (.goto 5, 3) := by decide +kernel
theorem d_mdl_push_182 : decode prog_9_method_11_code 182 = .ok (.iload 6, 2) := by decide +kernel
theorem d_mdl_push_184 : decode prog_9_method_11_code 184 = .ok (.istore 6, 2) := by decide +kernel
theorem d_mdl_push_186 : decode prog_9_method_11_code 186 = .ok (.aload_n 0, 1) := by decide +kernel
theorem d_mdl_push_187 : decode prog_9_method_11_code 187 = .ok (.getfield 37, 3) := by decide +kernel
theorem d_mdl_push_190 : decode prog_9_method_11_code 190 = .ok (.iload_n 1, 1) := by decide +kernel
theorem d_mdl_push_191 : decode prog_9_method_11_code 191 = .ok (.iconst 0, 1) := by decide +kernel
theorem d_mdl_push_192 : decode prog_9_method_11_code 192 = .ok (.iastore, 1) := by decide +kernel
theorem d_mdl_push_193 : decode prog_9_method_11_code 193 = .ok (.iinc 7 1, 3) := by decide +kernel
theorem d_mdl_push_196 : decode prog_9_method_11_code 196 = .ok (.goto (-68), 3) := by decide +kernel
theorem d_mdl_push_199 : decode prog_9_method_11_code 199 = .ok (.iload 6, 2) := by decide +kernel
theorem d_mdl_push_201 : decode prog_9_method_11_code 201 = .ok (.ireturn, 1) := by decide +kernel
theorem d_mdl_open_0 : decode prog_9_method_13_code 0 = .ok (.aload_n 0, 1) := by decide +kernel
theorem d_mdl_open_1 : decode prog_9_method_13_code 1 = .ok (.iload_n 1, 1) := by decide +kernel
theorem d_mdl_open_2 : decode prog_9_method_13_code 2 = .ok (.ifCond .lt 12, 3) := by decide +kernel
theorem d_mdl_open_5 : decode prog_9_method_13_code 5 = .ok (.iload_n 1, 1) := by decide +kernel
theorem d_mdl_open_6 : decode prog_9_method_13_code 6 = .ok (.iconst 4, 1) := by decide +kernel
theorem d_mdl_open_7 : decode prog_9_method_13_code 7 = .ok (.if_icmp .ge 7, 3) := by decide +kernel
theorem d_mdl_open_10 : decode prog_9_method_13_code 10 = .ok (.iconst 0, 1) := by decide +kernel
theorem d_mdl_open_11 : decode prog_9_method_13_code 11 = .ok (.goto 4, 3) := by decide +kernel
theorem d_mdl_open_14 : decode prog_9_method_13_code 14 = .ok (.iconst 1, 1) := by decide +kernel
theorem d_mdl_open_15 : decode prog_9_method_13_code 15 = .ok (.putfield 74, 3) := by decide +kernel
theorem d_mdl_open_18 : decode prog_9_method_13_code 18 = .ok (.aload_n 0, 1) := by decide +kernel
theorem d_mdl_open_19 : decode prog_9_method_13_code 19 = .ok (.getfield 74, 3) := by decide +kernel
theorem d_mdl_open_22 : decode prog_9_method_13_code 22 = .ok (.ifCond .le 5, 3) := by decide +kernel
theorem d_mdl_open_25 : decode prog_9_method_13_code 25 = .ok (.iconst 0, 1) := by decide +kernel
theorem d_mdl_open_26 : decode prog_9_method_13_code 26 = .ok (.ireturn, 1) := by decide +kernel
theorem d_mdl_open_27 : decode prog_9_method_13_code 27 = .ok (.aload_n 0, 1) := by decide +kernel
theorem d_mdl_open_28 : decode prog_9_method_13_code 28 = .ok (.getfield 56, 3) := by decide +kernel
theorem d_mdl_open_31 : decode prog_9_method_13_code 31 = .ok (.iload_n 1, 1) := by decide +kernel
theorem d_mdl_open_32 : decode prog_9_method_13_code 32 = .ok (.baload, 1) := by decide +kernel
theorem d_mdl_open_33 : decode prog_9_method_13_code 33 = .ok (.istore_n 2, 1) := by decide +kernel
theorem d_mdl_open_34 : decode prog_9_method_13_code 34 = .ok (.aload_n 0, 1) := by decide +kernel
theorem d_mdl_open_35 : decode prog_9_method_13_code 35 = .ok (.getfield 56, 3) := by decide +kernel
theorem d_mdl_open_38 : decode prog_9_method_13_code 38 = .ok (.iload_n 1, 1) := by decide +kernel
theorem d_mdl_open_39 : decode prog_9_method_13_code 39 = .ok (.iconst 0, 1) := by decide +kernel
theorem d_mdl_open_40 : decode prog_9_method_13_code 40 = .ok (.bastore, 1) := by decide +kernel
theorem d_mdl_open_41 : decode prog_9_method_13_code 41 = .ok (.aload_n 0, 1) := by decide +kernel
theorem d_mdl_open_42 : decode prog_9_method_13_code 42 = .ok (.getfield 53, 3) := by decide +kernel
theorem d_mdl_open_45 : decode prog_9_method_13_code 45 = .ok (.iload_n 1, 1) := by decide +kernel
theorem d_mdl_open_46 : decode prog_9_method_13_code 46 = .ok (.iconst 0, 1) := by decide +kernel
theorem d_mdl_open_47 : decode prog_9_method_13_code 47 = .ok (.bastore, 1) := by decide +kernel
theorem d_mdl_open_48 : decode prog_9_method_13_code 48 = .ok (.aload_n 0, 1) := by decide +kernel
theorem d_mdl_open_49 : decode prog_9_method_13_code 49 = .ok (.getfield 40, 3) := by decide +kernel
theorem d_mdl_open_52 : decode prog_9_method_13_code 52 = .ok (.iload_n 1, 1) := by decide +kernel
theorem d_mdl_open_53 : decode prog_9_method_13_code 53 = .ok (.iconst 0, 1) := by decide +kernel
theorem d_mdl_open_54 : decode prog_9_method_13_code 54 = .ok (.iastore, 1) := by decide +kernel
theorem d_mdl_open_55 : decode prog_9_method_13_code 55 = .ok (.aload_n 0, 1) := by decide +kernel
theorem d_mdl_open_56 : decode prog_9_method_13_code 56 = .ok (.getfield 37, 3) := by decide +kernel
theorem d_mdl_open_59 : decode prog_9_method_13_code 59 = .ok (.iload_n 1, 1) := by decide +kernel
theorem d_mdl_open_60 : decode prog_9_method_13_code 60 = .ok (.iconst 0, 1) := by decide +kernel
theorem d_mdl_open_61 : decode prog_9_method_13_code 61 = .ok (.iastore, 1) := by decide +kernel
theorem d_mdl_open_62 : decode prog_9_method_13_code 62 = .ok (.iload_n 2, 1) := by decide +kernel
theorem d_mdl_open_63 : decode prog_9_method_13_code 63 = .ok (.ireturn, 1) := by decide +kernel
theorem d_mdl_feed_0 : decode prog_9_method_34_code 0 = .ok (.aload_n 0, 1) := by decide +kernel
theorem d_mdl_feed_1 : decode prog_9_method_34_code 1 = .ok (.aload_n 0, 1) := by decide +kernel
theorem d_mdl_feed_2 : decode prog_9_method_34_code 2 = .ok (.getfield 93, 3) := by decide +kernel
theorem d_mdl_feed_5 : decode prog_9_method_34_code 5 = .ok (.bipush 20, 2) := by decide +kernel
theorem d_mdl_feed_7 : decode prog_9_method_34_code 7 = .ok (.iadd, 1) := by decide +kernel
theorem d_mdl_feed_8 : decode prog_9_method_34_code 8 = .ok (.sipush 1600, 3) := by decide +kernel
theorem d_mdl_feed_11 : decode prog_9_method_34_code 11 = .ok (.if_icmp .le 7, 3) := by decide +kernel
theorem d_mdl_feed_14 : decode prog_9_method_34_code 14 = .ok (.iconst 1, 1) := by decide +kernel
theorem d_mdl_feed_15 : decode prog_9_method_34_code 15 = .ok (.goto 4, 3) := by decide +kernel
theorem d_mdl_feed_18 : decode prog_9_method_34_code 18 = .ok (.iconst 0, 1) := by decide +kernel
theorem d_mdl_feed_19 : decode prog_9_method_34_code 19 = .ok (.putfield 74, 3) := by decide +kernel
theorem d_mdl_feed_22 : decode prog_9_method_34_code 22 = .ok (.aload_n 0, 1) := by decide +kernel
theorem d_mdl_feed_23 : decode prog_9_method_34_code 23 = .ok (.getfield 74, 3) := by decide +kernel
theorem d_mdl_feed_26 : decode prog_9_method_34_code 26 = .ok (.ifCond .le 5, 3) := by decide +kernel
theorem d_mdl_feed_29 : decode prog_9_method_34_code 29 = .ok (.iconst 0, 1) := by decide +kernel
theorem d_mdl_feed_30 : decode prog_9_method_34_code 30 = .ok (.ireturn, 1) := by decide +kernel
theorem d_mdl_feed_31 : decode prog_9_method_34_code 31 = .ok (.iconst 0, 1) := by decide +kernel
theorem d_mdl_feed_32 : decode prog_9_method_34_code 32 = .ok (.istore 6, 2) := by decide +kernel
theorem d_mdl_feed_34 : decode prog_9_method_34_code 34 = .ok (.iload 6, 2) := by decide +kernel
theorem d_mdl_feed_36 : decode prog_9_method_34_code 36 = .ok (.bipush 20, 2) := by decide +kernel
theorem d_mdl_feed_38 : decode prog_9_method_34_code 38 = .ok (.if_icmp .ge 86, 3) := by decide +kernel
theorem d_mdl_feed_41 : decode prog_9_method_34_code 41 = .ok (.iload 6, 2) := by decide +kernel
theorem d_mdl_feed_43 : decode prog_9_method_34_code 43 = .ok (.iconst 4, 1) := by decide +kernel
theorem d_mdl_feed_44 : decode prog_9_method_34_code 44 = .ok (.if_icmp .ge 7, 3) := by decide +kernel
theorem d_mdl_feed_47 : decode prog_9_method_34_code 47 = .ok (.iload_n 1, 1) := by decide +kernel
theorem d_mdl_feed_48 : decode prog_9_method_34_code 48 = .ok (.goto 39, 3) := by decide +kernel
theorem d_mdl_feed_51 : decode prog_9_method_34_code 51 = .ok (.iload 6, 2) := by decide +kernel
theorem d_mdl_feed_53 : decode prog_9_method_34_code 53 = .ok (.bipush 8, 2) := by decide +kernel
theorem d_mdl_feed_55 : decode prog_9_method_34_code 55 = .ok (.if_icmp .ge 7, 3) := by decide +kernel
theorem d_mdl_feed_58 : decode prog_9_method_34_code 58 = .ok (.iload_n 2, 1) := by decide +kernel
theorem d_mdl_feed_59 : decode prog_9_method_34_code 59 = .ok (.goto 28, 3) := by decide +kernel
theorem d_mdl_feed_62 : decode prog_9_method_34_code 62 = .ok (.iload 6, 2) := by decide +kernel
theorem d_mdl_feed_64 : decode prog_9_method_34_code 64 = .ok (.bipush 12, 2) := by decide +kernel
theorem d_mdl_feed_66 : decode prog_9_method_34_code 66 = .ok (.if_icmp .ge 7, 3) := by decide +kernel
theorem d_mdl_feed_69 : decode prog_9_method_34_code 69 = .ok (.iload_n 3, 1) := by decide +kernel
theorem d_mdl_feed_70 : decode prog_9_method_34_code 70 = .ok (.goto 17, 3) := by decide +kernel
theorem d_mdl_feed_73 : decode prog_9_method_34_code 73 = .ok (.iload 6, 2) := by decide +kernel
theorem d_mdl_feed_75 : decode prog_9_method_34_code 75 = .ok (.bipush 16, 2) := by decide +kernel
theorem d_mdl_feed_77 : decode prog_9_method_34_code 77 = .ok (.if_icmp .ge 8, 3) := by decide +kernel
theorem d_mdl_feed_80 : decode prog_9_method_34_code 80 = .ok (.iload 4, 2) := by decide +kernel
theorem d_mdl_feed_82 : decode prog_9_method_34_code 82 = .ok (.goto 5, 3) := by decide +kernel
theorem d_mdl_feed_85 : decode prog_9_method_34_code 85 = .ok (.iload 5, 2) := by decide +kernel
theorem d_mdl_feed_87 : decode prog_9_method_34_code 87 = .ok (.istore 7, 2) := by decide +kernel
theorem d_mdl_feed_89 : decode prog_9_method_34_code 89 = .ok (.aload_n 0, 1) := by decide +kernel
theorem d_mdl_feed_90 : decode prog_9_method_34_code 90 = .ok (.getfield 7, 3) := by decide +kernel
theorem d_mdl_feed_93 : decode prog_9_method_34_code 93 = .ok (.aload_n 0, 1) := by decide +kernel
theorem d_mdl_feed_94 : decode prog_9_method_34_code 94 = .ok (.getfield 93, 3) := by decide +kernel
theorem d_mdl_feed_97 : decode prog_9_method_34_code 97 = .ok (.iload 6, 2) := by decide +kernel
theorem d_mdl_feed_99 : decode prog_9_method_34_code 99 = .ok (.iadd, 1) := by decide +kernel
theorem d_mdl_feed_100 : decode prog_9_method_34_code 100 = .ok (.iload 7, 2) := by decide +kernel
theorem d_mdl_feed_102 : decode prog_9_method_34_code 102 = .ok (.bipush 24, 2) := by decide +kernel
theorem d_mdl_feed_104 : decode prog_9_method_34_code 104 = .ok (.bipush 8, 2) := by decide +kernel
theorem d_mdl_feed_106 : decode prog_9_method_34_code 106 = .ok (.iload 6, 2) := by decide +kernel
theorem d_mdl_feed_108 : decode prog_9_method_34_code 108 = .ok (.iconst 4, 1) := by decide +kernel
theorem d_mdl_feed_109 : decode prog_9_method_34_code 109 = .ok (.irem, 1) := by decide +kernel
theorem d_mdl_feed_110 : decode prog_9_method_34_code 110 = .ok (.imul, 1) := by decide +kernel
theorem d_mdl_feed_111 : decode prog_9_method_34_code 111 = .ok (.isub, 1) := by decide +kernel
theorem d_mdl_feed_112 : decode prog_9_method_34_code 112 = .ok (.ishr, 1) := by decide +kernel
theorem d_mdl_feed_113 : decode prog_9_method_34_code 113 = .ok (.sipush 255, 3) := by decide +kernel
theorem d_mdl_feed_116 : decode prog_9_method_34_code 116 = .ok (.iand, 1) := by decide +kernel
theorem d_mdl_feed_117 : decode prog_9_method_34_code 117 = .ok (.iastore, 1) := by decide +kernel
theorem d_mdl_feed_118 : decode prog_9_method_34_code 118 = .ok (.iinc 6 1, 3) := by decide +kernel
theorem d_mdl_feed_121 : decode prog_9_method_34_code 121 = .ok (.goto (-87), 3) := by decide +kernel
theorem d_mdl_feed_124 : decode prog_9_method_34_code 124 = .ok (.aload_n 0, 1) := by decide +kernel
theorem d_mdl_feed_125 : decode prog_9_method_34_code 125 = .ok (.aload_n 0, 1) := by decide +kernel
theorem d_mdl_feed_126 : decode prog_9_method_34_code 126 = .ok (.getfield 93, 3) := by decide +kernel
theorem d_mdl_feed_129 : decode prog_9_method_34_code 129 = .ok (.bipush 20, 2) := by decide +kernel
theorem d_mdl_feed_131 : decode prog_9_method_34_code 131 = .ok (.iadd, 1) := by decide +kernel
theorem d_mdl_feed_132 : decode prog_9_method_34_code 132 = .ok (.putfield 93, 3) := by decide +kernel
theorem d_mdl_feed_135 : decode prog_9_method_34_code 135 = .ok (.aload_n 0, 1) := by decide +kernel
theorem d_mdl_feed_136 : decode prog_9_method_34_code 136 = .ok (.getfield 93, 3) := by decide +kernel
theorem d_mdl_feed_139 : decode prog_9_method_34_code 139 = .ok (.ireturn, 1) := by decide +kernel
theorem d_mdl_end_0 : decode prog_9_method_35_code 0 = .ok (.aload_n 0, 1) := by decide +kernel
theorem d_mdl_end_1 : decode prog_9_method_35_code 1 = .ok (.iload_n 1, 1) := by decide +kernel
theorem d_mdl_end_2 : decode prog_9_method_35_code 2 = .ok (.ifCond .lt 15, 3) := by decide +kernel
theorem d_mdl_end_5 : decode prog_9_method_35_code 5 = .ok (.iload_n 1, 1) := by decide +kernel
theorem d_mdl_end_6 : decode prog_9_method_35_code 6 = .ok (.aload_n 0, 1) := by decide +kernel
theorem d_mdl_end_7 : decode prog_9_method_35_code 7 = .ok (.getfield 93, 3) := by decide +kernel
theorem d_mdl_end_10 : decode prog_9_method_35_code 10 = .ok (.if_icmp .gt 7, 3) := by decide +kernel
theorem d_mdl_end_13 : decode prog_9_method_35_code 13 = .ok (.iconst 0, 1) := by decide +kernel
theorem d_mdl_end_14 : decode prog_9_method_35_code 14 = .ok (.goto 4, 3) := by decide +kernel
theorem d_mdl_end_17 : decode prog_9_method_35_code 17 = .ok (.iconst 1, 1) := by decide +kernel
theorem d_mdl_end_18 : decode prog_9_method_35_code 18 = .ok (.putfield 74, 3) := by decide +kernel
theorem d_mdl_end_21 : decode prog_9_method_35_code 21 = .ok (.aload_n 0, 1) := by decide +kernel
theorem d_mdl_end_22 : decode prog_9_method_35_code 22 = .ok (.aload_n 0, 1) := by decide +kernel
theorem d_mdl_end_23 : decode prog_9_method_35_code 23 = .ok (.getfield 74, 3) := by decide +kernel
theorem d_mdl_end_26 : decode prog_9_method_35_code 26 = .ok (.ifCond .le 10, 3) := by decide +kernel
theorem d_mdl_end_29 : decode prog_9_method_35_code 29 = .ok (.aload_n 0, 1) := by decide +kernel
theorem d_mdl_end_30 : decode prog_9_method_35_code 30 = .ok (.getfield 93, 3) := by decide +kernel
theorem d_mdl_end_33 : decode prog_9_method_35_code 33 = .ok (.goto 4, 3) := by decide +kernel
theorem d_mdl_end_36 : decode prog_9_method_35_code 36 = .ok (.iload_n 1, 1) := by decide +kernel
theorem d_mdl_end_37 : decode prog_9_method_35_code 37 = .ok (.putfield 93, 3) := by decide +kernel
theorem d_mdl_end_40 : decode prog_9_method_35_code 40 = .ok (.return_, 1) := by decide +kernel
theorem d_mdl_length_0 : decode prog_9_method_36_code 0 = .ok (.aload_n 0, 1) := by decide +kernel
theorem d_mdl_length_1 : decode prog_9_method_36_code 1 = .ok (.aload_n 0, 1) := by decide +kernel
theorem d_mdl_length_2 : decode prog_9_method_36_code 2 = .ok (.iload_n 1, 1) := by decide +kernel
theorem d_mdl_length_3 : decode prog_9_method_36_code 3 = .ok (.invokevirtual 101, 3) := by decide +kernel
theorem d_mdl_length_6 : decode prog_9_method_36_code 6 = .ok (.ifCond .eq 7, 3) := by decide +kernel
theorem d_mdl_length_9 : decode prog_9_method_36_code 9 = .ok (.iconst 0, 1) := by decide +kernel
theorem d_mdl_length_10 : decode prog_9_method_36_code 10 = .ok (.goto 4, 3) := by decide +kernel
theorem d_mdl_length_13 : decode prog_9_method_36_code 13 = .ok (.iconst 1, 1) := by decide +kernel
theorem d_mdl_length_14 : decode prog_9_method_36_code 14 = .ok (.putfield 74, 3) := by decide +kernel
theorem d_mdl_length_17 : decode prog_9_method_36_code 17 = .ok (.aload_n 0, 1) := by decide +kernel
theorem d_mdl_length_18 : decode prog_9_method_36_code 18 = .ok (.getfield 74, 3) := by decide +kernel
theorem d_mdl_length_21 : decode prog_9_method_36_code 21 = .ok (.ifCond .le 7, 3) := by decide +kernel
theorem d_mdl_length_24 : decode prog_9_method_36_code 24 = .ok (.iconst 0, 1) := by decide +kernel
theorem d_mdl_length_25 : decode prog_9_method_36_code 25 = .ok (.goto 12, 3) := by decide +kernel
theorem d_mdl_length_28 : decode prog_9_method_36_code 28 = .ok (.aload_n 0, 1) := by decide +kernel
theorem d_mdl_length_29 : decode prog_9_method_36_code 29 = .ok (.getfield 18, 3) := by decide +kernel
theorem d_mdl_length_32 : decode prog_9_method_36_code 32 = .ok (.iload_n 1, 1) := by decide +kernel
theorem d_mdl_length_33 : decode prog_9_method_36_code 33 = .ok (.bipush 64, 2) := by decide +kernel
theorem d_mdl_length_35 : decode prog_9_method_36_code 35 = .ok (.irem, 1) := by decide +kernel
theorem d_mdl_length_36 : decode prog_9_method_36_code 36 = .ok (.iaload, 1) := by decide +kernel
theorem d_mdl_length_37 : decode prog_9_method_36_code 37 = .ok (.ireturn, 1) := by decide +kernel
def b_mdl_keep_58 (k16 : rc_M → Nat → Int32 → Int32 → Int32 → Option (rc_M)) : Nat → rc_M → Nat → Int32 → Int32 → Int32 → Int32 → Option (rc_M)
  | 0, _, _, _, _, _, _ => none
  | fuel + 1, w, a0, x1, x2, x3, x4 =>
    if 400 ≤ x4 then
      k16 w a0 x1 x2 (x3 + 1)
    else
      (rc_gR w (some a0) 7 21).bind fun v2 =>
      (rc_gR w (some a0) 7 21).bind fun v4 =>
      (rc_aI w v4 2 (((400 * x3) + 400) + x4)).bind fun v6 =>
      (rc_sI w v2 2 ((400 * x3) + x4) v6).bind fun w8 =>
      b_mdl_keep_58 k16 fuel w8 a0 x1 x2 x3 (x4 + 1)

def b_mdl_keep_158 : Nat → rc_M → Nat → Int32 → Int32 → Option (rc_M)
  | 0, _, _, _, _ => none
  | fuel + 1, w, a0, x3, x4 =>
    (rc_gI w (some a0) 7 32).bind fun v1 =>
    if v1 ≤ x4 then
      (rc_rc w (some a0) 7).bind fun a4 =>
      (f_mdl_send w a4 x3).bind fun w6 =>
      some w6
    else
      (rc_gR w (some a0) 7 21).bind fun v8 =>
      (rc_gR w (some a0) 7 31).bind fun v10 =>
      (rc_aI w v10 2 x4).bind fun v12 =>
      (rc_sI w v8 2 ((400 * x3) + x4) v12).bind fun w14 =>
      b_mdl_keep_158 fuel w14 a0 x3 (x4 + 1)

def b_mdl_keep_116 (w : rc_M) (a0 : Nat) (x1 : Int32) (x2 : Int32) : Option (rc_M) :=
  (rc_gR w (some a0) 7 22).bind fun v1 =>
  (rc_aI w v1 0 x1).bind fun v3 =>
  (rc_gR w (some a0) 7 22).bind fun v5 =>
  (rc_aI w v5 0 x1).bind fun v7 =>
  (rc_sI w v5 0 x1 (v7 + 1)).bind fun w9 =>
  (rc_gR w9 (some a0) 7 19).bind fun v11 =>
  (rc_sI w9 v11 0 ((8 * x1) + v3) x2).bind fun w13 =>
  (rc_gR w13 (some a0) 7 20).bind fun v15 =>
  (rc_gI w13 (some a0) 7 32).bind fun v17 =>
  (rc_sI w13 v15 0 ((8 * x1) + v3) v17).bind fun w19 =>
  b_mdl_keep_158 5000 w19 a0 ((8 * x1) + v3) 0

def b_mdl_keep_16 : Nat → rc_M → Nat → Int32 → Int32 → Int32 → Option (rc_M)
  | 0, _, _, _, _, _ => none
  | fuel + 1, w, a0, x1, x2, x3 =>
    if ((8 * x1) + 7) ≤ x3 then
      (rc_gR w (some a0) 7 22).bind fun v2 =>
      (rc_sI w v2 0 x1 7).bind fun w4 =>
      b_mdl_keep_116 w4 a0 x1 x2
    else
      (rc_gR w (some a0) 7 19).bind fun v6 =>
      (rc_gR w (some a0) 7 19).bind fun v8 =>
      (rc_aI w v8 0 (x3 + 1)).bind fun v10 =>
      (rc_sI w v6 0 x3 v10).bind fun w12 =>
      (rc_gR w12 (some a0) 7 20).bind fun v14 =>
      (rc_gR w12 (some a0) 7 20).bind fun v16 =>
      (rc_aI w12 v16 0 (x3 + 1)).bind fun v18 =>
      (rc_sI w12 v14 0 x3 v18).bind fun w20 =>
      b_mdl_keep_58 (b_mdl_keep_16 fuel) 5000 w20 a0 x1 x2 x3 0

def f_mdl_keep (w : rc_M) (a0 : Nat) (x1 : Int32) (x2 : Int32) : Option (rc_M) :=
  (rc_gR w (some a0) 7 22).bind fun v1 =>
  (rc_aI w v1 0 x1).bind fun v3 =>
  if v3 = 8 then
    b_mdl_keep_16 5000 w a0 x1 x2 (8 * x1)
  else
    b_mdl_keep_116 w a0 x1 x2

def b_mdl_serve_24 (w : rc_M) (a0 : Nat) : Option (Int32 × rc_M) :=
  (rc_gI w (some a0) 7 25).bind fun v1 =>
  (rc_pI w (some a0) 7 25 (v1 + 1)).bind fun w3 =>
  rc_z1 0 w3

def b_mdl_serve_44 : Nat → rc_M → Nat → Int32 → Int32 → Int32 → Option (Int32 × rc_M)
  | 0, _, _, _, _, _ => none
  | fuel + 1, w, a0, x1, x2, x3 =>
    (rc_gR w (some a0) 7 22).bind fun v1 =>
    (rc_aI w v1 0 x1).bind fun v3 =>
    if v3 ≤ x3 then
      (rc_pI w (some a0) 7 32 0).bind fun w6 =>
      (rc_rc w6 (some a0) 7).bind fun a8 =>
      (f_mdl_judge w6 a8 x2).bind fun p10 =>
      if p10.1 = 0 then
        (rc_gI p10.2 (some a0) 7 25).bind fun v17 =>
        (rc_pI p10.2 (some a0) 7 25 (v17 + 1)).bind fun w19 =>
        rc_z1 0 w19
      else
        (rc_rc p10.2 (some a0) 7).bind fun a13 =>
        (f_mdl_keep p10.2 a13 x1 x2).bind fun w15 =>
        rc_z1 1 w15
    else
      (rc_gR w (some a0) 7 19).bind fun v21 =>
      (rc_aI w v21 0 ((8 * x1) + x3)).bind fun v23 =>
      if v23 = x2 then
        (rc_gI w (some a0) 7 24).bind fun v26 =>
        (rc_pI w (some a0) 7 24 (v26 + 1)).bind fun w28 =>
        (rc_rc w28 (some a0) 7).bind fun a30 =>
        (f_mdl_send w28 a30 ((8 * x1) + x3)).bind fun w32 =>
        rc_z1 1 w32
      else
        b_mdl_serve_44 fuel w a0 x1 x2 (x3 + 1)

def f_mdl_serve (w : rc_M) (a0 : Nat) : Option (Int32 × rc_M) :=
  (rc_gI w (some a0) 7 26).bind fun v1 =>
  (rc_gR w (some a0) 7 12).bind fun v3 =>
  (rc_aI w v3 0 v1).bind fun v5 =>
  if v5 < 8 then
    b_mdl_serve_24 w a0
  else
    (rc_rc w (some a0) 7).bind fun a8 =>
    (f_mdl_recordWord w a8 4).bind fun p10 =>
    if p10.1 = 0 then
      (rc_rc p10.2 (some a0) 7).bind fun a13 =>
      (f_mdl_recordWord p10.2 a13 0).bind fun p15 =>
      b_mdl_serve_44 5000 p15.2 a0 v1 p15.1 0
    else
      b_mdl_serve_24 p10.2 a0

def b_mdl_push_193 (k128 : rc_M → Nat → Int32 → Int32 → Int32 → Int32 → Option (Int32 × rc_M)) (w : rc_M) (a0 : Nat) (x1 : Int32) (x4 : Int32) (x6 : Int32) (x7 : Int32) : Option (Int32 × rc_M) :=
  k128 w a0 x1 x4 x6 (x7 + 1)

def b_mdl_push_184 (k128 : rc_M → Nat → Int32 → Int32 → Int32 → Int32 → Option (Int32 × rc_M)) (w : rc_M) (a0 : Nat) (x1 : Int32) (x4 : Int32) (x7 : Int32) (s0 : Int32) : Option (Int32 × rc_M) :=
  (rc_gR w (some a0) 7 12).bind fun v1 =>
  (rc_sI w v1 0 x1 0).bind fun w3 =>
  b_mdl_push_193 k128 w3 a0 x1 x4 s0 x7

def b_mdl_push_128 : Nat → rc_M → Nat → Int32 → Int32 → Int32 → Int32 → Option (Int32 × rc_M)
  | 0, _, _, _, _, _, _ => none
  | fuel + 1, w, a0, x1, x4, x6, x7 =>
    if x4 ≤ x7 then
      some (x6, w)
    else
      (rc_gR w (some a0) 7 18).bind fun v2 =>
      (rc_aI w v2 3 x1).bind fun v4 =>
      if v4 = 0 then
        (rc_gR w (some a0) 7 6).bind fun v7 =>
        (rc_aI w v7 2 x7).bind fun v9 =>
        (rc_rc w (some a0) 7).bind fun a11 =>
        (f_mdl_take w a11 x1 (v9 &&& 255)).bind fun p13 =>
        if p13.1 = 0 then
          b_mdl_push_193 (b_mdl_push_128 fuel) p13.2 a0 x1 x4 x6 x7
        else
          (rc_pI p13.2 (some a0) 7 26 x1).bind fun w16 =>
          (rc_rc w16 (some a0) 7).bind fun a18 =>
          (f_mdl_serve w16 a18).bind fun p20 =>
          if p20.1 = 0 then
            b_mdl_push_184 (b_mdl_push_128 fuel) p20.2 a0 x1 x4 x7 x6
          else
            b_mdl_push_184 (b_mdl_push_128 fuel) p20.2 a0 x1 x4 x7 (x6 + 1)
      else
        b_mdl_push_193 (b_mdl_push_128 fuel) w a0 x1 x4 x6 x7

def b_mdl_push_88 : Nat → rc_M → Nat → Int32 → Int32 → Int32 → Int32 → Int32 → Option (Int32 × rc_M)
  | 0, _, _, _, _, _, _, _ => none
  | fuel + 1, w, a0, x1, x2, x3, x4, x6 =>
    if x4 ≤ x6 then
      b_mdl_push_128 5000 w a0 x1 x4 0 0
    else
      (rc_gR w (some a0) 7 6).bind fun v2 =>
      (rc_gR w (some a0) 7 3).bind fun v4 =>
      (f_mdl_base w x2).bind fun p6 =>
      (rc_aI p6.2 v4 2 ((p6.1 + x3) + x6)).bind fun v8 =>
      (rc_sI p6.2 v2 2 x6 v8).bind fun w10 =>
      b_mdl_push_88 fuel w10 a0 x1 x2 x3 x4 (x6 + 1)

def b_mdl_push_73 (w : rc_M) (a0 : Nat) (x1 : Int32) (x2 : Int32) (x3 : Int32) (x4 : Int32) (s0 : Option Nat) (s1 : Int32) : Option (Int32 × rc_M) :=
  (rc_pI w s0 7 0 s1).bind fun w1 =>
  (rc_gI w1 (some a0) 7 0).bind fun v3 =>
  if v3 ≤ 0 then
    b_mdl_push_88 5000 w1 a0 x1 x2 x3 x4 0
  else
    some (0, w1)

def b_mdl_push_60 (w : rc_M) (a0 : Nat) (x1 : Int32) (x2 : Int32) (x3 : Int32) (x4 : Int32) (s0 : Int32) : Option (Int32 × rc_M) :=
  if s0 = 0 then
    b_mdl_push_73 w a0 x1 x2 x3 x4 (some a0) 1
  else
    b_mdl_push_73 w a0 x1 x2 x3 x4 (some a0) 0

def b_mdl_push_59 (w : rc_M) (a0 : Nat) (x1 : Int32) (x2 : Int32) (x3 : Int32) (x4 : Int32) : Option (Int32 × rc_M) :=
  b_mdl_push_60 w a0 x1 x2 x3 x4 0

def f_mdl_push (w : rc_M) (a0 : Nat) (x1 : Int32) (x2 : Int32) (x3 : Int32) (x4 : Int32) : Option (Int32 × rc_M) :=
  if x1 < 0 then
    b_mdl_push_59 w a0 x1 x2 x3 x4
  else
    if 4 ≤ x1 then
      b_mdl_push_59 w a0 x1 x2 x3 x4
    else
      (rc_rc w (some a0) 7).bind fun a3 =>
      (f_mdl_isSlot w a3 x2).bind fun p5 =>
      if p5.1 = 0 then
        b_mdl_push_59 p5.2 a0 x1 x2 x3 x4
      else
        if x4 < 0 then
          b_mdl_push_59 p5.2 a0 x1 x2 x3 x4
        else
          if x3 < 0 then
            b_mdl_push_59 p5.2 a0 x1 x2 x3 x4
          else
            (rc_gR p5.2 (some a0) 7 4).bind fun v10 =>
            (rc_aI p5.2 v10 0 (x2 - x2 / 64 * 64)).bind fun v13 =>
            if v13 < x3 then
              b_mdl_push_59 p5.2 a0 x1 x2 x3 x4
            else
              (rc_gR p5.2 (some a0) 7 4).bind fun v16 =>
              (rc_aI p5.2 v16 0 (x2 - x2 / 64 * 64)).bind fun v19 =>
              if (v19 - x3) < x4 then
                b_mdl_push_59 p5.2 a0 x1 x2 x3 x4
              else
                b_mdl_push_60 p5.2 a0 x1 x2 x3 x4 1

def b_mdl_open_15 (w : rc_M) (a0 : Nat) (x1 : Int32) (s0 : Option Nat) (s1 : Int32) : Option (Int32 × rc_M) :=
  (rc_pI w s0 7 0 s1).bind fun w1 =>
  (rc_gI w1 (some a0) 7 0).bind fun v3 =>
  if v3 ≤ 0 then
    (rc_gR w1 (some a0) 7 18).bind fun v6 =>
    (rc_aI w1 v6 3 x1).bind fun v8 =>
    (rc_gR w1 (some a0) 7 18).bind fun v10 =>
    (rc_sI w1 v10 3 x1 0).bind fun w12 =>
    (rc_gR w12 (some a0) 7 17).bind fun v14 =>
    (rc_sI w12 v14 3 x1 0).bind fun w16 =>
    (rc_gR w16 (some a0) 7 13).bind fun v18 =>
    (rc_sI w16 v18 0 x1 0).bind fun w20 =>
    (rc_gR w20 (some a0) 7 12).bind fun v22 =>
    (rc_sI w20 v22 0 x1 0).bind fun w24 =>
    rc_z1 v8 w24
  else
    rc_z1 0 w1

def b_mdl_open_14 (w : rc_M) (a0 : Nat) (x1 : Int32) (s0 : Option Nat) : Option (Int32 × rc_M) :=
  b_mdl_open_15 w a0 x1 s0 1

def f_mdl_open (w : rc_M) (a0 : Nat) (x1 : Int32) : Option (Int32 × rc_M) :=
  if x1 < 0 then
    b_mdl_open_14 w a0 x1 (some a0)
  else
    if 4 ≤ x1 then
      b_mdl_open_14 w a0 x1 (some a0)
    else
      b_mdl_open_15 w a0 x1 (some a0) 0

def b_mdl_feed_87 (k34 : rc_M → Nat → Int32 → Int32 → Int32 → Int32 → Int32 → Int32 → Option (Int32 × rc_M)) (w : rc_M) (a0 : Nat) (x1 : Int32) (x2 : Int32) (x3 : Int32) (x4 : Int32) (x5 : Int32) (x6 : Int32) (s0 : Int32) : Option (Int32 × rc_M) :=
  (rc_gR w (some a0) 7 1).bind fun v1 =>
  (rc_gI w (some a0) 7 2).bind fun v3 =>
  (rc_sI w v1 0 (v3 + x6) ((s0 >>> ((24 - (8 * (x6 - x6 / 4 * 4))) &&& 31)) &&& 255)).bind fun w6 =>
  k34 w6 a0 x1 x2 x3 x4 x5 (x6 + 1)

def b_mdl_feed_34 : Nat → rc_M → Nat → Int32 → Int32 → Int32 → Int32 → Int32 → Int32 → Option (Int32 × rc_M)
  | 0, _, _, _, _, _, _, _, _ => none
  | fuel + 1, w, a0, x1, x2, x3, x4, x5, x6 =>
    if 20 ≤ x6 then
      (rc_gI w (some a0) 7 2).bind fun v2 =>
      (rc_pI w (some a0) 7 2 (v2 + 20)).bind fun w4 =>
      (rc_gI w4 (some a0) 7 2).bind fun v6 =>
      some (v6, w4)
    else
      if 4 ≤ x6 then
        if 8 ≤ x6 then
          if 12 ≤ x6 then
            if 16 ≤ x6 then
              b_mdl_feed_87 (b_mdl_feed_34 fuel) w a0 x1 x2 x3 x4 x5 x6 x5
            else
              b_mdl_feed_87 (b_mdl_feed_34 fuel) w a0 x1 x2 x3 x4 x5 x6 x4
          else
            b_mdl_feed_87 (b_mdl_feed_34 fuel) w a0 x1 x2 x3 x4 x5 x6 x3
        else
          b_mdl_feed_87 (b_mdl_feed_34 fuel) w a0 x1 x2 x3 x4 x5 x6 x2
      else
        b_mdl_feed_87 (b_mdl_feed_34 fuel) w a0 x1 x2 x3 x4 x5 x6 x1

def b_mdl_feed_19 (w : rc_M) (a0 : Nat) (x1 : Int32) (x2 : Int32) (x3 : Int32) (x4 : Int32) (x5 : Int32) (s0 : Option Nat) (s1 : Int32) : Option (Int32 × rc_M) :=
  (rc_pI w s0 7 0 s1).bind fun w1 =>
  (rc_gI w1 (some a0) 7 0).bind fun v3 =>
  if v3 ≤ 0 then
    b_mdl_feed_34 5000 w1 a0 x1 x2 x3 x4 x5 0
  else
    some (0, w1)

def f_mdl_feed (w : rc_M) (a0 : Nat) (x1 : Int32) (x2 : Int32) (x3 : Int32) (x4 : Int32) (x5 : Int32) : Option (Int32 × rc_M) :=
  (rc_gI w (some a0) 7 2).bind fun v1 =>
  if (v1 + 20) ≤ 1600 then
    b_mdl_feed_19 w a0 x1 x2 x3 x4 x5 (some a0) 0
  else
    b_mdl_feed_19 w a0 x1 x2 x3 x4 x5 (some a0) 1

def b_mdl_end_37 (w : rc_M) (s0 : Option Nat) (s1 : Int32) : Option (rc_M) :=
  (rc_pI w s0 7 2 s1).bind fun w1 =>
  some w1

def b_mdl_end_18 (w : rc_M) (a0 : Nat) (x1 : Int32) (s0 : Option Nat) (s1 : Int32) : Option (rc_M) :=
  (rc_pI w s0 7 0 s1).bind fun w1 =>
  (rc_gI w1 (some a0) 7 0).bind fun v3 =>
  if v3 ≤ 0 then
    b_mdl_end_37 w1 (some a0) x1
  else
    (rc_gI w1 (some a0) 7 2).bind fun v6 =>
    b_mdl_end_37 w1 (some a0) v6

def b_mdl_end_17 (w : rc_M) (a0 : Nat) (x1 : Int32) (s0 : Option Nat) : Option (rc_M) :=
  b_mdl_end_18 w a0 x1 s0 1

def f_mdl_end (w : rc_M) (a0 : Nat) (x1 : Int32) : Option (rc_M) :=
  if x1 < 0 then
    b_mdl_end_17 w a0 x1 (some a0)
  else
    (rc_gI w (some a0) 7 2).bind fun v2 =>
    if v2 < x1 then
      b_mdl_end_17 w a0 x1 (some a0)
    else
      b_mdl_end_18 w a0 x1 (some a0) 0

def b_mdl_length_37 (w : rc_M) (s0 : Int32) : Option (Int32 × rc_M) :=
  some (s0, w)

def b_mdl_length_14 (w : rc_M) (a0 : Nat) (x1 : Int32) (s0 : Option Nat) (s1 : Int32) : Option (Int32 × rc_M) :=
  (rc_pI w s0 7 0 s1).bind fun w1 =>
  (rc_gI w1 (some a0) 7 0).bind fun v3 =>
  if v3 ≤ 0 then
    (rc_gR w1 (some a0) 7 4).bind fun v6 =>
    (rc_aI w1 v6 0 (x1 - x1 / 64 * 64)).bind fun v9 =>
    b_mdl_length_37 w1 v9
  else
    b_mdl_length_37 w1 0

def f_mdl_length (w : rc_M) (a0 : Nat) (x1 : Int32) : Option (Int32 × rc_M) :=
  (rc_rc w (some a0) 7).bind fun a1 =>
  (f_mdl_isSlot w a1 x1).bind fun p3 =>
  if p3.1 = 0 then
    b_mdl_length_14 p3.2 a0 x1 (some a0) 1
  else
    b_mdl_length_14 p3.2 a0 x1 (some a0) 0

set_option maxRecDepth 100000 in
set_option maxHeartbeats 4000000 in
theorem k_mdl_keep_58 {X : rc_X} {w0 : rc_M} (hF : (q_R X).frames = 4) (hL : (q_R X).locals = 88) (hN : q_n X = 5) (C : rc_C X "RecordCallsModel" prog_9_method_22_code w0) {res : rc_M} (E : rc_E0 X y_mdl_keep none none res) {k16 : rc_M → Nat → Int32 → Int32 → Int32 → Option (rc_M)} (hk16 : ∀ (w : rc_M) (a0 : Nat) (x1 : Int32) (x2 : Int32) (x3 : Int32), k16 w a0 x1 x2 x3 = some res → rc_J X w 16 [] [(0, va_rf (some a0)), (1, .int x1), (2, .int x2), (3, .int x3)]) : ∀ (fuel : Nat) (w : rc_M) (a0 : Nat) (x1 : Int32) (x2 : Int32) (x3 : Int32) (x4 : Int32), b_mdl_keep_58 k16 fuel w a0 x1 x2 x3 x4 = some res → rc_J X w 58 [] [(0, va_rf (some a0)), (1, .int x1), (2, .int x2), (3, .int x3), (4, .int x4)] := by
  intro fuel
  induction fuel with
  | zero => intro w a0 x1 x2 x3 x4 h; simp [b_mdl_keep_58] at h
  | succ fuel ih =>
    intro w a0 x1 x2 x3 x4 h
    unfold b_mdl_keep_58 at h
    refine j_iload C d_mdl_keep_58 rfl 4 rfl ?_
    refine j_sipush (v := 400) C d_mdl_keep_60 rfl (by decide) ?_
    refine j_icmp_ge (tgt := 102) C d_mdl_keep_63 (by decide) rfl (fun c1 => ?_) (fun c1 => ?_)
    · rw [if_pos c1] at h
      refine j_iinc C d_mdl_keep_102 rfl 3 [(3, .int (x3 + 1)), (0, va_rf (some a0)), (1, .int x1), (2, .int x2), (4, .int x4)] rfl rfl (rc_lt hN (by decide)) (by first | rfl | simp [va_rf_cat, rc_cat_i, rc_cat_l]) ?_
      refine j_goto (tgt := 16) C d_mdl_keep_105 (by decide) ?_
      refine rc_J.sub (lv' := [(0, va_rf (some a0)), (1, .int x1), (2, .int x2), (3, .int (x3 + 1))]) [1, 2, 3, 0] rfl ?_
      exact hk16 _ _ _ _ _ h
    · rw [if_neg c1] at h
      refine j_aload_n C d_mdl_keep_66 rfl 0 rfl ?_
      obtain ⟨v2, h3, h⟩ := Option.bind_eq_some_iff.mp h
      refine j_getR C fl_mdl_65 h3 d_mdl_keep_67 rfl ?_
      refine j_sipush (v := 400) C d_mdl_keep_70 rfl (by decide) ?_
      refine j_iload_n C d_mdl_keep_73 rfl 3 rfl ?_
      refine j_imul C d_mdl_keep_74 rfl ?_
      refine j_iload C d_mdl_keep_75 rfl 4 rfl ?_
      refine j_iadd C d_mdl_keep_77 rfl ?_
      refine j_aload_n C d_mdl_keep_78 rfl 0 rfl ?_
      obtain ⟨v4, h5, h⟩ := Option.bind_eq_some_iff.mp h
      refine j_getR C fl_mdl_65 h5 d_mdl_keep_79 rfl ?_
      refine j_sipush (v := 400) C d_mdl_keep_82 rfl (by decide) ?_
      refine j_iload_n C d_mdl_keep_85 rfl 3 rfl ?_
      refine j_imul C d_mdl_keep_86 rfl ?_
      refine j_sipush (v := 400) C d_mdl_keep_87 rfl (by decide) ?_
      refine j_iadd C d_mdl_keep_90 rfl ?_
      refine j_iload C d_mdl_keep_91 rfl 4 rfl ?_
      refine j_iadd C d_mdl_keep_93 rfl ?_
      obtain ⟨v6, h7, h⟩ := Option.bind_eq_some_iff.mp h
      refine j_bald C h7 d_mdl_keep_94 rfl ?_
      obtain ⟨w8, h9, h⟩ := Option.bind_eq_some_iff.mp h
      refine j_bast C h9 d_mdl_keep_95 rfl ?_
      refine j_iinc C d_mdl_keep_96 rfl 4 [(4, .int (x4 + 1)), (0, va_rf (some a0)), (1, .int x1), (2, .int x2), (3, .int x3)] rfl rfl (rc_lt hN (by decide)) (by first | rfl | simp [va_rf_cat, rc_cat_i, rc_cat_l]) ?_
      refine j_goto (tgt := 58) C d_mdl_keep_99 (by decide) ?_
      refine rc_J.sub (lv' := [(0, va_rf (some a0)), (1, .int x1), (2, .int x2), (3, .int x3), (4, .int (x4 + 1))]) [1, 2, 3, 4, 0] rfl ?_
      exact ih _ _ _ _ _ _ h

set_option maxRecDepth 100000 in
set_option maxHeartbeats 4000000 in
theorem k_mdl_keep_158 {X : rc_X} {w0 : rc_M} (hF : (q_R X).frames = 4) (hL : (q_R X).locals = 88) (hN : q_n X = 5) (C : rc_C X "RecordCallsModel" prog_9_method_22_code w0) {res : rc_M} (E : rc_E0 X y_mdl_keep none none res) : ∀ (fuel : Nat) (w : rc_M) (a0 : Nat) (x3 : Int32) (x4 : Int32), b_mdl_keep_158 fuel w a0 x3 x4 = some res → rc_J X w 158 [] [(0, va_rf (some a0)), (3, .int x3), (4, .int x4)] := by
  intro fuel
  induction fuel with
  | zero => intro w a0 x3 x4 h; simp [b_mdl_keep_158] at h
  | succ fuel ih =>
    intro w a0 x3 x4 h
    unfold b_mdl_keep_158 at h
    refine j_iload C d_mdl_keep_158 rfl 2 rfl ?_
    refine j_aload_n C d_mdl_keep_160 rfl 0 rfl ?_
    obtain ⟨v1, h2, h⟩ := Option.bind_eq_some_iff.mp h
    refine j_getI C fl_mdl_140 h2 d_mdl_keep_161 rfl ?_
    refine j_icmp_ge (tgt := 193) C d_mdl_keep_164 (by decide) rfl (fun c3 => ?_) (fun c3 => ?_)
    · rw [if_pos c3] at h
      refine j_aload_n C d_mdl_keep_193 rfl 0 rfl ?_
      refine j_iload_n C d_mdl_keep_194 rfl 1 rfl ?_
      obtain ⟨a4, h5, h⟩ := Option.bind_eq_some_iff.mp h
      obtain ⟨w6, h7, h⟩ := Option.bind_eq_some_iff.mp h
      refine j_callV C (As := [.int x3]) (st := []) (sk' := []) mk_mdl_send (Or.inl T_876) T_878 S_31 (ci := 7) rfl h5 (rc_le hF (by decide)) (rc_le hL (by decide)) (ct_mdl_send h7) rfl rfl (by decide) d_mdl_keep_195 rfl rfl ?_
      cases h
      exact j_vret C E d_mdl_keep_198
    · rw [if_neg c3] at h
      refine j_aload_n C d_mdl_keep_167 rfl 0 rfl ?_
      obtain ⟨v8, h9, h⟩ := Option.bind_eq_some_iff.mp h
      refine j_getR C fl_mdl_65 h9 d_mdl_keep_168 rfl ?_
      refine j_sipush (v := 400) C d_mdl_keep_171 rfl (by decide) ?_
      refine j_iload_n C d_mdl_keep_174 rfl 1 rfl ?_
      refine j_imul C d_mdl_keep_175 rfl ?_
      refine j_iload C d_mdl_keep_176 rfl 2 rfl ?_
      refine j_iadd C d_mdl_keep_178 rfl ?_
      refine j_aload_n C d_mdl_keep_179 rfl 0 rfl ?_
      obtain ⟨v10, h11, h⟩ := Option.bind_eq_some_iff.mp h
      refine j_getR C fl_mdl_71 h11 d_mdl_keep_180 rfl ?_
      refine j_iload C d_mdl_keep_183 rfl 2 rfl ?_
      obtain ⟨v12, h13, h⟩ := Option.bind_eq_some_iff.mp h
      refine j_bald C h13 d_mdl_keep_185 rfl ?_
      obtain ⟨w14, h15, h⟩ := Option.bind_eq_some_iff.mp h
      refine j_bast C h15 d_mdl_keep_186 rfl ?_
      refine j_iinc C d_mdl_keep_187 rfl 2 [(4, .int (x4 + 1)), (0, va_rf (some a0)), (3, .int x3)] rfl rfl (rc_lt hN (by decide)) (by first | rfl | simp [va_rf_cat, rc_cat_i, rc_cat_l]) ?_
      refine j_goto (tgt := 158) C d_mdl_keep_190 (by decide) ?_
      refine rc_J.sub (lv' := [(0, va_rf (some a0)), (3, .int x3), (4, .int (x4 + 1))]) [1, 2, 0] rfl ?_
      exact ih _ _ _ _ h

set_option maxRecDepth 100000 in
set_option maxHeartbeats 4000000 in
theorem k_mdl_keep_116 {X : rc_X} {w0 : rc_M} (hF : (q_R X).frames = 4) (hL : (q_R X).locals = 88) (hN : q_n X = 5) (C : rc_C X "RecordCallsModel" prog_9_method_22_code w0) {res : rc_M} (E : rc_E0 X y_mdl_keep none none res) {w : rc_M} {a0 : Nat} {x1 : Int32} {x2 : Int32} (h : b_mdl_keep_116 w a0 x1 x2 = some res) : rc_J X w 116 [] [(0, va_rf (some a0)), (1, .int x1), (2, .int x2)] := by
  unfold b_mdl_keep_116 at h
  refine j_bipush (v := 8) C d_mdl_keep_116 rfl (by decide) ?_
  refine j_iload_n C d_mdl_keep_118 rfl 1 rfl ?_
  refine j_imul C d_mdl_keep_119 rfl ?_
  refine j_aload_n C d_mdl_keep_120 rfl 0 rfl ?_
  obtain ⟨v1, h2, h⟩ := Option.bind_eq_some_iff.mp h
  refine j_getR C fl_mdl_68 h2 d_mdl_keep_121 rfl ?_
  refine j_iload_n C d_mdl_keep_124 rfl 1 rfl ?_
  obtain ⟨v3, h4, h⟩ := Option.bind_eq_some_iff.mp h
  refine j_iald C h4 d_mdl_keep_125 rfl ?_
  refine j_iadd C d_mdl_keep_126 rfl ?_
  refine j_istore_n C (i := 3) d_mdl_keep_127 rfl rfl [(3, .int ((8 * x1) + v3)), (0, va_rf (some a0)), (1, .int x1), (2, .int x2)] (rc_lt hN (by decide)) (by first | rfl | simp [va_rf_cat, rc_cat_i, rc_cat_l]) ?_
  refine j_aload_n C d_mdl_keep_128 rfl 1 rfl ?_
  obtain ⟨v5, h6, h⟩ := Option.bind_eq_some_iff.mp h
  refine j_getR C fl_mdl_68 h6 d_mdl_keep_129 rfl ?_
  refine j_iload_n C d_mdl_keep_132 rfl 2 rfl ?_
  refine j_dup2 C d_mdl_keep_133 rfl (by first | rfl | exact va_rf_cat _) (by first | rfl | exact va_rf_cat _) ?_
  obtain ⟨v7, h8, h⟩ := Option.bind_eq_some_iff.mp h
  refine j_iald C h8 d_mdl_keep_134 rfl ?_
  refine j_iconst (v := 1) C d_mdl_keep_135 rfl (by decide) ?_
  refine j_iadd C d_mdl_keep_136 rfl ?_
  obtain ⟨w9, h10, h⟩ := Option.bind_eq_some_iff.mp h
  refine j_iast C h10 d_mdl_keep_137 rfl ?_
  refine j_aload_n C d_mdl_keep_138 rfl 1 rfl ?_
  obtain ⟨v11, h12, h⟩ := Option.bind_eq_some_iff.mp h
  refine j_getR C fl_mdl_59 h12 d_mdl_keep_139 rfl ?_
  refine j_iload_n C d_mdl_keep_142 rfl 0 rfl ?_
  refine j_iload_n C d_mdl_keep_143 rfl 3 rfl ?_
  obtain ⟨w13, h14, h⟩ := Option.bind_eq_some_iff.mp h
  refine j_iast C h14 d_mdl_keep_144 rfl ?_
  refine j_aload_n C d_mdl_keep_145 rfl 1 rfl ?_
  obtain ⟨v15, h16, h⟩ := Option.bind_eq_some_iff.mp h
  refine j_getR C fl_mdl_62 h16 d_mdl_keep_146 rfl ?_
  refine j_iload_n C d_mdl_keep_149 rfl 0 rfl ?_
  refine j_aload_n C d_mdl_keep_150 rfl 1 rfl ?_
  obtain ⟨v17, h18, h⟩ := Option.bind_eq_some_iff.mp h
  refine j_getI C fl_mdl_140 h18 d_mdl_keep_151 rfl ?_
  obtain ⟨w19, h20, h⟩ := Option.bind_eq_some_iff.mp h
  refine j_iast C h20 d_mdl_keep_154 rfl ?_
  refine j_iconst (v := 0) C d_mdl_keep_155 rfl (by decide) ?_
  refine j_istore C (i := 4) d_mdl_keep_156 rfl [(4, .int 0), (3, .int ((8 * x1) + v3)), (0, va_rf (some a0)), (1, .int x1), (2, .int x2)] (rc_lt hN (by decide)) (by first | rfl | simp [va_rf_cat, rc_cat_i, rc_cat_l]) ?_
  refine rc_J.sub (lv' := [(0, va_rf (some a0)), (3, .int ((8 * x1) + v3)), (4, .int 0)]) [2, 1, 0] rfl ?_
  exact k_mdl_keep_158 hF hL hN C E _ _ _ _ _ h

set_option maxRecDepth 100000 in
set_option maxHeartbeats 4000000 in
theorem k_mdl_keep_16 {X : rc_X} {w0 : rc_M} (hF : (q_R X).frames = 4) (hL : (q_R X).locals = 88) (hN : q_n X = 5) (C : rc_C X "RecordCallsModel" prog_9_method_22_code w0) {res : rc_M} (E : rc_E0 X y_mdl_keep none none res) : ∀ (fuel : Nat) (w : rc_M) (a0 : Nat) (x1 : Int32) (x2 : Int32) (x3 : Int32), b_mdl_keep_16 fuel w a0 x1 x2 x3 = some res → rc_J X w 16 [] [(0, va_rf (some a0)), (1, .int x1), (2, .int x2), (3, .int x3)] := by
  intro fuel
  induction fuel with
  | zero => intro w a0 x1 x2 x3 h; simp [b_mdl_keep_16] at h
  | succ fuel ih =>
    intro w a0 x1 x2 x3 h
    unfold b_mdl_keep_16 at h
    refine j_iload_n C d_mdl_keep_16 rfl 3 rfl ?_
    refine j_bipush (v := 8) C d_mdl_keep_17 rfl (by decide) ?_
    refine j_iload_n C d_mdl_keep_19 rfl 1 rfl ?_
    refine j_imul C d_mdl_keep_20 rfl ?_
    refine j_bipush (v := 7) C d_mdl_keep_21 rfl (by decide) ?_
    refine j_iadd C d_mdl_keep_23 rfl ?_
    refine j_icmp_ge (tgt := 108) C d_mdl_keep_24 (by decide) rfl (fun c1 => ?_) (fun c1 => ?_)
    · rw [if_pos c1] at h
      refine j_aload_n C d_mdl_keep_108 rfl 0 rfl ?_
      obtain ⟨v2, h3, h⟩ := Option.bind_eq_some_iff.mp h
      refine j_getR C fl_mdl_68 h3 d_mdl_keep_109 rfl ?_
      refine j_iload_n C d_mdl_keep_112 rfl 1 rfl ?_
      refine j_bipush (v := 7) C d_mdl_keep_113 rfl (by decide) ?_
      obtain ⟨w4, h5, h⟩ := Option.bind_eq_some_iff.mp h
      refine j_iast C h5 d_mdl_keep_115 rfl ?_
      refine rc_J.sub (lv' := [(0, va_rf (some a0)), (1, .int x1), (2, .int x2)]) [0, 1, 2] rfl ?_
      exact k_mdl_keep_116 hF hL hN C E h
    · rw [if_neg c1] at h
      refine j_aload_n C d_mdl_keep_27 rfl 0 rfl ?_
      obtain ⟨v6, h7, h⟩ := Option.bind_eq_some_iff.mp h
      refine j_getR C fl_mdl_59 h7 d_mdl_keep_28 rfl ?_
      refine j_iload_n C d_mdl_keep_31 rfl 3 rfl ?_
      refine j_aload_n C d_mdl_keep_32 rfl 0 rfl ?_
      obtain ⟨v8, h9, h⟩ := Option.bind_eq_some_iff.mp h
      refine j_getR C fl_mdl_59 h9 d_mdl_keep_33 rfl ?_
      refine j_iload_n C d_mdl_keep_36 rfl 3 rfl ?_
      refine j_iconst (v := 1) C d_mdl_keep_37 rfl (by decide) ?_
      refine j_iadd C d_mdl_keep_38 rfl ?_
      obtain ⟨v10, h11, h⟩ := Option.bind_eq_some_iff.mp h
      refine j_iald C h11 d_mdl_keep_39 rfl ?_
      obtain ⟨w12, h13, h⟩ := Option.bind_eq_some_iff.mp h
      refine j_iast C h13 d_mdl_keep_40 rfl ?_
      refine j_aload_n C d_mdl_keep_41 rfl 0 rfl ?_
      obtain ⟨v14, h15, h⟩ := Option.bind_eq_some_iff.mp h
      refine j_getR C fl_mdl_62 h15 d_mdl_keep_42 rfl ?_
      refine j_iload_n C d_mdl_keep_45 rfl 3 rfl ?_
      refine j_aload_n C d_mdl_keep_46 rfl 0 rfl ?_
      obtain ⟨v16, h17, h⟩ := Option.bind_eq_some_iff.mp h
      refine j_getR C fl_mdl_62 h17 d_mdl_keep_47 rfl ?_
      refine j_iload_n C d_mdl_keep_50 rfl 3 rfl ?_
      refine j_iconst (v := 1) C d_mdl_keep_51 rfl (by decide) ?_
      refine j_iadd C d_mdl_keep_52 rfl ?_
      obtain ⟨v18, h19, h⟩ := Option.bind_eq_some_iff.mp h
      refine j_iald C h19 d_mdl_keep_53 rfl ?_
      obtain ⟨w20, h21, h⟩ := Option.bind_eq_some_iff.mp h
      refine j_iast C h21 d_mdl_keep_54 rfl ?_
      refine j_iconst (v := 0) C d_mdl_keep_55 rfl (by decide) ?_
      refine j_istore C (i := 4) d_mdl_keep_56 rfl [(4, .int 0), (0, va_rf (some a0)), (1, .int x1), (2, .int x2), (3, .int x3)] (rc_lt hN (by decide)) (by first | rfl | simp [va_rf_cat, rc_cat_i, rc_cat_l]) ?_
      refine rc_J.sub (lv' := [(0, va_rf (some a0)), (1, .int x1), (2, .int x2), (3, .int x3), (4, .int 0)]) [1, 2, 3, 4, 0] rfl ?_
      exact k_mdl_keep_58 hF hL hN C E (fun w z0 z1 z2 z3 h => ih w z0 z1 z2 z3 h) _ _ _ _ _ _ _ h

set_option maxRecDepth 100000 in
set_option maxHeartbeats 4000000 in
theorem ct_mdl_keep {l : Launch} {G : rc_G} {w : rc_M} {a0 : Nat} {x1 : Int32} {x2 : Int32} {res : rc_M} (h : f_mdl_keep w a0 x1 x2 = some res) : rc_Ct l G y_mdl_keep prog_9_method_22_code 5 none 4 88 [va_rf (some a0), .int x1, .int x2] w none res := by
  refine rc_enter (by decide +kernel) (by simp [lg_sl, va_rf_cat, rc_cat_i, rc_cat_l]) ?_
  intro X _ _ hN hF hL C E
  have hlv : lv_args 0 [va_rf (some a0), .int x1, .int x2] = [(0, va_rf (some a0)), (1, .int x1), (2, .int x2)] := by simp [lv_args, va_rf_cat, rc_cat_i, rc_cat_l]
  rw [hlv]
  clear hlv
  unfold f_mdl_keep at h
  refine j_aload_n C d_mdl_keep_0 rfl 0 rfl ?_
  obtain ⟨v1, h2, h⟩ := Option.bind_eq_some_iff.mp h
  refine j_getR C fl_mdl_68 h2 d_mdl_keep_1 rfl ?_
  refine j_iload_n C d_mdl_keep_4 rfl 1 rfl ?_
  obtain ⟨v3, h4, h⟩ := Option.bind_eq_some_iff.mp h
  refine j_iald C h4 d_mdl_keep_5 rfl ?_
  refine j_bipush (v := 8) C d_mdl_keep_6 rfl (by decide) ?_
  refine j_icmp_ne (tgt := 116) C d_mdl_keep_8 (by decide) rfl (fun c5 => ?_) (fun c5 => ?_)
  · rw [if_neg c5] at h
    exact k_mdl_keep_116 hF hL hN C E h
  · rw [if_pos c5] at h
    refine j_bipush (v := 8) C d_mdl_keep_11 rfl (by decide) ?_
    refine j_iload_n C d_mdl_keep_13 rfl 1 rfl ?_
    refine j_imul C d_mdl_keep_14 rfl ?_
    refine j_istore_n C (i := 3) d_mdl_keep_15 rfl rfl [(3, .int (8 * x1)), (0, va_rf (some a0)), (1, .int x1), (2, .int x2)] (rc_lt hN (by decide)) (by first | rfl | simp [va_rf_cat, rc_cat_i, rc_cat_l]) ?_
    refine rc_J.sub (lv' := [(0, va_rf (some a0)), (1, .int x1), (2, .int x2), (3, .int (8 * x1))]) [1, 2, 3, 0] rfl ?_
    exact k_mdl_keep_16 hF hL hN C E _ _ _ _ _ _ h

set_option maxRecDepth 100000 in
set_option maxHeartbeats 4000000 in
theorem k_mdl_serve_24 {X : rc_X} {w0 : rc_M} (hF : (q_R X).frames = 6) (hL : (q_R X).locals = 144) (hN : q_n X = 4) (C : rc_C X "RecordCallsModel" prog_9_method_21_code w0) {res : Int32 × rc_M} (E : rc_E0 X y_mdl_serve (some .boolean) (some (.int res.1)) res.2) {w : rc_M} {a0 : Nat} (h : b_mdl_serve_24 w a0 = some res) : rc_J X w 24 [] [(0, va_rf (some a0))] := by
  unfold b_mdl_serve_24 at h
  refine j_aload_n C d_mdl_serve_24 rfl 0 rfl ?_
  refine j_dup C d_mdl_serve_25 rfl (by first | rfl | exact va_rf_cat _) ?_
  obtain ⟨v1, h2, h⟩ := Option.bind_eq_some_iff.mp h
  refine j_getI C fl_mdl_147 h2 d_mdl_serve_26 rfl ?_
  refine j_iconst (v := 1) C d_mdl_serve_29 rfl (by decide) ?_
  refine j_iadd C d_mdl_serve_30 rfl ?_
  obtain ⟨w3, h4, h⟩ := Option.bind_eq_some_iff.mp h
  refine j_putV C (ci := 7) (k := 25) (by decide) (by decide) T_744 (Or.inl rfl) rfl rfl h4 d_mdl_serve_31 rfl ?_
  refine j_iconst (v := 0) C d_mdl_serve_34 rfl (by decide) ?_
  obtain ⟨hz, rfl⟩ := rc_z1_spec h
  exact j_zret C hz E d_mdl_serve_35

set_option maxRecDepth 100000 in
set_option maxHeartbeats 4000000 in
theorem k_mdl_serve_44 {X : rc_X} {w0 : rc_M} (hF : (q_R X).frames = 6) (hL : (q_R X).locals = 144) (hN : q_n X = 4) (C : rc_C X "RecordCallsModel" prog_9_method_21_code w0) {res : Int32 × rc_M} (E : rc_E0 X y_mdl_serve (some .boolean) (some (.int res.1)) res.2) : ∀ (fuel : Nat) (w : rc_M) (a0 : Nat) (x1 : Int32) (x2 : Int32) (x3 : Int32), b_mdl_serve_44 fuel w a0 x1 x2 x3 = some res → rc_J X w 44 [] [(0, va_rf (some a0)), (1, .int x1), (2, .int x2), (3, .int x3)] := by
  intro fuel
  induction fuel with
  | zero => intro w a0 x1 x2 x3 h; simp [b_mdl_serve_44] at h
  | succ fuel ih =>
    intro w a0 x1 x2 x3 h
    unfold b_mdl_serve_44 at h
    refine j_iload_n C d_mdl_serve_44 rfl 3 rfl ?_
    refine j_aload_n C d_mdl_serve_45 rfl 0 rfl ?_
    obtain ⟨v1, h2, h⟩ := Option.bind_eq_some_iff.mp h
    refine j_getR C fl_mdl_68 h2 d_mdl_serve_46 rfl ?_
    refine j_iload_n C d_mdl_serve_49 rfl 1 rfl ?_
    obtain ⟨v3, h4, h⟩ := Option.bind_eq_some_iff.mp h
    refine j_iald C h4 d_mdl_serve_50 rfl ?_
    refine j_icmp_ge (tgt := 97) C d_mdl_serve_51 (by decide) rfl (fun c5 => ?_) (fun c5 => ?_)
    · rw [if_pos c5] at h
      refine j_aload_n C d_mdl_serve_97 rfl 0 rfl ?_
      refine j_iconst (v := 0) C d_mdl_serve_98 rfl (by decide) ?_
      obtain ⟨w6, h7, h⟩ := Option.bind_eq_some_iff.mp h
      refine j_putV C (ci := 7) (k := 32) (by decide) (by decide) T_751 (Or.inl rfl) rfl rfl h7 d_mdl_serve_99 rfl ?_
      refine j_aload_n C d_mdl_serve_102 rfl 0 rfl ?_
      refine j_iload_n C d_mdl_serve_103 rfl 2 rfl ?_
      obtain ⟨a8, h9, h⟩ := Option.bind_eq_some_iff.mp h
      obtain ⟨p10, h11, h⟩ := Option.bind_eq_some_iff.mp h
      refine j_callV C (As := [.int x2]) (st := []) (sk' := [.int p10.1]) mk_mdl_judge (Or.inl T_880) T_882 S_32 (ci := 7) rfl h9 (rc_le hF (by decide)) (rc_le hL (by decide)) (ct_mdl_judge h11) rfl rfl (by decide) d_mdl_serve_104 rfl rfl ?_
      refine j_if_ne (tgt := 122) C d_mdl_serve_107 (by decide) rfl (fun c12 => ?_) (fun c12 => ?_)
      · rw [if_neg c12] at h
        refine j_aload_n C d_mdl_serve_122 rfl 0 rfl ?_
        refine j_iload_n C d_mdl_serve_123 rfl 1 rfl ?_
        refine j_iload_n C d_mdl_serve_124 rfl 2 rfl ?_
        obtain ⟨a13, h14, h⟩ := Option.bind_eq_some_iff.mp h
        obtain ⟨w15, h16, h⟩ := Option.bind_eq_some_iff.mp h
        refine j_callV C (As := [.int x1, .int x2]) (st := []) (sk' := []) mk_mdl_keep (Or.inl T_945) T_947 S_48 (ci := 7) rfl h14 (rc_le hF (by decide)) (rc_le hL (by decide)) (ct_mdl_keep h16) rfl rfl (by decide) d_mdl_serve_125 rfl rfl ?_
        refine j_iconst (v := 1) C d_mdl_serve_128 rfl (by decide) ?_
        obtain ⟨hz, rfl⟩ := rc_z1_spec h
        exact j_zret C hz E d_mdl_serve_129
      · rw [if_pos c12] at h
        refine j_aload_n C d_mdl_serve_110 rfl 0 rfl ?_
        refine j_dup C d_mdl_serve_111 rfl (by first | rfl | exact va_rf_cat _) ?_
        obtain ⟨v17, h18, h⟩ := Option.bind_eq_some_iff.mp h
        refine j_getI C fl_mdl_147 h18 d_mdl_serve_112 rfl ?_
        refine j_iconst (v := 1) C d_mdl_serve_115 rfl (by decide) ?_
        refine j_iadd C d_mdl_serve_116 rfl ?_
        obtain ⟨w19, h20, h⟩ := Option.bind_eq_some_iff.mp h
        refine j_putV C (ci := 7) (k := 25) (by decide) (by decide) T_744 (Or.inl rfl) rfl rfl h20 d_mdl_serve_117 rfl ?_
        refine j_iconst (v := 0) C d_mdl_serve_120 rfl (by decide) ?_
        obtain ⟨hz, rfl⟩ := rc_z1_spec h
        exact j_zret C hz E d_mdl_serve_121
    · rw [if_neg c5] at h
      refine j_aload_n C d_mdl_serve_54 rfl 0 rfl ?_
      obtain ⟨v21, h22, h⟩ := Option.bind_eq_some_iff.mp h
      refine j_getR C fl_mdl_59 h22 d_mdl_serve_55 rfl ?_
      refine j_bipush (v := 8) C d_mdl_serve_58 rfl (by decide) ?_
      refine j_iload_n C d_mdl_serve_60 rfl 1 rfl ?_
      refine j_imul C d_mdl_serve_61 rfl ?_
      refine j_iload_n C d_mdl_serve_62 rfl 3 rfl ?_
      refine j_iadd C d_mdl_serve_63 rfl ?_
      obtain ⟨v23, h24, h⟩ := Option.bind_eq_some_iff.mp h
      refine j_iald C h24 d_mdl_serve_64 rfl ?_
      refine j_iload_n C d_mdl_serve_65 rfl 2 rfl ?_
      refine j_icmp_ne (tgt := 91) C d_mdl_serve_66 (by decide) rfl (fun c25 => ?_) (fun c25 => ?_)
      · rw [if_neg c25] at h
        refine j_iinc C d_mdl_serve_91 rfl 3 [(3, .int (x3 + 1)), (0, va_rf (some a0)), (1, .int x1), (2, .int x2)] rfl rfl (rc_lt hN (by decide)) (by first | rfl | simp [va_rf_cat, rc_cat_i, rc_cat_l]) ?_
        refine j_goto (tgt := 44) C d_mdl_serve_94 (by decide) ?_
        refine rc_J.sub (lv' := [(0, va_rf (some a0)), (1, .int x1), (2, .int x2), (3, .int (x3 + 1))]) [1, 2, 3, 0] rfl ?_
        exact ih _ _ _ _ _ h
      · rw [if_pos c25] at h
        refine j_aload_n C d_mdl_serve_69 rfl 0 rfl ?_
        refine j_dup C d_mdl_serve_70 rfl (by first | rfl | exact va_rf_cat _) ?_
        obtain ⟨v26, h27, h⟩ := Option.bind_eq_some_iff.mp h
        refine j_getI C fl_mdl_150 h27 d_mdl_serve_71 rfl ?_
        refine j_iconst (v := 1) C d_mdl_serve_74 rfl (by decide) ?_
        refine j_iadd C d_mdl_serve_75 rfl ?_
        obtain ⟨w28, h29, h⟩ := Option.bind_eq_some_iff.mp h
        refine j_putV C (ci := 7) (k := 24) (by decide) (by decide) T_743 (Or.inl rfl) rfl rfl h29 d_mdl_serve_76 rfl ?_
        refine j_aload_n C d_mdl_serve_79 rfl 0 rfl ?_
        refine j_bipush (v := 8) C d_mdl_serve_80 rfl (by decide) ?_
        refine j_iload_n C d_mdl_serve_82 rfl 1 rfl ?_
        refine j_imul C d_mdl_serve_83 rfl ?_
        refine j_iload_n C d_mdl_serve_84 rfl 3 rfl ?_
        refine j_iadd C d_mdl_serve_85 rfl ?_
        obtain ⟨a30, h31, h⟩ := Option.bind_eq_some_iff.mp h
        obtain ⟨w32, h33, h⟩ := Option.bind_eq_some_iff.mp h
        refine j_callV C (As := [.int ((8 * x1) + x3)]) (st := []) (sk' := []) mk_mdl_send (Or.inl T_876) T_878 S_31 (ci := 7) rfl h31 (rc_le hF (by decide)) (rc_le hL (by decide)) (ct_mdl_send h33) rfl rfl (by decide) d_mdl_serve_86 rfl rfl ?_
        refine j_iconst (v := 1) C d_mdl_serve_89 rfl (by decide) ?_
        obtain ⟨hz, rfl⟩ := rc_z1_spec h
        exact j_zret C hz E d_mdl_serve_90

set_option maxRecDepth 100000 in
set_option maxHeartbeats 4000000 in
theorem ct_mdl_serve {l : Launch} {G : rc_G} {w : rc_M} {a0 : Nat} {res : Int32 × rc_M} (h : f_mdl_serve w a0 = some res) : rc_Ct l G y_mdl_serve prog_9_method_21_code 4 (some .boolean) 6 144 [va_rf (some a0)] w (some (.int res.1)) res.2 := by
  refine rc_enter (by decide +kernel) (by simp [lg_sl, va_rf_cat, rc_cat_i, rc_cat_l]) ?_
  intro X _ _ hN hF hL C E
  have hlv : lv_args 0 [va_rf (some a0)] = [(0, va_rf (some a0))] := by simp [lv_args, va_rf_cat, rc_cat_i, rc_cat_l]
  rw [hlv]
  clear hlv
  unfold f_mdl_serve at h
  refine j_aload_n C d_mdl_serve_0 rfl 0 rfl ?_
  obtain ⟨v1, h2, h⟩ := Option.bind_eq_some_iff.mp h
  refine j_getI C fl_mdl_109 h2 d_mdl_serve_1 rfl ?_
  refine j_istore_n C (i := 1) d_mdl_serve_4 rfl rfl [(1, .int v1), (0, va_rf (some a0))] (rc_lt hN (by decide)) (by first | rfl | simp [va_rf_cat, rc_cat_i, rc_cat_l]) ?_
  refine j_aload_n C d_mdl_serve_5 rfl 1 rfl ?_
  obtain ⟨v3, h4, h⟩ := Option.bind_eq_some_iff.mp h
  refine j_getR C fl_mdl_37 h4 d_mdl_serve_6 rfl ?_
  refine j_iload_n C d_mdl_serve_9 rfl 0 rfl ?_
  obtain ⟨v5, h6, h⟩ := Option.bind_eq_some_iff.mp h
  refine j_iald C h6 d_mdl_serve_10 rfl ?_
  refine j_bipush (v := 8) C d_mdl_serve_11 rfl (by decide) ?_
  refine j_icmp_lt (tgt := 24) C d_mdl_serve_13 (by decide) rfl (fun c7 => ?_) (fun c7 => ?_)
  · rw [if_pos c7] at h
    refine rc_J.sub (lv' := [(0, va_rf (some a0))]) [1] rfl ?_
    exact k_mdl_serve_24 hF hL hN C E h
  · rw [if_neg c7] at h
    refine j_aload_n C d_mdl_serve_16 rfl 1 rfl ?_
    refine j_iconst (v := 4) C d_mdl_serve_17 rfl (by decide) ?_
    obtain ⟨a8, h9, h⟩ := Option.bind_eq_some_iff.mp h
    obtain ⟨p10, h11, h⟩ := Option.bind_eq_some_iff.mp h
    refine j_callV C (As := [.int 4]) (st := []) (sk' := [.int p10.1]) mk_mdl_recordWord (Or.inl T_872) T_874 S_30 (ci := 7) rfl h9 (rc_le hF (by decide)) (rc_le hL (by decide)) (ct_mdl_recordWord h11) rfl rfl (by decide) d_mdl_serve_18 rfl rfl ?_
    refine j_if_eq (tgt := 36) C d_mdl_serve_21 (by decide) rfl (fun c12 => ?_) (fun c12 => ?_)
    · rw [if_pos c12] at h
      refine j_aload_n C d_mdl_serve_36 rfl 1 rfl ?_
      refine j_iconst (v := 0) C d_mdl_serve_37 rfl (by decide) ?_
      obtain ⟨a13, h14, h⟩ := Option.bind_eq_some_iff.mp h
      obtain ⟨p15, h16, h⟩ := Option.bind_eq_some_iff.mp h
      refine j_callV C (As := [.int 0]) (st := []) (sk' := [.int p15.1]) mk_mdl_recordWord (Or.inl T_872) T_874 S_30 (ci := 7) rfl h14 (rc_le hF (by decide)) (rc_le hL (by decide)) (ct_mdl_recordWord h16) rfl rfl (by decide) d_mdl_serve_38 rfl rfl ?_
      refine j_istore_n C (i := 2) d_mdl_serve_41 rfl rfl [(2, .int p15.1), (1, .int v1), (0, va_rf (some a0))] (rc_lt hN (by decide)) (by first | rfl | simp [va_rf_cat, rc_cat_i, rc_cat_l]) ?_
      refine j_iconst (v := 0) C d_mdl_serve_42 rfl (by decide) ?_
      refine j_istore_n C (i := 3) d_mdl_serve_43 rfl rfl [(3, .int 0), (2, .int p15.1), (1, .int v1), (0, va_rf (some a0))] (rc_lt hN (by decide)) (by first | rfl | simp [va_rf_cat, rc_cat_i, rc_cat_l]) ?_
      refine rc_J.sub (lv' := [(0, va_rf (some a0)), (1, .int v1), (2, .int p15.1), (3, .int 0)]) [3, 2, 1, 0] rfl ?_
      exact k_mdl_serve_44 hF hL hN C E _ _ _ _ _ _ h
    · rw [if_neg c12] at h
      refine rc_J.sub (lv' := [(0, va_rf (some a0))]) [1] rfl ?_
      exact k_mdl_serve_24 hF hL hN C E h

set_option maxRecDepth 100000 in
set_option maxHeartbeats 4000000 in
theorem k_mdl_push_193 {X : rc_X} {w0 : rc_M} (hF : (q_R X).frames = 7) (hL : (q_R X).locals = 167) (hN : q_n X = 8) (C : rc_C X "RecordCallsModel" prog_9_method_11_code w0) {res : Int32 × rc_M} (E : rc_E0 X y_mdl_push (some .int) (some (.int res.1)) res.2) {k128 : rc_M → Nat → Int32 → Int32 → Int32 → Int32 → Option (Int32 × rc_M)} (hk128 : ∀ (w : rc_M) (a0 : Nat) (x1 : Int32) (x4 : Int32) (x6 : Int32) (x7 : Int32), k128 w a0 x1 x4 x6 x7 = some res → rc_J X w 128 [] [(0, va_rf (some a0)), (1, .int x1), (4, .int x4), (6, .int x6), (7, .int x7)]) {w : rc_M} {a0 : Nat} {x1 : Int32} {x4 : Int32} {x6 : Int32} {x7 : Int32} (h : b_mdl_push_193 k128 w a0 x1 x4 x6 x7 = some res) : rc_J X w 193 [] [(0, va_rf (some a0)), (1, .int x1), (4, .int x4), (6, .int x6), (7, .int x7)] := by
  unfold b_mdl_push_193 at h
  refine j_iinc C d_mdl_push_193 rfl 4 [(7, .int (x7 + 1)), (0, va_rf (some a0)), (1, .int x1), (4, .int x4), (6, .int x6)] rfl rfl (rc_lt hN (by decide)) (by first | rfl | simp [va_rf_cat, rc_cat_i, rc_cat_l]) ?_
  refine j_goto (tgt := 128) C d_mdl_push_196 (by decide) ?_
  refine rc_J.sub (lv' := [(0, va_rf (some a0)), (1, .int x1), (4, .int x4), (6, .int x6), (7, .int (x7 + 1))]) [1, 2, 3, 4, 0] rfl ?_
  exact hk128 _ _ _ _ _ _ h

set_option maxRecDepth 100000 in
set_option maxHeartbeats 4000000 in
theorem k_mdl_push_184 {X : rc_X} {w0 : rc_M} (hF : (q_R X).frames = 7) (hL : (q_R X).locals = 167) (hN : q_n X = 8) (C : rc_C X "RecordCallsModel" prog_9_method_11_code w0) {res : Int32 × rc_M} (E : rc_E0 X y_mdl_push (some .int) (some (.int res.1)) res.2) {k128 : rc_M → Nat → Int32 → Int32 → Int32 → Int32 → Option (Int32 × rc_M)} (hk128 : ∀ (w : rc_M) (a0 : Nat) (x1 : Int32) (x4 : Int32) (x6 : Int32) (x7 : Int32), k128 w a0 x1 x4 x6 x7 = some res → rc_J X w 128 [] [(0, va_rf (some a0)), (1, .int x1), (4, .int x4), (6, .int x6), (7, .int x7)]) {w : rc_M} {a0 : Nat} {x1 : Int32} {x4 : Int32} {x7 : Int32} {s0 : Int32} (h : b_mdl_push_184 k128 w a0 x1 x4 x7 s0 = some res) : rc_J X w 184 [.int s0] [(0, va_rf (some a0)), (1, .int x1), (4, .int x4), (7, .int x7)] := by
  unfold b_mdl_push_184 at h
  refine j_istore C (i := 6) d_mdl_push_184 rfl [(6, .int s0), (0, va_rf (some a0)), (1, .int x1), (4, .int x4), (7, .int x7)] (rc_lt hN (by decide)) (by first | rfl | simp [va_rf_cat, rc_cat_i, rc_cat_l]) ?_
  refine j_aload_n C d_mdl_push_186 rfl 1 rfl ?_
  obtain ⟨v1, h2, h⟩ := Option.bind_eq_some_iff.mp h
  refine j_getR C fl_mdl_37 h2 d_mdl_push_187 rfl ?_
  refine j_iload_n C d_mdl_push_190 rfl 2 rfl ?_
  refine j_iconst (v := 0) C d_mdl_push_191 rfl (by decide) ?_
  obtain ⟨w3, h4, h⟩ := Option.bind_eq_some_iff.mp h
  refine j_iast C h4 d_mdl_push_192 rfl ?_
  refine rc_J.sub (lv' := [(0, va_rf (some a0)), (1, .int x1), (4, .int x4), (6, .int s0), (7, .int x7)]) [1, 2, 3, 0, 4] rfl ?_
  exact k_mdl_push_193 hF hL hN C E hk128 h

set_option maxRecDepth 100000 in
set_option maxHeartbeats 4000000 in
theorem k_mdl_push_128 {X : rc_X} {w0 : rc_M} (hF : (q_R X).frames = 7) (hL : (q_R X).locals = 167) (hN : q_n X = 8) (C : rc_C X "RecordCallsModel" prog_9_method_11_code w0) {res : Int32 × rc_M} (E : rc_E0 X y_mdl_push (some .int) (some (.int res.1)) res.2) : ∀ (fuel : Nat) (w : rc_M) (a0 : Nat) (x1 : Int32) (x4 : Int32) (x6 : Int32) (x7 : Int32), b_mdl_push_128 fuel w a0 x1 x4 x6 x7 = some res → rc_J X w 128 [] [(0, va_rf (some a0)), (1, .int x1), (4, .int x4), (6, .int x6), (7, .int x7)] := by
  intro fuel
  induction fuel with
  | zero => intro w a0 x1 x4 x6 x7 h; simp [b_mdl_push_128] at h
  | succ fuel ih =>
    intro w a0 x1 x4 x6 x7 h
    unfold b_mdl_push_128 at h
    refine j_iload C d_mdl_push_128 rfl 4 rfl ?_
    refine j_iload C d_mdl_push_130 rfl 2 rfl ?_
    refine j_icmp_ge (tgt := 199) C d_mdl_push_132 (by decide) rfl (fun c1 => ?_) (fun c1 => ?_)
    · rw [if_pos c1] at h
      refine j_iload C d_mdl_push_199 rfl 3 rfl ?_
      cases h
      exact j_iret C E d_mdl_push_201
    · rw [if_neg c1] at h
      refine j_aload_n C d_mdl_push_135 rfl 0 rfl ?_
      obtain ⟨v2, h3, h⟩ := Option.bind_eq_some_iff.mp h
      refine j_getR C fl_mdl_56 h3 d_mdl_push_136 rfl ?_
      refine j_iload_n C d_mdl_push_139 rfl 1 rfl ?_
      obtain ⟨v4, h5, h⟩ := Option.bind_eq_some_iff.mp h
      refine j_zald C h5 d_mdl_push_140 rfl ?_
      refine j_if_ne (tgt := 193) C d_mdl_push_141 (by decide) rfl (fun c6 => ?_) (fun c6 => ?_)
      · rw [if_neg c6] at h
        exact k_mdl_push_193 hF hL hN C E (fun w z0 z1 z2 z3 z4 h => ih w z0 z1 z2 z3 z4 h) h
      · rw [if_pos c6] at h
        refine j_aload_n C d_mdl_push_144 rfl 0 rfl ?_
        refine j_iload_n C d_mdl_push_145 rfl 1 rfl ?_
        refine j_aload_n C d_mdl_push_146 rfl 0 rfl ?_
        obtain ⟨v7, h8, h⟩ := Option.bind_eq_some_iff.mp h
        refine j_getR C fl_mdl_21 h8 d_mdl_push_147 rfl ?_
        refine j_iload C d_mdl_push_150 rfl 4 rfl ?_
        obtain ⟨v9, h10, h⟩ := Option.bind_eq_some_iff.mp h
        refine j_bald C h10 d_mdl_push_152 rfl ?_
        refine j_sipush (v := 255) C d_mdl_push_153 rfl (by decide) ?_
        refine j_iand C d_mdl_push_156 rfl ?_
        obtain ⟨a11, h12, h⟩ := Option.bind_eq_some_iff.mp h
        obtain ⟨p13, h14, h⟩ := Option.bind_eq_some_iff.mp h
        refine j_callV C (As := [.int x1, .int (v9 &&& 255)]) (st := []) (sk' := [.int p13.1]) mk_mdl_take (Or.inl T_864) T_866 S_28 (ci := 7) rfl h12 (rc_le hF (by decide)) (rc_le hL (by decide)) (ct_mdl_take h14) rfl rfl (by decide) d_mdl_push_157 rfl rfl ?_
        refine j_if_eq (tgt := 193) C d_mdl_push_160 (by decide) rfl (fun c15 => ?_) (fun c15 => ?_)
        · rw [if_pos c15] at h
          exact k_mdl_push_193 hF hL hN C E (fun w z0 z1 z2 z3 z4 h => ih w z0 z1 z2 z3 z4 h) h
        · rw [if_neg c15] at h
          refine j_aload_n C d_mdl_push_163 rfl 0 rfl ?_
          refine j_iload_n C d_mdl_push_164 rfl 1 rfl ?_
          obtain ⟨w16, h17, h⟩ := Option.bind_eq_some_iff.mp h
          refine j_putV C (ci := 7) (k := 26) (by decide) (by decide) T_745 (Or.inl rfl) rfl rfl h17 d_mdl_push_165 rfl ?_
          refine j_aload_n C d_mdl_push_168 rfl 0 rfl ?_
          obtain ⟨a18, h19, h⟩ := Option.bind_eq_some_iff.mp h
          obtain ⟨p20, h21, h⟩ := Option.bind_eq_some_iff.mp h
          refine j_callV C (As := []) (st := []) (sk' := [.int p20.1]) mk_mdl_serve (Or.inl T_868) T_870 S_29 (ci := 7) rfl h19 (rc_le hF (by decide)) (rc_le hL (by decide)) (ct_mdl_serve h21) rfl rfl (by decide) d_mdl_push_169 rfl rfl ?_
          refine j_if_eq (tgt := 182) C d_mdl_push_172 (by decide) rfl (fun c22 => ?_) (fun c22 => ?_)
          · rw [if_pos c22] at h
            refine j_iload C d_mdl_push_182 rfl 3 rfl ?_
            refine rc_J.sub (lv' := [(0, va_rf (some a0)), (1, .int x1), (4, .int x4), (7, .int x7)]) [0, 1, 2, 4] rfl ?_
            exact k_mdl_push_184 hF hL hN C E (fun w z0 z1 z2 z3 z4 h => ih w z0 z1 z2 z3 z4 h) h
          · rw [if_neg c22] at h
            refine j_iload C d_mdl_push_175 rfl 3 rfl ?_
            refine j_iconst (v := 1) C d_mdl_push_177 rfl (by decide) ?_
            refine j_iadd C d_mdl_push_178 rfl ?_
            refine j_goto (tgt := 184) C d_mdl_push_179 (by decide) ?_
            refine rc_J.sub (lv' := [(0, va_rf (some a0)), (1, .int x1), (4, .int x4), (7, .int x7)]) [0, 1, 2, 4] rfl ?_
            exact k_mdl_push_184 hF hL hN C E (fun w z0 z1 z2 z3 z4 h => ih w z0 z1 z2 z3 z4 h) h

set_option maxRecDepth 100000 in
set_option maxHeartbeats 4000000 in
theorem k_mdl_push_88 {X : rc_X} {w0 : rc_M} (hF : (q_R X).frames = 7) (hL : (q_R X).locals = 167) (hN : q_n X = 8) (C : rc_C X "RecordCallsModel" prog_9_method_11_code w0) {res : Int32 × rc_M} (E : rc_E0 X y_mdl_push (some .int) (some (.int res.1)) res.2) : ∀ (fuel : Nat) (w : rc_M) (a0 : Nat) (x1 : Int32) (x2 : Int32) (x3 : Int32) (x4 : Int32) (x6 : Int32), b_mdl_push_88 fuel w a0 x1 x2 x3 x4 x6 = some res → rc_J X w 88 [] [(0, va_rf (some a0)), (1, .int x1), (2, .int x2), (3, .int x3), (4, .int x4), (6, .int x6)] := by
  intro fuel
  induction fuel with
  | zero => intro w a0 x1 x2 x3 x4 x6 h; simp [b_mdl_push_88] at h
  | succ fuel ih =>
    intro w a0 x1 x2 x3 x4 x6 h
    unfold b_mdl_push_88 at h
    refine j_iload C d_mdl_push_88 rfl 5 rfl ?_
    refine j_iload C d_mdl_push_90 rfl 4 rfl ?_
    refine j_icmp_ge (tgt := 122) C d_mdl_push_92 (by decide) rfl (fun c1 => ?_) (fun c1 => ?_)
    · rw [if_pos c1] at h
      refine j_iconst (v := 0) C d_mdl_push_122 rfl (by decide) ?_
      refine j_istore C (i := 6) d_mdl_push_123 rfl [(6, .int 0), (0, va_rf (some a0)), (1, .int x1), (2, .int x2), (3, .int x3), (4, .int x4)] (rc_lt hN (by decide)) (by first | rfl | simp [va_rf_cat, rc_cat_i, rc_cat_l]) ?_
      refine j_iconst (v := 0) C d_mdl_push_125 rfl (by decide) ?_
      refine j_istore C (i := 7) d_mdl_push_126 rfl [(7, .int 0), (6, .int 0), (0, va_rf (some a0)), (1, .int x1), (2, .int x2), (3, .int x3), (4, .int x4)] (rc_lt hN (by decide)) (by first | rfl | simp [va_rf_cat, rc_cat_i, rc_cat_l]) ?_
      refine rc_J.sub (lv' := [(0, va_rf (some a0)), (1, .int x1), (4, .int x4), (6, .int 0), (7, .int 0)]) [2, 3, 6, 1, 0] rfl ?_
      exact k_mdl_push_128 hF hL hN C E _ _ _ _ _ _ _ h
    · rw [if_neg c1] at h
      refine j_aload_n C d_mdl_push_95 rfl 0 rfl ?_
      obtain ⟨v2, h3, h⟩ := Option.bind_eq_some_iff.mp h
      refine j_getR C fl_mdl_21 h3 d_mdl_push_96 rfl ?_
      refine j_iload C d_mdl_push_99 rfl 5 rfl ?_
      refine j_aload_n C d_mdl_push_101 rfl 0 rfl ?_
      obtain ⟨v4, h5, h⟩ := Option.bind_eq_some_iff.mp h
      refine j_getR C fl_mdl_14 h5 d_mdl_push_102 rfl ?_
      refine j_iload_n C d_mdl_push_105 rfl 2 rfl ?_
      obtain ⟨p6, h7, h⟩ := Option.bind_eq_some_iff.mp h
      refine j_callS C (As := [.int x2]) (st := [va_rf v4, .int x6, va_rf v2]) (sk' := [.int p6.1, va_rf v4, .int x6, va_rf v2]) mk_mdl_base (Or.inl T_839) T_840 (rc_le hF (by decide)) (rc_le hL (by decide)) (ct_mdl_base h7) rfl rfl (by simp [va_rf_cat, rc_cat_i, rc_cat_l]) d_mdl_push_106 rfl rfl ?_
      refine j_iload_n C d_mdl_push_109 rfl 3 rfl ?_
      refine j_iadd C d_mdl_push_110 rfl ?_
      refine j_iload C d_mdl_push_111 rfl 5 rfl ?_
      refine j_iadd C d_mdl_push_113 rfl ?_
      obtain ⟨v8, h9, h⟩ := Option.bind_eq_some_iff.mp h
      refine j_bald C h9 d_mdl_push_114 rfl ?_
      obtain ⟨w10, h11, h⟩ := Option.bind_eq_some_iff.mp h
      refine j_bast C h11 d_mdl_push_115 rfl ?_
      refine j_iinc C d_mdl_push_116 rfl 5 [(6, .int (x6 + 1)), (0, va_rf (some a0)), (1, .int x1), (2, .int x2), (3, .int x3), (4, .int x4)] rfl rfl (rc_lt hN (by decide)) (by first | rfl | simp [va_rf_cat, rc_cat_i, rc_cat_l]) ?_
      refine j_goto (tgt := 88) C d_mdl_push_119 (by decide) ?_
      refine rc_J.sub (lv' := [(0, va_rf (some a0)), (1, .int x1), (2, .int x2), (3, .int x3), (4, .int x4), (6, .int (x6 + 1))]) [1, 2, 3, 4, 5, 0] rfl ?_
      exact ih _ _ _ _ _ _ _ h

set_option maxRecDepth 100000 in
set_option maxHeartbeats 4000000 in
theorem k_mdl_push_73 {X : rc_X} {w0 : rc_M} (hF : (q_R X).frames = 7) (hL : (q_R X).locals = 167) (hN : q_n X = 8) (C : rc_C X "RecordCallsModel" prog_9_method_11_code w0) {res : Int32 × rc_M} (E : rc_E0 X y_mdl_push (some .int) (some (.int res.1)) res.2) {w : rc_M} {a0 : Nat} {x1 : Int32} {x2 : Int32} {x3 : Int32} {x4 : Int32} {s0 : Option Nat} {s1 : Int32} (h : b_mdl_push_73 w a0 x1 x2 x3 x4 s0 s1 = some res) : rc_J X w 73 [.int s1, va_rf s0] [(0, va_rf (some a0)), (1, .int x1), (2, .int x2), (3, .int x3), (4, .int x4)] := by
  unfold b_mdl_push_73 at h
  obtain ⟨w1, h2, h⟩ := Option.bind_eq_some_iff.mp h
  refine j_putV C (ci := 7) (k := 0) (by decide) (by decide) T_719 (Or.inl rfl) rfl rfl h2 d_mdl_push_73 rfl ?_
  refine j_aload_n C d_mdl_push_76 rfl 0 rfl ?_
  obtain ⟨v3, h4, h⟩ := Option.bind_eq_some_iff.mp h
  refine j_getI C fl_mdl_74 h4 d_mdl_push_77 rfl ?_
  refine j_if_le (tgt := 85) C d_mdl_push_80 (by decide) rfl (fun c5 => ?_) (fun c5 => ?_)
  · rw [if_pos c5] at h
    refine j_iconst (v := 0) C d_mdl_push_85 rfl (by decide) ?_
    refine j_istore C (i := 6) d_mdl_push_86 rfl [(6, .int 0), (0, va_rf (some a0)), (1, .int x1), (2, .int x2), (3, .int x3), (4, .int x4)] (rc_lt hN (by decide)) (by first | rfl | simp [va_rf_cat, rc_cat_i, rc_cat_l]) ?_
    refine rc_J.sub (lv' := [(0, va_rf (some a0)), (1, .int x1), (2, .int x2), (3, .int x3), (4, .int x4), (6, .int 0)]) [1, 2, 3, 4, 5, 0] rfl ?_
    exact k_mdl_push_88 hF hL hN C E _ _ _ _ _ _ _ _ h
  · rw [if_neg c5] at h
    refine j_iconst (v := 0) C d_mdl_push_83 rfl (by decide) ?_
    cases h
    exact j_iret C E d_mdl_push_84

set_option maxRecDepth 100000 in
set_option maxHeartbeats 4000000 in
theorem k_mdl_push_60 {X : rc_X} {w0 : rc_M} (hF : (q_R X).frames = 7) (hL : (q_R X).locals = 167) (hN : q_n X = 8) (C : rc_C X "RecordCallsModel" prog_9_method_11_code w0) {res : Int32 × rc_M} (E : rc_E0 X y_mdl_push (some .int) (some (.int res.1)) res.2) {w : rc_M} {a0 : Nat} {x1 : Int32} {x2 : Int32} {x3 : Int32} {x4 : Int32} {s0 : Int32} (h : b_mdl_push_60 w a0 x1 x2 x3 x4 s0 = some res) : rc_J X w 60 [.int s0] [(0, va_rf (some a0)), (1, .int x1), (2, .int x2), (3, .int x3), (4, .int x4)] := by
  unfold b_mdl_push_60 at h
  refine j_istore C (i := 5) d_mdl_push_60 rfl [(5, .int s0), (0, va_rf (some a0)), (1, .int x1), (2, .int x2), (3, .int x3), (4, .int x4)] (rc_lt hN (by decide)) (by first | rfl | simp [va_rf_cat, rc_cat_i, rc_cat_l]) ?_
  refine j_aload_n C d_mdl_push_62 rfl 1 rfl ?_
  refine j_iload C d_mdl_push_63 rfl 0 rfl ?_
  refine j_if_eq (tgt := 72) C d_mdl_push_65 (by decide) rfl (fun c1 => ?_) (fun c1 => ?_)
  · rw [if_pos c1] at h
    refine j_iconst (v := 1) C d_mdl_push_72 rfl (by decide) ?_
    refine rc_J.sub (lv' := [(0, va_rf (some a0)), (1, .int x1), (2, .int x2), (3, .int x3), (4, .int x4)]) [1, 2, 3, 4, 5] rfl ?_
    exact k_mdl_push_73 hF hL hN C E h
  · rw [if_neg c1] at h
    refine j_iconst (v := 0) C d_mdl_push_68 rfl (by decide) ?_
    refine j_goto (tgt := 73) C d_mdl_push_69 (by decide) ?_
    refine rc_J.sub (lv' := [(0, va_rf (some a0)), (1, .int x1), (2, .int x2), (3, .int x3), (4, .int x4)]) [1, 2, 3, 4, 5] rfl ?_
    exact k_mdl_push_73 hF hL hN C E h

set_option maxRecDepth 100000 in
set_option maxHeartbeats 4000000 in
theorem k_mdl_push_59 {X : rc_X} {w0 : rc_M} (hF : (q_R X).frames = 7) (hL : (q_R X).locals = 167) (hN : q_n X = 8) (C : rc_C X "RecordCallsModel" prog_9_method_11_code w0) {res : Int32 × rc_M} (E : rc_E0 X y_mdl_push (some .int) (some (.int res.1)) res.2) {w : rc_M} {a0 : Nat} {x1 : Int32} {x2 : Int32} {x3 : Int32} {x4 : Int32} (h : b_mdl_push_59 w a0 x1 x2 x3 x4 = some res) : rc_J X w 59 [] [(0, va_rf (some a0)), (1, .int x1), (2, .int x2), (3, .int x3), (4, .int x4)] := by
  unfold b_mdl_push_59 at h
  refine j_iconst (v := 0) C d_mdl_push_59 rfl (by decide) ?_
  exact k_mdl_push_60 hF hL hN C E h

set_option maxRecDepth 100000 in
set_option maxHeartbeats 4000000 in
theorem ct_mdl_push {l : Launch} {G : rc_G} {w : rc_M} {a0 : Nat} {x1 : Int32} {x2 : Int32} {x3 : Int32} {x4 : Int32} {res : Int32 × rc_M} (h : f_mdl_push w a0 x1 x2 x3 x4 = some res) : rc_Ct l G y_mdl_push prog_9_method_11_code 8 (some .int) 7 167 [va_rf (some a0), .int x1, .int x2, .int x3, .int x4] w (some (.int res.1)) res.2 := by
  refine rc_enter (by decide +kernel) (by simp [lg_sl, va_rf_cat, rc_cat_i, rc_cat_l]) ?_
  intro X _ _ hN hF hL C E
  have hlv : lv_args 0 [va_rf (some a0), .int x1, .int x2, .int x3, .int x4] = [(0, va_rf (some a0)), (1, .int x1), (2, .int x2), (3, .int x3), (4, .int x4)] := by simp [lv_args, va_rf_cat, rc_cat_i, rc_cat_l]
  rw [hlv]
  clear hlv
  unfold f_mdl_push at h
  refine j_iload_n C d_mdl_push_0 rfl 1 rfl ?_
  refine j_if_lt (tgt := 59) C d_mdl_push_1 (by decide) rfl (fun c1 => ?_) (fun c1 => ?_)
  · rw [if_pos c1] at h
    exact k_mdl_push_59 hF hL hN C E h
  · rw [if_neg c1] at h
    refine j_iload_n C d_mdl_push_4 rfl 1 rfl ?_
    refine j_iconst (v := 4) C d_mdl_push_5 rfl (by decide) ?_
    refine j_icmp_ge (tgt := 59) C d_mdl_push_6 (by decide) rfl (fun c2 => ?_) (fun c2 => ?_)
    · rw [if_pos c2] at h
      exact k_mdl_push_59 hF hL hN C E h
    · rw [if_neg c2] at h
      refine j_aload_n C d_mdl_push_9 rfl 0 rfl ?_
      refine j_iload_n C d_mdl_push_10 rfl 2 rfl ?_
      obtain ⟨a3, h4, h⟩ := Option.bind_eq_some_iff.mp h
      obtain ⟨p5, h6, h⟩ := Option.bind_eq_some_iff.mp h
      refine j_callV C (As := [.int x2]) (st := []) (sk' := [.int p5.1]) mk_mdl_isSlot (Or.inl T_860) T_862 S_27 (ci := 7) rfl h4 (rc_le hF (by decide)) (rc_le hL (by decide)) (ct_mdl_isSlot h6) rfl rfl (by decide) d_mdl_push_11 rfl rfl ?_
      refine j_if_eq (tgt := 59) C d_mdl_push_14 (by decide) rfl (fun c7 => ?_) (fun c7 => ?_)
      · rw [if_pos c7] at h
        exact k_mdl_push_59 hF hL hN C E h
      · rw [if_neg c7] at h
        refine j_iload C d_mdl_push_17 rfl 4 rfl ?_
        refine j_if_lt (tgt := 59) C d_mdl_push_19 (by decide) rfl (fun c8 => ?_) (fun c8 => ?_)
        · rw [if_pos c8] at h
          exact k_mdl_push_59 hF hL hN C E h
        · rw [if_neg c8] at h
          refine j_iload_n C d_mdl_push_22 rfl 3 rfl ?_
          refine j_if_lt (tgt := 59) C d_mdl_push_23 (by decide) rfl (fun c9 => ?_) (fun c9 => ?_)
          · rw [if_pos c9] at h
            exact k_mdl_push_59 hF hL hN C E h
          · rw [if_neg c9] at h
            refine j_iload_n C d_mdl_push_26 rfl 3 rfl ?_
            refine j_aload_n C d_mdl_push_27 rfl 0 rfl ?_
            obtain ⟨v10, h11, h⟩ := Option.bind_eq_some_iff.mp h
            refine j_getR C fl_mdl_18 h11 d_mdl_push_28 rfl ?_
            refine j_iload_n C d_mdl_push_31 rfl 2 rfl ?_
            refine j_bipush (v := 64) C d_mdl_push_32 rfl (by decide) ?_
            refine j_irem C d_mdl_push_34 rfl (by decide) ?_
            obtain ⟨v13, h14, h⟩ := Option.bind_eq_some_iff.mp h
            refine j_iald C h14 d_mdl_push_35 rfl ?_
            refine j_icmp_gt (tgt := 59) C d_mdl_push_36 (by decide) rfl (fun c15 => ?_) (fun c15 => ?_)
            · rw [if_pos c15] at h
              exact k_mdl_push_59 hF hL hN C E h
            · rw [if_neg c15] at h
              refine j_iload C d_mdl_push_39 rfl 4 rfl ?_
              refine j_aload_n C d_mdl_push_41 rfl 0 rfl ?_
              obtain ⟨v16, h17, h⟩ := Option.bind_eq_some_iff.mp h
              refine j_getR C fl_mdl_18 h17 d_mdl_push_42 rfl ?_
              refine j_iload_n C d_mdl_push_45 rfl 2 rfl ?_
              refine j_bipush (v := 64) C d_mdl_push_46 rfl (by decide) ?_
              refine j_irem C d_mdl_push_48 rfl (by decide) ?_
              obtain ⟨v19, h20, h⟩ := Option.bind_eq_some_iff.mp h
              refine j_iald C h20 d_mdl_push_49 rfl ?_
              refine j_iload_n C d_mdl_push_50 rfl 3 rfl ?_
              refine j_isub C d_mdl_push_51 rfl ?_
              refine j_icmp_gt (tgt := 59) C d_mdl_push_52 (by decide) rfl (fun c21 => ?_) (fun c21 => ?_)
              · rw [if_pos c21] at h
                exact k_mdl_push_59 hF hL hN C E h
              · rw [if_neg c21] at h
                refine j_iconst (v := 1) C d_mdl_push_55 rfl (by decide) ?_
                refine j_goto (tgt := 60) C d_mdl_push_56 (by decide) ?_
                exact k_mdl_push_60 hF hL hN C E h

set_option maxRecDepth 100000 in
set_option maxHeartbeats 4000000 in
theorem k_mdl_open_15 {X : rc_X} {w0 : rc_M} (hF : (q_R X).frames = 0) (hL : (q_R X).locals = 0) (hN : q_n X = 3) (C : rc_C X "RecordCallsModel" prog_9_method_13_code w0) {res : Int32 × rc_M} (E : rc_E0 X y_mdl_open (some .boolean) (some (.int res.1)) res.2) {w : rc_M} {a0 : Nat} {x1 : Int32} {s0 : Option Nat} {s1 : Int32} (h : b_mdl_open_15 w a0 x1 s0 s1 = some res) : rc_J X w 15 [.int s1, va_rf s0] [(0, va_rf (some a0)), (1, .int x1)] := by
  unfold b_mdl_open_15 at h
  obtain ⟨w1, h2, h⟩ := Option.bind_eq_some_iff.mp h
  refine j_putV C (ci := 7) (k := 0) (by decide) (by decide) T_719 (Or.inl rfl) rfl rfl h2 d_mdl_open_15 rfl ?_
  refine j_aload_n C d_mdl_open_18 rfl 0 rfl ?_
  obtain ⟨v3, h4, h⟩ := Option.bind_eq_some_iff.mp h
  refine j_getI C fl_mdl_74 h4 d_mdl_open_19 rfl ?_
  refine j_if_le (tgt := 27) C d_mdl_open_22 (by decide) rfl (fun c5 => ?_) (fun c5 => ?_)
  · rw [if_pos c5] at h
    refine j_aload_n C d_mdl_open_27 rfl 0 rfl ?_
    obtain ⟨v6, h7, h⟩ := Option.bind_eq_some_iff.mp h
    refine j_getR C fl_mdl_56 h7 d_mdl_open_28 rfl ?_
    refine j_iload_n C d_mdl_open_31 rfl 1 rfl ?_
    obtain ⟨v8, h9, h⟩ := Option.bind_eq_some_iff.mp h
    refine j_zald C h9 d_mdl_open_32 rfl ?_
    refine j_istore_n C (i := 2) d_mdl_open_33 rfl rfl [(2, .int v8), (0, va_rf (some a0)), (1, .int x1)] (rc_lt hN (by decide)) (by first | rfl | simp [va_rf_cat, rc_cat_i, rc_cat_l]) ?_
    refine j_aload_n C d_mdl_open_34 rfl 1 rfl ?_
    obtain ⟨v10, h11, h⟩ := Option.bind_eq_some_iff.mp h
    refine j_getR C fl_mdl_56 h11 d_mdl_open_35 rfl ?_
    refine j_iload_n C d_mdl_open_38 rfl 2 rfl ?_
    refine j_iconst (v := 0) C d_mdl_open_39 rfl (by decide) ?_
    obtain ⟨w12, h13, h⟩ := Option.bind_eq_some_iff.mp h
    refine j_zast C h13 d_mdl_open_40 rfl ?_
    refine j_aload_n C d_mdl_open_41 rfl 1 rfl ?_
    obtain ⟨v14, h15, h⟩ := Option.bind_eq_some_iff.mp h
    refine j_getR C fl_mdl_53 h15 d_mdl_open_42 rfl ?_
    refine j_iload_n C d_mdl_open_45 rfl 2 rfl ?_
    refine j_iconst (v := 0) C d_mdl_open_46 rfl (by decide) ?_
    obtain ⟨w16, h17, h⟩ := Option.bind_eq_some_iff.mp h
    refine j_zast C h17 d_mdl_open_47 rfl ?_
    refine j_aload_n C d_mdl_open_48 rfl 1 rfl ?_
    obtain ⟨v18, h19, h⟩ := Option.bind_eq_some_iff.mp h
    refine j_getR C fl_mdl_40 h19 d_mdl_open_49 rfl ?_
    refine j_iload_n C d_mdl_open_52 rfl 2 rfl ?_
    refine j_iconst (v := 0) C d_mdl_open_53 rfl (by decide) ?_
    obtain ⟨w20, h21, h⟩ := Option.bind_eq_some_iff.mp h
    refine j_iast C h21 d_mdl_open_54 rfl ?_
    refine j_aload_n C d_mdl_open_55 rfl 1 rfl ?_
    obtain ⟨v22, h23, h⟩ := Option.bind_eq_some_iff.mp h
    refine j_getR C fl_mdl_37 h23 d_mdl_open_56 rfl ?_
    refine j_iload_n C d_mdl_open_59 rfl 2 rfl ?_
    refine j_iconst (v := 0) C d_mdl_open_60 rfl (by decide) ?_
    obtain ⟨w24, h25, h⟩ := Option.bind_eq_some_iff.mp h
    refine j_iast C h25 d_mdl_open_61 rfl ?_
    refine j_iload_n C d_mdl_open_62 rfl 0 rfl ?_
    obtain ⟨hz, rfl⟩ := rc_z1_spec h
    exact j_zret C hz E d_mdl_open_63
  · rw [if_neg c5] at h
    refine j_iconst (v := 0) C d_mdl_open_25 rfl (by decide) ?_
    obtain ⟨hz, rfl⟩ := rc_z1_spec h
    exact j_zret C hz E d_mdl_open_26

set_option maxRecDepth 100000 in
set_option maxHeartbeats 4000000 in
theorem k_mdl_open_14 {X : rc_X} {w0 : rc_M} (hF : (q_R X).frames = 0) (hL : (q_R X).locals = 0) (hN : q_n X = 3) (C : rc_C X "RecordCallsModel" prog_9_method_13_code w0) {res : Int32 × rc_M} (E : rc_E0 X y_mdl_open (some .boolean) (some (.int res.1)) res.2) {w : rc_M} {a0 : Nat} {x1 : Int32} {s0 : Option Nat} (h : b_mdl_open_14 w a0 x1 s0 = some res) : rc_J X w 14 [va_rf s0] [(0, va_rf (some a0)), (1, .int x1)] := by
  unfold b_mdl_open_14 at h
  refine j_iconst (v := 1) C d_mdl_open_14 rfl (by decide) ?_
  exact k_mdl_open_15 hF hL hN C E h

set_option maxRecDepth 100000 in
set_option maxHeartbeats 4000000 in
theorem ct_mdl_open {l : Launch} {G : rc_G} {w : rc_M} {a0 : Nat} {x1 : Int32} {res : Int32 × rc_M} (h : f_mdl_open w a0 x1 = some res) : rc_Ct l G y_mdl_open prog_9_method_13_code 3 (some .boolean) 0 0 [va_rf (some a0), .int x1] w (some (.int res.1)) res.2 := by
  refine rc_enter (by decide +kernel) (by simp [lg_sl, va_rf_cat, rc_cat_i, rc_cat_l]) ?_
  intro X _ _ hN hF hL C E
  have hlv : lv_args 0 [va_rf (some a0), .int x1] = [(0, va_rf (some a0)), (1, .int x1)] := by simp [lv_args, va_rf_cat, rc_cat_i, rc_cat_l]
  rw [hlv]
  clear hlv
  unfold f_mdl_open at h
  refine j_aload_n C d_mdl_open_0 rfl 0 rfl ?_
  refine j_iload_n C d_mdl_open_1 rfl 1 rfl ?_
  refine j_if_lt (tgt := 14) C d_mdl_open_2 (by decide) rfl (fun c1 => ?_) (fun c1 => ?_)
  · rw [if_pos c1] at h
    exact k_mdl_open_14 hF hL hN C E h
  · rw [if_neg c1] at h
    refine j_iload_n C d_mdl_open_5 rfl 1 rfl ?_
    refine j_iconst (v := 4) C d_mdl_open_6 rfl (by decide) ?_
    refine j_icmp_ge (tgt := 14) C d_mdl_open_7 (by decide) rfl (fun c2 => ?_) (fun c2 => ?_)
    · rw [if_pos c2] at h
      exact k_mdl_open_14 hF hL hN C E h
    · rw [if_neg c2] at h
      refine j_iconst (v := 0) C d_mdl_open_10 rfl (by decide) ?_
      refine j_goto (tgt := 15) C d_mdl_open_11 (by decide) ?_
      exact k_mdl_open_15 hF hL hN C E h

set_option maxRecDepth 100000 in
set_option maxHeartbeats 4000000 in
theorem k_mdl_feed_87 {X : rc_X} {w0 : rc_M} (hF : (q_R X).frames = 0) (hL : (q_R X).locals = 0) (hN : q_n X = 8) (C : rc_C X "RecordCallsModel" prog_9_method_34_code w0) {res : Int32 × rc_M} (E : rc_E0 X y_mdl_feed (some .int) (some (.int res.1)) res.2) {k34 : rc_M → Nat → Int32 → Int32 → Int32 → Int32 → Int32 → Int32 → Option (Int32 × rc_M)} (hk34 : ∀ (w : rc_M) (a0 : Nat) (x1 : Int32) (x2 : Int32) (x3 : Int32) (x4 : Int32) (x5 : Int32) (x6 : Int32), k34 w a0 x1 x2 x3 x4 x5 x6 = some res → rc_J X w 34 [] [(0, va_rf (some a0)), (1, .int x1), (2, .int x2), (3, .int x3), (4, .int x4), (5, .int x5), (6, .int x6)]) {w : rc_M} {a0 : Nat} {x1 : Int32} {x2 : Int32} {x3 : Int32} {x4 : Int32} {x5 : Int32} {x6 : Int32} {s0 : Int32} (h : b_mdl_feed_87 k34 w a0 x1 x2 x3 x4 x5 x6 s0 = some res) : rc_J X w 87 [.int s0] [(0, va_rf (some a0)), (1, .int x1), (2, .int x2), (3, .int x3), (4, .int x4), (5, .int x5), (6, .int x6)] := by
  unfold b_mdl_feed_87 at h
  refine j_istore C (i := 7) d_mdl_feed_87 rfl [(7, .int s0), (0, va_rf (some a0)), (1, .int x1), (2, .int x2), (3, .int x3), (4, .int x4), (5, .int x5), (6, .int x6)] (rc_lt hN (by decide)) (by first | rfl | simp [va_rf_cat, rc_cat_i, rc_cat_l]) ?_
  refine j_aload_n C d_mdl_feed_89 rfl 1 rfl ?_
  obtain ⟨v1, h2, h⟩ := Option.bind_eq_some_iff.mp h
  refine j_getR C fl_mdl_7 h2 d_mdl_feed_90 rfl ?_
  refine j_aload_n C d_mdl_feed_93 rfl 1 rfl ?_
  obtain ⟨v3, h4, h⟩ := Option.bind_eq_some_iff.mp h
  refine j_getI C fl_mdl_93 h4 d_mdl_feed_94 rfl ?_
  refine j_iload C d_mdl_feed_97 rfl 7 rfl ?_
  refine j_iadd C d_mdl_feed_99 rfl ?_
  refine j_iload C d_mdl_feed_100 rfl 0 rfl ?_
  refine j_bipush (v := 24) C d_mdl_feed_102 rfl (by decide) ?_
  refine j_bipush (v := 8) C d_mdl_feed_104 rfl (by decide) ?_
  refine j_iload C d_mdl_feed_106 rfl 7 rfl ?_
  refine j_iconst (v := 4) C d_mdl_feed_108 rfl (by decide) ?_
  refine j_irem C d_mdl_feed_109 rfl (by decide) ?_
  refine j_imul C d_mdl_feed_110 rfl ?_
  refine j_isub C d_mdl_feed_111 rfl ?_
  refine j_ishr C d_mdl_feed_112 rfl ?_
  refine j_sipush (v := 255) C d_mdl_feed_113 rfl (by decide) ?_
  refine j_iand C d_mdl_feed_116 rfl ?_
  obtain ⟨w6, h7, h⟩ := Option.bind_eq_some_iff.mp h
  refine j_iast C h7 d_mdl_feed_117 rfl ?_
  refine j_iinc C d_mdl_feed_118 rfl 7 [(6, .int (x6 + 1)), (7, .int s0), (0, va_rf (some a0)), (1, .int x1), (2, .int x2), (3, .int x3), (4, .int x4), (5, .int x5)] rfl rfl (rc_lt hN (by decide)) (by first | rfl | simp [va_rf_cat, rc_cat_i, rc_cat_l]) ?_
  refine j_goto (tgt := 34) C d_mdl_feed_121 (by decide) ?_
  refine rc_J.sub (lv' := [(0, va_rf (some a0)), (1, .int x1), (2, .int x2), (3, .int x3), (4, .int x4), (5, .int x5), (6, .int (x6 + 1))]) [2, 3, 4, 5, 6, 7, 0] rfl ?_
  exact hk34 _ _ _ _ _ _ _ _ h

set_option maxRecDepth 100000 in
set_option maxHeartbeats 4000000 in
theorem k_mdl_feed_34 {X : rc_X} {w0 : rc_M} (hF : (q_R X).frames = 0) (hL : (q_R X).locals = 0) (hN : q_n X = 8) (C : rc_C X "RecordCallsModel" prog_9_method_34_code w0) {res : Int32 × rc_M} (E : rc_E0 X y_mdl_feed (some .int) (some (.int res.1)) res.2) : ∀ (fuel : Nat) (w : rc_M) (a0 : Nat) (x1 : Int32) (x2 : Int32) (x3 : Int32) (x4 : Int32) (x5 : Int32) (x6 : Int32), b_mdl_feed_34 fuel w a0 x1 x2 x3 x4 x5 x6 = some res → rc_J X w 34 [] [(0, va_rf (some a0)), (1, .int x1), (2, .int x2), (3, .int x3), (4, .int x4), (5, .int x5), (6, .int x6)] := by
  intro fuel
  induction fuel with
  | zero => intro w a0 x1 x2 x3 x4 x5 x6 h; simp [b_mdl_feed_34] at h
  | succ fuel ih =>
    intro w a0 x1 x2 x3 x4 x5 x6 h
    unfold b_mdl_feed_34 at h
    refine j_iload C d_mdl_feed_34 rfl 6 rfl ?_
    refine j_bipush (v := 20) C d_mdl_feed_36 rfl (by decide) ?_
    refine j_icmp_ge (tgt := 124) C d_mdl_feed_38 (by decide) rfl (fun c1 => ?_) (fun c1 => ?_)
    · rw [if_pos c1] at h
      refine j_aload_n C d_mdl_feed_124 rfl 0 rfl ?_
      refine j_aload_n C d_mdl_feed_125 rfl 0 rfl ?_
      obtain ⟨v2, h3, h⟩ := Option.bind_eq_some_iff.mp h
      refine j_getI C fl_mdl_93 h3 d_mdl_feed_126 rfl ?_
      refine j_bipush (v := 20) C d_mdl_feed_129 rfl (by decide) ?_
      refine j_iadd C d_mdl_feed_131 rfl ?_
      obtain ⟨w4, h5, h⟩ := Option.bind_eq_some_iff.mp h
      refine j_putV C (ci := 7) (k := 2) (by decide) (by decide) T_721 (Or.inl rfl) rfl rfl h5 d_mdl_feed_132 rfl ?_
      refine j_aload_n C d_mdl_feed_135 rfl 0 rfl ?_
      obtain ⟨v6, h7, h⟩ := Option.bind_eq_some_iff.mp h
      refine j_getI C fl_mdl_93 h7 d_mdl_feed_136 rfl ?_
      cases h
      exact j_iret C E d_mdl_feed_139
    · rw [if_neg c1] at h
      refine j_iload C d_mdl_feed_41 rfl 6 rfl ?_
      refine j_iconst (v := 4) C d_mdl_feed_43 rfl (by decide) ?_
      refine j_icmp_ge (tgt := 51) C d_mdl_feed_44 (by decide) rfl (fun c8 => ?_) (fun c8 => ?_)
      · rw [if_pos c8] at h
        refine j_iload C d_mdl_feed_51 rfl 6 rfl ?_
        refine j_bipush (v := 8) C d_mdl_feed_53 rfl (by decide) ?_
        refine j_icmp_ge (tgt := 62) C d_mdl_feed_55 (by decide) rfl (fun c9 => ?_) (fun c9 => ?_)
        · rw [if_pos c9] at h
          refine j_iload C d_mdl_feed_62 rfl 6 rfl ?_
          refine j_bipush (v := 12) C d_mdl_feed_64 rfl (by decide) ?_
          refine j_icmp_ge (tgt := 73) C d_mdl_feed_66 (by decide) rfl (fun c10 => ?_) (fun c10 => ?_)
          · rw [if_pos c10] at h
            refine j_iload C d_mdl_feed_73 rfl 6 rfl ?_
            refine j_bipush (v := 16) C d_mdl_feed_75 rfl (by decide) ?_
            refine j_icmp_ge (tgt := 85) C d_mdl_feed_77 (by decide) rfl (fun c11 => ?_) (fun c11 => ?_)
            · rw [if_pos c11] at h
              refine j_iload C d_mdl_feed_85 rfl 5 rfl ?_
              exact k_mdl_feed_87 hF hL hN C E (fun w z0 z1 z2 z3 z4 z5 z6 h => ih w z0 z1 z2 z3 z4 z5 z6 h) h
            · rw [if_neg c11] at h
              refine j_iload C d_mdl_feed_80 rfl 4 rfl ?_
              refine j_goto (tgt := 87) C d_mdl_feed_82 (by decide) ?_
              exact k_mdl_feed_87 hF hL hN C E (fun w z0 z1 z2 z3 z4 z5 z6 h => ih w z0 z1 z2 z3 z4 z5 z6 h) h
          · rw [if_neg c10] at h
            refine j_iload_n C d_mdl_feed_69 rfl 3 rfl ?_
            refine j_goto (tgt := 87) C d_mdl_feed_70 (by decide) ?_
            exact k_mdl_feed_87 hF hL hN C E (fun w z0 z1 z2 z3 z4 z5 z6 h => ih w z0 z1 z2 z3 z4 z5 z6 h) h
        · rw [if_neg c9] at h
          refine j_iload_n C d_mdl_feed_58 rfl 2 rfl ?_
          refine j_goto (tgt := 87) C d_mdl_feed_59 (by decide) ?_
          exact k_mdl_feed_87 hF hL hN C E (fun w z0 z1 z2 z3 z4 z5 z6 h => ih w z0 z1 z2 z3 z4 z5 z6 h) h
      · rw [if_neg c8] at h
        refine j_iload_n C d_mdl_feed_47 rfl 1 rfl ?_
        refine j_goto (tgt := 87) C d_mdl_feed_48 (by decide) ?_
        exact k_mdl_feed_87 hF hL hN C E (fun w z0 z1 z2 z3 z4 z5 z6 h => ih w z0 z1 z2 z3 z4 z5 z6 h) h

set_option maxRecDepth 100000 in
set_option maxHeartbeats 4000000 in
theorem k_mdl_feed_19 {X : rc_X} {w0 : rc_M} (hF : (q_R X).frames = 0) (hL : (q_R X).locals = 0) (hN : q_n X = 8) (C : rc_C X "RecordCallsModel" prog_9_method_34_code w0) {res : Int32 × rc_M} (E : rc_E0 X y_mdl_feed (some .int) (some (.int res.1)) res.2) {w : rc_M} {a0 : Nat} {x1 : Int32} {x2 : Int32} {x3 : Int32} {x4 : Int32} {x5 : Int32} {s0 : Option Nat} {s1 : Int32} (h : b_mdl_feed_19 w a0 x1 x2 x3 x4 x5 s0 s1 = some res) : rc_J X w 19 [.int s1, va_rf s0] [(0, va_rf (some a0)), (1, .int x1), (2, .int x2), (3, .int x3), (4, .int x4), (5, .int x5)] := by
  unfold b_mdl_feed_19 at h
  obtain ⟨w1, h2, h⟩ := Option.bind_eq_some_iff.mp h
  refine j_putV C (ci := 7) (k := 0) (by decide) (by decide) T_719 (Or.inl rfl) rfl rfl h2 d_mdl_feed_19 rfl ?_
  refine j_aload_n C d_mdl_feed_22 rfl 0 rfl ?_
  obtain ⟨v3, h4, h⟩ := Option.bind_eq_some_iff.mp h
  refine j_getI C fl_mdl_74 h4 d_mdl_feed_23 rfl ?_
  refine j_if_le (tgt := 31) C d_mdl_feed_26 (by decide) rfl (fun c5 => ?_) (fun c5 => ?_)
  · rw [if_pos c5] at h
    refine j_iconst (v := 0) C d_mdl_feed_31 rfl (by decide) ?_
    refine j_istore C (i := 6) d_mdl_feed_32 rfl [(6, .int 0), (0, va_rf (some a0)), (1, .int x1), (2, .int x2), (3, .int x3), (4, .int x4), (5, .int x5)] (rc_lt hN (by decide)) (by first | rfl | simp [va_rf_cat, rc_cat_i, rc_cat_l]) ?_
    refine rc_J.sub (lv' := [(0, va_rf (some a0)), (1, .int x1), (2, .int x2), (3, .int x3), (4, .int x4), (5, .int x5), (6, .int 0)]) [1, 2, 3, 4, 5, 6, 0] rfl ?_
    exact k_mdl_feed_34 hF hL hN C E _ _ _ _ _ _ _ _ _ h
  · rw [if_neg c5] at h
    refine j_iconst (v := 0) C d_mdl_feed_29 rfl (by decide) ?_
    cases h
    exact j_iret C E d_mdl_feed_30

set_option maxRecDepth 100000 in
set_option maxHeartbeats 4000000 in
theorem ct_mdl_feed {l : Launch} {G : rc_G} {w : rc_M} {a0 : Nat} {x1 : Int32} {x2 : Int32} {x3 : Int32} {x4 : Int32} {x5 : Int32} {res : Int32 × rc_M} (h : f_mdl_feed w a0 x1 x2 x3 x4 x5 = some res) : rc_Ct l G y_mdl_feed prog_9_method_34_code 8 (some .int) 0 0 [va_rf (some a0), .int x1, .int x2, .int x3, .int x4, .int x5] w (some (.int res.1)) res.2 := by
  refine rc_enter (by decide +kernel) (by simp [lg_sl, va_rf_cat, rc_cat_i, rc_cat_l]) ?_
  intro X _ _ hN hF hL C E
  have hlv : lv_args 0 [va_rf (some a0), .int x1, .int x2, .int x3, .int x4, .int x5] = [(0, va_rf (some a0)), (1, .int x1), (2, .int x2), (3, .int x3), (4, .int x4), (5, .int x5)] := by simp [lv_args, va_rf_cat, rc_cat_i, rc_cat_l]
  rw [hlv]
  clear hlv
  unfold f_mdl_feed at h
  refine j_aload_n C d_mdl_feed_0 rfl 0 rfl ?_
  refine j_aload_n C d_mdl_feed_1 rfl 0 rfl ?_
  obtain ⟨v1, h2, h⟩ := Option.bind_eq_some_iff.mp h
  refine j_getI C fl_mdl_93 h2 d_mdl_feed_2 rfl ?_
  refine j_bipush (v := 20) C d_mdl_feed_5 rfl (by decide) ?_
  refine j_iadd C d_mdl_feed_7 rfl ?_
  refine j_sipush (v := 1600) C d_mdl_feed_8 rfl (by decide) ?_
  refine j_icmp_le (tgt := 18) C d_mdl_feed_11 (by decide) rfl (fun c3 => ?_) (fun c3 => ?_)
  · rw [if_pos c3] at h
    refine j_iconst (v := 0) C d_mdl_feed_18 rfl (by decide) ?_
    exact k_mdl_feed_19 hF hL hN C E h
  · rw [if_neg c3] at h
    refine j_iconst (v := 1) C d_mdl_feed_14 rfl (by decide) ?_
    refine j_goto (tgt := 19) C d_mdl_feed_15 (by decide) ?_
    exact k_mdl_feed_19 hF hL hN C E h

set_option maxRecDepth 100000 in
set_option maxHeartbeats 4000000 in
theorem k_mdl_end_37 {X : rc_X} {w0 : rc_M} (hF : (q_R X).frames = 0) (hL : (q_R X).locals = 0) (hN : q_n X = 2) (C : rc_C X "RecordCallsModel" prog_9_method_35_code w0) {res : rc_M} (E : rc_E0 X y_mdl_end none none res) {w : rc_M} {s0 : Option Nat} {s1 : Int32} (h : b_mdl_end_37 w s0 s1 = some res) : rc_J X w 37 [.int s1, va_rf s0] [] := by
  unfold b_mdl_end_37 at h
  obtain ⟨w1, h2, h⟩ := Option.bind_eq_some_iff.mp h
  refine j_putV C (ci := 7) (k := 2) (by decide) (by decide) T_721 (Or.inl rfl) rfl rfl h2 d_mdl_end_37 rfl ?_
  cases h
  exact j_vret C E d_mdl_end_40

set_option maxRecDepth 100000 in
set_option maxHeartbeats 4000000 in
theorem k_mdl_end_18 {X : rc_X} {w0 : rc_M} (hF : (q_R X).frames = 0) (hL : (q_R X).locals = 0) (hN : q_n X = 2) (C : rc_C X "RecordCallsModel" prog_9_method_35_code w0) {res : rc_M} (E : rc_E0 X y_mdl_end none none res) {w : rc_M} {a0 : Nat} {x1 : Int32} {s0 : Option Nat} {s1 : Int32} (h : b_mdl_end_18 w a0 x1 s0 s1 = some res) : rc_J X w 18 [.int s1, va_rf s0] [(0, va_rf (some a0)), (1, .int x1)] := by
  unfold b_mdl_end_18 at h
  obtain ⟨w1, h2, h⟩ := Option.bind_eq_some_iff.mp h
  refine j_putV C (ci := 7) (k := 0) (by decide) (by decide) T_719 (Or.inl rfl) rfl rfl h2 d_mdl_end_18 rfl ?_
  refine j_aload_n C d_mdl_end_21 rfl 0 rfl ?_
  refine j_aload_n C d_mdl_end_22 rfl 0 rfl ?_
  obtain ⟨v3, h4, h⟩ := Option.bind_eq_some_iff.mp h
  refine j_getI C fl_mdl_74 h4 d_mdl_end_23 rfl ?_
  refine j_if_le (tgt := 36) C d_mdl_end_26 (by decide) rfl (fun c5 => ?_) (fun c5 => ?_)
  · rw [if_pos c5] at h
    refine j_iload_n C d_mdl_end_36 rfl 1 rfl ?_
    refine rc_J.sub (lv' := []) [] rfl ?_
    exact k_mdl_end_37 hF hL hN C E h
  · rw [if_neg c5] at h
    refine j_aload_n C d_mdl_end_29 rfl 0 rfl ?_
    obtain ⟨v6, h7, h⟩ := Option.bind_eq_some_iff.mp h
    refine j_getI C fl_mdl_93 h7 d_mdl_end_30 rfl ?_
    refine j_goto (tgt := 37) C d_mdl_end_33 (by decide) ?_
    refine rc_J.sub (lv' := []) [] rfl ?_
    exact k_mdl_end_37 hF hL hN C E h

set_option maxRecDepth 100000 in
set_option maxHeartbeats 4000000 in
theorem k_mdl_end_17 {X : rc_X} {w0 : rc_M} (hF : (q_R X).frames = 0) (hL : (q_R X).locals = 0) (hN : q_n X = 2) (C : rc_C X "RecordCallsModel" prog_9_method_35_code w0) {res : rc_M} (E : rc_E0 X y_mdl_end none none res) {w : rc_M} {a0 : Nat} {x1 : Int32} {s0 : Option Nat} (h : b_mdl_end_17 w a0 x1 s0 = some res) : rc_J X w 17 [va_rf s0] [(0, va_rf (some a0)), (1, .int x1)] := by
  unfold b_mdl_end_17 at h
  refine j_iconst (v := 1) C d_mdl_end_17 rfl (by decide) ?_
  exact k_mdl_end_18 hF hL hN C E h

set_option maxRecDepth 100000 in
set_option maxHeartbeats 4000000 in
theorem ct_mdl_end {l : Launch} {G : rc_G} {w : rc_M} {a0 : Nat} {x1 : Int32} {res : rc_M} (h : f_mdl_end w a0 x1 = some res) : rc_Ct l G y_mdl_end prog_9_method_35_code 2 none 0 0 [va_rf (some a0), .int x1] w none res := by
  refine rc_enter (by decide +kernel) (by simp [lg_sl, va_rf_cat, rc_cat_i, rc_cat_l]) ?_
  intro X _ _ hN hF hL C E
  have hlv : lv_args 0 [va_rf (some a0), .int x1] = [(0, va_rf (some a0)), (1, .int x1)] := by simp [lv_args, va_rf_cat, rc_cat_i, rc_cat_l]
  rw [hlv]
  clear hlv
  unfold f_mdl_end at h
  refine j_aload_n C d_mdl_end_0 rfl 0 rfl ?_
  refine j_iload_n C d_mdl_end_1 rfl 1 rfl ?_
  refine j_if_lt (tgt := 17) C d_mdl_end_2 (by decide) rfl (fun c1 => ?_) (fun c1 => ?_)
  · rw [if_pos c1] at h
    exact k_mdl_end_17 hF hL hN C E h
  · rw [if_neg c1] at h
    refine j_iload_n C d_mdl_end_5 rfl 1 rfl ?_
    refine j_aload_n C d_mdl_end_6 rfl 0 rfl ?_
    obtain ⟨v2, h3, h⟩ := Option.bind_eq_some_iff.mp h
    refine j_getI C fl_mdl_93 h3 d_mdl_end_7 rfl ?_
    refine j_icmp_gt (tgt := 17) C d_mdl_end_10 (by decide) rfl (fun c4 => ?_) (fun c4 => ?_)
    · rw [if_pos c4] at h
      exact k_mdl_end_17 hF hL hN C E h
    · rw [if_neg c4] at h
      refine j_iconst (v := 0) C d_mdl_end_13 rfl (by decide) ?_
      refine j_goto (tgt := 18) C d_mdl_end_14 (by decide) ?_
      exact k_mdl_end_18 hF hL hN C E h

set_option maxRecDepth 100000 in
set_option maxHeartbeats 4000000 in
theorem k_mdl_length_37 {X : rc_X} {w0 : rc_M} (hF : (q_R X).frames = 1) (hL : (q_R X).locals = 21) (hN : q_n X = 2) (C : rc_C X "RecordCallsModel" prog_9_method_36_code w0) {res : Int32 × rc_M} (E : rc_E0 X y_mdl_length (some .int) (some (.int res.1)) res.2) {w : rc_M} {s0 : Int32} (h : b_mdl_length_37 w s0 = some res) : rc_J X w 37 [.int s0] [] := by
  unfold b_mdl_length_37 at h
  cases h
  exact j_iret C E d_mdl_length_37

set_option maxRecDepth 100000 in
set_option maxHeartbeats 4000000 in
theorem k_mdl_length_14 {X : rc_X} {w0 : rc_M} (hF : (q_R X).frames = 1) (hL : (q_R X).locals = 21) (hN : q_n X = 2) (C : rc_C X "RecordCallsModel" prog_9_method_36_code w0) {res : Int32 × rc_M} (E : rc_E0 X y_mdl_length (some .int) (some (.int res.1)) res.2) {w : rc_M} {a0 : Nat} {x1 : Int32} {s0 : Option Nat} {s1 : Int32} (h : b_mdl_length_14 w a0 x1 s0 s1 = some res) : rc_J X w 14 [.int s1, va_rf s0] [(0, va_rf (some a0)), (1, .int x1)] := by
  unfold b_mdl_length_14 at h
  obtain ⟨w1, h2, h⟩ := Option.bind_eq_some_iff.mp h
  refine j_putV C (ci := 7) (k := 0) (by decide) (by decide) T_719 (Or.inl rfl) rfl rfl h2 d_mdl_length_14 rfl ?_
  refine j_aload_n C d_mdl_length_17 rfl 0 rfl ?_
  obtain ⟨v3, h4, h⟩ := Option.bind_eq_some_iff.mp h
  refine j_getI C fl_mdl_74 h4 d_mdl_length_18 rfl ?_
  refine j_if_le (tgt := 28) C d_mdl_length_21 (by decide) rfl (fun c5 => ?_) (fun c5 => ?_)
  · rw [if_pos c5] at h
    refine j_aload_n C d_mdl_length_28 rfl 0 rfl ?_
    obtain ⟨v6, h7, h⟩ := Option.bind_eq_some_iff.mp h
    refine j_getR C fl_mdl_18 h7 d_mdl_length_29 rfl ?_
    refine j_iload_n C d_mdl_length_32 rfl 1 rfl ?_
    refine j_bipush (v := 64) C d_mdl_length_33 rfl (by decide) ?_
    refine j_irem C d_mdl_length_35 rfl (by decide) ?_
    obtain ⟨v9, h10, h⟩ := Option.bind_eq_some_iff.mp h
    refine j_iald C h10 d_mdl_length_36 rfl ?_
    refine rc_J.sub (lv' := []) [] rfl ?_
    exact k_mdl_length_37 hF hL hN C E h
  · rw [if_neg c5] at h
    refine j_iconst (v := 0) C d_mdl_length_24 rfl (by decide) ?_
    refine j_goto (tgt := 37) C d_mdl_length_25 (by decide) ?_
    refine rc_J.sub (lv' := []) [] rfl ?_
    exact k_mdl_length_37 hF hL hN C E h

set_option maxRecDepth 100000 in
set_option maxHeartbeats 4000000 in
theorem ct_mdl_length {l : Launch} {G : rc_G} {w : rc_M} {a0 : Nat} {x1 : Int32} {res : Int32 × rc_M} (h : f_mdl_length w a0 x1 = some res) : rc_Ct l G y_mdl_length prog_9_method_36_code 2 (some .int) 1 21 [va_rf (some a0), .int x1] w (some (.int res.1)) res.2 := by
  refine rc_enter (by decide +kernel) (by simp [lg_sl, va_rf_cat, rc_cat_i, rc_cat_l]) ?_
  intro X _ _ hN hF hL C E
  have hlv : lv_args 0 [va_rf (some a0), .int x1] = [(0, va_rf (some a0)), (1, .int x1)] := by simp [lv_args, va_rf_cat, rc_cat_i, rc_cat_l]
  rw [hlv]
  clear hlv
  unfold f_mdl_length at h
  refine j_aload_n C d_mdl_length_0 rfl 0 rfl ?_
  refine j_aload_n C d_mdl_length_1 rfl 0 rfl ?_
  refine j_iload_n C d_mdl_length_2 rfl 1 rfl ?_
  obtain ⟨a1, h2, h⟩ := Option.bind_eq_some_iff.mp h
  obtain ⟨p3, h4, h⟩ := Option.bind_eq_some_iff.mp h
  refine j_callV C (As := [.int x1]) (st := [va_rf (some a0)]) (sk' := [.int p3.1, va_rf (some a0)]) mk_mdl_isSlot (Or.inl T_860) T_862 S_27 (ci := 7) rfl h2 (rc_le hF (by decide)) (rc_le hL (by decide)) (ct_mdl_isSlot h4) rfl rfl (by simp [va_rf_cat, rc_cat_i, rc_cat_l]) d_mdl_length_3 rfl rfl ?_
  refine j_if_eq (tgt := 13) C d_mdl_length_6 (by decide) rfl (fun c5 => ?_) (fun c5 => ?_)
  · rw [if_pos c5] at h
    refine j_iconst (v := 1) C d_mdl_length_13 rfl (by decide) ?_
    exact k_mdl_length_14 hF hL hN C E h
  · rw [if_neg c5] at h
    refine j_iconst (v := 0) C d_mdl_length_9 rfl (by decide) ?_
    refine j_goto (tgt := 14) C d_mdl_length_10 (by decide) ?_
    exact k_mdl_length_14 hF hL hN C E h

