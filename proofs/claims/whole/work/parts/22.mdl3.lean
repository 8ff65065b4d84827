theorem fl_mdl_175 : rc_FL "RecordCallsModel" 175 7 23 := ⟨by decide, by decide, Or.inl T_742⟩
theorem fl_mdl_181 : rc_FL "RecordCallsModel" 181 7 33 := ⟨by decide, by decide, Or.inl T_752⟩
theorem d_mdl_runList_0 : decode prog_9_method_33_code 0 = .ok (.aload_n 0, 1) := by decide +kernel
theorem d_mdl_runList_1 : decode prog_9_method_33_code 1 = .ok (.invokevirtual 129, 3) := by decide +kernel
theorem d_mdl_runList_4 : decode prog_9_method_33_code 4 = .ok (.i2l, 1) := by decide +kernel
theorem d_mdl_runList_5 : decode prog_9_method_33_code 5 = .ok (.ldc2_w 132, 3) := by decide +kernel
theorem d_mdl_runList_8 : decode prog_9_method_33_code 8 = .ok (.land, 1) := by decide +kernel
theorem d_mdl_runList_9 : decode prog_9_method_33_code 9 = .ok (.lstore_n 1, 1) := by decide +kernel
theorem d_mdl_runList_10 : decode prog_9_method_33_code 10 = .ok (.aload_n 0, 1) := by decide +kernel
theorem d_mdl_runList_11 : decode prog_9_method_33_code 11 = .ok (.invokevirtual 129, 3) := by decide +kernel
theorem d_mdl_runList_14 : decode prog_9_method_33_code 14 = .ok (.i2l, 1) := by decide +kernel
theorem d_mdl_runList_15 : decode prog_9_method_33_code 15 = .ok (.ldc2_w 132, 3) := by decide +kernel
theorem d_mdl_runList_18 : decode prog_9_method_33_code 18 = .ok (.land, 1) := by decide +kernel
theorem d_mdl_runList_19 : decode prog_9_method_33_code 19 = .ok (.lstore_n 3, 1) := by decide +kernel
theorem d_mdl_runList_20 : decode prog_9_method_33_code 20 = .ok (.lload_n 1, 1) := by decide +kernel
theorem d_mdl_runList_21 : decode prog_9_method_33_code 21 = .ok (.aload_n 0, 1) := by decide +kernel
theorem d_mdl_runList_22 : decode prog_9_method_33_code 22 = .ok (.getfield 188, 3) := by decide +kernel
theorem d_mdl_runList_25 : decode prog_9_method_33_code 25 = .ok (.i2l, 1) := by decide +kernel
theorem d_mdl_runList_26 : decode prog_9_method_33_code 26 = .ok (.lcmp, 1) := by decide +kernel
theorem d_mdl_runList_27 : decode prog_9_method_33_code 27 = .ok (.ifCond .ge 13, 3) := by decide +kernel
theorem d_mdl_runList_30 : decode prog_9_method_33_code 30 = .ok (.aload_n 0, 1) := by decide +kernel
theorem d_mdl_runList_31 : decode prog_9_method_33_code 31 = .ok (.getfield 188, 3) := by decide +kernel
theorem d_mdl_runList_34 : decode prog_9_method_33_code 34 = .ok (.i2l, 1) := by decide +kernel
theorem d_mdl_runList_35 : decode prog_9_method_33_code 35 = .ok (.lload_n 1, 1) := by decide +kernel
theorem d_mdl_runList_36 : decode prog_9_method_33_code 36 = .ok (.lsub, 1) := by decide +kernel
theorem d_mdl_runList_37 : decode prog_9_method_33_code 37 = .ok (.goto 4, 3) := by decide +kernel
theorem d_mdl_runList_40 : decode prog_9_method_33_code 40 = .ok (.lconst 0, 1) := by decide +kernel
theorem d_mdl_runList_41 : decode prog_9_method_33_code 41 = .ok (.lstore 5, 2) := by decide +kernel
theorem d_mdl_runList_43 : decode prog_9_method_33_code 43 = .ok (.lload 5, 2) := by decide +kernel
theorem d_mdl_runList_45 : decode prog_9_method_33_code 45 = .ok (.lload_n 3, 1) := by decide +kernel
theorem d_mdl_runList_46 : decode prog_9_method_33_code 46 = .ok (.lcmp, 1) := by decide +kernel
theorem d_mdl_runList_47 : decode prog_9_method_33_code 47 = .ok (.ifCond .ge 8, 3) := by decide +kernel
theorem d_mdl_runList_50 : decode prog_9_method_33_code 50 = .ok (.lload 5, 2) := by decide +kernel
theorem d_mdl_runList_52 : decode prog_9_method_33_code 52 = .ok (.goto 4, 3) := by decide +kernel
theorem d_mdl_runList_55 : decode prog_9_method_33_code 55 = .ok (.lload_n 3, 1) := by decide +kernel
theorem d_mdl_runList_56 : decode prog_9_method_33_code 56 = .ok (.l2i, 1) := by decide +kernel
theorem d_mdl_runList_57 : decode prog_9_method_33_code 57 = .ok (.istore 7, 2) := by decide +kernel
theorem d_mdl_runList_59 : decode prog_9_method_33_code 59 = .ok (.iload 7, 2) := by decide +kernel
theorem d_mdl_runList_61 : decode prog_9_method_33_code 61 = .ok (.bipush 8, 2) := by decide +kernel
theorem d_mdl_runList_63 : decode prog_9_method_33_code 63 = .ok (.if_icmp .le 8, 3) := by decide +kernel
theorem d_mdl_runList_66 : decode prog_9_method_33_code 66 = .ok (.bipush 8, 2) := by decide +kernel
theorem d_mdl_runList_68 : decode prog_9_method_33_code 68 = .ok (.goto 5, 3) := by decide +kernel
theorem d_mdl_runList_71 : decode prog_9_method_33_code 71 = .ok (.iload 7, 2) := by decide +kernel
theorem d_mdl_runList_73 : decode prog_9_method_33_code 73 = .ok (.istore 7, 2) := by decide +kernel
theorem d_mdl_runList_75 : decode prog_9_method_33_code 75 = .ok (.aload_n 0, 1) := by decide +kernel
theorem d_mdl_runList_76 : decode prog_9_method_33_code 76 = .ok (.iload 7, 2) := by decide +kernel
theorem d_mdl_runList_78 : decode prog_9_method_33_code 78 = .ok (.invokevirtual 143, 3) := by decide +kernel
theorem d_mdl_runList_81 : decode prog_9_method_33_code 81 = .ok (.iconst 0, 1) := by decide +kernel
theorem d_mdl_runList_82 : decode prog_9_method_33_code 82 = .ok (.istore 8, 2) := by decide +kernel
theorem d_mdl_runList_84 : decode prog_9_method_33_code 84 = .ok (.iload 8, 2) := by decide +kernel
theorem d_mdl_runList_86 : decode prog_9_method_33_code 86 = .ok (.iload 7, 2) := by decide +kernel
theorem d_mdl_runList_88 : decode prog_9_method_33_code 88 = .ok (.if_icmp .ge 113, 3) := by decide +kernel
theorem d_mdl_runList_91 : decode prog_9_method_33_code 91 = .ok (.lload_n 1, 1) := by decide +kernel
theorem d_mdl_runList_92 : decode prog_9_method_33_code 92 = .ok (.l2i, 1) := by decide +kernel
theorem d_mdl_runList_93 : decode prog_9_method_33_code 93 = .ok (.iload 8, 2) := by decide +kernel
theorem d_mdl_runList_95 : decode prog_9_method_33_code 95 = .ok (.iadd, 1) := by decide +kernel
theorem d_mdl_runList_96 : decode prog_9_method_33_code 96 = .ok (.istore 9, 2) := by decide +kernel
theorem d_mdl_runList_98 : decode prog_9_method_33_code 98 = .ok (.aload_n 0, 1) := by decide +kernel
theorem d_mdl_runList_99 : decode prog_9_method_33_code 99 = .ok (.aload_n 0, 1) := by decide +kernel
theorem d_mdl_runList_100 : decode prog_9_method_33_code 100 = .ok (.getfield 27, 3) := by decide +kernel
theorem d_mdl_runList_103 : decode prog_9_method_33_code 103 = .ok (.iload 9, 2) := by decide +kernel
theorem d_mdl_runList_105 : decode prog_9_method_33_code 105 = .ok (.iaload, 1) := by decide +kernel
theorem d_mdl_runList_106 : decode prog_9_method_33_code 106 = .ok (.invokevirtual 143, 3) := by decide +kernel
theorem d_mdl_runList_109 : decode prog_9_method_33_code 109 = .ok (.iconst 0, 1) := by decide +kernel
theorem d_mdl_runList_110 : decode prog_9_method_33_code 110 = .ok (.istore 10, 2) := by decide +kernel
theorem d_mdl_runList_112 : decode prog_9_method_33_code 112 = .ok (.iload 10, 2) := by decide +kernel
theorem d_mdl_runList_114 : decode prog_9_method_33_code 114 = .ok (.aload_n 0, 1) := by decide +kernel
theorem d_mdl_runList_115 : decode prog_9_method_33_code 115 = .ok (.getfield 27, 3) := by decide +kernel
theorem d_mdl_runList_118 : decode prog_9_method_33_code 118 = .ok (.iload 9, 2) := by decide +kernel
theorem d_mdl_runList_120 : decode prog_9_method_33_code 120 = .ok (.iaload, 1) := by decide +kernel
theorem d_mdl_runList_121 : decode prog_9_method_33_code 121 = .ok (.iconst 3, 1) := by decide +kernel
theorem d_mdl_runList_122 : decode prog_9_method_33_code 122 = .ok (.iadd, 1) := by decide +kernel
theorem d_mdl_runList_123 : decode prog_9_method_33_code 123 = .ok (.iconst 4, 1) := by decide +kernel
theorem d_mdl_runList_124 : decode prog_9_method_33_code 124 = .ok (.idiv, 1) := by decide +kernel
theorem d_mdl_runList_125 : decode prog_9_method_33_code 125 = .ok (.iconst 4, 1) := by decide +kernel
theorem d_mdl_runList_126 : decode prog_9_method_33_code 126 = .ok (.imul, 1) := by decide +kernel
theorem d_mdl_runList_127 : decode prog_9_method_33_code 127 = .ok (.if_icmp .ge 57, 3) := by decide +kernel
theorem d_mdl_runList_130 : decode prog_9_method_33_code 130 = .ok (.aload_n 0, 1) := by decide +kernel
theorem d_mdl_runList_131 : decode prog_9_method_33_code 131 = .ok (.getfield 71, 3) := by decide +kernel
theorem d_mdl_runList_134 : decode prog_9_method_33_code 134 = .ok (.aload_n 0, 1) := by decide +kernel
theorem d_mdl_runList_135 : decode prog_9_method_33_code 135 = .ok (.getfield 140, 3) := by decide +kernel
theorem d_mdl_runList_138 : decode prog_9_method_33_code 138 = .ok (.iload 10, 2) := by decide +kernel
theorem d_mdl_runList_140 : decode prog_9_method_33_code 140 = .ok (.aload_n 0, 1) := by decide +kernel
theorem d_mdl_runList_141 : decode prog_9_method_33_code 141 = .ok (.getfield 27, 3) := by decide +kernel
theorem d_mdl_runList_144 : decode prog_9_method_33_code 144 = .ok (.iload 9, 2) := by decide +kernel
theorem d_mdl_runList_146 : decode prog_9_method_33_code 146 = .ok (.iaload, 1) := by decide +kernel
theorem d_mdl_runList_147 : decode prog_9_method_33_code 147 = .ok (.if_icmp .ge 19, 3) := by decide +kernel
theorem d_mdl_runList_150 : decode prog_9_method_33_code 150 = .ok (.aload_n 0, 1) := by decide +kernel
theorem d_mdl_runList_151 : decode prog_9_method_33_code 151 = .ok (.getfield 24, 3) := by decide +kernel
theorem d_mdl_runList_154 : decode prog_9_method_33_code 154 = .ok (.bipush 16, 2) := by decide +kernel
theorem d_mdl_runList_156 : decode prog_9_method_33_code 156 = .ok (.iload 9, 2) := by decide +kernel
theorem d_mdl_runList_158 : decode prog_9_method_33_code 158 = .ok (.imul, 1) := by decide +kernel
theorem d_mdl_runList_159 : decode prog_9_method_33_code 159 = .ok (.iload 10, 2) := by decide +kernel
theorem d_mdl_runList_161 : decode prog_9_method_33_code 161 = .ok (.iadd, 1) := by decide +kernel
theorem d_mdl_runList_162 : decode prog_9_method_33_code 162 = .ok (.baload, 1) := by decide +kernel
theorem d_mdl_runList_163 : decode prog_9_method_33_code 163 = .ok (.goto 4, 3) := by decide +kernel
theorem d_mdl_runList_166 : decode prog_9_method_33_code 166 = .ok (.iconst 0, 1) := by decide +kernel
theorem d_mdl_runList_167 : decode prog_9_method_33_code 167 = .ok (.bastore, 1) := by decide +kernel
theorem d_mdl_runList_168 : decode prog_9_method_33_code 168 = .ok (.aload_n 0, 1) := by decide +kernel
theorem d_mdl_runList_169 : decode prog_9_method_33_code 169 = .ok (.dup, 1) := by decide +kernel
theorem d_mdl_runList_170 : decode prog_9_method_33_code 170 = .ok (.getfield 140, 3) := by decide +kernel
theorem d_mdl_runList_173 : decode prog_9_method_33_code 173 = .ok (.iconst 1, 1) := by decide +kernel
theorem d_mdl_runList_174 : decode prog_9_method_33_code 174 = .ok (.iadd, 1) := by decide +kernel
theorem d_mdl_runList_175 : decode prog_9_method_33_code 175 = .ok (.putfield 140, 3) := by decide +kernel
theorem d_mdl_runList_178 : decode prog_9_method_33_code 178 = .ok (.iinc 10 1, 3) := by decide +kernel
theorem d_mdl_runList_181 : decode prog_9_method_33_code 181 = .ok (.goto (-69), 3) := by decide +kernel
theorem d_mdl_runList_184 : decode prog_9_method_33_code 184 = .ok (.aload_n 0, 1) := by decide +kernel
theorem d_mdl_runList_185 : decode prog_9_method_33_code 185 = .ok (.aload_n 0, 1) := by decide +kernel
theorem d_mdl_runList_186 : decode prog_9_method_33_code 186 = .ok (.getfield 30, 3) := by decide +kernel
theorem d_mdl_runList_189 : decode prog_9_method_33_code 189 = .ok (.iload 9, 2) := by decide +kernel
theorem d_mdl_runList_191 : decode prog_9_method_33_code 191 = .ok (.laload, 1) := by decide +kernel
theorem d_mdl_runList_192 : decode prog_9_method_33_code 192 = .ok (.invokevirtual 207, 3) := by decide +kernel
theorem d_mdl_runList_195 : decode prog_9_method_33_code 195 = .ok (.iinc 8 1, 3) := by decide +kernel
theorem d_mdl_runList_198 : decode prog_9_method_33_code 198 = .ok (.goto (-114), 3) := by decide +kernel
theorem d_mdl_runList_201 : decode prog_9_method_33_code 201 = .ok (.aload_n 0, 1) := by decide +kernel
theorem d_mdl_runList_202 : decode prog_9_method_33_code 202 = .ok (.lload 5, 2) := by decide +kernel
theorem d_mdl_runList_204 : decode prog_9_method_33_code 204 = .ok (.iload 7, 2) := by decide +kernel
theorem d_mdl_runList_206 : decode prog_9_method_33_code 206 = .ok (.i2l, 1) := by decide +kernel
theorem d_mdl_runList_207 : decode prog_9_method_33_code 207 = .ok (.lcmp, 1) := by decide +kernel
theorem d_mdl_runList_208 : decode prog_9_method_33_code 208 = .ok (.ifCond .le 7, 3) := by decide +kernel
theorem d_mdl_runList_211 : decode prog_9_method_33_code 211 = .ok (.iconst 1, 1) := by decide +kernel
theorem d_mdl_runList_212 : decode prog_9_method_33_code 212 = .ok (.goto 4, 3) := by decide +kernel
theorem d_mdl_runList_215 : decode prog_9_method_33_code 215 = .ok (.iconst 0, 1) := by decide +kernel
theorem d_mdl_runList_216 : decode prog_9_method_33_code 216 = .ok (.invokevirtual 143, 3) := by decide +kernel
theorem d_mdl_runList_219 : decode prog_9_method_33_code 219 = .ok (.return_, 1) := by decide +kernel
theorem d_mdl_runPut_0 : decode prog_9_method_30_code 0 = .ok (.iload_n 1, 1) := by decide +kernel
theorem d_mdl_runPut_1 : decode prog_9_method_30_code 1 = .ok (.ifCond .ge 18, 3) := by decide +kernel
theorem d_mdl_runPut_4 : decode prog_9_method_30_code 4 = .ok (.aload_n 0, 1) := by decide +kernel
theorem d_mdl_runPut_5 : decode prog_9_method_30_code 5 = .ok (.getfield 188, 3) := by decide +kernel
theorem d_mdl_runPut_8 : decode prog_9_method_30_code 8 = .ok (.bipush 40, 2) := by decide +kernel
theorem d_mdl_runPut_10 : decode prog_9_method_30_code 10 = .ok (.if_icmp .ne 9, 3) := by decide +kernel
theorem d_mdl_runPut_13 : decode prog_9_method_30_code 13 = .ok (.aload_n 0, 1) := by decide +kernel
theorem d_mdl_runPut_14 : decode prog_9_method_30_code 14 = .ok (.iconst 1, 1) := by decide +kernel
theorem d_mdl_runPut_15 : decode prog_9_method_30_code 15 = .ok (.invokevirtual 143, 3) := by decide +kernel
theorem d_mdl_runPut_18 : decode prog_9_method_30_code 18 = .ok (.return_, 1) := by decide +kernel
theorem d_mdl_runPut_19 : decode prog_9_method_30_code 19 = .ok (.aload_n 0, 1) := by decide +kernel
theorem d_mdl_runPut_20 : decode prog_9_method_30_code 20 = .ok (.iconst 0, 1) := by decide +kernel
theorem d_mdl_runPut_21 : decode prog_9_method_30_code 21 = .ok (.invokevirtual 143, 3) := by decide +kernel
theorem d_mdl_runPut_24 : decode prog_9_method_30_code 24 = .ok (.aload_n 0, 1) := by decide +kernel
theorem d_mdl_runPut_25 : decode prog_9_method_30_code 25 = .ok (.iload_n 1, 1) := by decide +kernel
theorem d_mdl_runPut_26 : decode prog_9_method_30_code 26 = .ok (.ifCond .lt 7, 3) := by decide +kernel
theorem d_mdl_runPut_29 : decode prog_9_method_30_code 29 = .ok (.iconst 1, 1) := by decide +kernel
theorem d_mdl_runPut_30 : decode prog_9_method_30_code 30 = .ok (.goto 4, 3) := by decide +kernel
theorem d_mdl_runPut_33 : decode prog_9_method_30_code 33 = .ok (.iconst 0, 1) := by decide +kernel
theorem d_mdl_runPut_34 : decode prog_9_method_30_code 34 = .ok (.invokevirtual 143, 3) := by decide +kernel
theorem d_mdl_runPut_37 : decode prog_9_method_30_code 37 = .ok (.iload_n 1, 1) := by decide +kernel
theorem d_mdl_runPut_38 : decode prog_9_method_30_code 38 = .ok (.ifCond .lt 21, 3) := by decide +kernel
theorem d_mdl_runPut_41 : decode prog_9_method_30_code 41 = .ok (.aload_n 0, 1) := by decide +kernel
theorem d_mdl_runPut_42 : decode prog_9_method_30_code 42 = .ok (.aload_n 0, 1) := by decide +kernel
theorem d_mdl_runPut_43 : decode prog_9_method_30_code 43 = .ok (.getfield 30, 3) := by decide +kernel
theorem d_mdl_runPut_46 : decode prog_9_method_30_code 46 = .ok (.iload_n 1, 1) := by decide +kernel
theorem d_mdl_runPut_47 : decode prog_9_method_30_code 47 = .ok (.laload, 1) := by decide +kernel
theorem d_mdl_runPut_48 : decode prog_9_method_30_code 48 = .ok (.invokevirtual 207, 3) := by decide +kernel
theorem d_mdl_runPut_51 : decode prog_9_method_30_code 51 = .ok (.aload_n 0, 1) := by decide +kernel
theorem d_mdl_runPut_52 : decode prog_9_method_30_code 52 = .ok (.getfield 30, 3) := by decide +kernel
theorem d_mdl_runPut_55 : decode prog_9_method_30_code 55 = .ok (.iload_n 1, 1) := by decide +kernel
theorem d_mdl_runPut_56 : decode prog_9_method_30_code 56 = .ok (.lload_n 2, 1) := by decide +kernel
theorem d_mdl_runPut_57 : decode prog_9_method_30_code 57 = .ok (.lastore, 1) := by decide +kernel
theorem d_mdl_runPut_58 : decode prog_9_method_30_code 58 = .ok (.return_, 1) := by decide +kernel
theorem d_mdl_runPut_59 : decode prog_9_method_30_code 59 = .ok (.iconst 0, 1) := by decide +kernel
theorem d_mdl_runPut_60 : decode prog_9_method_30_code 60 = .ok (.istore 4, 2) := by decide +kernel
theorem d_mdl_runPut_62 : decode prog_9_method_30_code 62 = .ok (.iload 4, 2) := by decide +kernel
theorem d_mdl_runPut_64 : decode prog_9_method_30_code 64 = .ok (.aload_n 0, 1) := by decide +kernel
theorem d_mdl_runPut_65 : decode prog_9_method_30_code 65 = .ok (.getfield 137, 3) := by decide +kernel
theorem d_mdl_runPut_68 : decode prog_9_method_30_code 68 = .ok (.if_icmp .ge 45, 3) := by decide +kernel
theorem d_mdl_runPut_71 : decode prog_9_method_30_code 71 = .ok (.aload_n 0, 1) := by decide +kernel
theorem d_mdl_runPut_72 : decode prog_9_method_30_code 72 = .ok (.getfield 24, 3) := by decide +kernel
theorem d_mdl_runPut_75 : decode prog_9_method_30_code 75 = .ok (.bipush 16, 2) := by decide +kernel
theorem d_mdl_runPut_77 : decode prog_9_method_30_code 77 = .ok (.aload_n 0, 1) := by decide +kernel
theorem d_mdl_runPut_78 : decode prog_9_method_30_code 78 = .ok (.getfield 188, 3) := by decide +kernel
theorem d_mdl_runPut_81 : decode prog_9_method_30_code 81 = .ok (.imul, 1) := by decide +kernel
theorem d_mdl_runPut_82 : decode prog_9_method_30_code 82 = .ok (.iload 4, 2) := by decide +kernel
theorem d_mdl_runPut_84 : decode prog_9_method_30_code 84 = .ok (.iadd, 1) := by decide +kernel
theorem d_mdl_runPut_85 : decode prog_9_method_30_code 85 = .ok (.aload_n 0, 1) := by decide +kernel
theorem d_mdl_runPut_86 : decode prog_9_method_30_code 86 = .ok (.getfield 34, 3) := by decide +kernel
theorem d_mdl_runPut_89 : decode prog_9_method_30_code 89 = .ok (.sipush 1200, 3) := by decide +kernel
theorem d_mdl_runPut_92 : decode prog_9_method_30_code 92 = .ok (.aload_n 0, 1) := by decide +kernel
theorem d_mdl_runPut_93 : decode prog_9_method_30_code 93 = .ok (.getfield 109, 3) := by decide +kernel
theorem d_mdl_runPut_96 : decode prog_9_method_30_code 96 = .ok (.imul, 1) := by decide +kernel
theorem d_mdl_runPut_97 : decode prog_9_method_30_code 97 = .ok (.aload_n 0, 1) := by decide +kernel
theorem d_mdl_runPut_98 : decode prog_9_method_30_code 98 = .ok (.getfield 134, 3) := by decide +kernel
theorem d_mdl_runPut_101 : decode prog_9_method_30_code 101 = .ok (.iadd, 1) := by decide +kernel
theorem d_mdl_runPut_102 : decode prog_9_method_30_code 102 = .ok (.iload 4, 2) := by decide +kernel
theorem d_mdl_runPut_104 : decode prog_9_method_30_code 104 = .ok (.iadd, 1) := by decide +kernel
theorem d_mdl_runPut_105 : decode prog_9_method_30_code 105 = .ok (.baload, 1) := by decide +kernel
theorem d_mdl_runPut_106 : decode prog_9_method_30_code 106 = .ok (.bastore, 1) := by decide +kernel
theorem d_mdl_runPut_107 : decode prog_9_method_30_code 107 = .ok (.iinc 4 1, 3) := by decide +kernel
theorem d_mdl_runPut_110 : decode prog_9_method_30_code 110 = .ok (.goto (-48), 3) := by decide +kernel
theorem d_mdl_runPut_113 : decode prog_9_method_30_code 113 = .ok (.aload_n 0, 1) := by decide +kernel
theorem d_mdl_runPut_114 : decode prog_9_method_30_code 114 = .ok (.getfield 27, 3) := by decide +kernel
theorem d_mdl_runPut_117 : decode prog_9_method_30_code 117 = .ok (.aload_n 0, 1) := by decide +kernel
theorem d_mdl_runPut_118 : decode prog_9_method_30_code 118 = .ok (.getfield 188, 3) := by decide +kernel
theorem d_mdl_runPut_121 : decode prog_9_method_30_code 121 = .ok (.aload_n 0, 1) := by decide +kernel
theorem d_mdl_runPut_122 : decode prog_9_method_30_code 122 = .ok (.getfield 137, 3) := by decide +kernel
theorem d_mdl_runPut_125 : decode prog_9_method_30_code 125 = .ok (.iastore, 1) := by decide +kernel
theorem d_mdl_runPut_126 : decode prog_9_method_30_code 126 = .ok (.aload_n 0, 1) := by decide +kernel
theorem d_mdl_runPut_127 : decode prog_9_method_30_code 127 = .ok (.getfield 30, 3) := by decide +kernel
theorem d_mdl_runPut_130 : decode prog_9_method_30_code 130 = .ok (.aload_n 0, 1) := by decide +kernel
theorem d_mdl_runPut_131 : decode prog_9_method_30_code 131 = .ok (.getfield 188, 3) := by decide +kernel
theorem d_mdl_runPut_134 : decode prog_9_method_30_code 134 = .ok (.lload_n 2, 1) := by decide +kernel
theorem d_mdl_runPut_135 : decode prog_9_method_30_code 135 = .ok (.lastore, 1) := by decide +kernel
theorem d_mdl_runPut_136 : decode prog_9_method_30_code 136 = .ok (.aload_n 0, 1) := by decide +kernel
theorem d_mdl_runPut_137 : decode prog_9_method_30_code 137 = .ok (.dup, 1) := by decide +kernel
theorem d_mdl_runPut_138 : decode prog_9_method_30_code 138 = .ok (.getfield 188, 3) := by decide +kernel
theorem d_mdl_runPut_141 : decode prog_9_method_30_code 141 = .ok (.iconst 1, 1) := by decide +kernel
theorem d_mdl_runPut_142 : decode prog_9_method_30_code 142 = .ok (.iadd, 1) := by decide +kernel
theorem d_mdl_runPut_143 : decode prog_9_method_30_code 143 = .ok (.putfield 188, 3) := by decide +kernel
theorem d_mdl_runPut_146 : decode prog_9_method_30_code 146 = .ok (.return_, 1) := by decide +kernel
theorem d_mdl_remove_0 : decode prog_9_method_31_code 0 = .ok (.iload_n 1, 1) := by decide +kernel
theorem d_mdl_remove_1 : decode prog_9_method_31_code 1 = .ok (.istore_n 2, 1) := by decide +kernel
theorem d_mdl_remove_2 : decode prog_9_method_31_code 2 = .ok (.iload_n 2, 1) := by decide +kernel
theorem d_mdl_remove_3 : decode prog_9_method_31_code 3 = .ok (.iconst 1, 1) := by decide +kernel
theorem d_mdl_remove_4 : decode prog_9_method_31_code 4 = .ok (.iadd, 1) := by decide +kernel
theorem d_mdl_remove_5 : decode prog_9_method_31_code 5 = .ok (.aload_n 0, 1) := by decide +kernel
theorem d_mdl_remove_6 : decode prog_9_method_31_code 6 = .ok (.getfield 188, 3) := by decide +kernel
theorem d_mdl_remove_9 : decode prog_9_method_31_code 9 = .ok (.if_icmp .ge 76, 3) := by decide +kernel
theorem d_mdl_remove_12 : decode prog_9_method_31_code 12 = .ok (.aload_n 0, 1) := by decide +kernel
theorem d_mdl_remove_13 : decode prog_9_method_31_code 13 = .ok (.getfield 27, 3) := by decide +kernel
theorem d_mdl_remove_16 : decode prog_9_method_31_code 16 = .ok (.iload_n 2, 1) := by decide +kernel
theorem d_mdl_remove_17 : decode prog_9_method_31_code 17 = .ok (.aload_n 0, 1) := by decide +kernel
theorem d_mdl_remove_18 : decode prog_9_method_31_code 18 = .ok (.getfield 27, 3) := by decide +kernel
theorem d_mdl_remove_21 : decode prog_9_method_31_code 21 = .ok (.iload_n 2, 1) := by decide +kernel
theorem d_mdl_remove_22 : decode prog_9_method_31_code 22 = .ok (.iconst 1, 1) := by decide +kernel
theorem d_mdl_remove_23 : decode prog_9_method_31_code 23 = .ok (.iadd, 1) := by decide +kernel
theorem d_mdl_remove_24 : decode prog_9_method_31_code 24 = .ok (.iaload, 1) := by decide +kernel
theorem d_mdl_remove_25 : decode prog_9_method_31_code 25 = .ok (.iastore, 1) := by decide +kernel
theorem d_mdl_remove_26 : decode prog_9_method_31_code 26 = .ok (.aload_n 0, 1) := by decide +kernel
theorem d_mdl_remove_27 : decode prog_9_method_31_code 27 = .ok (.getfield 30, 3) := by decide +kernel
theorem d_mdl_remove_30 : decode prog_9_method_31_code 30 = .ok (.iload_n 2, 1) := by decide +kernel
theorem d_mdl_remove_31 : decode prog_9_method_31_code 31 = .ok (.aload_n 0, 1) := by decide +kernel
theorem d_mdl_remove_32 : decode prog_9_method_31_code 32 = .ok (.getfield 30, 3) := by decide +kernel
theorem d_mdl_remove_35 : decode prog_9_method_31_code 35 = .ok (.iload_n 2, 1) := by decide +kernel
theorem d_mdl_remove_36 : decode prog_9_method_31_code 36 = .ok (.iconst 1, 1) := by decide +kernel
theorem d_mdl_remove_37 : decode prog_9_method_31_code 37 = .ok (.iadd, 1) := by decide +kernel
theorem d_mdl_remove_38 : decode prog_9_method_31_code 38 = .ok (.laload, 1) := by decide +kernel
theorem d_mdl_remove_39 : decode prog_9_method_31_code 39 = .ok (.lastore, 1) := by decide +kernel
theorem d_mdl_remove_40 : decode prog_9_method_31_code 40 = .ok (.iconst 0, 1) := by decide +kernel
theorem d_mdl_remove_41 : decode prog_9_method_31_code 41 = .ok (.istore_n 3, 1) := by decide +kernel
theorem d_mdl_remove_42 : decode prog_9_method_31_code 42 = .ok (.iload_n 3, 1) := by decide +kernel
theorem d_mdl_remove_43 : decode prog_9_method_31_code 43 = .ok (.bipush 16, 2) := by decide +kernel
theorem d_mdl_remove_45 : decode prog_9_method_31_code 45 = .ok (.if_icmp .ge 34, 3) := by decide +kernel
theorem d_mdl_remove_48 : decode prog_9_method_31_code 48 = .ok (.aload_n 0, 1) := by decide +kernel
theorem d_mdl_remove_49 : decode prog_9_method_31_code 49 = .ok (.getfield 24, 3) := by decide +kernel
theorem d_mdl_remove_52 : decode prog_9_method_31_code 52 = .ok (.bipush 16, 2) := by decide +kernel
theorem d_mdl_remove_54 : decode prog_9_method_31_code 54 = .ok (.iload_n 2, 1) := by decide +kernel
theorem d_mdl_remove_55 : decode prog_9_method_31_code 55 = .ok (.imul, 1) := by decide +kernel
theorem d_mdl_remove_56 : decode prog_9_method_31_code 56 = .ok (.iload_n 3, 1) := by decide +kernel
theorem d_mdl_remove_57 : decode prog_9_method_31_code 57 = .ok (.iadd, 1) := by decide +kernel
theorem d_mdl_remove_58 : decode prog_9_method_31_code 58 = .ok (.aload_n 0, 1) := by decide +kernel
theorem d_mdl_remove_59 : decode prog_9_method_31_code 59 = .ok (.getfield 24, 3) := by decide +kernel
theorem d_mdl_remove_62 : decode prog_9_method_31_code 62 = .ok (.bipush 16, 2) := by decide +kernel
theorem d_mdl_remove_64 : decode prog_9_method_31_code 64 = .ok (.iload_n 2, 1) := by decide +kernel
theorem d_mdl_remove_65 : decode prog_9_method_31_code 65 = .ok (.imul, 1) := by decide +kernel
theorem d_mdl_remove_66 : decode prog_9_method_31_code 66 = .ok (.bipush 16, 2) := by decide +kernel
theorem d_mdl_remove_68 : decode prog_9_method_31_code 68 = .ok (.iadd, 1) := by decide +kernel
theorem d_mdl_remove_69 : decode prog_9_method_31_code 69 = .ok (.iload_n 3, 1) := by decide +kernel
theorem d_mdl_remove_70 : decode prog_9_method_31_code 70 = .ok (.iadd, 1) := by decide +kernel
theorem d_mdl_remove_71 : decode prog_9_method_31_code 71 = .ok (.baload, 1) := by decide +kernel
theorem d_mdl_remove_72 : decode prog_9_method_31_code 72 = .ok (.bastore, 1) := by decide +kernel
theorem d_mdl_remove_73 : decode prog_9_method_31_code 73 = .ok (.iinc 3 1, 3) := by decide +kernel
theorem d_mdl_remove_76 : decode prog_9_method_31_code 76 = .ok (.goto (-34), 3) := by decide +kernel
theorem d_mdl_remove_79 : decode prog_9_method_31_code 79 = .ok (.iinc 2 1, 3) := by decide +kernel
theorem d_mdl_remove_82 : decode prog_9_method_31_code 82 = .ok (.goto (-80), 3) := by decide +kernel
theorem d_mdl_remove_85 : decode prog_9_method_31_code 85 = .ok (.aload_n 0, 1) := by decide +kernel
theorem d_mdl_remove_86 : decode prog_9_method_31_code 86 = .ok (.dup, 1) := by decide +kernel
theorem d_mdl_remove_87 : decode prog_9_method_31_code 87 = .ok (.getfield 188, 3) := by decide +kernel
theorem d_mdl_remove_90 : decode prog_9_method_31_code 90 = .ok (.iconst 1, 1) := by decide +kernel
theorem d_mdl_remove_91 : decode prog_9_method_31_code 91 = .ok (.isub, 1) := by decide +kernel
theorem d_mdl_remove_92 : decode prog_9_method_31_code 92 = .ok (.putfield 188, 3) := by decide +kernel
theorem d_mdl_remove_95 : decode prog_9_method_31_code 95 = .ok (.return_, 1) := by decide +kernel
theorem d_mdl_run_0 : decode prog_9_method_29_code 0 = .ok (.aload_n 0, 1) := by decide +kernel
theorem d_mdl_run_1 : decode prog_9_method_29_code 1 = .ok (.aload_n 0, 1) := by decide +kernel
theorem d_mdl_run_2 : decode prog_9_method_29_code 2 = .ok (.getfield 181, 3) := by decide +kernel
theorem d_mdl_run_5 : decode prog_9_method_29_code 5 = .ok (.putfield 116, 3) := by decide +kernel
theorem d_mdl_run_8 : decode prog_9_method_29_code 8 = .ok (.iload_n 1, 1) := by decide +kernel
theorem d_mdl_run_9 : decode prog_9_method_29_code 9 = .ok (.iconst 4, 1) := by decide +kernel
theorem d_mdl_run_10 : decode prog_9_method_29_code 10 = .ok (.if_icmp .ne 10, 3) := by decide +kernel
theorem d_mdl_run_13 : decode prog_9_method_29_code 13 = .ok (.aload_n 0, 1) := by decide +kernel
theorem d_mdl_run_14 : decode prog_9_method_29_code 14 = .ok (.invokevirtual 191, 3) := by decide +kernel
theorem d_mdl_run_17 : decode prog_9_method_29_code 17 = .ok (.goto 132, 3) := by decide +kernel
theorem d_mdl_run_20 : decode prog_9_method_29_code 20 = .ok (.iload_n 1, 1) := by decide +kernel
theorem d_mdl_run_21 : decode prog_9_method_29_code 21 = .ok (.iconst 5, 1) := by decide +kernel
theorem d_mdl_run_22 : decode prog_9_method_29_code 22 = .ok (.if_icmp .ne 10, 3) := by decide +kernel
theorem d_mdl_run_25 : decode prog_9_method_29_code 25 = .ok (.aload_n 0, 1) := by decide +kernel
theorem d_mdl_run_26 : decode prog_9_method_29_code 26 = .ok (.invokevirtual 194, 3) := by decide +kernel
theorem d_mdl_run_29 : decode prog_9_method_29_code 29 = .ok (.goto 120, 3) := by decide +kernel
theorem d_mdl_run_32 : decode prog_9_method_29_code 32 = .ok (.iload_n 1, 1) := by decide +kernel
theorem d_mdl_run_33 : decode prog_9_method_29_code 33 = .ok (.ifCond .le 116, 3) := by decide +kernel
theorem d_mdl_run_36 : decode prog_9_method_29_code 36 = .ok (.aload_n 0, 1) := by decide +kernel
theorem d_mdl_run_37 : decode prog_9_method_29_code 37 = .ok (.bipush 16, 2) := by decide +kernel
theorem d_mdl_run_39 : decode prog_9_method_29_code 39 = .ok (.invokevirtual 166, 3) := by decide +kernel
theorem d_mdl_run_42 : decode prog_9_method_29_code 42 = .ok (.pop, 1) := by decide +kernel
theorem d_mdl_run_43 : decode prog_9_method_29_code 43 = .ok (.aload_n 0, 1) := by decide +kernel
theorem d_mdl_run_44 : decode prog_9_method_29_code 44 = .ok (.invokevirtual 197, 3) := by decide +kernel
theorem d_mdl_run_47 : decode prog_9_method_29_code 47 = .ok (.istore_n 2, 1) := by decide +kernel
theorem d_mdl_run_48 : decode prog_9_method_29_code 48 = .ok (.iload_n 1, 1) := by decide +kernel
theorem d_mdl_run_49 : decode prog_9_method_29_code 49 = .ok (.iconst 1, 1) := by decide +kernel
theorem d_mdl_run_50 : decode prog_9_method_29_code 50 = .ok (.if_icmp .ne 15, 3) := by decide +kernel
theorem d_mdl_run_53 : decode prog_9_method_29_code 53 = .ok (.aload_n 0, 1) := by decide +kernel
theorem d_mdl_run_54 : decode prog_9_method_29_code 54 = .ok (.iload_n 2, 1) := by decide +kernel
theorem d_mdl_run_55 : decode prog_9_method_29_code 55 = .ok (.aload_n 0, 1) := by decide +kernel
theorem d_mdl_run_56 : decode prog_9_method_29_code 56 = .ok (.invokevirtual 184, 3) := by decide +kernel
theorem d_mdl_run_59 : decode prog_9_method_29_code 59 = .ok (.invokevirtual 200, 3) := by decide +kernel
theorem d_mdl_run_62 : decode prog_9_method_29_code 62 = .ok (.goto 87, 3) := by decide +kernel
theorem d_mdl_run_65 : decode prog_9_method_29_code 65 = .ok (.iload_n 1, 1) := by decide +kernel
theorem d_mdl_run_66 : decode prog_9_method_29_code 66 = .ok (.bipush 6, 2) := by decide +kernel
theorem d_mdl_run_68 : decode prog_9_method_29_code 68 = .ok (.if_icmp .ne 28, 3) := by decide +kernel
theorem d_mdl_run_71 : decode prog_9_method_29_code 71 = .ok (.aload_n 0, 1) := by decide +kernel
theorem d_mdl_run_72 : decode prog_9_method_29_code 72 = .ok (.iload_n 2, 1) := by decide +kernel
theorem d_mdl_run_73 : decode prog_9_method_29_code 73 = .ok (.ifCond .lt 7, 3) := by decide +kernel
theorem d_mdl_run_76 : decode prog_9_method_29_code 76 = .ok (.iconst 1, 1) := by decide +kernel
theorem d_mdl_run_77 : decode prog_9_method_29_code 77 = .ok (.goto 4, 3) := by decide +kernel
theorem d_mdl_run_80 : decode prog_9_method_29_code 80 = .ok (.iconst 0, 1) := by decide +kernel
theorem d_mdl_run_81 : decode prog_9_method_29_code 81 = .ok (.invokevirtual 143, 3) := by decide +kernel
theorem d_mdl_run_84 : decode prog_9_method_29_code 84 = .ok (.iload_n 2, 1) := by decide +kernel
theorem d_mdl_run_85 : decode prog_9_method_29_code 85 = .ok (.ifCond .lt 64, 3) := by decide +kernel
theorem d_mdl_run_88 : decode prog_9_method_29_code 88 = .ok (.aload_n 0, 1) := by decide +kernel
theorem d_mdl_run_89 : decode prog_9_method_29_code 89 = .ok (.iload_n 2, 1) := by decide +kernel
theorem d_mdl_run_90 : decode prog_9_method_29_code 90 = .ok (.invokevirtual 204, 3) := by decide +kernel
theorem d_mdl_run_93 : decode prog_9_method_29_code 93 = .ok (.goto 56, 3) := by decide +kernel
theorem d_mdl_run_96 : decode prog_9_method_29_code 96 = .ok (.iload_n 2, 1) := by decide +kernel
theorem d_mdl_run_97 : decode prog_9_method_29_code 97 = .ok (.ifCond .lt 25, 3) := by decide +kernel
theorem d_mdl_run_100 : decode prog_9_method_29_code 100 = .ok (.iload_n 1, 1) := by decide +kernel
theorem d_mdl_run_101 : decode prog_9_method_29_code 101 = .ok (.iconst 3, 1) := by decide +kernel
theorem d_mdl_run_102 : decode prog_9_method_29_code 102 = .ok (.if_icmp .ne 20, 3) := by decide +kernel
theorem d_mdl_run_105 : decode prog_9_method_29_code 105 = .ok (.aload_n 0, 1) := by decide +kernel
theorem d_mdl_run_106 : decode prog_9_method_29_code 106 = .ok (.getfield 30, 3) := by decide +kernel
theorem d_mdl_run_109 : decode prog_9_method_29_code 109 = .ok (.iload_n 2, 1) := by decide +kernel
theorem d_mdl_run_110 : decode prog_9_method_29_code 110 = .ok (.aload_n 0, 1) := by decide +kernel
theorem d_mdl_run_111 : decode prog_9_method_29_code 111 = .ok (.getfield 30, 3) := by decide +kernel
theorem d_mdl_run_114 : decode prog_9_method_29_code 114 = .ok (.iload_n 2, 1) := by decide +kernel
theorem d_mdl_run_115 : decode prog_9_method_29_code 115 = .ok (.laload, 1) := by decide +kernel
theorem d_mdl_run_116 : decode prog_9_method_29_code 116 = .ok (.aload_n 0, 1) := by decide +kernel
theorem d_mdl_run_117 : decode prog_9_method_29_code 117 = .ok (.invokevirtual 184, 3) := by decide +kernel
theorem d_mdl_run_120 : decode prog_9_method_29_code 120 = .ok (.ladd, 1) := by decide +kernel
theorem d_mdl_run_121 : decode prog_9_method_29_code 121 = .ok (.lastore, 1) := by decide +kernel
theorem d_mdl_run_122 : decode prog_9_method_29_code 122 = .ok (.aload_n 0, 1) := by decide +kernel
theorem d_mdl_run_123 : decode prog_9_method_29_code 123 = .ok (.iload_n 2, 1) := by decide +kernel
theorem d_mdl_run_124 : decode prog_9_method_29_code 124 = .ok (.ifCond .lt 7, 3) := by decide +kernel
theorem d_mdl_run_127 : decode prog_9_method_29_code 127 = .ok (.iconst 0, 1) := by decide +kernel
theorem d_mdl_run_128 : decode prog_9_method_29_code 128 = .ok (.goto 4, 3) := by decide +kernel
theorem d_mdl_run_131 : decode prog_9_method_29_code 131 = .ok (.iconst 2, 1) := by decide +kernel
theorem d_mdl_run_132 : decode prog_9_method_29_code 132 = .ok (.invokevirtual 143, 3) := by decide +kernel
theorem d_mdl_run_135 : decode prog_9_method_29_code 135 = .ok (.iload_n 2, 1) := by decide +kernel
theorem d_mdl_run_136 : decode prog_9_method_29_code 136 = .ok (.ifCond .lt 13, 3) := by decide +kernel
theorem d_mdl_run_139 : decode prog_9_method_29_code 139 = .ok (.aload_n 0, 1) := by decide +kernel
theorem d_mdl_run_140 : decode prog_9_method_29_code 140 = .ok (.aload_n 0, 1) := by decide +kernel
theorem d_mdl_run_141 : decode prog_9_method_29_code 141 = .ok (.getfield 30, 3) := by decide +kernel
theorem d_mdl_run_144 : decode prog_9_method_29_code 144 = .ok (.iload_n 2, 1) := by decide +kernel
theorem d_mdl_run_145 : decode prog_9_method_29_code 145 = .ok (.laload, 1) := by decide +kernel
theorem d_mdl_run_146 : decode prog_9_method_29_code 146 = .ok (.invokevirtual 207, 3) := by decide +kernel
theorem d_mdl_run_149 : decode prog_9_method_29_code 149 = .ok (.return_, 1) := by decide +kernel
theorem d_mdl_judge_0 : decode prog_9_method_26_code 0 = .ok (.aload_n 0, 1) := by decide +kernel
theorem d_mdl_judge_1 : decode prog_9_method_26_code 1 = .ok (.bipush 8, 2) := by decide +kernel
theorem d_mdl_judge_3 : decode prog_9_method_26_code 3 = .ok (.putfield 116, 3) := by decide +kernel
theorem d_mdl_judge_6 : decode prog_9_method_26_code 6 = .ok (.aload_n 0, 1) := by decide +kernel
theorem d_mdl_judge_7 : decode prog_9_method_26_code 7 = .ok (.iconst 1, 1) := by decide +kernel
theorem d_mdl_judge_8 : decode prog_9_method_26_code 8 = .ok (.putfield 119, 3) := by decide +kernel
theorem d_mdl_judge_11 : decode prog_9_method_26_code 11 = .ok (.aload_n 0, 1) := by decide +kernel
theorem d_mdl_judge_12 : decode prog_9_method_26_code 12 = .ok (.invokevirtual 129, 3) := by decide +kernel
theorem d_mdl_judge_15 : decode prog_9_method_26_code 15 = .ok (.istore_n 2, 1) := by decide +kernel
theorem d_mdl_judge_16 : decode prog_9_method_26_code 16 = .ok (.aload_n 0, 1) := by decide +kernel
theorem d_mdl_judge_17 : decode prog_9_method_26_code 17 = .ok (.getfield 119, 3) := by decide +kernel
theorem d_mdl_judge_20 : decode prog_9_method_26_code 20 = .ok (.ifCond .ne 5, 3) := by decide +kernel
theorem d_mdl_judge_23 : decode prog_9_method_26_code 23 = .ok (.iconst 0, 1) := by decide +kernel
theorem d_mdl_judge_24 : decode prog_9_method_26_code 24 = .ok (.ireturn, 1) := by decide +kernel
theorem d_mdl_judge_25 : decode prog_9_method_26_code 25 = .ok (.iload_n 2, 1) := by decide +kernel
theorem d_mdl_judge_26 : decode prog_9_method_26_code 26 = .ok (.iconst 2, 1) := by decide +kernel
theorem d_mdl_judge_27 : decode prog_9_method_26_code 27 = .ok (.if_icmp .eq 11, 3) := by decide +kernel
theorem d_mdl_judge_30 : decode prog_9_method_26_code 30 = .ok (.aload_n 0, 1) := by decide +kernel
theorem d_mdl_judge_31 : decode prog_9_method_26_code 31 = .ok (.iload_n 1, 1) := by decide +kernel
theorem d_mdl_judge_32 : decode prog_9_method_26_code 32 = .ok (.iconst 0, 1) := by decide +kernel
theorem d_mdl_judge_33 : decode prog_9_method_26_code 33 = .ok (.iconst 2, 1) := by decide +kernel
theorem d_mdl_judge_34 : decode prog_9_method_26_code 34 = .ok (.invokevirtual 162, 3) := by decide +kernel
theorem d_mdl_judge_37 : decode prog_9_method_26_code 37 = .ok (.ireturn, 1) := by decide +kernel
theorem d_mdl_judge_38 : decode prog_9_method_26_code 38 = .ok (.aload_n 0, 1) := by decide +kernel
theorem d_mdl_judge_39 : decode prog_9_method_26_code 39 = .ok (.invokevirtual 129, 3) := by decide +kernel
theorem d_mdl_judge_42 : decode prog_9_method_26_code 42 = .ok (.istore_n 3, 1) := by decide +kernel
theorem d_mdl_judge_43 : decode prog_9_method_26_code 43 = .ok (.aload_n 0, 1) := by decide +kernel
theorem d_mdl_judge_44 : decode prog_9_method_26_code 44 = .ok (.invokevirtual 129, 3) := by decide +kernel
theorem d_mdl_judge_47 : decode prog_9_method_26_code 47 = .ok (.istore 4, 2) := by decide +kernel
theorem d_mdl_judge_49 : decode prog_9_method_26_code 49 = .ok (.aload_n 0, 1) := by decide +kernel
theorem d_mdl_judge_50 : decode prog_9_method_26_code 50 = .ok (.invokevirtual 129, 3) := by decide +kernel
theorem d_mdl_judge_53 : decode prog_9_method_26_code 53 = .ok (.istore 5, 2) := by decide +kernel
theorem d_mdl_judge_55 : decode prog_9_method_26_code 55 = .ok (.aload_n 0, 1) := by decide +kernel
theorem d_mdl_judge_56 : decode prog_9_method_26_code 56 = .ok (.invokevirtual 129, 3) := by decide +kernel
theorem d_mdl_judge_59 : decode prog_9_method_26_code 59 = .ok (.istore 6, 2) := by decide +kernel
theorem d_mdl_judge_61 : decode prog_9_method_26_code 61 = .ok (.aload_n 0, 1) := by decide +kernel
theorem d_mdl_judge_62 : decode prog_9_method_26_code 62 = .ok (.sipush 400, 3) := by decide +kernel
theorem d_mdl_judge_65 : decode prog_9_method_26_code 65 = .ok (.invokevirtual 166, 3) := by decide +kernel
theorem d_mdl_judge_68 : decode prog_9_method_26_code 68 = .ok (.istore 7, 2) := by decide +kernel
theorem d_mdl_judge_70 : decode prog_9_method_26_code 70 = .ok (.aload_n 0, 1) := by decide +kernel
theorem d_mdl_judge_71 : decode prog_9_method_26_code 71 = .ok (.invokevirtual 129, 3) := by decide +kernel
theorem d_mdl_judge_74 : decode prog_9_method_26_code 74 = .ok (.istore 8, 2) := by decide +kernel
theorem d_mdl_judge_76 : decode prog_9_method_26_code 76 = .ok (.aload_n 0, 1) := by decide +kernel
theorem d_mdl_judge_77 : decode prog_9_method_26_code 77 = .ok (.sipush 400, 3) := by decide +kernel
theorem d_mdl_judge_80 : decode prog_9_method_26_code 80 = .ok (.invokevirtual 166, 3) := by decide +kernel
theorem d_mdl_judge_83 : decode prog_9_method_26_code 83 = .ok (.istore 9, 2) := by decide +kernel
theorem d_mdl_judge_85 : decode prog_9_method_26_code 85 = .ok (.aload_n 0, 1) := by decide +kernel
theorem d_mdl_judge_86 : decode prog_9_method_26_code 86 = .ok (.getfield 119, 3) := by decide +kernel
theorem d_mdl_judge_89 : decode prog_9_method_26_code 89 = .ok (.ifCond .ne 5, 3) := by decide +kernel
theorem d_mdl_judge_92 : decode prog_9_method_26_code 92 = .ok (.iconst 0, 1) := by decide +kernel
theorem d_mdl_judge_93 : decode prog_9_method_26_code 93 = .ok (.ireturn, 1) := by decide +kernel
theorem d_mdl_judge_94 : decode prog_9_method_26_code 94 = .ok (.iload 6, 2) := by decide +kernel
theorem d_mdl_judge_96 : decode prog_9_method_26_code 96 = .ok (.ifCond .eq 9, 3) := by decide +kernel
theorem d_mdl_judge_99 : decode prog_9_method_26_code 99 = .ok (.iload 6, 2) := by decide +kernel
theorem d_mdl_judge_101 : decode prog_9_method_26_code 101 = .ok (.iconst 1, 1) := by decide +kernel
theorem d_mdl_judge_102 : decode prog_9_method_26_code 102 = .ok (.if_icmp .ne 13, 3) := by decide +kernel
theorem d_mdl_judge_105 : decode prog_9_method_26_code 105 = .ok (.iload 6, 2) := by decide +kernel
theorem d_mdl_judge_107 : decode prog_9_method_26_code 107 = .ok (.ifCond .ne 16, 3) := by decide +kernel
theorem d_mdl_judge_110 : decode prog_9_method_26_code 110 = .ok (.iload 7, 2) := by decide +kernel
theorem d_mdl_judge_112 : decode prog_9_method_26_code 112 = .ok (.ifCond .le 11, 3) := by decide +kernel
theorem d_mdl_judge_115 : decode prog_9_method_26_code 115 = .ok (.aload_n 0, 1) := by decide +kernel
theorem d_mdl_judge_116 : decode prog_9_method_26_code 116 = .ok (.iload_n 1, 1) := by decide +kernel
theorem d_mdl_judge_117 : decode prog_9_method_26_code 117 = .ok (.iconst 1, 1) := by decide +kernel
theorem d_mdl_judge_118 : decode prog_9_method_26_code 118 = .ok (.iconst 1, 1) := by decide +kernel
theorem d_mdl_judge_119 : decode prog_9_method_26_code 119 = .ok (.invokevirtual 162, 3) := by decide +kernel
theorem d_mdl_judge_122 : decode prog_9_method_26_code 122 = .ok (.ireturn, 1) := by decide +kernel
theorem d_mdl_judge_123 : decode prog_9_method_26_code 123 = .ok (.iload 8, 2) := by decide +kernel
theorem d_mdl_judge_125 : decode prog_9_method_26_code 125 = .ok (.ifCond .ne 8, 3) := by decide +kernel
theorem d_mdl_judge_128 : decode prog_9_method_26_code 128 = .ok (.iload 9, 2) := by decide +kernel
theorem d_mdl_judge_130 : decode prog_9_method_26_code 130 = .ok (.ifCond .le 11, 3) := by decide +kernel
theorem d_mdl_judge_133 : decode prog_9_method_26_code 133 = .ok (.aload_n 0, 1) := by decide +kernel
theorem d_mdl_judge_134 : decode prog_9_method_26_code 134 = .ok (.iload_n 1, 1) := by decide +kernel
theorem d_mdl_judge_135 : decode prog_9_method_26_code 135 = .ok (.iconst 1, 1) := by decide +kernel
theorem d_mdl_judge_136 : decode prog_9_method_26_code 136 = .ok (.iconst 3, 1) := by decide +kernel
theorem d_mdl_judge_137 : decode prog_9_method_26_code 137 = .ok (.invokevirtual 162, 3) := by decide +kernel
theorem d_mdl_judge_140 : decode prog_9_method_26_code 140 = .ok (.ireturn, 1) := by decide +kernel
theorem d_mdl_judge_141 : decode prog_9_method_26_code 141 = .ok (.iload_n 3, 1) := by decide +kernel
theorem d_mdl_judge_142 : decode prog_9_method_26_code 142 = .ok (.ldc 100, 2) := by decide +kernel
theorem d_mdl_judge_144 : decode prog_9_method_26_code 144 = .ok (.if_icmp .eq 10, 3) := by decide +kernel
theorem d_mdl_judge_147 : decode prog_9_method_26_code 147 = .ok (.aload_n 0, 1) := by decide +kernel
theorem d_mdl_judge_148 : decode prog_9_method_26_code 148 = .ok (.iload_n 1, 1) := by decide +kernel
theorem d_mdl_judge_149 : decode prog_9_method_26_code 149 = .ok (.iconst 1, 1) := by decide +kernel
theorem d_mdl_judge_150 : decode prog_9_method_26_code 150 = .ok (.invokevirtual 169, 3) := by decide +kernel
theorem d_mdl_judge_153 : decode prog_9_method_26_code 153 = .ok (.ireturn, 1) := by decide +kernel
theorem d_mdl_judge_154 : decode prog_9_method_26_code 154 = .ok (.iload 4, 2) := by decide +kernel
theorem d_mdl_judge_156 : decode prog_9_method_26_code 156 = .ok (.iconst 1, 1) := by decide +kernel
theorem d_mdl_judge_157 : decode prog_9_method_26_code 157 = .ok (.if_icmp .eq 16, 3) := by decide +kernel
theorem d_mdl_judge_160 : decode prog_9_method_26_code 160 = .ok (.iload 4, 2) := by decide +kernel
theorem d_mdl_judge_162 : decode prog_9_method_26_code 162 = .ok (.iconst 2, 1) := by decide +kernel
theorem d_mdl_judge_163 : decode prog_9_method_26_code 163 = .ok (.if_icmp .eq 10, 3) := by decide +kernel
theorem d_mdl_judge_166 : decode prog_9_method_26_code 166 = .ok (.aload_n 0, 1) := by decide +kernel
theorem d_mdl_judge_167 : decode prog_9_method_26_code 167 = .ok (.iload_n 1, 1) := by decide +kernel
theorem d_mdl_judge_168 : decode prog_9_method_26_code 168 = .ok (.iconst 2, 1) := by decide +kernel
theorem d_mdl_judge_169 : decode prog_9_method_26_code 169 = .ok (.invokevirtual 169, 3) := by decide +kernel
theorem d_mdl_judge_172 : decode prog_9_method_26_code 172 = .ok (.ireturn, 1) := by decide +kernel
theorem d_mdl_judge_173 : decode prog_9_method_26_code 173 = .ok (.iload 5, 2) := by decide +kernel
theorem d_mdl_judge_175 : decode prog_9_method_26_code 175 = .ok (.ifCond .lt 20, 3) := by decide +kernel
theorem d_mdl_judge_178 : decode prog_9_method_26_code 178 = .ok (.iload 5, 2) := by decide +kernel
theorem d_mdl_judge_180 : decode prog_9_method_26_code 180 = .ok (.iload 4, 2) := by decide +kernel
theorem d_mdl_judge_182 : decode prog_9_method_26_code 182 = .ok (.iconst 1, 1) := by decide +kernel
theorem d_mdl_judge_183 : decode prog_9_method_26_code 183 = .ok (.if_icmp .ne 7, 3) := by decide +kernel
theorem d_mdl_judge_186 : decode prog_9_method_26_code 186 = .ok (.iconst 4, 1) := by decide +kernel
theorem d_mdl_judge_187 : decode prog_9_method_26_code 187 = .ok (.goto 5, 3) := by decide +kernel
theorem d_mdl_judge_190 : decode prog_9_method_26_code 190 = .ok (.bipush 6, 2) := by decide +kernel
theorem d_mdl_judge_192 : decode prog_9_method_26_code 192 = .ok (.if_icmp .le 10, 3) := by decide +kernel
theorem d_mdl_judge_195 : decode prog_9_method_26_code 195 = .ok (.aload_n 0, 1) := by decide +kernel
theorem d_mdl_judge_196 : decode prog_9_method_26_code 196 = .ok (.iload_n 1, 1) := by decide +kernel
theorem d_mdl_judge_197 : decode prog_9_method_26_code 197 = .ok (.iconst 3, 1) := by decide +kernel
theorem d_mdl_judge_198 : decode prog_9_method_26_code 198 = .ok (.invokevirtual 169, 3) := by decide +kernel
theorem d_mdl_judge_201 : decode prog_9_method_26_code 201 = .ok (.ireturn, 1) := by decide +kernel
theorem d_mdl_judge_202 : decode prog_9_method_26_code 202 = .ok (.aload_n 0, 1) := by decide +kernel
theorem d_mdl_judge_203 : decode prog_9_method_26_code 203 = .ok (.iload 5, 2) := by decide +kernel
theorem d_mdl_judge_205 : decode prog_9_method_26_code 205 = .ok (.invokevirtual 172, 3) := by decide +kernel
theorem d_mdl_judge_208 : decode prog_9_method_26_code 208 = .ok (.ifCond .ne 10, 3) := by decide +kernel
theorem d_mdl_judge_211 : decode prog_9_method_26_code 211 = .ok (.aload_n 0, 1) := by decide +kernel
theorem d_mdl_judge_212 : decode prog_9_method_26_code 212 = .ok (.iload_n 1, 1) := by decide +kernel
theorem d_mdl_judge_213 : decode prog_9_method_26_code 213 = .ok (.iconst 4, 1) := by decide +kernel
theorem d_mdl_judge_214 : decode prog_9_method_26_code 214 = .ok (.invokevirtual 169, 3) := by decide +kernel
theorem d_mdl_judge_217 : decode prog_9_method_26_code 217 = .ok (.ireturn, 1) := by decide +kernel
theorem d_mdl_judge_218 : decode prog_9_method_26_code 218 = .ok (.aload_n 0, 1) := by decide +kernel
theorem d_mdl_judge_219 : decode prog_9_method_26_code 219 = .ok (.dup, 1) := by decide +kernel
theorem d_mdl_judge_220 : decode prog_9_method_26_code 220 = .ok (.getfield 175, 3) := by decide +kernel
theorem d_mdl_judge_223 : decode prog_9_method_26_code 223 = .ok (.iconst 1, 1) := by decide +kernel
theorem d_mdl_judge_224 : decode prog_9_method_26_code 224 = .ok (.iadd, 1) := by decide +kernel
theorem d_mdl_judge_225 : decode prog_9_method_26_code 225 = .ok (.putfield 175, 3) := by decide +kernel
theorem d_mdl_judge_228 : decode prog_9_method_26_code 228 = .ok (.aload_n 0, 1) := by decide +kernel
theorem d_mdl_judge_229 : decode prog_9_method_26_code 229 = .ok (.iload_n 1, 1) := by decide +kernel
theorem d_mdl_judge_230 : decode prog_9_method_26_code 230 = .ok (.iconst 0, 1) := by decide +kernel
theorem d_mdl_judge_231 : decode prog_9_method_26_code 231 = .ok (.invokevirtual 169, 3) := by decide +kernel
theorem d_mdl_judge_234 : decode prog_9_method_26_code 234 = .ok (.pop, 1) := by decide +kernel
theorem d_mdl_judge_235 : decode prog_9_method_26_code 235 = .ok (.aload_n 0, 1) := by decide +kernel
theorem d_mdl_judge_236 : decode prog_9_method_26_code 236 = .ok (.iload 5, 2) := by decide +kernel
theorem d_mdl_judge_238 : decode prog_9_method_26_code 238 = .ok (.invokevirtual 178, 3) := by decide +kernel
theorem d_mdl_judge_241 : decode prog_9_method_26_code 241 = .ok (.iconst 1, 1) := by decide +kernel
theorem d_mdl_judge_242 : decode prog_9_method_26_code 242 = .ok (.ireturn, 1) := by decide +kernel
def b_mdl_runList_167 (k84 : rc_M → Nat → Int64 → Int64 → Int32 → Int32 → Option (rc_M)) (k112 : rc_M → Nat → Int64 → Int64 → Int32 → Int32 → Int32 → Int32 → Option (rc_M)) (w : rc_M) (a0 : Nat) (x1 : Int64) (x5 : Int64) (x7 : Int32) (x8 : Int32) (x9 : Int32) (x10 : Int32) (s0 : Option Nat) (s1 : Int32) (s2 : Int32) : Option (rc_M) :=
  (rc_sI w s0 2 s1 s2).bind fun w1 =>
  (rc_gI w1 (some a0) 7 32).bind fun v3 =>
  (rc_pI w1 (some a0) 7 32 (v3 + 1)).bind fun w5 =>
  k112 w5 a0 x1 x5 x7 x8 x9 (x10 + 1)

def b_mdl_runList_112 (k84 : rc_M → Nat → Int64 → Int64 → Int32 → Int32 → Option (rc_M)) : Nat → rc_M → Nat → Int64 → Int64 → Int32 → Int32 → Int32 → Int32 → Option (rc_M)
  | 0, _, _, _, _, _, _, _, _ => none
  | fuel + 1, w, a0, x1, x5, x7, x8, x9, x10 =>
    (rc_gR w (some a0) 7 8).bind fun v1 =>
    (rc_aI w v1 0 x9).bind fun v3 =>
    if (((v3 + 3) / 4) * 4) ≤ x10 then
      (rc_gR w (some a0) 7 9).bind fun v7 =>
      (rc_aL w v7 x9).bind fun v9 =>
      (rc_rc w (some a0) 7).bind fun a11 =>
      (f_mdl_outLong w a11 v9).bind fun w13 =>
      k84 w13 a0 x1 x5 x7 (x8 + 1)
    else
      (rc_gR w (some a0) 7 31).bind fun v15 =>
      (rc_gI w (some a0) 7 32).bind fun v17 =>
      (rc_gR w (some a0) 7 8).bind fun v19 =>
      (rc_aI w v19 0 x9).bind fun v21 =>
      if v21 ≤ x10 then
        b_mdl_runList_167 k84 (b_mdl_runList_112 k84 fuel) w a0 x1 x5 x7 x8 x9 x10 v15 v17 0
      else
        (rc_gR w (some a0) 7 7).bind fun v24 =>
        (rc_aI w v24 2 ((16 * x9) + x10)).bind fun v26 =>
        b_mdl_runList_167 k84 (b_mdl_runList_112 k84 fuel) w a0 x1 x5 x7 x8 x9 x10 v15 v17 v26

def b_mdl_runList_216 (w : rc_M) (s0 : Option Nat) (s1 : Int32) : Option (rc_M) :=
  (rc_rc w s0 7).bind fun a1 =>
  (f_mdl_outWord w a1 s1).bind fun w3 =>
  some w3

def b_mdl_runList_84 : Nat → rc_M → Nat → Int64 → Int64 → Int32 → Int32 → Option (rc_M)
  | 0, _, _, _, _, _, _ => none
  | fuel + 1, w, a0, x1, x5, x7, x8 =>
    if x7 ≤ x8 then
      if (lg_cmp x5 x7.toInt64) ≤ 0 then
        b_mdl_runList_216 w (some a0) 0
      else
        b_mdl_runList_216 w (some a0) 1
    else
      (rc_gR w (some a0) 7 8).bind fun v3 =>
      (rc_aI w v3 0 (x1.toInt32 + x8)).bind fun v5 =>
      (rc_rc w (some a0) 7).bind fun a7 =>
      (f_mdl_outWord w a7 v5).bind fun w9 =>
      b_mdl_runList_112 (b_mdl_runList_84 fuel) 5000 w9 a0 x1 x5 x7 x8 (x1.toInt32 + x8) 0

def b_mdl_runList_73 (w : rc_M) (a0 : Nat) (x1 : Int64) (x5 : Int64) (s0 : Int32) : Option (rc_M) :=
  (rc_rc w (some a0) 7).bind fun a1 =>
  (f_mdl_outWord w a1 s0).bind fun w3 =>
  b_mdl_runList_84 5000 w3 a0 x1 x5 s0 0

def b_mdl_runList_56 (w : rc_M) (a0 : Nat) (x1 : Int64) (x5 : Int64) (s0 : Int64) : Option (rc_M) :=
  if s0.toInt32 ≤ 8 then
    b_mdl_runList_73 w a0 x1 x5 s0.toInt32
  else
    b_mdl_runList_73 w a0 x1 x5 8

def b_mdl_runList_41 (w : rc_M) (a0 : Nat) (x1 : Int64) (x3 : Int64) (s0 : Int64) : Option (rc_M) :=
  if 0 ≤ (lg_cmp s0 x3) then
    b_mdl_runList_56 w a0 x1 s0 x3
  else
    b_mdl_runList_56 w a0 x1 s0 s0

def f_mdl_runList (w : rc_M) (a0 : Nat) : Option (rc_M) :=
  (rc_rc w (some a0) 7).bind fun a1 =>
  (f_mdl_nextWord w a1).bind fun p3 =>
  (rc_rc p3.2 (some a0) 7).bind fun a5 =>
  (f_mdl_nextWord p3.2 a5).bind fun p7 =>
  (rc_gI p7.2 (some a0) 7 10).bind fun v9 =>
  if 0 ≤ (lg_cmp (p3.1.toInt64 &&& 4294967295) v9.toInt64) then
    b_mdl_runList_41 p7.2 a0 (p3.1.toInt64 &&& 4294967295) (p7.1.toInt64 &&& 4294967295) 0
  else
    (rc_gI p7.2 (some a0) 7 10).bind fun v12 =>
    b_mdl_runList_41 p7.2 a0 (p3.1.toInt64 &&& 4294967295) (p7.1.toInt64 &&& 4294967295) (v12.toInt64 - (p3.1.toInt64 &&& 4294967295))

def b_mdl_runPut_62 : Nat → rc_M → Nat → Int64 → Int32 → Option (rc_M)
  | 0, _, _, _, _ => none
  | fuel + 1, w, a0, x2, x4 =>
    (rc_gI w (some a0) 7 30).bind fun v1 =>
    if v1 ≤ x4 then
      (rc_gR w (some a0) 7 8).bind fun v4 =>
      (rc_gI w (some a0) 7 10).bind fun v6 =>
      (rc_gI w (some a0) 7 30).bind fun v8 =>
      (rc_sI w v4 0 v6 v8).bind fun w10 =>
      (rc_gR w10 (some a0) 7 9).bind fun v12 =>
      (rc_gI w10 (some a0) 7 10).bind fun v14 =>
      (rc_sL w10 v12 v14 x2).bind fun w16 =>
      (rc_gI w16 (some a0) 7 10).bind fun v18 =>
      (rc_pI w16 (some a0) 7 10 (v18 + 1)).bind fun w20 =>
      some w20
    else
      (rc_gR w (some a0) 7 7).bind fun v22 =>
      (rc_gI w (some a0) 7 10).bind fun v24 =>
      (rc_gR w (some a0) 7 11).bind fun v26 =>
      (rc_gI w (some a0) 7 26).bind fun v28 =>
      (rc_gI w (some a0) 7 29).bind fun v30 =>
      (rc_aI w v26 2 (((1200 * v28) + v30) + x4)).bind fun v32 =>
      (rc_sI w v22 2 ((16 * v24) + x4) v32).bind fun w34 =>
      b_mdl_runPut_62 fuel w34 a0 x2 (x4 + 1)

def b_mdl_runPut_34 (w : rc_M) (a0 : Nat) (x1 : Int32) (x2 : Int64) (s0 : Option Nat) (s1 : Int32) : Option (rc_M) :=
  (rc_rc w s0 7).bind fun a1 =>
  (f_mdl_outWord w a1 s1).bind fun w3 =>
  if x1 < 0 then
    b_mdl_runPut_62 5000 w3 a0 x2 0
  else
    (rc_gR w3 (some a0) 7 9).bind fun v6 =>
    (rc_aL w3 v6 x1).bind fun v8 =>
    (rc_rc w3 (some a0) 7).bind fun a10 =>
    (f_mdl_outLong w3 a10 v8).bind fun w12 =>
    (rc_gR w12 (some a0) 7 9).bind fun v14 =>
    (rc_sL w12 v14 x1 x2).bind fun w16 =>
    some w16

def b_mdl_runPut_19 (w : rc_M) (a0 : Nat) (x1 : Int32) (x2 : Int64) : Option (rc_M) :=
  (rc_rc w (some a0) 7).bind fun a1 =>
  (f_mdl_outWord w a1 0).bind fun w3 =>
  if x1 < 0 then
    b_mdl_runPut_34 w3 a0 x1 x2 (some a0) 0
  else
    b_mdl_runPut_34 w3 a0 x1 x2 (some a0) 1

def f_mdl_runPut (w : rc_M) (a0 : Nat) (x1 : Int32) (x2 : Int64) : Option (rc_M) :=
  if 0 ≤ x1 then
    b_mdl_runPut_19 w a0 x1 x2
  else
    (rc_gI w (some a0) 7 10).bind fun v2 =>
    if v2 = 40 then
      (rc_rc w (some a0) 7).bind fun a5 =>
      (f_mdl_outWord w a5 1).bind fun w7 =>
      some w7
    else
      b_mdl_runPut_19 w a0 x1 x2

def b_mdl_remove_42 (k2 : rc_M → Nat → Int32 → Option (rc_M)) : Nat → rc_M → Nat → Int32 → Int32 → Option (rc_M)
  | 0, _, _, _, _ => none
  | fuel + 1, w, a0, x2, x3 =>
    if 16 ≤ x3 then
      k2 w a0 (x2 + 1)
    else
      (rc_gR w (some a0) 7 7).bind fun v2 =>
      (rc_gR w (some a0) 7 7).bind fun v4 =>
      (rc_aI w v4 2 (((16 * x2) + 16) + x3)).bind fun v6 =>
      (rc_sI w v2 2 ((16 * x2) + x3) v6).bind fun w8 =>
      b_mdl_remove_42 k2 fuel w8 a0 x2 (x3 + 1)

def b_mdl_remove_2 : Nat → rc_M → Nat → Int32 → Option (rc_M)
  | 0, _, _, _ => none
  | fuel + 1, w, a0, x2 =>
    (rc_gI w (some a0) 7 10).bind fun v1 =>
    if v1 ≤ (x2 + 1) then
      (rc_gI w (some a0) 7 10).bind fun v4 =>
      (rc_pI w (some a0) 7 10 (v4 - 1)).bind fun w6 =>
      some w6
    else
      (rc_gR w (some a0) 7 8).bind fun v8 =>
      (rc_gR w (some a0) 7 8).bind fun v10 =>
      (rc_aI w v10 0 (x2 + 1)).bind fun v12 =>
      (rc_sI w v8 0 x2 v12).bind fun w14 =>
      (rc_gR w14 (some a0) 7 9).bind fun v16 =>
      (rc_gR w14 (some a0) 7 9).bind fun v18 =>
      (rc_aL w14 v18 (x2 + 1)).bind fun v20 =>
      (rc_sL w14 v16 x2 v20).bind fun w22 =>
      b_mdl_remove_42 (b_mdl_remove_2 fuel) 5000 w22 a0 x2 0

def f_mdl_remove (w : rc_M) (a0 : Nat) (x1 : Int32) : Option (rc_M) :=
  b_mdl_remove_2 5000 w a0 x1

def b_mdl_run_149 (w : rc_M) : Option (rc_M) :=
  some w

def b_mdl_run_81 (w : rc_M) (a0 : Nat) (x2 : Int32) (s0 : Option Nat) (s1 : Int32) : Option (rc_M) :=
  (rc_rc w s0 7).bind fun a1 =>
  (f_mdl_outWord w a1 s1).bind fun w3 =>
  if x2 < 0 then
    b_mdl_run_149 w3 
  else
    (rc_rc w3 (some a0) 7).bind fun a6 =>
    (f_mdl_remove w3 a6 x2).bind fun w8 =>
    b_mdl_run_149 w8 

def b_mdl_run_132 (w : rc_M) (a0 : Nat) (x2 : Int32) (s0 : Option Nat) (s1 : Int32) : Option (rc_M) :=
  (rc_rc w s0 7).bind fun a1 =>
  (f_mdl_outWord w a1 s1).bind fun w3 =>
  if x2 < 0 then
    b_mdl_run_149 w3 
  else
    (rc_gR w3 (some a0) 7 9).bind fun v6 =>
    (rc_aL w3 v6 x2).bind fun v8 =>
    (rc_rc w3 (some a0) 7).bind fun a10 =>
    (f_mdl_outLong w3 a10 v8).bind fun w12 =>
    b_mdl_run_149 w12 

def b_mdl_run_122 (w : rc_M) (a0 : Nat) (x2 : Int32) : Option (rc_M) :=
  if x2 < 0 then
    b_mdl_run_132 w a0 x2 (some a0) 2
  else
    b_mdl_run_132 w a0 x2 (some a0) 0

def f_mdl_run (w : rc_M) (a0 : Nat) (x1 : Int32) : Option (rc_M) :=
  (rc_gI w (some a0) 7 33).bind fun v1 =>
  (rc_pI w (some a0) 7 27 v1).bind fun w3 =>
  if x1 = 4 then
    (rc_rc w3 (some a0) 7).bind fun a45 =>
    (f_mdl_runSum w3 a45).bind fun w47 =>
    b_mdl_run_149 w47 
  else
    if x1 = 5 then
      (rc_rc w3 (some a0) 7).bind fun a41 =>
      (f_mdl_runList w3 a41).bind fun w43 =>
      b_mdl_run_149 w43 
    else
      if x1 ≤ 0 then
        b_mdl_run_149 w3 
      else
        (rc_rc w3 (some a0) 7).bind fun a8 =>
        (f_mdl_nextBytes w3 a8 16).bind fun p10 =>
        (rc_rc p10.2 (some a0) 7).bind fun a12 =>
        (f_mdl_place p10.2 a12).bind fun p14 =>
        if x1 = 1 then
          (rc_rc p14.2 (some a0) 7).bind fun a33 =>
          (f_mdl_nextLong p14.2 a33).bind fun p35 =>
          (rc_rc p35.2 (some a0) 7).bind fun a37 =>
          (f_mdl_runPut p35.2 a37 p14.1 p35.1).bind fun w39 =>
          b_mdl_run_149 w39 
        else
          if x1 = 6 then
            if p14.1 < 0 then
              b_mdl_run_81 p14.2 a0 p14.1 (some a0) 0
            else
              b_mdl_run_81 p14.2 a0 p14.1 (some a0) 1
          else
            if p14.1 < 0 then
              b_mdl_run_122 p14.2 a0 p14.1
            else
              if x1 = 3 then
                (rc_gR p14.2 (some a0) 7 9).bind fun v20 =>
                (rc_gR p14.2 (some a0) 7 9).bind fun v22 =>
                (rc_aL p14.2 v22 p14.1).bind fun v24 =>
                (rc_rc p14.2 (some a0) 7).bind fun a26 =>
                (f_mdl_nextLong p14.2 a26).bind fun p28 =>
                (rc_sL p28.2 v20 p14.1 (v24 + p28.1)).bind fun w30 =>
                b_mdl_run_122 w30 a0 p14.1
              else
                b_mdl_run_122 p14.2 a0 p14.1

def b_mdl_judge_115 (w : rc_M) (a0 : Nat) (x1 : Int32) : Option (Int32 × rc_M) :=
  (rc_rc w (some a0) 7).bind fun a1 =>
  (f_mdl_refuse w a1 x1 1 1).bind fun p3 =>
  rc_z1 p3.1 p3.2

def b_mdl_judge_133 (w : rc_M) (a0 : Nat) (x1 : Int32) : Option (Int32 × rc_M) :=
  (rc_rc w (some a0) 7).bind fun a1 =>
  (f_mdl_refuse w a1 x1 1 3).bind fun p3 =>
  rc_z1 p3.1 p3.2

def b_mdl_judge_195 (w : rc_M) (a0 : Nat) (x1 : Int32) : Option (Int32 × rc_M) :=
  (rc_rc w (some a0) 7).bind fun a1 =>
  (f_mdl_accept w a1 x1 3).bind fun p3 =>
  rc_z1 p3.1 p3.2

def b_mdl_judge_192 (w : rc_M) (a0 : Nat) (x1 : Int32) (x5 : Int32) (s0 : Int32) (s1 : Int32) : Option (Int32 × rc_M) :=
  if s0 ≤ s1 then
    (rc_rc w (some a0) 7).bind fun a2 =>
    (f_mdl_takes w a2 x5).bind fun p4 =>
    if p4.1 = 0 then
      (rc_rc p4.2 (some a0) 7).bind fun a19 =>
      (f_mdl_accept p4.2 a19 x1 4).bind fun p21 =>
      rc_z1 p21.1 p21.2
    else
      (rc_gI p4.2 (some a0) 7 23).bind fun v7 =>
      (rc_pI p4.2 (some a0) 7 23 (v7 + 1)).bind fun w9 =>
      (rc_rc w9 (some a0) 7).bind fun a11 =>
      (f_mdl_accept w9 a11 x1 0).bind fun p13 =>
      (rc_rc p13.2 (some a0) 7).bind fun a15 =>
      (f_mdl_run p13.2 a15 x5).bind fun w17 =>
      rc_z1 1 w17
  else
    b_mdl_judge_195 w a0 x1

def b_mdl_judge_173 (w : rc_M) (a0 : Nat) (x1 : Int32) (x4 : Int32) (x5 : Int32) : Option (Int32 × rc_M) :=
  if x5 < 0 then
    b_mdl_judge_195 w a0 x1
  else
    if x4 = 1 then
      b_mdl_judge_192 w a0 x1 x5 x5 4
    else
      b_mdl_judge_192 w a0 x1 x5 x5 6

def b_mdl_judge_123 (w : rc_M) (a0 : Nat) (x1 : Int32) (x3 : Int32) (x4 : Int32) (x5 : Int32) (x8 : Int32) (x9 : Int32) : Option (Int32 × rc_M) :=
  if x8 = 0 then
    if x9 ≤ 0 then
      if x3 = 400100 then
        if x4 = 1 then
          b_mdl_judge_173 w a0 x1 x4 x5
        else
          if x4 = 2 then
            b_mdl_judge_173 w a0 x1 x4 x5
          else
            (rc_rc w (some a0) 7).bind fun a6 =>
            (f_mdl_accept w a6 x1 2).bind fun p8 =>
            rc_z1 p8.1 p8.2
      else
        (rc_rc w (some a0) 7).bind fun a10 =>
        (f_mdl_accept w a10 x1 1).bind fun p12 =>
        rc_z1 p12.1 p12.2
    else
      b_mdl_judge_133 w a0 x1
  else
    b_mdl_judge_133 w a0 x1

def b_mdl_judge_105 (w : rc_M) (a0 : Nat) (x1 : Int32) (x3 : Int32) (x4 : Int32) (x5 : Int32) (x6 : Int32) (x7 : Int32) (x8 : Int32) (x9 : Int32) : Option (Int32 × rc_M) :=
  if x6 = 0 then
    if x7 ≤ 0 then
      b_mdl_judge_123 w a0 x1 x3 x4 x5 x8 x9
    else
      b_mdl_judge_115 w a0 x1
  else
    b_mdl_judge_123 w a0 x1 x3 x4 x5 x8 x9

def f_mdl_judge (w : rc_M) (a0 : Nat) (x1 : Int32) : Option (Int32 × rc_M) :=
  (rc_pI w (some a0) 7 27 8).bind fun w1 =>
  (rc_pZ w1 (some a0) 7 28 1).bind fun w3 =>
  (rc_rc w3 (some a0) 7).bind fun a5 =>
  (f_mdl_nextWord w3 a5).bind fun p7 =>
  (rc_gI p7.2 (some a0) 7 28).bind fun v9 =>
  if v9 = 0 then
    rc_z1 0 p7.2
  else
    if p7.1 = 2 then
      (rc_rc p7.2 (some a0) 7).bind fun a13 =>
      (f_mdl_nextWord p7.2 a13).bind fun p15 =>
      (rc_rc p15.2 (some a0) 7).bind fun a17 =>
      (f_mdl_nextWord p15.2 a17).bind fun p19 =>
      (rc_rc p19.2 (some a0) 7).bind fun a21 =>
      (f_mdl_nextWord p19.2 a21).bind fun p23 =>
      (rc_rc p23.2 (some a0) 7).bind fun a25 =>
      (f_mdl_nextWord p23.2 a25).bind fun p27 =>
      (rc_rc p27.2 (some a0) 7).bind fun a29 =>
      (f_mdl_nextBytes p27.2 a29 400).bind fun p31 =>
      (rc_rc p31.2 (some a0) 7).bind fun a33 =>
      (f_mdl_nextWord p31.2 a33).bind fun p35 =>
      (rc_rc p35.2 (some a0) 7).bind fun a37 =>
      (f_mdl_nextBytes p35.2 a37 400).bind fun p39 =>
      (rc_gI p39.2 (some a0) 7 28).bind fun v41 =>
      if v41 = 0 then
        rc_z1 0 p39.2
      else
        if p27.1 = 0 then
          b_mdl_judge_105 p39.2 a0 x1 p15.1 p19.1 p23.1 p27.1 p31.1 p35.1 p39.1
        else
          if p27.1 = 1 then
            b_mdl_judge_105 p39.2 a0 x1 p15.1 p19.1 p23.1 p27.1 p31.1 p35.1 p39.1
          else
            b_mdl_judge_115 p39.2 a0 x1
    else
      (rc_rc p7.2 (some a0) 7).bind fun a46 =>
      (f_mdl_refuse p7.2 a46 x1 0 2).bind fun p48 =>
      rc_z1 p48.1 p48.2

set_option maxRecDepth 100000 in
set_option maxHeartbeats 4000000 in
theorem k_mdl_runList_167 {X : rc_X} {w0 : rc_M} (hF : (q_R X).frames = 2) (hL : (q_R X).locals = 44) (hN : q_n X = 11) (C : rc_C X "RecordCallsModel" prog_9_method_33_code w0) {res : rc_M} (E : rc_E0 X y_mdl_runList none none res) {k84 : rc_M → Nat → Int64 → Int64 → Int32 → Int32 → Option (rc_M)} (hk84 : ∀ (w : rc_M) (a0 : Nat) (x1 : Int64) (x5 : Int64) (x7 : Int32) (x8 : Int32), k84 w a0 x1 x5 x7 x8 = some res → rc_J X w 84 [] [(0, va_rf (some a0)), (1, .long x1), (5, .long x5), (7, .int x7), (8, .int x8)]) {k112 : rc_M → Nat → Int64 → Int64 → Int32 → Int32 → Int32 → Int32 → Option (rc_M)} (hk112 : ∀ (w : rc_M) (a0 : Nat) (x1 : Int64) (x5 : Int64) (x7 : Int32) (x8 : Int32) (x9 : Int32) (x10 : Int32), k112 w a0 x1 x5 x7 x8 x9 x10 = some res → rc_J X w 112 [] [(0, va_rf (some a0)), (1, .long x1), (5, .long x5), (7, .int x7), (8, .int x8), (9, .int x9), (10, .int x10)]) {w : rc_M} {a0 : Nat} {x1 : Int64} {x5 : Int64} {x7 : Int32} {x8 : Int32} {x9 : Int32} {x10 : Int32} {s0 : Option Nat} {s1 : Int32} {s2 : Int32} (h : b_mdl_runList_167 k84 k112 w a0 x1 x5 x7 x8 x9 x10 s0 s1 s2 = some res) : rc_J X w 167 [.int s2, .int s1, va_rf s0] [(0, va_rf (some a0)), (1, .long x1), (5, .long x5), (7, .int x7), (8, .int x8), (9, .int x9), (10, .int x10)] := by
  unfold b_mdl_runList_167 at h
  obtain ⟨w1, h2, h⟩ := Option.bind_eq_some_iff.mp h
  refine j_bast C h2 d_mdl_runList_167 rfl ?_
  refine j_aload_n C d_mdl_runList_168 rfl 0 rfl ?_
  refine j_dup C d_mdl_runList_169 rfl (by first | rfl | exact va_rf_cat _) ?_
  obtain ⟨v3, h4, h⟩ := Option.bind_eq_some_iff.mp h
  refine j_getI C fl_mdl_140 h4 d_mdl_runList_170 rfl ?_
  refine j_iconst (v := 1) C d_mdl_runList_173 rfl (by decide) ?_
  refine j_iadd C d_mdl_runList_174 rfl ?_
  obtain ⟨w5, h6, h⟩ := Option.bind_eq_some_iff.mp h
  refine j_putV C (ci := 7) (k := 32) (by decide) (by decide) T_751 (Or.inl rfl) rfl rfl h6 d_mdl_runList_175 rfl ?_
  refine j_iinc C d_mdl_runList_178 rfl 6 [(10, .int (x10 + 1)), (0, va_rf (some a0)), (1, .long x1), (5, .long x5), (7, .int x7), (8, .int x8), (9, .int x9)] rfl rfl (rc_lt hN (by decide)) (by first | rfl | simp [va_rf_cat, rc_cat_i, rc_cat_l]) ?_
  refine j_goto (tgt := 112) C d_mdl_runList_181 (by decide) ?_
  refine rc_J.sub (lv' := [(0, va_rf (some a0)), (1, .long x1), (5, .long x5), (7, .int x7), (8, .int x8), (9, .int x9), (10, .int (x10 + 1))]) [1, 2, 3, 4, 5, 6, 0] rfl ?_
  exact hk112 _ _ _ _ _ _ _ _ h

set_option maxRecDepth 100000 in
set_option maxHeartbeats 4000000 in
theorem k_mdl_runList_112 {X : rc_X} {w0 : rc_M} (hF : (q_R X).frames = 2) (hL : (q_R X).locals = 44) (hN : q_n X = 11) (C : rc_C X "RecordCallsModel" prog_9_method_33_code w0) {res : rc_M} (E : rc_E0 X y_mdl_runList none none res) {k84 : rc_M → Nat → Int64 → Int64 → Int32 → Int32 → Option (rc_M)} (hk84 : ∀ (w : rc_M) (a0 : Nat) (x1 : Int64) (x5 : Int64) (x7 : Int32) (x8 : Int32), k84 w a0 x1 x5 x7 x8 = some res → rc_J X w 84 [] [(0, va_rf (some a0)), (1, .long x1), (5, .long x5), (7, .int x7), (8, .int x8)]) : ∀ (fuel : Nat) (w : rc_M) (a0 : Nat) (x1 : Int64) (x5 : Int64) (x7 : Int32) (x8 : Int32) (x9 : Int32) (x10 : Int32), b_mdl_runList_112 k84 fuel w a0 x1 x5 x7 x8 x9 x10 = some res → rc_J X w 112 [] [(0, va_rf (some a0)), (1, .long x1), (5, .long x5), (7, .int x7), (8, .int x8), (9, .int x9), (10, .int x10)] := by
  intro fuel
  induction fuel with
  | zero => intro w a0 x1 x5 x7 x8 x9 x10 h; simp [b_mdl_runList_112] at h
  | succ fuel ih =>
    intro w a0 x1 x5 x7 x8 x9 x10 h
    unfold b_mdl_runList_112 at h
    refine j_iload C d_mdl_runList_112 rfl 6 rfl ?_
    refine j_aload_n C d_mdl_runList_114 rfl 0 rfl ?_
    obtain ⟨v1, h2, h⟩ := Option.bind_eq_some_iff.mp h
    refine j_getR C fl_mdl_27 h2 d_mdl_runList_115 rfl ?_
    refine j_iload C d_mdl_runList_118 rfl 5 rfl ?_
    obtain ⟨v3, h4, h⟩ := Option.bind_eq_some_iff.mp h
    refine j_iald C h4 d_mdl_runList_120 rfl ?_
    refine j_iconst (v := 3) C d_mdl_runList_121 rfl (by decide) ?_
    refine j_iadd C d_mdl_runList_122 rfl ?_
    refine j_iconst (v := 4) C d_mdl_runList_123 rfl (by decide) ?_
    refine j_idiv C d_mdl_runList_124 rfl (by decide) ?_
    refine j_iconst (v := 4) C d_mdl_runList_125 rfl (by decide) ?_
    refine j_imul C d_mdl_runList_126 rfl ?_
    refine j_icmp_ge (tgt := 184) C d_mdl_runList_127 (by decide) rfl (fun c6 => ?_) (fun c6 => ?_)
    · rw [if_pos c6] at h
      refine j_aload_n C d_mdl_runList_184 rfl 0 rfl ?_
      refine j_aload_n C d_mdl_runList_185 rfl 0 rfl ?_
      obtain ⟨v7, h8, h⟩ := Option.bind_eq_some_iff.mp h
      refine j_getR C fl_mdl_30 h8 d_mdl_runList_186 rfl ?_
      refine j_iload C d_mdl_runList_189 rfl 5 rfl ?_
      obtain ⟨v9, h10, h⟩ := Option.bind_eq_some_iff.mp h
      refine j_lald C h10 d_mdl_runList_191 rfl ?_
      obtain ⟨a11, h12, h⟩ := Option.bind_eq_some_iff.mp h
      obtain ⟨w13, h14, h⟩ := Option.bind_eq_some_iff.mp h
      refine j_callV C (As := [.long v9]) (st := []) (sk' := []) mk_mdl_outLong (Or.inl T_929) T_931 S_44 (ci := 7) rfl h12 (rc_le hF (by decide)) (rc_le hL (by decide)) (ct_mdl_outLong h14) rfl rfl (by decide) d_mdl_runList_192 rfl rfl ?_
      refine j_iinc C d_mdl_runList_195 rfl 4 [(8, .int (x8 + 1)), (0, va_rf (some a0)), (1, .long x1), (5, .long x5), (7, .int x7), (9, .int x9), (10, .int x10)] rfl rfl (rc_lt hN (by decide)) (by first | rfl | simp [va_rf_cat, rc_cat_i, rc_cat_l]) ?_
      refine j_goto (tgt := 84) C d_mdl_runList_198 (by decide) ?_
      refine rc_J.sub (lv' := [(0, va_rf (some a0)), (1, .long x1), (5, .long x5), (7, .int x7), (8, .int (x8 + 1))]) [1, 2, 3, 4, 0] rfl ?_
      exact hk84 _ _ _ _ _ _ h
    · rw [if_neg c6] at h
      refine j_aload_n C d_mdl_runList_130 rfl 0 rfl ?_
      obtain ⟨v15, h16, h⟩ := Option.bind_eq_some_iff.mp h
      refine j_getR C fl_mdl_71 h16 d_mdl_runList_131 rfl ?_
      refine j_aload_n C d_mdl_runList_134 rfl 0 rfl ?_
      obtain ⟨v17, h18, h⟩ := Option.bind_eq_some_iff.mp h
      refine j_getI C fl_mdl_140 h18 d_mdl_runList_135 rfl ?_
      refine j_iload C d_mdl_runList_138 rfl 6 rfl ?_
      refine j_aload_n C d_mdl_runList_140 rfl 0 rfl ?_
      obtain ⟨v19, h20, h⟩ := Option.bind_eq_some_iff.mp h
      refine j_getR C fl_mdl_27 h20 d_mdl_runList_141 rfl ?_
      refine j_iload C d_mdl_runList_144 rfl 5 rfl ?_
      obtain ⟨v21, h22, h⟩ := Option.bind_eq_some_iff.mp h
      refine j_iald C h22 d_mdl_runList_146 rfl ?_
      refine j_icmp_ge (tgt := 166) C d_mdl_runList_147 (by decide) rfl (fun c23 => ?_) (fun c23 => ?_)
      · rw [if_pos c23] at h
        refine j_iconst (v := 0) C d_mdl_runList_166 rfl (by decide) ?_
        exact k_mdl_runList_167 hF hL hN C E hk84 (fun w z0 z1 z2 z3 z4 z5 z6 h => ih w z0 z1 z2 z3 z4 z5 z6 h) h
      · rw [if_neg c23] at h
        refine j_aload_n C d_mdl_runList_150 rfl 0 rfl ?_
        obtain ⟨v24, h25, h⟩ := Option.bind_eq_some_iff.mp h
        refine j_getR C fl_mdl_24 h25 d_mdl_runList_151 rfl ?_
        refine j_bipush (v := 16) C d_mdl_runList_154 rfl (by decide) ?_
        refine j_iload C d_mdl_runList_156 rfl 5 rfl ?_
        refine j_imul C d_mdl_runList_158 rfl ?_
        refine j_iload C d_mdl_runList_159 rfl 6 rfl ?_
        refine j_iadd C d_mdl_runList_161 rfl ?_
        obtain ⟨v26, h27, h⟩ := Option.bind_eq_some_iff.mp h
        refine j_bald C h27 d_mdl_runList_162 rfl ?_
        refine j_goto (tgt := 167) C d_mdl_runList_163 (by decide) ?_
        exact k_mdl_runList_167 hF hL hN C E hk84 (fun w z0 z1 z2 z3 z4 z5 z6 h => ih w z0 z1 z2 z3 z4 z5 z6 h) h

set_option maxRecDepth 100000 in
set_option maxHeartbeats 4000000 in
theorem k_mdl_runList_216 {X : rc_X} {w0 : rc_M} (hF : (q_R X).frames = 2) (hL : (q_R X).locals = 44) (hN : q_n X = 11) (C : rc_C X "RecordCallsModel" prog_9_method_33_code w0) {res : rc_M} (E : rc_E0 X y_mdl_runList none none res) {w : rc_M} {s0 : Option Nat} {s1 : Int32} (h : b_mdl_runList_216 w s0 s1 = some res) : rc_J X w 216 [.int s1, va_rf s0] [] := by
  unfold b_mdl_runList_216 at h
  obtain ⟨a1, h2, h⟩ := Option.bind_eq_some_iff.mp h
  obtain ⟨w3, h4, h⟩ := Option.bind_eq_some_iff.mp h
  refine j_callV C (As := [.int s1]) (st := []) (sk' := []) mk_mdl_outWord (Or.inl T_896) T_898 S_36 (ci := 7) rfl h2 (rc_le hF (by decide)) (rc_le hL (by decide)) (ct_mdl_outWord h4) rfl rfl (by decide) d_mdl_runList_216 rfl rfl ?_
  cases h
  exact j_vret C E d_mdl_runList_219

set_option maxRecDepth 100000 in
set_option maxHeartbeats 4000000 in
theorem k_mdl_runList_84 {X : rc_X} {w0 : rc_M} (hF : (q_R X).frames = 2) (hL : (q_R X).locals = 44) (hN : q_n X = 11) (C : rc_C X "RecordCallsModel" prog_9_method_33_code w0) {res : rc_M} (E : rc_E0 X y_mdl_runList none none res) : ∀ (fuel : Nat) (w : rc_M) (a0 : Nat) (x1 : Int64) (x5 : Int64) (x7 : Int32) (x8 : Int32), b_mdl_runList_84 fuel w a0 x1 x5 x7 x8 = some res → rc_J X w 84 [] [(0, va_rf (some a0)), (1, .long x1), (5, .long x5), (7, .int x7), (8, .int x8)] := by
  intro fuel
  induction fuel with
  | zero => intro w a0 x1 x5 x7 x8 h; simp [b_mdl_runList_84] at h
  | succ fuel ih =>
    intro w a0 x1 x5 x7 x8 h
    unfold b_mdl_runList_84 at h
    refine j_iload C d_mdl_runList_84 rfl 4 rfl ?_
    refine j_iload C d_mdl_runList_86 rfl 3 rfl ?_
    refine j_icmp_ge (tgt := 201) C d_mdl_runList_88 (by decide) rfl (fun c1 => ?_) (fun c1 => ?_)
    · rw [if_pos c1] at h
      refine j_aload_n C d_mdl_runList_201 rfl 0 rfl ?_
      refine j_lload C d_mdl_runList_202 rfl 2 rfl ?_
      refine j_iload C d_mdl_runList_204 rfl 3 rfl ?_
      refine j_i2l C d_mdl_runList_206 rfl ?_
      refine j_lcmp C d_mdl_runList_207 rfl ?_
      refine j_if_le (tgt := 215) C d_mdl_runList_208 (by decide) rfl (fun c2 => ?_) (fun c2 => ?_)
      · rw [if_pos c2] at h
        refine j_iconst (v := 0) C d_mdl_runList_215 rfl (by decide) ?_
        refine rc_J.sub (lv' := []) [] rfl ?_
        exact k_mdl_runList_216 hF hL hN C E h
      · rw [if_neg c2] at h
        refine j_iconst (v := 1) C d_mdl_runList_211 rfl (by decide) ?_
        refine j_goto (tgt := 216) C d_mdl_runList_212 (by decide) ?_
        refine rc_J.sub (lv' := []) [] rfl ?_
        exact k_mdl_runList_216 hF hL hN C E h
    · rw [if_neg c1] at h
      refine j_lload_n C d_mdl_runList_91 rfl 1 rfl ?_
      refine j_l2i C d_mdl_runList_92 rfl ?_
      refine j_iload C d_mdl_runList_93 rfl 4 rfl ?_
      refine j_iadd C d_mdl_runList_95 rfl ?_
      refine j_istore C (i := 9) d_mdl_runList_96 rfl [(9, .int (x1.toInt32 + x8)), (0, va_rf (some a0)), (1, .long x1), (5, .long x5), (7, .int x7), (8, .int x8)] (rc_lt hN (by decide)) (by first | rfl | simp [va_rf_cat, rc_cat_i, rc_cat_l]) ?_
      refine j_aload_n C d_mdl_runList_98 rfl 1 rfl ?_
      refine j_aload_n C d_mdl_runList_99 rfl 1 rfl ?_
      obtain ⟨v3, h4, h⟩ := Option.bind_eq_some_iff.mp h
      refine j_getR C fl_mdl_27 h4 d_mdl_runList_100 rfl ?_
      refine j_iload C d_mdl_runList_103 rfl 0 rfl ?_
      obtain ⟨v5, h6, h⟩ := Option.bind_eq_some_iff.mp h
      refine j_iald C h6 d_mdl_runList_105 rfl ?_
      obtain ⟨a7, h8, h⟩ := Option.bind_eq_some_iff.mp h
      obtain ⟨w9, h10, h⟩ := Option.bind_eq_some_iff.mp h
      refine j_callV C (As := [.int v5]) (st := []) (sk' := []) mk_mdl_outWord (Or.inl T_896) T_898 S_36 (ci := 7) rfl h8 (rc_le hF (by decide)) (rc_le hL (by decide)) (ct_mdl_outWord h10) rfl rfl (by decide) d_mdl_runList_106 rfl rfl ?_
      refine j_iconst (v := 0) C d_mdl_runList_109 rfl (by decide) ?_
      refine j_istore C (i := 10) d_mdl_runList_110 rfl [(10, .int 0), (9, .int (x1.toInt32 + x8)), (0, va_rf (some a0)), (1, .long x1), (5, .long x5), (7, .int x7), (8, .int x8)] (rc_lt hN (by decide)) (by first | rfl | simp [va_rf_cat, rc_cat_i, rc_cat_l]) ?_
      refine rc_J.sub (lv' := [(0, va_rf (some a0)), (1, .long x1), (5, .long x5), (7, .int x7), (8, .int x8), (9, .int (x1.toInt32 + x8)), (10, .int 0)]) [2, 3, 4, 5, 6, 1, 0] rfl ?_
      exact k_mdl_runList_112 hF hL hN C E (fun w z0 z1 z2 z3 z4 h => ih w z0 z1 z2 z3 z4 h) _ _ _ _ _ _ _ _ _ h

set_option maxRecDepth 100000 in
set_option maxHeartbeats 4000000 in
theorem k_mdl_runList_73 {X : rc_X} {w0 : rc_M} (hF : (q_R X).frames = 2) (hL : (q_R X).locals = 44) (hN : q_n X = 11) (C : rc_C X "RecordCallsModel" prog_9_method_33_code w0) {res : rc_M} (E : rc_E0 X y_mdl_runList none none res) {w : rc_M} {a0 : Nat} {x1 : Int64} {x5 : Int64} {s0 : Int32} (h : b_mdl_runList_73 w a0 x1 x5 s0 = some res) : rc_J X w 73 [.int s0] [(0, va_rf (some a0)), (1, .long x1), (5, .long x5)] := by
  unfold b_mdl_runList_73 at h
  refine j_istore C (i := 7) d_mdl_runList_73 rfl [(7, .int s0), (0, va_rf (some a0)), (1, .long x1), (5, .long x5)] (rc_lt hN (by decide)) (by first | rfl | simp [va_rf_cat, rc_cat_i, rc_cat_l]) ?_
  refine j_aload_n C d_mdl_runList_75 rfl 1 rfl ?_
  refine j_iload C d_mdl_runList_76 rfl 0 rfl ?_
  obtain ⟨a1, h2, h⟩ := Option.bind_eq_some_iff.mp h
  obtain ⟨w3, h4, h⟩ := Option.bind_eq_some_iff.mp h
  refine j_callV C (As := [.int s0]) (st := []) (sk' := []) mk_mdl_outWord (Or.inl T_896) T_898 S_36 (ci := 7) rfl h2 (rc_le hF (by decide)) (rc_le hL (by decide)) (ct_mdl_outWord h4) rfl rfl (by decide) d_mdl_runList_78 rfl rfl ?_
  refine j_iconst (v := 0) C d_mdl_runList_81 rfl (by decide) ?_
  refine j_istore C (i := 8) d_mdl_runList_82 rfl [(8, .int 0), (7, .int s0), (0, va_rf (some a0)), (1, .long x1), (5, .long x5)] (rc_lt hN (by decide)) (by first | rfl | simp [va_rf_cat, rc_cat_i, rc_cat_l]) ?_
  refine rc_J.sub (lv' := [(0, va_rf (some a0)), (1, .long x1), (5, .long x5), (7, .int s0), (8, .int 0)]) [2, 3, 4, 1, 0] rfl ?_
  exact k_mdl_runList_84 hF hL hN C E _ _ _ _ _ _ _ h

set_option maxRecDepth 100000 in
set_option maxHeartbeats 4000000 in
theorem k_mdl_runList_56 {X : rc_X} {w0 : rc_M} (hF : (q_R X).frames = 2) (hL : (q_R X).locals = 44) (hN : q_n X = 11) (C : rc_C X "RecordCallsModel" prog_9_method_33_code w0) {res : rc_M} (E : rc_E0 X y_mdl_runList none none res) {w : rc_M} {a0 : Nat} {x1 : Int64} {x5 : Int64} {s0 : Int64} (h : b_mdl_runList_56 w a0 x1 x5 s0 = some res) : rc_J X w 56 [.long s0] [(0, va_rf (some a0)), (1, .long x1), (5, .long x5)] := by
  unfold b_mdl_runList_56 at h
  refine j_l2i C d_mdl_runList_56 rfl ?_
  refine j_istore C (i := 7) d_mdl_runList_57 rfl [(7, .int s0.toInt32), (0, va_rf (some a0)), (1, .long x1), (5, .long x5)] (rc_lt hN (by decide)) (by first | rfl | simp [va_rf_cat, rc_cat_i, rc_cat_l]) ?_
  refine j_iload C d_mdl_runList_59 rfl 0 rfl ?_
  refine j_bipush (v := 8) C d_mdl_runList_61 rfl (by decide) ?_
  refine j_icmp_le (tgt := 71) C d_mdl_runList_63 (by decide) rfl (fun c1 => ?_) (fun c1 => ?_)
  · rw [if_pos c1] at h
    refine j_iload C d_mdl_runList_71 rfl 0 rfl ?_
    refine rc_J.sub (lv' := [(0, va_rf (some a0)), (1, .long x1), (5, .long x5)]) [1, 2, 3] rfl ?_
    exact k_mdl_runList_73 hF hL hN C E h
  · rw [if_neg c1] at h
    refine j_bipush (v := 8) C d_mdl_runList_66 rfl (by decide) ?_
    refine j_goto (tgt := 73) C d_mdl_runList_68 (by decide) ?_
    refine rc_J.sub (lv' := [(0, va_rf (some a0)), (1, .long x1), (5, .long x5)]) [1, 2, 3] rfl ?_
    exact k_mdl_runList_73 hF hL hN C E h

set_option maxRecDepth 100000 in
set_option maxHeartbeats 4000000 in
theorem k_mdl_runList_41 {X : rc_X} {w0 : rc_M} (hF : (q_R X).frames = 2) (hL : (q_R X).locals = 44) (hN : q_n X = 11) (C : rc_C X "RecordCallsModel" prog_9_method_33_code w0) {res : rc_M} (E : rc_E0 X y_mdl_runList none none res) {w : rc_M} {a0 : Nat} {x1 : Int64} {x3 : Int64} {s0 : Int64} (h : b_mdl_runList_41 w a0 x1 x3 s0 = some res) : rc_J X w 41 [.long s0] [(0, va_rf (some a0)), (1, .long x1), (3, .long x3)] := by
  unfold b_mdl_runList_41 at h
  refine j_lstore C (i := 5) d_mdl_runList_41 rfl [(5, .long s0), (0, va_rf (some a0)), (1, .long x1), (3, .long x3)] (rc_lt hN (by decide)) (by first | rfl | simp [va_rf_cat, rc_cat_i, rc_cat_l]) ?_
  refine j_lload C d_mdl_runList_43 rfl 0 rfl ?_
  refine j_lload_n C d_mdl_runList_45 rfl 3 rfl ?_
  refine j_lcmp C d_mdl_runList_46 rfl ?_
  refine j_if_ge (tgt := 55) C d_mdl_runList_47 (by decide) rfl (fun c1 => ?_) (fun c1 => ?_)
  · rw [if_pos c1] at h
    refine j_lload_n C d_mdl_runList_55 rfl 3 rfl ?_
    refine rc_J.sub (lv' := [(0, va_rf (some a0)), (1, .long x1), (5, .long s0)]) [1, 2, 0] rfl ?_
    exact k_mdl_runList_56 hF hL hN C E h
  · rw [if_neg c1] at h
    refine j_lload C d_mdl_runList_50 rfl 0 rfl ?_
    refine j_goto (tgt := 56) C d_mdl_runList_52 (by decide) ?_
    refine rc_J.sub (lv' := [(0, va_rf (some a0)), (1, .long x1), (5, .long s0)]) [1, 2, 0] rfl ?_
    exact k_mdl_runList_56 hF hL hN C E h

set_option maxRecDepth 100000 in
set_option maxHeartbeats 4000000 in
theorem ct_mdl_runList {l : Launch} {G : rc_G} {w : rc_M} {a0 : Nat} {res : rc_M} (h : f_mdl_runList w a0 = some res) : rc_Ct l G y_mdl_runList prog_9_method_33_code 11 none 2 44 [va_rf (some a0)] w none res := by
  refine rc_enter (by decide +kernel) (by simp [lg_sl, va_rf_cat, rc_cat_i, rc_cat_l]) ?_
  intro X _ _ hN hF hL C E
  have hlv : lv_args 0 [va_rf (some a0)] = [(0, va_rf (some a0))] := by simp [lv_args, va_rf_cat, rc_cat_i, rc_cat_l]
  rw [hlv]
  clear hlv
  unfold f_mdl_runList at h
  refine j_aload_n C d_mdl_runList_0 rfl 0 rfl ?_
  obtain ⟨a1, h2, h⟩ := Option.bind_eq_some_iff.mp h
  obtain ⟨p3, h4, h⟩ := Option.bind_eq_some_iff.mp h
  refine j_callV C (As := []) (st := []) (sk' := [.int p3.1]) mk_mdl_nextWord (Or.inl T_884) T_886 S_33 (ci := 7) rfl h2 (rc_le hF (by decide)) (rc_le hL (by decide)) (ct_mdl_nextWord h4) rfl rfl (by decide) d_mdl_runList_1 rfl rfl ?_
  refine j_i2l C d_mdl_runList_4 rfl ?_
  refine j_ldc2 C d_mdl_runList_5 rfl T_916 ?_
  refine j_land C d_mdl_runList_8 rfl ?_
  refine j_lstore_n C (i := 1) d_mdl_runList_9 rfl rfl [(1, .long (p3.1.toInt64 &&& 4294967295)), (0, va_rf (some a0))] (rc_lt hN (by decide)) (by first | rfl | simp [va_rf_cat, rc_cat_i, rc_cat_l]) ?_
  refine j_aload_n C d_mdl_runList_10 rfl 1 rfl ?_
  obtain ⟨a5, h6, h⟩ := Option.bind_eq_some_iff.mp h
  obtain ⟨p7, h8, h⟩ := Option.bind_eq_some_iff.mp h
  refine j_callV C (As := []) (st := []) (sk' := [.int p7.1]) mk_mdl_nextWord (Or.inl T_884) T_886 S_33 (ci := 7) rfl h6 (rc_le hF (by decide)) (rc_le hL (by decide)) (ct_mdl_nextWord h8) rfl rfl (by decide) d_mdl_runList_11 rfl rfl ?_
  refine j_i2l C d_mdl_runList_14 rfl ?_
  refine j_ldc2 C d_mdl_runList_15 rfl T_916 ?_
  refine j_land C d_mdl_runList_18 rfl ?_
  refine j_lstore_n C (i := 3) d_mdl_runList_19 rfl rfl [(3, .long (p7.1.toInt64 &&& 4294967295)), (1, .long (p3.1.toInt64 &&& 4294967295)), (0, va_rf (some a0))] (rc_lt hN (by decide)) (by first | rfl | simp [va_rf_cat, rc_cat_i, rc_cat_l]) ?_
  refine j_lload_n C d_mdl_runList_20 rfl 1 rfl ?_
  refine j_aload_n C d_mdl_runList_21 rfl 2 rfl ?_
  obtain ⟨v9, h10, h⟩ := Option.bind_eq_some_iff.mp h
  refine j_getI C fl_mdl_188 h10 d_mdl_runList_22 rfl ?_
  refine j_i2l C d_mdl_runList_25 rfl ?_
  refine j_lcmp C d_mdl_runList_26 rfl ?_
  refine j_if_ge (tgt := 40) C d_mdl_runList_27 (by decide) rfl (fun c11 => ?_) (fun c11 => ?_)
  · rw [if_pos c11] at h
    refine j_lconst (v := 0) C d_mdl_runList_40 rfl (by decide) ?_
    refine rc_J.sub (lv' := [(0, va_rf (some a0)), (1, .long (p3.1.toInt64 &&& 4294967295)), (3, .long (p7.1.toInt64 &&& 4294967295))]) [2, 1, 0] rfl ?_
    exact k_mdl_runList_41 hF hL hN C E h
  · rw [if_neg c11] at h
    refine j_aload_n C d_mdl_runList_30 rfl 2 rfl ?_
    obtain ⟨v12, h13, h⟩ := Option.bind_eq_some_iff.mp h
    refine j_getI C fl_mdl_188 h13 d_mdl_runList_31 rfl ?_
    refine j_i2l C d_mdl_runList_34 rfl ?_
    refine j_lload_n C d_mdl_runList_35 rfl 1 rfl ?_
    refine j_lsub C d_mdl_runList_36 rfl ?_
    refine j_goto (tgt := 41) C d_mdl_runList_37 (by decide) ?_
    refine rc_J.sub (lv' := [(0, va_rf (some a0)), (1, .long (p3.1.toInt64 &&& 4294967295)), (3, .long (p7.1.toInt64 &&& 4294967295))]) [2, 1, 0] rfl ?_
    exact k_mdl_runList_41 hF hL hN C E h

set_option maxRecDepth 100000 in
set_option maxHeartbeats 4000000 in
theorem k_mdl_runPut_62 {X : rc_X} {w0 : rc_M} (hF : (q_R X).frames = 2) (hL : (q_R X).locals = 44) (hN : q_n X = 5) (C : rc_C X "RecordCallsModel" prog_9_method_30_code w0) {res : rc_M} (E : rc_E0 X y_mdl_runPut none none res) : ∀ (fuel : Nat) (w : rc_M) (a0 : Nat) (x2 : Int64) (x4 : Int32), b_mdl_runPut_62 fuel w a0 x2 x4 = some res → rc_J X w 62 [] [(0, va_rf (some a0)), (2, .long x2), (4, .int x4)] := by
  intro fuel
  induction fuel with
  | zero => intro w a0 x2 x4 h; simp [b_mdl_runPut_62] at h
  | succ fuel ih =>
    intro w a0 x2 x4 h
    unfold b_mdl_runPut_62 at h
    refine j_iload C d_mdl_runPut_62 rfl 2 rfl ?_
    refine j_aload_n C d_mdl_runPut_64 rfl 0 rfl ?_
    obtain ⟨v1, h2, h⟩ := Option.bind_eq_some_iff.mp h
    refine j_getI C fl_mdl_137 h2 d_mdl_runPut_65 rfl ?_
    refine j_icmp_ge (tgt := 113) C d_mdl_runPut_68 (by decide) rfl (fun c3 => ?_) (fun c3 => ?_)
    · rw [if_pos c3] at h
      refine j_aload_n C d_mdl_runPut_113 rfl 0 rfl ?_
      obtain ⟨v4, h5, h⟩ := Option.bind_eq_some_iff.mp h
      refine j_getR C fl_mdl_27 h5 d_mdl_runPut_114 rfl ?_
      refine j_aload_n C d_mdl_runPut_117 rfl 0 rfl ?_
      obtain ⟨v6, h7, h⟩ := Option.bind_eq_some_iff.mp h
      refine j_getI C fl_mdl_188 h7 d_mdl_runPut_118 rfl ?_
      refine j_aload_n C d_mdl_runPut_121 rfl 0 rfl ?_
      obtain ⟨v8, h9, h⟩ := Option.bind_eq_some_iff.mp h
      refine j_getI C fl_mdl_137 h9 d_mdl_runPut_122 rfl ?_
      obtain ⟨w10, h11, h⟩ := Option.bind_eq_some_iff.mp h
      refine j_iast C h11 d_mdl_runPut_125 rfl ?_
      refine j_aload_n C d_mdl_runPut_126 rfl 0 rfl ?_
      obtain ⟨v12, h13, h⟩ := Option.bind_eq_some_iff.mp h
      refine j_getR C fl_mdl_30 h13 d_mdl_runPut_127 rfl ?_
      refine j_aload_n C d_mdl_runPut_130 rfl 0 rfl ?_
      obtain ⟨v14, h15, h⟩ := Option.bind_eq_some_iff.mp h
      refine j_getI C fl_mdl_188 h15 d_mdl_runPut_131 rfl ?_
      refine j_lload_n C d_mdl_runPut_134 rfl 1 rfl ?_
      obtain ⟨w16, h17, h⟩ := Option.bind_eq_some_iff.mp h
      refine j_last C h17 d_mdl_runPut_135 rfl ?_
      refine j_aload_n C d_mdl_runPut_136 rfl 0 rfl ?_
      refine j_dup C d_mdl_runPut_137 rfl (by first | rfl | exact va_rf_cat _) ?_
      obtain ⟨v18, h19, h⟩ := Option.bind_eq_some_iff.mp h
      refine j_getI C fl_mdl_188 h19 d_mdl_runPut_138 rfl ?_
      refine j_iconst (v := 1) C d_mdl_runPut_141 rfl (by decide) ?_
      refine j_iadd C d_mdl_runPut_142 rfl ?_
      obtain ⟨w20, h21, h⟩ := Option.bind_eq_some_iff.mp h
      refine j_putV C (ci := 7) (k := 10) (by decide) (by decide) T_729 (Or.inl rfl) rfl rfl h21 d_mdl_runPut_143 rfl ?_
      cases h
      exact j_vret C E d_mdl_runPut_146
    · rw [if_neg c3] at h
      refine j_aload_n C d_mdl_runPut_71 rfl 0 rfl ?_
      obtain ⟨v22, h23, h⟩ := Option.bind_eq_some_iff.mp h
      refine j_getR C fl_mdl_24 h23 d_mdl_runPut_72 rfl ?_
      refine j_bipush (v := 16) C d_mdl_runPut_75 rfl (by decide) ?_
      refine j_aload_n C d_mdl_runPut_77 rfl 0 rfl ?_
      obtain ⟨v24, h25, h⟩ := Option.bind_eq_some_iff.mp h
      refine j_getI C fl_mdl_188 h25 d_mdl_runPut_78 rfl ?_
      refine j_imul C d_mdl_runPut_81 rfl ?_
      refine j_iload C d_mdl_runPut_82 rfl 2 rfl ?_
      refine j_iadd C d_mdl_runPut_84 rfl ?_
      refine j_aload_n C d_mdl_runPut_85 rfl 0 rfl ?_
      obtain ⟨v26, h27, h⟩ := Option.bind_eq_some_iff.mp h
      refine j_getR C fl_mdl_34 h27 d_mdl_runPut_86 rfl ?_
      refine j_sipush (v := 1200) C d_mdl_runPut_89 rfl (by decide) ?_
      refine j_aload_n C d_mdl_runPut_92 rfl 0 rfl ?_
      obtain ⟨v28, h29, h⟩ := Option.bind_eq_some_iff.mp h
      refine j_getI C fl_mdl_109 h29 d_mdl_runPut_93 rfl ?_
      refine j_imul C d_mdl_runPut_96 rfl ?_
      refine j_aload_n C d_mdl_runPut_97 rfl 0 rfl ?_
      obtain ⟨v30, h31, h⟩ := Option.bind_eq_some_iff.mp h
      refine j_getI C fl_mdl_134 h31 d_mdl_runPut_98 rfl ?_
      refine j_iadd C d_mdl_runPut_101 rfl ?_
      refine j_iload C d_mdl_runPut_102 rfl 2 rfl ?_
      refine j_iadd C d_mdl_runPut_104 rfl ?_
      obtain ⟨v32, h33, h⟩ := Option.bind_eq_some_iff.mp h
      refine j_bald C h33 d_mdl_runPut_105 rfl ?_
      obtain ⟨w34, h35, h⟩ := Option.bind_eq_some_iff.mp h
      refine j_bast C h35 d_mdl_runPut_106 rfl ?_
      refine j_iinc C d_mdl_runPut_107 rfl 2 [(4, .int (x4 + 1)), (0, va_rf (some a0)), (2, .long x2)] rfl rfl (rc_lt hN (by decide)) (by first | rfl | simp [va_rf_cat, rc_cat_i, rc_cat_l]) ?_
      refine j_goto (tgt := 62) C d_mdl_runPut_110 (by decide) ?_
      refine rc_J.sub (lv' := [(0, va_rf (some a0)), (2, .long x2), (4, .int (x4 + 1))]) [1, 2, 0] rfl ?_
      exact ih _ _ _ _ h

set_option maxRecDepth 100000 in
set_option maxHeartbeats 4000000 in
theorem k_mdl_runPut_34 {X : rc_X} {w0 : rc_M} (hF : (q_R X).frames = 2) (hL : (q_R X).locals = 44) (hN : q_n X = 5) (C : rc_C X "RecordCallsModel" prog_9_method_30_code w0) {res : rc_M} (E : rc_E0 X y_mdl_runPut none none res) {w : rc_M} {a0 : Nat} {x1 : Int32} {x2 : Int64} {s0 : Option Nat} {s1 : Int32} (h : b_mdl_runPut_34 w a0 x1 x2 s0 s1 = some res) : rc_J X w 34 [.int s1, va_rf s0] [(0, va_rf (some a0)), (1, .int x1), (2, .long x2)] := by
  unfold b_mdl_runPut_34 at h
  obtain ⟨a1, h2, h⟩ := Option.bind_eq_some_iff.mp h
  obtain ⟨w3, h4, h⟩ := Option.bind_eq_some_iff.mp h
  refine j_callV C (As := [.int s1]) (st := []) (sk' := []) mk_mdl_outWord (Or.inl T_896) T_898 S_36 (ci := 7) rfl h2 (rc_le hF (by decide)) (rc_le hL (by decide)) (ct_mdl_outWord h4) rfl rfl (by decide) d_mdl_runPut_34 rfl rfl ?_
  refine j_iload_n C d_mdl_runPut_37 rfl 1 rfl ?_
  refine j_if_lt (tgt := 59) C d_mdl_runPut_38 (by decide) rfl (fun c5 => ?_) (fun c5 => ?_)
  · rw [if_pos c5] at h
    refine j_iconst (v := 0) C d_mdl_runPut_59 rfl (by decide) ?_
    refine j_istore C (i := 4) d_mdl_runPut_60 rfl [(4, .int 0), (0, va_rf (some a0)), (1, .int x1), (2, .long x2)] (rc_lt hN (by decide)) (by first | rfl | simp [va_rf_cat, rc_cat_i, rc_cat_l]) ?_
    refine rc_J.sub (lv' := [(0, va_rf (some a0)), (2, .long x2), (4, .int 0)]) [1, 3, 0] rfl ?_
    exact k_mdl_runPut_62 hF hL hN C E _ _ _ _ _ h
  · rw [if_neg c5] at h
    refine j_aload_n C d_mdl_runPut_41 rfl 0 rfl ?_
    refine j_aload_n C d_mdl_runPut_42 rfl 0 rfl ?_
    obtain ⟨v6, h7, h⟩ := Option.bind_eq_some_iff.mp h
    refine j_getR C fl_mdl_30 h7 d_mdl_runPut_43 rfl ?_
    refine j_iload_n C d_mdl_runPut_46 rfl 1 rfl ?_
    obtain ⟨v8, h9, h⟩ := Option.bind_eq_some_iff.mp h
    refine j_lald C h9 d_mdl_runPut_47 rfl ?_
    obtain ⟨a10, h11, h⟩ := Option.bind_eq_some_iff.mp h
    obtain ⟨w12, h13, h⟩ := Option.bind_eq_some_iff.mp h
    refine j_callV C (As := [.long v8]) (st := []) (sk' := []) mk_mdl_outLong (Or.inl T_929) T_931 S_44 (ci := 7) rfl h11 (rc_le hF (by decide)) (rc_le hL (by decide)) (ct_mdl_outLong h13) rfl rfl (by decide) d_mdl_runPut_48 rfl rfl ?_
    refine j_aload_n C d_mdl_runPut_51 rfl 0 rfl ?_
    obtain ⟨v14, h15, h⟩ := Option.bind_eq_some_iff.mp h
    refine j_getR C fl_mdl_30 h15 d_mdl_runPut_52 rfl ?_
    refine j_iload_n C d_mdl_runPut_55 rfl 1 rfl ?_
    refine j_lload_n C d_mdl_runPut_56 rfl 2 rfl ?_
    obtain ⟨w16, h17, h⟩ := Option.bind_eq_some_iff.mp h
    refine j_last C h17 d_mdl_runPut_57 rfl ?_
    cases h
    exact j_vret C E d_mdl_runPut_58

set_option maxRecDepth 100000 in
set_option maxHeartbeats 4000000 in
theorem k_mdl_runPut_19 {X : rc_X} {w0 : rc_M} (hF : (q_R X).frames = 2) (hL : (q_R X).locals = 44) (hN : q_n X = 5) (C : rc_C X "RecordCallsModel" prog_9_method_30_code w0) {res : rc_M} (E : rc_E0 X y_mdl_runPut none none res) {w : rc_M} {a0 : Nat} {x1 : Int32} {x2 : Int64} (h : b_mdl_runPut_19 w a0 x1 x2 = some res) : rc_J X w 19 [] [(0, va_rf (some a0)), (1, .int x1), (2, .long x2)] := by
  unfold b_mdl_runPut_19 at h
  refine j_aload_n C d_mdl_runPut_19 rfl 0 rfl ?_
  refine j_iconst (v := 0) C d_mdl_runPut_20 rfl (by decide) ?_
  obtain ⟨a1, h2, h⟩ := Option.bind_eq_some_iff.mp h
  obtain ⟨w3, h4, h⟩ := Option.bind_eq_some_iff.mp h
  refine j_callV C (As := [.int 0]) (st := []) (sk' := []) mk_mdl_outWord (Or.inl T_896) T_898 S_36 (ci := 7) rfl h2 (rc_le hF (by decide)) (rc_le hL (by decide)) (ct_mdl_outWord h4) rfl rfl (by decide) d_mdl_runPut_21 rfl rfl ?_
  refine j_aload_n C d_mdl_runPut_24 rfl 0 rfl ?_
  refine j_iload_n C d_mdl_runPut_25 rfl 1 rfl ?_
  refine j_if_lt (tgt := 33) C d_mdl_runPut_26 (by decide) rfl (fun c5 => ?_) (fun c5 => ?_)
  · rw [if_pos c5] at h
    refine j_iconst (v := 0) C d_mdl_runPut_33 rfl (by decide) ?_
    exact k_mdl_runPut_34 hF hL hN C E h
  · rw [if_neg c5] at h
    refine j_iconst (v := 1) C d_mdl_runPut_29 rfl (by decide) ?_
    refine j_goto (tgt := 34) C d_mdl_runPut_30 (by decide) ?_
    exact k_mdl_runPut_34 hF hL hN C E h

set_option maxRecDepth 100000 in
set_option maxHeartbeats 4000000 in
theorem ct_mdl_runPut {l : Launch} {G : rc_G} {w : rc_M} {a0 : Nat} {x1 : Int32} {x2 : Int64} {res : rc_M} (h : f_mdl_runPut w a0 x1 x2 = some res) : rc_Ct l G y_mdl_runPut prog_9_method_30_code 5 none 2 44 [va_rf (some a0), .int x1, .long x2] w none res := by
  refine rc_enter (by decide +kernel) (by simp [lg_sl, va_rf_cat, rc_cat_i, rc_cat_l]) ?_
  intro X _ _ hN hF hL C E
  have hlv : lv_args 0 [va_rf (some a0), .int x1, .long x2] = [(0, va_rf (some a0)), (1, .int x1), (2, .long x2)] := by simp [lv_args, va_rf_cat, rc_cat_i, rc_cat_l]
  rw [hlv]
  clear hlv
  unfold f_mdl_runPut at h
  refine j_iload_n C d_mdl_runPut_0 rfl 1 rfl ?_
  refine j_if_ge (tgt := 19) C d_mdl_runPut_1 (by decide) rfl (fun c1 => ?_) (fun c1 => ?_)
  · rw [if_pos c1] at h
    exact k_mdl_runPut_19 hF hL hN C E h
  · rw [if_neg c1] at h
    refine j_aload_n C d_mdl_runPut_4 rfl 0 rfl ?_
    obtain ⟨v2, h3, h⟩ := Option.bind_eq_some_iff.mp h
    refine j_getI C fl_mdl_188 h3 d_mdl_runPut_5 rfl ?_
    refine j_bipush (v := 40) C d_mdl_runPut_8 rfl (by decide) ?_
    refine j_icmp_ne (tgt := 19) C d_mdl_runPut_10 (by decide) rfl (fun c4 => ?_) (fun c4 => ?_)
    · rw [if_neg c4] at h
      exact k_mdl_runPut_19 hF hL hN C E h
    · rw [if_pos c4] at h
      refine j_aload_n C d_mdl_runPut_13 rfl 0 rfl ?_
      refine j_iconst (v := 1) C d_mdl_runPut_14 rfl (by decide) ?_
      obtain ⟨a5, h6, h⟩ := Option.bind_eq_some_iff.mp h
      obtain ⟨w7, h8, h⟩ := Option.bind_eq_some_iff.mp h
      refine j_callV C (As := [.int 1]) (st := []) (sk' := []) mk_mdl_outWord (Or.inl T_896) T_898 S_36 (ci := 7) rfl h6 (rc_le hF (by decide)) (rc_le hL (by decide)) (ct_mdl_outWord h8) rfl rfl (by decide) d_mdl_runPut_15 rfl rfl ?_
      cases h
      exact j_vret C E d_mdl_runPut_18

set_option maxRecDepth 100000 in
set_option maxHeartbeats 4000000 in
theorem k_mdl_remove_42 {X : rc_X} {w0 : rc_M} (hF : (q_R X).frames = 0) (hL : (q_R X).locals = 0) (hN : q_n X = 4) (C : rc_C X "RecordCallsModel" prog_9_method_31_code w0) {res : rc_M} (E : rc_E0 X y_mdl_remove none none res) {k2 : rc_M → Nat → Int32 → Option (rc_M)} (hk2 : ∀ (w : rc_M) (a0 : Nat) (x2 : Int32), k2 w a0 x2 = some res → rc_J X w 2 [] [(0, va_rf (some a0)), (2, .int x2)]) : ∀ (fuel : Nat) (w : rc_M) (a0 : Nat) (x2 : Int32) (x3 : Int32), b_mdl_remove_42 k2 fuel w a0 x2 x3 = some res → rc_J X w 42 [] [(0, va_rf (some a0)), (2, .int x2), (3, .int x3)] := by
  intro fuel
  induction fuel with
  | zero => intro w a0 x2 x3 h; simp [b_mdl_remove_42] at h
  | succ fuel ih =>
    intro w a0 x2 x3 h
    unfold b_mdl_remove_42 at h
    refine j_iload_n C d_mdl_remove_42 rfl 2 rfl ?_
    refine j_bipush (v := 16) C d_mdl_remove_43 rfl (by decide) ?_
    refine j_icmp_ge (tgt := 79) C d_mdl_remove_45 (by decide) rfl (fun c1 => ?_) (fun c1 => ?_)
    · rw [if_pos c1] at h
      refine j_iinc C d_mdl_remove_79 rfl 1 [(2, .int (x2 + 1)), (0, va_rf (some a0)), (3, .int x3)] rfl rfl (rc_lt hN (by decide)) (by first | rfl | simp [va_rf_cat, rc_cat_i, rc_cat_l]) ?_
      refine j_goto (tgt := 2) C d_mdl_remove_82 (by decide) ?_
      refine rc_J.sub (lv' := [(0, va_rf (some a0)), (2, .int (x2 + 1))]) [1, 0] rfl ?_
      exact hk2 _ _ _ h
    · rw [if_neg c1] at h
      refine j_aload_n C d_mdl_remove_48 rfl 0 rfl ?_
      obtain ⟨v2, h3, h⟩ := Option.bind_eq_some_iff.mp h
      refine j_getR C fl_mdl_24 h3 d_mdl_remove_49 rfl ?_
      refine j_bipush (v := 16) C d_mdl_remove_52 rfl (by decide) ?_
      refine j_iload_n C d_mdl_remove_54 rfl 1 rfl ?_
      refine j_imul C d_mdl_remove_55 rfl ?_
      refine j_iload_n C d_mdl_remove_56 rfl 2 rfl ?_
      refine j_iadd C d_mdl_remove_57 rfl ?_
      refine j_aload_n C d_mdl_remove_58 rfl 0 rfl ?_
      obtain ⟨v4, h5, h⟩ := Option.bind_eq_some_iff.mp h
      refine j_getR C fl_mdl_24 h5 d_mdl_remove_59 rfl ?_
      refine j_bipush (v := 16) C d_mdl_remove_62 rfl (by decide) ?_
      refine j_iload_n C d_mdl_remove_64 rfl 1 rfl ?_
      refine j_imul C d_mdl_remove_65 rfl ?_
      refine j_bipush (v := 16) C d_mdl_remove_66 rfl (by decide) ?_
      refine j_iadd C d_mdl_remove_68 rfl ?_
      refine j_iload_n C d_mdl_remove_69 rfl 2 rfl ?_
      refine j_iadd C d_mdl_remove_70 rfl ?_
      obtain ⟨v6, h7, h⟩ := Option.bind_eq_some_iff.mp h
      refine j_bald C h7 d_mdl_remove_71 rfl ?_
      obtain ⟨w8, h9, h⟩ := Option.bind_eq_some_iff.mp h
      refine j_bast C h9 d_mdl_remove_72 rfl ?_
      refine j_iinc C d_mdl_remove_73 rfl 2 [(3, .int (x3 + 1)), (0, va_rf (some a0)), (2, .int x2)] rfl rfl (rc_lt hN (by decide)) (by first | rfl | simp [va_rf_cat, rc_cat_i, rc_cat_l]) ?_
      refine j_goto (tgt := 42) C d_mdl_remove_76 (by decide) ?_
      refine rc_J.sub (lv' := [(0, va_rf (some a0)), (2, .int x2), (3, .int (x3 + 1))]) [1, 2, 0] rfl ?_
      exact ih _ _ _ _ h

set_option maxRecDepth 100000 in
set_option maxHeartbeats 4000000 in
theorem k_mdl_remove_2 {X : rc_X} {w0 : rc_M} (hF : (q_R X).frames = 0) (hL : (q_R X).locals = 0) (hN : q_n X = 4) (C : rc_C X "RecordCallsModel" prog_9_method_31_code w0) {res : rc_M} (E : rc_E0 X y_mdl_remove none none res) : ∀ (fuel : Nat) (w : rc_M) (a0 : Nat) (x2 : Int32), b_mdl_remove_2 fuel w a0 x2 = some res → rc_J X w 2 [] [(0, va_rf (some a0)), (2, .int x2)] := by
  intro fuel
  induction fuel with
  | zero => intro w a0 x2 h; simp [b_mdl_remove_2] at h
  | succ fuel ih =>
    intro w a0 x2 h
    unfold b_mdl_remove_2 at h
    refine j_iload_n C d_mdl_remove_2 rfl 1 rfl ?_
    refine j_iconst (v := 1) C d_mdl_remove_3 rfl (by decide) ?_
    refine j_iadd C d_mdl_remove_4 rfl ?_
    refine j_aload_n C d_mdl_remove_5 rfl 0 rfl ?_
    obtain ⟨v1, h2, h⟩ := Option.bind_eq_some_iff.mp h
    refine j_getI C fl_mdl_188 h2 d_mdl_remove_6 rfl ?_
    refine j_icmp_ge (tgt := 85) C d_mdl_remove_9 (by decide) rfl (fun c3 => ?_) (fun c3 => ?_)
    · rw [if_pos c3] at h
      refine j_aload_n C d_mdl_remove_85 rfl 0 rfl ?_
      refine j_dup C d_mdl_remove_86 rfl (by first | rfl | exact va_rf_cat _) ?_
      obtain ⟨v4, h5, h⟩ := Option.bind_eq_some_iff.mp h
      refine j_getI C fl_mdl_188 h5 d_mdl_remove_87 rfl ?_
      refine j_iconst (v := 1) C d_mdl_remove_90 rfl (by decide) ?_
      refine j_isub C d_mdl_remove_91 rfl ?_
      obtain ⟨w6, h7, h⟩ := Option.bind_eq_some_iff.mp h
      refine j_putV C (ci := 7) (k := 10) (by decide) (by decide) T_729 (Or.inl rfl) rfl rfl h7 d_mdl_remove_92 rfl ?_
      cases h
      exact j_vret C E d_mdl_remove_95
    · rw [if_neg c3] at h
      refine j_aload_n C d_mdl_remove_12 rfl 0 rfl ?_
      obtain ⟨v8, h9, h⟩ := Option.bind_eq_some_iff.mp h
      refine j_getR C fl_mdl_27 h9 d_mdl_remove_13 rfl ?_
      refine j_iload_n C d_mdl_remove_16 rfl 1 rfl ?_
      refine j_aload_n C d_mdl_remove_17 rfl 0 rfl ?_
      obtain ⟨v10, h11, h⟩ := Option.bind_eq_some_iff.mp h
      refine j_getR C fl_mdl_27 h11 d_mdl_remove_18 rfl ?_
      refine j_iload_n C d_mdl_remove_21 rfl 1 rfl ?_
      refine j_iconst (v := 1) C d_mdl_remove_22 rfl (by decide) ?_
      refine j_iadd C d_mdl_remove_23 rfl ?_
      obtain ⟨v12, h13, h⟩ := Option.bind_eq_some_iff.mp h
      refine j_iald C h13 d_mdl_remove_24 rfl ?_
      obtain ⟨w14, h15, h⟩ := Option.bind_eq_some_iff.mp h
      refine j_iast C h15 d_mdl_remove_25 rfl ?_
      refine j_aload_n C d_mdl_remove_26 rfl 0 rfl ?_
      obtain ⟨v16, h17, h⟩ := Option.bind_eq_some_iff.mp h
      refine j_getR C fl_mdl_30 h17 d_mdl_remove_27 rfl ?_
      refine j_iload_n C d_mdl_remove_30 rfl 1 rfl ?_
      refine j_aload_n C d_mdl_remove_31 rfl 0 rfl ?_
      obtain ⟨v18, h19, h⟩ := Option.bind_eq_some_iff.mp h
      refine j_getR C fl_mdl_30 h19 d_mdl_remove_32 rfl ?_
      refine j_iload_n C d_mdl_remove_35 rfl 1 rfl ?_
      refine j_iconst (v := 1) C d_mdl_remove_36 rfl (by decide) ?_
      refine j_iadd C d_mdl_remove_37 rfl ?_
      obtain ⟨v20, h21, h⟩ := Option.bind_eq_some_iff.mp h
      refine j_lald C h21 d_mdl_remove_38 rfl ?_
      obtain ⟨w22, h23, h⟩ := Option.bind_eq_some_iff.mp h
      refine j_last C h23 d_mdl_remove_39 rfl ?_
      refine j_iconst (v := 0) C d_mdl_remove_40 rfl (by decide) ?_
      refine j_istore_n C (i := 3) d_mdl_remove_41 rfl rfl [(3, .int 0), (0, va_rf (some a0)), (2, .int x2)] (rc_lt hN (by decide)) (by first | rfl | simp [va_rf_cat, rc_cat_i, rc_cat_l]) ?_
      refine rc_J.sub (lv' := [(0, va_rf (some a0)), (2, .int x2), (3, .int 0)]) [1, 2, 0] rfl ?_
      exact k_mdl_remove_42 hF hL hN C E (fun w z0 z1 h => ih w z0 z1 h) _ _ _ _ _ h

set_option maxRecDepth 100000 in
set_option maxHeartbeats 4000000 in
theorem ct_mdl_remove {l : Launch} {G : rc_G} {w : rc_M} {a0 : Nat} {x1 : Int32} {res : rc_M} (h : f_mdl_remove w a0 x1 = some res) : rc_Ct l G y_mdl_remove prog_9_method_31_code 4 none 0 0 [va_rf (some a0), .int x1] w none res := by
  refine rc_enter (by decide +kernel) (by simp [lg_sl, va_rf_cat, rc_cat_i, rc_cat_l]) ?_
  intro X _ _ hN hF hL C E
  have hlv : lv_args 0 [va_rf (some a0), .int x1] = [(0, va_rf (some a0)), (1, .int x1)] := by simp [lv_args, va_rf_cat, rc_cat_i, rc_cat_l]
  rw [hlv]
  clear hlv
  unfold f_mdl_remove at h
  refine j_iload_n C d_mdl_remove_0 rfl 1 rfl ?_
  refine j_istore_n C (i := 2) d_mdl_remove_1 rfl rfl [(2, .int x1), (0, va_rf (some a0)), (1, .int x1)] (rc_lt hN (by decide)) (by first | rfl | simp [va_rf_cat, rc_cat_i, rc_cat_l]) ?_
  refine rc_J.sub (lv' := [(0, va_rf (some a0)), (2, .int x1)]) [1, 0] rfl ?_
  exact k_mdl_remove_2 hF hL hN C E _ _ _ _ h

set_option maxRecDepth 100000 in
set_option maxHeartbeats 4000000 in
theorem k_mdl_run_149 {X : rc_X} {w0 : rc_M} (hF : (q_R X).frames = 4) (hL : (q_R X).locals = 93) (hN : q_n X = 3) (C : rc_C X "RecordCallsModel" prog_9_method_29_code w0) {res : rc_M} (E : rc_E0 X y_mdl_run none none res) {w : rc_M}  (h : b_mdl_run_149 w  = some res) : rc_J X w 149 [] [] := by
  unfold b_mdl_run_149 at h
  cases h
  exact j_vret C E d_mdl_run_149

set_option maxRecDepth 100000 in
set_option maxHeartbeats 4000000 in
theorem k_mdl_run_81 {X : rc_X} {w0 : rc_M} (hF : (q_R X).frames = 4) (hL : (q_R X).locals = 93) (hN : q_n X = 3) (C : rc_C X "RecordCallsModel" prog_9_method_29_code w0) {res : rc_M} (E : rc_E0 X y_mdl_run none none res) {w : rc_M} {a0 : Nat} {x2 : Int32} {s0 : Option Nat} {s1 : Int32} (h : b_mdl_run_81 w a0 x2 s0 s1 = some res) : rc_J X w 81 [.int s1, va_rf s0] [(0, va_rf (some a0)), (2, .int x2)] := by
  unfold b_mdl_run_81 at h
  obtain ⟨a1, h2, h⟩ := Option.bind_eq_some_iff.mp h
  obtain ⟨w3, h4, h⟩ := Option.bind_eq_some_iff.mp h
  refine j_callV C (As := [.int s1]) (st := []) (sk' := []) mk_mdl_outWord (Or.inl T_896) T_898 S_36 (ci := 7) rfl h2 (rc_le hF (by decide)) (rc_le hL (by decide)) (ct_mdl_outWord h4) rfl rfl (by decide) d_mdl_run_81 rfl rfl ?_
  refine j_iload_n C d_mdl_run_84 rfl 1 rfl ?_
  refine j_if_lt (tgt := 149) C d_mdl_run_85 (by decide) rfl (fun c5 => ?_) (fun c5 => ?_)
  · rw [if_pos c5] at h
    refine rc_J.sub (lv' := []) [] rfl ?_
    exact k_mdl_run_149 hF hL hN C E h
  · rw [if_neg c5] at h
    refine j_aload_n C d_mdl_run_88 rfl 0 rfl ?_
    refine j_iload_n C d_mdl_run_89 rfl 1 rfl ?_
    obtain ⟨a6, h7, h⟩ := Option.bind_eq_some_iff.mp h
    obtain ⟨w8, h9, h⟩ := Option.bind_eq_some_iff.mp h
    refine j_callV C (As := [.int x2]) (st := []) (sk' := []) mk_mdl_remove (Or.inl T_941) T_943 S_47 (ci := 7) rfl h7 (rc_le hF (by decide)) (rc_le hL (by decide)) (ct_mdl_remove h9) rfl rfl (by decide) d_mdl_run_90 rfl rfl ?_
    refine j_goto (tgt := 149) C d_mdl_run_93 (by decide) ?_
    refine rc_J.sub (lv' := []) [] rfl ?_
    exact k_mdl_run_149 hF hL hN C E h

set_option maxRecDepth 100000 in
set_option maxHeartbeats 4000000 in
theorem k_mdl_run_132 {X : rc_X} {w0 : rc_M} (hF : (q_R X).frames = 4) (hL : (q_R X).locals = 93) (hN : q_n X = 3) (C : rc_C X "RecordCallsModel" prog_9_method_29_code w0) {res : rc_M} (E : rc_E0 X y_mdl_run none none res) {w : rc_M} {a0 : Nat} {x2 : Int32} {s0 : Option Nat} {s1 : Int32} (h : b_mdl_run_132 w a0 x2 s0 s1 = some res) : rc_J X w 132 [.int s1, va_rf s0] [(0, va_rf (some a0)), (2, .int x2)] := by
  unfold b_mdl_run_132 at h
  obtain ⟨a1, h2, h⟩ := Option.bind_eq_some_iff.mp h
  obtain ⟨w3, h4, h⟩ := Option.bind_eq_some_iff.mp h
  refine j_callV C (As := [.int s1]) (st := []) (sk' := []) mk_mdl_outWord (Or.inl T_896) T_898 S_36 (ci := 7) rfl h2 (rc_le hF (by decide)) (rc_le hL (by decide)) (ct_mdl_outWord h4) rfl rfl (by decide) d_mdl_run_132 rfl rfl ?_
  refine j_iload_n C d_mdl_run_135 rfl 1 rfl ?_
  refine j_if_lt (tgt := 149) C d_mdl_run_136 (by decide) rfl (fun c5 => ?_) (fun c5 => ?_)
  · rw [if_pos c5] at h
    refine rc_J.sub (lv' := []) [] rfl ?_
    exact k_mdl_run_149 hF hL hN C E h
  · rw [if_neg c5] at h
    refine j_aload_n C d_mdl_run_139 rfl 0 rfl ?_
    refine j_aload_n C d_mdl_run_140 rfl 0 rfl ?_
    obtain ⟨v6, h7, h⟩ := Option.bind_eq_some_iff.mp h
    refine j_getR C fl_mdl_30 h7 d_mdl_run_141 rfl ?_
    refine j_iload_n C d_mdl_run_144 rfl 1 rfl ?_
    obtain ⟨v8, h9, h⟩ := Option.bind_eq_some_iff.mp h
    refine j_lald C h9 d_mdl_run_145 rfl ?_
    obtain ⟨a10, h11, h⟩ := Option.bind_eq_some_iff.mp h
    obtain ⟨w12, h13, h⟩ := Option.bind_eq_some_iff.mp h
    refine j_callV C (As := [.long v8]) (st := []) (sk' := []) mk_mdl_outLong (Or.inl T_929) T_931 S_44 (ci := 7) rfl h11 (rc_le hF (by decide)) (rc_le hL (by decide)) (ct_mdl_outLong h13) rfl rfl (by decide) d_mdl_run_146 rfl rfl ?_
    refine rc_J.sub (lv' := []) [] rfl ?_
    exact k_mdl_run_149 hF hL hN C E h

set_option maxRecDepth 100000 in
set_option maxHeartbeats 4000000 in
theorem k_mdl_run_122 {X : rc_X} {w0 : rc_M} (hF : (q_R X).frames = 4) (hL : (q_R X).locals = 93) (hN : q_n X = 3) (C : rc_C X "RecordCallsModel" prog_9_method_29_code w0) {res : rc_M} (E : rc_E0 X y_mdl_run none none res) {w : rc_M} {a0 : Nat} {x2 : Int32} (h : b_mdl_run_122 w a0 x2 = some res) : rc_J X w 122 [] [(0, va_rf (some a0)), (2, .int x2)] := by
  unfold b_mdl_run_122 at h
  refine j_aload_n C d_mdl_run_122 rfl 0 rfl ?_
  refine j_iload_n C d_mdl_run_123 rfl 1 rfl ?_
  refine j_if_lt (tgt := 131) C d_mdl_run_124 (by decide) rfl (fun c1 => ?_) (fun c1 => ?_)
  · rw [if_pos c1] at h
    refine j_iconst (v := 2) C d_mdl_run_131 rfl (by decide) ?_
    exact k_mdl_run_132 hF hL hN C E h
  · rw [if_neg c1] at h
    refine j_iconst (v := 0) C d_mdl_run_127 rfl (by decide) ?_
    refine j_goto (tgt := 132) C d_mdl_run_128 (by decide) ?_
    exact k_mdl_run_132 hF hL hN C E h

set_option maxRecDepth 100000 in
set_option maxHeartbeats 4000000 in
theorem ct_mdl_run {l : Launch} {G : rc_G} {w : rc_M} {a0 : Nat} {x1 : Int32} {res : rc_M} (h : f_mdl_run w a0 x1 = some res) : rc_Ct l G y_mdl_run prog_9_method_29_code 3 none 4 93 [va_rf (some a0), .int x1] w none res := by
  refine rc_enter (by decide +kernel) (by simp [lg_sl, va_rf_cat, rc_cat_i, rc_cat_l]) ?_
  intro X _ _ hN hF hL C E
  have hlv : lv_args 0 [va_rf (some a0), .int x1] = [(0, va_rf (some a0)), (1, .int x1)] := by simp [lv_args, va_rf_cat, rc_cat_i, rc_cat_l]
  rw [hlv]
  clear hlv
  unfold f_mdl_run at h
  refine j_aload_n C d_mdl_run_0 rfl 0 rfl ?_
  refine j_aload_n C d_mdl_run_1 rfl 0 rfl ?_
  obtain ⟨v1, h2, h⟩ := Option.bind_eq_some_iff.mp h
  refine j_getI C fl_mdl_181 h2 d_mdl_run_2 rfl ?_
  obtain ⟨w3, h4, h⟩ := Option.bind_eq_some_iff.mp h
  refine j_putV C (ci := 7) (k := 27) (by decide) (by decide) T_746 (Or.inl rfl) rfl rfl h4 d_mdl_run_5 rfl ?_
  refine j_iload_n C d_mdl_run_8 rfl 1 rfl ?_
  refine j_iconst (v := 4) C d_mdl_run_9 rfl (by decide) ?_
  refine j_icmp_ne (tgt := 20) C d_mdl_run_10 (by decide) rfl (fun c5 => ?_) (fun c5 => ?_)
  · rw [if_neg c5] at h
    refine j_iload_n C d_mdl_run_20 rfl 1 rfl ?_
    refine j_iconst (v := 5) C d_mdl_run_21 rfl (by decide) ?_
    refine j_icmp_ne (tgt := 32) C d_mdl_run_22 (by decide) rfl (fun c6 => ?_) (fun c6 => ?_)
    · rw [if_neg c6] at h
      refine j_iload_n C d_mdl_run_32 rfl 1 rfl ?_
      refine j_if_le (tgt := 149) C d_mdl_run_33 (by decide) rfl (fun c7 => ?_) (fun c7 => ?_)
      · rw [if_pos c7] at h
        refine rc_J.sub (lv' := []) [] rfl ?_
        exact k_mdl_run_149 hF hL hN C E h
      · rw [if_neg c7] at h
        refine j_aload_n C d_mdl_run_36 rfl 0 rfl ?_
        refine j_bipush (v := 16) C d_mdl_run_37 rfl (by decide) ?_
        obtain ⟨a8, h9, h⟩ := Option.bind_eq_some_iff.mp h
        obtain ⟨p10, h11, h⟩ := Option.bind_eq_some_iff.mp h
        refine j_callV C (As := [.int 16]) (st := []) (sk' := [.int p10.1]) mk_mdl_nextBytes (Or.inl T_900) T_902 S_37 (ci := 7) rfl h9 (rc_le hF (by decide)) (rc_le hL (by decide)) (ct_mdl_nextBytes h11) rfl rfl (by decide) d_mdl_run_39 rfl rfl ?_
        refine j_pop C d_mdl_run_42 rfl (by first | rfl | exact va_rf_cat _) ?_
        refine j_aload_n C d_mdl_run_43 rfl 0 rfl ?_
        obtain ⟨a12, h13, h⟩ := Option.bind_eq_some_iff.mp h
        obtain ⟨p14, h15, h⟩ := Option.bind_eq_some_iff.mp h
        refine j_callV C (As := []) (st := []) (sk' := [.int p14.1]) mk_mdl_place (Or.inl T_925) T_927 S_43 (ci := 7) rfl h13 (rc_le hF (by decide)) (rc_le hL (by decide)) (ct_mdl_place h15) rfl rfl (by decide) d_mdl_run_44 rfl rfl ?_
        refine j_istore_n C (i := 2) d_mdl_run_47 rfl rfl [(2, .int p14.1), (0, va_rf (some a0)), (1, .int x1)] (rc_lt hN (by decide)) (by first | rfl | simp [va_rf_cat, rc_cat_i, rc_cat_l]) ?_
        refine j_iload_n C d_mdl_run_48 rfl 2 rfl ?_
        refine j_iconst (v := 1) C d_mdl_run_49 rfl (by decide) ?_
        refine j_icmp_ne (tgt := 65) C d_mdl_run_50 (by decide) rfl (fun c16 => ?_) (fun c16 => ?_)
        · rw [if_neg c16] at h
          refine j_iload_n C d_mdl_run_65 rfl 2 rfl ?_
          refine j_bipush (v := 6) C d_mdl_run_66 rfl (by decide) ?_
          refine j_icmp_ne (tgt := 96) C d_mdl_run_68 (by decide) rfl (fun c17 => ?_) (fun c17 => ?_)
          · rw [if_neg c17] at h
            refine j_iload_n C d_mdl_run_96 rfl 0 rfl ?_
            refine j_if_lt (tgt := 122) C d_mdl_run_97 (by decide) rfl (fun c18 => ?_) (fun c18 => ?_)
            · rw [if_pos c18] at h
              refine rc_J.sub (lv' := [(0, va_rf (some a0)), (2, .int p14.1)]) [1, 0] rfl ?_
              exact k_mdl_run_122 hF hL hN C E h
            · rw [if_neg c18] at h
              refine j_iload_n C d_mdl_run_100 rfl 2 rfl ?_
              refine j_iconst (v := 3) C d_mdl_run_101 rfl (by decide) ?_
              refine j_icmp_ne (tgt := 122) C d_mdl_run_102 (by decide) rfl (fun c19 => ?_) (fun c19 => ?_)
              · rw [if_neg c19] at h
                refine rc_J.sub (lv' := [(0, va_rf (some a0)), (2, .int p14.1)]) [1, 0] rfl ?_
                exact k_mdl_run_122 hF hL hN C E h
              · rw [if_pos c19] at h
                refine j_aload_n C d_mdl_run_105 rfl 1 rfl ?_
                obtain ⟨v20, h21, h⟩ := Option.bind_eq_some_iff.mp h
                refine j_getR C fl_mdl_30 h21 d_mdl_run_106 rfl ?_
                refine j_iload_n C d_mdl_run_109 rfl 0 rfl ?_
                refine j_aload_n C d_mdl_run_110 rfl 1 rfl ?_
                obtain ⟨v22, h23, h⟩ := Option.bind_eq_some_iff.mp h
                refine j_getR C fl_mdl_30 h23 d_mdl_run_111 rfl ?_
                refine j_iload_n C d_mdl_run_114 rfl 0 rfl ?_
                obtain ⟨v24, h25, h⟩ := Option.bind_eq_some_iff.mp h
                refine j_lald C h25 d_mdl_run_115 rfl ?_
                refine j_aload_n C d_mdl_run_116 rfl 1 rfl ?_
                obtain ⟨a26, h27, h⟩ := Option.bind_eq_some_iff.mp h
                obtain ⟨p28, h29, h⟩ := Option.bind_eq_some_iff.mp h
                refine j_callV C (As := []) (st := [.long v24, .int p14.1, va_rf v20]) (sk' := [.long p28.1, .long v24, .int p14.1, va_rf v20]) mk_mdl_nextLong (Or.inl T_912) T_914 S_40 (ci := 7) rfl h27 (rc_le hF (by decide)) (rc_le hL (by decide)) (ct_mdl_nextLong h29) rfl rfl (by simp [va_rf_cat, rc_cat_i, rc_cat_l]) d_mdl_run_117 rfl rfl ?_
                refine j_ladd C d_mdl_run_120 rfl ?_
                obtain ⟨w30, h31, h⟩ := Option.bind_eq_some_iff.mp h
                refine j_last C h31 d_mdl_run_121 rfl ?_
                refine rc_J.sub (lv' := [(0, va_rf (some a0)), (2, .int p14.1)]) [1, 0] rfl ?_
                exact k_mdl_run_122 hF hL hN C E h
          · rw [if_pos c17] at h
            refine j_aload_n C d_mdl_run_71 rfl 1 rfl ?_
            refine j_iload_n C d_mdl_run_72 rfl 0 rfl ?_
            refine j_if_lt (tgt := 80) C d_mdl_run_73 (by decide) rfl (fun c32 => ?_) (fun c32 => ?_)
            · rw [if_pos c32] at h
              refine j_iconst (v := 0) C d_mdl_run_80 rfl (by decide) ?_
              refine rc_J.sub (lv' := [(0, va_rf (some a0)), (2, .int p14.1)]) [1, 0] rfl ?_
              exact k_mdl_run_81 hF hL hN C E h
            · rw [if_neg c32] at h
              refine j_iconst (v := 1) C d_mdl_run_76 rfl (by decide) ?_
              refine j_goto (tgt := 81) C d_mdl_run_77 (by decide) ?_
              refine rc_J.sub (lv' := [(0, va_rf (some a0)), (2, .int p14.1)]) [1, 0] rfl ?_
              exact k_mdl_run_81 hF hL hN C E h
        · rw [if_pos c16] at h
          refine j_aload_n C d_mdl_run_53 rfl 1 rfl ?_
          refine j_iload_n C d_mdl_run_54 rfl 0 rfl ?_
          refine j_aload_n C d_mdl_run_55 rfl 1 rfl ?_
          obtain ⟨a33, h34, h⟩ := Option.bind_eq_some_iff.mp h
          obtain ⟨p35, h36, h⟩ := Option.bind_eq_some_iff.mp h
          refine j_callV C (As := []) (st := [.int p14.1, va_rf (some a0)]) (sk' := [.long p35.1, .int p14.1, va_rf (some a0)]) mk_mdl_nextLong (Or.inl T_912) T_914 S_40 (ci := 7) rfl h34 (rc_le hF (by decide)) (rc_le hL (by decide)) (ct_mdl_nextLong h36) rfl rfl (by simp [va_rf_cat, rc_cat_i, rc_cat_l]) d_mdl_run_56 rfl rfl ?_
          obtain ⟨a37, h38, h⟩ := Option.bind_eq_some_iff.mp h
          obtain ⟨w39, h40, h⟩ := Option.bind_eq_some_iff.mp h
          refine j_callV C (As := [.int p14.1, .long p35.1]) (st := []) (sk' := []) mk_mdl_runPut (Or.inl T_937) T_939 S_46 (ci := 7) rfl h38 (rc_le hF (by decide)) (rc_le hL (by decide)) (ct_mdl_runPut h40) rfl rfl (by decide) d_mdl_run_59 rfl rfl ?_
          refine j_goto (tgt := 149) C d_mdl_run_62 (by decide) ?_
          refine rc_J.sub (lv' := []) [] rfl ?_
          exact k_mdl_run_149 hF hL hN C E h
    · rw [if_pos c6] at h
      refine j_aload_n C d_mdl_run_25 rfl 0 rfl ?_
      obtain ⟨a41, h42, h⟩ := Option.bind_eq_some_iff.mp h
      obtain ⟨w43, h44, h⟩ := Option.bind_eq_some_iff.mp h
      refine j_callV C (As := []) (st := []) (sk' := []) mk_mdl_runList (Or.inl T_933) T_935 S_45 (ci := 7) rfl h42 (rc_le hF (by decide)) (rc_le hL (by decide)) (ct_mdl_runList h44) rfl rfl (by decide) d_mdl_run_26 rfl rfl ?_
      refine j_goto (tgt := 149) C d_mdl_run_29 (by decide) ?_
      refine rc_J.sub (lv' := []) [] rfl ?_
      exact k_mdl_run_149 hF hL hN C E h
  · rw [if_pos c5] at h
    refine j_aload_n C d_mdl_run_13 rfl 0 rfl ?_
    obtain ⟨a45, h46, h⟩ := Option.bind_eq_some_iff.mp h
    obtain ⟨w47, h48, h⟩ := Option.bind_eq_some_iff.mp h
    refine j_callV C (As := []) (st := []) (sk' := []) mk_mdl_runSum (Or.inl T_921) T_923 S_42 (ci := 7) rfl h46 (rc_le hF (by decide)) (rc_le hL (by decide)) (ct_mdl_runSum h48) rfl rfl (by decide) d_mdl_run_14 rfl rfl ?_
    refine j_goto (tgt := 149) C d_mdl_run_17 (by decide) ?_
    refine rc_J.sub (lv' := []) [] rfl ?_
    exact k_mdl_run_149 hF hL hN C E h

set_option maxRecDepth 100000 in
set_option maxHeartbeats 4000000 in
theorem k_mdl_judge_115 {X : rc_X} {w0 : rc_M} (hF : (q_R X).frames = 5) (hL : (q_R X).locals = 115) (hN : q_n X = 10) (C : rc_C X "RecordCallsModel" prog_9_method_26_code w0) {res : Int32 × rc_M} (E : rc_E0 X y_mdl_judge (some .boolean) (some (.int res.1)) res.2) {w : rc_M} {a0 : Nat} {x1 : Int32} (h : b_mdl_judge_115 w a0 x1 = some res) : rc_J X w 115 [] [(0, va_rf (some a0)), (1, .int x1)] := by
  unfold b_mdl_judge_115 at h
  refine j_aload_n C d_mdl_judge_115 rfl 0 rfl ?_
  refine j_iload_n C d_mdl_judge_116 rfl 1 rfl ?_
  refine j_iconst (v := 1) C d_mdl_judge_117 rfl (by decide) ?_
  refine j_iconst (v := 1) C d_mdl_judge_118 rfl (by decide) ?_
  obtain ⟨a1, h2, h⟩ := Option.bind_eq_some_iff.mp h
  obtain ⟨p3, h4, h⟩ := Option.bind_eq_some_iff.mp h
  refine j_callV C (As := [.int x1, .int 1, .int 1]) (st := []) (sk' := [.int p3.1]) mk_mdl_refuse (Or.inl T_892) T_894 S_35 (ci := 7) rfl h2 (rc_le hF (by decide)) (rc_le hL (by decide)) (ct_mdl_refuse h4) rfl rfl (by decide) d_mdl_judge_119 rfl rfl ?_
  obtain ⟨hz, rfl⟩ := rc_z1_spec h
  exact j_zret C hz E d_mdl_judge_122

set_option maxRecDepth 100000 in
set_option maxHeartbeats 4000000 in
theorem k_mdl_judge_133 {X : rc_X} {w0 : rc_M} (hF : (q_R X).frames = 5) (hL : (q_R X).locals = 115) (hN : q_n X = 10) (C : rc_C X "RecordCallsModel" prog_9_method_26_code w0) {res : Int32 × rc_M} (E : rc_E0 X y_mdl_judge (some .boolean) (some (.int res.1)) res.2) {w : rc_M} {a0 : Nat} {x1 : Int32} (h : b_mdl_judge_133 w a0 x1 = some res) : rc_J X w 133 [] [(0, va_rf (some a0)), (1, .int x1)] := by
  unfold b_mdl_judge_133 at h
  refine j_aload_n C d_mdl_judge_133 rfl 0 rfl ?_
  refine j_iload_n C d_mdl_judge_134 rfl 1 rfl ?_
  refine j_iconst (v := 1) C d_mdl_judge_135 rfl (by decide) ?_
  refine j_iconst (v := 3) C d_mdl_judge_136 rfl (by decide) ?_
  obtain ⟨a1, h2, h⟩ := Option.bind_eq_some_iff.mp h
  obtain ⟨p3, h4, h⟩ := Option.bind_eq_some_iff.mp h
  refine j_callV C (As := [.int x1, .int 1, .int 3]) (st := []) (sk' := [.int p3.1]) mk_mdl_refuse (Or.inl T_892) T_894 S_35 (ci := 7) rfl h2 (rc_le hF (by decide)) (rc_le hL (by decide)) (ct_mdl_refuse h4) rfl rfl (by decide) d_mdl_judge_137 rfl rfl ?_
  obtain ⟨hz, rfl⟩ := rc_z1_spec h
  exact j_zret C hz E d_mdl_judge_140

set_option maxRecDepth 100000 in
set_option maxHeartbeats 4000000 in
theorem k_mdl_judge_195 {X : rc_X} {w0 : rc_M} (hF : (q_R X).frames = 5) (hL : (q_R X).locals = 115) (hN : q_n X = 10) (C : rc_C X "RecordCallsModel" prog_9_method_26_code w0) {res : Int32 × rc_M} (E : rc_E0 X y_mdl_judge (some .boolean) (some (.int res.1)) res.2) {w : rc_M} {a0 : Nat} {x1 : Int32} (h : b_mdl_judge_195 w a0 x1 = some res) : rc_J X w 195 [] [(0, va_rf (some a0)), (1, .int x1)] := by
  unfold b_mdl_judge_195 at h
  refine j_aload_n C d_mdl_judge_195 rfl 0 rfl ?_
  refine j_iload_n C d_mdl_judge_196 rfl 1 rfl ?_
  refine j_iconst (v := 3) C d_mdl_judge_197 rfl (by decide) ?_
  obtain ⟨a1, h2, h⟩ := Option.bind_eq_some_iff.mp h
  obtain ⟨p3, h4, h⟩ := Option.bind_eq_some_iff.mp h
  refine j_callV C (As := [.int x1, .int 3]) (st := []) (sk' := [.int p3.1]) mk_mdl_accept (Or.inl T_904) T_906 S_38 (ci := 7) rfl h2 (rc_le hF (by decide)) (rc_le hL (by decide)) (ct_mdl_accept h4) rfl rfl (by decide) d_mdl_judge_198 rfl rfl ?_
  obtain ⟨hz, rfl⟩ := rc_z1_spec h
  exact j_zret C hz E d_mdl_judge_201

set_option maxRecDepth 100000 in
set_option maxHeartbeats 4000000 in
theorem k_mdl_judge_192 {X : rc_X} {w0 : rc_M} (hF : (q_R X).frames = 5) (hL : (q_R X).locals = 115) (hN : q_n X = 10) (C : rc_C X "RecordCallsModel" prog_9_method_26_code w0) {res : Int32 × rc_M} (E : rc_E0 X y_mdl_judge (some .boolean) (some (.int res.1)) res.2) {w : rc_M} {a0 : Nat} {x1 : Int32} {x5 : Int32} {s0 : Int32} {s1 : Int32} (h : b_mdl_judge_192 w a0 x1 x5 s0 s1 = some res) : rc_J X w 192 [.int s1, .int s0] [(0, va_rf (some a0)), (1, .int x1), (5, .int x5)] := by
  unfold b_mdl_judge_192 at h
  refine j_icmp_le (tgt := 202) C d_mdl_judge_192 (by decide) rfl (fun c1 => ?_) (fun c1 => ?_)
  · rw [if_pos c1] at h
    refine j_aload_n C d_mdl_judge_202 rfl 0 rfl ?_
    refine j_iload C d_mdl_judge_203 rfl 2 rfl ?_
    obtain ⟨a2, h3, h⟩ := Option.bind_eq_some_iff.mp h
    obtain ⟨p4, h5, h⟩ := Option.bind_eq_some_iff.mp h
    refine j_callV C (As := [.int x5]) (st := []) (sk' := [.int p4.1]) mk_mdl_takes (Or.inl T_908) T_910 S_39 (ci := 7) rfl h3 (rc_le hF (by decide)) (rc_le hL (by decide)) (ct_mdl_takes h5) rfl rfl (by decide) d_mdl_judge_205 rfl rfl ?_
    refine j_if_ne (tgt := 218) C d_mdl_judge_208 (by decide) rfl (fun c6 => ?_) (fun c6 => ?_)
    · rw [if_neg c6] at h
      refine j_aload_n C d_mdl_judge_218 rfl 0 rfl ?_
      refine j_dup C d_mdl_judge_219 rfl (by first | rfl | exact va_rf_cat _) ?_
      obtain ⟨v7, h8, h⟩ := Option.bind_eq_some_iff.mp h
      refine j_getI C fl_mdl_175 h8 d_mdl_judge_220 rfl ?_
      refine j_iconst (v := 1) C d_mdl_judge_223 rfl (by decide) ?_
      refine j_iadd C d_mdl_judge_224 rfl ?_
      obtain ⟨w9, h10, h⟩ := Option.bind_eq_some_iff.mp h
      refine j_putV C (ci := 7) (k := 23) (by decide) (by decide) T_742 (Or.inl rfl) rfl rfl h10 d_mdl_judge_225 rfl ?_
      refine j_aload_n C d_mdl_judge_228 rfl 0 rfl ?_
      refine j_iload_n C d_mdl_judge_229 rfl 1 rfl ?_
      refine j_iconst (v := 0) C d_mdl_judge_230 rfl (by decide) ?_
      obtain ⟨a11, h12, h⟩ := Option.bind_eq_some_iff.mp h
      obtain ⟨p13, h14, h⟩ := Option.bind_eq_some_iff.mp h
      refine j_callV C (As := [.int x1, .int 0]) (st := []) (sk' := [.int p13.1]) mk_mdl_accept (Or.inl T_904) T_906 S_38 (ci := 7) rfl h12 (rc_le hF (by decide)) (rc_le hL (by decide)) (ct_mdl_accept h14) rfl rfl (by decide) d_mdl_judge_231 rfl rfl ?_
      refine j_pop C d_mdl_judge_234 rfl (by first | rfl | exact va_rf_cat _) ?_
      refine j_aload_n C d_mdl_judge_235 rfl 0 rfl ?_
      refine j_iload C d_mdl_judge_236 rfl 2 rfl ?_
      obtain ⟨a15, h16, h⟩ := Option.bind_eq_some_iff.mp h
      obtain ⟨w17, h18, h⟩ := Option.bind_eq_some_iff.mp h
      refine j_callV C (As := [.int x5]) (st := []) (sk' := []) mk_mdl_run (Or.inl T_917) T_919 S_41 (ci := 7) rfl h16 (rc_le hF (by decide)) (rc_le hL (by decide)) (ct_mdl_run h18) rfl rfl (by decide) d_mdl_judge_238 rfl rfl ?_
      refine j_iconst (v := 1) C d_mdl_judge_241 rfl (by decide) ?_
      obtain ⟨hz, rfl⟩ := rc_z1_spec h
      exact j_zret C hz E d_mdl_judge_242
    · rw [if_pos c6] at h
      refine j_aload_n C d_mdl_judge_211 rfl 0 rfl ?_
      refine j_iload_n C d_mdl_judge_212 rfl 1 rfl ?_
      refine j_iconst (v := 4) C d_mdl_judge_213 rfl (by decide) ?_
      obtain ⟨a19, h20, h⟩ := Option.bind_eq_some_iff.mp h
      obtain ⟨p21, h22, h⟩ := Option.bind_eq_some_iff.mp h
      refine j_callV C (As := [.int x1, .int 4]) (st := []) (sk' := [.int p21.1]) mk_mdl_accept (Or.inl T_904) T_906 S_38 (ci := 7) rfl h20 (rc_le hF (by decide)) (rc_le hL (by decide)) (ct_mdl_accept h22) rfl rfl (by decide) d_mdl_judge_214 rfl rfl ?_
      obtain ⟨hz, rfl⟩ := rc_z1_spec h
      exact j_zret C hz E d_mdl_judge_217
  · rw [if_neg c1] at h
    refine rc_J.sub (lv' := [(0, va_rf (some a0)), (1, .int x1)]) [0, 1] rfl ?_
    exact k_mdl_judge_195 hF hL hN C E h

set_option maxRecDepth 100000 in
set_option maxHeartbeats 4000000 in
theorem k_mdl_judge_173 {X : rc_X} {w0 : rc_M} (hF : (q_R X).frames = 5) (hL : (q_R X).locals = 115) (hN : q_n X = 10) (C : rc_C X "RecordCallsModel" prog_9_method_26_code w0) {res : Int32 × rc_M} (E : rc_E0 X y_mdl_judge (some .boolean) (some (.int res.1)) res.2) {w : rc_M} {a0 : Nat} {x1 : Int32} {x4 : Int32} {x5 : Int32} (h : b_mdl_judge_173 w a0 x1 x4 x5 = some res) : rc_J X w 173 [] [(0, va_rf (some a0)), (1, .int x1), (4, .int x4), (5, .int x5)] := by
  unfold b_mdl_judge_173 at h
  refine j_iload C d_mdl_judge_173 rfl 3 rfl ?_
  refine j_if_lt (tgt := 195) C d_mdl_judge_175 (by decide) rfl (fun c1 => ?_) (fun c1 => ?_)
  · rw [if_pos c1] at h
    refine rc_J.sub (lv' := [(0, va_rf (some a0)), (1, .int x1)]) [0, 1] rfl ?_
    exact k_mdl_judge_195 hF hL hN C E h
  · rw [if_neg c1] at h
    refine j_iload C d_mdl_judge_178 rfl 3 rfl ?_
    refine j_iload C d_mdl_judge_180 rfl 2 rfl ?_
    refine j_iconst (v := 1) C d_mdl_judge_182 rfl (by decide) ?_
    refine j_icmp_ne (tgt := 190) C d_mdl_judge_183 (by decide) rfl (fun c2 => ?_) (fun c2 => ?_)
    · rw [if_neg c2] at h
      refine j_bipush (v := 6) C d_mdl_judge_190 rfl (by decide) ?_
      refine rc_J.sub (lv' := [(0, va_rf (some a0)), (1, .int x1), (5, .int x5)]) [0, 1, 3] rfl ?_
      exact k_mdl_judge_192 hF hL hN C E h
    · rw [if_pos c2] at h
      refine j_iconst (v := 4) C d_mdl_judge_186 rfl (by decide) ?_
      refine j_goto (tgt := 192) C d_mdl_judge_187 (by decide) ?_
      refine rc_J.sub (lv' := [(0, va_rf (some a0)), (1, .int x1), (5, .int x5)]) [0, 1, 3] rfl ?_
      exact k_mdl_judge_192 hF hL hN C E h

set_option maxRecDepth 100000 in
set_option maxHeartbeats 4000000 in
theorem k_mdl_judge_123 {X : rc_X} {w0 : rc_M} (hF : (q_R X).frames = 5) (hL : (q_R X).locals = 115) (hN : q_n X = 10) (C : rc_C X "RecordCallsModel" prog_9_method_26_code w0) {res : Int32 × rc_M} (E : rc_E0 X y_mdl_judge (some .boolean) (some (.int res.1)) res.2) {w : rc_M} {a0 : Nat} {x1 : Int32} {x3 : Int32} {x4 : Int32} {x5 : Int32} {x8 : Int32} {x9 : Int32} (h : b_mdl_judge_123 w a0 x1 x3 x4 x5 x8 x9 = some res) : rc_J X w 123 [] [(0, va_rf (some a0)), (1, .int x1), (3, .int x3), (4, .int x4), (5, .int x5), (8, .int x8), (9, .int x9)] := by
  unfold b_mdl_judge_123 at h
  refine j_iload C d_mdl_judge_123 rfl 5 rfl ?_
  refine j_if_ne (tgt := 133) C d_mdl_judge_125 (by decide) rfl (fun c1 => ?_) (fun c1 => ?_)
  · rw [if_neg c1] at h
    refine rc_J.sub (lv' := [(0, va_rf (some a0)), (1, .int x1)]) [0, 1] rfl ?_
    exact k_mdl_judge_133 hF hL hN C E h
  · rw [if_pos c1] at h
    refine j_iload C d_mdl_judge_128 rfl 6 rfl ?_
    refine j_if_le (tgt := 141) C d_mdl_judge_130 (by decide) rfl (fun c2 => ?_) (fun c2 => ?_)
    · rw [if_pos c2] at h
      refine j_iload_n C d_mdl_judge_141 rfl 2 rfl ?_
      refine j_ldc C d_mdl_judge_142 rfl T_855 ?_
      refine j_icmp_eq (tgt := 154) C d_mdl_judge_144 (by decide) rfl (fun c3 => ?_) (fun c3 => ?_)
      · rw [if_pos c3] at h
        refine j_iload C d_mdl_judge_154 rfl 3 rfl ?_
        refine j_iconst (v := 1) C d_mdl_judge_156 rfl (by decide) ?_
        refine j_icmp_eq (tgt := 173) C d_mdl_judge_157 (by decide) rfl (fun c4 => ?_) (fun c4 => ?_)
        · rw [if_pos c4] at h
          refine rc_J.sub (lv' := [(0, va_rf (some a0)), (1, .int x1), (4, .int x4), (5, .int x5)]) [0, 1, 3, 4] rfl ?_
          exact k_mdl_judge_173 hF hL hN C E h
        · rw [if_neg c4] at h
          refine j_iload C d_mdl_judge_160 rfl 3 rfl ?_
          refine j_iconst (v := 2) C d_mdl_judge_162 rfl (by decide) ?_
          refine j_icmp_eq (tgt := 173) C d_mdl_judge_163 (by decide) rfl (fun c5 => ?_) (fun c5 => ?_)
          · rw [if_pos c5] at h
            refine rc_J.sub (lv' := [(0, va_rf (some a0)), (1, .int x1), (4, .int x4), (5, .int x5)]) [0, 1, 3, 4] rfl ?_
            exact k_mdl_judge_173 hF hL hN C E h
          · rw [if_neg c5] at h
            refine j_aload_n C d_mdl_judge_166 rfl 0 rfl ?_
            refine j_iload_n C d_mdl_judge_167 rfl 1 rfl ?_
            refine j_iconst (v := 2) C d_mdl_judge_168 rfl (by decide) ?_
            obtain ⟨a6, h7, h⟩ := Option.bind_eq_some_iff.mp h
            obtain ⟨p8, h9, h⟩ := Option.bind_eq_some_iff.mp h
            refine j_callV C (As := [.int x1, .int 2]) (st := []) (sk' := [.int p8.1]) mk_mdl_accept (Or.inl T_904) T_906 S_38 (ci := 7) rfl h7 (rc_le hF (by decide)) (rc_le hL (by decide)) (ct_mdl_accept h9) rfl rfl (by decide) d_mdl_judge_169 rfl rfl ?_
            obtain ⟨hz, rfl⟩ := rc_z1_spec h
            exact j_zret C hz E d_mdl_judge_172
      · rw [if_neg c3] at h
        refine j_aload_n C d_mdl_judge_147 rfl 0 rfl ?_
        refine j_iload_n C d_mdl_judge_148 rfl 1 rfl ?_
        refine j_iconst (v := 1) C d_mdl_judge_149 rfl (by decide) ?_
        obtain ⟨a10, h11, h⟩ := Option.bind_eq_some_iff.mp h
        obtain ⟨p12, h13, h⟩ := Option.bind_eq_some_iff.mp h
        refine j_callV C (As := [.int x1, .int 1]) (st := []) (sk' := [.int p12.1]) mk_mdl_accept (Or.inl T_904) T_906 S_38 (ci := 7) rfl h11 (rc_le hF (by decide)) (rc_le hL (by decide)) (ct_mdl_accept h13) rfl rfl (by decide) d_mdl_judge_150 rfl rfl ?_
        obtain ⟨hz, rfl⟩ := rc_z1_spec h
        exact j_zret C hz E d_mdl_judge_153
    · rw [if_neg c2] at h
      refine rc_J.sub (lv' := [(0, va_rf (some a0)), (1, .int x1)]) [0, 1] rfl ?_
      exact k_mdl_judge_133 hF hL hN C E h

set_option maxRecDepth 100000 in
set_option maxHeartbeats 4000000 in
theorem k_mdl_judge_105 {X : rc_X} {w0 : rc_M} (hF : (q_R X).frames = 5) (hL : (q_R X).locals = 115) (hN : q_n X = 10) (C : rc_C X "RecordCallsModel" prog_9_method_26_code w0) {res : Int32 × rc_M} (E : rc_E0 X y_mdl_judge (some .boolean) (some (.int res.1)) res.2) {w : rc_M} {a0 : Nat} {x1 : Int32} {x3 : Int32} {x4 : Int32} {x5 : Int32} {x6 : Int32} {x7 : Int32} {x8 : Int32} {x9 : Int32} (h : b_mdl_judge_105 w a0 x1 x3 x4 x5 x6 x7 x8 x9 = some res) : rc_J X w 105 [] [(0, va_rf (some a0)), (1, .int x1), (3, .int x3), (4, .int x4), (5, .int x5), (6, .int x6), (7, .int x7), (8, .int x8), (9, .int x9)] := by
  unfold b_mdl_judge_105 at h
  refine j_iload C d_mdl_judge_105 rfl 5 rfl ?_
  refine j_if_ne (tgt := 123) C d_mdl_judge_107 (by decide) rfl (fun c1 => ?_) (fun c1 => ?_)
  · rw [if_neg c1] at h
    refine rc_J.sub (lv' := [(0, va_rf (some a0)), (1, .int x1), (3, .int x3), (4, .int x4), (5, .int x5), (8, .int x8), (9, .int x9)]) [0, 1, 2, 3, 4, 7, 8] rfl ?_
    exact k_mdl_judge_123 hF hL hN C E h
  · rw [if_pos c1] at h
    refine j_iload C d_mdl_judge_110 rfl 6 rfl ?_
    refine j_if_le (tgt := 123) C d_mdl_judge_112 (by decide) rfl (fun c2 => ?_) (fun c2 => ?_)
    · rw [if_pos c2] at h
      refine rc_J.sub (lv' := [(0, va_rf (some a0)), (1, .int x1), (3, .int x3), (4, .int x4), (5, .int x5), (8, .int x8), (9, .int x9)]) [0, 1, 2, 3, 4, 7, 8] rfl ?_
      exact k_mdl_judge_123 hF hL hN C E h
    · rw [if_neg c2] at h
      refine rc_J.sub (lv' := [(0, va_rf (some a0)), (1, .int x1)]) [0, 1] rfl ?_
      exact k_mdl_judge_115 hF hL hN C E h

set_option maxRecDepth 100000 in
set_option maxHeartbeats 4000000 in
theorem ct_mdl_judge {l : Launch} {G : rc_G} {w : rc_M} {a0 : Nat} {x1 : Int32} {res : Int32 × rc_M} (h : f_mdl_judge w a0 x1 = some res) : rc_Ct l G y_mdl_judge prog_9_method_26_code 10 (some .boolean) 5 115 [va_rf (some a0), .int x1] w (some (.int res.1)) res.2 := by
  refine rc_enter (by decide +kernel) (by simp [lg_sl, va_rf_cat, rc_cat_i, rc_cat_l]) ?_
  intro X _ _ hN hF hL C E
  have hlv : lv_args 0 [va_rf (some a0), .int x1] = [(0, va_rf (some a0)), (1, .int x1)] := by simp [lv_args, va_rf_cat, rc_cat_i, rc_cat_l]
  rw [hlv]
  clear hlv
  unfold f_mdl_judge at h
  refine j_aload_n C d_mdl_judge_0 rfl 0 rfl ?_
  refine j_bipush (v := 8) C d_mdl_judge_1 rfl (by decide) ?_
  obtain ⟨w1, h2, h⟩ := Option.bind_eq_some_iff.mp h
  refine j_putV C (ci := 7) (k := 27) (by decide) (by decide) T_746 (Or.inl rfl) rfl rfl h2 d_mdl_judge_3 rfl ?_
  refine j_aload_n C d_mdl_judge_6 rfl 0 rfl ?_
  refine j_iconst (v := 1) C d_mdl_judge_7 rfl (by decide) ?_
  obtain ⟨w3, h4, h⟩ := Option.bind_eq_some_iff.mp h
  obtain ⟨h4z, h4⟩ := rc_pZ_spec h4
  refine j_putV C (ci := 7) (k := 28) (by decide) (by decide) T_747 (Or.inl rfl) (rc_nz h4z) (rc_fz h4z) h4 d_mdl_judge_8 rfl ?_
  refine j_aload_n C d_mdl_judge_11 rfl 0 rfl ?_
  obtain ⟨a5, h6, h⟩ := Option.bind_eq_some_iff.mp h
  obtain ⟨p7, h8, h⟩ := Option.bind_eq_some_iff.mp h
  refine j_callV C (As := []) (st := []) (sk' := [.int p7.1]) mk_mdl_nextWord (Or.inl T_884) T_886 S_33 (ci := 7) rfl h6 (rc_le hF (by decide)) (rc_le hL (by decide)) (ct_mdl_nextWord h8) rfl rfl (by decide) d_mdl_judge_12 rfl rfl ?_
  refine j_istore_n C (i := 2) d_mdl_judge_15 rfl rfl [(2, .int p7.1), (0, va_rf (some a0)), (1, .int x1)] (rc_lt hN (by decide)) (by first | rfl | simp [va_rf_cat, rc_cat_i, rc_cat_l]) ?_
  refine j_aload_n C d_mdl_judge_16 rfl 1 rfl ?_
  obtain ⟨v9, h10, h⟩ := Option.bind_eq_some_iff.mp h
  refine j_getI C fl_mdl_119 h10 d_mdl_judge_17 rfl ?_
  refine j_if_ne (tgt := 25) C d_mdl_judge_20 (by decide) rfl (fun c11 => ?_) (fun c11 => ?_)
  · rw [if_neg c11] at h
    refine j_iload_n C d_mdl_judge_25 rfl 0 rfl ?_
    refine j_iconst (v := 2) C d_mdl_judge_26 rfl (by decide) ?_
    refine j_icmp_eq (tgt := 38) C d_mdl_judge_27 (by decide) rfl (fun c12 => ?_) (fun c12 => ?_)
    · rw [if_pos c12] at h
      refine j_aload_n C d_mdl_judge_38 rfl 1 rfl ?_
      obtain ⟨a13, h14, h⟩ := Option.bind_eq_some_iff.mp h
      obtain ⟨p15, h16, h⟩ := Option.bind_eq_some_iff.mp h
      refine j_callV C (As := []) (st := []) (sk' := [.int p15.1]) mk_mdl_nextWord (Or.inl T_884) T_886 S_33 (ci := 7) rfl h14 (rc_le hF (by decide)) (rc_le hL (by decide)) (ct_mdl_nextWord h16) rfl rfl (by decide) d_mdl_judge_39 rfl rfl ?_
      refine j_istore_n C (i := 3) d_mdl_judge_42 rfl rfl [(3, .int p15.1), (2, .int p7.1), (0, va_rf (some a0)), (1, .int x1)] (rc_lt hN (by decide)) (by first | rfl | simp [va_rf_cat, rc_cat_i, rc_cat_l]) ?_
      refine j_aload_n C d_mdl_judge_43 rfl 2 rfl ?_
      obtain ⟨a17, h18, h⟩ := Option.bind_eq_some_iff.mp h
      obtain ⟨p19, h20, h⟩ := Option.bind_eq_some_iff.mp h
      refine j_callV C (As := []) (st := []) (sk' := [.int p19.1]) mk_mdl_nextWord (Or.inl T_884) T_886 S_33 (ci := 7) rfl h18 (rc_le hF (by decide)) (rc_le hL (by decide)) (ct_mdl_nextWord h20) rfl rfl (by decide) d_mdl_judge_44 rfl rfl ?_
      refine j_istore C (i := 4) d_mdl_judge_47 rfl [(4, .int p19.1), (3, .int p15.1), (2, .int p7.1), (0, va_rf (some a0)), (1, .int x1)] (rc_lt hN (by decide)) (by first | rfl | simp [va_rf_cat, rc_cat_i, rc_cat_l]) ?_
      refine j_aload_n C d_mdl_judge_49 rfl 3 rfl ?_
      obtain ⟨a21, h22, h⟩ := Option.bind_eq_some_iff.mp h
      obtain ⟨p23, h24, h⟩ := Option.bind_eq_some_iff.mp h
      refine j_callV C (As := []) (st := []) (sk' := [.int p23.1]) mk_mdl_nextWord (Or.inl T_884) T_886 S_33 (ci := 7) rfl h22 (rc_le hF (by decide)) (rc_le hL (by decide)) (ct_mdl_nextWord h24) rfl rfl (by decide) d_mdl_judge_50 rfl rfl ?_
      refine j_istore C (i := 5) d_mdl_judge_53 rfl [(5, .int p23.1), (4, .int p19.1), (3, .int p15.1), (2, .int p7.1), (0, va_rf (some a0)), (1, .int x1)] (rc_lt hN (by decide)) (by first | rfl | simp [va_rf_cat, rc_cat_i, rc_cat_l]) ?_
      refine j_aload_n C d_mdl_judge_55 rfl 4 rfl ?_
      obtain ⟨a25, h26, h⟩ := Option.bind_eq_some_iff.mp h
      obtain ⟨p27, h28, h⟩ := Option.bind_eq_some_iff.mp h
      refine j_callV C (As := []) (st := []) (sk' := [.int p27.1]) mk_mdl_nextWord (Or.inl T_884) T_886 S_33 (ci := 7) rfl h26 (rc_le hF (by decide)) (rc_le hL (by decide)) (ct_mdl_nextWord h28) rfl rfl (by decide) d_mdl_judge_56 rfl rfl ?_
      refine j_istore C (i := 6) d_mdl_judge_59 rfl [(6, .int p27.1), (5, .int p23.1), (4, .int p19.1), (3, .int p15.1), (2, .int p7.1), (0, va_rf (some a0)), (1, .int x1)] (rc_lt hN (by decide)) (by first | rfl | simp [va_rf_cat, rc_cat_i, rc_cat_l]) ?_
      refine j_aload_n C d_mdl_judge_61 rfl 5 rfl ?_
      refine j_sipush (v := 400) C d_mdl_judge_62 rfl (by decide) ?_
      obtain ⟨a29, h30, h⟩ := Option.bind_eq_some_iff.mp h
      obtain ⟨p31, h32, h⟩ := Option.bind_eq_some_iff.mp h
      refine j_callV C (As := [.int 400]) (st := []) (sk' := [.int p31.1]) mk_mdl_nextBytes (Or.inl T_900) T_902 S_37 (ci := 7) rfl h30 (rc_le hF (by decide)) (rc_le hL (by decide)) (ct_mdl_nextBytes h32) rfl rfl (by decide) d_mdl_judge_65 rfl rfl ?_
      refine j_istore C (i := 7) d_mdl_judge_68 rfl [(7, .int p31.1), (6, .int p27.1), (5, .int p23.1), (4, .int p19.1), (3, .int p15.1), (2, .int p7.1), (0, va_rf (some a0)), (1, .int x1)] (rc_lt hN (by decide)) (by first | rfl | simp [va_rf_cat, rc_cat_i, rc_cat_l]) ?_
      refine j_aload_n C d_mdl_judge_70 rfl 6 rfl ?_
      obtain ⟨a33, h34, h⟩ := Option.bind_eq_some_iff.mp h
      obtain ⟨p35, h36, h⟩ := Option.bind_eq_some_iff.mp h
      refine j_callV C (As := []) (st := []) (sk' := [.int p35.1]) mk_mdl_nextWord (Or.inl T_884) T_886 S_33 (ci := 7) rfl h34 (rc_le hF (by decide)) (rc_le hL (by decide)) (ct_mdl_nextWord h36) rfl rfl (by decide) d_mdl_judge_71 rfl rfl ?_
      refine j_istore C (i := 8) d_mdl_judge_74 rfl [(8, .int p35.1), (7, .int p31.1), (6, .int p27.1), (5, .int p23.1), (4, .int p19.1), (3, .int p15.1), (2, .int p7.1), (0, va_rf (some a0)), (1, .int x1)] (rc_lt hN (by decide)) (by first | rfl | simp [va_rf_cat, rc_cat_i, rc_cat_l]) ?_
      refine j_aload_n C d_mdl_judge_76 rfl 7 rfl ?_
      refine j_sipush (v := 400) C d_mdl_judge_77 rfl (by decide) ?_
      obtain ⟨a37, h38, h⟩ := Option.bind_eq_some_iff.mp h
      obtain ⟨p39, h40, h⟩ := Option.bind_eq_some_iff.mp h
      refine j_callV C (As := [.int 400]) (st := []) (sk' := [.int p39.1]) mk_mdl_nextBytes (Or.inl T_900) T_902 S_37 (ci := 7) rfl h38 (rc_le hF (by decide)) (rc_le hL (by decide)) (ct_mdl_nextBytes h40) rfl rfl (by decide) d_mdl_judge_80 rfl rfl ?_
      refine j_istore C (i := 9) d_mdl_judge_83 rfl [(9, .int p39.1), (8, .int p35.1), (7, .int p31.1), (6, .int p27.1), (5, .int p23.1), (4, .int p19.1), (3, .int p15.1), (2, .int p7.1), (0, va_rf (some a0)), (1, .int x1)] (rc_lt hN (by decide)) (by first | rfl | simp [va_rf_cat, rc_cat_i, rc_cat_l]) ?_
      refine j_aload_n C d_mdl_judge_85 rfl 8 rfl ?_
      obtain ⟨v41, h42, h⟩ := Option.bind_eq_some_iff.mp h
      refine j_getI C fl_mdl_119 h42 d_mdl_judge_86 rfl ?_
      refine j_if_ne (tgt := 94) C d_mdl_judge_89 (by decide) rfl (fun c43 => ?_) (fun c43 => ?_)
      · rw [if_neg c43] at h
        refine j_iload C d_mdl_judge_94 rfl 3 rfl ?_
        refine j_if_eq (tgt := 105) C d_mdl_judge_96 (by decide) rfl (fun c44 => ?_) (fun c44 => ?_)
        · rw [if_pos c44] at h
          refine rc_J.sub (lv' := [(0, va_rf (some a0)), (1, .int x1), (3, .int p15.1), (4, .int p19.1), (5, .int p23.1), (6, .int p27.1), (7, .int p31.1), (8, .int p35.1), (9, .int p39.1)]) [8, 9, 6, 5, 4, 3, 2, 1, 0] rfl ?_
          exact k_mdl_judge_105 hF hL hN C E h
        · rw [if_neg c44] at h
          refine j_iload C d_mdl_judge_99 rfl 3 rfl ?_
          refine j_iconst (v := 1) C d_mdl_judge_101 rfl (by decide) ?_
          refine j_icmp_ne (tgt := 115) C d_mdl_judge_102 (by decide) rfl (fun c45 => ?_) (fun c45 => ?_)
          · rw [if_neg c45] at h
            refine rc_J.sub (lv' := [(0, va_rf (some a0)), (1, .int x1)]) [8, 9] rfl ?_
            exact k_mdl_judge_115 hF hL hN C E h
          · rw [if_pos c45] at h
            refine rc_J.sub (lv' := [(0, va_rf (some a0)), (1, .int x1), (3, .int p15.1), (4, .int p19.1), (5, .int p23.1), (6, .int p27.1), (7, .int p31.1), (8, .int p35.1), (9, .int p39.1)]) [8, 9, 6, 5, 4, 3, 2, 1, 0] rfl ?_
            exact k_mdl_judge_105 hF hL hN C E h
      · rw [if_pos c43] at h
        refine j_iconst (v := 0) C d_mdl_judge_92 rfl (by decide) ?_
        obtain ⟨hz, rfl⟩ := rc_z1_spec h
        exact j_zret C hz E d_mdl_judge_93
    · rw [if_neg c12] at h
      refine j_aload_n C d_mdl_judge_30 rfl 1 rfl ?_
      refine j_iload_n C d_mdl_judge_31 rfl 2 rfl ?_
      refine j_iconst (v := 0) C d_mdl_judge_32 rfl (by decide) ?_
      refine j_iconst (v := 2) C d_mdl_judge_33 rfl (by decide) ?_
      obtain ⟨a46, h47, h⟩ := Option.bind_eq_some_iff.mp h
      obtain ⟨p48, h49, h⟩ := Option.bind_eq_some_iff.mp h
      refine j_callV C (As := [.int x1, .int 0, .int 2]) (st := []) (sk' := [.int p48.1]) mk_mdl_refuse (Or.inl T_892) T_894 S_35 (ci := 7) rfl h47 (rc_le hF (by decide)) (rc_le hL (by decide)) (ct_mdl_refuse h49) rfl rfl (by decide) d_mdl_judge_34 rfl rfl ?_
      obtain ⟨hz, rfl⟩ := rc_z1_spec h
      exact j_zret C hz E d_mdl_judge_37
  · rw [if_pos c11] at h
    refine j_iconst (v := 0) C d_mdl_judge_23 rfl (by decide) ?_
    obtain ⟨hz, rfl⟩ := rc_z1_spec h
    exact j_zret C hz E d_mdl_judge_24

