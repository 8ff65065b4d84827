theorem d_mdl_byteAt_0 : decode prog_9_method_37_code 0 = .ok (.aload_n 0, 1) := by decide +kernel
theorem d_mdl_byteAt_1 : decode prog_9_method_37_code 1 = .ok (.aload_n 0, 1) := by decide +kernel
theorem d_mdl_byteAt_2 : decode prog_9_method_37_code 2 = .ok (.iload_n 1, 1) := by decide +kernel
theorem d_mdl_byteAt_3 : decode prog_9_method_37_code 3 = .ok (.invokevirtual 101, 3) := by decide +kernel
theorem d_mdl_byteAt_6 : decode prog_9_method_37_code 6 = .ok (.ifCond .eq 24, 3) := by decide +kernel
theorem d_mdl_byteAt_9 : decode prog_9_method_37_code 9 = .ok (.iload_n 2, 1) := by decide +kernel
theorem d_mdl_byteAt_10 : decode prog_9_method_37_code 10 = .ok (.ifCond .lt 20, 3) := by decide +kernel
theorem d_mdl_byteAt_13 : decode prog_9_method_37_code 13 = .ok (.iload_n 2, 1) := by decide +kernel
theorem d_mdl_byteAt_14 : decode prog_9_method_37_code 14 = .ok (.aload_n 0, 1) := by decide +kernel
theorem d_mdl_byteAt_15 : decode prog_9_method_37_code 15 = .ok (.getfield 18, 3) := by decide +kernel
theorem d_mdl_byteAt_18 : decode prog_9_method_37_code 18 = .ok (.iload_n 1, 1) := by decide +kernel
theorem d_mdl_byteAt_19 : decode prog_9_method_37_code 19 = .ok (.bipush 64, 2) := by decide +kernel
theorem d_mdl_byteAt_21 : decode prog_9_method_37_code 21 = .ok (.irem, 1) := by decide +kernel
theorem d_mdl_byteAt_22 : decode prog_9_method_37_code 22 = .ok (.iaload, 1) := by decide +kernel
theorem d_mdl_byteAt_23 : decode prog_9_method_37_code 23 = .ok (.if_icmp .ge 7, 3) := by decide +kernel
theorem d_mdl_byteAt_26 : decode prog_9_method_37_code 26 = .ok (.iconst 0, 1) := by decide +kernel
theorem d_mdl_byteAt_27 : decode prog_9_method_37_code 27 = .ok (.goto 4, 3) := by decide +kernel
theorem d_mdl_byteAt_30 : decode prog_9_method_37_code 30 = .ok (.iconst 1, 1) := by decide +kernel
theorem d_mdl_byteAt_31 : decode prog_9_method_37_code 31 = .ok (.putfield 74, 3) := by decide +kernel
theorem d_mdl_byteAt_34 : decode prog_9_method_37_code 34 = .ok (.aload_n 0, 1) := by decide +kernel
theorem d_mdl_byteAt_35 : decode prog_9_method_37_code 35 = .ok (.getfield 74, 3) := by decide +kernel
theorem d_mdl_byteAt_38 : decode prog_9_method_37_code 38 = .ok (.ifCond .le 7, 3) := by decide +kernel
theorem d_mdl_byteAt_41 : decode prog_9_method_37_code 41 = .ok (.iconst 0, 1) := by decide +kernel
theorem d_mdl_byteAt_42 : decode prog_9_method_37_code 42 = .ok (.goto 18, 3) := by decide +kernel
theorem d_mdl_byteAt_45 : decode prog_9_method_37_code 45 = .ok (.aload_n 0, 1) := by decide +kernel
theorem d_mdl_byteAt_46 : decode prog_9_method_37_code 46 = .ok (.getfield 14, 3) := by decide +kernel
theorem d_mdl_byteAt_49 : decode prog_9_method_37_code 49 = .ok (.iload_n 1, 1) := by decide +kernel
theorem d_mdl_byteAt_50 : decode prog_9_method_37_code 50 = .ok (.invokestatic 81, 3) := by decide +kernel
theorem d_mdl_byteAt_53 : decode prog_9_method_37_code 53 = .ok (.iload_n 2, 1) := by decide +kernel
theorem d_mdl_byteAt_54 : decode prog_9_method_37_code 54 = .ok (.iadd, 1) := by decide +kernel
theorem d_mdl_byteAt_55 : decode prog_9_method_37_code 55 = .ok (.baload, 1) := by decide +kernel
theorem d_mdl_byteAt_56 : decode prog_9_method_37_code 56 = .ok (.sipush 255, 3) := by decide +kernel
theorem d_mdl_byteAt_59 : decode prog_9_method_37_code 59 = .ok (.iand, 1) := by decide +kernel
theorem d_mdl_byteAt_60 : decode prog_9_method_37_code 60 = .ok (.ireturn, 1) := by decide +kernel
theorem d_mdl_wordIn_0 : decode prog_9_method_38_code 0 = .ok (.iconst 0, 1) := by decide +kernel
theorem d_mdl_wordIn_1 : decode prog_9_method_38_code 1 = .ok (.istore_n 3, 1) := by decide +kernel
theorem d_mdl_wordIn_2 : decode prog_9_method_38_code 2 = .ok (.iconst 0, 1) := by decide +kernel
theorem d_mdl_wordIn_3 : decode prog_9_method_38_code 3 = .ok (.istore 4, 2) := by decide +kernel
theorem d_mdl_wordIn_5 : decode prog_9_method_38_code 5 = .ok (.iload 4, 2) := by decide +kernel
theorem d_mdl_wordIn_7 : decode prog_9_method_38_code 7 = .ok (.iconst 4, 1) := by decide +kernel
theorem d_mdl_wordIn_8 : decode prog_9_method_38_code 8 = .ok (.if_icmp .ge 33, 3) := by decide +kernel
theorem d_mdl_wordIn_11 : decode prog_9_method_38_code 11 = .ok (.iload_n 3, 1) := by decide +kernel
theorem d_mdl_wordIn_12 : decode prog_9_method_38_code 12 = .ok (.bipush 8, 2) := by decide +kernel
theorem d_mdl_wordIn_14 : decode prog_9_method_38_code 14 = .ok (.ishl, 1) := by decide +kernel
theorem d_mdl_wordIn_15 : decode prog_9_method_38_code 15 = .ok (.aload_n 0, 1) := by decide +kernel
theorem d_mdl_wordIn_16 : decode prog_9_method_38_code 16 = .ok (.getfield 14, 3) := by decide +kernel
theorem d_mdl_wordIn_19 : decode prog_9_method_38_code 19 = .ok (.iload_n 1, 1) := by decide +kernel
theorem d_mdl_wordIn_20 : decode prog_9_method_38_code 20 = .ok (.invokestatic 81, 3) := by decide +kernel
theorem d_mdl_wordIn_23 : decode prog_9_method_38_code 23 = .ok (.iload_n 2, 1) := by decide +kernel
theorem d_mdl_wordIn_24 : decode prog_9_method_38_code 24 = .ok (.iadd, 1) := by decide +kernel
theorem d_mdl_wordIn_25 : decode prog_9_method_38_code 25 = .ok (.iload 4, 2) := by decide +kernel
theorem d_mdl_wordIn_27 : decode prog_9_method_38_code 27 = .ok (.iadd, 1) := by decide +kernel
theorem d_mdl_wordIn_28 : decode prog_9_method_38_code 28 = .ok (.baload, 1) := by decide +kernel
theorem d_mdl_wordIn_29 : decode prog_9_method_38_code 29 = .ok (.sipush 255, 3) := by decide +kernel
theorem d_mdl_wordIn_32 : decode prog_9_method_38_code 32 = .ok (.iand, 1) := by decide +kernel
theorem d_mdl_wordIn_33 : decode prog_9_method_38_code 33 = .ok (.ior, 1) := by decide +kernel
theorem d_mdl_wordIn_34 : decode prog_9_method_38_code 34 = .ok (.istore_n 3, 1) := by decide +kernel
theorem d_mdl_wordIn_35 : decode prog_9_method_38_code 35 = .ok (.iinc 4 1, 3) := by decide +kernel
theorem d_mdl_wordIn_38 : decode prog_9_method_38_code 38 = .ok (.goto (-33), 3) := by decide +kernel
theorem d_mdl_wordIn_41 : decode prog_9_method_38_code 41 = .ok (.iload_n 3, 1) := by decide +kernel
theorem d_mdl_wordIn_42 : decode prog_9_method_38_code 42 = .ok (.ireturn, 1) := by decide +kernel
theorem d_mdl_word_0 : decode prog_9_method_39_code 0 = .ok (.aload_n 0, 1) := by decide +kernel
theorem d_mdl_word_1 : decode prog_9_method_39_code 1 = .ok (.aload_n 0, 1) := by decide +kernel
theorem d_mdl_word_2 : decode prog_9_method_39_code 2 = .ok (.iload_n 1, 1) := by decide +kernel
theorem d_mdl_word_3 : decode prog_9_method_39_code 3 = .ok (.invokevirtual 101, 3) := by decide +kernel
theorem d_mdl_word_6 : decode prog_9_method_39_code 6 = .ok (.ifCond .eq 26, 3) := by decide +kernel
theorem d_mdl_word_9 : decode prog_9_method_39_code 9 = .ok (.iload_n 2, 1) := by decide +kernel
theorem d_mdl_word_10 : decode prog_9_method_39_code 10 = .ok (.ifCond .lt 22, 3) := by decide +kernel
theorem d_mdl_word_13 : decode prog_9_method_39_code 13 = .ok (.iload_n 2, 1) := by decide +kernel
theorem d_mdl_word_14 : decode prog_9_method_39_code 14 = .ok (.aload_n 0, 1) := by decide +kernel
theorem d_mdl_word_15 : decode prog_9_method_39_code 15 = .ok (.getfield 18, 3) := by decide +kernel
theorem d_mdl_word_18 : decode prog_9_method_39_code 18 = .ok (.iload_n 1, 1) := by decide +kernel
theorem d_mdl_word_19 : decode prog_9_method_39_code 19 = .ok (.bipush 64, 2) := by decide +kernel
theorem d_mdl_word_21 : decode prog_9_method_39_code 21 = .ok (.irem, 1) := by decide +kernel
theorem d_mdl_word_22 : decode prog_9_method_39_code 22 = .ok (.iaload, 1) := by decide +kernel
theorem d_mdl_word_23 : decode prog_9_method_39_code 23 = .ok (.iconst 4, 1) := by decide +kernel
theorem d_mdl_word_24 : decode prog_9_method_39_code 24 = .ok (.isub, 1) := by decide +kernel
theorem d_mdl_word_25 : decode prog_9_method_39_code 25 = .ok (.if_icmp .gt 7, 3) := by decide +kernel
theorem d_mdl_word_28 : decode prog_9_method_39_code 28 = .ok (.iconst 0, 1) := by decide +kernel
theorem d_mdl_word_29 : decode prog_9_method_39_code 29 = .ok (.goto 4, 3) := by decide +kernel
theorem d_mdl_word_32 : decode prog_9_method_39_code 32 = .ok (.iconst 1, 1) := by decide +kernel
theorem d_mdl_word_33 : decode prog_9_method_39_code 33 = .ok (.putfield 74, 3) := by decide +kernel
theorem d_mdl_word_36 : decode prog_9_method_39_code 36 = .ok (.aload_n 0, 1) := by decide +kernel
theorem d_mdl_word_37 : decode prog_9_method_39_code 37 = .ok (.getfield 74, 3) := by decide +kernel
theorem d_mdl_word_40 : decode prog_9_method_39_code 40 = .ok (.ifCond .le 7, 3) := by decide +kernel
theorem d_mdl_word_43 : decode prog_9_method_39_code 43 = .ok (.iconst 0, 1) := by decide +kernel
theorem d_mdl_word_44 : decode prog_9_method_39_code 44 = .ok (.goto 9, 3) := by decide +kernel
theorem d_mdl_word_47 : decode prog_9_method_39_code 47 = .ok (.aload_n 0, 1) := by decide +kernel
theorem d_mdl_word_48 : decode prog_9_method_39_code 48 = .ok (.iload_n 1, 1) := by decide +kernel
theorem d_mdl_word_49 : decode prog_9_method_39_code 49 = .ok (.iload_n 2, 1) := by decide +kernel
theorem d_mdl_word_50 : decode prog_9_method_39_code 50 = .ok (.invokevirtual 211, 3) := by decide +kernel
theorem d_mdl_word_53 : decode prog_9_method_39_code 53 = .ok (.ireturn, 1) := by decide +kernel
theorem d_mdl_wholeRecord_0 : decode prog_9_method_40_code 0 = .ok (.aload_n 0, 1) := by decide +kernel
theorem d_mdl_wholeRecord_1 : decode prog_9_method_40_code 1 = .ok (.getfield 18, 3) := by decide +kernel
theorem d_mdl_wholeRecord_4 : decode prog_9_method_40_code 4 = .ok (.iload_n 1, 1) := by decide +kernel
theorem d_mdl_wholeRecord_5 : decode prog_9_method_40_code 5 = .ok (.bipush 64, 2) := by decide +kernel
theorem d_mdl_wholeRecord_7 : decode prog_9_method_40_code 7 = .ok (.irem, 1) := by decide +kernel
theorem d_mdl_wholeRecord_8 : decode prog_9_method_40_code 8 = .ok (.iaload, 1) := by decide +kernel
theorem d_mdl_wholeRecord_9 : decode prog_9_method_40_code 9 = .ok (.istore_n 2, 1) := by decide +kernel
theorem d_mdl_wholeRecord_10 : decode prog_9_method_40_code 10 = .ok (.iconst 0, 1) := by decide +kernel
theorem d_mdl_wholeRecord_11 : decode prog_9_method_40_code 11 = .ok (.istore_n 3, 1) := by decide +kernel
theorem d_mdl_wholeRecord_12 : decode prog_9_method_40_code 12 = .ok (.iconst 0, 1) := by decide +kernel
theorem d_mdl_wholeRecord_13 : decode prog_9_method_40_code 13 = .ok (.istore 4, 2) := by decide +kernel
theorem d_mdl_wholeRecord_15 : decode prog_9_method_40_code 15 = .ok (.iconst 0, 1) := by decide +kernel
theorem d_mdl_wholeRecord_16 : decode prog_9_method_40_code 16 = .ok (.istore 5, 2) := by decide +kernel
theorem d_mdl_wholeRecord_18 : decode prog_9_method_40_code 18 = .ok (.iload 5, 2) := by decide +kernel
theorem d_mdl_wholeRecord_20 : decode prog_9_method_40_code 20 = .ok (.ifCond .ne 108, 3) := by decide +kernel
theorem d_mdl_wholeRecord_23 : decode prog_9_method_40_code 23 = .ok (.iload_n 3, 1) := by decide +kernel
theorem d_mdl_wholeRecord_24 : decode prog_9_method_40_code 24 = .ok (.iconst 4, 1) := by decide +kernel
theorem d_mdl_wholeRecord_25 : decode prog_9_method_40_code 25 = .ok (.iadd, 1) := by decide +kernel
theorem d_mdl_wholeRecord_26 : decode prog_9_method_40_code 26 = .ok (.iload_n 2, 1) := by decide +kernel
theorem d_mdl_wholeRecord_27 : decode prog_9_method_40_code 27 = .ok (.if_icmp .le 5, 3) := by decide +kernel
theorem d_mdl_wholeRecord_30 : decode prog_9_method_40_code 30 = .ok (.iconst (-1), 1) := by decide +kernel
theorem d_mdl_wholeRecord_31 : decode prog_9_method_40_code 31 = .ok (.ireturn, 1) := by decide +kernel
theorem d_mdl_wholeRecord_32 : decode prog_9_method_40_code 32 = .ok (.aload_n 0, 1) := by decide +kernel
theorem d_mdl_wholeRecord_33 : decode prog_9_method_40_code 33 = .ok (.iload_n 1, 1) := by decide +kernel
theorem d_mdl_wholeRecord_34 : decode prog_9_method_40_code 34 = .ok (.iload_n 3, 1) := by decide +kernel
theorem d_mdl_wholeRecord_35 : decode prog_9_method_40_code 35 = .ok (.invokevirtual 211, 3) := by decide +kernel
theorem d_mdl_wholeRecord_38 : decode prog_9_method_40_code 38 = .ok (.istore 6, 2) := by decide +kernel
theorem d_mdl_wholeRecord_40 : decode prog_9_method_40_code 40 = .ok (.iload 6, 2) := by decide +kernel
theorem d_mdl_wholeRecord_42 : decode prog_9_method_40_code 42 = .ok (.ldc 96, 2) := by decide +kernel
theorem d_mdl_wholeRecord_44 : decode prog_9_method_40_code 44 = .ok (.iand, 1) := by decide +kernel
theorem d_mdl_wholeRecord_45 : decode prog_9_method_40_code 45 = .ok (.istore 7, 2) := by decide +kernel
theorem d_mdl_wholeRecord_47 : decode prog_9_method_40_code 47 = .ok (.iload_n 3, 1) := by decide +kernel
theorem d_mdl_wholeRecord_48 : decode prog_9_method_40_code 48 = .ok (.iconst 4, 1) := by decide +kernel
theorem d_mdl_wholeRecord_49 : decode prog_9_method_40_code 49 = .ok (.iadd, 1) := by decide +kernel
theorem d_mdl_wholeRecord_50 : decode prog_9_method_40_code 50 = .ok (.istore_n 3, 1) := by decide +kernel
theorem d_mdl_wholeRecord_51 : decode prog_9_method_40_code 51 = .ok (.iload 7, 2) := by decide +kernel
theorem d_mdl_wholeRecord_53 : decode prog_9_method_40_code 53 = .ok (.iload_n 2, 1) := by decide +kernel
theorem d_mdl_wholeRecord_54 : decode prog_9_method_40_code 54 = .ok (.iload_n 3, 1) := by decide +kernel
theorem d_mdl_wholeRecord_55 : decode prog_9_method_40_code 55 = .ok (.isub, 1) := by decide +kernel
theorem d_mdl_wholeRecord_56 : decode prog_9_method_40_code 56 = .ok (.if_icmp .le 5, 3) := by decide +kernel
theorem d_mdl_wholeRecord_59 : decode prog_9_method_40_code 59 = .ok (.iconst (-1), 1) := by decide +kernel
theorem d_mdl_wholeRecord_60 : decode prog_9_method_40_code 60 = .ok (.ireturn, 1) := by decide +kernel
theorem d_mdl_wholeRecord_61 : decode prog_9_method_40_code 61 = .ok (.iconst 0, 1) := by decide +kernel
theorem d_mdl_wholeRecord_62 : decode prog_9_method_40_code 62 = .ok (.istore 8, 2) := by decide +kernel
theorem d_mdl_wholeRecord_64 : decode prog_9_method_40_code 64 = .ok (.iload 8, 2) := by decide +kernel
theorem d_mdl_wholeRecord_66 : decode prog_9_method_40_code 66 = .ok (.iload 7, 2) := by decide +kernel
theorem d_mdl_wholeRecord_68 : decode prog_9_method_40_code 68 = .ok (.if_icmp .ge 33, 3) := by decide +kernel
theorem d_mdl_wholeRecord_71 : decode prog_9_method_40_code 71 = .ok (.aload_n 0, 1) := by decide +kernel
theorem d_mdl_wholeRecord_72 : decode prog_9_method_40_code 72 = .ok (.getfield 21, 3) := by decide +kernel
theorem d_mdl_wholeRecord_75 : decode prog_9_method_40_code 75 = .ok (.iload 4, 2) := by decide +kernel
theorem d_mdl_wholeRecord_77 : decode prog_9_method_40_code 77 = .ok (.iload 8, 2) := by decide +kernel
theorem d_mdl_wholeRecord_79 : decode prog_9_method_40_code 79 = .ok (.iadd, 1) := by decide +kernel
theorem d_mdl_wholeRecord_80 : decode prog_9_method_40_code 80 = .ok (.aload_n 0, 1) := by decide +kernel
theorem d_mdl_wholeRecord_81 : decode prog_9_method_40_code 81 = .ok (.getfield 14, 3) := by decide +kernel
theorem d_mdl_wholeRecord_84 : decode prog_9_method_40_code 84 = .ok (.iload_n 1, 1) := by decide +kernel
theorem d_mdl_wholeRecord_85 : decode prog_9_method_40_code 85 = .ok (.invokestatic 81, 3) := by decide +kernel
theorem d_mdl_wholeRecord_88 : decode prog_9_method_40_code 88 = .ok (.iload_n 3, 1) := by decide +kernel
theorem d_mdl_wholeRecord_89 : decode prog_9_method_40_code 89 = .ok (.iadd, 1) := by decide +kernel
theorem d_mdl_wholeRecord_90 : decode prog_9_method_40_code 90 = .ok (.iload 8, 2) := by decide +kernel
theorem d_mdl_wholeRecord_92 : decode prog_9_method_40_code 92 = .ok (.iadd, 1) := by decide +kernel
theorem d_mdl_wholeRecord_93 : decode prog_9_method_40_code 93 = .ok (.baload, 1) := by decide +kernel
theorem d_mdl_wholeRecord_94 : decode prog_9_method_40_code 94 = .ok (.bastore, 1) := by decide +kernel
theorem d_mdl_wholeRecord_95 : decode prog_9_method_40_code 95 = .ok (.iinc 8 1, 3) := by decide +kernel
theorem d_mdl_wholeRecord_98 : decode prog_9_method_40_code 98 = .ok (.goto (-34), 3) := by decide +kernel
theorem d_mdl_wholeRecord_101 : decode prog_9_method_40_code 101 = .ok (.iload 4, 2) := by decide +kernel
theorem d_mdl_wholeRecord_103 : decode prog_9_method_40_code 103 = .ok (.iload 7, 2) := by decide +kernel
theorem d_mdl_wholeRecord_105 : decode prog_9_method_40_code 105 = .ok (.iadd, 1) := by decide +kernel
theorem d_mdl_wholeRecord_106 : decode prog_9_method_40_code 106 = .ok (.istore 4, 2) := by decide +kernel
theorem d_mdl_wholeRecord_108 : decode prog_9_method_40_code 108 = .ok (.iload_n 3, 1) := by decide +kernel
theorem d_mdl_wholeRecord_109 : decode prog_9_method_40_code 109 = .ok (.iload 7, 2) := by decide +kernel
theorem d_mdl_wholeRecord_111 : decode prog_9_method_40_code 111 = .ok (.iadd, 1) := by decide +kernel
theorem d_mdl_wholeRecord_112 : decode prog_9_method_40_code 112 = .ok (.istore_n 3, 1) := by decide +kernel
theorem d_mdl_wholeRecord_113 : decode prog_9_method_40_code 113 = .ok (.iload 6, 2) := by decide +kernel
theorem d_mdl_wholeRecord_115 : decode prog_9_method_40_code 115 = .ok (.ifCond .ge 7, 3) := by decide +kernel
theorem d_mdl_wholeRecord_118 : decode prog_9_method_40_code 118 = .ok (.iconst 1, 1) := by decide +kernel
theorem d_mdl_wholeRecord_119 : decode prog_9_method_40_code 119 = .ok (.goto 4, 3) := by decide +kernel
theorem d_mdl_wholeRecord_122 : decode prog_9_method_40_code 122 = .ok (.iconst 0, 1) := by decide +kernel
theorem d_mdl_wholeRecord_123 : decode prog_9_method_40_code 123 = .ok (.istore 5, 2) := by decide +kernel
theorem d_mdl_wholeRecord_125 : decode prog_9_method_40_code 125 = .ok (.goto (-107), 3) := by decide +kernel
theorem d_mdl_wholeRecord_128 : decode prog_9_method_40_code 128 = .ok (.iload_n 3, 1) := by decide +kernel
theorem d_mdl_wholeRecord_129 : decode prog_9_method_40_code 129 = .ok (.iload_n 2, 1) := by decide +kernel
theorem d_mdl_wholeRecord_130 : decode prog_9_method_40_code 130 = .ok (.if_icmp .ne 8, 3) := by decide +kernel
theorem d_mdl_wholeRecord_133 : decode prog_9_method_40_code 133 = .ok (.iload 4, 2) := by decide +kernel
theorem d_mdl_wholeRecord_135 : decode prog_9_method_40_code 135 = .ok (.goto 4, 3) := by decide +kernel
theorem d_mdl_wholeRecord_138 : decode prog_9_method_40_code 138 = .ok (.iconst (-1), 1) := by decide +kernel
theorem d_mdl_wholeRecord_139 : decode prog_9_method_40_code 139 = .ok (.ireturn, 1) := by decide +kernel
theorem d_mdl_pushedWord_0 : decode prog_9_method_41_code 0 = .ok (.iconst 0, 1) := by decide +kernel
theorem d_mdl_pushedWord_1 : decode prog_9_method_41_code 1 = .ok (.istore_n 2, 1) := by decide +kernel
theorem d_mdl_pushedWord_2 : decode prog_9_method_41_code 2 = .ok (.iconst 0, 1) := by decide +kernel
theorem d_mdl_pushedWord_3 : decode prog_9_method_41_code 3 = .ok (.istore_n 3, 1) := by decide +kernel
theorem d_mdl_pushedWord_4 : decode prog_9_method_41_code 4 = .ok (.iload_n 3, 1) := by decide +kernel
theorem d_mdl_pushedWord_5 : decode prog_9_method_41_code 5 = .ok (.iconst 4, 1) := by decide +kernel
theorem d_mdl_pushedWord_6 : decode prog_9_method_41_code 6 = .ok (.if_icmp .ge 29, 3) := by decide +kernel
theorem d_mdl_pushedWord_9 : decode prog_9_method_41_code 9 = .ok (.iload_n 2, 1) := by decide +kernel
theorem d_mdl_pushedWord_10 : decode prog_9_method_41_code 10 = .ok (.bipush 8, 2) := by decide +kernel
theorem d_mdl_pushedWord_12 : decode prog_9_method_41_code 12 = .ok (.ishl, 1) := by decide +kernel
theorem d_mdl_pushedWord_13 : decode prog_9_method_41_code 13 = .ok (.aload_n 0, 1) := by decide +kernel
theorem d_mdl_pushedWord_14 : decode prog_9_method_41_code 14 = .ok (.getfield 21, 3) := by decide +kernel
theorem d_mdl_pushedWord_17 : decode prog_9_method_41_code 17 = .ok (.iconst 4, 1) := by decide +kernel
theorem d_mdl_pushedWord_18 : decode prog_9_method_41_code 18 = .ok (.iload_n 1, 1) := by decide +kernel
theorem d_mdl_pushedWord_19 : decode prog_9_method_41_code 19 = .ok (.imul, 1) := by decide +kernel
theorem d_mdl_pushedWord_20 : decode prog_9_method_41_code 20 = .ok (.iload_n 3, 1) := by decide +kernel
theorem d_mdl_pushedWord_21 : decode prog_9_method_41_code 21 = .ok (.iadd, 1) := by decide +kernel
theorem d_mdl_pushedWord_22 : decode prog_9_method_41_code 22 = .ok (.baload, 1) := by decide +kernel
theorem d_mdl_pushedWord_23 : decode prog_9_method_41_code 23 = .ok (.sipush 255, 3) := by decide +kernel
theorem d_mdl_pushedWord_26 : decode prog_9_method_41_code 26 = .ok (.iand, 1) := by decide +kernel
theorem d_mdl_pushedWord_27 : decode prog_9_method_41_code 27 = .ok (.ior, 1) := by decide +kernel
theorem d_mdl_pushedWord_28 : decode prog_9_method_41_code 28 = .ok (.istore_n 2, 1) := by decide +kernel
theorem d_mdl_pushedWord_29 : decode prog_9_method_41_code 29 = .ok (.iinc 3 1, 3) := by decide +kernel
theorem d_mdl_pushedWord_32 : decode prog_9_method_41_code 32 = .ok (.goto (-28), 3) := by decide +kernel
theorem d_mdl_pushedWord_35 : decode prog_9_method_41_code 35 = .ok (.iload_n 2, 1) := by decide +kernel
theorem d_mdl_pushedWord_36 : decode prog_9_method_41_code 36 = .ok (.ireturn, 1) := by decide +kernel
theorem d_mdl_says_0 : decode prog_9_method_42_code 0 = .ok (.aload_n 0, 1) := by decide +kernel
theorem d_mdl_says_1 : decode prog_9_method_42_code 1 = .ok (.aload_n 0, 1) := by decide +kernel
theorem d_mdl_says_2 : decode prog_9_method_42_code 2 = .ok (.iload_n 1, 1) := by decide +kernel
theorem d_mdl_says_3 : decode prog_9_method_42_code 3 = .ok (.invokevirtual 101, 3) := by decide +kernel
theorem d_mdl_says_6 : decode prog_9_method_42_code 6 = .ok (.ifCond .eq 7, 3) := by decide +kernel
theorem d_mdl_says_9 : decode prog_9_method_42_code 9 = .ok (.iconst 0, 1) := by decide +kernel
theorem d_mdl_says_10 : decode prog_9_method_42_code 10 = .ok (.goto 4, 3) := by decide +kernel
theorem d_mdl_says_13 : decode prog_9_method_42_code 13 = .ok (.iconst 1, 1) := by decide +kernel
theorem d_mdl_says_14 : decode prog_9_method_42_code 14 = .ok (.putfield 74, 3) := by decide +kernel
theorem d_mdl_says_17 : decode prog_9_method_42_code 17 = .ok (.aload_n 0, 1) := by decide +kernel
theorem d_mdl_says_18 : decode prog_9_method_42_code 18 = .ok (.getfield 74, 3) := by decide +kernel
theorem d_mdl_says_21 : decode prog_9_method_42_code 21 = .ok (.ifCond .le 5, 3) := by decide +kernel
theorem d_mdl_says_24 : decode prog_9_method_42_code 24 = .ok (.iconst 0, 1) := by decide +kernel
theorem d_mdl_says_25 : decode prog_9_method_42_code 25 = .ok (.ireturn, 1) := by decide +kernel
theorem d_mdl_says_26 : decode prog_9_method_42_code 26 = .ok (.aload_n 0, 1) := by decide +kernel
theorem d_mdl_says_27 : decode prog_9_method_42_code 27 = .ok (.iload_n 1, 1) := by decide +kernel
theorem d_mdl_says_28 : decode prog_9_method_42_code 28 = .ok (.invokevirtual 215, 3) := by decide +kernel
theorem d_mdl_says_31 : decode prog_9_method_42_code 31 = .ok (.istore_n 3, 1) := by decide +kernel
theorem d_mdl_says_32 : decode prog_9_method_42_code 32 = .ok (.iload_n 3, 1) := by decide +kernel
theorem d_mdl_says_33 : decode prog_9_method_42_code 33 = .ok (.bipush 20, 2) := by decide +kernel
theorem d_mdl_says_35 : decode prog_9_method_42_code 35 = .ok (.if_icmp .lt 12, 3) := by decide +kernel
theorem d_mdl_says_38 : decode prog_9_method_42_code 38 = .ok (.aload_n 0, 1) := by decide +kernel
theorem d_mdl_says_39 : decode prog_9_method_42_code 39 = .ok (.iconst 1, 1) := by decide +kernel
theorem d_mdl_says_40 : decode prog_9_method_42_code 40 = .ok (.invokevirtual 218, 3) := by decide +kernel
theorem d_mdl_says_43 : decode prog_9_method_42_code 43 = .ok (.iconst 1, 1) := by decide +kernel
theorem d_mdl_says_44 : decode prog_9_method_42_code 44 = .ok (.if_icmp .eq 5, 3) := by decide +kernel
theorem d_mdl_says_47 : decode prog_9_method_42_code 47 = .ok (.iconst (-1), 1) := by decide +kernel
theorem d_mdl_says_48 : decode prog_9_method_42_code 48 = .ok (.ireturn, 1) := by decide +kernel
theorem d_mdl_says_49 : decode prog_9_method_42_code 49 = .ok (.iconst (-1), 1) := by decide +kernel
theorem d_mdl_says_50 : decode prog_9_method_42_code 50 = .ok (.istore 4, 2) := by decide +kernel
theorem d_mdl_says_52 : decode prog_9_method_42_code 52 = .ok (.aload_n 0, 1) := by decide +kernel
theorem d_mdl_says_53 : decode prog_9_method_42_code 53 = .ok (.iconst 2, 1) := by decide +kernel
theorem d_mdl_says_54 : decode prog_9_method_42_code 54 = .ok (.invokevirtual 218, 3) := by decide +kernel
theorem d_mdl_says_57 : decode prog_9_method_42_code 57 = .ok (.istore 5, 2) := by decide +kernel
theorem d_mdl_says_59 : decode prog_9_method_42_code 59 = .ok (.aload_n 0, 1) := by decide +kernel
theorem d_mdl_says_60 : decode prog_9_method_42_code 60 = .ok (.iconst 3, 1) := by decide +kernel
theorem d_mdl_says_61 : decode prog_9_method_42_code 61 = .ok (.invokevirtual 218, 3) := by decide +kernel
theorem d_mdl_says_64 : decode prog_9_method_42_code 64 = .ok (.istore 6, 2) := by decide +kernel
theorem d_mdl_says_66 : decode prog_9_method_42_code 66 = .ok (.aload_n 0, 1) := by decide +kernel
theorem d_mdl_says_67 : decode prog_9_method_42_code 67 = .ok (.iconst 4, 1) := by decide +kernel
theorem d_mdl_says_68 : decode prog_9_method_42_code 68 = .ok (.invokevirtual 218, 3) := by decide +kernel
theorem d_mdl_says_71 : decode prog_9_method_42_code 71 = .ok (.istore 7, 2) := by decide +kernel
theorem d_mdl_says_73 : decode prog_9_method_42_code 73 = .ok (.iload 5, 2) := by decide +kernel
theorem d_mdl_says_75 : decode prog_9_method_42_code 75 = .ok (.ifCond .ne 110, 3) := by decide +kernel
theorem d_mdl_says_78 : decode prog_9_method_42_code 78 = .ok (.iload_n 3, 1) := by decide +kernel
theorem d_mdl_says_79 : decode prog_9_method_42_code 79 = .ok (.bipush 24, 2) := by decide +kernel
theorem d_mdl_says_81 : decode prog_9_method_42_code 81 = .ok (.if_icmp .lt 104, 3) := by decide +kernel
theorem d_mdl_says_84 : decode prog_9_method_42_code 84 = .ok (.iload 6, 2) := by decide +kernel
theorem d_mdl_says_86 : decode prog_9_method_42_code 86 = .ok (.ifCond .ne 99, 3) := by decide +kernel
theorem d_mdl_says_89 : decode prog_9_method_42_code 89 = .ok (.iload 7, 2) := by decide +kernel
theorem d_mdl_says_91 : decode prog_9_method_42_code 91 = .ok (.ifCond .ne 94, 3) := by decide +kernel
theorem d_mdl_says_94 : decode prog_9_method_42_code 94 = .ok (.aload_n 0, 1) := by decide +kernel
theorem d_mdl_says_95 : decode prog_9_method_42_code 95 = .ok (.iconst 5, 1) := by decide +kernel
theorem d_mdl_says_96 : decode prog_9_method_42_code 96 = .ok (.invokevirtual 218, 3) := by decide +kernel
theorem d_mdl_says_99 : decode prog_9_method_42_code 99 = .ok (.istore 8, 2) := by decide +kernel
theorem d_mdl_says_101 : decode prog_9_method_42_code 101 = .ok (.iload 8, 2) := by decide +kernel
theorem d_mdl_says_103 : decode prog_9_method_42_code 103 = .ok (.ifCond .eq 59, 3) := by decide +kernel
theorem d_mdl_says_106 : decode prog_9_method_42_code 106 = .ok (.iload 8, 2) := by decide +kernel
theorem d_mdl_says_108 : decode prog_9_method_42_code 108 = .ok (.iconst 1, 1) := by decide +kernel
theorem d_mdl_says_109 : decode prog_9_method_42_code 109 = .ok (.if_icmp .eq 15, 3) := by decide +kernel
theorem d_mdl_says_112 : decode prog_9_method_42_code 112 = .ok (.iload 8, 2) := by decide +kernel
theorem d_mdl_says_114 : decode prog_9_method_42_code 114 = .ok (.iconst 3, 1) := by decide +kernel
theorem d_mdl_says_115 : decode prog_9_method_42_code 115 = .ok (.if_icmp .eq 9, 3) := by decide +kernel
theorem d_mdl_says_118 : decode prog_9_method_42_code 118 = .ok (.iload 8, 2) := by decide +kernel
theorem d_mdl_says_120 : decode prog_9_method_42_code 120 = .ok (.iconst 4, 1) := by decide +kernel
theorem d_mdl_says_121 : decode prog_9_method_42_code 121 = .ok (.if_icmp .ne 9, 3) := by decide +kernel
theorem d_mdl_says_124 : decode prog_9_method_42_code 124 = .ok (.iload_n 3, 1) := by decide +kernel
theorem d_mdl_says_125 : decode prog_9_method_42_code 125 = .ok (.bipush 24, 2) := by decide +kernel
theorem d_mdl_says_127 : decode prog_9_method_42_code 127 = .ok (.if_icmp .eq 35, 3) := by decide +kernel
theorem d_mdl_says_130 : decode prog_9_method_42_code 130 = .ok (.iload 8, 2) := by decide +kernel
theorem d_mdl_says_132 : decode prog_9_method_42_code 132 = .ok (.iconst 2, 1) := by decide +kernel
theorem d_mdl_says_133 : decode prog_9_method_42_code 133 = .ok (.if_icmp .ne 33, 3) := by decide +kernel
theorem d_mdl_says_136 : decode prog_9_method_42_code 136 = .ok (.iload_n 3, 1) := by decide +kernel
theorem d_mdl_says_137 : decode prog_9_method_42_code 137 = .ok (.bipush 32, 2) := by decide +kernel
theorem d_mdl_says_139 : decode prog_9_method_42_code 139 = .ok (.if_icmp .ne 27, 3) := by decide +kernel
theorem d_mdl_says_142 : decode prog_9_method_42_code 142 = .ok (.aload_n 0, 1) := by decide +kernel
theorem d_mdl_says_143 : decode prog_9_method_42_code 143 = .ok (.bipush 6, 2) := by decide +kernel
theorem d_mdl_says_145 : decode prog_9_method_42_code 145 = .ok (.invokevirtual 218, 3) := by decide +kernel
theorem d_mdl_says_148 : decode prog_9_method_42_code 148 = .ok (.iconst 1, 1) := by decide +kernel
theorem d_mdl_says_149 : decode prog_9_method_42_code 149 = .ok (.if_icmp .ne 17, 3) := by decide +kernel
theorem d_mdl_says_152 : decode prog_9_method_42_code 152 = .ok (.aload_n 0, 1) := by decide +kernel
theorem d_mdl_says_153 : decode prog_9_method_42_code 153 = .ok (.bipush 7, 2) := by decide +kernel
theorem d_mdl_says_155 : decode prog_9_method_42_code 155 = .ok (.invokevirtual 218, 3) := by decide +kernel
theorem d_mdl_says_158 : decode prog_9_method_42_code 158 = .ok (.iconst 2, 1) := by decide +kernel
theorem d_mdl_says_159 : decode prog_9_method_42_code 159 = .ok (.if_icmp .ne 7, 3) := by decide +kernel
theorem d_mdl_says_162 : decode prog_9_method_42_code 162 = .ok (.iconst 1, 1) := by decide +kernel
theorem d_mdl_says_163 : decode prog_9_method_42_code 163 = .ok (.goto 4, 3) := by decide +kernel
theorem d_mdl_says_166 : decode prog_9_method_42_code 166 = .ok (.iconst 0, 1) := by decide +kernel
theorem d_mdl_says_167 : decode prog_9_method_42_code 167 = .ok (.istore 9, 2) := by decide +kernel
theorem d_mdl_says_169 : decode prog_9_method_42_code 169 = .ok (.iload 9, 2) := by decide +kernel
theorem d_mdl_says_171 : decode prog_9_method_42_code 171 = .ok (.ifCond .eq 8, 3) := by decide +kernel
theorem d_mdl_says_174 : decode prog_9_method_42_code 174 = .ok (.iload 8, 2) := by decide +kernel
theorem d_mdl_says_176 : decode prog_9_method_42_code 176 = .ok (.goto 4, 3) := by decide +kernel
theorem d_mdl_says_179 : decode prog_9_method_42_code 179 = .ok (.iconst (-1), 1) := by decide +kernel
theorem d_mdl_says_180 : decode prog_9_method_42_code 180 = .ok (.istore 4, 2) := by decide +kernel
theorem d_mdl_says_182 : decode prog_9_method_42_code 182 = .ok (.goto 86, 3) := by decide +kernel
theorem d_mdl_says_185 : decode prog_9_method_42_code 185 = .ok (.iload 5, 2) := by decide +kernel
theorem d_mdl_says_187 : decode prog_9_method_42_code 187 = .ok (.iconst 1, 1) := by decide +kernel
theorem d_mdl_says_188 : decode prog_9_method_42_code 188 = .ok (.if_icmp .ne 39, 3) := by decide +kernel
theorem d_mdl_says_191 : decode prog_9_method_42_code 191 = .ok (.iload 6, 2) := by decide +kernel
theorem d_mdl_says_193 : decode prog_9_method_42_code 193 = .ok (.ifCond .ne 34, 3) := by decide +kernel
theorem d_mdl_says_196 : decode prog_9_method_42_code 196 = .ok (.iload_n 3, 1) := by decide +kernel
theorem d_mdl_says_197 : decode prog_9_method_42_code 197 = .ok (.bipush 24, 2) := by decide +kernel
theorem d_mdl_says_199 : decode prog_9_method_42_code 199 = .ok (.if_icmp .ne 22, 3) := by decide +kernel
theorem d_mdl_says_202 : decode prog_9_method_42_code 202 = .ok (.iload 7, 2) := by decide +kernel
theorem d_mdl_says_204 : decode prog_9_method_42_code 204 = .ok (.iconst 2, 1) := by decide +kernel
theorem d_mdl_says_205 : decode prog_9_method_42_code 205 = .ok (.if_icmp .ne 16, 3) := by decide +kernel
theorem d_mdl_says_208 : decode prog_9_method_42_code 208 = .ok (.aload_n 0, 1) := by decide +kernel
theorem d_mdl_says_209 : decode prog_9_method_42_code 209 = .ok (.iconst 5, 1) := by decide +kernel
theorem d_mdl_says_210 : decode prog_9_method_42_code 210 = .ok (.invokevirtual 218, 3) := by decide +kernel
theorem d_mdl_says_213 : decode prog_9_method_42_code 213 = .ok (.iconst 2, 1) := by decide +kernel
theorem d_mdl_says_214 : decode prog_9_method_42_code 214 = .ok (.if_icmp .ne 7, 3) := by decide +kernel
theorem d_mdl_says_217 : decode prog_9_method_42_code 217 = .ok (.iconst 5, 1) := by decide +kernel
theorem d_mdl_says_218 : decode prog_9_method_42_code 218 = .ok (.goto 4, 3) := by decide +kernel
theorem d_mdl_says_221 : decode prog_9_method_42_code 221 = .ok (.iconst (-1), 1) := by decide +kernel
theorem d_mdl_says_222 : decode prog_9_method_42_code 222 = .ok (.istore 4, 2) := by decide +kernel
theorem d_mdl_says_224 : decode prog_9_method_42_code 224 = .ok (.goto 44, 3) := by decide +kernel
theorem d_mdl_says_227 : decode prog_9_method_42_code 227 = .ok (.iload 5, 2) := by decide +kernel
theorem d_mdl_says_229 : decode prog_9_method_42_code 229 = .ok (.iconst 1, 1) := by decide +kernel
theorem d_mdl_says_230 : decode prog_9_method_42_code 230 = .ok (.if_icmp .ne 38, 3) := by decide +kernel
theorem d_mdl_says_233 : decode prog_9_method_42_code 233 = .ok (.iload 6, 2) := by decide +kernel
theorem d_mdl_says_235 : decode prog_9_method_42_code 235 = .ok (.iconst 1, 1) := by decide +kernel
theorem d_mdl_says_236 : decode prog_9_method_42_code 236 = .ok (.if_icmp .ne 32, 3) := by decide +kernel
theorem d_mdl_says_239 : decode prog_9_method_42_code 239 = .ok (.iload_n 3, 1) := by decide +kernel
theorem d_mdl_says_240 : decode prog_9_method_42_code 240 = .ok (.bipush 20, 2) := by decide +kernel
theorem d_mdl_says_242 : decode prog_9_method_42_code 242 = .ok (.if_icmp .ne 23, 3) := by decide +kernel
theorem d_mdl_says_245 : decode prog_9_method_42_code 245 = .ok (.iload 7, 2) := by decide +kernel
theorem d_mdl_says_247 : decode prog_9_method_42_code 247 = .ok (.iconst 1, 1) := by decide +kernel
theorem d_mdl_says_248 : decode prog_9_method_42_code 248 = .ok (.if_icmp .eq 9, 3) := by decide +kernel
theorem d_mdl_says_251 : decode prog_9_method_42_code 251 = .ok (.iload 7, 2) := by decide +kernel
theorem d_mdl_says_253 : decode prog_9_method_42_code 253 = .ok (.iconst 3, 1) := by decide +kernel
theorem d_mdl_says_254 : decode prog_9_method_42_code 254 = .ok (.if_icmp .ne 11, 3) := by decide +kernel
theorem d_mdl_says_257 : decode prog_9_method_42_code 257 = .ok (.bipush 10, 2) := by decide +kernel
theorem d_mdl_says_259 : decode prog_9_method_42_code 259 = .ok (.iload 7, 2) := by decide +kernel
theorem d_mdl_says_261 : decode prog_9_method_42_code 261 = .ok (.iadd, 1) := by decide +kernel
theorem d_mdl_says_262 : decode prog_9_method_42_code 262 = .ok (.goto 4, 3) := by decide +kernel
theorem d_mdl_says_265 : decode prog_9_method_42_code 265 = .ok (.iconst (-1), 1) := by decide +kernel
theorem d_mdl_says_266 : decode prog_9_method_42_code 266 = .ok (.istore 4, 2) := by decide +kernel
theorem d_mdl_says_268 : decode prog_9_method_42_code 268 = .ok (.iload 4, 2) := by decide +kernel
theorem d_mdl_says_270 : decode prog_9_method_42_code 270 = .ok (.ifCond .lt 17, 3) := by decide +kernel
theorem d_mdl_says_273 : decode prog_9_method_42_code 273 = .ok (.aload_n 0, 1) := by decide +kernel
theorem d_mdl_says_274 : decode prog_9_method_42_code 274 = .ok (.iconst 0, 1) := by decide +kernel
theorem d_mdl_says_275 : decode prog_9_method_42_code 275 = .ok (.invokevirtual 218, 3) := by decide +kernel
theorem d_mdl_says_278 : decode prog_9_method_42_code 278 = .ok (.iload_n 2, 1) := by decide +kernel
theorem d_mdl_says_279 : decode prog_9_method_42_code 279 = .ok (.if_icmp .eq 8, 3) := by decide +kernel
theorem d_mdl_says_282 : decode prog_9_method_42_code 282 = .ok (.bipush (-2), 2) := by decide +kernel
theorem d_mdl_says_284 : decode prog_9_method_42_code 284 = .ok (.goto 5, 3) := by decide +kernel
theorem d_mdl_says_287 : decode prog_9_method_42_code 287 = .ok (.iload 4, 2) := by decide +kernel
theorem d_mdl_says_289 : decode prog_9_method_42_code 289 = .ok (.ireturn, 1) := by decide +kernel
theorem d_mdl_tapePlace_0 : decode prog_9_method_43_code 0 = .ok (.iconst 0, 1) := by decide +kernel
theorem d_mdl_tapePlace_1 : decode prog_9_method_43_code 1 = .ok (.istore_n 1, 1) := by decide +kernel
theorem d_mdl_tapePlace_2 : decode prog_9_method_43_code 2 = .ok (.iload_n 1, 1) := by decide +kernel
theorem d_mdl_tapePlace_3 : decode prog_9_method_43_code 3 = .ok (.aload_n 0, 1) := by decide +kernel
theorem d_mdl_tapePlace_4 : decode prog_9_method_43_code 4 = .ok (.getfield 188, 3) := by decide +kernel
theorem d_mdl_tapePlace_7 : decode prog_9_method_43_code 7 = .ok (.if_icmp .ge 84, 3) := by decide +kernel
theorem d_mdl_tapePlace_10 : decode prog_9_method_43_code 10 = .ok (.aload_n 0, 1) := by decide +kernel
theorem d_mdl_tapePlace_11 : decode prog_9_method_43_code 11 = .ok (.getfield 27, 3) := by decide +kernel
theorem d_mdl_tapePlace_14 : decode prog_9_method_43_code 14 = .ok (.iload_n 1, 1) := by decide +kernel
theorem d_mdl_tapePlace_15 : decode prog_9_method_43_code 15 = .ok (.iaload, 1) := by decide +kernel
theorem d_mdl_tapePlace_16 : decode prog_9_method_43_code 16 = .ok (.aload_n 0, 1) := by decide +kernel
theorem d_mdl_tapePlace_17 : decode prog_9_method_43_code 17 = .ok (.getfield 93, 3) := by decide +kernel
theorem d_mdl_tapePlace_20 : decode prog_9_method_43_code 20 = .ok (.if_icmp .ne 7, 3) := by decide +kernel
theorem d_mdl_tapePlace_23 : decode prog_9_method_43_code 23 = .ok (.iconst 1, 1) := by decide +kernel
theorem d_mdl_tapePlace_24 : decode prog_9_method_43_code 24 = .ok (.goto 4, 3) := by decide +kernel
theorem d_mdl_tapePlace_27 : decode prog_9_method_43_code 27 = .ok (.iconst 0, 1) := by decide +kernel
theorem d_mdl_tapePlace_28 : decode prog_9_method_43_code 28 = .ok (.istore_n 2, 1) := by decide +kernel
theorem d_mdl_tapePlace_29 : decode prog_9_method_43_code 29 = .ok (.iconst 0, 1) := by decide +kernel
theorem d_mdl_tapePlace_30 : decode prog_9_method_43_code 30 = .ok (.istore_n 3, 1) := by decide +kernel
theorem d_mdl_tapePlace_31 : decode prog_9_method_43_code 31 = .ok (.iload_n 2, 1) := by decide +kernel
theorem d_mdl_tapePlace_32 : decode prog_9_method_43_code 32 = .ok (.ifCond .eq 47, 3) := by decide +kernel
theorem d_mdl_tapePlace_35 : decode prog_9_method_43_code 35 = .ok (.iload_n 3, 1) := by decide +kernel
theorem d_mdl_tapePlace_36 : decode prog_9_method_43_code 36 = .ok (.aload_n 0, 1) := by decide +kernel
theorem d_mdl_tapePlace_37 : decode prog_9_method_43_code 37 = .ok (.getfield 93, 3) := by decide +kernel
theorem d_mdl_tapePlace_40 : decode prog_9_method_43_code 40 = .ok (.if_icmp .ge 39, 3) := by decide +kernel
theorem d_mdl_tapePlace_43 : decode prog_9_method_43_code 43 = .ok (.aload_n 0, 1) := by decide +kernel
theorem d_mdl_tapePlace_44 : decode prog_9_method_43_code 44 = .ok (.getfield 24, 3) := by decide +kernel
theorem d_mdl_tapePlace_47 : decode prog_9_method_43_code 47 = .ok (.bipush 16, 2) := by decide +kernel
theorem d_mdl_tapePlace_49 : decode prog_9_method_43_code 49 = .ok (.iload_n 1, 1) := by decide +kernel
theorem d_mdl_tapePlace_50 : decode prog_9_method_43_code 50 = .ok (.imul, 1) := by decide +kernel
theorem d_mdl_tapePlace_51 : decode prog_9_method_43_code 51 = .ok (.iload_n 3, 1) := by decide +kernel
theorem d_mdl_tapePlace_52 : decode prog_9_method_43_code 52 = .ok (.iadd, 1) := by decide +kernel
theorem d_mdl_tapePlace_53 : decode prog_9_method_43_code 53 = .ok (.baload, 1) := by decide +kernel
theorem d_mdl_tapePlace_54 : decode prog_9_method_43_code 54 = .ok (.sipush 255, 3) := by decide +kernel
theorem d_mdl_tapePlace_57 : decode prog_9_method_43_code 57 = .ok (.iand, 1) := by decide +kernel
theorem d_mdl_tapePlace_58 : decode prog_9_method_43_code 58 = .ok (.aload_n 0, 1) := by decide +kernel
theorem d_mdl_tapePlace_59 : decode prog_9_method_43_code 59 = .ok (.getfield 7, 3) := by decide +kernel
theorem d_mdl_tapePlace_62 : decode prog_9_method_43_code 62 = .ok (.iload_n 3, 1) := by decide +kernel
theorem d_mdl_tapePlace_63 : decode prog_9_method_43_code 63 = .ok (.iaload, 1) := by decide +kernel
theorem d_mdl_tapePlace_64 : decode prog_9_method_43_code 64 = .ok (.if_icmp .ne 7, 3) := by decide +kernel
theorem d_mdl_tapePlace_67 : decode prog_9_method_43_code 67 = .ok (.iconst 1, 1) := by decide +kernel
theorem d_mdl_tapePlace_68 : decode prog_9_method_43_code 68 = .ok (.goto 4, 3) := by decide +kernel
theorem d_mdl_tapePlace_71 : decode prog_9_method_43_code 71 = .ok (.iconst 0, 1) := by decide +kernel
theorem d_mdl_tapePlace_72 : decode prog_9_method_43_code 72 = .ok (.istore_n 2, 1) := by decide +kernel
theorem d_mdl_tapePlace_73 : decode prog_9_method_43_code 73 = .ok (.iinc 3 1, 3) := by decide +kernel
theorem d_mdl_tapePlace_76 : decode prog_9_method_43_code 76 = .ok (.goto (-45), 3) := by decide +kernel
theorem d_mdl_tapePlace_79 : decode prog_9_method_43_code 79 = .ok (.iload_n 2, 1) := by decide +kernel
theorem d_mdl_tapePlace_80 : decode prog_9_method_43_code 80 = .ok (.ifCond .eq 5, 3) := by decide +kernel
theorem d_mdl_tapePlace_83 : decode prog_9_method_43_code 83 = .ok (.iload_n 1, 1) := by decide +kernel
theorem d_mdl_tapePlace_84 : decode prog_9_method_43_code 84 = .ok (.ireturn, 1) := by decide +kernel
theorem d_mdl_tapePlace_85 : decode prog_9_method_43_code 85 = .ok (.iinc 1 1, 3) := by decide +kernel
theorem d_mdl_tapePlace_88 : decode prog_9_method_43_code 88 = .ok (.goto (-86), 3) := by decide +kernel
theorem d_mdl_tapePlace_91 : decode prog_9_method_43_code 91 = .ok (.iconst (-1), 1) := by decide +kernel
theorem d_mdl_tapePlace_92 : decode prog_9_method_43_code 92 = .ok (.ireturn, 1) := by decide +kernel
theorem d_mdl_value_0 : decode prog_9_method_44_code 0 = .ok (.aload_n 0, 1) := by decide +kernel
theorem d_mdl_value_1 : decode prog_9_method_44_code 1 = .ok (.iconst 0, 1) := by decide +kernel
theorem d_mdl_value_2 : decode prog_9_method_44_code 2 = .ok (.putfield 74, 3) := by decide +kernel
theorem d_mdl_value_5 : decode prog_9_method_44_code 5 = .ok (.aload_n 0, 1) := by decide +kernel
theorem d_mdl_value_6 : decode prog_9_method_44_code 6 = .ok (.invokevirtual 221, 3) := by decide +kernel
theorem d_mdl_value_9 : decode prog_9_method_44_code 9 = .ok (.ifCond .lt 15, 3) := by decide +kernel
theorem d_mdl_value_12 : decode prog_9_method_44_code 12 = .ok (.aload_n 0, 1) := by decide +kernel
theorem d_mdl_value_13 : decode prog_9_method_44_code 13 = .ok (.getfield 30, 3) := by decide +kernel
theorem d_mdl_value_16 : decode prog_9_method_44_code 16 = .ok (.aload_n 0, 1) := by decide +kernel
theorem d_mdl_value_17 : decode prog_9_method_44_code 17 = .ok (.invokevirtual 221, 3) := by decide +kernel
theorem d_mdl_value_20 : decode prog_9_method_44_code 20 = .ok (.laload, 1) := by decide +kernel
theorem d_mdl_value_21 : decode prog_9_method_44_code 21 = .ok (.goto 4, 3) := by decide +kernel
theorem d_mdl_value_24 : decode prog_9_method_44_code 24 = .ok (.lconst 0, 1) := by decide +kernel
theorem d_mdl_value_25 : decode prog_9_method_44_code 25 = .ok (.lreturn, 1) := by decide +kernel
theorem d_mdl_has_0 : decode prog_9_method_45_code 0 = .ok (.aload_n 0, 1) := by decide +kernel
theorem d_mdl_has_1 : decode prog_9_method_45_code 1 = .ok (.iconst 0, 1) := by decide +kernel
theorem d_mdl_has_2 : decode prog_9_method_45_code 2 = .ok (.putfield 74, 3) := by decide +kernel
theorem d_mdl_has_5 : decode prog_9_method_45_code 5 = .ok (.aload_n 0, 1) := by decide +kernel
theorem d_mdl_has_6 : decode prog_9_method_45_code 6 = .ok (.invokevirtual 221, 3) := by decide +kernel
theorem d_mdl_has_9 : decode prog_9_method_45_code 9 = .ok (.ifCond .lt 7, 3) := by decide +kernel
theorem d_mdl_has_12 : decode prog_9_method_45_code 12 = .ok (.iconst 1, 1) := by decide +kernel
theorem d_mdl_has_13 : decode prog_9_method_45_code 13 = .ok (.goto 4, 3) := by decide +kernel
theorem d_mdl_has_16 : decode prog_9_method_45_code 16 = .ok (.iconst 0, 1) := by decide +kernel
theorem d_mdl_has_17 : decode prog_9_method_45_code 17 = .ok (.ireturn, 1) := by decide +kernel
theorem d_mdl_count_0 : decode prog_9_method_46_code 0 = .ok (.aload_n 0, 1) := by decide +kernel
theorem d_mdl_count_1 : decode prog_9_method_46_code 1 = .ok (.iload_n 1, 1) := by decide +kernel
theorem d_mdl_count_2 : decode prog_9_method_46_code 2 = .ok (.ifCond .lt 13, 3) := by decide +kernel
theorem d_mdl_count_5 : decode prog_9_method_46_code 5 = .ok (.iload_n 1, 1) := by decide +kernel
theorem d_mdl_count_6 : decode prog_9_method_46_code 6 = .ok (.bipush 8, 2) := by decide +kernel
theorem d_mdl_count_8 : decode prog_9_method_46_code 8 = .ok (.if_icmp .gt 7, 3) := by decide +kernel
theorem d_mdl_count_11 : decode prog_9_method_46_code 11 = .ok (.iconst 0, 1) := by decide +kernel
theorem d_mdl_count_12 : decode prog_9_method_46_code 12 = .ok (.goto 4, 3) := by decide +kernel
theorem d_mdl_count_15 : decode prog_9_method_46_code 15 = .ok (.iconst 1, 1) := by decide +kernel
theorem d_mdl_count_16 : decode prog_9_method_46_code 16 = .ok (.putfield 74, 3) := by decide +kernel
theorem d_mdl_count_19 : decode prog_9_method_46_code 19 = .ok (.aload_n 0, 1) := by decide +kernel
theorem d_mdl_count_20 : decode prog_9_method_46_code 20 = .ok (.getfield 74, 3) := by decide +kernel
theorem d_mdl_count_23 : decode prog_9_method_46_code 23 = .ok (.ifCond .le 5, 3) := by decide +kernel
theorem d_mdl_count_26 : decode prog_9_method_46_code 26 = .ok (.iconst 0, 1) := by decide +kernel
theorem d_mdl_count_27 : decode prog_9_method_46_code 27 = .ok (.ireturn, 1) := by decide +kernel
theorem d_mdl_count_28 : decode prog_9_method_46_code 28 = .ok (.iload_n 1, 1) := by decide +kernel
theorem d_mdl_count_29 : decode prog_9_method_46_code 29 = .ok (.iconst 4, 1) := by decide +kernel
theorem d_mdl_count_30 : decode prog_9_method_46_code 30 = .ok (.if_icmp .le 27, 3) := by decide +kernel
theorem d_mdl_count_33 : decode prog_9_method_46_code 33 = .ok (.aload_n 0, 1) := by decide +kernel
theorem d_mdl_count_34 : decode prog_9_method_46_code 34 = .ok (.getfield 56, 3) := by decide +kernel
theorem d_mdl_count_37 : decode prog_9_method_46_code 37 = .ok (.iload_n 1, 1) := by decide +kernel
theorem d_mdl_count_38 : decode prog_9_method_46_code 38 = .ok (.iconst 5, 1) := by decide +kernel
theorem d_mdl_count_39 : decode prog_9_method_46_code 39 = .ok (.isub, 1) := by decide +kernel
theorem d_mdl_count_40 : decode prog_9_method_46_code 40 = .ok (.baload, 1) := by decide +kernel
theorem d_mdl_count_41 : decode prog_9_method_46_code 41 = .ok (.ifCond .eq 7, 3) := by decide +kernel
theorem d_mdl_count_44 : decode prog_9_method_46_code 44 = .ok (.iconst (-1), 1) := by decide +kernel
theorem d_mdl_count_45 : decode prog_9_method_46_code 45 = .ok (.goto 11, 3) := by decide +kernel
theorem d_mdl_count_48 : decode prog_9_method_46_code 48 = .ok (.aload_n 0, 1) := by decide +kernel
theorem d_mdl_count_49 : decode prog_9_method_46_code 49 = .ok (.getfield 37, 3) := by decide +kernel
theorem d_mdl_count_52 : decode prog_9_method_46_code 52 = .ok (.iload_n 1, 1) := by decide +kernel
theorem d_mdl_count_53 : decode prog_9_method_46_code 53 = .ok (.iconst 5, 1) := by decide +kernel
theorem d_mdl_count_54 : decode prog_9_method_46_code 54 = .ok (.isub, 1) := by decide +kernel
theorem d_mdl_count_55 : decode prog_9_method_46_code 55 = .ok (.iaload, 1) := by decide +kernel
theorem d_mdl_count_56 : decode prog_9_method_46_code 56 = .ok (.ireturn, 1) := by decide +kernel
theorem d_mdl_count_57 : decode prog_9_method_46_code 57 = .ok (.iload_n 1, 1) := by decide +kernel
theorem d_mdl_count_58 : decode prog_9_method_46_code 58 = .ok (.ifCond .ne 10, 3) := by decide +kernel
theorem d_mdl_count_61 : decode prog_9_method_46_code 61 = .ok (.aload_n 0, 1) := by decide +kernel
theorem d_mdl_count_62 : decode prog_9_method_46_code 62 = .ok (.getfield 78, 3) := by decide +kernel
theorem d_mdl_count_65 : decode prog_9_method_46_code 65 = .ok (.goto 43, 3) := by decide +kernel
theorem d_mdl_count_68 : decode prog_9_method_46_code 68 = .ok (.iload_n 1, 1) := by decide +kernel
theorem d_mdl_count_69 : decode prog_9_method_46_code 69 = .ok (.iconst 1, 1) := by decide +kernel
theorem d_mdl_count_70 : decode prog_9_method_46_code 70 = .ok (.if_icmp .ne 10, 3) := by decide +kernel
theorem d_mdl_count_73 : decode prog_9_method_46_code 73 = .ok (.aload_n 0, 1) := by decide +kernel
theorem d_mdl_count_74 : decode prog_9_method_46_code 74 = .ok (.getfield 188, 3) := by decide +kernel
theorem d_mdl_count_77 : decode prog_9_method_46_code 77 = .ok (.goto 31, 3) := by decide +kernel
theorem d_mdl_count_80 : decode prog_9_method_46_code 80 = .ok (.iload_n 1, 1) := by decide +kernel
theorem d_mdl_count_81 : decode prog_9_method_46_code 81 = .ok (.iconst 2, 1) := by decide +kernel
theorem d_mdl_count_82 : decode prog_9_method_46_code 82 = .ok (.if_icmp .ne 10, 3) := by decide +kernel
theorem d_mdl_count_85 : decode prog_9_method_46_code 85 = .ok (.aload_n 0, 1) := by decide +kernel
theorem d_mdl_count_86 : decode prog_9_method_46_code 86 = .ok (.getfield 175, 3) := by decide +kernel
theorem d_mdl_count_89 : decode prog_9_method_46_code 89 = .ok (.goto 19, 3) := by decide +kernel
theorem d_mdl_count_92 : decode prog_9_method_46_code 92 = .ok (.iload_n 1, 1) := by decide +kernel
theorem d_mdl_count_93 : decode prog_9_method_46_code 93 = .ok (.iconst 3, 1) := by decide +kernel
theorem d_mdl_count_94 : decode prog_9_method_46_code 94 = .ok (.if_icmp .ne 10, 3) := by decide +kernel
theorem d_mdl_count_97 : decode prog_9_method_46_code 97 = .ok (.aload_n 0, 1) := by decide +kernel
theorem d_mdl_count_98 : decode prog_9_method_46_code 98 = .ok (.getfield 150, 3) := by decide +kernel
theorem d_mdl_count_101 : decode prog_9_method_46_code 101 = .ok (.goto 7, 3) := by decide +kernel
theorem d_mdl_count_104 : decode prog_9_method_46_code 104 = .ok (.aload_n 0, 1) := by decide +kernel
theorem d_mdl_count_105 : decode prog_9_method_46_code 105 = .ok (.getfield 147, 3) := by decide +kernel
theorem d_mdl_count_108 : decode prog_9_method_46_code 108 = .ok (.ireturn, 1) := by decide +kernel
def b_mdl_byteAt_60 (w : rc_M) (s0 : Int32) : Option (Int32 × rc_M) :=
  some (s0, w)

def b_mdl_byteAt_31 (w : rc_M) (a0 : Nat) (x1 : Int32) (x2 : Int32) (s0 : Option Nat) (s1 : Int32) : Option (Int32 × rc_M) :=
  (rc_pI w s0 7 0 s1).bind fun w1 =>
  (rc_gI w1 (some a0) 7 0).bind fun v3 =>
  if v3 ≤ 0 then
    (rc_gR w1 (some a0) 7 3).bind fun v6 =>
    (f_mdl_base w1 x1).bind fun p8 =>
    (rc_aI p8.2 v6 2 (p8.1 + x2)).bind fun v10 =>
    b_mdl_byteAt_60 p8.2 (v10 &&& 255)
  else
    b_mdl_byteAt_60 w1 0

def b_mdl_byteAt_30 (w : rc_M) (a0 : Nat) (x1 : Int32) (x2 : Int32) (s0 : Option Nat) : Option (Int32 × rc_M) :=
  b_mdl_byteAt_31 w a0 x1 x2 s0 1

def f_mdl_byteAt (w : rc_M) (a0 : Nat) (x1 : Int32) (x2 : Int32) : Option (Int32 × rc_M) :=
  (rc_rc w (some a0) 7).bind fun a1 =>
  (f_mdl_isSlot w a1 x1).bind fun p3 =>
  if p3.1 = 0 then
    b_mdl_byteAt_30 p3.2 a0 x1 x2 (some a0)
  else
    if x2 < 0 then
      b_mdl_byteAt_30 p3.2 a0 x1 x2 (some a0)
    else
      (rc_gR p3.2 (some a0) 7 4).bind fun v7 =>
      (rc_aI p3.2 v7 0 (x1 - x1 / 64 * 64)).bind fun v10 =>
      if v10 ≤ x2 then
        b_mdl_byteAt_30 p3.2 a0 x1 x2 (some a0)
      else
        b_mdl_byteAt_31 p3.2 a0 x1 x2 (some a0) 0

def b_mdl_wordIn_5 : Nat → rc_M → Nat → Int32 → Int32 → Int32 → Int32 → Option (Int32 × rc_M)
  | 0, _, _, _, _, _, _ => none
  | fuel + 1, w, a0, x1, x2, x3, x4 =>
    if 4 ≤ x4 then
      some (x3, w)
    else
      (rc_gR w (some a0) 7 3).bind fun v2 =>
      (f_mdl_base w x1).bind fun p4 =>
      (rc_aI p4.2 v2 2 ((p4.1 + x2) + x4)).bind fun v6 =>
      b_mdl_wordIn_5 fuel p4.2 a0 x1 x2 ((x3 <<< (8 &&& 31)) ||| (v6 &&& 255)) (x4 + 1)

def f_mdl_wordIn (w : rc_M) (a0 : Nat) (x1 : Int32) (x2 : Int32) : Option (Int32 × rc_M) :=
  b_mdl_wordIn_5 5000 w a0 x1 x2 0 0

def b_mdl_word_53 (w : rc_M) (s0 : Int32) : Option (Int32 × rc_M) :=
  some (s0, w)

def b_mdl_word_33 (w : rc_M) (a0 : Nat) (x1 : Int32) (x2 : Int32) (s0 : Option Nat) (s1 : Int32) : Option (Int32 × rc_M) :=
  (rc_pI w s0 7 0 s1).bind fun w1 =>
  (rc_gI w1 (some a0) 7 0).bind fun v3 =>
  if v3 ≤ 0 then
    (rc_rc w1 (some a0) 7).bind fun a6 =>
    (f_mdl_wordIn w1 a6 x1 x2).bind fun p8 =>
    b_mdl_word_53 p8.2 p8.1
  else
    b_mdl_word_53 w1 0

def b_mdl_word_32 (w : rc_M) (a0 : Nat) (x1 : Int32) (x2 : Int32) (s0 : Option Nat) : Option (Int32 × rc_M) :=
  b_mdl_word_33 w a0 x1 x2 s0 1

def f_mdl_word (w : rc_M) (a0 : Nat) (x1 : Int32) (x2 : Int32) : Option (Int32 × rc_M) :=
  (rc_rc w (some a0) 7).bind fun a1 =>
  (f_mdl_isSlot w a1 x1).bind fun p3 =>
  if p3.1 = 0 then
    b_mdl_word_32 p3.2 a0 x1 x2 (some a0)
  else
    if x2 < 0 then
      b_mdl_word_32 p3.2 a0 x1 x2 (some a0)
    else
      (rc_gR p3.2 (some a0) 7 4).bind fun v7 =>
      (rc_aI p3.2 v7 0 (x1 - x1 / 64 * 64)).bind fun v10 =>
      if (v10 - 4) < x2 then
        b_mdl_word_32 p3.2 a0 x1 x2 (some a0)
      else
        b_mdl_word_33 p3.2 a0 x1 x2 (some a0) 0

def b_mdl_wholeRecord_123 (k18 : rc_M → Nat → Int32 → Int32 → Int32 → Int32 → Int32 → Option (Int32 × rc_M)) (w : rc_M) (a0 : Nat) (x1 : Int32) (x2 : Int32) (x3 : Int32) (x4 : Int32) (s0 : Int32) : Option (Int32 × rc_M) :=
  k18 w a0 x1 x2 x3 x4 s0

def b_mdl_wholeRecord_64 (k18 : rc_M → Nat → Int32 → Int32 → Int32 → Int32 → Int32 → Option (Int32 × rc_M)) : Nat → rc_M → Nat → Int32 → Int32 → Int32 → Int32 → Int32 → Int32 → Int32 → Option (Int32 × rc_M)
  | 0, _, _, _, _, _, _, _, _, _ => none
  | fuel + 1, w, a0, x1, x2, x3, x4, x6, x7, x8 =>
    if x7 ≤ x8 then
      if 0 ≤ x6 then
        b_mdl_wholeRecord_123 k18 w a0 x1 x2 (x3 + x7) (x4 + x7) 0
      else
        b_mdl_wholeRecord_123 k18 w a0 x1 x2 (x3 + x7) (x4 + x7) 1
    else
      (rc_gR w (some a0) 7 6).bind fun v3 =>
      (rc_gR w (some a0) 7 3).bind fun v5 =>
      (f_mdl_base w x1).bind fun p7 =>
      (rc_aI p7.2 v5 2 ((p7.1 + x3) + x8)).bind fun v9 =>
      (rc_sI p7.2 v3 2 (x4 + x8) v9).bind fun w11 =>
      b_mdl_wholeRecord_64 k18 fuel w11 a0 x1 x2 x3 x4 x6 x7 (x8 + 1)

def b_mdl_wholeRecord_139 (w : rc_M) (s0 : Int32) : Option (Int32 × rc_M) :=
  some (s0, w)

def b_mdl_wholeRecord_18 : Nat → rc_M → Nat → Int32 → Int32 → Int32 → Int32 → Int32 → Option (Int32 × rc_M)
  | 0, _, _, _, _, _, _, _ => none
  | fuel + 1, w, a0, x1, x2, x3, x4, x5 =>
    if x5 = 0 then
      if (x3 + 4) ≤ x2 then
        (rc_rc w (some a0) 7).bind fun a4 =>
        (f_mdl_wordIn w a4 x1 x3).bind fun p6 =>
        if (p6.1 &&& 2147483647) ≤ (x2 - (x3 + 4)) then
          b_mdl_wholeRecord_64 (b_mdl_wholeRecord_18 fuel) 5000 p6.2 a0 x1 x2 (x3 + 4) x4 p6.1 (p6.1 &&& 2147483647) 0
        else
          some ((-1), p6.2)
      else
        some ((-1), w)
    else
      if x3 = x2 then
        b_mdl_wholeRecord_139 w x4
      else
        b_mdl_wholeRecord_139 w ((-1))

def f_mdl_wholeRecord (w : rc_M) (a0 : Nat) (x1 : Int32) : Option (Int32 × rc_M) :=
  (rc_gR w (some a0) 7 4).bind fun v1 =>
  (rc_aI w v1 0 (x1 - x1 / 64 * 64)).bind fun v4 =>
  b_mdl_wholeRecord_18 5000 w a0 x1 v4 0 0 0

def b_mdl_pushedWord_4 : Nat → rc_M → Nat → Int32 → Int32 → Int32 → Option (Int32 × rc_M)
  | 0, _, _, _, _, _ => none
  | fuel + 1, w, a0, x1, x2, x3 =>
    if 4 ≤ x3 then
      some (x2, w)
    else
      (rc_gR w (some a0) 7 6).bind fun v2 =>
      (rc_aI w v2 2 ((4 * x1) + x3)).bind fun v4 =>
      b_mdl_pushedWord_4 fuel w a0 x1 ((x2 <<< (8 &&& 31)) ||| (v4 &&& 255)) (x3 + 1)

def f_mdl_pushedWord (w : rc_M) (a0 : Nat) (x1 : Int32) : Option (Int32 × rc_M) :=
  b_mdl_pushedWord_4 5000 w a0 x1 0 0

def b_mdl_says_47 (w : rc_M) : Option (Int32 × rc_M) :=
  some ((-1), w)

def b_mdl_says_289 (w : rc_M) (s0 : Int32) : Option (Int32 × rc_M) :=
  some (s0, w)

def b_mdl_says_287 (w : rc_M) (x4 : Int32) : Option (Int32 × rc_M) :=
  b_mdl_says_289 w x4

def b_mdl_says_268 (w : rc_M) (a0 : Nat) (x2 : Int32) (x4 : Int32) : Option (Int32 × rc_M) :=
  if x4 < 0 then
    b_mdl_says_287 w x4
  else
    (rc_rc w (some a0) 7).bind fun a2 =>
    (f_mdl_pushedWord w a2 0).bind fun p4 =>
    if p4.1 = x2 then
      b_mdl_says_287 p4.2 x4
    else
      b_mdl_says_289 p4.2 ((-2))

def b_mdl_says_180 (w : rc_M) (a0 : Nat) (x2 : Int32) (s0 : Int32) : Option (Int32 × rc_M) :=
  b_mdl_says_268 w a0 x2 s0

def b_mdl_says_167 (w : rc_M) (a0 : Nat) (x2 : Int32) (x8 : Int32) (s0 : Int32) : Option (Int32 × rc_M) :=
  if s0 = 0 then
    b_mdl_says_180 w a0 x2 ((-1))
  else
    b_mdl_says_180 w a0 x2 x8

def b_mdl_says_162 (w : rc_M) (a0 : Nat) (x2 : Int32) (x8 : Int32) : Option (Int32 × rc_M) :=
  b_mdl_says_167 w a0 x2 x8 1

def b_mdl_says_166 (w : rc_M) (a0 : Nat) (x2 : Int32) (x8 : Int32) : Option (Int32 × rc_M) :=
  b_mdl_says_167 w a0 x2 x8 0

def b_mdl_says_130 (w : rc_M) (a0 : Nat) (x2 : Int32) (x3 : Int32) (x8 : Int32) : Option (Int32 × rc_M) :=
  if x8 = 2 then
    if x3 = 32 then
      (rc_rc w (some a0) 7).bind fun a3 =>
      (f_mdl_pushedWord w a3 6).bind fun p5 =>
      if p5.1 = 1 then
        (rc_rc p5.2 (some a0) 7).bind fun a8 =>
        (f_mdl_pushedWord p5.2 a8 7).bind fun p10 =>
        if p10.1 = 2 then
          b_mdl_says_162 p10.2 a0 x2 x8
        else
          b_mdl_says_166 p10.2 a0 x2 x8
      else
        b_mdl_says_166 p5.2 a0 x2 x8
    else
      b_mdl_says_166 w a0 x2 x8
  else
    b_mdl_says_166 w a0 x2 x8

def b_mdl_says_124 (w : rc_M) (a0 : Nat) (x2 : Int32) (x3 : Int32) (x8 : Int32) : Option (Int32 × rc_M) :=
  if x3 = 24 then
    b_mdl_says_162 w a0 x2 x8
  else
    b_mdl_says_130 w a0 x2 x3 x8

def b_mdl_says_222 (w : rc_M) (a0 : Nat) (x2 : Int32) (s0 : Int32) : Option (Int32 × rc_M) :=
  b_mdl_says_268 w a0 x2 s0

def b_mdl_says_221 (w : rc_M) (a0 : Nat) (x2 : Int32) : Option (Int32 × rc_M) :=
  b_mdl_says_222 w a0 x2 ((-1))

def b_mdl_says_266 (w : rc_M) (a0 : Nat) (x2 : Int32) (s0 : Int32) : Option (Int32 × rc_M) :=
  b_mdl_says_268 w a0 x2 s0

def b_mdl_says_257 (w : rc_M) (a0 : Nat) (x2 : Int32) (x7 : Int32) : Option (Int32 × rc_M) :=
  b_mdl_says_266 w a0 x2 (10 + x7)

def b_mdl_says_265 (w : rc_M) (a0 : Nat) (x2 : Int32) : Option (Int32 × rc_M) :=
  b_mdl_says_266 w a0 x2 ((-1))

def b_mdl_says_227 (w : rc_M) (a0 : Nat) (x2 : Int32) (x3 : Int32) (x4 : Int32) (x5 : Int32) (x6 : Int32) (x7 : Int32) : Option (Int32 × rc_M) :=
  if x5 = 1 then
    if x6 = 1 then
      if x3 = 20 then
        if x7 = 1 then
          b_mdl_says_257 w a0 x2 x7
        else
          if x7 = 3 then
            b_mdl_says_257 w a0 x2 x7
          else
            b_mdl_says_265 w a0 x2
      else
        b_mdl_says_265 w a0 x2
    else
      b_mdl_says_268 w a0 x2 x4
  else
    b_mdl_says_268 w a0 x2 x4

def b_mdl_says_185 (w : rc_M) (a0 : Nat) (x2 : Int32) (x3 : Int32) (x4 : Int32) (x5 : Int32) (x6 : Int32) (x7 : Int32) : Option (Int32 × rc_M) :=
  if x5 = 1 then
    if x6 = 0 then
      if x3 = 24 then
        if x7 = 2 then
          (rc_rc w (some a0) 7).bind fun a5 =>
          (f_mdl_pushedWord w a5 5).bind fun p7 =>
          if p7.1 = 2 then
            b_mdl_says_222 p7.2 a0 x2 5
          else
            b_mdl_says_221 p7.2 a0 x2
        else
          b_mdl_says_221 w a0 x2
      else
        b_mdl_says_221 w a0 x2
    else
      b_mdl_says_227 w a0 x2 x3 x4 x5 x6 x7
  else
    b_mdl_says_227 w a0 x2 x3 x4 x5 x6 x7

def b_mdl_says_14 (w : rc_M) (a0 : Nat) (x1 : Int32) (x2 : Int32) (s0 : Option Nat) (s1 : Int32) : Option (Int32 × rc_M) :=
  (rc_pI w s0 7 0 s1).bind fun w1 =>
  (rc_gI w1 (some a0) 7 0).bind fun v3 =>
  if v3 ≤ 0 then
    (rc_rc w1 (some a0) 7).bind fun a6 =>
    (f_mdl_wholeRecord w1 a6 x1).bind fun p8 =>
    if p8.1 < 20 then
      b_mdl_says_47 p8.2 
    else
      (rc_rc p8.2 (some a0) 7).bind fun a11 =>
      (f_mdl_pushedWord p8.2 a11 1).bind fun p13 =>
      if p13.1 = 1 then
        (rc_rc p13.2 (some a0) 7).bind fun a16 =>
        (f_mdl_pushedWord p13.2 a16 2).bind fun p18 =>
        (rc_rc p18.2 (some a0) 7).bind fun a20 =>
        (f_mdl_pushedWord p18.2 a20 3).bind fun p22 =>
        (rc_rc p22.2 (some a0) 7).bind fun a24 =>
        (f_mdl_pushedWord p22.2 a24 4).bind fun p26 =>
        if p18.1 = 0 then
          if p8.1 < 24 then
            b_mdl_says_185 p26.2 a0 x2 p8.1 ((-1)) p18.1 p22.1 p26.1
          else
            if p22.1 = 0 then
              if p26.1 = 0 then
                (rc_rc p26.2 (some a0) 7).bind fun a32 =>
                (f_mdl_pushedWord p26.2 a32 5).bind fun p34 =>
                if p34.1 = 0 then
                  b_mdl_says_162 p34.2 a0 x2 p34.1
                else
                  if p34.1 = 1 then
                    b_mdl_says_124 p34.2 a0 x2 p8.1 p34.1
                  else
                    if p34.1 = 3 then
                      b_mdl_says_124 p34.2 a0 x2 p8.1 p34.1
                    else
                      if p34.1 = 4 then
                        b_mdl_says_124 p34.2 a0 x2 p8.1 p34.1
                      else
                        b_mdl_says_130 p34.2 a0 x2 p8.1 p34.1
              else
                b_mdl_says_185 p26.2 a0 x2 p8.1 ((-1)) p18.1 p22.1 p26.1
            else
              b_mdl_says_185 p26.2 a0 x2 p8.1 ((-1)) p18.1 p22.1 p26.1
        else
          b_mdl_says_185 p26.2 a0 x2 p8.1 ((-1)) p18.1 p22.1 p26.1
      else
        b_mdl_says_47 p13.2 
  else
    some (0, w1)

def f_mdl_says (w : rc_M) (a0 : Nat) (x1 : Int32) (x2 : Int32) : Option (Int32 × rc_M) :=
  (rc_rc w (some a0) 7).bind fun a1 =>
  (f_mdl_isSlot w a1 x1).bind fun p3 =>
  if p3.1 = 0 then
    b_mdl_says_14 p3.2 a0 x1 x2 (some a0) 1
  else
    b_mdl_says_14 p3.2 a0 x1 x2 (some a0) 0

def b_mdl_tapePlace_72 (k2 : rc_M → Nat → Int32 → Option (Int32 × rc_M)) (k31 : rc_M → Nat → Int32 → Int32 → Int32 → Option (Int32 × rc_M)) (w : rc_M) (a0 : Nat) (x1 : Int32) (x3 : Int32) (s0 : Int32) : Option (Int32 × rc_M) :=
  k31 w a0 x1 s0 (x3 + 1)

def b_mdl_tapePlace_79 (k2 : rc_M → Nat → Int32 → Option (Int32 × rc_M)) (w : rc_M) (a0 : Nat) (x1 : Int32) (x2 : Int32) : Option (Int32 × rc_M) :=
  if x2 = 0 then
    k2 w a0 (x1 + 1)
  else
    some (x1, w)

def b_mdl_tapePlace_31 (k2 : rc_M → Nat → Int32 → Option (Int32 × rc_M)) : Nat → rc_M → Nat → Int32 → Int32 → Int32 → Option (Int32 × rc_M)
  | 0, _, _, _, _, _ => none
  | fuel + 1, w, a0, x1, x2, x3 =>
    if x2 = 0 then
      b_mdl_tapePlace_79 k2 w a0 x1 x2
    else
      (rc_gI w (some a0) 7 2).bind fun v2 =>
      if v2 ≤ x3 then
        b_mdl_tapePlace_79 k2 w a0 x1 x2
      else
        (rc_gR w (some a0) 7 7).bind fun v5 =>
        (rc_aI w v5 2 ((16 * x1) + x3)).bind fun v7 =>
        (rc_gR w (some a0) 7 1).bind fun v9 =>
        (rc_aI w v9 0 x3).bind fun v11 =>
        if (v7 &&& 255) = v11 then
          b_mdl_tapePlace_72 k2 (b_mdl_tapePlace_31 k2 fuel) w a0 x1 x3 1
        else
          b_mdl_tapePlace_72 k2 (b_mdl_tapePlace_31 k2 fuel) w a0 x1 x3 0

def b_mdl_tapePlace_28 (k2 : rc_M → Nat → Int32 → Option (Int32 × rc_M)) (w : rc_M) (a0 : Nat) (x1 : Int32) (s0 : Int32) : Option (Int32 × rc_M) :=
  b_mdl_tapePlace_31 k2 5000 w a0 x1 s0 0

def b_mdl_tapePlace_2 : Nat → rc_M → Nat → Int32 → Option (Int32 × rc_M)
  | 0, _, _, _ => none
  | fuel + 1, w, a0, x1 =>
    (rc_gI w (some a0) 7 10).bind fun v1 =>
    if v1 ≤ x1 then
      some ((-1), w)
    else
      (rc_gR w (some a0) 7 8).bind fun v4 =>
      (rc_aI w v4 0 x1).bind fun v6 =>
      (rc_gI w (some a0) 7 2).bind fun v8 =>
      if v6 = v8 then
        b_mdl_tapePlace_28 (b_mdl_tapePlace_2 fuel) w a0 x1 1
      else
        b_mdl_tapePlace_28 (b_mdl_tapePlace_2 fuel) w a0 x1 0

def f_mdl_tapePlace (w : rc_M) (a0 : Nat) : Option (Int32 × rc_M) :=
  b_mdl_tapePlace_2 5000 w a0 0

def b_mdl_value_25 (w : rc_M) (s0 : Int64) : Option (Int64 × rc_M) :=
  some (s0, w)

def f_mdl_value (w : rc_M) (a0 : Nat) : Option (Int64 × rc_M) :=
  (rc_pI w (some a0) 7 0 0).bind fun w1 =>
  (rc_rc w1 (some a0) 7).bind fun a3 =>
  (f_mdl_tapePlace w1 a3).bind fun p5 =>
  if p5.1 < 0 then
    b_mdl_value_25 p5.2 0
  else
    (rc_gR p5.2 (some a0) 7 9).bind fun v8 =>
    (rc_rc p5.2 (some a0) 7).bind fun a10 =>
    (f_mdl_tapePlace p5.2 a10).bind fun p12 =>
    (rc_aL p12.2 v8 p12.1).bind fun v14 =>
    b_mdl_value_25 p12.2 v14

def b_mdl_has_17 (w : rc_M) (s0 : Int32) : Option (Int32 × rc_M) :=
  rc_z1 s0 w

def f_mdl_has (w : rc_M) (a0 : Nat) : Option (Int32 × rc_M) :=
  (rc_pI w (some a0) 7 0 0).bind fun w1 =>
  (rc_rc w1 (some a0) 7).bind fun a3 =>
  (f_mdl_tapePlace w1 a3).bind fun p5 =>
  if p5.1 < 0 then
    b_mdl_has_17 p5.2 0
  else
    b_mdl_has_17 p5.2 1

def b_mdl_count_56 (w : rc_M) (s0 : Int32) : Option (Int32 × rc_M) :=
  some (s0, w)

def b_mdl_count_108 (w : rc_M) (s0 : Int32) : Option (Int32 × rc_M) :=
  some (s0, w)

def b_mdl_count_16 (w : rc_M) (a0 : Nat) (x1 : Int32) (s0 : Option Nat) (s1 : Int32) : Option (Int32 × rc_M) :=
  (rc_pI w s0 7 0 s1).bind fun w1 =>
  (rc_gI w1 (some a0) 7 0).bind fun v3 =>
  if v3 ≤ 0 then
    if x1 ≤ 4 then
      if x1 = 0 then
        (rc_gI w1 (some a0) 7 5).bind fun v19 =>
        b_mdl_count_108 w1 v19
      else
        if x1 = 1 then
          (rc_gI w1 (some a0) 7 10).bind fun v17 =>
          b_mdl_count_108 w1 v17
        else
          if x1 = 2 then
            (rc_gI w1 (some a0) 7 23).bind fun v15 =>
            b_mdl_count_108 w1 v15
          else
            if x1 = 3 then
              (rc_gI w1 (some a0) 7 24).bind fun v13 =>
              b_mdl_count_108 w1 v13
            else
              (rc_gI w1 (some a0) 7 25).bind fun v11 =>
              b_mdl_count_108 w1 v11
    else
      (rc_gR w1 (some a0) 7 18).bind fun v21 =>
      (rc_aI w1 v21 3 (x1 - 5)).bind fun v23 =>
      if v23 = 0 then
        (rc_gR w1 (some a0) 7 12).bind fun v26 =>
        (rc_aI w1 v26 0 (x1 - 5)).bind fun v28 =>
        b_mdl_count_56 w1 v28
      else
        b_mdl_count_56 w1 ((-1))
  else
    some (0, w1)

def b_mdl_count_15 (w : rc_M) (a0 : Nat) (x1 : Int32) (s0 : Option Nat) : Option (Int32 × rc_M) :=
  b_mdl_count_16 w a0 x1 s0 1

def f_mdl_count (w : rc_M) (a0 : Nat) (x1 : Int32) : Option (Int32 × rc_M) :=
  if x1 < 0 then
    b_mdl_count_15 w a0 x1 (some a0)
  else
    if 8 < x1 then
      b_mdl_count_15 w a0 x1 (some a0)
    else
      b_mdl_count_16 w a0 x1 (some a0) 0

set_option maxRecDepth 100000 in
set_option maxHeartbeats 4000000 in
theorem k_mdl_byteAt_60 {X : rc_X} {w0 : rc_M} (hF : (q_R X).frames = 1) (hL : (q_R X).locals = 21) (hN : q_n X = 3) (C : rc_C X "RecordCallsModel" prog_9_method_37_code w0) {res : Int32 × rc_M} (E : rc_E0 X y_mdl_byteAt (some .int) (some (.int res.1)) res.2) {w : rc_M} {s0 : Int32} (h : b_mdl_byteAt_60 w s0 = some res) : rc_J X w 60 [.int s0] [] := by
  unfold b_mdl_byteAt_60 at h
  cases h
  exact j_iret C E d_mdl_byteAt_60

set_option maxRecDepth 100000 in
set_option maxHeartbeats 4000000 in
theorem k_mdl_byteAt_31 {X : rc_X} {w0 : rc_M} (hF : (q_R X).frames = 1) (hL : (q_R X).locals = 21) (hN : q_n X = 3) (C : rc_C X "RecordCallsModel" prog_9_method_37_code w0) {res : Int32 × rc_M} (E : rc_E0 X y_mdl_byteAt (some .int) (some (.int res.1)) res.2) {w : rc_M} {a0 : Nat} {x1 : Int32} {x2 : Int32} {s0 : Option Nat} {s1 : Int32} (h : b_mdl_byteAt_31 w a0 x1 x2 s0 s1 = some res) : rc_J X w 31 [.int s1, va_rf s0] [(0, va_rf (some a0)), (1, .int x1), (2, .int x2)] := by
  unfold b_mdl_byteAt_31 at h
  obtain ⟨w1, h2, h⟩ := Option.bind_eq_some_iff.mp h
  refine j_putV C (ci := 7) (k := 0) (by decide) (by decide) T_719 (Or.inl rfl) rfl rfl h2 d_mdl_byteAt_31 rfl ?_
  refine j_aload_n C d_mdl_byteAt_34 rfl 0 rfl ?_
  obtain ⟨v3, h4, h⟩ := Option.bind_eq_some_iff.mp h
  refine j_getI C fl_mdl_74 h4 d_mdl_byteAt_35 rfl ?_
  refine j_if_le (tgt := 45) C d_mdl_byteAt_38 (by decide) rfl (fun c5 => ?_) (fun c5 => ?_)
  · rw [if_pos c5] at h
    refine j_aload_n C d_mdl_byteAt_45 rfl 0 rfl ?_
    obtain ⟨v6, h7, h⟩ := Option.bind_eq_some_iff.mp h
    refine j_getR C fl_mdl_14 h7 d_mdl_byteAt_46 rfl ?_
    refine j_iload_n C d_mdl_byteAt_49 rfl 1 rfl ?_
    obtain ⟨p8, h9, h⟩ := Option.bind_eq_some_iff.mp h
    refine j_callS C (As := [.int x1]) (st := [va_rf v6]) (sk' := [.int p8.1, va_rf v6]) mk_mdl_base (Or.inl T_839) T_840 (rc_le hF (by decide)) (rc_le hL (by decide)) (ct_mdl_base h9) rfl rfl (by simp [va_rf_cat, rc_cat_i, rc_cat_l]) d_mdl_byteAt_50 rfl rfl ?_
    refine j_iload_n C d_mdl_byteAt_53 rfl 2 rfl ?_
    refine j_iadd C d_mdl_byteAt_54 rfl ?_
    obtain ⟨v10, h11, h⟩ := Option.bind_eq_some_iff.mp h
    refine j_bald C h11 d_mdl_byteAt_55 rfl ?_
    refine j_sipush (v := 255) C d_mdl_byteAt_56 rfl (by decide) ?_
    refine j_iand C d_mdl_byteAt_59 rfl ?_
    refine rc_J.sub (lv' := []) [] rfl ?_
    exact k_mdl_byteAt_60 hF hL hN C E h
  · rw [if_neg c5] at h
    refine j_iconst (v := 0) C d_mdl_byteAt_41 rfl (by decide) ?_
    refine j_goto (tgt := 60) C d_mdl_byteAt_42 (by decide) ?_
    refine rc_J.sub (lv' := []) [] rfl ?_
    exact k_mdl_byteAt_60 hF hL hN C E h

set_option maxRecDepth 100000 in
set_option maxHeartbeats 4000000 in
theorem k_mdl_byteAt_30 {X : rc_X} {w0 : rc_M} (hF : (q_R X).frames = 1) (hL : (q_R X).locals = 21) (hN : q_n X = 3) (C : rc_C X "RecordCallsModel" prog_9_method_37_code w0) {res : Int32 × rc_M} (E : rc_E0 X y_mdl_byteAt (some .int) (some (.int res.1)) res.2) {w : rc_M} {a0 : Nat} {x1 : Int32} {x2 : Int32} {s0 : Option Nat} (h : b_mdl_byteAt_30 w a0 x1 x2 s0 = some res) : rc_J X w 30 [va_rf s0] [(0, va_rf (some a0)), (1, .int x1), (2, .int x2)] := by
  unfold b_mdl_byteAt_30 at h
  refine j_iconst (v := 1) C d_mdl_byteAt_30 rfl (by decide) ?_
  exact k_mdl_byteAt_31 hF hL hN C E h

set_option maxRecDepth 100000 in
set_option maxHeartbeats 4000000 in
theorem ct_mdl_byteAt {l : Launch} {G : rc_G} {w : rc_M} {a0 : Nat} {x1 : Int32} {x2 : Int32} {res : Int32 × rc_M} (h : f_mdl_byteAt w a0 x1 x2 = some res) : rc_Ct l G y_mdl_byteAt prog_9_method_37_code 3 (some .int) 1 21 [va_rf (some a0), .int x1, .int x2] w (some (.int res.1)) res.2 := by
  refine rc_enter (by decide +kernel) (by simp [lg_sl, va_rf_cat, rc_cat_i, rc_cat_l]) ?_
  intro X _ _ hN hF hL C E
  have hlv : lv_args 0 [va_rf (some a0), .int x1, .int x2] = [(0, va_rf (some a0)), (1, .int x1), (2, .int x2)] := by simp [lv_args, va_rf_cat, rc_cat_i, rc_cat_l]
  rw [hlv]
  clear hlv
  unfold f_mdl_byteAt at h
  refine j_aload_n C d_mdl_byteAt_0 rfl 0 rfl ?_
  refine j_aload_n C d_mdl_byteAt_1 rfl 0 rfl ?_
  refine j_iload_n C d_mdl_byteAt_2 rfl 1 rfl ?_
  obtain ⟨a1, h2, h⟩ := Option.bind_eq_some_iff.mp h
  obtain ⟨p3, h4, h⟩ := Option.bind_eq_some_iff.mp h
  refine j_callV C (As := [.int x1]) (st := [va_rf (some a0)]) (sk' := [.int p3.1, va_rf (some a0)]) mk_mdl_isSlot (Or.inl T_860) T_862 S_27 (ci := 7) rfl h2 (rc_le hF (by decide)) (rc_le hL (by decide)) (ct_mdl_isSlot h4) rfl rfl (by simp [va_rf_cat, rc_cat_i, rc_cat_l]) d_mdl_byteAt_3 rfl rfl ?_
  refine j_if_eq (tgt := 30) C d_mdl_byteAt_6 (by decide) rfl (fun c5 => ?_) (fun c5 => ?_)
  · rw [if_pos c5] at h
    exact k_mdl_byteAt_30 hF hL hN C E h
  · rw [if_neg c5] at h
    refine j_iload_n C d_mdl_byteAt_9 rfl 2 rfl ?_
    refine j_if_lt (tgt := 30) C d_mdl_byteAt_10 (by decide) rfl (fun c6 => ?_) (fun c6 => ?_)
    · rw [if_pos c6] at h
      exact k_mdl_byteAt_30 hF hL hN C E h
    · rw [if_neg c6] at h
      refine j_iload_n C d_mdl_byteAt_13 rfl 2 rfl ?_
      refine j_aload_n C d_mdl_byteAt_14 rfl 0 rfl ?_
      obtain ⟨v7, h8, h⟩ := Option.bind_eq_some_iff.mp h
      refine j_getR C fl_mdl_18 h8 d_mdl_byteAt_15 rfl ?_
      refine j_iload_n C d_mdl_byteAt_18 rfl 1 rfl ?_
      refine j_bipush (v := 64) C d_mdl_byteAt_19 rfl (by decide) ?_
      refine j_irem C d_mdl_byteAt_21 rfl (by decide) ?_
      obtain ⟨v10, h11, h⟩ := Option.bind_eq_some_iff.mp h
      refine j_iald C h11 d_mdl_byteAt_22 rfl ?_
      refine j_icmp_ge (tgt := 30) C d_mdl_byteAt_23 (by decide) rfl (fun c12 => ?_) (fun c12 => ?_)
      · rw [if_pos c12] at h
        exact k_mdl_byteAt_30 hF hL hN C E h
      · rw [if_neg c12] at h
        refine j_iconst (v := 0) C d_mdl_byteAt_26 rfl (by decide) ?_
        refine j_goto (tgt := 31) C d_mdl_byteAt_27 (by decide) ?_
        exact k_mdl_byteAt_31 hF hL hN C E h

set_option maxRecDepth 100000 in
set_option maxHeartbeats 4000000 in
theorem k_mdl_wordIn_5 {X : rc_X} {w0 : rc_M} (hF : (q_R X).frames = 1) (hL : (q_R X).locals = 20) (hN : q_n X = 5) (C : rc_C X "RecordCallsModel" prog_9_method_38_code w0) {res : Int32 × rc_M} (E : rc_E0 X y_mdl_wordIn (some .int) (some (.int res.1)) res.2) : ∀ (fuel : Nat) (w : rc_M) (a0 : Nat) (x1 : Int32) (x2 : Int32) (x3 : Int32) (x4 : Int32), b_mdl_wordIn_5 fuel w a0 x1 x2 x3 x4 = some res → rc_J X w 5 [] [(0, va_rf (some a0)), (1, .int x1), (2, .int x2), (3, .int x3), (4, .int x4)] := by
  intro fuel
  induction fuel with
  | zero => intro w a0 x1 x2 x3 x4 h; simp [b_mdl_wordIn_5] at h
  | succ fuel ih =>
    intro w a0 x1 x2 x3 x4 h
    unfold b_mdl_wordIn_5 at h
    refine j_iload C d_mdl_wordIn_5 rfl 4 rfl ?_
    refine j_iconst (v := 4) C d_mdl_wordIn_7 rfl (by decide) ?_
    refine j_icmp_ge (tgt := 41) C d_mdl_wordIn_8 (by decide) rfl (fun c1 => ?_) (fun c1 => ?_)
    · rw [if_pos c1] at h
      refine j_iload_n C d_mdl_wordIn_41 rfl 3 rfl ?_
      cases h
      exact j_iret C E d_mdl_wordIn_42
    · rw [if_neg c1] at h
      refine j_iload_n C d_mdl_wordIn_11 rfl 3 rfl ?_
      refine j_bipush (v := 8) C d_mdl_wordIn_12 rfl (by decide) ?_
      refine j_ishl C d_mdl_wordIn_14 rfl ?_
      refine j_aload_n C d_mdl_wordIn_15 rfl 0 rfl ?_
      obtain ⟨v2, h3, h⟩ := Option.bind_eq_some_iff.mp h
      refine j_getR C fl_mdl_14 h3 d_mdl_wordIn_16 rfl ?_
      refine j_iload_n C d_mdl_wordIn_19 rfl 1 rfl ?_
      obtain ⟨p4, h5, h⟩ := Option.bind_eq_some_iff.mp h
      refine j_callS C (As := [.int x1]) (st := [va_rf v2, .int (x3 <<< (8 &&& 31))]) (sk' := [.int p4.1, va_rf v2, .int (x3 <<< (8 &&& 31))]) mk_mdl_base (Or.inl T_839) T_840 (rc_le hF (by decide)) (rc_le hL (by decide)) (ct_mdl_base h5) rfl rfl (by simp [va_rf_cat, rc_cat_i, rc_cat_l]) d_mdl_wordIn_20 rfl rfl ?_
      refine j_iload_n C d_mdl_wordIn_23 rfl 2 rfl ?_
      refine j_iadd C d_mdl_wordIn_24 rfl ?_
      refine j_iload C d_mdl_wordIn_25 rfl 4 rfl ?_
      refine j_iadd C d_mdl_wordIn_27 rfl ?_
      obtain ⟨v6, h7, h⟩ := Option.bind_eq_some_iff.mp h
      refine j_bald C h7 d_mdl_wordIn_28 rfl ?_
      refine j_sipush (v := 255) C d_mdl_wordIn_29 rfl (by decide) ?_
      refine j_iand C d_mdl_wordIn_32 rfl ?_
      refine j_ior C d_mdl_wordIn_33 rfl ?_
      refine j_istore_n C (i := 3) d_mdl_wordIn_34 rfl rfl [(3, .int ((x3 <<< (8 &&& 31)) ||| (v6 &&& 255))), (0, va_rf (some a0)), (1, .int x1), (2, .int x2), (4, .int x4)] (rc_lt hN (by decide)) (by first | rfl | simp [va_rf_cat, rc_cat_i, rc_cat_l]) ?_
      refine j_iinc C d_mdl_wordIn_35 rfl 4 [(4, .int (x4 + 1)), (3, .int ((x3 <<< (8 &&& 31)) ||| (v6 &&& 255))), (0, va_rf (some a0)), (1, .int x1), (2, .int x2)] rfl rfl (rc_lt hN (by decide)) (by first | rfl | simp [va_rf_cat, rc_cat_i, rc_cat_l]) ?_
      refine j_goto (tgt := 5) C d_mdl_wordIn_38 (by decide) ?_
      refine rc_J.sub (lv' := [(0, va_rf (some a0)), (1, .int x1), (2, .int x2), (3, .int ((x3 <<< (8 &&& 31)) ||| (v6 &&& 255))), (4, .int (x4 + 1))]) [2, 3, 4, 1, 0] rfl ?_
      exact ih _ _ _ _ _ _ h

set_option maxRecDepth 100000 in
set_option maxHeartbeats 4000000 in
theorem ct_mdl_wordIn {l : Launch} {G : rc_G} {w : rc_M} {a0 : Nat} {x1 : Int32} {x2 : Int32} {res : Int32 × rc_M} (h : f_mdl_wordIn w a0 x1 x2 = some res) : rc_Ct l G y_mdl_wordIn prog_9_method_38_code 5 (some .int) 1 20 [va_rf (some a0), .int x1, .int x2] w (some (.int res.1)) res.2 := by
  refine rc_enter (by decide +kernel) (by simp [lg_sl, va_rf_cat, rc_cat_i, rc_cat_l]) ?_
  intro X _ _ hN hF hL C E
  have hlv : lv_args 0 [va_rf (some a0), .int x1, .int x2] = [(0, va_rf (some a0)), (1, .int x1), (2, .int x2)] := by simp [lv_args, va_rf_cat, rc_cat_i, rc_cat_l]
  rw [hlv]
  clear hlv
  unfold f_mdl_wordIn at h
  refine j_iconst (v := 0) C d_mdl_wordIn_0 rfl (by decide) ?_
  refine j_istore_n C (i := 3) d_mdl_wordIn_1 rfl rfl [(3, .int 0), (0, va_rf (some a0)), (1, .int x1), (2, .int x2)] (rc_lt hN (by decide)) (by first | rfl | simp [va_rf_cat, rc_cat_i, rc_cat_l]) ?_
  refine j_iconst (v := 0) C d_mdl_wordIn_2 rfl (by decide) ?_
  refine j_istore C (i := 4) d_mdl_wordIn_3 rfl [(4, .int 0), (3, .int 0), (0, va_rf (some a0)), (1, .int x1), (2, .int x2)] (rc_lt hN (by decide)) (by first | rfl | simp [va_rf_cat, rc_cat_i, rc_cat_l]) ?_
  refine rc_J.sub (lv' := [(0, va_rf (some a0)), (1, .int x1), (2, .int x2), (3, .int 0), (4, .int 0)]) [2, 3, 4, 1, 0] rfl ?_
  exact k_mdl_wordIn_5 hF hL hN C E _ _ _ _ _ _ _ h

set_option maxRecDepth 100000 in
set_option maxHeartbeats 4000000 in
theorem k_mdl_word_53 {X : rc_X} {w0 : rc_M} (hF : (q_R X).frames = 2) (hL : (q_R X).locals = 44) (hN : q_n X = 3) (C : rc_C X "RecordCallsModel" prog_9_method_39_code w0) {res : Int32 × rc_M} (E : rc_E0 X y_mdl_word (some .int) (some (.int res.1)) res.2) {w : rc_M} {s0 : Int32} (h : b_mdl_word_53 w s0 = some res) : rc_J X w 53 [.int s0] [] := by
  unfold b_mdl_word_53 at h
  cases h
  exact j_iret C E d_mdl_word_53

set_option maxRecDepth 100000 in
set_option maxHeartbeats 4000000 in
theorem k_mdl_word_33 {X : rc_X} {w0 : rc_M} (hF : (q_R X).frames = 2) (hL : (q_R X).locals = 44) (hN : q_n X = 3) (C : rc_C X "RecordCallsModel" prog_9_method_39_code w0) {res : Int32 × rc_M} (E : rc_E0 X y_mdl_word (some .int) (some (.int res.1)) res.2) {w : rc_M} {a0 : Nat} {x1 : Int32} {x2 : Int32} {s0 : Option Nat} {s1 : Int32} (h : b_mdl_word_33 w a0 x1 x2 s0 s1 = some res) : rc_J X w 33 [.int s1, va_rf s0] [(0, va_rf (some a0)), (1, .int x1), (2, .int x2)] := by
  unfold b_mdl_word_33 at h
  obtain ⟨w1, h2, h⟩ := Option.bind_eq_some_iff.mp h
  refine j_putV C (ci := 7) (k := 0) (by decide) (by decide) T_719 (Or.inl rfl) rfl rfl h2 d_mdl_word_33 rfl ?_
  refine j_aload_n C d_mdl_word_36 rfl 0 rfl ?_
  obtain ⟨v3, h4, h⟩ := Option.bind_eq_some_iff.mp h
  refine j_getI C fl_mdl_74 h4 d_mdl_word_37 rfl ?_
  refine j_if_le (tgt := 47) C d_mdl_word_40 (by decide) rfl (fun c5 => ?_) (fun c5 => ?_)
  · rw [if_pos c5] at h
    refine j_aload_n C d_mdl_word_47 rfl 0 rfl ?_
    refine j_iload_n C d_mdl_word_48 rfl 1 rfl ?_
    refine j_iload_n C d_mdl_word_49 rfl 2 rfl ?_
    obtain ⟨a6, h7, h⟩ := Option.bind_eq_some_iff.mp h
    obtain ⟨p8, h9, h⟩ := Option.bind_eq_some_iff.mp h
    refine j_callV C (As := [.int x1, .int x2]) (st := []) (sk' := [.int p8.1]) mk_mdl_wordIn (Or.inl T_973) T_975 S_49 (ci := 7) rfl h7 (rc_le hF (by decide)) (rc_le hL (by decide)) (ct_mdl_wordIn h9) rfl rfl (by decide) d_mdl_word_50 rfl rfl ?_
    refine rc_J.sub (lv' := []) [] rfl ?_
    exact k_mdl_word_53 hF hL hN C E h
  · rw [if_neg c5] at h
    refine j_iconst (v := 0) C d_mdl_word_43 rfl (by decide) ?_
    refine j_goto (tgt := 53) C d_mdl_word_44 (by decide) ?_
    refine rc_J.sub (lv' := []) [] rfl ?_
    exact k_mdl_word_53 hF hL hN C E h

set_option maxRecDepth 100000 in
set_option maxHeartbeats 4000000 in
theorem k_mdl_word_32 {X : rc_X} {w0 : rc_M} (hF : (q_R X).frames = 2) (hL : (q_R X).locals = 44) (hN : q_n X = 3) (C : rc_C X "RecordCallsModel" prog_9_method_39_code w0) {res : Int32 × rc_M} (E : rc_E0 X y_mdl_word (some .int) (some (.int res.1)) res.2) {w : rc_M} {a0 : Nat} {x1 : Int32} {x2 : Int32} {s0 : Option Nat} (h : b_mdl_word_32 w a0 x1 x2 s0 = some res) : rc_J X w 32 [va_rf s0] [(0, va_rf (some a0)), (1, .int x1), (2, .int x2)] := by
  unfold b_mdl_word_32 at h
  refine j_iconst (v := 1) C d_mdl_word_32 rfl (by decide) ?_
  exact k_mdl_word_33 hF hL hN C E h

set_option maxRecDepth 100000 in
set_option maxHeartbeats 4000000 in
theorem ct_mdl_word {l : Launch} {G : rc_G} {w : rc_M} {a0 : Nat} {x1 : Int32} {x2 : Int32} {res : Int32 × rc_M} (h : f_mdl_word w a0 x1 x2 = some res) : rc_Ct l G y_mdl_word prog_9_method_39_code 3 (some .int) 2 44 [va_rf (some a0), .int x1, .int x2] w (some (.int res.1)) res.2 := by
  refine rc_enter (by decide +kernel) (by simp [lg_sl, va_rf_cat, rc_cat_i, rc_cat_l]) ?_
  intro X _ _ hN hF hL C E
  have hlv : lv_args 0 [va_rf (some a0), .int x1, .int x2] = [(0, va_rf (some a0)), (1, .int x1), (2, .int x2)] := by simp [lv_args, va_rf_cat, rc_cat_i, rc_cat_l]
  rw [hlv]
  clear hlv
  unfold f_mdl_word at h
  refine j_aload_n C d_mdl_word_0 rfl 0 rfl ?_
  refine j_aload_n C d_mdl_word_1 rfl 0 rfl ?_
  refine j_iload_n C d_mdl_word_2 rfl 1 rfl ?_
  obtain ⟨a1, h2, h⟩ := Option.bind_eq_some_iff.mp h
  obtain ⟨p3, h4, h⟩ := Option.bind_eq_some_iff.mp h
  refine j_callV C (As := [.int x1]) (st := [va_rf (some a0)]) (sk' := [.int p3.1, va_rf (some a0)]) mk_mdl_isSlot (Or.inl T_860) T_862 S_27 (ci := 7) rfl h2 (rc_le hF (by decide)) (rc_le hL (by decide)) (ct_mdl_isSlot h4) rfl rfl (by simp [va_rf_cat, rc_cat_i, rc_cat_l]) d_mdl_word_3 rfl rfl ?_
  refine j_if_eq (tgt := 32) C d_mdl_word_6 (by decide) rfl (fun c5 => ?_) (fun c5 => ?_)
  · rw [if_pos c5] at h
    exact k_mdl_word_32 hF hL hN C E h
  · rw [if_neg c5] at h
    refine j_iload_n C d_mdl_word_9 rfl 2 rfl ?_
    refine j_if_lt (tgt := 32) C d_mdl_word_10 (by decide) rfl (fun c6 => ?_) (fun c6 => ?_)
    · rw [if_pos c6] at h
      exact k_mdl_word_32 hF hL hN C E h
    · rw [if_neg c6] at h
      refine j_iload_n C d_mdl_word_13 rfl 2 rfl ?_
      refine j_aload_n C d_mdl_word_14 rfl 0 rfl ?_
      obtain ⟨v7, h8, h⟩ := Option.bind_eq_some_iff.mp h
      refine j_getR C fl_mdl_18 h8 d_mdl_word_15 rfl ?_
      refine j_iload_n C d_mdl_word_18 rfl 1 rfl ?_
      refine j_bipush (v := 64) C d_mdl_word_19 rfl (by decide) ?_
      refine j_irem C d_mdl_word_21 rfl (by decide) ?_
      obtain ⟨v10, h11, h⟩ := Option.bind_eq_some_iff.mp h
      refine j_iald C h11 d_mdl_word_22 rfl ?_
      refine j_iconst (v := 4) C d_mdl_word_23 rfl (by decide) ?_
      refine j_isub C d_mdl_word_24 rfl ?_
      refine j_icmp_gt (tgt := 32) C d_mdl_word_25 (by decide) rfl (fun c12 => ?_) (fun c12 => ?_)
      · rw [if_pos c12] at h
        exact k_mdl_word_32 hF hL hN C E h
      · rw [if_neg c12] at h
        refine j_iconst (v := 0) C d_mdl_word_28 rfl (by decide) ?_
        refine j_goto (tgt := 33) C d_mdl_word_29 (by decide) ?_
        exact k_mdl_word_33 hF hL hN C E h

set_option maxRecDepth 100000 in
set_option maxHeartbeats 4000000 in
theorem k_mdl_wholeRecord_123 {X : rc_X} {w0 : rc_M} (hF : (q_R X).frames = 2) (hL : (q_R X).locals = 44) (hN : q_n X = 9) (C : rc_C X "RecordCallsModel" prog_9_method_40_code w0) {res : Int32 × rc_M} (E : rc_E0 X y_mdl_wholeRecord (some .int) (some (.int res.1)) res.2) {k18 : rc_M → Nat → Int32 → Int32 → Int32 → Int32 → Int32 → Option (Int32 × rc_M)} (hk18 : ∀ (w : rc_M) (a0 : Nat) (x1 : Int32) (x2 : Int32) (x3 : Int32) (x4 : Int32) (x5 : Int32), k18 w a0 x1 x2 x3 x4 x5 = some res → rc_J X w 18 [] [(0, va_rf (some a0)), (1, .int x1), (2, .int x2), (3, .int x3), (4, .int x4), (5, .int x5)]) {w : rc_M} {a0 : Nat} {x1 : Int32} {x2 : Int32} {x3 : Int32} {x4 : Int32} {s0 : Int32} (h : b_mdl_wholeRecord_123 k18 w a0 x1 x2 x3 x4 s0 = some res) : rc_J X w 123 [.int s0] [(0, va_rf (some a0)), (1, .int x1), (2, .int x2), (3, .int x3), (4, .int x4)] := by
  unfold b_mdl_wholeRecord_123 at h
  refine j_istore C (i := 5) d_mdl_wholeRecord_123 rfl [(5, .int s0), (0, va_rf (some a0)), (1, .int x1), (2, .int x2), (3, .int x3), (4, .int x4)] (rc_lt hN (by decide)) (by first | rfl | simp [va_rf_cat, rc_cat_i, rc_cat_l]) ?_
  refine j_goto (tgt := 18) C d_mdl_wholeRecord_125 (by decide) ?_
  refine rc_J.sub (lv' := [(0, va_rf (some a0)), (1, .int x1), (2, .int x2), (3, .int x3), (4, .int x4), (5, .int s0)]) [1, 2, 3, 4, 5, 0] rfl ?_
  exact hk18 _ _ _ _ _ _ _ h

set_option maxRecDepth 100000 in
set_option maxHeartbeats 4000000 in
theorem k_mdl_wholeRecord_64 {X : rc_X} {w0 : rc_M} (hF : (q_R X).frames = 2) (hL : (q_R X).locals = 44) (hN : q_n X = 9) (C : rc_C X "RecordCallsModel" prog_9_method_40_code w0) {res : Int32 × rc_M} (E : rc_E0 X y_mdl_wholeRecord (some .int) (some (.int res.1)) res.2) {k18 : rc_M → Nat → Int32 → Int32 → Int32 → Int32 → Int32 → Option (Int32 × rc_M)} (hk18 : ∀ (w : rc_M) (a0 : Nat) (x1 : Int32) (x2 : Int32) (x3 : Int32) (x4 : Int32) (x5 : Int32), k18 w a0 x1 x2 x3 x4 x5 = some res → rc_J X w 18 [] [(0, va_rf (some a0)), (1, .int x1), (2, .int x2), (3, .int x3), (4, .int x4), (5, .int x5)]) : ∀ (fuel : Nat) (w : rc_M) (a0 : Nat) (x1 : Int32) (x2 : Int32) (x3 : Int32) (x4 : Int32) (x6 : Int32) (x7 : Int32) (x8 : Int32), b_mdl_wholeRecord_64 k18 fuel w a0 x1 x2 x3 x4 x6 x7 x8 = some res → rc_J X w 64 [] [(0, va_rf (some a0)), (1, .int x1), (2, .int x2), (3, .int x3), (4, .int x4), (6, .int x6), (7, .int x7), (8, .int x8)] := by
  intro fuel
  induction fuel with
  | zero => intro w a0 x1 x2 x3 x4 x6 x7 x8 h; simp [b_mdl_wholeRecord_64] at h
  | succ fuel ih =>
    intro w a0 x1 x2 x3 x4 x6 x7 x8 h
    unfold b_mdl_wholeRecord_64 at h
    refine j_iload C d_mdl_wholeRecord_64 rfl 7 rfl ?_
    refine j_iload C d_mdl_wholeRecord_66 rfl 6 rfl ?_
    refine j_icmp_ge (tgt := 101) C d_mdl_wholeRecord_68 (by decide) rfl (fun c1 => ?_) (fun c1 => ?_)
    · rw [if_pos c1] at h
      refine j_iload C d_mdl_wholeRecord_101 rfl 4 rfl ?_
      refine j_iload C d_mdl_wholeRecord_103 rfl 6 rfl ?_
      refine j_iadd C d_mdl_wholeRecord_105 rfl ?_
      refine j_istore C (i := 4) d_mdl_wholeRecord_106 rfl [(4, .int (x4 + x7)), (0, va_rf (some a0)), (1, .int x1), (2, .int x2), (3, .int x3), (6, .int x6), (7, .int x7), (8, .int x8)] (rc_lt hN (by decide)) (by first | rfl | simp [va_rf_cat, rc_cat_i, rc_cat_l]) ?_
      refine j_iload_n C d_mdl_wholeRecord_108 rfl 4 rfl ?_
      refine j_iload C d_mdl_wholeRecord_109 rfl 6 rfl ?_
      refine j_iadd C d_mdl_wholeRecord_111 rfl ?_
      refine j_istore_n C (i := 3) d_mdl_wholeRecord_112 rfl rfl [(3, .int (x3 + x7)), (4, .int (x4 + x7)), (0, va_rf (some a0)), (1, .int x1), (2, .int x2), (6, .int x6), (7, .int x7), (8, .int x8)] (rc_lt hN (by decide)) (by first | rfl | simp [va_rf_cat, rc_cat_i, rc_cat_l]) ?_
      refine j_iload C d_mdl_wholeRecord_113 rfl 5 rfl ?_
      refine j_if_ge (tgt := 122) C d_mdl_wholeRecord_115 (by decide) rfl (fun c2 => ?_) (fun c2 => ?_)
      · rw [if_pos c2] at h
        refine j_iconst (v := 0) C d_mdl_wholeRecord_122 rfl (by decide) ?_
        refine rc_J.sub (lv' := [(0, va_rf (some a0)), (1, .int x1), (2, .int x2), (3, .int (x3 + x7)), (4, .int (x4 + x7))]) [2, 3, 4, 0, 1] rfl ?_
        exact k_mdl_wholeRecord_123 hF hL hN C E hk18 h
      · rw [if_neg c2] at h
        refine j_iconst (v := 1) C d_mdl_wholeRecord_118 rfl (by decide) ?_
        refine j_goto (tgt := 123) C d_mdl_wholeRecord_119 (by decide) ?_
        refine rc_J.sub (lv' := [(0, va_rf (some a0)), (1, .int x1), (2, .int x2), (3, .int (x3 + x7)), (4, .int (x4 + x7))]) [2, 3, 4, 0, 1] rfl ?_
        exact k_mdl_wholeRecord_123 hF hL hN C E hk18 h
    · rw [if_neg c1] at h
      refine j_aload_n C d_mdl_wholeRecord_71 rfl 0 rfl ?_
      obtain ⟨v3, h4, h⟩ := Option.bind_eq_some_iff.mp h
      refine j_getR C fl_mdl_21 h4 d_mdl_wholeRecord_72 rfl ?_
      refine j_iload C d_mdl_wholeRecord_75 rfl 4 rfl ?_
      refine j_iload C d_mdl_wholeRecord_77 rfl 7 rfl ?_
      refine j_iadd C d_mdl_wholeRecord_79 rfl ?_
      refine j_aload_n C d_mdl_wholeRecord_80 rfl 0 rfl ?_
      obtain ⟨v5, h6, h⟩ := Option.bind_eq_some_iff.mp h
      refine j_getR C fl_mdl_14 h6 d_mdl_wholeRecord_81 rfl ?_
      refine j_iload_n C d_mdl_wholeRecord_84 rfl 1 rfl ?_
      obtain ⟨p7, h8, h⟩ := Option.bind_eq_some_iff.mp h
      refine j_callS C (As := [.int x1]) (st := [va_rf v5, .int (x4 + x8), va_rf v3]) (sk' := [.int p7.1, va_rf v5, .int (x4 + x8), va_rf v3]) mk_mdl_base (Or.inl T_839) T_840 (rc_le hF (by decide)) (rc_le hL (by decide)) (ct_mdl_base h8) rfl rfl (by simp [va_rf_cat, rc_cat_i, rc_cat_l]) d_mdl_wholeRecord_85 rfl rfl ?_
      refine j_iload_n C d_mdl_wholeRecord_88 rfl 3 rfl ?_
      refine j_iadd C d_mdl_wholeRecord_89 rfl ?_
      refine j_iload C d_mdl_wholeRecord_90 rfl 7 rfl ?_
      refine j_iadd C d_mdl_wholeRecord_92 rfl ?_
      obtain ⟨v9, h10, h⟩ := Option.bind_eq_some_iff.mp h
      refine j_bald C h10 d_mdl_wholeRecord_93 rfl ?_
      obtain ⟨w11, h12, h⟩ := Option.bind_eq_some_iff.mp h
      refine j_bast C h12 d_mdl_wholeRecord_94 rfl ?_
      refine j_iinc C d_mdl_wholeRecord_95 rfl 7 [(8, .int (x8 + 1)), (0, va_rf (some a0)), (1, .int x1), (2, .int x2), (3, .int x3), (4, .int x4), (6, .int x6), (7, .int x7)] rfl rfl (rc_lt hN (by decide)) (by first | rfl | simp [va_rf_cat, rc_cat_i, rc_cat_l]) ?_
      refine j_goto (tgt := 64) C d_mdl_wholeRecord_98 (by decide) ?_
      refine rc_J.sub (lv' := [(0, va_rf (some a0)), (1, .int x1), (2, .int x2), (3, .int x3), (4, .int x4), (6, .int x6), (7, .int x7), (8, .int (x8 + 1))]) [1, 2, 3, 4, 5, 6, 7, 0] rfl ?_
      exact ih _ _ _ _ _ _ _ _ _ h

set_option maxRecDepth 100000 in
set_option maxHeartbeats 4000000 in
theorem k_mdl_wholeRecord_139 {X : rc_X} {w0 : rc_M} (hF : (q_R X).frames = 2) (hL : (q_R X).locals = 44) (hN : q_n X = 9) (C : rc_C X "RecordCallsModel" prog_9_method_40_code w0) {res : Int32 × rc_M} (E : rc_E0 X y_mdl_wholeRecord (some .int) (some (.int res.1)) res.2) {w : rc_M} {s0 : Int32} (h : b_mdl_wholeRecord_139 w s0 = some res) : rc_J X w 139 [.int s0] [] := by
  unfold b_mdl_wholeRecord_139 at h
  cases h
  exact j_iret C E d_mdl_wholeRecord_139

set_option maxRecDepth 100000 in
set_option maxHeartbeats 4000000 in
theorem k_mdl_wholeRecord_18 {X : rc_X} {w0 : rc_M} (hF : (q_R X).frames = 2) (hL : (q_R X).locals = 44) (hN : q_n X = 9) (C : rc_C X "RecordCallsModel" prog_9_method_40_code w0) {res : Int32 × rc_M} (E : rc_E0 X y_mdl_wholeRecord (some .int) (some (.int res.1)) res.2) : ∀ (fuel : Nat) (w : rc_M) (a0 : Nat) (x1 : Int32) (x2 : Int32) (x3 : Int32) (x4 : Int32) (x5 : Int32), b_mdl_wholeRecord_18 fuel w a0 x1 x2 x3 x4 x5 = some res → rc_J X w 18 [] [(0, va_rf (some a0)), (1, .int x1), (2, .int x2), (3, .int x3), (4, .int x4), (5, .int x5)] := by
  intro fuel
  induction fuel with
  | zero => intro w a0 x1 x2 x3 x4 x5 h; simp [b_mdl_wholeRecord_18] at h
  | succ fuel ih =>
    intro w a0 x1 x2 x3 x4 x5 h
    unfold b_mdl_wholeRecord_18 at h
    refine j_iload C d_mdl_wholeRecord_18 rfl 5 rfl ?_
    refine j_if_ne (tgt := 128) C d_mdl_wholeRecord_20 (by decide) rfl (fun c1 => ?_) (fun c1 => ?_)
    · rw [if_neg c1] at h
      refine j_iload_n C d_mdl_wholeRecord_128 rfl 3 rfl ?_
      refine j_iload_n C d_mdl_wholeRecord_129 rfl 2 rfl ?_
      refine j_icmp_ne (tgt := 138) C d_mdl_wholeRecord_130 (by decide) rfl (fun c2 => ?_) (fun c2 => ?_)
      · rw [if_neg c2] at h
        refine j_iconst (v := (-1)) C d_mdl_wholeRecord_138 rfl (by decide) ?_
        refine rc_J.sub (lv' := []) [] rfl ?_
        exact k_mdl_wholeRecord_139 hF hL hN C E h
      · rw [if_pos c2] at h
        refine j_iload C d_mdl_wholeRecord_133 rfl 4 rfl ?_
        refine j_goto (tgt := 139) C d_mdl_wholeRecord_135 (by decide) ?_
        refine rc_J.sub (lv' := []) [] rfl ?_
        exact k_mdl_wholeRecord_139 hF hL hN C E h
    · rw [if_pos c1] at h
      refine j_iload_n C d_mdl_wholeRecord_23 rfl 3 rfl ?_
      refine j_iconst (v := 4) C d_mdl_wholeRecord_24 rfl (by decide) ?_
      refine j_iadd C d_mdl_wholeRecord_25 rfl ?_
      refine j_iload_n C d_mdl_wholeRecord_26 rfl 2 rfl ?_
      refine j_icmp_le (tgt := 32) C d_mdl_wholeRecord_27 (by decide) rfl (fun c3 => ?_) (fun c3 => ?_)
      · rw [if_pos c3] at h
        refine j_aload_n C d_mdl_wholeRecord_32 rfl 0 rfl ?_
        refine j_iload_n C d_mdl_wholeRecord_33 rfl 1 rfl ?_
        refine j_iload_n C d_mdl_wholeRecord_34 rfl 3 rfl ?_
        obtain ⟨a4, h5, h⟩ := Option.bind_eq_some_iff.mp h
        obtain ⟨p6, h7, h⟩ := Option.bind_eq_some_iff.mp h
        refine j_callV C (As := [.int x1, .int x3]) (st := []) (sk' := [.int p6.1]) mk_mdl_wordIn (Or.inl T_973) T_975 S_49 (ci := 7) rfl h5 (rc_le hF (by decide)) (rc_le hL (by decide)) (ct_mdl_wordIn h7) rfl rfl (by decide) d_mdl_wholeRecord_35 rfl rfl ?_
        refine j_istore C (i := 6) d_mdl_wholeRecord_38 rfl [(6, .int p6.1), (0, va_rf (some a0)), (1, .int x1), (2, .int x2), (3, .int x3), (4, .int x4), (5, .int x5)] (rc_lt hN (by decide)) (by first | rfl | simp [va_rf_cat, rc_cat_i, rc_cat_l]) ?_
        refine j_iload C d_mdl_wholeRecord_40 rfl 0 rfl ?_
        refine j_ldc C d_mdl_wholeRecord_42 rfl T_846 ?_
        refine j_iand C d_mdl_wholeRecord_44 rfl ?_
        refine j_istore C (i := 7) d_mdl_wholeRecord_45 rfl [(7, .int (p6.1 &&& 2147483647)), (6, .int p6.1), (0, va_rf (some a0)), (1, .int x1), (2, .int x2), (3, .int x3), (4, .int x4), (5, .int x5)] (rc_lt hN (by decide)) (by first | rfl | simp [va_rf_cat, rc_cat_i, rc_cat_l]) ?_
        refine j_iload_n C d_mdl_wholeRecord_47 rfl 5 rfl ?_
        refine j_iconst (v := 4) C d_mdl_wholeRecord_48 rfl (by decide) ?_
        refine j_iadd C d_mdl_wholeRecord_49 rfl ?_
        refine j_istore_n C (i := 3) d_mdl_wholeRecord_50 rfl rfl [(3, .int (x3 + 4)), (7, .int (p6.1 &&& 2147483647)), (6, .int p6.1), (0, va_rf (some a0)), (1, .int x1), (2, .int x2), (4, .int x4), (5, .int x5)] (rc_lt hN (by decide)) (by first | rfl | simp [va_rf_cat, rc_cat_i, rc_cat_l]) ?_
        refine j_iload C d_mdl_wholeRecord_51 rfl 1 rfl ?_
        refine j_iload_n C d_mdl_wholeRecord_53 rfl 5 rfl ?_
        refine j_iload_n C d_mdl_wholeRecord_54 rfl 0 rfl ?_
        refine j_isub C d_mdl_wholeRecord_55 rfl ?_
        refine j_icmp_le (tgt := 61) C d_mdl_wholeRecord_56 (by decide) rfl (fun c8 => ?_) (fun c8 => ?_)
        · rw [if_pos c8] at h
          refine j_iconst (v := 0) C d_mdl_wholeRecord_61 rfl (by decide) ?_
          refine j_istore C (i := 8) d_mdl_wholeRecord_62 rfl [(8, .int 0), (3, .int (x3 + 4)), (7, .int (p6.1 &&& 2147483647)), (6, .int p6.1), (0, va_rf (some a0)), (1, .int x1), (2, .int x2), (4, .int x4), (5, .int x5)] (rc_lt hN (by decide)) (by first | rfl | simp [va_rf_cat, rc_cat_i, rc_cat_l]) ?_
          refine rc_J.sub (lv' := [(0, va_rf (some a0)), (1, .int x1), (2, .int x2), (3, .int (x3 + 4)), (4, .int x4), (6, .int p6.1), (7, .int (p6.1 &&& 2147483647)), (8, .int 0)]) [4, 5, 6, 1, 7, 3, 2, 0] rfl ?_
          exact k_mdl_wholeRecord_64 hF hL hN C E (fun w z0 z1 z2 z3 z4 z5 h => ih w z0 z1 z2 z3 z4 z5 h) _ _ _ _ _ _ _ _ _ _ h
        · rw [if_neg c8] at h
          refine j_iconst (v := (-1)) C d_mdl_wholeRecord_59 rfl (by decide) ?_
          cases h
          exact j_iret C E d_mdl_wholeRecord_60
      · rw [if_neg c3] at h
        refine j_iconst (v := (-1)) C d_mdl_wholeRecord_30 rfl (by decide) ?_
        cases h
        exact j_iret C E d_mdl_wholeRecord_31

set_option maxRecDepth 100000 in
set_option maxHeartbeats 4000000 in
theorem ct_mdl_wholeRecord {l : Launch} {G : rc_G} {w : rc_M} {a0 : Nat} {x1 : Int32} {res : Int32 × rc_M} (h : f_mdl_wholeRecord w a0 x1 = some res) : rc_Ct l G y_mdl_wholeRecord prog_9_method_40_code 9 (some .int) 2 44 [va_rf (some a0), .int x1] w (some (.int res.1)) res.2 := by
  refine rc_enter (by decide +kernel) (by simp [lg_sl, va_rf_cat, rc_cat_i, rc_cat_l]) ?_
  intro X _ _ hN hF hL C E
  have hlv : lv_args 0 [va_rf (some a0), .int x1] = [(0, va_rf (some a0)), (1, .int x1)] := by simp [lv_args, va_rf_cat, rc_cat_i, rc_cat_l]
  rw [hlv]
  clear hlv
  unfold f_mdl_wholeRecord at h
  refine j_aload_n C d_mdl_wholeRecord_0 rfl 0 rfl ?_
  obtain ⟨v1, h2, h⟩ := Option.bind_eq_some_iff.mp h
  refine j_getR C fl_mdl_18 h2 d_mdl_wholeRecord_1 rfl ?_
  refine j_iload_n C d_mdl_wholeRecord_4 rfl 1 rfl ?_
  refine j_bipush (v := 64) C d_mdl_wholeRecord_5 rfl (by decide) ?_
  refine j_irem C d_mdl_wholeRecord_7 rfl (by decide) ?_
  obtain ⟨v4, h5, h⟩ := Option.bind_eq_some_iff.mp h
  refine j_iald C h5 d_mdl_wholeRecord_8 rfl ?_
  refine j_istore_n C (i := 2) d_mdl_wholeRecord_9 rfl rfl [(2, .int v4), (0, va_rf (some a0)), (1, .int x1)] (rc_lt hN (by decide)) (by first | rfl | simp [va_rf_cat, rc_cat_i, rc_cat_l]) ?_
  refine j_iconst (v := 0) C d_mdl_wholeRecord_10 rfl (by decide) ?_
  refine j_istore_n C (i := 3) d_mdl_wholeRecord_11 rfl rfl [(3, .int 0), (2, .int v4), (0, va_rf (some a0)), (1, .int x1)] (rc_lt hN (by decide)) (by first | rfl | simp [va_rf_cat, rc_cat_i, rc_cat_l]) ?_
  refine j_iconst (v := 0) C d_mdl_wholeRecord_12 rfl (by decide) ?_
  refine j_istore C (i := 4) d_mdl_wholeRecord_13 rfl [(4, .int 0), (3, .int 0), (2, .int v4), (0, va_rf (some a0)), (1, .int x1)] (rc_lt hN (by decide)) (by first | rfl | simp [va_rf_cat, rc_cat_i, rc_cat_l]) ?_
  refine j_iconst (v := 0) C d_mdl_wholeRecord_15 rfl (by decide) ?_
  refine j_istore C (i := 5) d_mdl_wholeRecord_16 rfl [(5, .int 0), (4, .int 0), (3, .int 0), (2, .int v4), (0, va_rf (some a0)), (1, .int x1)] (rc_lt hN (by decide)) (by first | rfl | simp [va_rf_cat, rc_cat_i, rc_cat_l]) ?_
  refine rc_J.sub (lv' := [(0, va_rf (some a0)), (1, .int x1), (2, .int v4), (3, .int 0), (4, .int 0), (5, .int 0)]) [4, 5, 3, 2, 1, 0] rfl ?_
  exact k_mdl_wholeRecord_18 hF hL hN C E _ _ _ _ _ _ _ _ h

set_option maxRecDepth 100000 in
set_option maxHeartbeats 4000000 in
theorem k_mdl_pushedWord_4 {X : rc_X} {w0 : rc_M} (hF : (q_R X).frames = 0) (hL : (q_R X).locals = 0) (hN : q_n X = 4) (C : rc_C X "RecordCallsModel" prog_9_method_41_code w0) {res : Int32 × rc_M} (E : rc_E0 X y_mdl_pushedWord (some .int) (some (.int res.1)) res.2) : ∀ (fuel : Nat) (w : rc_M) (a0 : Nat) (x1 : Int32) (x2 : Int32) (x3 : Int32), b_mdl_pushedWord_4 fuel w a0 x1 x2 x3 = some res → rc_J X w 4 [] [(0, va_rf (some a0)), (1, .int x1), (2, .int x2), (3, .int x3)] := by
  intro fuel
  induction fuel with
  | zero => intro w a0 x1 x2 x3 h; simp [b_mdl_pushedWord_4] at h
  | succ fuel ih =>
    intro w a0 x1 x2 x3 h
    unfold b_mdl_pushedWord_4 at h
    refine j_iload_n C d_mdl_pushedWord_4 rfl 3 rfl ?_
    refine j_iconst (v := 4) C d_mdl_pushedWord_5 rfl (by decide) ?_
    refine j_icmp_ge (tgt := 35) C d_mdl_pushedWord_6 (by decide) rfl (fun c1 => ?_) (fun c1 => ?_)
    · rw [if_pos c1] at h
      refine j_iload_n C d_mdl_pushedWord_35 rfl 2 rfl ?_
      cases h
      exact j_iret C E d_mdl_pushedWord_36
    · rw [if_neg c1] at h
      refine j_iload_n C d_mdl_pushedWord_9 rfl 2 rfl ?_
      refine j_bipush (v := 8) C d_mdl_pushedWord_10 rfl (by decide) ?_
      refine j_ishl C d_mdl_pushedWord_12 rfl ?_
      refine j_aload_n C d_mdl_pushedWord_13 rfl 0 rfl ?_
      obtain ⟨v2, h3, h⟩ := Option.bind_eq_some_iff.mp h
      refine j_getR C fl_mdl_21 h3 d_mdl_pushedWord_14 rfl ?_
      refine j_iconst (v := 4) C d_mdl_pushedWord_17 rfl (by decide) ?_
      refine j_iload_n C d_mdl_pushedWord_18 rfl 1 rfl ?_
      refine j_imul C d_mdl_pushedWord_19 rfl ?_
      refine j_iload_n C d_mdl_pushedWord_20 rfl 3 rfl ?_
      refine j_iadd C d_mdl_pushedWord_21 rfl ?_
      obtain ⟨v4, h5, h⟩ := Option.bind_eq_some_iff.mp h
      refine j_bald C h5 d_mdl_pushedWord_22 rfl ?_
      refine j_sipush (v := 255) C d_mdl_pushedWord_23 rfl (by decide) ?_
      refine j_iand C d_mdl_pushedWord_26 rfl ?_
      refine j_ior C d_mdl_pushedWord_27 rfl ?_
      refine j_istore_n C (i := 2) d_mdl_pushedWord_28 rfl rfl [(2, .int ((x2 <<< (8 &&& 31)) ||| (v4 &&& 255))), (0, va_rf (some a0)), (1, .int x1), (3, .int x3)] (rc_lt hN (by decide)) (by first | rfl | simp [va_rf_cat, rc_cat_i, rc_cat_l]) ?_
      refine j_iinc C d_mdl_pushedWord_29 rfl 3 [(3, .int (x3 + 1)), (2, .int ((x2 <<< (8 &&& 31)) ||| (v4 &&& 255))), (0, va_rf (some a0)), (1, .int x1)] rfl rfl (rc_lt hN (by decide)) (by first | rfl | simp [va_rf_cat, rc_cat_i, rc_cat_l]) ?_
      refine j_goto (tgt := 4) C d_mdl_pushedWord_32 (by decide) ?_
      refine rc_J.sub (lv' := [(0, va_rf (some a0)), (1, .int x1), (2, .int ((x2 <<< (8 &&& 31)) ||| (v4 &&& 255))), (3, .int (x3 + 1))]) [2, 3, 1, 0] rfl ?_
      exact ih _ _ _ _ _ h

set_option maxRecDepth 100000 in
set_option maxHeartbeats 4000000 in
theorem ct_mdl_pushedWord {l : Launch} {G : rc_G} {w : rc_M} {a0 : Nat} {x1 : Int32} {res : Int32 × rc_M} (h : f_mdl_pushedWord w a0 x1 = some res) : rc_Ct l G y_mdl_pushedWord prog_9_method_41_code 4 (some .int) 0 0 [va_rf (some a0), .int x1] w (some (.int res.1)) res.2 := by
  refine rc_enter (by decide +kernel) (by simp [lg_sl, va_rf_cat, rc_cat_i, rc_cat_l]) ?_
  intro X _ _ hN hF hL C E
  have hlv : lv_args 0 [va_rf (some a0), .int x1] = [(0, va_rf (some a0)), (1, .int x1)] := by simp [lv_args, va_rf_cat, rc_cat_i, rc_cat_l]
  rw [hlv]
  clear hlv
  unfold f_mdl_pushedWord at h
  refine j_iconst (v := 0) C d_mdl_pushedWord_0 rfl (by decide) ?_
  refine j_istore_n C (i := 2) d_mdl_pushedWord_1 rfl rfl [(2, .int 0), (0, va_rf (some a0)), (1, .int x1)] (rc_lt hN (by decide)) (by first | rfl | simp [va_rf_cat, rc_cat_i, rc_cat_l]) ?_
  refine j_iconst (v := 0) C d_mdl_pushedWord_2 rfl (by decide) ?_
  refine j_istore_n C (i := 3) d_mdl_pushedWord_3 rfl rfl [(3, .int 0), (2, .int 0), (0, va_rf (some a0)), (1, .int x1)] (rc_lt hN (by decide)) (by first | rfl | simp [va_rf_cat, rc_cat_i, rc_cat_l]) ?_
  refine rc_J.sub (lv' := [(0, va_rf (some a0)), (1, .int x1), (2, .int 0), (3, .int 0)]) [2, 3, 1, 0] rfl ?_
  exact k_mdl_pushedWord_4 hF hL hN C E _ _ _ _ _ _ h

set_option maxRecDepth 100000 in
set_option maxHeartbeats 4000000 in
theorem k_mdl_says_47 {X : rc_X} {w0 : rc_M} (hF : (q_R X).frames = 3) (hL : (q_R X).locals = 72) (hN : q_n X = 10) (C : rc_C X "RecordCallsModel" prog_9_method_42_code w0) {res : Int32 × rc_M} (E : rc_E0 X y_mdl_says (some .int) (some (.int res.1)) res.2) {w : rc_M}  (h : b_mdl_says_47 w  = some res) : rc_J X w 47 [] [] := by
  unfold b_mdl_says_47 at h
  refine j_iconst (v := (-1)) C d_mdl_says_47 rfl (by decide) ?_
  cases h
  exact j_iret C E d_mdl_says_48

set_option maxRecDepth 100000 in
set_option maxHeartbeats 4000000 in
theorem k_mdl_says_289 {X : rc_X} {w0 : rc_M} (hF : (q_R X).frames = 3) (hL : (q_R X).locals = 72) (hN : q_n X = 10) (C : rc_C X "RecordCallsModel" prog_9_method_42_code w0) {res : Int32 × rc_M} (E : rc_E0 X y_mdl_says (some .int) (some (.int res.1)) res.2) {w : rc_M} {s0 : Int32} (h : b_mdl_says_289 w s0 = some res) : rc_J X w 289 [.int s0] [] := by
  unfold b_mdl_says_289 at h
  cases h
  exact j_iret C E d_mdl_says_289

set_option maxRecDepth 100000 in
set_option maxHeartbeats 4000000 in
theorem k_mdl_says_287 {X : rc_X} {w0 : rc_M} (hF : (q_R X).frames = 3) (hL : (q_R X).locals = 72) (hN : q_n X = 10) (C : rc_C X "RecordCallsModel" prog_9_method_42_code w0) {res : Int32 × rc_M} (E : rc_E0 X y_mdl_says (some .int) (some (.int res.1)) res.2) {w : rc_M} {x4 : Int32} (h : b_mdl_says_287 w x4 = some res) : rc_J X w 287 [] [(4, .int x4)] := by
  unfold b_mdl_says_287 at h
  refine j_iload C d_mdl_says_287 rfl 0 rfl ?_
  refine rc_J.sub (lv' := []) [] rfl ?_
  exact k_mdl_says_289 hF hL hN C E h

set_option maxRecDepth 100000 in
set_option maxHeartbeats 4000000 in
theorem k_mdl_says_268 {X : rc_X} {w0 : rc_M} (hF : (q_R X).frames = 3) (hL : (q_R X).locals = 72) (hN : q_n X = 10) (C : rc_C X "RecordCallsModel" prog_9_method_42_code w0) {res : Int32 × rc_M} (E : rc_E0 X y_mdl_says (some .int) (some (.int res.1)) res.2) {w : rc_M} {a0 : Nat} {x2 : Int32} {x4 : Int32} (h : b_mdl_says_268 w a0 x2 x4 = some res) : rc_J X w 268 [] [(0, va_rf (some a0)), (2, .int x2), (4, .int x4)] := by
  unfold b_mdl_says_268 at h
  refine j_iload C d_mdl_says_268 rfl 2 rfl ?_
  refine j_if_lt (tgt := 287) C d_mdl_says_270 (by decide) rfl (fun c1 => ?_) (fun c1 => ?_)
  · rw [if_pos c1] at h
    refine rc_J.sub (lv' := [(4, .int x4)]) [2] rfl ?_
    exact k_mdl_says_287 hF hL hN C E h
  · rw [if_neg c1] at h
    refine j_aload_n C d_mdl_says_273 rfl 0 rfl ?_
    refine j_iconst (v := 0) C d_mdl_says_274 rfl (by decide) ?_
    obtain ⟨a2, h3, h⟩ := Option.bind_eq_some_iff.mp h
    obtain ⟨p4, h5, h⟩ := Option.bind_eq_some_iff.mp h
    refine j_callV C (As := [.int 0]) (st := []) (sk' := [.int p4.1]) mk_mdl_pushedWord (Or.inl T_985) T_987 S_51 (ci := 7) rfl h3 (rc_le hF (by decide)) (rc_le hL (by decide)) (ct_mdl_pushedWord h5) rfl rfl (by decide) d_mdl_says_275 rfl rfl ?_
    refine j_iload_n C d_mdl_says_278 rfl 1 rfl ?_
    refine j_icmp_eq (tgt := 287) C d_mdl_says_279 (by decide) rfl (fun c6 => ?_) (fun c6 => ?_)
    · rw [if_pos c6] at h
      refine rc_J.sub (lv' := [(4, .int x4)]) [2] rfl ?_
      exact k_mdl_says_287 hF hL hN C E h
    · rw [if_neg c6] at h
      refine j_bipush (v := (-2)) C d_mdl_says_282 rfl (by decide) ?_
      refine j_goto (tgt := 289) C d_mdl_says_284 (by decide) ?_
      refine rc_J.sub (lv' := []) [] rfl ?_
      exact k_mdl_says_289 hF hL hN C E h

set_option maxRecDepth 100000 in
set_option maxHeartbeats 4000000 in
theorem k_mdl_says_180 {X : rc_X} {w0 : rc_M} (hF : (q_R X).frames = 3) (hL : (q_R X).locals = 72) (hN : q_n X = 10) (C : rc_C X "RecordCallsModel" prog_9_method_42_code w0) {res : Int32 × rc_M} (E : rc_E0 X y_mdl_says (some .int) (some (.int res.1)) res.2) {w : rc_M} {a0 : Nat} {x2 : Int32} {s0 : Int32} (h : b_mdl_says_180 w a0 x2 s0 = some res) : rc_J X w 180 [.int s0] [(0, va_rf (some a0)), (2, .int x2)] := by
  unfold b_mdl_says_180 at h
  refine j_istore C (i := 4) d_mdl_says_180 rfl [(4, .int s0), (0, va_rf (some a0)), (2, .int x2)] (rc_lt hN (by decide)) (by first | rfl | simp [va_rf_cat, rc_cat_i, rc_cat_l]) ?_
  refine j_goto (tgt := 268) C d_mdl_says_182 (by decide) ?_
  refine rc_J.sub (lv' := [(0, va_rf (some a0)), (2, .int x2), (4, .int s0)]) [1, 2, 0] rfl ?_
  exact k_mdl_says_268 hF hL hN C E h

set_option maxRecDepth 100000 in
set_option maxHeartbeats 4000000 in
theorem k_mdl_says_167 {X : rc_X} {w0 : rc_M} (hF : (q_R X).frames = 3) (hL : (q_R X).locals = 72) (hN : q_n X = 10) (C : rc_C X "RecordCallsModel" prog_9_method_42_code w0) {res : Int32 × rc_M} (E : rc_E0 X y_mdl_says (some .int) (some (.int res.1)) res.2) {w : rc_M} {a0 : Nat} {x2 : Int32} {x8 : Int32} {s0 : Int32} (h : b_mdl_says_167 w a0 x2 x8 s0 = some res) : rc_J X w 167 [.int s0] [(0, va_rf (some a0)), (2, .int x2), (8, .int x8)] := by
  unfold b_mdl_says_167 at h
  refine j_istore C (i := 9) d_mdl_says_167 rfl [(9, .int s0), (0, va_rf (some a0)), (2, .int x2), (8, .int x8)] (rc_lt hN (by decide)) (by first | rfl | simp [va_rf_cat, rc_cat_i, rc_cat_l]) ?_
  refine j_iload C d_mdl_says_169 rfl 0 rfl ?_
  refine j_if_eq (tgt := 179) C d_mdl_says_171 (by decide) rfl (fun c1 => ?_) (fun c1 => ?_)
  · rw [if_pos c1] at h
    refine j_iconst (v := (-1)) C d_mdl_says_179 rfl (by decide) ?_
    refine rc_J.sub (lv' := [(0, va_rf (some a0)), (2, .int x2)]) [1, 2] rfl ?_
    exact k_mdl_says_180 hF hL hN C E h
  · rw [if_neg c1] at h
    refine j_iload C d_mdl_says_174 rfl 3 rfl ?_
    refine j_goto (tgt := 180) C d_mdl_says_176 (by decide) ?_
    refine rc_J.sub (lv' := [(0, va_rf (some a0)), (2, .int x2)]) [1, 2] rfl ?_
    exact k_mdl_says_180 hF hL hN C E h

set_option maxRecDepth 100000 in
set_option maxHeartbeats 4000000 in
theorem k_mdl_says_162 {X : rc_X} {w0 : rc_M} (hF : (q_R X).frames = 3) (hL : (q_R X).locals = 72) (hN : q_n X = 10) (C : rc_C X "RecordCallsModel" prog_9_method_42_code w0) {res : Int32 × rc_M} (E : rc_E0 X y_mdl_says (some .int) (some (.int res.1)) res.2) {w : rc_M} {a0 : Nat} {x2 : Int32} {x8 : Int32} (h : b_mdl_says_162 w a0 x2 x8 = some res) : rc_J X w 162 [] [(0, va_rf (some a0)), (2, .int x2), (8, .int x8)] := by
  unfold b_mdl_says_162 at h
  refine j_iconst (v := 1) C d_mdl_says_162 rfl (by decide) ?_
  refine j_goto (tgt := 167) C d_mdl_says_163 (by decide) ?_
  exact k_mdl_says_167 hF hL hN C E h

set_option maxRecDepth 100000 in
set_option maxHeartbeats 4000000 in
theorem k_mdl_says_166 {X : rc_X} {w0 : rc_M} (hF : (q_R X).frames = 3) (hL : (q_R X).locals = 72) (hN : q_n X = 10) (C : rc_C X "RecordCallsModel" prog_9_method_42_code w0) {res : Int32 × rc_M} (E : rc_E0 X y_mdl_says (some .int) (some (.int res.1)) res.2) {w : rc_M} {a0 : Nat} {x2 : Int32} {x8 : Int32} (h : b_mdl_says_166 w a0 x2 x8 = some res) : rc_J X w 166 [] [(0, va_rf (some a0)), (2, .int x2), (8, .int x8)] := by
  unfold b_mdl_says_166 at h
  refine j_iconst (v := 0) C d_mdl_says_166 rfl (by decide) ?_
  exact k_mdl_says_167 hF hL hN C E h

set_option maxRecDepth 100000 in
set_option maxHeartbeats 4000000 in
theorem k_mdl_says_130 {X : rc_X} {w0 : rc_M} (hF : (q_R X).frames = 3) (hL : (q_R X).locals = 72) (hN : q_n X = 10) (C : rc_C X "RecordCallsModel" prog_9_method_42_code w0) {res : Int32 × rc_M} (E : rc_E0 X y_mdl_says (some .int) (some (.int res.1)) res.2) {w : rc_M} {a0 : Nat} {x2 : Int32} {x3 : Int32} {x8 : Int32} (h : b_mdl_says_130 w a0 x2 x3 x8 = some res) : rc_J X w 130 [] [(0, va_rf (some a0)), (2, .int x2), (3, .int x3), (8, .int x8)] := by
  unfold b_mdl_says_130 at h
  refine j_iload C d_mdl_says_130 rfl 3 rfl ?_
  refine j_iconst (v := 2) C d_mdl_says_132 rfl (by decide) ?_
  refine j_icmp_ne (tgt := 166) C d_mdl_says_133 (by decide) rfl (fun c1 => ?_) (fun c1 => ?_)
  · rw [if_neg c1] at h
    refine rc_J.sub (lv' := [(0, va_rf (some a0)), (2, .int x2), (8, .int x8)]) [0, 1, 3] rfl ?_
    exact k_mdl_says_166 hF hL hN C E h
  · rw [if_pos c1] at h
    refine j_iload_n C d_mdl_says_136 rfl 2 rfl ?_
    refine j_bipush (v := 32) C d_mdl_says_137 rfl (by decide) ?_
    refine j_icmp_ne (tgt := 166) C d_mdl_says_139 (by decide) rfl (fun c2 => ?_) (fun c2 => ?_)
    · rw [if_neg c2] at h
      refine rc_J.sub (lv' := [(0, va_rf (some a0)), (2, .int x2), (8, .int x8)]) [0, 1, 3] rfl ?_
      exact k_mdl_says_166 hF hL hN C E h
    · rw [if_pos c2] at h
      refine j_aload_n C d_mdl_says_142 rfl 0 rfl ?_
      refine j_bipush (v := 6) C d_mdl_says_143 rfl (by decide) ?_
      obtain ⟨a3, h4, h⟩ := Option.bind_eq_some_iff.mp h
      obtain ⟨p5, h6, h⟩ := Option.bind_eq_some_iff.mp h
      refine j_callV C (As := [.int 6]) (st := []) (sk' := [.int p5.1]) mk_mdl_pushedWord (Or.inl T_985) T_987 S_51 (ci := 7) rfl h4 (rc_le hF (by decide)) (rc_le hL (by decide)) (ct_mdl_pushedWord h6) rfl rfl (by decide) d_mdl_says_145 rfl rfl ?_
      refine j_iconst (v := 1) C d_mdl_says_148 rfl (by decide) ?_
      refine j_icmp_ne (tgt := 166) C d_mdl_says_149 (by decide) rfl (fun c7 => ?_) (fun c7 => ?_)
      · rw [if_neg c7] at h
        refine rc_J.sub (lv' := [(0, va_rf (some a0)), (2, .int x2), (8, .int x8)]) [0, 1, 3] rfl ?_
        exact k_mdl_says_166 hF hL hN C E h
      · rw [if_pos c7] at h
        refine j_aload_n C d_mdl_says_152 rfl 0 rfl ?_
        refine j_bipush (v := 7) C d_mdl_says_153 rfl (by decide) ?_
        obtain ⟨a8, h9, h⟩ := Option.bind_eq_some_iff.mp h
        obtain ⟨p10, h11, h⟩ := Option.bind_eq_some_iff.mp h
        refine j_callV C (As := [.int 7]) (st := []) (sk' := [.int p10.1]) mk_mdl_pushedWord (Or.inl T_985) T_987 S_51 (ci := 7) rfl h9 (rc_le hF (by decide)) (rc_le hL (by decide)) (ct_mdl_pushedWord h11) rfl rfl (by decide) d_mdl_says_155 rfl rfl ?_
        refine j_iconst (v := 2) C d_mdl_says_158 rfl (by decide) ?_
        refine j_icmp_ne (tgt := 166) C d_mdl_says_159 (by decide) rfl (fun c12 => ?_) (fun c12 => ?_)
        · rw [if_neg c12] at h
          refine rc_J.sub (lv' := [(0, va_rf (some a0)), (2, .int x2), (8, .int x8)]) [0, 1, 3] rfl ?_
          exact k_mdl_says_166 hF hL hN C E h
        · rw [if_pos c12] at h
          refine rc_J.sub (lv' := [(0, va_rf (some a0)), (2, .int x2), (8, .int x8)]) [0, 1, 3] rfl ?_
          exact k_mdl_says_162 hF hL hN C E h

set_option maxRecDepth 100000 in
set_option maxHeartbeats 4000000 in
theorem k_mdl_says_124 {X : rc_X} {w0 : rc_M} (hF : (q_R X).frames = 3) (hL : (q_R X).locals = 72) (hN : q_n X = 10) (C : rc_C X "RecordCallsModel" prog_9_method_42_code w0) {res : Int32 × rc_M} (E : rc_E0 X y_mdl_says (some .int) (some (.int res.1)) res.2) {w : rc_M} {a0 : Nat} {x2 : Int32} {x3 : Int32} {x8 : Int32} (h : b_mdl_says_124 w a0 x2 x3 x8 = some res) : rc_J X w 124 [] [(0, va_rf (some a0)), (2, .int x2), (3, .int x3), (8, .int x8)] := by
  unfold b_mdl_says_124 at h
  refine j_iload_n C d_mdl_says_124 rfl 2 rfl ?_
  refine j_bipush (v := 24) C d_mdl_says_125 rfl (by decide) ?_
  refine j_icmp_eq (tgt := 162) C d_mdl_says_127 (by decide) rfl (fun c1 => ?_) (fun c1 => ?_)
  · rw [if_pos c1] at h
    refine rc_J.sub (lv' := [(0, va_rf (some a0)), (2, .int x2), (8, .int x8)]) [0, 1, 3] rfl ?_
    exact k_mdl_says_162 hF hL hN C E h
  · rw [if_neg c1] at h
    exact k_mdl_says_130 hF hL hN C E h

set_option maxRecDepth 100000 in
set_option maxHeartbeats 4000000 in
theorem k_mdl_says_222 {X : rc_X} {w0 : rc_M} (hF : (q_R X).frames = 3) (hL : (q_R X).locals = 72) (hN : q_n X = 10) (C : rc_C X "RecordCallsModel" prog_9_method_42_code w0) {res : Int32 × rc_M} (E : rc_E0 X y_mdl_says (some .int) (some (.int res.1)) res.2) {w : rc_M} {a0 : Nat} {x2 : Int32} {s0 : Int32} (h : b_mdl_says_222 w a0 x2 s0 = some res) : rc_J X w 222 [.int s0] [(0, va_rf (some a0)), (2, .int x2)] := by
  unfold b_mdl_says_222 at h
  refine j_istore C (i := 4) d_mdl_says_222 rfl [(4, .int s0), (0, va_rf (some a0)), (2, .int x2)] (rc_lt hN (by decide)) (by first | rfl | simp [va_rf_cat, rc_cat_i, rc_cat_l]) ?_
  refine j_goto (tgt := 268) C d_mdl_says_224 (by decide) ?_
  refine rc_J.sub (lv' := [(0, va_rf (some a0)), (2, .int x2), (4, .int s0)]) [1, 2, 0] rfl ?_
  exact k_mdl_says_268 hF hL hN C E h

set_option maxRecDepth 100000 in
set_option maxHeartbeats 4000000 in
theorem k_mdl_says_221 {X : rc_X} {w0 : rc_M} (hF : (q_R X).frames = 3) (hL : (q_R X).locals = 72) (hN : q_n X = 10) (C : rc_C X "RecordCallsModel" prog_9_method_42_code w0) {res : Int32 × rc_M} (E : rc_E0 X y_mdl_says (some .int) (some (.int res.1)) res.2) {w : rc_M} {a0 : Nat} {x2 : Int32} (h : b_mdl_says_221 w a0 x2 = some res) : rc_J X w 221 [] [(0, va_rf (some a0)), (2, .int x2)] := by
  unfold b_mdl_says_221 at h
  refine j_iconst (v := (-1)) C d_mdl_says_221 rfl (by decide) ?_
  exact k_mdl_says_222 hF hL hN C E h

set_option maxRecDepth 100000 in
set_option maxHeartbeats 4000000 in
theorem k_mdl_says_266 {X : rc_X} {w0 : rc_M} (hF : (q_R X).frames = 3) (hL : (q_R X).locals = 72) (hN : q_n X = 10) (C : rc_C X "RecordCallsModel" prog_9_method_42_code w0) {res : Int32 × rc_M} (E : rc_E0 X y_mdl_says (some .int) (some (.int res.1)) res.2) {w : rc_M} {a0 : Nat} {x2 : Int32} {s0 : Int32} (h : b_mdl_says_266 w a0 x2 s0 = some res) : rc_J X w 266 [.int s0] [(0, va_rf (some a0)), (2, .int x2)] := by
  unfold b_mdl_says_266 at h
  refine j_istore C (i := 4) d_mdl_says_266 rfl [(4, .int s0), (0, va_rf (some a0)), (2, .int x2)] (rc_lt hN (by decide)) (by first | rfl | simp [va_rf_cat, rc_cat_i, rc_cat_l]) ?_
  refine rc_J.sub (lv' := [(0, va_rf (some a0)), (2, .int x2), (4, .int s0)]) [1, 2, 0] rfl ?_
  exact k_mdl_says_268 hF hL hN C E h

set_option maxRecDepth 100000 in
set_option maxHeartbeats 4000000 in
theorem k_mdl_says_257 {X : rc_X} {w0 : rc_M} (hF : (q_R X).frames = 3) (hL : (q_R X).locals = 72) (hN : q_n X = 10) (C : rc_C X "RecordCallsModel" prog_9_method_42_code w0) {res : Int32 × rc_M} (E : rc_E0 X y_mdl_says (some .int) (some (.int res.1)) res.2) {w : rc_M} {a0 : Nat} {x2 : Int32} {x7 : Int32} (h : b_mdl_says_257 w a0 x2 x7 = some res) : rc_J X w 257 [] [(0, va_rf (some a0)), (2, .int x2), (7, .int x7)] := by
  unfold b_mdl_says_257 at h
  refine j_bipush (v := 10) C d_mdl_says_257 rfl (by decide) ?_
  refine j_iload C d_mdl_says_259 rfl 2 rfl ?_
  refine j_iadd C d_mdl_says_261 rfl ?_
  refine j_goto (tgt := 266) C d_mdl_says_262 (by decide) ?_
  refine rc_J.sub (lv' := [(0, va_rf (some a0)), (2, .int x2)]) [0, 1] rfl ?_
  exact k_mdl_says_266 hF hL hN C E h

set_option maxRecDepth 100000 in
set_option maxHeartbeats 4000000 in
theorem k_mdl_says_265 {X : rc_X} {w0 : rc_M} (hF : (q_R X).frames = 3) (hL : (q_R X).locals = 72) (hN : q_n X = 10) (C : rc_C X "RecordCallsModel" prog_9_method_42_code w0) {res : Int32 × rc_M} (E : rc_E0 X y_mdl_says (some .int) (some (.int res.1)) res.2) {w : rc_M} {a0 : Nat} {x2 : Int32} (h : b_mdl_says_265 w a0 x2 = some res) : rc_J X w 265 [] [(0, va_rf (some a0)), (2, .int x2)] := by
  unfold b_mdl_says_265 at h
  refine j_iconst (v := (-1)) C d_mdl_says_265 rfl (by decide) ?_
  exact k_mdl_says_266 hF hL hN C E h

set_option maxRecDepth 100000 in
set_option maxHeartbeats 4000000 in
theorem k_mdl_says_227 {X : rc_X} {w0 : rc_M} (hF : (q_R X).frames = 3) (hL : (q_R X).locals = 72) (hN : q_n X = 10) (C : rc_C X "RecordCallsModel" prog_9_method_42_code w0) {res : Int32 × rc_M} (E : rc_E0 X y_mdl_says (some .int) (some (.int res.1)) res.2) {w : rc_M} {a0 : Nat} {x2 : Int32} {x3 : Int32} {x4 : Int32} {x5 : Int32} {x6 : Int32} {x7 : Int32} (h : b_mdl_says_227 w a0 x2 x3 x4 x5 x6 x7 = some res) : rc_J X w 227 [] [(0, va_rf (some a0)), (2, .int x2), (3, .int x3), (4, .int x4), (5, .int x5), (6, .int x6), (7, .int x7)] := by
  unfold b_mdl_says_227 at h
  refine j_iload C d_mdl_says_227 rfl 4 rfl ?_
  refine j_iconst (v := 1) C d_mdl_says_229 rfl (by decide) ?_
  refine j_icmp_ne (tgt := 268) C d_mdl_says_230 (by decide) rfl (fun c1 => ?_) (fun c1 => ?_)
  · rw [if_neg c1] at h
    refine rc_J.sub (lv' := [(0, va_rf (some a0)), (2, .int x2), (4, .int x4)]) [0, 1, 3] rfl ?_
    exact k_mdl_says_268 hF hL hN C E h
  · rw [if_pos c1] at h
    refine j_iload C d_mdl_says_233 rfl 5 rfl ?_
    refine j_iconst (v := 1) C d_mdl_says_235 rfl (by decide) ?_
    refine j_icmp_ne (tgt := 268) C d_mdl_says_236 (by decide) rfl (fun c2 => ?_) (fun c2 => ?_)
    · rw [if_neg c2] at h
      refine rc_J.sub (lv' := [(0, va_rf (some a0)), (2, .int x2), (4, .int x4)]) [0, 1, 3] rfl ?_
      exact k_mdl_says_268 hF hL hN C E h
    · rw [if_pos c2] at h
      refine j_iload_n C d_mdl_says_239 rfl 2 rfl ?_
      refine j_bipush (v := 20) C d_mdl_says_240 rfl (by decide) ?_
      refine j_icmp_ne (tgt := 265) C d_mdl_says_242 (by decide) rfl (fun c3 => ?_) (fun c3 => ?_)
      · rw [if_neg c3] at h
        refine rc_J.sub (lv' := [(0, va_rf (some a0)), (2, .int x2)]) [0, 1] rfl ?_
        exact k_mdl_says_265 hF hL hN C E h
      · rw [if_pos c3] at h
        refine j_iload C d_mdl_says_245 rfl 6 rfl ?_
        refine j_iconst (v := 1) C d_mdl_says_247 rfl (by decide) ?_
        refine j_icmp_eq (tgt := 257) C d_mdl_says_248 (by decide) rfl (fun c4 => ?_) (fun c4 => ?_)
        · rw [if_pos c4] at h
          refine rc_J.sub (lv' := [(0, va_rf (some a0)), (2, .int x2), (7, .int x7)]) [0, 1, 6] rfl ?_
          exact k_mdl_says_257 hF hL hN C E h
        · rw [if_neg c4] at h
          refine j_iload C d_mdl_says_251 rfl 6 rfl ?_
          refine j_iconst (v := 3) C d_mdl_says_253 rfl (by decide) ?_
          refine j_icmp_ne (tgt := 265) C d_mdl_says_254 (by decide) rfl (fun c5 => ?_) (fun c5 => ?_)
          · rw [if_neg c5] at h
            refine rc_J.sub (lv' := [(0, va_rf (some a0)), (2, .int x2)]) [0, 1] rfl ?_
            exact k_mdl_says_265 hF hL hN C E h
          · rw [if_pos c5] at h
            refine rc_J.sub (lv' := [(0, va_rf (some a0)), (2, .int x2), (7, .int x7)]) [0, 1, 6] rfl ?_
            exact k_mdl_says_257 hF hL hN C E h

set_option maxRecDepth 100000 in
set_option maxHeartbeats 4000000 in
theorem k_mdl_says_185 {X : rc_X} {w0 : rc_M} (hF : (q_R X).frames = 3) (hL : (q_R X).locals = 72) (hN : q_n X = 10) (C : rc_C X "RecordCallsModel" prog_9_method_42_code w0) {res : Int32 × rc_M} (E : rc_E0 X y_mdl_says (some .int) (some (.int res.1)) res.2) {w : rc_M} {a0 : Nat} {x2 : Int32} {x3 : Int32} {x4 : Int32} {x5 : Int32} {x6 : Int32} {x7 : Int32} (h : b_mdl_says_185 w a0 x2 x3 x4 x5 x6 x7 = some res) : rc_J X w 185 [] [(0, va_rf (some a0)), (2, .int x2), (3, .int x3), (4, .int x4), (5, .int x5), (6, .int x6), (7, .int x7)] := by
  unfold b_mdl_says_185 at h
  refine j_iload C d_mdl_says_185 rfl 4 rfl ?_
  refine j_iconst (v := 1) C d_mdl_says_187 rfl (by decide) ?_
  refine j_icmp_ne (tgt := 227) C d_mdl_says_188 (by decide) rfl (fun c1 => ?_) (fun c1 => ?_)
  · rw [if_neg c1] at h
    exact k_mdl_says_227 hF hL hN C E h
  · rw [if_pos c1] at h
    refine j_iload C d_mdl_says_191 rfl 5 rfl ?_
    refine j_if_ne (tgt := 227) C d_mdl_says_193 (by decide) rfl (fun c2 => ?_) (fun c2 => ?_)
    · rw [if_neg c2] at h
      exact k_mdl_says_227 hF hL hN C E h
    · rw [if_pos c2] at h
      refine j_iload_n C d_mdl_says_196 rfl 2 rfl ?_
      refine j_bipush (v := 24) C d_mdl_says_197 rfl (by decide) ?_
      refine j_icmp_ne (tgt := 221) C d_mdl_says_199 (by decide) rfl (fun c3 => ?_) (fun c3 => ?_)
      · rw [if_neg c3] at h
        refine rc_J.sub (lv' := [(0, va_rf (some a0)), (2, .int x2)]) [0, 1] rfl ?_
        exact k_mdl_says_221 hF hL hN C E h
      · rw [if_pos c3] at h
        refine j_iload C d_mdl_says_202 rfl 6 rfl ?_
        refine j_iconst (v := 2) C d_mdl_says_204 rfl (by decide) ?_
        refine j_icmp_ne (tgt := 221) C d_mdl_says_205 (by decide) rfl (fun c4 => ?_) (fun c4 => ?_)
        · rw [if_neg c4] at h
          refine rc_J.sub (lv' := [(0, va_rf (some a0)), (2, .int x2)]) [0, 1] rfl ?_
          exact k_mdl_says_221 hF hL hN C E h
        · rw [if_pos c4] at h
          refine j_aload_n C d_mdl_says_208 rfl 0 rfl ?_
          refine j_iconst (v := 5) C d_mdl_says_209 rfl (by decide) ?_
          obtain ⟨a5, h6, h⟩ := Option.bind_eq_some_iff.mp h
          obtain ⟨p7, h8, h⟩ := Option.bind_eq_some_iff.mp h
          refine j_callV C (As := [.int 5]) (st := []) (sk' := [.int p7.1]) mk_mdl_pushedWord (Or.inl T_985) T_987 S_51 (ci := 7) rfl h6 (rc_le hF (by decide)) (rc_le hL (by decide)) (ct_mdl_pushedWord h8) rfl rfl (by decide) d_mdl_says_210 rfl rfl ?_
          refine j_iconst (v := 2) C d_mdl_says_213 rfl (by decide) ?_
          refine j_icmp_ne (tgt := 221) C d_mdl_says_214 (by decide) rfl (fun c9 => ?_) (fun c9 => ?_)
          · rw [if_neg c9] at h
            refine rc_J.sub (lv' := [(0, va_rf (some a0)), (2, .int x2)]) [0, 1] rfl ?_
            exact k_mdl_says_221 hF hL hN C E h
          · rw [if_pos c9] at h
            refine j_iconst (v := 5) C d_mdl_says_217 rfl (by decide) ?_
            refine j_goto (tgt := 222) C d_mdl_says_218 (by decide) ?_
            refine rc_J.sub (lv' := [(0, va_rf (some a0)), (2, .int x2)]) [0, 1] rfl ?_
            exact k_mdl_says_222 hF hL hN C E h

set_option maxRecDepth 100000 in
set_option maxHeartbeats 4000000 in
theorem k_mdl_says_14 {X : rc_X} {w0 : rc_M} (hF : (q_R X).frames = 3) (hL : (q_R X).locals = 72) (hN : q_n X = 10) (C : rc_C X "RecordCallsModel" prog_9_method_42_code w0) {res : Int32 × rc_M} (E : rc_E0 X y_mdl_says (some .int) (some (.int res.1)) res.2) {w : rc_M} {a0 : Nat} {x1 : Int32} {x2 : Int32} {s0 : Option Nat} {s1 : Int32} (h : b_mdl_says_14 w a0 x1 x2 s0 s1 = some res) : rc_J X w 14 [.int s1, va_rf s0] [(0, va_rf (some a0)), (1, .int x1), (2, .int x2)] := by
  unfold b_mdl_says_14 at h
  obtain ⟨w1, h2, h⟩ := Option.bind_eq_some_iff.mp h
  refine j_putV C (ci := 7) (k := 0) (by decide) (by decide) T_719 (Or.inl rfl) rfl rfl h2 d_mdl_says_14 rfl ?_
  refine j_aload_n C d_mdl_says_17 rfl 0 rfl ?_
  obtain ⟨v3, h4, h⟩ := Option.bind_eq_some_iff.mp h
  refine j_getI C fl_mdl_74 h4 d_mdl_says_18 rfl ?_
  refine j_if_le (tgt := 26) C d_mdl_says_21 (by decide) rfl (fun c5 => ?_) (fun c5 => ?_)
  · rw [if_pos c5] at h
    refine j_aload_n C d_mdl_says_26 rfl 0 rfl ?_
    refine j_iload_n C d_mdl_says_27 rfl 1 rfl ?_
    obtain ⟨a6, h7, h⟩ := Option.bind_eq_some_iff.mp h
    obtain ⟨p8, h9, h⟩ := Option.bind_eq_some_iff.mp h
    refine j_callV C (As := [.int x1]) (st := []) (sk' := [.int p8.1]) mk_mdl_wholeRecord (Or.inl T_981) T_983 S_50 (ci := 7) rfl h7 (rc_le hF (by decide)) (rc_le hL (by decide)) (ct_mdl_wholeRecord h9) rfl rfl (by decide) d_mdl_says_28 rfl rfl ?_
    refine j_istore_n C (i := 3) d_mdl_says_31 rfl rfl [(3, .int p8.1), (0, va_rf (some a0)), (1, .int x1), (2, .int x2)] (rc_lt hN (by decide)) (by first | rfl | simp [va_rf_cat, rc_cat_i, rc_cat_l]) ?_
    refine j_iload_n C d_mdl_says_32 rfl 0 rfl ?_
    refine j_bipush (v := 20) C d_mdl_says_33 rfl (by decide) ?_
    refine j_icmp_lt (tgt := 47) C d_mdl_says_35 (by decide) rfl (fun c10 => ?_) (fun c10 => ?_)
    · rw [if_pos c10] at h
      refine rc_J.sub (lv' := []) [] rfl ?_
      exact k_mdl_says_47 hF hL hN C E h
    · rw [if_neg c10] at h
      refine j_aload_n C d_mdl_says_38 rfl 1 rfl ?_
      refine j_iconst (v := 1) C d_mdl_says_39 rfl (by decide) ?_
      obtain ⟨a11, h12, h⟩ := Option.bind_eq_some_iff.mp h
      obtain ⟨p13, h14, h⟩ := Option.bind_eq_some_iff.mp h
      refine j_callV C (As := [.int 1]) (st := []) (sk' := [.int p13.1]) mk_mdl_pushedWord (Or.inl T_985) T_987 S_51 (ci := 7) rfl h12 (rc_le hF (by decide)) (rc_le hL (by decide)) (ct_mdl_pushedWord h14) rfl rfl (by decide) d_mdl_says_40 rfl rfl ?_
      refine j_iconst (v := 1) C d_mdl_says_43 rfl (by decide) ?_
      refine j_icmp_eq (tgt := 49) C d_mdl_says_44 (by decide) rfl (fun c15 => ?_) (fun c15 => ?_)
      · rw [if_pos c15] at h
        refine j_iconst (v := (-1)) C d_mdl_says_49 rfl (by decide) ?_
        refine j_istore C (i := 4) d_mdl_says_50 rfl [(4, .int ((-1))), (3, .int p8.1), (0, va_rf (some a0)), (1, .int x1), (2, .int x2)] (rc_lt hN (by decide)) (by first | rfl | simp [va_rf_cat, rc_cat_i, rc_cat_l]) ?_
        refine j_aload_n C d_mdl_says_52 rfl 2 rfl ?_
        refine j_iconst (v := 2) C d_mdl_says_53 rfl (by decide) ?_
        obtain ⟨a16, h17, h⟩ := Option.bind_eq_some_iff.mp h
        obtain ⟨p18, h19, h⟩ := Option.bind_eq_some_iff.mp h
        refine j_callV C (As := [.int 2]) (st := []) (sk' := [.int p18.1]) mk_mdl_pushedWord (Or.inl T_985) T_987 S_51 (ci := 7) rfl h17 (rc_le hF (by decide)) (rc_le hL (by decide)) (ct_mdl_pushedWord h19) rfl rfl (by decide) d_mdl_says_54 rfl rfl ?_
        refine j_istore C (i := 5) d_mdl_says_57 rfl [(5, .int p18.1), (4, .int ((-1))), (3, .int p8.1), (0, va_rf (some a0)), (1, .int x1), (2, .int x2)] (rc_lt hN (by decide)) (by first | rfl | simp [va_rf_cat, rc_cat_i, rc_cat_l]) ?_
        refine j_aload_n C d_mdl_says_59 rfl 3 rfl ?_
        refine j_iconst (v := 3) C d_mdl_says_60 rfl (by decide) ?_
        obtain ⟨a20, h21, h⟩ := Option.bind_eq_some_iff.mp h
        obtain ⟨p22, h23, h⟩ := Option.bind_eq_some_iff.mp h
        refine j_callV C (As := [.int 3]) (st := []) (sk' := [.int p22.1]) mk_mdl_pushedWord (Or.inl T_985) T_987 S_51 (ci := 7) rfl h21 (rc_le hF (by decide)) (rc_le hL (by decide)) (ct_mdl_pushedWord h23) rfl rfl (by decide) d_mdl_says_61 rfl rfl ?_
        refine j_istore C (i := 6) d_mdl_says_64 rfl [(6, .int p22.1), (5, .int p18.1), (4, .int ((-1))), (3, .int p8.1), (0, va_rf (some a0)), (1, .int x1), (2, .int x2)] (rc_lt hN (by decide)) (by first | rfl | simp [va_rf_cat, rc_cat_i, rc_cat_l]) ?_
        refine j_aload_n C d_mdl_says_66 rfl 4 rfl ?_
        refine j_iconst (v := 4) C d_mdl_says_67 rfl (by decide) ?_
        obtain ⟨a24, h25, h⟩ := Option.bind_eq_some_iff.mp h
        obtain ⟨p26, h27, h⟩ := Option.bind_eq_some_iff.mp h
        refine j_callV C (As := [.int 4]) (st := []) (sk' := [.int p26.1]) mk_mdl_pushedWord (Or.inl T_985) T_987 S_51 (ci := 7) rfl h25 (rc_le hF (by decide)) (rc_le hL (by decide)) (ct_mdl_pushedWord h27) rfl rfl (by decide) d_mdl_says_68 rfl rfl ?_
        refine j_istore C (i := 7) d_mdl_says_71 rfl [(7, .int p26.1), (6, .int p22.1), (5, .int p18.1), (4, .int ((-1))), (3, .int p8.1), (0, va_rf (some a0)), (1, .int x1), (2, .int x2)] (rc_lt hN (by decide)) (by first | rfl | simp [va_rf_cat, rc_cat_i, rc_cat_l]) ?_
        refine j_iload C d_mdl_says_73 rfl 2 rfl ?_
        refine j_if_ne (tgt := 185) C d_mdl_says_75 (by decide) rfl (fun c28 => ?_) (fun c28 => ?_)
        · rw [if_neg c28] at h
          refine rc_J.sub (lv' := [(0, va_rf (some a0)), (2, .int x2), (3, .int p8.1), (4, .int ((-1))), (5, .int p18.1), (6, .int p22.1), (7, .int p26.1)]) [5, 7, 4, 3, 2, 1, 0] rfl ?_
          exact k_mdl_says_185 hF hL hN C E h
        · rw [if_pos c28] at h
          refine j_iload_n C d_mdl_says_78 rfl 4 rfl ?_
          refine j_bipush (v := 24) C d_mdl_says_79 rfl (by decide) ?_
          refine j_icmp_lt (tgt := 185) C d_mdl_says_81 (by decide) rfl (fun c29 => ?_) (fun c29 => ?_)
          · rw [if_pos c29] at h
            refine rc_J.sub (lv' := [(0, va_rf (some a0)), (2, .int x2), (3, .int p8.1), (4, .int ((-1))), (5, .int p18.1), (6, .int p22.1), (7, .int p26.1)]) [5, 7, 4, 3, 2, 1, 0] rfl ?_
            exact k_mdl_says_185 hF hL hN C E h
          · rw [if_neg c29] at h
            refine j_iload C d_mdl_says_84 rfl 1 rfl ?_
            refine j_if_ne (tgt := 185) C d_mdl_says_86 (by decide) rfl (fun c30 => ?_) (fun c30 => ?_)
            · rw [if_neg c30] at h
              refine rc_J.sub (lv' := [(0, va_rf (some a0)), (2, .int x2), (3, .int p8.1), (4, .int ((-1))), (5, .int p18.1), (6, .int p22.1), (7, .int p26.1)]) [5, 7, 4, 3, 2, 1, 0] rfl ?_
              exact k_mdl_says_185 hF hL hN C E h
            · rw [if_pos c30] at h
              refine j_iload C d_mdl_says_89 rfl 0 rfl ?_
              refine j_if_ne (tgt := 185) C d_mdl_says_91 (by decide) rfl (fun c31 => ?_) (fun c31 => ?_)
              · rw [if_neg c31] at h
                refine rc_J.sub (lv' := [(0, va_rf (some a0)), (2, .int x2), (3, .int p8.1), (4, .int ((-1))), (5, .int p18.1), (6, .int p22.1), (7, .int p26.1)]) [5, 7, 4, 3, 2, 1, 0] rfl ?_
                exact k_mdl_says_185 hF hL hN C E h
              · rw [if_pos c31] at h
                refine j_aload_n C d_mdl_says_94 rfl 5 rfl ?_
                refine j_iconst (v := 5) C d_mdl_says_95 rfl (by decide) ?_
                obtain ⟨a32, h33, h⟩ := Option.bind_eq_some_iff.mp h
                obtain ⟨p34, h35, h⟩ := Option.bind_eq_some_iff.mp h
                refine j_callV C (As := [.int 5]) (st := []) (sk' := [.int p34.1]) mk_mdl_pushedWord (Or.inl T_985) T_987 S_51 (ci := 7) rfl h33 (rc_le hF (by decide)) (rc_le hL (by decide)) (ct_mdl_pushedWord h35) rfl rfl (by decide) d_mdl_says_96 rfl rfl ?_
                refine j_istore C (i := 8) d_mdl_says_99 rfl [(8, .int p34.1), (7, .int p26.1), (6, .int p22.1), (5, .int p18.1), (4, .int ((-1))), (3, .int p8.1), (0, va_rf (some a0)), (1, .int x1), (2, .int x2)] (rc_lt hN (by decide)) (by first | rfl | simp [va_rf_cat, rc_cat_i, rc_cat_l]) ?_
                refine j_iload C d_mdl_says_101 rfl 0 rfl ?_
                refine j_if_eq (tgt := 162) C d_mdl_says_103 (by decide) rfl (fun c36 => ?_) (fun c36 => ?_)
                · rw [if_pos c36] at h
                  refine rc_J.sub (lv' := [(0, va_rf (some a0)), (2, .int x2), (8, .int p34.1)]) [6, 8, 0] rfl ?_
                  exact k_mdl_says_162 hF hL hN C E h
                · rw [if_neg c36] at h
                  refine j_iload C d_mdl_says_106 rfl 0 rfl ?_
                  refine j_iconst (v := 1) C d_mdl_says_108 rfl (by decide) ?_
                  refine j_icmp_eq (tgt := 124) C d_mdl_says_109 (by decide) rfl (fun c37 => ?_) (fun c37 => ?_)
                  · rw [if_pos c37] at h
                    refine rc_J.sub (lv' := [(0, va_rf (some a0)), (2, .int x2), (3, .int p8.1), (8, .int p34.1)]) [6, 8, 5, 0] rfl ?_
                    exact k_mdl_says_124 hF hL hN C E h
                  · rw [if_neg c37] at h
                    refine j_iload C d_mdl_says_112 rfl 0 rfl ?_
                    refine j_iconst (v := 3) C d_mdl_says_114 rfl (by decide) ?_
                    refine j_icmp_eq (tgt := 124) C d_mdl_says_115 (by decide) rfl (fun c38 => ?_) (fun c38 => ?_)
                    · rw [if_pos c38] at h
                      refine rc_J.sub (lv' := [(0, va_rf (some a0)), (2, .int x2), (3, .int p8.1), (8, .int p34.1)]) [6, 8, 5, 0] rfl ?_
                      exact k_mdl_says_124 hF hL hN C E h
                    · rw [if_neg c38] at h
                      refine j_iload C d_mdl_says_118 rfl 0 rfl ?_
                      refine j_iconst (v := 4) C d_mdl_says_120 rfl (by decide) ?_
                      refine j_icmp_ne (tgt := 130) C d_mdl_says_121 (by decide) rfl (fun c39 => ?_) (fun c39 => ?_)
                      · rw [if_neg c39] at h
                        refine rc_J.sub (lv' := [(0, va_rf (some a0)), (2, .int x2), (3, .int p8.1), (8, .int p34.1)]) [6, 8, 5, 0] rfl ?_
                        exact k_mdl_says_130 hF hL hN C E h
                      · rw [if_pos c39] at h
                        refine rc_J.sub (lv' := [(0, va_rf (some a0)), (2, .int x2), (3, .int p8.1), (8, .int p34.1)]) [6, 8, 5, 0] rfl ?_
                        exact k_mdl_says_124 hF hL hN C E h
      · rw [if_neg c15] at h
        refine rc_J.sub (lv' := []) [] rfl ?_
        exact k_mdl_says_47 hF hL hN C E h
  · rw [if_neg c5] at h
    refine j_iconst (v := 0) C d_mdl_says_24 rfl (by decide) ?_
    cases h
    exact j_iret C E d_mdl_says_25

set_option maxRecDepth 100000 in
set_option maxHeartbeats 4000000 in
theorem ct_mdl_says {l : Launch} {G : rc_G} {w : rc_M} {a0 : Nat} {x1 : Int32} {x2 : Int32} {res : Int32 × rc_M} (h : f_mdl_says w a0 x1 x2 = some res) : rc_Ct l G y_mdl_says prog_9_method_42_code 10 (some .int) 3 72 [va_rf (some a0), .int x1, .int x2] w (some (.int res.1)) res.2 := by
  refine rc_enter (by decide +kernel) (by simp [lg_sl, va_rf_cat, rc_cat_i, rc_cat_l]) ?_
  intro X _ _ hN hF hL C E
  have hlv : lv_args 0 [va_rf (some a0), .int x1, .int x2] = [(0, va_rf (some a0)), (1, .int x1), (2, .int x2)] := by simp [lv_args, va_rf_cat, rc_cat_i, rc_cat_l]
  rw [hlv]
  clear hlv
  unfold f_mdl_says at h
  refine j_aload_n C d_mdl_says_0 rfl 0 rfl ?_
  refine j_aload_n C d_mdl_says_1 rfl 0 rfl ?_
  refine j_iload_n C d_mdl_says_2 rfl 1 rfl ?_
  obtain ⟨a1, h2, h⟩ := Option.bind_eq_some_iff.mp h
  obtain ⟨p3, h4, h⟩ := Option.bind_eq_some_iff.mp h
  refine j_callV C (As := [.int x1]) (st := [va_rf (some a0)]) (sk' := [.int p3.1, va_rf (some a0)]) mk_mdl_isSlot (Or.inl T_860) T_862 S_27 (ci := 7) rfl h2 (rc_le hF (by decide)) (rc_le hL (by decide)) (ct_mdl_isSlot h4) rfl rfl (by simp [va_rf_cat, rc_cat_i, rc_cat_l]) d_mdl_says_3 rfl rfl ?_
  refine j_if_eq (tgt := 13) C d_mdl_says_6 (by decide) rfl (fun c5 => ?_) (fun c5 => ?_)
  · rw [if_pos c5] at h
    refine j_iconst (v := 1) C d_mdl_says_13 rfl (by decide) ?_
    exact k_mdl_says_14 hF hL hN C E h
  · rw [if_neg c5] at h
    refine j_iconst (v := 0) C d_mdl_says_9 rfl (by decide) ?_
    refine j_goto (tgt := 14) C d_mdl_says_10 (by decide) ?_
    exact k_mdl_says_14 hF hL hN C E h

set_option maxRecDepth 100000 in
set_option maxHeartbeats 4000000 in
theorem k_mdl_tapePlace_72 {X : rc_X} {w0 : rc_M} (hF : (q_R X).frames = 0) (hL : (q_R X).locals = 0) (hN : q_n X = 4) (C : rc_C X "RecordCallsModel" prog_9_method_43_code w0) {res : Int32 × rc_M} (E : rc_E0 X y_mdl_tapePlace (some .int) (some (.int res.1)) res.2) {k2 : rc_M → Nat → Int32 → Option (Int32 × rc_M)} (hk2 : ∀ (w : rc_M) (a0 : Nat) (x1 : Int32), k2 w a0 x1 = some res → rc_J X w 2 [] [(0, va_rf (some a0)), (1, .int x1)]) {k31 : rc_M → Nat → Int32 → Int32 → Int32 → Option (Int32 × rc_M)} (hk31 : ∀ (w : rc_M) (a0 : Nat) (x1 : Int32) (x2 : Int32) (x3 : Int32), k31 w a0 x1 x2 x3 = some res → rc_J X w 31 [] [(0, va_rf (some a0)), (1, .int x1), (2, .int x2), (3, .int x3)]) {w : rc_M} {a0 : Nat} {x1 : Int32} {x3 : Int32} {s0 : Int32} (h : b_mdl_tapePlace_72 k2 k31 w a0 x1 x3 s0 = some res) : rc_J X w 72 [.int s0] [(0, va_rf (some a0)), (1, .int x1), (3, .int x3)] := by
  unfold b_mdl_tapePlace_72 at h
  refine j_istore_n C (i := 2) d_mdl_tapePlace_72 rfl rfl [(2, .int s0), (0, va_rf (some a0)), (1, .int x1), (3, .int x3)] (rc_lt hN (by decide)) (by first | rfl | simp [va_rf_cat, rc_cat_i, rc_cat_l]) ?_
  refine j_iinc C d_mdl_tapePlace_73 rfl 3 [(3, .int (x3 + 1)), (2, .int s0), (0, va_rf (some a0)), (1, .int x1)] rfl rfl (rc_lt hN (by decide)) (by first | rfl | simp [va_rf_cat, rc_cat_i, rc_cat_l]) ?_
  refine j_goto (tgt := 31) C d_mdl_tapePlace_76 (by decide) ?_
  refine rc_J.sub (lv' := [(0, va_rf (some a0)), (1, .int x1), (2, .int s0), (3, .int (x3 + 1))]) [2, 3, 1, 0] rfl ?_
  exact hk31 _ _ _ _ _ h

set_option maxRecDepth 100000 in
set_option maxHeartbeats 4000000 in
theorem k_mdl_tapePlace_79 {X : rc_X} {w0 : rc_M} (hF : (q_R X).frames = 0) (hL : (q_R X).locals = 0) (hN : q_n X = 4) (C : rc_C X "RecordCallsModel" prog_9_method_43_code w0) {res : Int32 × rc_M} (E : rc_E0 X y_mdl_tapePlace (some .int) (some (.int res.1)) res.2) {k2 : rc_M → Nat → Int32 → Option (Int32 × rc_M)} (hk2 : ∀ (w : rc_M) (a0 : Nat) (x1 : Int32), k2 w a0 x1 = some res → rc_J X w 2 [] [(0, va_rf (some a0)), (1, .int x1)]) {w : rc_M} {a0 : Nat} {x1 : Int32} {x2 : Int32} (h : b_mdl_tapePlace_79 k2 w a0 x1 x2 = some res) : rc_J X w 79 [] [(0, va_rf (some a0)), (1, .int x1), (2, .int x2)] := by
  unfold b_mdl_tapePlace_79 at h
  refine j_iload_n C d_mdl_tapePlace_79 rfl 2 rfl ?_
  refine j_if_eq (tgt := 85) C d_mdl_tapePlace_80 (by decide) rfl (fun c1 => ?_) (fun c1 => ?_)
  · rw [if_pos c1] at h
    refine j_iinc C d_mdl_tapePlace_85 rfl 1 [(1, .int (x1 + 1)), (0, va_rf (some a0)), (2, .int x2)] rfl rfl (rc_lt hN (by decide)) (by first | rfl | simp [va_rf_cat, rc_cat_i, rc_cat_l]) ?_
    refine j_goto (tgt := 2) C d_mdl_tapePlace_88 (by decide) ?_
    refine rc_J.sub (lv' := [(0, va_rf (some a0)), (1, .int (x1 + 1))]) [1, 0] rfl ?_
    exact hk2 _ _ _ h
  · rw [if_neg c1] at h
    refine j_iload_n C d_mdl_tapePlace_83 rfl 1 rfl ?_
    cases h
    exact j_iret C E d_mdl_tapePlace_84

set_option maxRecDepth 100000 in
set_option maxHeartbeats 4000000 in
theorem k_mdl_tapePlace_31 {X : rc_X} {w0 : rc_M} (hF : (q_R X).frames = 0) (hL : (q_R X).locals = 0) (hN : q_n X = 4) (C : rc_C X "RecordCallsModel" prog_9_method_43_code w0) {res : Int32 × rc_M} (E : rc_E0 X y_mdl_tapePlace (some .int) (some (.int res.1)) res.2) {k2 : rc_M → Nat → Int32 → Option (Int32 × rc_M)} (hk2 : ∀ (w : rc_M) (a0 : Nat) (x1 : Int32), k2 w a0 x1 = some res → rc_J X w 2 [] [(0, va_rf (some a0)), (1, .int x1)]) : ∀ (fuel : Nat) (w : rc_M) (a0 : Nat) (x1 : Int32) (x2 : Int32) (x3 : Int32), b_mdl_tapePlace_31 k2 fuel w a0 x1 x2 x3 = some res → rc_J X w 31 [] [(0, va_rf (some a0)), (1, .int x1), (2, .int x2), (3, .int x3)] := by
  intro fuel
  induction fuel with
  | zero => intro w a0 x1 x2 x3 h; simp [b_mdl_tapePlace_31] at h
  | succ fuel ih =>
    intro w a0 x1 x2 x3 h
    unfold b_mdl_tapePlace_31 at h
    refine j_iload_n C d_mdl_tapePlace_31 rfl 2 rfl ?_
    refine j_if_eq (tgt := 79) C d_mdl_tapePlace_32 (by decide) rfl (fun c1 => ?_) (fun c1 => ?_)
    · rw [if_pos c1] at h
      refine rc_J.sub (lv' := [(0, va_rf (some a0)), (1, .int x1), (2, .int x2)]) [0, 1, 2] rfl ?_
      exact k_mdl_tapePlace_79 hF hL hN C E hk2 h
    · rw [if_neg c1] at h
      refine j_iload_n C d_mdl_tapePlace_35 rfl 3 rfl ?_
      refine j_aload_n C d_mdl_tapePlace_36 rfl 0 rfl ?_
      obtain ⟨v2, h3, h⟩ := Option.bind_eq_some_iff.mp h
      refine j_getI C fl_mdl_93 h3 d_mdl_tapePlace_37 rfl ?_
      refine j_icmp_ge (tgt := 79) C d_mdl_tapePlace_40 (by decide) rfl (fun c4 => ?_) (fun c4 => ?_)
      · rw [if_pos c4] at h
        refine rc_J.sub (lv' := [(0, va_rf (some a0)), (1, .int x1), (2, .int x2)]) [0, 1, 2] rfl ?_
        exact k_mdl_tapePlace_79 hF hL hN C E hk2 h
      · rw [if_neg c4] at h
        refine j_aload_n C d_mdl_tapePlace_43 rfl 0 rfl ?_
        obtain ⟨v5, h6, h⟩ := Option.bind_eq_some_iff.mp h
        refine j_getR C fl_mdl_24 h6 d_mdl_tapePlace_44 rfl ?_
        refine j_bipush (v := 16) C d_mdl_tapePlace_47 rfl (by decide) ?_
        refine j_iload_n C d_mdl_tapePlace_49 rfl 1 rfl ?_
        refine j_imul C d_mdl_tapePlace_50 rfl ?_
        refine j_iload_n C d_mdl_tapePlace_51 rfl 3 rfl ?_
        refine j_iadd C d_mdl_tapePlace_52 rfl ?_
        obtain ⟨v7, h8, h⟩ := Option.bind_eq_some_iff.mp h
        refine j_bald C h8 d_mdl_tapePlace_53 rfl ?_
        refine j_sipush (v := 255) C d_mdl_tapePlace_54 rfl (by decide) ?_
        refine j_iand C d_mdl_tapePlace_57 rfl ?_
        refine j_aload_n C d_mdl_tapePlace_58 rfl 0 rfl ?_
        obtain ⟨v9, h10, h⟩ := Option.bind_eq_some_iff.mp h
        refine j_getR C fl_mdl_7 h10 d_mdl_tapePlace_59 rfl ?_
        refine j_iload_n C d_mdl_tapePlace_62 rfl 3 rfl ?_
        obtain ⟨v11, h12, h⟩ := Option.bind_eq_some_iff.mp h
        refine j_iald C h12 d_mdl_tapePlace_63 rfl ?_
        refine j_icmp_ne (tgt := 71) C d_mdl_tapePlace_64 (by decide) rfl (fun c13 => ?_) (fun c13 => ?_)
        · rw [if_neg c13] at h
          refine j_iconst (v := 0) C d_mdl_tapePlace_71 rfl (by decide) ?_
          refine rc_J.sub (lv' := [(0, va_rf (some a0)), (1, .int x1), (3, .int x3)]) [0, 1, 3] rfl ?_
          exact k_mdl_tapePlace_72 hF hL hN C E hk2 (fun w z0 z1 z2 z3 h => ih w z0 z1 z2 z3 h) h
        · rw [if_pos c13] at h
          refine j_iconst (v := 1) C d_mdl_tapePlace_67 rfl (by decide) ?_
          refine j_goto (tgt := 72) C d_mdl_tapePlace_68 (by decide) ?_
          refine rc_J.sub (lv' := [(0, va_rf (some a0)), (1, .int x1), (3, .int x3)]) [0, 1, 3] rfl ?_
          exact k_mdl_tapePlace_72 hF hL hN C E hk2 (fun w z0 z1 z2 z3 h => ih w z0 z1 z2 z3 h) h

set_option maxRecDepth 100000 in
set_option maxHeartbeats 4000000 in
theorem k_mdl_tapePlace_28 {X : rc_X} {w0 : rc_M} (hF : (q_R X).frames = 0) (hL : (q_R X).locals = 0) (hN : q_n X = 4) (C : rc_C X "RecordCallsModel" prog_9_method_43_code w0) {res : Int32 × rc_M} (E : rc_E0 X y_mdl_tapePlace (some .int) (some (.int res.1)) res.2) {k2 : rc_M → Nat → Int32 → Option (Int32 × rc_M)} (hk2 : ∀ (w : rc_M) (a0 : Nat) (x1 : Int32), k2 w a0 x1 = some res → rc_J X w 2 [] [(0, va_rf (some a0)), (1, .int x1)]) {w : rc_M} {a0 : Nat} {x1 : Int32} {s0 : Int32} (h : b_mdl_tapePlace_28 k2 w a0 x1 s0 = some res) : rc_J X w 28 [.int s0] [(0, va_rf (some a0)), (1, .int x1)] := by
  unfold b_mdl_tapePlace_28 at h
  refine j_istore_n C (i := 2) d_mdl_tapePlace_28 rfl rfl [(2, .int s0), (0, va_rf (some a0)), (1, .int x1)] (rc_lt hN (by decide)) (by first | rfl | simp [va_rf_cat, rc_cat_i, rc_cat_l]) ?_
  refine j_iconst (v := 0) C d_mdl_tapePlace_29 rfl (by decide) ?_
  refine j_istore_n C (i := 3) d_mdl_tapePlace_30 rfl rfl [(3, .int 0), (2, .int s0), (0, va_rf (some a0)), (1, .int x1)] (rc_lt hN (by decide)) (by first | rfl | simp [va_rf_cat, rc_cat_i, rc_cat_l]) ?_
  refine rc_J.sub (lv' := [(0, va_rf (some a0)), (1, .int x1), (2, .int s0), (3, .int 0)]) [2, 3, 1, 0] rfl ?_
  exact k_mdl_tapePlace_31 hF hL hN C E hk2 _ _ _ _ _ _ h

set_option maxRecDepth 100000 in
set_option maxHeartbeats 4000000 in
theorem k_mdl_tapePlace_2 {X : rc_X} {w0 : rc_M} (hF : (q_R X).frames = 0) (hL : (q_R X).locals = 0) (hN : q_n X = 4) (C : rc_C X "RecordCallsModel" prog_9_method_43_code w0) {res : Int32 × rc_M} (E : rc_E0 X y_mdl_tapePlace (some .int) (some (.int res.1)) res.2) : ∀ (fuel : Nat) (w : rc_M) (a0 : Nat) (x1 : Int32), b_mdl_tapePlace_2 fuel w a0 x1 = some res → rc_J X w 2 [] [(0, va_rf (some a0)), (1, .int x1)] := by
  intro fuel
  induction fuel with
  | zero => intro w a0 x1 h; simp [b_mdl_tapePlace_2] at h
  | succ fuel ih =>
    intro w a0 x1 h
    unfold b_mdl_tapePlace_2 at h
    refine j_iload_n C d_mdl_tapePlace_2 rfl 1 rfl ?_
    refine j_aload_n C d_mdl_tapePlace_3 rfl 0 rfl ?_
    obtain ⟨v1, h2, h⟩ := Option.bind_eq_some_iff.mp h
    refine j_getI C fl_mdl_188 h2 d_mdl_tapePlace_4 rfl ?_
    refine j_icmp_ge (tgt := 91) C d_mdl_tapePlace_7 (by decide) rfl (fun c3 => ?_) (fun c3 => ?_)
    · rw [if_pos c3] at h
      refine j_iconst (v := (-1)) C d_mdl_tapePlace_91 rfl (by decide) ?_
      cases h
      exact j_iret C E d_mdl_tapePlace_92
    · rw [if_neg c3] at h
      refine j_aload_n C d_mdl_tapePlace_10 rfl 0 rfl ?_
      obtain ⟨v4, h5, h⟩ := Option.bind_eq_some_iff.mp h
      refine j_getR C fl_mdl_27 h5 d_mdl_tapePlace_11 rfl ?_
      refine j_iload_n C d_mdl_tapePlace_14 rfl 1 rfl ?_
      obtain ⟨v6, h7, h⟩ := Option.bind_eq_some_iff.mp h
      refine j_iald C h7 d_mdl_tapePlace_15 rfl ?_
      refine j_aload_n C d_mdl_tapePlace_16 rfl 0 rfl ?_
      obtain ⟨v8, h9, h⟩ := Option.bind_eq_some_iff.mp h
      refine j_getI C fl_mdl_93 h9 d_mdl_tapePlace_17 rfl ?_
      refine j_icmp_ne (tgt := 27) C d_mdl_tapePlace_20 (by decide) rfl (fun c10 => ?_) (fun c10 => ?_)
      · rw [if_neg c10] at h
        refine j_iconst (v := 0) C d_mdl_tapePlace_27 rfl (by decide) ?_
        exact k_mdl_tapePlace_28 hF hL hN C E (fun w z0 z1 h => ih w z0 z1 h) h
      · rw [if_pos c10] at h
        refine j_iconst (v := 1) C d_mdl_tapePlace_23 rfl (by decide) ?_
        refine j_goto (tgt := 28) C d_mdl_tapePlace_24 (by decide) ?_
        exact k_mdl_tapePlace_28 hF hL hN C E (fun w z0 z1 h => ih w z0 z1 h) h

set_option maxRecDepth 100000 in
set_option maxHeartbeats 4000000 in
theorem ct_mdl_tapePlace {l : Launch} {G : rc_G} {w : rc_M} {a0 : Nat} {res : Int32 × rc_M} (h : f_mdl_tapePlace w a0 = some res) : rc_Ct l G y_mdl_tapePlace prog_9_method_43_code 4 (some .int) 0 0 [va_rf (some a0)] w (some (.int res.1)) res.2 := by
  refine rc_enter (by decide +kernel) (by simp [lg_sl, va_rf_cat, rc_cat_i, rc_cat_l]) ?_
  intro X _ _ hN hF hL C E
  have hlv : lv_args 0 [va_rf (some a0)] = [(0, va_rf (some a0))] := by simp [lv_args, va_rf_cat, rc_cat_i, rc_cat_l]
  rw [hlv]
  clear hlv
  unfold f_mdl_tapePlace at h
  refine j_iconst (v := 0) C d_mdl_tapePlace_0 rfl (by decide) ?_
  refine j_istore_n C (i := 1) d_mdl_tapePlace_1 rfl rfl [(1, .int 0), (0, va_rf (some a0))] (rc_lt hN (by decide)) (by first | rfl | simp [va_rf_cat, rc_cat_i, rc_cat_l]) ?_
  refine rc_J.sub (lv' := [(0, va_rf (some a0)), (1, .int 0)]) [1, 0] rfl ?_
  exact k_mdl_tapePlace_2 hF hL hN C E _ _ _ _ h

set_option maxRecDepth 100000 in
set_option maxHeartbeats 4000000 in
theorem k_mdl_value_25 {X : rc_X} {w0 : rc_M} (hF : (q_R X).frames = 1) (hL : (q_R X).locals = 23) (hN : q_n X = 1) (C : rc_C X "RecordCallsModel" prog_9_method_44_code w0) {res : Int64 × rc_M} (E : rc_E0 X y_mdl_value (some .long) (some (.long res.1)) res.2) {w : rc_M} {s0 : Int64} (h : b_mdl_value_25 w s0 = some res) : rc_J X w 25 [.long s0] [] := by
  unfold b_mdl_value_25 at h
  cases h
  exact j_lret C E d_mdl_value_25

set_option maxRecDepth 100000 in
set_option maxHeartbeats 4000000 in
theorem ct_mdl_value {l : Launch} {G : rc_G} {w : rc_M} {a0 : Nat} {res : Int64 × rc_M} (h : f_mdl_value w a0 = some res) : rc_Ct l G y_mdl_value prog_9_method_44_code 1 (some .long) 1 23 [va_rf (some a0)] w (some (.long res.1)) res.2 := by
  refine rc_enter (by decide +kernel) (by simp [lg_sl, va_rf_cat, rc_cat_i, rc_cat_l]) ?_
  intro X _ _ hN hF hL C E
  have hlv : lv_args 0 [va_rf (some a0)] = [(0, va_rf (some a0))] := by simp [lv_args, va_rf_cat, rc_cat_i, rc_cat_l]
  rw [hlv]
  clear hlv
  unfold f_mdl_value at h
  refine j_aload_n C d_mdl_value_0 rfl 0 rfl ?_
  refine j_iconst (v := 0) C d_mdl_value_1 rfl (by decide) ?_
  obtain ⟨w1, h2, h⟩ := Option.bind_eq_some_iff.mp h
  refine j_putV C (ci := 7) (k := 0) (by decide) (by decide) T_719 (Or.inl rfl) rfl rfl h2 d_mdl_value_2 rfl ?_
  refine j_aload_n C d_mdl_value_5 rfl 0 rfl ?_
  obtain ⟨a3, h4, h⟩ := Option.bind_eq_some_iff.mp h
  obtain ⟨p5, h6, h⟩ := Option.bind_eq_some_iff.mp h
  refine j_callV C (As := []) (st := []) (sk' := [.int p5.1]) mk_mdl_tapePlace (Or.inl T_993) T_995 S_52 (ci := 7) rfl h4 (rc_le hF (by decide)) (rc_le hL (by decide)) (ct_mdl_tapePlace h6) rfl rfl (by decide) d_mdl_value_6 rfl rfl ?_
  refine j_if_lt (tgt := 24) C d_mdl_value_9 (by decide) rfl (fun c7 => ?_) (fun c7 => ?_)
  · rw [if_pos c7] at h
    refine j_lconst (v := 0) C d_mdl_value_24 rfl (by decide) ?_
    refine rc_J.sub (lv' := []) [] rfl ?_
    exact k_mdl_value_25 hF hL hN C E h
  · rw [if_neg c7] at h
    refine j_aload_n C d_mdl_value_12 rfl 0 rfl ?_
    obtain ⟨v8, h9, h⟩ := Option.bind_eq_some_iff.mp h
    refine j_getR C fl_mdl_30 h9 d_mdl_value_13 rfl ?_
    refine j_aload_n C d_mdl_value_16 rfl 0 rfl ?_
    obtain ⟨a10, h11, h⟩ := Option.bind_eq_some_iff.mp h
    obtain ⟨p12, h13, h⟩ := Option.bind_eq_some_iff.mp h
    refine j_callV C (As := []) (st := [va_rf v8]) (sk' := [.int p12.1, va_rf v8]) mk_mdl_tapePlace (Or.inl T_993) T_995 S_52 (ci := 7) rfl h11 (rc_le hF (by decide)) (rc_le hL (by decide)) (ct_mdl_tapePlace h13) rfl rfl (by simp [va_rf_cat, rc_cat_i, rc_cat_l]) d_mdl_value_17 rfl rfl ?_
    obtain ⟨v14, h15, h⟩ := Option.bind_eq_some_iff.mp h
    refine j_lald C h15 d_mdl_value_20 rfl ?_
    refine j_goto (tgt := 25) C d_mdl_value_21 (by decide) ?_
    refine rc_J.sub (lv' := []) [] rfl ?_
    exact k_mdl_value_25 hF hL hN C E h

set_option maxRecDepth 100000 in
set_option maxHeartbeats 4000000 in
theorem k_mdl_has_17 {X : rc_X} {w0 : rc_M} (hF : (q_R X).frames = 1) (hL : (q_R X).locals = 23) (hN : q_n X = 1) (C : rc_C X "RecordCallsModel" prog_9_method_45_code w0) {res : Int32 × rc_M} (E : rc_E0 X y_mdl_has (some .boolean) (some (.int res.1)) res.2) {w : rc_M} {s0 : Int32} (h : b_mdl_has_17 w s0 = some res) : rc_J X w 17 [.int s0] [] := by
  unfold b_mdl_has_17 at h
  obtain ⟨hz, rfl⟩ := rc_z1_spec h
  exact j_zret C hz E d_mdl_has_17

set_option maxRecDepth 100000 in
set_option maxHeartbeats 4000000 in
theorem ct_mdl_has {l : Launch} {G : rc_G} {w : rc_M} {a0 : Nat} {res : Int32 × rc_M} (h : f_mdl_has w a0 = some res) : rc_Ct l G y_mdl_has prog_9_method_45_code 1 (some .boolean) 1 23 [va_rf (some a0)] w (some (.int res.1)) res.2 := by
  refine rc_enter (by decide +kernel) (by simp [lg_sl, va_rf_cat, rc_cat_i, rc_cat_l]) ?_
  intro X _ _ hN hF hL C E
  have hlv : lv_args 0 [va_rf (some a0)] = [(0, va_rf (some a0))] := by simp [lv_args, va_rf_cat, rc_cat_i, rc_cat_l]
  rw [hlv]
  clear hlv
  unfold f_mdl_has at h
  refine j_aload_n C d_mdl_has_0 rfl 0 rfl ?_
  refine j_iconst (v := 0) C d_mdl_has_1 rfl (by decide) ?_
  obtain ⟨w1, h2, h⟩ := Option.bind_eq_some_iff.mp h
  refine j_putV C (ci := 7) (k := 0) (by decide) (by decide) T_719 (Or.inl rfl) rfl rfl h2 d_mdl_has_2 rfl ?_
  refine j_aload_n C d_mdl_has_5 rfl 0 rfl ?_
  obtain ⟨a3, h4, h⟩ := Option.bind_eq_some_iff.mp h
  obtain ⟨p5, h6, h⟩ := Option.bind_eq_some_iff.mp h
  refine j_callV C (As := []) (st := []) (sk' := [.int p5.1]) mk_mdl_tapePlace (Or.inl T_993) T_995 S_52 (ci := 7) rfl h4 (rc_le hF (by decide)) (rc_le hL (by decide)) (ct_mdl_tapePlace h6) rfl rfl (by decide) d_mdl_has_6 rfl rfl ?_
  refine j_if_lt (tgt := 16) C d_mdl_has_9 (by decide) rfl (fun c7 => ?_) (fun c7 => ?_)
  · rw [if_pos c7] at h
    refine j_iconst (v := 0) C d_mdl_has_16 rfl (by decide) ?_
    refine rc_J.sub (lv' := []) [] rfl ?_
    exact k_mdl_has_17 hF hL hN C E h
  · rw [if_neg c7] at h
    refine j_iconst (v := 1) C d_mdl_has_12 rfl (by decide) ?_
    refine j_goto (tgt := 17) C d_mdl_has_13 (by decide) ?_
    refine rc_J.sub (lv' := []) [] rfl ?_
    exact k_mdl_has_17 hF hL hN C E h

set_option maxRecDepth 100000 in
set_option maxHeartbeats 4000000 in
theorem k_mdl_count_56 {X : rc_X} {w0 : rc_M} (hF : (q_R X).frames = 0) (hL : (q_R X).locals = 0) (hN : q_n X = 2) (C : rc_C X "RecordCallsModel" prog_9_method_46_code w0) {res : Int32 × rc_M} (E : rc_E0 X y_mdl_count (some .int) (some (.int res.1)) res.2) {w : rc_M} {s0 : Int32} (h : b_mdl_count_56 w s0 = some res) : rc_J X w 56 [.int s0] [] := by
  unfold b_mdl_count_56 at h
  cases h
  exact j_iret C E d_mdl_count_56

set_option maxRecDepth 100000 in
set_option maxHeartbeats 4000000 in
theorem k_mdl_count_108 {X : rc_X} {w0 : rc_M} (hF : (q_R X).frames = 0) (hL : (q_R X).locals = 0) (hN : q_n X = 2) (C : rc_C X "RecordCallsModel" prog_9_method_46_code w0) {res : Int32 × rc_M} (E : rc_E0 X y_mdl_count (some .int) (some (.int res.1)) res.2) {w : rc_M} {s0 : Int32} (h : b_mdl_count_108 w s0 = some res) : rc_J X w 108 [.int s0] [] := by
  unfold b_mdl_count_108 at h
  cases h
  exact j_iret C E d_mdl_count_108

set_option maxRecDepth 100000 in
set_option maxHeartbeats 4000000 in
theorem k_mdl_count_16 {X : rc_X} {w0 : rc_M} (hF : (q_R X).frames = 0) (hL : (q_R X).locals = 0) (hN : q_n X = 2) (C : rc_C X "RecordCallsModel" prog_9_method_46_code w0) {res : Int32 × rc_M} (E : rc_E0 X y_mdl_count (some .int) (some (.int res.1)) res.2) {w : rc_M} {a0 : Nat} {x1 : Int32} {s0 : Option Nat} {s1 : Int32} (h : b_mdl_count_16 w a0 x1 s0 s1 = some res) : rc_J X w 16 [.int s1, va_rf s0] [(0, va_rf (some a0)), (1, .int x1)] := by
  unfold b_mdl_count_16 at h
  obtain ⟨w1, h2, h⟩ := Option.bind_eq_some_iff.mp h
  refine j_putV C (ci := 7) (k := 0) (by decide) (by decide) T_719 (Or.inl rfl) rfl rfl h2 d_mdl_count_16 rfl ?_
  refine j_aload_n C d_mdl_count_19 rfl 0 rfl ?_
  obtain ⟨v3, h4, h⟩ := Option.bind_eq_some_iff.mp h
  refine j_getI C fl_mdl_74 h4 d_mdl_count_20 rfl ?_
  refine j_if_le (tgt := 28) C d_mdl_count_23 (by decide) rfl (fun c5 => ?_) (fun c5 => ?_)
  · rw [if_pos c5] at h
    refine j_iload_n C d_mdl_count_28 rfl 1 rfl ?_
    refine j_iconst (v := 4) C d_mdl_count_29 rfl (by decide) ?_
    refine j_icmp_le (tgt := 57) C d_mdl_count_30 (by decide) rfl (fun c6 => ?_) (fun c6 => ?_)
    · rw [if_pos c6] at h
      refine j_iload_n C d_mdl_count_57 rfl 1 rfl ?_
      refine j_if_ne (tgt := 68) C d_mdl_count_58 (by decide) rfl (fun c7 => ?_) (fun c7 => ?_)
      · rw [if_neg c7] at h
        refine j_iload_n C d_mdl_count_68 rfl 1 rfl ?_
        refine j_iconst (v := 1) C d_mdl_count_69 rfl (by decide) ?_
        refine j_icmp_ne (tgt := 80) C d_mdl_count_70 (by decide) rfl (fun c8 => ?_) (fun c8 => ?_)
        · rw [if_neg c8] at h
          refine j_iload_n C d_mdl_count_80 rfl 1 rfl ?_
          refine j_iconst (v := 2) C d_mdl_count_81 rfl (by decide) ?_
          refine j_icmp_ne (tgt := 92) C d_mdl_count_82 (by decide) rfl (fun c9 => ?_) (fun c9 => ?_)
          · rw [if_neg c9] at h
            refine j_iload_n C d_mdl_count_92 rfl 1 rfl ?_
            refine j_iconst (v := 3) C d_mdl_count_93 rfl (by decide) ?_
            refine j_icmp_ne (tgt := 104) C d_mdl_count_94 (by decide) rfl (fun c10 => ?_) (fun c10 => ?_)
            · rw [if_neg c10] at h
              refine j_aload_n C d_mdl_count_104 rfl 0 rfl ?_
              obtain ⟨v11, h12, h⟩ := Option.bind_eq_some_iff.mp h
              refine j_getI C fl_mdl_147 h12 d_mdl_count_105 rfl ?_
              refine rc_J.sub (lv' := []) [] rfl ?_
              exact k_mdl_count_108 hF hL hN C E h
            · rw [if_pos c10] at h
              refine j_aload_n C d_mdl_count_97 rfl 0 rfl ?_
              obtain ⟨v13, h14, h⟩ := Option.bind_eq_some_iff.mp h
              refine j_getI C fl_mdl_150 h14 d_mdl_count_98 rfl ?_
              refine j_goto (tgt := 108) C d_mdl_count_101 (by decide) ?_
              refine rc_J.sub (lv' := []) [] rfl ?_
              exact k_mdl_count_108 hF hL hN C E h
          · rw [if_pos c9] at h
            refine j_aload_n C d_mdl_count_85 rfl 0 rfl ?_
            obtain ⟨v15, h16, h⟩ := Option.bind_eq_some_iff.mp h
            refine j_getI C fl_mdl_175 h16 d_mdl_count_86 rfl ?_
            refine j_goto (tgt := 108) C d_mdl_count_89 (by decide) ?_
            refine rc_J.sub (lv' := []) [] rfl ?_
            exact k_mdl_count_108 hF hL hN C E h
        · rw [if_pos c8] at h
          refine j_aload_n C d_mdl_count_73 rfl 0 rfl ?_
          obtain ⟨v17, h18, h⟩ := Option.bind_eq_some_iff.mp h
          refine j_getI C fl_mdl_188 h18 d_mdl_count_74 rfl ?_
          refine j_goto (tgt := 108) C d_mdl_count_77 (by decide) ?_
          refine rc_J.sub (lv' := []) [] rfl ?_
          exact k_mdl_count_108 hF hL hN C E h
      · rw [if_pos c7] at h
        refine j_aload_n C d_mdl_count_61 rfl 0 rfl ?_
        obtain ⟨v19, h20, h⟩ := Option.bind_eq_some_iff.mp h
        refine j_getI C fl_mdl_78 h20 d_mdl_count_62 rfl ?_
        refine j_goto (tgt := 108) C d_mdl_count_65 (by decide) ?_
        refine rc_J.sub (lv' := []) [] rfl ?_
        exact k_mdl_count_108 hF hL hN C E h
    · rw [if_neg c6] at h
      refine j_aload_n C d_mdl_count_33 rfl 0 rfl ?_
      obtain ⟨v21, h22, h⟩ := Option.bind_eq_some_iff.mp h
      refine j_getR C fl_mdl_56 h22 d_mdl_count_34 rfl ?_
      refine j_iload_n C d_mdl_count_37 rfl 1 rfl ?_
      refine j_iconst (v := 5) C d_mdl_count_38 rfl (by decide) ?_
      refine j_isub C d_mdl_count_39 rfl ?_
      obtain ⟨v23, h24, h⟩ := Option.bind_eq_some_iff.mp h
      refine j_zald C h24 d_mdl_count_40 rfl ?_
      refine j_if_eq (tgt := 48) C d_mdl_count_41 (by decide) rfl (fun c25 => ?_) (fun c25 => ?_)
      · rw [if_pos c25] at h
        refine j_aload_n C d_mdl_count_48 rfl 0 rfl ?_
        obtain ⟨v26, h27, h⟩ := Option.bind_eq_some_iff.mp h
        refine j_getR C fl_mdl_37 h27 d_mdl_count_49 rfl ?_
        refine j_iload_n C d_mdl_count_52 rfl 1 rfl ?_
        refine j_iconst (v := 5) C d_mdl_count_53 rfl (by decide) ?_
        refine j_isub C d_mdl_count_54 rfl ?_
        obtain ⟨v28, h29, h⟩ := Option.bind_eq_some_iff.mp h
        refine j_iald C h29 d_mdl_count_55 rfl ?_
        refine rc_J.sub (lv' := []) [] rfl ?_
        exact k_mdl_count_56 hF hL hN C E h
      · rw [if_neg c25] at h
        refine j_iconst (v := (-1)) C d_mdl_count_44 rfl (by decide) ?_
        refine j_goto (tgt := 56) C d_mdl_count_45 (by decide) ?_
        refine rc_J.sub (lv' := []) [] rfl ?_
        exact k_mdl_count_56 hF hL hN C E h
  · rw [if_neg c5] at h
    refine j_iconst (v := 0) C d_mdl_count_26 rfl (by decide) ?_
    cases h
    exact j_iret C E d_mdl_count_27

set_option maxRecDepth 100000 in
set_option maxHeartbeats 4000000 in
theorem k_mdl_count_15 {X : rc_X} {w0 : rc_M} (hF : (q_R X).frames = 0) (hL : (q_R X).locals = 0) (hN : q_n X = 2) (C : rc_C X "RecordCallsModel" prog_9_method_46_code w0) {res : Int32 × rc_M} (E : rc_E0 X y_mdl_count (some .int) (some (.int res.1)) res.2) {w : rc_M} {a0 : Nat} {x1 : Int32} {s0 : Option Nat} (h : b_mdl_count_15 w a0 x1 s0 = some res) : rc_J X w 15 [va_rf s0] [(0, va_rf (some a0)), (1, .int x1)] := by
  unfold b_mdl_count_15 at h
  refine j_iconst (v := 1) C d_mdl_count_15 rfl (by decide) ?_
  exact k_mdl_count_16 hF hL hN C E h

set_option maxRecDepth 100000 in
set_option maxHeartbeats 4000000 in
theorem ct_mdl_count {l : Launch} {G : rc_G} {w : rc_M} {a0 : Nat} {x1 : Int32} {res : Int32 × rc_M} (h : f_mdl_count w a0 x1 = some res) : rc_Ct l G y_mdl_count prog_9_method_46_code 2 (some .int) 0 0 [va_rf (some a0), .int x1] w (some (.int res.1)) res.2 := by
  refine rc_enter (by decide +kernel) (by simp [lg_sl, va_rf_cat, rc_cat_i, rc_cat_l]) ?_
  intro X _ _ hN hF hL C E
  have hlv : lv_args 0 [va_rf (some a0), .int x1] = [(0, va_rf (some a0)), (1, .int x1)] := by simp [lv_args, va_rf_cat, rc_cat_i, rc_cat_l]
  rw [hlv]
  clear hlv
  unfold f_mdl_count at h
  refine j_aload_n C d_mdl_count_0 rfl 0 rfl ?_
  refine j_iload_n C d_mdl_count_1 rfl 1 rfl ?_
  refine j_if_lt (tgt := 15) C d_mdl_count_2 (by decide) rfl (fun c1 => ?_) (fun c1 => ?_)
  · rw [if_pos c1] at h
    exact k_mdl_count_15 hF hL hN C E h
  · rw [if_neg c1] at h
    refine j_iload_n C d_mdl_count_5 rfl 1 rfl ?_
    refine j_bipush (v := 8) C d_mdl_count_6 rfl (by decide) ?_
    refine j_icmp_gt (tgt := 15) C d_mdl_count_8 (by decide) rfl (fun c2 => ?_) (fun c2 => ?_)
    · rw [if_pos c2] at h
      exact k_mdl_count_15 hF hL hN C E h
    · rw [if_neg c2] at h
      refine j_iconst (v := 0) C d_mdl_count_11 rfl (by decide) ?_
      refine j_goto (tgt := 16) C d_mdl_count_12 (by decide) ?_
      exact k_mdl_count_16 hF hL hN C E h

