theorem dX11_sets_0 : decode cX11_sets 0 = .ok (.aload_n 0, 1) := by decide +kernel
theorem dX11_sets_1 : decode cX11_sets 1 = .ok (.getfield 42, 3) := by decide +kernel
theorem dX11_sets_4 : decode cX11_sets 4 = .ok (.bipush 80, 2) := by decide +kernel
theorem dX11_sets_6 : decode cX11_sets 6 = .ok (.iload_n 1, 1) := by decide +kernel
theorem dX11_sets_7 : decode cX11_sets 7 = .ok (.imul, 1) := by decide +kernel
theorem dX11_sets_8 : decode cX11_sets 8 = .ok (.iload_n 2, 1) := by decide +kernel
theorem dX11_sets_9 : decode cX11_sets 9 = .ok (.iastore, 1) := by decide +kernel
theorem dX11_sets_10 : decode cX11_sets 10 = .ok (.aload_n 0, 1) := by decide +kernel
theorem dX11_sets_11 : decode cX11_sets 11 = .ok (.getfield 45, 3) := by decide +kernel
theorem dX11_sets_14 : decode cX11_sets 14 = .ok (.iload_n 1, 1) := by decide +kernel
theorem dX11_sets_15 : decode cX11_sets 15 = .ok (.iload_n 2, 1) := by decide +kernel
theorem dX11_sets_16 : decode cX11_sets 16 = .ok (.ifCond .ne 7, 3) := by decide +kernel
theorem dX11_sets_19 : decode cX11_sets 19 = .ok (.iconst 0, 1) := by decide +kernel
theorem dX11_sets_20 : decode cX11_sets 20 = .ok (.goto 4, 3) := by decide +kernel
theorem dX11_sets_23 : decode cX11_sets 23 = .ok (.iconst 1, 1) := by decide +kernel
theorem dX11_sets_24 : decode cX11_sets 24 = .ok (.iastore, 1) := by decide +kernel
theorem dX11_sets_25 : decode cX11_sets 25 = .ok (.return_, 1) := by decide +kernel
theorem dX11_times_0 : decode cX11_times 0 = .ok (.lconst 0, 1) := by decide +kernel
theorem dX11_times_1 : decode cX11_times 1 = .ok (.lstore_n 3, 1) := by decide +kernel
theorem dX11_times_2 : decode cX11_times 2 = .ok (.iconst 0, 1) := by decide +kernel
theorem dX11_times_3 : decode cX11_times 3 = .ok (.istore 5, 2) := by decide +kernel
theorem dX11_times_5 : decode cX11_times 5 = .ok (.iload 5, 2) := by decide +kernel
theorem dX11_times_7 : decode cX11_times 7 = .ok (.aload_n 0, 1) := by decide +kernel
theorem dX11_times_8 : decode cX11_times 8 = .ok (.getfield 45, 3) := by decide +kernel
theorem dX11_times_11 : decode cX11_times 11 = .ok (.iload_n 1, 1) := by decide +kernel
theorem dX11_times_12 : decode cX11_times 12 = .ok (.iaload, 1) := by decide +kernel
theorem dX11_times_13 : decode cX11_times 13 = .ok (.if_icmp .ge 55, 3) := by decide +kernel
theorem dX11_times_16 : decode cX11_times 16 = .ok (.aload_n 0, 1) := by decide +kernel
theorem dX11_times_17 : decode cX11_times 17 = .ok (.getfield 42, 3) := by decide +kernel
theorem dX11_times_20 : decode cX11_times 20 = .ok (.bipush 80, 2) := by decide +kernel
theorem dX11_times_22 : decode cX11_times 22 = .ok (.iload_n 1, 1) := by decide +kernel
theorem dX11_times_23 : decode cX11_times 23 = .ok (.imul, 1) := by decide +kernel
theorem dX11_times_24 : decode cX11_times 24 = .ok (.iload 5, 2) := by decide +kernel
theorem dX11_times_26 : decode cX11_times 26 = .ok (.iadd, 1) := by decide +kernel
theorem dX11_times_27 : decode cX11_times 27 = .ok (.iaload, 1) := by decide +kernel
theorem dX11_times_28 : decode cX11_times 28 = .ok (.i2l, 1) := by decide +kernel
theorem dX11_times_29 : decode cX11_times 29 = .ok (.iload_n 2, 1) := by decide +kernel
theorem dX11_times_30 : decode cX11_times 30 = .ok (.i2l, 1) := by decide +kernel
theorem dX11_times_31 : decode cX11_times 31 = .ok (.lmul, 1) := by decide +kernel
theorem dX11_times_32 : decode cX11_times 32 = .ok (.lload_n 3, 1) := by decide +kernel
theorem dX11_times_33 : decode cX11_times 33 = .ok (.ladd, 1) := by decide +kernel
theorem dX11_times_34 : decode cX11_times 34 = .ok (.lstore 6, 2) := by decide +kernel
theorem dX11_times_36 : decode cX11_times 36 = .ok (.aload_n 0, 1) := by decide +kernel
theorem dX11_times_37 : decode cX11_times 37 = .ok (.getfield 42, 3) := by decide +kernel
theorem dX11_times_40 : decode cX11_times 40 = .ok (.bipush 80, 2) := by decide +kernel
theorem dX11_times_42 : decode cX11_times 42 = .ok (.iload_n 1, 1) := by decide +kernel
theorem dX11_times_43 : decode cX11_times 43 = .ok (.imul, 1) := by decide +kernel
theorem dX11_times_44 : decode cX11_times 44 = .ok (.iload 5, 2) := by decide +kernel
theorem dX11_times_46 : decode cX11_times 46 = .ok (.iadd, 1) := by decide +kernel
theorem dX11_times_47 : decode cX11_times 47 = .ok (.lload 6, 2) := by decide +kernel
theorem dX11_times_49 : decode cX11_times 49 = .ok (.ldc2_w 256, 3) := by decide +kernel
theorem dX11_times_52 : decode cX11_times 52 = .ok (.lrem, 1) := by decide +kernel
theorem dX11_times_53 : decode cX11_times 53 = .ok (.l2i, 1) := by decide +kernel
theorem dX11_times_54 : decode cX11_times 54 = .ok (.iastore, 1) := by decide +kernel
theorem dX11_times_55 : decode cX11_times 55 = .ok (.lload 6, 2) := by decide +kernel
theorem dX11_times_57 : decode cX11_times 57 = .ok (.ldc2_w 256, 3) := by decide +kernel
theorem dX11_times_60 : decode cX11_times 60 = .ok (.ldiv, 1) := by decide +kernel
theorem dX11_times_61 : decode cX11_times 61 = .ok (.lstore_n 3, 1) := by decide +kernel
theorem dX11_times_62 : decode cX11_times 62 = .ok (.iinc 5 1, 3) := by decide +kernel
theorem dX11_times_65 : decode cX11_times 65 = .ok (.goto (-60), 3) := by decide +kernel
theorem dX11_times_68 : decode cX11_times 68 = .ok (.lload_n 3, 1) := by decide +kernel
theorem dX11_times_69 : decode cX11_times 69 = .ok (.lconst 0, 1) := by decide +kernel
theorem dX11_times_70 : decode cX11_times 70 = .ok (.lcmp, 1) := by decide +kernel
theorem dX11_times_71 : decode cX11_times 71 = .ok (.ifCond .le 31, 3) := by decide +kernel
theorem dX11_times_74 : decode cX11_times 74 = .ok (.aload_n 0, 1) := by decide +kernel
theorem dX11_times_75 : decode cX11_times 75 = .ok (.getfield 42, 3) := by decide +kernel
theorem dX11_times_78 : decode cX11_times 78 = .ok (.bipush 80, 2) := by decide +kernel
theorem dX11_times_80 : decode cX11_times 80 = .ok (.iload_n 1, 1) := by decide +kernel
theorem dX11_times_81 : decode cX11_times 81 = .ok (.imul, 1) := by decide +kernel
theorem dX11_times_82 : decode cX11_times 82 = .ok (.aload_n 0, 1) := by decide +kernel
theorem dX11_times_83 : decode cX11_times 83 = .ok (.getfield 45, 3) := by decide +kernel
theorem dX11_times_86 : decode cX11_times 86 = .ok (.iload_n 1, 1) := by decide +kernel
theorem dX11_times_87 : decode cX11_times 87 = .ok (.iaload, 1) := by decide +kernel
theorem dX11_times_88 : decode cX11_times 88 = .ok (.iadd, 1) := by decide +kernel
theorem dX11_times_89 : decode cX11_times 89 = .ok (.lload_n 3, 1) := by decide +kernel
theorem dX11_times_90 : decode cX11_times 90 = .ok (.l2i, 1) := by decide +kernel
theorem dX11_times_91 : decode cX11_times 91 = .ok (.iastore, 1) := by decide +kernel
theorem dX11_times_92 : decode cX11_times 92 = .ok (.aload_n 0, 1) := by decide +kernel
theorem dX11_times_93 : decode cX11_times 93 = .ok (.getfield 45, 3) := by decide +kernel
theorem dX11_times_96 : decode cX11_times 96 = .ok (.iload_n 1, 1) := by decide +kernel
theorem dX11_times_97 : decode cX11_times 97 = .ok (.dup2, 1) := by decide +kernel
theorem dX11_times_98 : decode cX11_times 98 = .ok (.iaload, 1) := by decide +kernel
theorem dX11_times_99 : decode cX11_times 99 = .ok (.iconst 1, 1) := by decide +kernel
theorem dX11_times_100 : decode cX11_times 100 = .ok (.iadd, 1) := by decide +kernel
theorem dX11_times_101 : decode cX11_times 101 = .ok (.iastore, 1) := by decide +kernel
theorem dX11_times_102 : decode cX11_times 102 = .ok (.aload_n 0, 1) := by decide +kernel
theorem dX11_times_103 : decode cX11_times 103 = .ok (.getfield 45, 3) := by decide +kernel
theorem dX11_times_106 : decode cX11_times 106 = .ok (.iload_n 1, 1) := by decide +kernel
theorem dX11_times_107 : decode cX11_times 107 = .ok (.iaload, 1) := by decide +kernel
theorem dX11_times_108 : decode cX11_times 108 = .ok (.ifCond .le 37, 3) := by decide +kernel
theorem dX11_times_111 : decode cX11_times 111 = .ok (.aload_n 0, 1) := by decide +kernel
theorem dX11_times_112 : decode cX11_times 112 = .ok (.getfield 42, 3) := by decide +kernel
theorem dX11_times_115 : decode cX11_times 115 = .ok (.bipush 80, 2) := by decide +kernel
theorem dX11_times_117 : decode cX11_times 117 = .ok (.iload_n 1, 1) := by decide +kernel
theorem dX11_times_118 : decode cX11_times 118 = .ok (.imul, 1) := by decide +kernel
theorem dX11_times_119 : decode cX11_times 119 = .ok (.aload_n 0, 1) := by decide +kernel
theorem dX11_times_120 : decode cX11_times 120 = .ok (.getfield 45, 3) := by decide +kernel
theorem dX11_times_123 : decode cX11_times 123 = .ok (.iload_n 1, 1) := by decide +kernel
theorem dX11_times_124 : decode cX11_times 124 = .ok (.iaload, 1) := by decide +kernel
theorem dX11_times_125 : decode cX11_times 125 = .ok (.iadd, 1) := by decide +kernel
theorem dX11_times_126 : decode cX11_times 126 = .ok (.iconst 1, 1) := by decide +kernel
theorem dX11_times_127 : decode cX11_times 127 = .ok (.isub, 1) := by decide +kernel
theorem dX11_times_128 : decode cX11_times 128 = .ok (.iaload, 1) := by decide +kernel
theorem dX11_times_129 : decode cX11_times 129 = .ok (.ifCond .ne 16, 3) := by decide +kernel
theorem dX11_times_132 : decode cX11_times 132 = .ok (.aload_n 0, 1) := by decide +kernel
theorem dX11_times_133 : decode cX11_times 133 = .ok (.getfield 45, 3) := by decide +kernel
theorem dX11_times_136 : decode cX11_times 136 = .ok (.iload_n 1, 1) := by decide +kernel
theorem dX11_times_137 : decode cX11_times 137 = .ok (.dup2, 1) := by decide +kernel
theorem dX11_times_138 : decode cX11_times 138 = .ok (.iaload, 1) := by decide +kernel
theorem dX11_times_139 : decode cX11_times 139 = .ok (.iconst 1, 1) := by decide +kernel
theorem dX11_times_140 : decode cX11_times 140 = .ok (.isub, 1) := by decide +kernel
theorem dX11_times_141 : decode cX11_times 141 = .ok (.iastore, 1) := by decide +kernel
theorem dX11_times_142 : decode cX11_times 142 = .ok (.goto (-40), 3) := by decide +kernel
theorem dX11_times_145 : decode cX11_times 145 = .ok (.return_, 1) := by decide +kernel
theorem dX11_against_0 : decode cX11_against 0 = .ok (.aload_n 0, 1) := by decide +kernel
theorem dX11_against_1 : decode cX11_against 1 = .ok (.getfield 45, 3) := by decide +kernel
theorem dX11_against_4 : decode cX11_against 4 = .ok (.iload_n 1, 1) := by decide +kernel
theorem dX11_against_5 : decode cX11_against 5 = .ok (.iaload, 1) := by decide +kernel
theorem dX11_against_6 : decode cX11_against 6 = .ok (.aload_n 0, 1) := by decide +kernel
theorem dX11_against_7 : decode cX11_against 7 = .ok (.getfield 45, 3) := by decide +kernel
theorem dX11_against_10 : decode cX11_against 10 = .ok (.iload_n 2, 1) := by decide +kernel
theorem dX11_against_11 : decode cX11_against 11 = .ok (.iaload, 1) := by decide +kernel
theorem dX11_against_12 : decode cX11_against 12 = .ok (.if_icmp .eq 24, 3) := by decide +kernel
theorem dX11_against_15 : decode cX11_against 15 = .ok (.aload_n 0, 1) := by decide +kernel
theorem dX11_against_16 : decode cX11_against 16 = .ok (.getfield 45, 3) := by decide +kernel
theorem dX11_against_19 : decode cX11_against 19 = .ok (.iload_n 1, 1) := by decide +kernel
theorem dX11_against_20 : decode cX11_against 20 = .ok (.iaload, 1) := by decide +kernel
theorem dX11_against_21 : decode cX11_against 21 = .ok (.aload_n 0, 1) := by decide +kernel
theorem dX11_against_22 : decode cX11_against 22 = .ok (.getfield 45, 3) := by decide +kernel
theorem dX11_against_25 : decode cX11_against 25 = .ok (.iload_n 2, 1) := by decide +kernel
theorem dX11_against_26 : decode cX11_against 26 = .ok (.iaload, 1) := by decide +kernel
theorem dX11_against_27 : decode cX11_against 27 = .ok (.if_icmp .ge 7, 3) := by decide +kernel
theorem dX11_against_30 : decode cX11_against 30 = .ok (.iconst (-1), 1) := by decide +kernel
theorem dX11_against_31 : decode cX11_against 31 = .ok (.goto 4, 3) := by decide +kernel
theorem dX11_against_34 : decode cX11_against 34 = .ok (.iconst 1, 1) := by decide +kernel
theorem dX11_against_35 : decode cX11_against 35 = .ok (.ireturn, 1) := by decide +kernel
theorem dX11_against_36 : decode cX11_against 36 = .ok (.aload_n 0, 1) := by decide +kernel
theorem dX11_against_37 : decode cX11_against 37 = .ok (.getfield 45, 3) := by decide +kernel
theorem dX11_against_40 : decode cX11_against 40 = .ok (.iload_n 1, 1) := by decide +kernel
theorem dX11_against_41 : decode cX11_against 41 = .ok (.iaload, 1) := by decide +kernel
theorem dX11_against_42 : decode cX11_against 42 = .ok (.iconst 1, 1) := by decide +kernel
theorem dX11_against_43 : decode cX11_against 43 = .ok (.isub, 1) := by decide +kernel
theorem dX11_against_44 : decode cX11_against 44 = .ok (.istore_n 3, 1) := by decide +kernel
theorem dX11_against_45 : decode cX11_against 45 = .ok (.iload_n 3, 1) := by decide +kernel
theorem dX11_against_46 : decode cX11_against 46 = .ok (.ifCond .lt 65, 3) := by decide +kernel
theorem dX11_against_49 : decode cX11_against 49 = .ok (.aload_n 0, 1) := by decide +kernel
theorem dX11_against_50 : decode cX11_against 50 = .ok (.getfield 42, 3) := by decide +kernel
theorem dX11_against_53 : decode cX11_against 53 = .ok (.bipush 80, 2) := by decide +kernel
theorem dX11_against_55 : decode cX11_against 55 = .ok (.iload_n 1, 1) := by decide +kernel
theorem dX11_against_56 : decode cX11_against 56 = .ok (.imul, 1) := by decide +kernel
theorem dX11_against_57 : decode cX11_against 57 = .ok (.iload_n 3, 1) := by decide +kernel
theorem dX11_against_58 : decode cX11_against 58 = .ok (.iadd, 1) := by decide +kernel
theorem dX11_against_59 : decode cX11_against 59 = .ok (.iaload, 1) := by decide +kernel
theorem dX11_against_60 : decode cX11_against 60 = .ok (.aload_n 0, 1) := by decide +kernel
theorem dX11_against_61 : decode cX11_against 61 = .ok (.getfield 42, 3) := by decide +kernel
theorem dX11_against_64 : decode cX11_against 64 = .ok (.bipush 80, 2) := by decide +kernel
theorem dX11_against_66 : decode cX11_against 66 = .ok (.iload_n 2, 1) := by decide +kernel
theorem dX11_against_67 : decode cX11_against 67 = .ok (.imul, 1) := by decide +kernel
theorem dX11_against_68 : decode cX11_against 68 = .ok (.iload_n 3, 1) := by decide +kernel
theorem dX11_against_69 : decode cX11_against 69 = .ok (.iadd, 1) := by decide +kernel
theorem dX11_against_70 : decode cX11_against 70 = .ok (.iaload, 1) := by decide +kernel
theorem dX11_against_71 : decode cX11_against 71 = .ok (.if_icmp .eq 34, 3) := by decide +kernel
theorem dX11_against_74 : decode cX11_against 74 = .ok (.aload_n 0, 1) := by decide +kernel
theorem dX11_against_75 : decode cX11_against 75 = .ok (.getfield 42, 3) := by decide +kernel
theorem dX11_against_78 : decode cX11_against 78 = .ok (.bipush 80, 2) := by decide +kernel
theorem dX11_against_80 : decode cX11_against 80 = .ok (.iload_n 1, 1) := by decide +kernel
theorem dX11_against_81 : decode cX11_against 81 = .ok (.imul, 1) := by decide +kernel
theorem dX11_against_82 : decode cX11_against 82 = .ok (.iload_n 3, 1) := by decide +kernel
theorem dX11_against_83 : decode cX11_against 83 = .ok (.iadd, 1) := by decide +kernel
theorem dX11_against_84 : decode cX11_against 84 = .ok (.iaload, 1) := by decide +kernel
theorem dX11_against_85 : decode cX11_against 85 = .ok (.aload_n 0, 1) := by decide +kernel
theorem dX11_against_86 : decode cX11_against 86 = .ok (.getfield 42, 3) := by decide +kernel
theorem dX11_against_89 : decode cX11_against 89 = .ok (.bipush 80, 2) := by decide +kernel
theorem dX11_against_91 : decode cX11_against 91 = .ok (.iload_n 2, 1) := by decide +kernel
theorem dX11_against_92 : decode cX11_against 92 = .ok (.imul, 1) := by decide +kernel
theorem dX11_against_93 : decode cX11_against 93 = .ok (.iload_n 3, 1) := by decide +kernel
theorem dX11_against_94 : decode cX11_against 94 = .ok (.iadd, 1) := by decide +kernel
theorem dX11_against_95 : decode cX11_against 95 = .ok (.iaload, 1) := by decide +kernel
theorem dX11_against_96 : decode cX11_against 96 = .ok (.if_icmp .ge 7, 3) := by decide +kernel
theorem dX11_against_99 : decode cX11_against 99 = .ok (.iconst (-1), 1) := by decide +kernel
theorem dX11_against_100 : decode cX11_against 100 = .ok (.goto 4, 3) := by decide +kernel
theorem dX11_against_103 : decode cX11_against 103 = .ok (.iconst 1, 1) := by decide +kernel
theorem dX11_against_104 : decode cX11_against 104 = .ok (.ireturn, 1) := by decide +kernel
theorem dX11_against_105 : decode cX11_against 105 = .ok (.iinc 3 (-1), 3) := by decide +kernel
theorem dX11_against_108 : decode cX11_against 108 = .ok (.goto (-63), 3) := by decide +kernel
theorem dX11_against_111 : decode cX11_against 111 = .ok (.iconst 0, 1) := by decide +kernel
theorem dX11_against_112 : decode cX11_against 112 = .ok (.ireturn, 1) := by decide +kernel
theorem dX11_divisor_0 : decode cX11_divisor 0 = .ok (.iload_n 0, 1) := by decide +kernel
theorem dX11_divisor_1 : decode cX11_divisor 1 = .ok (.istore_n 2, 1) := by decide +kernel
theorem dX11_divisor_2 : decode cX11_divisor 2 = .ok (.iload_n 1, 1) := by decide +kernel
theorem dX11_divisor_3 : decode cX11_divisor 3 = .ok (.istore_n 3, 1) := by decide +kernel
theorem dX11_divisor_4 : decode cX11_divisor 4 = .ok (.iload_n 3, 1) := by decide +kernel
theorem dX11_divisor_5 : decode cX11_divisor 5 = .ok (.ifCond .eq 16, 3) := by decide +kernel
theorem dX11_divisor_8 : decode cX11_divisor 8 = .ok (.iload_n 2, 1) := by decide +kernel
theorem dX11_divisor_9 : decode cX11_divisor 9 = .ok (.iload_n 3, 1) := by decide +kernel
theorem dX11_divisor_10 : decode cX11_divisor 10 = .ok (.irem, 1) := by decide +kernel
theorem dX11_divisor_11 : decode cX11_divisor 11 = .ok (.istore 4, 2) := by decide +kernel
theorem dX11_divisor_13 : decode cX11_divisor 13 = .ok (.iload_n 3, 1) := by decide +kernel
theorem dX11_divisor_14 : decode cX11_divisor 14 = .ok (.istore_n 2, 1) := by decide +kernel
theorem dX11_divisor_15 : decode cX11_divisor 15 = .ok (.iload 4, 2) := by decide +kernel
theorem dX11_divisor_17 : decode cX11_divisor 17 = .ok (.istore_n 3, 1) := by decide +kernel
theorem dX11_divisor_18 : decode cX11_divisor 18 = .ok (.goto (-14), 3) := by decide +kernel
theorem dX11_divisor_21 : decode cX11_divisor 21 = .ok (.iload_n 2, 1) := by decide +kernel
theorem dX11_divisor_22 : decode cX11_divisor 22 = .ok (.ireturn, 1) := by decide +kernel
theorem dX11_isDigit_0 : decode cX11_isDigit 0 = .ok (.iload_n 0, 1) := by decide +kernel
theorem dX11_isDigit_1 : decode cX11_isDigit 1 = .ok (.i2l, 1) := by decide +kernel
theorem dX11_isDigit_2 : decode cX11_isDigit 2 = .ok (.lconst 0, 1) := by decide +kernel
theorem dX11_isDigit_3 : decode cX11_isDigit 3 = .ok (.ldc2_w 258, 3) := by decide +kernel
theorem dX11_isDigit_6 : decode cX11_isDigit 6 = .ok (.invokestatic 53, 3) := by decide +kernel
theorem dX11_isDigit_9 : decode cX11_isDigit 9 = .ok (.ireturn, 1) := by decide +kernel
theorem dX11_odds_0 : decode cX11_odds 0 = .ok (.iload_n 1, 1) := by decide +kernel
theorem dX11_odds_1 : decode cX11_odds 1 = .ok (.invokestatic 260, 3) := by decide +kernel
theorem dX11_odds_4 : decode cX11_odds 4 = .ok (.ifCond .eq 10, 3) := by decide +kernel
theorem dX11_odds_7 : decode cX11_odds 7 = .ok (.iload_n 2, 1) := by decide +kernel
theorem dX11_odds_8 : decode cX11_odds 8 = .ok (.invokestatic 260, 3) := by decide +kernel
theorem dX11_odds_11 : decode cX11_odds 11 = .ok (.ifCond .ne 6, 3) := by decide +kernel
theorem dX11_odds_14 : decode cX11_odds 14 = .ok (.bipush (-2), 2) := by decide +kernel
theorem dX11_odds_16 : decode cX11_odds 16 = .ok (.ireturn, 1) := by decide +kernel
theorem dX11_odds_17 : decode cX11_odds 17 = .ok (.aload_n 0, 1) := by decide +kernel
theorem dX11_odds_18 : decode cX11_odds 18 = .ok (.getfield 7, 3) := by decide +kernel
theorem dX11_odds_21 : decode cX11_odds 21 = .ok (.bipush 9, 2) := by decide +kernel
theorem dX11_odds_23 : decode cX11_odds 23 = .ok (.iload_n 1, 1) := by decide +kernel
theorem dX11_odds_24 : decode cX11_odds 24 = .ok (.iastore, 1) := by decide +kernel
theorem dX11_odds_25 : decode cX11_odds 25 = .ok (.aload_n 0, 1) := by decide +kernel
theorem dX11_odds_26 : decode cX11_odds 26 = .ok (.getfield 7, 3) := by decide +kernel
theorem dX11_odds_29 : decode cX11_odds 29 = .ok (.bipush 10, 2) := by decide +kernel
theorem dX11_odds_31 : decode cX11_odds 31 = .ok (.iload_n 2, 1) := by decide +kernel
theorem dX11_odds_32 : decode cX11_odds 32 = .ok (.iastore, 1) := by decide +kernel
theorem dX11_odds_33 : decode cX11_odds 33 = .ok (.iconst 1, 1) := by decide +kernel
theorem dX11_odds_34 : decode cX11_odds 34 = .ok (.ireturn, 1) := by decide +kernel
theorem dX11_whole_0 : decode cX11_whole 0 = .ok (.aload_n 0, 1) := by decide +kernel
theorem dX11_whole_1 : decode cX11_whole 1 = .ok (.getfield 7, 3) := by decide +kernel
theorem dX11_whole_4 : decode cX11_whole 4 = .ok (.bipush 9, 2) := by decide +kernel
theorem dX11_whole_6 : decode cX11_whole 6 = .ok (.iaload, 1) := by decide +kernel
theorem dX11_whole_7 : decode cX11_whole 7 = .ok (.aload_n 0, 1) := by decide +kernel
theorem dX11_whole_8 : decode cX11_whole 8 = .ok (.getfield 7, 3) := by decide +kernel
theorem dX11_whole_11 : decode cX11_whole 11 = .ok (.bipush 10, 2) := by decide +kernel
theorem dX11_whole_13 : decode cX11_whole 13 = .ok (.iaload, 1) := by decide +kernel
theorem dX11_whole_14 : decode cX11_whole 14 = .ok (.aload_n 0, 1) := by decide +kernel
theorem dX11_whole_15 : decode cX11_whole 15 = .ok (.iload_n 1, 1) := by decide +kernel
theorem dX11_whole_16 : decode cX11_whole 16 = .ok (.iconst 0, 1) := by decide +kernel
theorem dX11_whole_17 : decode cX11_whole 17 = .ok (.invokevirtual 112, 3) := by decide +kernel
theorem dX11_whole_20 : decode cX11_whole 20 = .ok (.imul, 1) := by decide +kernel
theorem dX11_whole_21 : decode cX11_whole 21 = .ok (.iadd, 1) := by decide +kernel
theorem dX11_whole_22 : decode cX11_whole 22 = .ok (.istore_n 2, 1) := by decide +kernel
theorem dX11_whole_23 : decode cX11_whole 23 = .ok (.iload_n 2, 1) := by decide +kernel
theorem dX11_whole_24 : decode cX11_whole 24 = .ok (.sipush 1000, 3) := by decide +kernel
theorem dX11_whole_27 : decode cX11_whole 27 = .ok (.if_icmp .le 7, 3) := by decide +kernel
theorem dX11_whole_30 : decode cX11_whole 30 = .ok (.iconst 0, 1) := by decide +kernel
theorem dX11_whole_31 : decode cX11_whole 31 = .ok (.goto 8, 3) := by decide +kernel
theorem dX11_whole_34 : decode cX11_whole 34 = .ok (.sipush 1000, 3) := by decide +kernel
theorem dX11_whole_37 : decode cX11_whole 37 = .ok (.iload_n 2, 1) := by decide +kernel
theorem dX11_whole_38 : decode cX11_whole 38 = .ok (.isub, 1) := by decide +kernel
theorem dX11_whole_39 : decode cX11_whole 39 = .ok (.ireturn, 1) := by decide +kernel
theorem dX11_powers_0 : decode cX11_powers 0 = .ok (.aload_n 0, 1) := by decide +kernel
theorem dX11_powers_1 : decode cX11_powers 1 = .ok (.iload_n 1, 1) := by decide +kernel
theorem dX11_powers_2 : decode cX11_powers 2 = .ok (.iconst 1, 1) := by decide +kernel
theorem dX11_powers_3 : decode cX11_powers 3 = .ok (.invokevirtual 263, 3) := by decide +kernel
theorem dX11_powers_6 : decode cX11_powers 6 = .ok (.iconst 0, 1) := by decide +kernel
theorem dX11_powers_7 : decode cX11_powers 7 = .ok (.istore 4, 2) := by decide +kernel
theorem dX11_powers_9 : decode cX11_powers 9 = .ok (.iload 4, 2) := by decide +kernel
theorem dX11_powers_11 : decode cX11_powers 11 = .ok (.iload_n 3, 1) := by decide +kernel
theorem dX11_powers_12 : decode cX11_powers 12 = .ok (.if_icmp .ge 15, 3) := by decide +kernel
theorem dX11_powers_15 : decode cX11_powers 15 = .ok (.aload_n 0, 1) := by decide +kernel
theorem dX11_powers_16 : decode cX11_powers 16 = .ok (.iload_n 1, 1) := by decide +kernel
theorem dX11_powers_17 : decode cX11_powers 17 = .ok (.iload_n 2, 1) := by decide +kernel
theorem dX11_powers_18 : decode cX11_powers 18 = .ok (.invokevirtual 266, 3) := by decide +kernel
theorem dX11_powers_21 : decode cX11_powers 21 = .ok (.iinc 4 1, 3) := by decide +kernel
theorem dX11_powers_24 : decode cX11_powers 24 = .ok (.goto (-15), 3) := by decide +kernel
theorem dX11_powers_27 : decode cX11_powers 27 = .ok (.return_, 1) := by decide +kernel
theorem dX11_lasts_0 : decode cX11_lasts 0 = .ok (.aload_n 0, 1) := by decide +kernel
theorem dX11_lasts_1 : decode cX11_lasts 1 = .ok (.iconst 0, 1) := by decide +kernel
theorem dX11_lasts_2 : decode cX11_lasts 2 = .ok (.iload_n 1, 1) := by decide +kernel
theorem dX11_lasts_3 : decode cX11_lasts 3 = .ok (.invokevirtual 135, 3) := by decide +kernel
theorem dX11_lasts_6 : decode cX11_lasts 6 = .ok (.ifCond .eq 15, 3) := by decide +kernel
theorem dX11_lasts_9 : decode cX11_lasts 9 = .ok (.iload_n 2, 1) := by decide +kernel
theorem dX11_lasts_10 : decode cX11_lasts 10 = .ok (.i2l, 1) := by decide +kernel
theorem dX11_lasts_11 : decode cX11_lasts 11 = .ok (.lconst 0, 1) := by decide +kernel
theorem dX11_lasts_12 : decode cX11_lasts 12 = .ok (.ldc2_w 269, 3) := by decide +kernel
theorem dX11_lasts_15 : decode cX11_lasts 15 = .ok (.invokestatic 53, 3) := by decide +kernel
theorem dX11_lasts_18 : decode cX11_lasts 18 = .ok (.ifCond .ne 6, 3) := by decide +kernel
theorem dX11_lasts_21 : decode cX11_lasts 21 = .ok (.bipush (-2), 2) := by decide +kernel
theorem dX11_lasts_23 : decode cX11_lasts 23 = .ok (.ireturn, 1) := by decide +kernel
theorem dX11_lasts_24 : decode cX11_lasts 24 = .ok (.aload_n 0, 1) := by decide +kernel
theorem dX11_lasts_25 : decode cX11_lasts 25 = .ok (.iload_n 1, 1) := by decide +kernel
theorem dX11_lasts_26 : decode cX11_lasts 26 = .ok (.invokevirtual 271, 3) := by decide +kernel
theorem dX11_lasts_29 : decode cX11_lasts 29 = .ok (.istore_n 3, 1) := by decide +kernel
theorem dX11_lasts_30 : decode cX11_lasts 30 = .ok (.iload_n 3, 1) := by decide +kernel
theorem dX11_lasts_31 : decode cX11_lasts 31 = .ok (.ifCond .ne 9, 3) := by decide +kernel
theorem dX11_lasts_34 : decode cX11_lasts 34 = .ok (.sipush 1000, 3) := by decide +kernel
theorem dX11_lasts_37 : decode cX11_lasts 37 = .ok (.goto 10, 3) := by decide +kernel
theorem dX11_lasts_40 : decode cX11_lasts 40 = .ok (.iload_n 3, 1) := by decide +kernel
theorem dX11_lasts_41 : decode cX11_lasts 41 = .ok (.sipush 1000, 3) := by decide +kernel
theorem dX11_lasts_44 : decode cX11_lasts 44 = .ok (.invokestatic 274, 3) := by decide +kernel
theorem dX11_lasts_47 : decode cX11_lasts 47 = .ok (.istore 4, 2) := by decide +kernel
theorem dX11_lasts_49 : decode cX11_lasts 49 = .ok (.aload_n 0, 1) := by decide +kernel
theorem dX11_lasts_50 : decode cX11_lasts 50 = .ok (.iconst 0, 1) := by decide +kernel
theorem dX11_lasts_51 : decode cX11_lasts 51 = .ok (.iload_n 3, 1) := by decide +kernel
theorem dX11_lasts_52 : decode cX11_lasts 52 = .ok (.iload 4, 2) := by decide +kernel
theorem dX11_lasts_54 : decode cX11_lasts 54 = .ok (.idiv, 1) := by decide +kernel
theorem dX11_lasts_55 : decode cX11_lasts 55 = .ok (.iload_n 2, 1) := by decide +kernel
theorem dX11_lasts_56 : decode cX11_lasts 56 = .ok (.invokevirtual 277, 3) := by decide +kernel
theorem dX11_lasts_59 : decode cX11_lasts 59 = .ok (.aload_n 0, 1) := by decide +kernel
theorem dX11_lasts_60 : decode cX11_lasts 60 = .ok (.iconst 1, 1) := by decide +kernel
theorem dX11_lasts_61 : decode cX11_lasts 61 = .ok (.sipush 1000, 3) := by decide +kernel
theorem dX11_lasts_64 : decode cX11_lasts 64 = .ok (.iload 4, 2) := by decide +kernel
theorem dX11_lasts_66 : decode cX11_lasts 66 = .ok (.idiv, 1) := by decide +kernel
theorem dX11_lasts_67 : decode cX11_lasts 67 = .ok (.iload_n 2, 1) := by decide +kernel
theorem dX11_lasts_68 : decode cX11_lasts 68 = .ok (.invokevirtual 277, 3) := by decide +kernel
theorem dX11_lasts_71 : decode cX11_lasts 71 = .ok (.iconst 1, 1) := by decide +kernel
theorem dX11_lasts_72 : decode cX11_lasts 72 = .ok (.ireturn, 1) := by decide +kernel
theorem dX11_half_0 : decode cX11_half 0 = .ok (.aload_n 0, 1) := by decide +kernel
theorem dX11_half_1 : decode cX11_half 1 = .ok (.iconst 0, 1) := by decide +kernel
theorem dX11_half_2 : decode cX11_half 2 = .ok (.iload_n 1, 1) := by decide +kernel
theorem dX11_half_3 : decode cX11_half 3 = .ok (.invokevirtual 135, 3) := by decide +kernel
theorem dX11_half_6 : decode cX11_half 6 = .ok (.ifCond .ne 6, 3) := by decide +kernel
theorem dX11_half_9 : decode cX11_half 9 = .ok (.bipush (-2), 2) := by decide +kernel
theorem dX11_half_11 : decode cX11_half 11 = .ok (.ireturn, 1) := by decide +kernel
theorem dX11_half_12 : decode cX11_half 12 = .ok (.aload_n 0, 1) := by decide +kernel
theorem dX11_half_13 : decode cX11_half 13 = .ok (.iload_n 1, 1) := by decide +kernel
theorem dX11_half_14 : decode cX11_half 14 = .ok (.invokevirtual 271, 3) := by decide +kernel
theorem dX11_half_17 : decode cX11_half 17 = .ok (.istore_n 2, 1) := by decide +kernel
theorem dX11_half_18 : decode cX11_half 18 = .ok (.iload_n 2, 1) := by decide +kernel
theorem dX11_half_19 : decode cX11_half 19 = .ok (.ifCond .ne 9, 3) := by decide +kernel
theorem dX11_half_22 : decode cX11_half 22 = .ok (.sipush 1000, 3) := by decide +kernel
theorem dX11_half_25 : decode cX11_half 25 = .ok (.goto 10, 3) := by decide +kernel
theorem dX11_half_28 : decode cX11_half 28 = .ok (.iload_n 2, 1) := by decide +kernel
theorem dX11_half_29 : decode cX11_half 29 = .ok (.sipush 1000, 3) := by decide +kernel
theorem dX11_half_32 : decode cX11_half 32 = .ok (.invokestatic 274, 3) := by decide +kernel
theorem dX11_half_35 : decode cX11_half 35 = .ok (.istore_n 3, 1) := by decide +kernel
theorem dX11_half_36 : decode cX11_half 36 = .ok (.aload_n 0, 1) := by decide +kernel
theorem dX11_half_37 : decode cX11_half 37 = .ok (.iconst 2, 1) := by decide +kernel
theorem dX11_half_38 : decode cX11_half 38 = .ok (.iconst 2, 1) := by decide +kernel
theorem dX11_half_39 : decode cX11_half 39 = .ok (.invokevirtual 263, 3) := by decide +kernel
theorem dX11_half_42 : decode cX11_half 42 = .ok (.aload_n 0, 1) := by decide +kernel
theorem dX11_half_43 : decode cX11_half 43 = .ok (.iconst 3, 1) := by decide +kernel
theorem dX11_half_44 : decode cX11_half 44 = .ok (.iconst 1, 1) := by decide +kernel
theorem dX11_half_45 : decode cX11_half 45 = .ok (.invokevirtual 263, 3) := by decide +kernel
theorem dX11_half_48 : decode cX11_half 48 = .ok (.iconst 1, 1) := by decide +kernel
theorem dX11_half_49 : decode cX11_half 49 = .ok (.istore 4, 2) := by decide +kernel
theorem dX11_half_51 : decode cX11_half 51 = .ok (.iload 4, 2) := by decide +kernel
theorem dX11_half_53 : decode cX11_half 53 = .ok (.sipush 200, 3) := by decide +kernel
theorem dX11_half_56 : decode cX11_half 56 = .ok (.if_icmp .gt 39, 3) := by decide +kernel
theorem dX11_half_59 : decode cX11_half 59 = .ok (.aload_n 0, 1) := by decide +kernel
theorem dX11_half_60 : decode cX11_half 60 = .ok (.iconst 2, 1) := by decide +kernel
theorem dX11_half_61 : decode cX11_half 61 = .ok (.iload_n 2, 1) := by decide +kernel
theorem dX11_half_62 : decode cX11_half 62 = .ok (.iload_n 3, 1) := by decide +kernel
theorem dX11_half_63 : decode cX11_half 63 = .ok (.idiv, 1) := by decide +kernel
theorem dX11_half_64 : decode cX11_half 64 = .ok (.invokevirtual 266, 3) := by decide +kernel
theorem dX11_half_67 : decode cX11_half 67 = .ok (.aload_n 0, 1) := by decide +kernel
theorem dX11_half_68 : decode cX11_half 68 = .ok (.iconst 3, 1) := by decide +kernel
theorem dX11_half_69 : decode cX11_half 69 = .ok (.sipush 1000, 3) := by decide +kernel
theorem dX11_half_72 : decode cX11_half 72 = .ok (.iload_n 3, 1) := by decide +kernel
theorem dX11_half_73 : decode cX11_half 73 = .ok (.idiv, 1) := by decide +kernel
theorem dX11_half_74 : decode cX11_half 74 = .ok (.invokevirtual 266, 3) := by decide +kernel
theorem dX11_half_77 : decode cX11_half 77 = .ok (.aload_n 0, 1) := by decide +kernel
theorem dX11_half_78 : decode cX11_half 78 = .ok (.iconst 2, 1) := by decide +kernel
theorem dX11_half_79 : decode cX11_half 79 = .ok (.iconst 3, 1) := by decide +kernel
theorem dX11_half_80 : decode cX11_half 80 = .ok (.invokevirtual 281, 3) := by decide +kernel
theorem dX11_half_83 : decode cX11_half 83 = .ok (.ifCond .gt 6, 3) := by decide +kernel
theorem dX11_half_86 : decode cX11_half 86 = .ok (.iload 4, 2) := by decide +kernel
theorem dX11_half_88 : decode cX11_half 88 = .ok (.ireturn, 1) := by decide +kernel
theorem dX11_half_89 : decode cX11_half 89 = .ok (.iinc 4 1, 3) := by decide +kernel
theorem dX11_half_92 : decode cX11_half 92 = .ok (.goto (-41), 3) := by decide +kernel
theorem dX11_half_95 : decode cX11_half 95 = .ok (.iconst (-1), 1) := by decide +kernel
theorem dX11_half_96 : decode cX11_half 96 = .ok (.ireturn, 1) := by decide +kernel
theorem dX11_limbs_0 : decode cX11_limbs 0 = .ok (.iload_n 1, 1) := by decide +kernel
theorem dX11_limbs_1 : decode cX11_limbs 1 = .ok (.i2l, 1) := by decide +kernel
theorem dX11_limbs_2 : decode cX11_limbs 2 = .ok (.lconst 0, 1) := by decide +kernel
theorem dX11_limbs_3 : decode cX11_limbs 3 = .ok (.lconst 1, 1) := by decide +kernel
theorem dX11_limbs_4 : decode cX11_limbs 4 = .ok (.invokestatic 53, 3) := by decide +kernel
theorem dX11_limbs_7 : decode cX11_limbs 7 = .ok (.ifCond .eq 12, 3) := by decide +kernel
theorem dX11_limbs_10 : decode cX11_limbs 10 = .ok (.aload_n 0, 1) := by decide +kernel
theorem dX11_limbs_11 : decode cX11_limbs 11 = .ok (.getfield 45, 3) := by decide +kernel
theorem dX11_limbs_14 : decode cX11_limbs 14 = .ok (.iload_n 1, 1) := by decide +kernel
theorem dX11_limbs_15 : decode cX11_limbs 15 = .ok (.iaload, 1) := by decide +kernel
theorem dX11_limbs_16 : decode cX11_limbs 16 = .ok (.goto 5, 3) := by decide +kernel
theorem dX11_limbs_19 : decode cX11_limbs 19 = .ok (.bipush (-2), 2) := by decide +kernel
theorem dX11_limbs_21 : decode cX11_limbs 21 = .ok (.ireturn, 1) := by decide +kernel
theorem dX11_limb_0 : decode cX11_limb 0 = .ok (.iload_n 1, 1) := by decide +kernel
theorem dX11_limb_1 : decode cX11_limb 1 = .ok (.i2l, 1) := by decide +kernel
theorem dX11_limb_2 : decode cX11_limb 2 = .ok (.lconst 0, 1) := by decide +kernel
theorem dX11_limb_3 : decode cX11_limb 3 = .ok (.lconst 1, 1) := by decide +kernel
theorem dX11_limb_4 : decode cX11_limb 4 = .ok (.invokestatic 53, 3) := by decide +kernel
theorem dX11_limb_7 : decode cX11_limb 7 = .ok (.ifCond .eq 7, 3) := by decide +kernel
theorem dX11_limb_10 : decode cX11_limb 10 = .ok (.iload_n 2, 1) := by decide +kernel
theorem dX11_limb_11 : decode cX11_limb 11 = .ok (.ifCond .ge 6, 3) := by decide +kernel
theorem dX11_limb_14 : decode cX11_limb 14 = .ok (.bipush (-2), 2) := by decide +kernel
theorem dX11_limb_16 : decode cX11_limb 16 = .ok (.ireturn, 1) := by decide +kernel
theorem dX11_limb_17 : decode cX11_limb 17 = .ok (.iload_n 2, 1) := by decide +kernel
theorem dX11_limb_18 : decode cX11_limb 18 = .ok (.aload_n 0, 1) := by decide +kernel
theorem dX11_limb_19 : decode cX11_limb 19 = .ok (.getfield 45, 3) := by decide +kernel
theorem dX11_limb_22 : decode cX11_limb 22 = .ok (.iload_n 1, 1) := by decide +kernel
theorem dX11_limb_23 : decode cX11_limb 23 = .ok (.iaload, 1) := by decide +kernel
theorem dX11_limb_24 : decode cX11_limb 24 = .ok (.if_icmp .ge 17, 3) := by decide +kernel
theorem dX11_limb_27 : decode cX11_limb 27 = .ok (.aload_n 0, 1) := by decide +kernel
theorem dX11_limb_28 : decode cX11_limb 28 = .ok (.getfield 42, 3) := by decide +kernel
theorem dX11_limb_31 : decode cX11_limb 31 = .ok (.bipush 80, 2) := by decide +kernel
theorem dX11_limb_33 : decode cX11_limb 33 = .ok (.iload_n 1, 1) := by decide +kernel
theorem dX11_limb_34 : decode cX11_limb 34 = .ok (.imul, 1) := by decide +kernel
theorem dX11_limb_35 : decode cX11_limb 35 = .ok (.iload_n 2, 1) := by decide +kernel
theorem dX11_limb_36 : decode cX11_limb 36 = .ok (.iadd, 1) := by decide +kernel
theorem dX11_limb_37 : decode cX11_limb 37 = .ok (.iaload, 1) := by decide +kernel
theorem dX11_limb_38 : decode cX11_limb 38 = .ok (.goto 4, 3) := by decide +kernel
theorem dX11_limb_41 : decode cX11_limb 41 = .ok (.iconst (-1), 1) := by decide +kernel
theorem dX11_limb_42 : decode cX11_limb 42 = .ok (.ireturn, 1) := by decide +kernel
theorem dX11_told_0 : decode cX11_told 0 = .ok (.iload_n 1, 1) := by decide +kernel
theorem dX11_told_1 : decode cX11_told 1 = .ok (.i2l, 1) := by decide +kernel
theorem dX11_told_2 : decode cX11_told 2 = .ok (.lconst 0, 1) := by decide +kernel
theorem dX11_told_3 : decode cX11_told 3 = .ok (.ldc2_w 59, 3) := by decide +kernel
theorem dX11_told_6 : decode cX11_told 6 = .ok (.invokestatic 53, 3) := by decide +kernel
theorem dX11_told_9 : decode cX11_told 9 = .ok (.ifCond .ne 6, 3) := by decide +kernel
theorem dX11_told_12 : decode cX11_told 12 = .ok (.bipush (-2), 2) := by decide +kernel
theorem dX11_told_14 : decode cX11_told 14 = .ok (.ireturn, 1) := by decide +kernel
theorem dX11_told_15 : decode cX11_told 15 = .ok (.aload_n 0, 1) := by decide +kernel
theorem dX11_told_16 : decode cX11_told 16 = .ok (.getfield 7, 3) := by decide +kernel
theorem dX11_told_19 : decode cX11_told 19 = .ok (.bipush 6, 2) := by decide +kernel
theorem dX11_told_21 : decode cX11_told 21 = .ok (.iaload, 1) := by decide +kernel
theorem dX11_told_22 : decode cX11_told 22 = .ok (.bipush 40, 2) := by decide +kernel
theorem dX11_told_24 : decode cX11_told 24 = .ok (.if_icmp .ne 6, 3) := by decide +kernel
theorem dX11_told_27 : decode cX11_told 27 = .ok (.bipush (-4), 2) := by decide +kernel
theorem dX11_told_29 : decode cX11_told 29 = .ok (.ireturn, 1) := by decide +kernel
theorem dX11_told_30 : decode cX11_told 30 = .ok (.aload_n 0, 1) := by decide +kernel
theorem dX11_told_31 : decode cX11_told 31 = .ok (.getfield 7, 3) := by decide +kernel
theorem dX11_told_34 : decode cX11_told 34 = .ok (.sipush 737, 3) := by decide +kernel
theorem dX11_told_37 : decode cX11_told 37 = .ok (.iconst 2, 1) := by decide +kernel
theorem dX11_told_38 : decode cX11_told 38 = .ok (.aload_n 0, 1) := by decide +kernel
theorem dX11_told_39 : decode cX11_told 39 = .ok (.getfield 7, 3) := by decide +kernel
theorem dX11_told_42 : decode cX11_told 42 = .ok (.bipush 6, 2) := by decide +kernel
theorem dX11_told_44 : decode cX11_told 44 = .ok (.iaload, 1) := by decide +kernel
theorem dX11_told_45 : decode cX11_told 45 = .ok (.imul, 1) := by decide +kernel
theorem dX11_told_46 : decode cX11_told 46 = .ok (.iadd, 1) := by decide +kernel
theorem dX11_told_47 : decode cX11_told 47 = .ok (.iload_n 1, 1) := by decide +kernel
theorem dX11_told_48 : decode cX11_told 48 = .ok (.iastore, 1) := by decide +kernel
theorem dX11_told_49 : decode cX11_told 49 = .ok (.aload_n 0, 1) := by decide +kernel
theorem dX11_told_50 : decode cX11_told 50 = .ok (.getfield 7, 3) := by decide +kernel
theorem dX11_told_53 : decode cX11_told 53 = .ok (.sipush 737, 3) := by decide +kernel
theorem dX11_told_56 : decode cX11_told 56 = .ok (.iconst 2, 1) := by decide +kernel
theorem dX11_told_57 : decode cX11_told 57 = .ok (.aload_n 0, 1) := by decide +kernel
theorem dX11_told_58 : decode cX11_told 58 = .ok (.getfield 7, 3) := by decide +kernel
theorem dX11_told_61 : decode cX11_told 61 = .ok (.bipush 6, 2) := by decide +kernel
theorem dX11_told_63 : decode cX11_told 63 = .ok (.iaload, 1) := by decide +kernel
theorem dX11_told_64 : decode cX11_told 64 = .ok (.imul, 1) := by decide +kernel
theorem dX11_told_65 : decode cX11_told 65 = .ok (.iadd, 1) := by decide +kernel
theorem dX11_told_66 : decode cX11_told 66 = .ok (.iconst 1, 1) := by decide +kernel
theorem dX11_told_67 : decode cX11_told 67 = .ok (.iadd, 1) := by decide +kernel
theorem dX11_told_68 : decode cX11_told 68 = .ok (.iload_n 2, 1) := by decide +kernel
theorem dX11_told_69 : decode cX11_told 69 = .ok (.ifCond .eq 7, 3) := by decide +kernel
theorem dX11_told_72 : decode cX11_told 72 = .ok (.iconst 1, 1) := by decide +kernel
theorem dX11_told_73 : decode cX11_told 73 = .ok (.goto 4, 3) := by decide +kernel
theorem dX11_told_76 : decode cX11_told 76 = .ok (.iconst 0, 1) := by decide +kernel
theorem dX11_told_77 : decode cX11_told 77 = .ok (.iastore, 1) := by decide +kernel
theorem dX11_told_78 : decode cX11_told 78 = .ok (.aload_n 0, 1) := by decide +kernel
theorem dX11_told_79 : decode cX11_told 79 = .ok (.bipush 6, 2) := by decide +kernel
theorem dX11_told_81 : decode cX11_told 81 = .ok (.invokevirtual 69, 3) := by decide +kernel
theorem dX11_told_84 : decode cX11_told 84 = .ok (.iconst 1, 1) := by decide +kernel
theorem dX11_told_85 : decode cX11_told 85 = .ok (.iadd, 1) := by decide +kernel
theorem dX11_told_86 : decode cX11_told 86 = .ok (.ireturn, 1) := by decide +kernel
theorem dX11_likes_0 : decode cX11_likes 0 = .ok (.aload_n 0, 1) := by decide +kernel
theorem dX11_likes_1 : decode cX11_likes 1 = .ok (.iconst 2, 1) := by decide +kernel
theorem dX11_likes_2 : decode cX11_likes 2 = .ok (.iconst 1, 1) := by decide +kernel
theorem dX11_likes_3 : decode cX11_likes 3 = .ok (.invokevirtual 263, 3) := by decide +kernel
theorem dX11_likes_6 : decode cX11_likes 6 = .ok (.iconst 0, 1) := by decide +kernel
theorem dX11_likes_7 : decode cX11_likes 7 = .ok (.istore_n 3, 1) := by decide +kernel
theorem dX11_likes_8 : decode cX11_likes 8 = .ok (.iload_n 3, 1) := by decide +kernel
theorem dX11_likes_9 : decode cX11_likes 9 = .ok (.aload_n 0, 1) := by decide +kernel
theorem dX11_likes_10 : decode cX11_likes 10 = .ok (.getfield 7, 3) := by decide +kernel
theorem dX11_likes_13 : decode cX11_likes 13 = .ok (.bipush 6, 2) := by decide +kernel
theorem dX11_likes_15 : decode cX11_likes 15 = .ok (.iaload, 1) := by decide +kernel
theorem dX11_likes_16 : decode cX11_likes 16 = .ok (.if_icmp .ge 76, 3) := by decide +kernel
theorem dX11_likes_19 : decode cX11_likes 19 = .ok (.iload_n 1, 1) := by decide +kernel
theorem dX11_likes_20 : decode cX11_likes 20 = .ok (.iload_n 2, 1) := by decide +kernel
theorem dX11_likes_21 : decode cX11_likes 21 = .ok (.aload_n 0, 1) := by decide +kernel
theorem dX11_likes_22 : decode cX11_likes 22 = .ok (.getfield 7, 3) := by decide +kernel
theorem dX11_likes_25 : decode cX11_likes 25 = .ok (.sipush 737, 3) := by decide +kernel
theorem dX11_likes_28 : decode cX11_likes 28 = .ok (.iconst 2, 1) := by decide +kernel
theorem dX11_likes_29 : decode cX11_likes 29 = .ok (.iload_n 3, 1) := by decide +kernel
theorem dX11_likes_30 : decode cX11_likes 30 = .ok (.imul, 1) := by decide +kernel
theorem dX11_likes_31 : decode cX11_likes 31 = .ok (.iadd, 1) := by decide +kernel
theorem dX11_likes_32 : decode cX11_likes 32 = .ok (.iaload, 1) := by decide +kernel
theorem dX11_likes_33 : decode cX11_likes 33 = .ok (.imul, 1) := by decide +kernel
theorem dX11_likes_34 : decode cX11_likes 34 = .ok (.iadd, 1) := by decide +kernel
theorem dX11_likes_35 : decode cX11_likes 35 = .ok (.istore 4, 2) := by decide +kernel
theorem dX11_likes_37 : decode cX11_likes 37 = .ok (.iload 4, 2) := by decide +kernel
theorem dX11_likes_39 : decode cX11_likes 39 = .ok (.i2l, 1) := by decide +kernel
theorem dX11_likes_40 : decode cX11_likes 40 = .ok (.lconst 1, 1) := by decide +kernel
theorem dX11_likes_41 : decode cX11_likes 41 = .ok (.ldc2_w 284, 3) := by decide +kernel
theorem dX11_likes_44 : decode cX11_likes 44 = .ok (.invokestatic 53, 3) := by decide +kernel
theorem dX11_likes_47 : decode cX11_likes 47 = .ok (.ifCond .ne 5, 3) := by decide +kernel
theorem dX11_likes_50 : decode cX11_likes 50 = .ok (.iconst 0, 1) := by decide +kernel
theorem dX11_likes_51 : decode cX11_likes 51 = .ok (.ireturn, 1) := by decide +kernel
theorem dX11_likes_52 : decode cX11_likes 52 = .ok (.aload_n 0, 1) := by decide +kernel
theorem dX11_likes_53 : decode cX11_likes 53 = .ok (.iconst 2, 1) := by decide +kernel
theorem dX11_likes_54 : decode cX11_likes 54 = .ok (.aload_n 0, 1) := by decide +kernel
theorem dX11_likes_55 : decode cX11_likes 55 = .ok (.getfield 7, 3) := by decide +kernel
theorem dX11_likes_58 : decode cX11_likes 58 = .ok (.sipush 737, 3) := by decide +kernel
theorem dX11_likes_61 : decode cX11_likes 61 = .ok (.iconst 2, 1) := by decide +kernel
theorem dX11_likes_62 : decode cX11_likes 62 = .ok (.iload_n 3, 1) := by decide +kernel
theorem dX11_likes_63 : decode cX11_likes 63 = .ok (.imul, 1) := by decide +kernel
theorem dX11_likes_64 : decode cX11_likes 64 = .ok (.iadd, 1) := by decide +kernel
theorem dX11_likes_65 : decode cX11_likes 65 = .ok (.iconst 1, 1) := by decide +kernel
theorem dX11_likes_66 : decode cX11_likes 66 = .ok (.iadd, 1) := by decide +kernel
theorem dX11_likes_67 : decode cX11_likes 67 = .ok (.iaload, 1) := by decide +kernel
theorem dX11_likes_68 : decode cX11_likes 68 = .ok (.iconst 1, 1) := by decide +kernel
theorem dX11_likes_69 : decode cX11_likes 69 = .ok (.if_icmp .ne 8, 3) := by decide +kernel
theorem dX11_likes_72 : decode cX11_likes 72 = .ok (.iload 4, 2) := by decide +kernel
theorem dX11_likes_74 : decode cX11_likes 74 = .ok (.goto 9, 3) := by decide +kernel
theorem dX11_likes_77 : decode cX11_likes 77 = .ok (.sipush 1000, 3) := by decide +kernel
theorem dX11_likes_80 : decode cX11_likes 80 = .ok (.iload 4, 2) := by decide +kernel
theorem dX11_likes_82 : decode cX11_likes 82 = .ok (.isub, 1) := by decide +kernel
theorem dX11_likes_83 : decode cX11_likes 83 = .ok (.invokevirtual 266, 3) := by decide +kernel
theorem dX11_likes_86 : decode cX11_likes 86 = .ok (.iinc 3 1, 3) := by decide +kernel
theorem dX11_likes_89 : decode cX11_likes 89 = .ok (.goto (-81), 3) := by decide +kernel
theorem dX11_likes_92 : decode cX11_likes 92 = .ok (.iconst 1, 1) := by decide +kernel
theorem dX11_likes_93 : decode cX11_likes 93 = .ok (.ireturn, 1) := by decide +kernel
theorem dX11_fitted_0 : decode cX11_fitted 0 = .ok (.iconst (-1), 1) := by decide +kernel
theorem dX11_fitted_1 : decode cX11_fitted 1 = .ok (.istore_n 1, 1) := by decide +kernel
theorem dX11_fitted_2 : decode cX11_fitted 2 = .ok (.iconst 0, 1) := by decide +kernel
theorem dX11_fitted_3 : decode cX11_fitted 3 = .ok (.istore_n 2, 1) := by decide +kernel
theorem dX11_fitted_4 : decode cX11_fitted 4 = .ok (.iload_n 2, 1) := by decide +kernel
theorem dX11_fitted_5 : decode cX11_fitted 5 = .ok (.bipush 100, 2) := by decide +kernel
theorem dX11_fitted_7 : decode cX11_fitted 7 = .ok (.if_icmp .ge 90, 3) := by decide +kernel
theorem dX11_fitted_10 : decode cX11_fitted 10 = .ok (.aload_n 0, 1) := by decide +kernel
theorem dX11_fitted_11 : decode cX11_fitted 11 = .ok (.iload_n 2, 1) := by decide +kernel
theorem dX11_fitted_12 : decode cX11_fitted 12 = .ok (.bipush 10, 2) := by decide +kernel
theorem dX11_fitted_14 : decode cX11_fitted 14 = .ok (.idiv, 1) := by decide +kernel
theorem dX11_fitted_15 : decode cX11_fitted 15 = .ok (.iload_n 2, 1) := by decide +kernel
theorem dX11_fitted_16 : decode cX11_fitted 16 = .ok (.bipush 10, 2) := by decide +kernel
theorem dX11_fitted_18 : decode cX11_fitted 18 = .ok (.irem, 1) := by decide +kernel
theorem dX11_fitted_19 : decode cX11_fitted 19 = .ok (.invokevirtual 286, 3) := by decide +kernel
theorem dX11_fitted_22 : decode cX11_fitted 22 = .ok (.ifCond .eq 69, 3) := by decide +kernel
theorem dX11_fitted_25 : decode cX11_fitted 25 = .ok (.iload_n 1, 1) := by decide +kernel
theorem dX11_fitted_26 : decode cX11_fitted 26 = .ok (.iconst (-1), 1) := by decide +kernel
theorem dX11_fitted_27 : decode cX11_fitted 27 = .ok (.if_icmp .eq 12, 3) := by decide +kernel
theorem dX11_fitted_30 : decode cX11_fitted 30 = .ok (.aload_n 0, 1) := by decide +kernel
theorem dX11_fitted_31 : decode cX11_fitted 31 = .ok (.iconst 2, 1) := by decide +kernel
theorem dX11_fitted_32 : decode cX11_fitted 32 = .ok (.iconst 4, 1) := by decide +kernel
theorem dX11_fitted_33 : decode cX11_fitted 33 = .ok (.invokevirtual 281, 3) := by decide +kernel
theorem dX11_fitted_36 : decode cX11_fitted 36 = .ok (.ifCond .le 55, 3) := by decide +kernel
theorem dX11_fitted_39 : decode cX11_fitted 39 = .ok (.iload_n 2, 1) := by decide +kernel
theorem dX11_fitted_40 : decode cX11_fitted 40 = .ok (.istore_n 1, 1) := by decide +kernel
theorem dX11_fitted_41 : decode cX11_fitted 41 = .ok (.aload_n 0, 1) := by decide +kernel
theorem dX11_fitted_42 : decode cX11_fitted 42 = .ok (.getfield 45, 3) := by decide +kernel
theorem dX11_fitted_45 : decode cX11_fitted 45 = .ok (.iconst 4, 1) := by decide +kernel
theorem dX11_fitted_46 : decode cX11_fitted 46 = .ok (.aload_n 0, 1) := by decide +kernel
theorem dX11_fitted_47 : decode cX11_fitted 47 = .ok (.getfield 45, 3) := by decide +kernel
theorem dX11_fitted_50 : decode cX11_fitted 50 = .ok (.iconst 2, 1) := by decide +kernel
theorem dX11_fitted_51 : decode cX11_fitted 51 = .ok (.iaload, 1) := by decide +kernel
theorem dX11_fitted_52 : decode cX11_fitted 52 = .ok (.iastore, 1) := by decide +kernel
theorem dX11_fitted_53 : decode cX11_fitted 53 = .ok (.iconst 0, 1) := by decide +kernel
theorem dX11_fitted_54 : decode cX11_fitted 54 = .ok (.istore_n 3, 1) := by decide +kernel
theorem dX11_fitted_55 : decode cX11_fitted 55 = .ok (.iload_n 3, 1) := by decide +kernel
theorem dX11_fitted_56 : decode cX11_fitted 56 = .ok (.aload_n 0, 1) := by decide +kernel
theorem dX11_fitted_57 : decode cX11_fitted 57 = .ok (.getfield 45, 3) := by decide +kernel
theorem dX11_fitted_60 : decode cX11_fitted 60 = .ok (.iconst 2, 1) := by decide +kernel
theorem dX11_fitted_61 : decode cX11_fitted 61 = .ok (.iaload, 1) := by decide +kernel
theorem dX11_fitted_62 : decode cX11_fitted 62 = .ok (.if_icmp .ge 29, 3) := by decide +kernel
theorem dX11_fitted_65 : decode cX11_fitted 65 = .ok (.aload_n 0, 1) := by decide +kernel
theorem dX11_fitted_66 : decode cX11_fitted 66 = .ok (.getfield 42, 3) := by decide +kernel
theorem dX11_fitted_69 : decode cX11_fitted 69 = .ok (.sipush 320, 3) := by decide +kernel
theorem dX11_fitted_72 : decode cX11_fitted 72 = .ok (.iload_n 3, 1) := by decide +kernel
theorem dX11_fitted_73 : decode cX11_fitted 73 = .ok (.iadd, 1) := by decide +kernel
theorem dX11_fitted_74 : decode cX11_fitted 74 = .ok (.aload_n 0, 1) := by decide +kernel
theorem dX11_fitted_75 : decode cX11_fitted 75 = .ok (.getfield 42, 3) := by decide +kernel
theorem dX11_fitted_78 : decode cX11_fitted 78 = .ok (.sipush 160, 3) := by decide +kernel
theorem dX11_fitted_81 : decode cX11_fitted 81 = .ok (.iload_n 3, 1) := by decide +kernel
theorem dX11_fitted_82 : decode cX11_fitted 82 = .ok (.iadd, 1) := by decide +kernel
theorem dX11_fitted_83 : decode cX11_fitted 83 = .ok (.iaload, 1) := by decide +kernel
theorem dX11_fitted_84 : decode cX11_fitted 84 = .ok (.iastore, 1) := by decide +kernel
theorem dX11_fitted_85 : decode cX11_fitted 85 = .ok (.iinc 3 1, 3) := by decide +kernel
theorem dX11_fitted_88 : decode cX11_fitted 88 = .ok (.goto (-33), 3) := by decide +kernel
theorem dX11_fitted_91 : decode cX11_fitted 91 = .ok (.iinc 2 1, 3) := by decide +kernel
theorem dX11_fitted_94 : decode cX11_fitted 94 = .ok (.goto (-90), 3) := by decide +kernel
theorem dX11_fitted_97 : decode cX11_fitted 97 = .ok (.iload_n 1, 1) := by decide +kernel
theorem dX11_fitted_98 : decode cX11_fitted 98 = .ok (.ireturn, 1) := by decide +kernel
theorem dX11_bear_0 : decode cX11_bear 0 = .ok (.aload_n 0, 1) := by decide +kernel
theorem dX11_bear_1 : decode cX11_bear 1 = .ok (.iconst 0, 1) := by decide +kernel
theorem dX11_bear_2 : decode cX11_bear 2 = .ok (.iload_n 1, 1) := by decide +kernel
theorem dX11_bear_3 : decode cX11_bear 3 = .ok (.invokevirtual 135, 3) := by decide +kernel
theorem dX11_bear_6 : decode cX11_bear 6 = .ok (.ifCond .eq 17, 3) := by decide +kernel
theorem dX11_bear_9 : decode cX11_bear 9 = .ok (.aload_n 0, 1) := by decide +kernel
theorem dX11_bear_10 : decode cX11_bear 10 = .ok (.iconst 0, 1) := by decide +kernel
theorem dX11_bear_11 : decode cX11_bear 11 = .ok (.iload_n 2, 1) := by decide +kernel
theorem dX11_bear_12 : decode cX11_bear 12 = .ok (.invokevirtual 135, 3) := by decide +kernel
theorem dX11_bear_15 : decode cX11_bear 15 = .ok (.ifCond .eq 8, 3) := by decide +kernel
theorem dX11_bear_18 : decode cX11_bear 18 = .ok (.iload_n 1, 1) := by decide +kernel
theorem dX11_bear_19 : decode cX11_bear 19 = .ok (.iload_n 2, 1) := by decide +kernel
theorem dX11_bear_20 : decode cX11_bear 20 = .ok (.if_icmp .ne 6, 3) := by decide +kernel
theorem dX11_bear_23 : decode cX11_bear 23 = .ok (.bipush (-2), 2) := by decide +kernel
theorem dX11_bear_25 : decode cX11_bear 25 = .ok (.ireturn, 1) := by decide +kernel
theorem dX11_bear_26 : decode cX11_bear 26 = .ok (.aload_n 0, 1) := by decide +kernel
theorem dX11_bear_27 : decode cX11_bear 27 = .ok (.iload_n 1, 1) := by decide +kernel
theorem dX11_bear_28 : decode cX11_bear 28 = .ok (.iconst 4, 1) := by decide +kernel
theorem dX11_bear_29 : decode cX11_bear 29 = .ok (.invokevirtual 112, 3) := by decide +kernel
theorem dX11_bear_32 : decode cX11_bear 32 = .ok (.iload_n 2, 1) := by decide +kernel
theorem dX11_bear_33 : decode cX11_bear 33 = .ok (.ishr, 1) := by decide +kernel
theorem dX11_bear_34 : decode cX11_bear 34 = .ok (.iconst 1, 1) := by decide +kernel
theorem dX11_bear_35 : decode cX11_bear 35 = .ok (.iand, 1) := by decide +kernel
theorem dX11_bear_36 : decode cX11_bear 36 = .ok (.iconst 1, 1) := by decide +kernel
theorem dX11_bear_37 : decode cX11_bear 37 = .ok (.if_icmp .ne 7, 3) := by decide +kernel
theorem dX11_bear_40 : decode cX11_bear 40 = .ok (.iconst 1, 1) := by decide +kernel
theorem dX11_bear_41 : decode cX11_bear 41 = .ok (.goto 4, 3) := by decide +kernel
theorem dX11_bear_44 : decode cX11_bear 44 = .ok (.iconst 0, 1) := by decide +kernel
theorem dX11_bear_45 : decode cX11_bear 45 = .ok (.iload_n 3, 1) := by decide +kernel
theorem dX11_bear_46 : decode cX11_bear 46 = .ok (.if_icmp .ne 6, 3) := by decide +kernel
theorem dX11_bear_49 : decode cX11_bear 49 = .ok (.bipush (-3), 2) := by decide +kernel
theorem dX11_bear_51 : decode cX11_bear 51 = .ok (.ireturn, 1) := by decide +kernel
theorem dX11_bear_52 : decode cX11_bear 52 = .ok (.aload_n 0, 1) := by decide +kernel
theorem dX11_bear_53 : decode cX11_bear 53 = .ok (.getfield 7, 3) := by decide +kernel
theorem dX11_bear_56 : decode cX11_bear 56 = .ok (.bipush 20, 2) := by decide +kernel
theorem dX11_bear_58 : decode cX11_bear 58 = .ok (.iconst 5, 1) := by decide +kernel
theorem dX11_bear_59 : decode cX11_bear 59 = .ok (.iload_n 1, 1) := by decide +kernel
theorem dX11_bear_60 : decode cX11_bear 60 = .ok (.imul, 1) := by decide +kernel
theorem dX11_bear_61 : decode cX11_bear 61 = .ok (.iadd, 1) := by decide +kernel
theorem dX11_bear_62 : decode cX11_bear 62 = .ok (.iconst 4, 1) := by decide +kernel
theorem dX11_bear_63 : decode cX11_bear 63 = .ok (.iadd, 1) := by decide +kernel
theorem dX11_bear_64 : decode cX11_bear 64 = .ok (.dup2, 1) := by decide +kernel
theorem dX11_bear_65 : decode cX11_bear 65 = .ok (.iaload, 1) := by decide +kernel
theorem dX11_bear_66 : decode cX11_bear 66 = .ok (.iconst 1, 1) := by decide +kernel
theorem dX11_bear_67 : decode cX11_bear 67 = .ok (.iload_n 2, 1) := by decide +kernel
theorem dX11_bear_68 : decode cX11_bear 68 = .ok (.ishl, 1) := by decide +kernel
theorem dX11_bear_69 : decode cX11_bear 69 = .ok (.ixor, 1) := by decide +kernel
theorem dX11_bear_70 : decode cX11_bear 70 = .ok (.iastore, 1) := by decide +kernel
theorem dX11_bear_71 : decode cX11_bear 71 = .ok (.iconst 1, 1) := by decide +kernel
theorem dX11_bear_72 : decode cX11_bear 72 = .ok (.ireturn, 1) := by decide +kernel
theorem dX11_alongOf_0 : decode cX11_alongOf 0 = .ok (.iconst 0, 1) := by decide +kernel
theorem dX11_alongOf_1 : decode cX11_alongOf 1 = .ok (.istore_n 2, 1) := by decide +kernel
theorem dX11_alongOf_2 : decode cX11_alongOf 2 = .ok (.iconst 1, 1) := by decide +kernel
theorem dX11_alongOf_3 : decode cX11_alongOf 3 = .ok (.istore_n 3, 1) := by decide +kernel
theorem dX11_alongOf_4 : decode cX11_alongOf 4 = .ok (.iload_n 3, 1) := by decide +kernel
theorem dX11_alongOf_5 : decode cX11_alongOf 5 = .ok (.ifCond .eq 73, 3) := by decide +kernel
theorem dX11_alongOf_8 : decode cX11_alongOf 8 = .ok (.iload_n 2, 1) := by decide +kernel
theorem dX11_alongOf_9 : decode cX11_alongOf 9 = .ok (.istore 4, 2) := by decide +kernel
theorem dX11_alongOf_11 : decode cX11_alongOf 11 = .ok (.iconst 0, 1) := by decide +kernel
theorem dX11_alongOf_12 : decode cX11_alongOf 12 = .ok (.istore 5, 2) := by decide +kernel
theorem dX11_alongOf_14 : decode cX11_alongOf 14 = .ok (.iload 5, 2) := by decide +kernel
theorem dX11_alongOf_16 : decode cX11_alongOf 16 = .ok (.aload_n 0, 1) := by decide +kernel
theorem dX11_alongOf_17 : decode cX11_alongOf 17 = .ok (.getfield 7, 3) := by decide +kernel
theorem dX11_alongOf_20 : decode cX11_alongOf 20 = .ok (.iconst 0, 1) := by decide +kernel
theorem dX11_alongOf_21 : decode cX11_alongOf 21 = .ok (.iaload, 1) := by decide +kernel
theorem dX11_alongOf_22 : decode cX11_alongOf 22 = .ok (.if_icmp .ge 38, 3) := by decide +kernel
theorem dX11_alongOf_25 : decode cX11_alongOf 25 = .ok (.iload 4, 2) := by decide +kernel
theorem dX11_alongOf_27 : decode cX11_alongOf 27 = .ok (.aload_n 0, 1) := by decide +kernel
theorem dX11_alongOf_28 : decode cX11_alongOf 28 = .ok (.iload 5, 2) := by decide +kernel
theorem dX11_alongOf_30 : decode cX11_alongOf 30 = .ok (.iconst 4, 1) := by decide +kernel
theorem dX11_alongOf_31 : decode cX11_alongOf 31 = .ok (.invokevirtual 112, 3) := by decide +kernel
theorem dX11_alongOf_34 : decode cX11_alongOf 34 = .ok (.iload_n 2, 1) := by decide +kernel
theorem dX11_alongOf_35 : decode cX11_alongOf 35 = .ok (.iconst 1, 1) := by decide +kernel
theorem dX11_alongOf_36 : decode cX11_alongOf 36 = .ok (.iload_n 1, 1) := by decide +kernel
theorem dX11_alongOf_37 : decode cX11_alongOf 37 = .ok (.ishl, 1) := by decide +kernel
theorem dX11_alongOf_38 : decode cX11_alongOf 38 = .ok (.ior, 1) := by decide +kernel
theorem dX11_alongOf_39 : decode cX11_alongOf 39 = .ok (.iand, 1) := by decide +kernel
theorem dX11_alongOf_40 : decode cX11_alongOf 40 = .ok (.ifCond .eq 10, 3) := by decide +kernel
theorem dX11_alongOf_43 : decode cX11_alongOf 43 = .ok (.iconst 1, 1) := by decide +kernel
theorem dX11_alongOf_44 : decode cX11_alongOf 44 = .ok (.iload 5, 2) := by decide +kernel
theorem dX11_alongOf_46 : decode cX11_alongOf 46 = .ok (.ishl, 1) := by decide +kernel
theorem dX11_alongOf_47 : decode cX11_alongOf 47 = .ok (.goto 4, 3) := by decide +kernel
theorem dX11_alongOf_50 : decode cX11_alongOf 50 = .ok (.iconst 0, 1) := by decide +kernel
theorem dX11_alongOf_51 : decode cX11_alongOf 51 = .ok (.ior, 1) := by decide +kernel
theorem dX11_alongOf_52 : decode cX11_alongOf 52 = .ok (.istore 4, 2) := by decide +kernel
theorem dX11_alongOf_54 : decode cX11_alongOf 54 = .ok (.iinc 5 1, 3) := by decide +kernel
theorem dX11_alongOf_57 : decode cX11_alongOf 57 = .ok (.goto (-43), 3) := by decide +kernel
theorem dX11_alongOf_60 : decode cX11_alongOf 60 = .ok (.iload 4, 2) := by decide +kernel
theorem dX11_alongOf_62 : decode cX11_alongOf 62 = .ok (.iload_n 2, 1) := by decide +kernel
theorem dX11_alongOf_63 : decode cX11_alongOf 63 = .ok (.if_icmp .eq 7, 3) := by decide +kernel
theorem dX11_alongOf_66 : decode cX11_alongOf 66 = .ok (.iconst 1, 1) := by decide +kernel
theorem dX11_alongOf_67 : decode cX11_alongOf 67 = .ok (.goto 4, 3) := by decide +kernel
theorem dX11_alongOf_70 : decode cX11_alongOf 70 = .ok (.iconst 0, 1) := by decide +kernel
theorem dX11_alongOf_71 : decode cX11_alongOf 71 = .ok (.istore_n 3, 1) := by decide +kernel
theorem dX11_alongOf_72 : decode cX11_alongOf 72 = .ok (.iload 4, 2) := by decide +kernel
theorem dX11_alongOf_74 : decode cX11_alongOf 74 = .ok (.istore_n 2, 1) := by decide +kernel
theorem dX11_alongOf_75 : decode cX11_alongOf 75 = .ok (.goto (-71), 3) := by decide +kernel
theorem dX11_alongOf_78 : decode cX11_alongOf 78 = .ok (.iload_n 2, 1) := by decide +kernel
theorem dX11_alongOf_79 : decode cX11_alongOf 79 = .ok (.ireturn, 1) := by decide +kernel
theorem dX11_along_0 : decode cX11_along 0 = .ok (.aload_n 0, 1) := by decide +kernel
theorem dX11_along_1 : decode cX11_along 1 = .ok (.iconst 0, 1) := by decide +kernel
theorem dX11_along_2 : decode cX11_along 2 = .ok (.iload_n 1, 1) := by decide +kernel
theorem dX11_along_3 : decode cX11_along 3 = .ok (.invokevirtual 135, 3) := by decide +kernel
theorem dX11_along_6 : decode cX11_along 6 = .ok (.ifCond .eq 11, 3) := by decide +kernel
theorem dX11_along_9 : decode cX11_along 9 = .ok (.aload_n 0, 1) := by decide +kernel
theorem dX11_along_10 : decode cX11_along 10 = .ok (.iload_n 1, 1) := by decide +kernel
theorem dX11_along_11 : decode cX11_along 11 = .ok (.invokevirtual 289, 3) := by decide +kernel
theorem dX11_along_14 : decode cX11_along 14 = .ok (.goto 5, 3) := by decide +kernel
theorem dX11_along_17 : decode cX11_along 17 = .ok (.bipush (-2), 2) := by decide +kernel
theorem dX11_along_19 : decode cX11_along 19 = .ok (.ireturn, 1) := by decide +kernel
theorem dX11_hand_0 : decode cX11_hand 0 = .ok (.iload_n 1, 1) := by decide +kernel
theorem dX11_hand_1 : decode cX11_hand 1 = .ok (.i2l, 1) := by decide +kernel
theorem dX11_hand_2 : decode cX11_hand 2 = .ok (.lconst 0, 1) := by decide +kernel
theorem dX11_hand_3 : decode cX11_hand 3 = .ok (.ldc2_w 292, 3) := by decide +kernel
theorem dX11_hand_6 : decode cX11_hand 6 = .ok (.invokestatic 53, 3) := by decide +kernel
theorem dX11_hand_9 : decode cX11_hand 9 = .ok (.ifCond .eq 15, 3) := by decide +kernel
theorem dX11_hand_12 : decode cX11_hand 12 = .ok (.iload_n 2, 1) := by decide +kernel
theorem dX11_hand_13 : decode cX11_hand 13 = .ok (.i2l, 1) := by decide +kernel
theorem dX11_hand_14 : decode cX11_hand 14 = .ok (.lconst 0, 1) := by decide +kernel
theorem dX11_hand_15 : decode cX11_hand 15 = .ok (.ldc2_w 258, 3) := by decide +kernel
theorem dX11_hand_18 : decode cX11_hand 18 = .ok (.invokestatic 53, 3) := by decide +kernel
theorem dX11_hand_21 : decode cX11_hand 21 = .ok (.ifCond .ne 6, 3) := by decide +kernel
theorem dX11_hand_24 : decode cX11_hand 24 = .ok (.bipush (-2), 2) := by decide +kernel
theorem dX11_hand_26 : decode cX11_hand 26 = .ok (.ireturn, 1) := by decide +kernel
theorem dX11_hand_27 : decode cX11_hand 27 = .ok (.aload_n 0, 1) := by decide +kernel
theorem dX11_hand_28 : decode cX11_hand 28 = .ok (.getfield 7, 3) := by decide +kernel
theorem dX11_hand_31 : decode cX11_hand 31 = .ok (.bipush 7, 2) := by decide +kernel
theorem dX11_hand_33 : decode cX11_hand 33 = .ok (.iaload, 1) := by decide +kernel
theorem dX11_hand_34 : decode cX11_hand 34 = .ok (.iconst 3, 1) := by decide +kernel
theorem dX11_hand_35 : decode cX11_hand 35 = .ok (.if_icmp .ne 6, 3) := by decide +kernel
theorem dX11_hand_38 : decode cX11_hand 38 = .ok (.bipush (-4), 2) := by decide +kernel
theorem dX11_hand_40 : decode cX11_hand 40 = .ok (.ireturn, 1) := by decide +kernel
theorem dX11_hand_41 : decode cX11_hand 41 = .ok (.aload_n 0, 1) := by decide +kernel
theorem dX11_hand_42 : decode cX11_hand 42 = .ok (.getfield 7, 3) := by decide +kernel
theorem dX11_hand_45 : decode cX11_hand 45 = .ok (.sipush 817, 3) := by decide +kernel
theorem dX11_hand_48 : decode cX11_hand 48 = .ok (.iconst 2, 1) := by decide +kernel
theorem dX11_hand_49 : decode cX11_hand 49 = .ok (.aload_n 0, 1) := by decide +kernel
theorem dX11_hand_50 : decode cX11_hand 50 = .ok (.getfield 7, 3) := by decide +kernel
theorem dX11_hand_53 : decode cX11_hand 53 = .ok (.bipush 7, 2) := by decide +kernel
theorem dX11_hand_55 : decode cX11_hand 55 = .ok (.iaload, 1) := by decide +kernel
theorem dX11_hand_56 : decode cX11_hand 56 = .ok (.imul, 1) := by decide +kernel
theorem dX11_hand_57 : decode cX11_hand 57 = .ok (.iadd, 1) := by decide +kernel
theorem dX11_hand_58 : decode cX11_hand 58 = .ok (.iload_n 1, 1) := by decide +kernel
theorem dX11_hand_59 : decode cX11_hand 59 = .ok (.iastore, 1) := by decide +kernel
theorem dX11_hand_60 : decode cX11_hand 60 = .ok (.aload_n 0, 1) := by decide +kernel
theorem dX11_hand_61 : decode cX11_hand 61 = .ok (.getfield 7, 3) := by decide +kernel
theorem dX11_hand_64 : decode cX11_hand 64 = .ok (.sipush 817, 3) := by decide +kernel
theorem dX11_hand_67 : decode cX11_hand 67 = .ok (.iconst 2, 1) := by decide +kernel
theorem dX11_hand_68 : decode cX11_hand 68 = .ok (.aload_n 0, 1) := by decide +kernel
theorem dX11_hand_69 : decode cX11_hand 69 = .ok (.getfield 7, 3) := by decide +kernel
theorem dX11_hand_72 : decode cX11_hand 72 = .ok (.bipush 7, 2) := by decide +kernel
theorem dX11_hand_74 : decode cX11_hand 74 = .ok (.iaload, 1) := by decide +kernel
theorem dX11_hand_75 : decode cX11_hand 75 = .ok (.imul, 1) := by decide +kernel
theorem dX11_hand_76 : decode cX11_hand 76 = .ok (.iadd, 1) := by decide +kernel
theorem dX11_hand_77 : decode cX11_hand 77 = .ok (.iconst 1, 1) := by decide +kernel
theorem dX11_hand_78 : decode cX11_hand 78 = .ok (.iadd, 1) := by decide +kernel
theorem dX11_hand_79 : decode cX11_hand 79 = .ok (.iload_n 2, 1) := by decide +kernel
theorem dX11_hand_80 : decode cX11_hand 80 = .ok (.iastore, 1) := by decide +kernel
theorem dX11_hand_81 : decode cX11_hand 81 = .ok (.aload_n 0, 1) := by decide +kernel
theorem dX11_hand_82 : decode cX11_hand 82 = .ok (.bipush 7, 2) := by decide +kernel
theorem dX11_hand_84 : decode cX11_hand 84 = .ok (.invokevirtual 69, 3) := by decide +kernel
theorem dX11_hand_87 : decode cX11_hand 87 = .ok (.ireturn, 1) := by decide +kernel
theorem dX11_need_0 : decode cX11_need 0 = .ok (.iload_n 1, 1) := by decide +kernel
theorem dX11_need_1 : decode cX11_need 1 = .ok (.i2l, 1) := by decide +kernel
theorem dX11_need_2 : decode cX11_need 2 = .ok (.lconst 0, 1) := by decide +kernel
theorem dX11_need_3 : decode cX11_need 3 = .ok (.ldc2_w 67, 3) := by decide +kernel
theorem dX11_need_6 : decode cX11_need 6 = .ok (.invokestatic 53, 3) := by decide +kernel
theorem dX11_need_9 : decode cX11_need 9 = .ok (.ifCond .eq 28, 3) := by decide +kernel
theorem dX11_need_12 : decode cX11_need 12 = .ok (.iload_n 2, 1) := by decide +kernel
theorem dX11_need_13 : decode cX11_need 13 = .ok (.i2l, 1) := by decide +kernel
theorem dX11_need_14 : decode cX11_need 14 = .ok (.lconst 0, 1) := by decide +kernel
theorem dX11_need_15 : decode cX11_need 15 = .ok (.ldc2_w 258, 3) := by decide +kernel
theorem dX11_need_18 : decode cX11_need 18 = .ok (.invokestatic 53, 3) := by decide +kernel
theorem dX11_need_21 : decode cX11_need 21 = .ok (.ifCond .eq 16, 3) := by decide +kernel
theorem dX11_need_24 : decode cX11_need 24 = .ok (.aload_n 0, 1) := by decide +kernel
theorem dX11_need_25 : decode cX11_need 25 = .ok (.sipush 823, 3) := by decide +kernel
theorem dX11_need_28 : decode cX11_need 28 = .ok (.iload_n 1, 1) := by decide +kernel
theorem dX11_need_29 : decode cX11_need 29 = .ok (.iadd, 1) := by decide +kernel
theorem dX11_need_30 : decode cX11_need 30 = .ok (.iload_n 2, 1) := by decide +kernel
theorem dX11_need_31 : decode cX11_need 31 = .ok (.invokevirtual 132, 3) := by decide +kernel
theorem dX11_need_34 : decode cX11_need 34 = .ok (.goto 5, 3) := by decide +kernel
theorem dX11_need_37 : decode cX11_need 37 = .ok (.bipush (-2), 2) := by decide +kernel
theorem dX11_need_39 : decode cX11_need 39 = .ok (.ireturn, 1) := by decide +kernel
theorem dX11_isThere_0 : decode cX11_isThere 0 = .ok (.aload_n 0, 1) := by decide +kernel
theorem dX11_isThere_1 : decode cX11_isThere 1 = .ok (.bipush 7, 2) := by decide +kernel
theorem dX11_isThere_3 : decode cX11_isThere 3 = .ok (.iload_n 1, 1) := by decide +kernel
theorem dX11_isThere_4 : decode cX11_isThere 4 = .ok (.invokevirtual 135, 3) := by decide +kernel
theorem dX11_isThere_7 : decode cX11_isThere 7 = .ok (.ifCond .eq 25, 3) := by decide +kernel
theorem dX11_isThere_10 : decode cX11_isThere 10 = .ok (.iload_n 2, 1) := by decide +kernel
theorem dX11_isThere_11 : decode cX11_isThere 11 = .ok (.aload_n 0, 1) := by decide +kernel
theorem dX11_isThere_12 : decode cX11_isThere 12 = .ok (.getfield 7, 3) := by decide +kernel
theorem dX11_isThere_15 : decode cX11_isThere 15 = .ok (.sipush 817, 3) := by decide +kernel
theorem dX11_isThere_18 : decode cX11_isThere 18 = .ok (.iconst 2, 1) := by decide +kernel
theorem dX11_isThere_19 : decode cX11_isThere 19 = .ok (.iload_n 1, 1) := by decide +kernel
theorem dX11_isThere_20 : decode cX11_isThere 20 = .ok (.imul, 1) := by decide +kernel
theorem dX11_isThere_21 : decode cX11_isThere 21 = .ok (.iadd, 1) := by decide +kernel
theorem dX11_isThere_22 : decode cX11_isThere 22 = .ok (.iconst 1, 1) := by decide +kernel
theorem dX11_isThere_23 : decode cX11_isThere 23 = .ok (.iadd, 1) := by decide +kernel
theorem dX11_isThere_24 : decode cX11_isThere 24 = .ok (.iaload, 1) := by decide +kernel
theorem dX11_isThere_25 : decode cX11_isThere 25 = .ok (.if_icmp .ge 7, 3) := by decide +kernel
theorem dX11_isThere_28 : decode cX11_isThere 28 = .ok (.iconst 1, 1) := by decide +kernel
theorem dX11_isThere_29 : decode cX11_isThere 29 = .ok (.goto 4, 3) := by decide +kernel
theorem dX11_isThere_32 : decode cX11_isThere 32 = .ok (.iconst 0, 1) := by decide +kernel
theorem dX11_isThere_33 : decode cX11_isThere 33 = .ok (.ireturn, 1) := by decide +kernel
theorem dX11_canOf_0 : decode cX11_canOf 0 = .ok (.iload_n 0, 1) := by decide +kernel
theorem dX11_canOf_1 : decode cX11_canOf 1 = .ok (.iconst 4, 1) := by decide +kernel
theorem dX11_canOf_2 : decode cX11_canOf 2 = .ok (.iload_n 1, 1) := by decide +kernel
theorem dX11_canOf_3 : decode cX11_canOf 3 = .ok (.imul, 1) := by decide +kernel
theorem dX11_canOf_4 : decode cX11_canOf 4 = .ok (.ishr, 1) := by decide +kernel
theorem dX11_canOf_5 : decode cX11_canOf 5 = .ok (.bipush 15, 2) := by decide +kernel
theorem dX11_canOf_7 : decode cX11_canOf 7 = .ok (.iand, 1) := by decide +kernel
theorem dX11_canOf_8 : decode cX11_canOf 8 = .ok (.ireturn, 1) := by decide +kernel
theorem dX11_mayTeach_0 : decode cX11_mayTeach 0 = .ok (.iload_n 3, 1) := by decide +kernel
theorem dX11_mayTeach_1 : decode cX11_mayTeach 1 = .ok (.bipush 16, 2) := by decide +kernel
theorem dX11_mayTeach_3 : decode cX11_mayTeach 3 = .ok (.idiv, 1) := by decide +kernel
theorem dX11_mayTeach_4 : decode cX11_mayTeach 4 = .ok (.istore 4, 2) := by decide +kernel
theorem dX11_mayTeach_6 : decode cX11_mayTeach 6 = .ok (.iload_n 3, 1) := by decide +kernel
theorem dX11_mayTeach_7 : decode cX11_mayTeach 7 = .ok (.iconst 4, 1) := by decide +kernel
theorem dX11_mayTeach_8 : decode cX11_mayTeach 8 = .ok (.idiv, 1) := by decide +kernel
theorem dX11_mayTeach_9 : decode cX11_mayTeach 9 = .ok (.iconst 4, 1) := by decide +kernel
theorem dX11_mayTeach_10 : decode cX11_mayTeach 10 = .ok (.irem, 1) := by decide +kernel
theorem dX11_mayTeach_11 : decode cX11_mayTeach 11 = .ok (.istore 5, 2) := by decide +kernel
theorem dX11_mayTeach_13 : decode cX11_mayTeach 13 = .ok (.iload_n 3, 1) := by decide +kernel
theorem dX11_mayTeach_14 : decode cX11_mayTeach 14 = .ok (.iconst 4, 1) := by decide +kernel
theorem dX11_mayTeach_15 : decode cX11_mayTeach 15 = .ok (.irem, 1) := by decide +kernel
theorem dX11_mayTeach_16 : decode cX11_mayTeach 16 = .ok (.istore 6, 2) := by decide +kernel
theorem dX11_mayTeach_18 : decode cX11_mayTeach 18 = .ok (.iload 4, 2) := by decide +kernel
theorem dX11_mayTeach_20 : decode cX11_mayTeach 20 = .ok (.iload 6, 2) := by decide +kernel
theorem dX11_mayTeach_22 : decode cX11_mayTeach 22 = .ok (.if_icmp .eq 56, 3) := by decide +kernel
theorem dX11_mayTeach_25 : decode cX11_mayTeach 25 = .ok (.aload_n 0, 1) := by decide +kernel
theorem dX11_mayTeach_26 : decode cX11_mayTeach 26 = .ok (.iload 4, 2) := by decide +kernel
theorem dX11_mayTeach_28 : decode cX11_mayTeach 28 = .ok (.iload_n 2, 1) := by decide +kernel
theorem dX11_mayTeach_29 : decode cX11_mayTeach 29 = .ok (.invokevirtual 294, 3) := by decide +kernel
theorem dX11_mayTeach_32 : decode cX11_mayTeach 32 = .ok (.ifCond .eq 46, 3) := by decide +kernel
theorem dX11_mayTeach_35 : decode cX11_mayTeach 35 = .ok (.aload_n 0, 1) := by decide +kernel
theorem dX11_mayTeach_36 : decode cX11_mayTeach 36 = .ok (.iload 6, 2) := by decide +kernel
theorem dX11_mayTeach_38 : decode cX11_mayTeach 38 = .ok (.iload_n 2, 1) := by decide +kernel
theorem dX11_mayTeach_39 : decode cX11_mayTeach 39 = .ok (.invokevirtual 294, 3) := by decide +kernel
theorem dX11_mayTeach_42 : decode cX11_mayTeach 42 = .ok (.ifCond .eq 36, 3) := by decide +kernel
theorem dX11_mayTeach_45 : decode cX11_mayTeach 45 = .ok (.iload_n 1, 1) := by decide +kernel
theorem dX11_mayTeach_46 : decode cX11_mayTeach 46 = .ok (.iload 4, 2) := by decide +kernel
theorem dX11_mayTeach_48 : decode cX11_mayTeach 48 = .ok (.invokestatic 297, 3) := by decide +kernel
theorem dX11_mayTeach_51 : decode cX11_mayTeach 51 = .ok (.iload 5, 2) := by decide +kernel
theorem dX11_mayTeach_53 : decode cX11_mayTeach 53 = .ok (.ishr, 1) := by decide +kernel
theorem dX11_mayTeach_54 : decode cX11_mayTeach 54 = .ok (.iconst 1, 1) := by decide +kernel
theorem dX11_mayTeach_55 : decode cX11_mayTeach 55 = .ok (.iand, 1) := by decide +kernel
theorem dX11_mayTeach_56 : decode cX11_mayTeach 56 = .ok (.iconst 1, 1) := by decide +kernel
theorem dX11_mayTeach_57 : decode cX11_mayTeach 57 = .ok (.if_icmp .ne 21, 3) := by decide +kernel
theorem dX11_mayTeach_60 : decode cX11_mayTeach 60 = .ok (.iload_n 1, 1) := by decide +kernel
theorem dX11_mayTeach_61 : decode cX11_mayTeach 61 = .ok (.iload 6, 2) := by decide +kernel
theorem dX11_mayTeach_63 : decode cX11_mayTeach 63 = .ok (.invokestatic 297, 3) := by decide +kernel
theorem dX11_mayTeach_66 : decode cX11_mayTeach 66 = .ok (.iload 5, 2) := by decide +kernel
theorem dX11_mayTeach_68 : decode cX11_mayTeach 68 = .ok (.ishr, 1) := by decide +kernel
theorem dX11_mayTeach_69 : decode cX11_mayTeach 69 = .ok (.iconst 1, 1) := by decide +kernel
theorem dX11_mayTeach_70 : decode cX11_mayTeach 70 = .ok (.iand, 1) := by decide +kernel
theorem dX11_mayTeach_71 : decode cX11_mayTeach 71 = .ok (.ifCond .ne 7, 3) := by decide +kernel
theorem dX11_mayTeach_74 : decode cX11_mayTeach 74 = .ok (.iconst 1, 1) := by decide +kernel
theorem dX11_mayTeach_75 : decode cX11_mayTeach 75 = .ok (.goto 4, 3) := by decide +kernel
theorem dX11_mayTeach_78 : decode cX11_mayTeach 78 = .ok (.iconst 0, 1) := by decide +kernel
theorem dX11_mayTeach_79 : decode cX11_mayTeach 79 = .ok (.ireturn, 1) := by decide +kernel
theorem dX11_worth_0 : decode cX11_worth 0 = .ok (.iconst 0, 1) := by decide +kernel
theorem dX11_worth_1 : decode cX11_worth 1 = .ok (.istore 4, 2) := by decide +kernel
theorem dX11_worth_3 : decode cX11_worth 3 = .ok (.iconst 0, 1) := by decide +kernel
theorem dX11_worth_4 : decode cX11_worth 4 = .ok (.istore 5, 2) := by decide +kernel
theorem dX11_worth_6 : decode cX11_worth 6 = .ok (.iload 5, 2) := by decide +kernel
theorem dX11_worth_8 : decode cX11_worth 8 = .ok (.iconst 3, 1) := by decide +kernel
theorem dX11_worth_9 : decode cX11_worth 9 = .ok (.if_icmp .ge 68, 3) := by decide +kernel
theorem dX11_worth_12 : decode cX11_worth 12 = .ok (.iload_n 3, 1) := by decide +kernel
theorem dX11_worth_13 : decode cX11_worth 13 = .ok (.iconst (-1), 1) := by decide +kernel
theorem dX11_worth_14 : decode cX11_worth 14 = .ok (.if_icmp .eq 24, 3) := by decide +kernel
theorem dX11_worth_17 : decode cX11_worth 17 = .ok (.iload_n 3, 1) := by decide +kernel
theorem dX11_worth_18 : decode cX11_worth 18 = .ok (.bipush 16, 2) := by decide +kernel
theorem dX11_worth_20 : decode cX11_worth 20 = .ok (.idiv, 1) := by decide +kernel
theorem dX11_worth_21 : decode cX11_worth 21 = .ok (.iload 5, 2) := by decide +kernel
theorem dX11_worth_23 : decode cX11_worth 23 = .ok (.if_icmp .eq 11, 3) := by decide +kernel
theorem dX11_worth_26 : decode cX11_worth 26 = .ok (.iload_n 3, 1) := by decide +kernel
theorem dX11_worth_27 : decode cX11_worth 27 = .ok (.iconst 4, 1) := by decide +kernel
theorem dX11_worth_28 : decode cX11_worth 28 = .ok (.irem, 1) := by decide +kernel
theorem dX11_worth_29 : decode cX11_worth 29 = .ok (.iload 5, 2) := by decide +kernel
theorem dX11_worth_31 : decode cX11_worth 31 = .ok (.if_icmp .ne 7, 3) := by decide +kernel
theorem dX11_worth_34 : decode cX11_worth 34 = .ok (.iconst 1, 1) := by decide +kernel
theorem dX11_worth_35 : decode cX11_worth 35 = .ok (.goto 4, 3) := by decide +kernel
theorem dX11_worth_38 : decode cX11_worth 38 = .ok (.iconst 0, 1) := by decide +kernel
theorem dX11_worth_39 : decode cX11_worth 39 = .ok (.istore 6, 2) := by decide +kernel
theorem dX11_worth_41 : decode cX11_worth 41 = .ok (.iload 4, 2) := by decide +kernel
theorem dX11_worth_43 : decode cX11_worth 43 = .ok (.aload_n 0, 1) := by decide +kernel
theorem dX11_worth_44 : decode cX11_worth 44 = .ok (.iload 5, 2) := by decide +kernel
theorem dX11_worth_46 : decode cX11_worth 46 = .ok (.iload_n 2, 1) := by decide +kernel
theorem dX11_worth_47 : decode cX11_worth 47 = .ok (.invokevirtual 294, 3) := by decide +kernel
theorem dX11_worth_50 : decode cX11_worth 50 = .ok (.ifCond .eq 17, 3) := by decide +kernel
theorem dX11_worth_53 : decode cX11_worth 53 = .ok (.iload 6, 2) := by decide +kernel
theorem dX11_worth_55 : decode cX11_worth 55 = .ok (.ifCond .ne 12, 3) := by decide +kernel
theorem dX11_worth_58 : decode cX11_worth 58 = .ok (.iload_n 1, 1) := by decide +kernel
theorem dX11_worth_59 : decode cX11_worth 59 = .ok (.iload 5, 2) := by decide +kernel
theorem dX11_worth_61 : decode cX11_worth 61 = .ok (.invokestatic 297, 3) := by decide +kernel
theorem dX11_worth_64 : decode cX11_worth 64 = .ok (.goto 4, 3) := by decide +kernel
theorem dX11_worth_67 : decode cX11_worth 67 = .ok (.iconst 0, 1) := by decide +kernel
theorem dX11_worth_68 : decode cX11_worth 68 = .ok (.ior, 1) := by decide +kernel
theorem dX11_worth_69 : decode cX11_worth 69 = .ok (.istore 4, 2) := by decide +kernel
theorem dX11_worth_71 : decode cX11_worth 71 = .ok (.iinc 5 1, 3) := by decide +kernel
theorem dX11_worth_74 : decode cX11_worth 74 = .ok (.goto (-68), 3) := by decide +kernel
theorem dX11_worth_77 : decode cX11_worth 77 = .ok (.iconst 0, 1) := by decide +kernel
theorem dX11_worth_78 : decode cX11_worth 78 = .ok (.istore 5, 2) := by decide +kernel
theorem dX11_worth_80 : decode cX11_worth 80 = .ok (.iconst 0, 1) := by decide +kernel
theorem dX11_worth_81 : decode cX11_worth 81 = .ok (.istore 6, 2) := by decide +kernel
theorem dX11_worth_83 : decode cX11_worth 83 = .ok (.iload 6, 2) := by decide +kernel
theorem dX11_worth_85 : decode cX11_worth 85 = .ok (.iconst 4, 1) := by decide +kernel
theorem dX11_worth_86 : decode cX11_worth 86 = .ok (.if_icmp .ge 40, 3) := by decide +kernel
theorem dX11_worth_89 : decode cX11_worth 89 = .ok (.iload 5, 2) := by decide +kernel
theorem dX11_worth_91 : decode cX11_worth 91 = .ok (.iload 4, 2) := by decide +kernel
theorem dX11_worth_93 : decode cX11_worth 93 = .ok (.iload 6, 2) := by decide +kernel
theorem dX11_worth_95 : decode cX11_worth 95 = .ok (.ishr, 1) := by decide +kernel
theorem dX11_worth_96 : decode cX11_worth 96 = .ok (.iconst 1, 1) := by decide +kernel
theorem dX11_worth_97 : decode cX11_worth 97 = .ok (.iand, 1) := by decide +kernel
theorem dX11_worth_98 : decode cX11_worth 98 = .ok (.iconst 1, 1) := by decide +kernel
theorem dX11_worth_99 : decode cX11_worth 99 = .ok (.if_icmp .ne 17, 3) := by decide +kernel
theorem dX11_worth_102 : decode cX11_worth 102 = .ok (.aload_n 0, 1) := by decide +kernel
theorem dX11_worth_103 : decode cX11_worth 103 = .ok (.getfield 7, 3) := by decide +kernel
theorem dX11_worth_106 : decode cX11_worth 106 = .ok (.sipush 823, 3) := by decide +kernel
theorem dX11_worth_109 : decode cX11_worth 109 = .ok (.iload 6, 2) := by decide +kernel
theorem dX11_worth_111 : decode cX11_worth 111 = .ok (.iadd, 1) := by decide +kernel
theorem dX11_worth_112 : decode cX11_worth 112 = .ok (.iaload, 1) := by decide +kernel
theorem dX11_worth_113 : decode cX11_worth 113 = .ok (.goto 4, 3) := by decide +kernel
theorem dX11_worth_116 : decode cX11_worth 116 = .ok (.iconst 0, 1) := by decide +kernel
theorem dX11_worth_117 : decode cX11_worth 117 = .ok (.iadd, 1) := by decide +kernel
theorem dX11_worth_118 : decode cX11_worth 118 = .ok (.istore 5, 2) := by decide +kernel
theorem dX11_worth_120 : decode cX11_worth 120 = .ok (.iinc 6 1, 3) := by decide +kernel
theorem dX11_worth_123 : decode cX11_worth 123 = .ok (.goto (-40), 3) := by decide +kernel
theorem dX11_worth_126 : decode cX11_worth 126 = .ok (.iload_n 3, 1) := by decide +kernel
theorem dX11_worth_127 : decode cX11_worth 127 = .ok (.iconst (-1), 1) := by decide +kernel
theorem dX11_worth_128 : decode cX11_worth 128 = .ok (.if_icmp .ne 7, 3) := by decide +kernel
theorem dX11_worth_131 : decode cX11_worth 131 = .ok (.iload_n 1, 1) := by decide +kernel
theorem dX11_worth_132 : decode cX11_worth 132 = .ok (.goto 18, 3) := by decide +kernel
theorem dX11_worth_135 : decode cX11_worth 135 = .ok (.iload_n 1, 1) := by decide +kernel
theorem dX11_worth_136 : decode cX11_worth 136 = .ok (.iconst 1, 1) := by decide +kernel
theorem dX11_worth_137 : decode cX11_worth 137 = .ok (.iconst 4, 1) := by decide +kernel
theorem dX11_worth_138 : decode cX11_worth 138 = .ok (.iload_n 3, 1) := by decide +kernel
theorem dX11_worth_139 : decode cX11_worth 139 = .ok (.iconst 4, 1) := by decide +kernel
theorem dX11_worth_140 : decode cX11_worth 140 = .ok (.irem, 1) := by decide +kernel
theorem dX11_worth_141 : decode cX11_worth 141 = .ok (.imul, 1) := by decide +kernel
theorem dX11_worth_142 : decode cX11_worth 142 = .ok (.iload_n 3, 1) := by decide +kernel
theorem dX11_worth_143 : decode cX11_worth 143 = .ok (.iconst 4, 1) := by decide +kernel
theorem dX11_worth_144 : decode cX11_worth 144 = .ok (.idiv, 1) := by decide +kernel
theorem dX11_worth_145 : decode cX11_worth 145 = .ok (.iconst 4, 1) := by decide +kernel
theorem dX11_worth_146 : decode cX11_worth 146 = .ok (.irem, 1) := by decide +kernel
theorem dX11_worth_147 : decode cX11_worth 147 = .ok (.iadd, 1) := by decide +kernel
theorem dX11_worth_148 : decode cX11_worth 148 = .ok (.ishl, 1) := by decide +kernel
theorem dX11_worth_149 : decode cX11_worth 149 = .ok (.ior, 1) := by decide +kernel
theorem dX11_worth_150 : decode cX11_worth 150 = .ok (.istore 6, 2) := by decide +kernel
theorem dX11_worth_152 : decode cX11_worth 152 = .ok (.iload 5, 2) := by decide +kernel
theorem dX11_worth_154 : decode cX11_worth 154 = .ok (.aload_n 0, 1) := by decide +kernel
theorem dX11_worth_155 : decode cX11_worth 155 = .ok (.getfield 49, 3) := by decide +kernel
theorem dX11_worth_158 : decode cX11_worth 158 = .ok (.sipush 4096, 3) := by decide +kernel
theorem dX11_worth_161 : decode cX11_worth 161 = .ok (.iload_n 2, 1) := by decide +kernel
theorem dX11_worth_162 : decode cX11_worth 162 = .ok (.iconst 1, 1) := by decide +kernel
theorem dX11_worth_163 : decode cX11_worth 163 = .ok (.iadd, 1) := by decide +kernel
theorem dX11_worth_164 : decode cX11_worth 164 = .ok (.imul, 1) := by decide +kernel
theorem dX11_worth_165 : decode cX11_worth 165 = .ok (.iload 6, 2) := by decide +kernel
theorem dX11_worth_167 : decode cX11_worth 167 = .ok (.iadd, 1) := by decide +kernel
theorem dX11_worth_168 : decode cX11_worth 168 = .ok (.iaload, 1) := by decide +kernel
theorem dX11_worth_169 : decode cX11_worth 169 = .ok (.iadd, 1) := by decide +kernel
theorem dX11_worth_170 : decode cX11_worth 170 = .ok (.ireturn, 1) := by decide +kernel
theorem dX11_choice_0 : decode cX11_choice 0 = .ok (.aload_n 0, 1) := by decide +kernel
theorem dX11_choice_1 : decode cX11_choice 1 = .ok (.iload_n 1, 1) := by decide +kernel
theorem dX11_choice_2 : decode cX11_choice 2 = .ok (.iload_n 2, 1) := by decide +kernel
theorem dX11_choice_3 : decode cX11_choice 3 = .ok (.iconst (-1), 1) := by decide +kernel
theorem dX11_choice_4 : decode cX11_choice 4 = .ok (.invokevirtual 300, 3) := by decide +kernel
theorem dX11_choice_7 : decode cX11_choice 7 = .ok (.istore_n 3, 1) := by decide +kernel
theorem dX11_choice_8 : decode cX11_choice 8 = .ok (.iconst (-1), 1) := by decide +kernel
theorem dX11_choice_9 : decode cX11_choice 9 = .ok (.istore 4, 2) := by decide +kernel
theorem dX11_choice_11 : decode cX11_choice 11 = .ok (.iconst 0, 1) := by decide +kernel
theorem dX11_choice_12 : decode cX11_choice 12 = .ok (.istore 5, 2) := by decide +kernel
theorem dX11_choice_14 : decode cX11_choice 14 = .ok (.iload 5, 2) := by decide +kernel
theorem dX11_choice_16 : decode cX11_choice 16 = .ok (.bipush 48, 2) := by decide +kernel
theorem dX11_choice_18 : decode cX11_choice 18 = .ok (.if_icmp .ge 45, 3) := by decide +kernel
theorem dX11_choice_21 : decode cX11_choice 21 = .ok (.aload_n 0, 1) := by decide +kernel
theorem dX11_choice_22 : decode cX11_choice 22 = .ok (.iload_n 1, 1) := by decide +kernel
theorem dX11_choice_23 : decode cX11_choice 23 = .ok (.iload_n 2, 1) := by decide +kernel
theorem dX11_choice_24 : decode cX11_choice 24 = .ok (.iload 5, 2) := by decide +kernel
theorem dX11_choice_26 : decode cX11_choice 26 = .ok (.invokevirtual 303, 3) := by decide +kernel
theorem dX11_choice_29 : decode cX11_choice 29 = .ok (.ifCond .eq 28, 3) := by decide +kernel
theorem dX11_choice_32 : decode cX11_choice 32 = .ok (.aload_n 0, 1) := by decide +kernel
theorem dX11_choice_33 : decode cX11_choice 33 = .ok (.iload_n 1, 1) := by decide +kernel
theorem dX11_choice_34 : decode cX11_choice 34 = .ok (.iload_n 2, 1) := by decide +kernel
theorem dX11_choice_35 : decode cX11_choice 35 = .ok (.iload 5, 2) := by decide +kernel
theorem dX11_choice_37 : decode cX11_choice 37 = .ok (.invokevirtual 300, 3) := by decide +kernel
theorem dX11_choice_40 : decode cX11_choice 40 = .ok (.iload_n 3, 1) := by decide +kernel
theorem dX11_choice_41 : decode cX11_choice 41 = .ok (.if_icmp .le 16, 3) := by decide +kernel
theorem dX11_choice_44 : decode cX11_choice 44 = .ok (.aload_n 0, 1) := by decide +kernel
theorem dX11_choice_45 : decode cX11_choice 45 = .ok (.iload_n 1, 1) := by decide +kernel
theorem dX11_choice_46 : decode cX11_choice 46 = .ok (.iload_n 2, 1) := by decide +kernel
theorem dX11_choice_47 : decode cX11_choice 47 = .ok (.iload 5, 2) := by decide +kernel
theorem dX11_choice_49 : decode cX11_choice 49 = .ok (.invokevirtual 300, 3) := by decide +kernel
theorem dX11_choice_52 : decode cX11_choice 52 = .ok (.istore_n 3, 1) := by decide +kernel
theorem dX11_choice_53 : decode cX11_choice 53 = .ok (.iload 5, 2) := by decide +kernel
theorem dX11_choice_55 : decode cX11_choice 55 = .ok (.istore 4, 2) := by decide +kernel
theorem dX11_choice_57 : decode cX11_choice 57 = .ok (.iinc 5 1, 3) := by decide +kernel
theorem dX11_choice_60 : decode cX11_choice 60 = .ok (.goto (-46), 3) := by decide +kernel
theorem dX11_choice_63 : decode cX11_choice 63 = .ok (.aload_n 0, 1) := by decide +kernel
theorem dX11_choice_64 : decode cX11_choice 64 = .ok (.getfield 49, 3) := by decide +kernel
theorem dX11_choice_67 : decode cX11_choice 67 = .ok (.sipush 4096, 3) := by decide +kernel
theorem dX11_choice_70 : decode cX11_choice 70 = .ok (.iload_n 2, 1) := by decide +kernel
theorem dX11_choice_71 : decode cX11_choice 71 = .ok (.imul, 1) := by decide +kernel
theorem dX11_choice_72 : decode cX11_choice 72 = .ok (.iload_n 1, 1) := by decide +kernel
theorem dX11_choice_73 : decode cX11_choice 73 = .ok (.iadd, 1) := by decide +kernel
theorem dX11_choice_74 : decode cX11_choice 74 = .ok (.iload_n 3, 1) := by decide +kernel
theorem dX11_choice_75 : decode cX11_choice 75 = .ok (.iastore, 1) := by decide +kernel
theorem dX11_choice_76 : decode cX11_choice 76 = .ok (.iload 4, 2) := by decide +kernel
theorem dX11_choice_78 : decode cX11_choice 78 = .ok (.ireturn, 1) := by decide +kernel
theorem dX11_plan_0 : decode cX11_plan 0 = .ok (.iload_n 1, 1) := by decide +kernel
theorem dX11_plan_1 : decode cX11_plan 1 = .ok (.i2l, 1) := by decide +kernel
theorem dX11_plan_2 : decode cX11_plan 2 = .ok (.lconst 1, 1) := by decide +kernel
theorem dX11_plan_3 : decode cX11_plan 3 = .ok (.ldc2_w 306, 3) := by decide +kernel
theorem dX11_plan_6 : decode cX11_plan 6 = .ok (.invokestatic 53, 3) := by decide +kernel
theorem dX11_plan_9 : decode cX11_plan 9 = .ok (.ifCond .eq 18, 3) := by decide +kernel
theorem dX11_plan_12 : decode cX11_plan 12 = .ok (.iload_n 2, 1) := by decide +kernel
theorem dX11_plan_13 : decode cX11_plan 13 = .ok (.i2l, 1) := by decide +kernel
theorem dX11_plan_14 : decode cX11_plan 14 = .ok (.ldc2_w 65, 3) := by decide +kernel
theorem dX11_plan_17 : decode cX11_plan 17 = .ok (.iload_n 1, 1) := by decide +kernel
theorem dX11_plan_18 : decode cX11_plan 18 = .ok (.iconst 1, 1) := by decide +kernel
theorem dX11_plan_19 : decode cX11_plan 19 = .ok (.isub, 1) := by decide +kernel
theorem dX11_plan_20 : decode cX11_plan 20 = .ok (.i2l, 1) := by decide +kernel
theorem dX11_plan_21 : decode cX11_plan 21 = .ok (.invokestatic 53, 3) := by decide +kernel
theorem dX11_plan_24 : decode cX11_plan 24 = .ok (.ifCond .ne 6, 3) := by decide +kernel
theorem dX11_plan_27 : decode cX11_plan 27 = .ok (.bipush (-10), 2) := by decide +kernel
