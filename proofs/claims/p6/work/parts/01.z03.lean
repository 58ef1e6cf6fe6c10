theorem dX7_chooseSizes_34 : decode cX7_chooseSizes 34 = .ok (.iload_n 1, 1) := by decide +kernel
theorem dX7_chooseSizes_35 : decode cX7_chooseSizes 35 = .ok (.aload_n 0, 1) := by decide +kernel
theorem dX7_chooseSizes_36 : decode cX7_chooseSizes 36 = .ok (.getfield 19, 3) := by decide +kernel
theorem dX7_chooseSizes_39 : decode cX7_chooseSizes 39 = .ok (.iload_n 3, 1) := by decide +kernel
theorem dX7_chooseSizes_40 : decode cX7_chooseSizes 40 = .ok (.iaload, 1) := by decide +kernel
theorem dX7_chooseSizes_41 : decode cX7_chooseSizes 41 = .ok (.invokestatic 72, 3) := by decide +kernel
theorem dX7_chooseSizes_44 : decode cX7_chooseSizes 44 = .ok (.istore_n 1, 1) := by decide +kernel
theorem dX7_chooseSizes_45 : decode cX7_chooseSizes 45 = .ok (.iload_n 2, 1) := by decide +kernel
theorem dX7_chooseSizes_46 : decode cX7_chooseSizes 46 = .ok (.aload_n 0, 1) := by decide +kernel
theorem dX7_chooseSizes_47 : decode cX7_chooseSizes 47 = .ok (.getfield 23, 3) := by decide +kernel
theorem dX7_chooseSizes_50 : decode cX7_chooseSizes 50 = .ok (.iload_n 3, 1) := by decide +kernel
theorem dX7_chooseSizes_51 : decode cX7_chooseSizes 51 = .ok (.iaload, 1) := by decide +kernel
theorem dX7_chooseSizes_52 : decode cX7_chooseSizes 52 = .ok (.invokestatic 91, 3) := by decide +kernel
theorem dX7_chooseSizes_55 : decode cX7_chooseSizes 55 = .ok (.istore_n 2, 1) := by decide +kernel
theorem dX7_chooseSizes_56 : decode cX7_chooseSizes 56 = .ok (.iinc 3 1, 3) := by decide +kernel
theorem dX7_chooseSizes_59 : decode cX7_chooseSizes 59 = .ok (.goto (-51), 3) := by decide +kernel
theorem dX7_chooseSizes_62 : decode cX7_chooseSizes 62 = .ok (.aload_n 0, 1) := by decide +kernel
theorem dX7_chooseSizes_63 : decode cX7_chooseSizes 63 = .ok (.iload_n 1, 1) := by decide +kernel
theorem dX7_chooseSizes_64 : decode cX7_chooseSizes 64 = .ok (.invokevirtual 94, 3) := by decide +kernel
theorem dX7_chooseSizes_67 : decode cX7_chooseSizes 67 = .ok (.istore_n 3, 1) := by decide +kernel
theorem dX7_chooseSizes_68 : decode cX7_chooseSizes 68 = .ok (.iload_n 2, 1) := by decide +kernel
theorem dX7_chooseSizes_69 : decode cX7_chooseSizes 69 = .ok (.aload_n 0, 1) := by decide +kernel
theorem dX7_chooseSizes_70 : decode cX7_chooseSizes 70 = .ok (.getfield 69, 3) := by decide +kernel
theorem dX7_chooseSizes_73 : decode cX7_chooseSizes 73 = .ok (.if_icmp .lt 11, 3) := by decide +kernel
theorem dX7_chooseSizes_76 : decode cX7_chooseSizes 76 = .ok (.aload_n 0, 1) := by decide +kernel
theorem dX7_chooseSizes_77 : decode cX7_chooseSizes 77 = .ok (.getfield 77, 3) := by decide +kernel
theorem dX7_chooseSizes_80 : decode cX7_chooseSizes 80 = .ok (.iconst 1, 1) := by decide +kernel
theorem dX7_chooseSizes_81 : decode cX7_chooseSizes 81 = .ok (.if_icmp .ge 7, 3) := by decide +kernel
theorem dX7_chooseSizes_84 : decode cX7_chooseSizes 84 = .ok (.iconst (-1), 1) := by decide +kernel
theorem dX7_chooseSizes_85 : decode cX7_chooseSizes 85 = .ok (.goto 21, 3) := by decide +kernel
theorem dX7_chooseSizes_88 : decode cX7_chooseSizes 88 = .ok (.aload_n 0, 1) := by decide +kernel
theorem dX7_chooseSizes_89 : decode cX7_chooseSizes 89 = .ok (.getfield 81, 3) := by decide +kernel
theorem dX7_chooseSizes_92 : decode cX7_chooseSizes 92 = .ok (.iload_n 2, 1) := by decide +kernel
theorem dX7_chooseSizes_93 : decode cX7_chooseSizes 93 = .ok (.aload_n 0, 1) := by decide +kernel
theorem dX7_chooseSizes_94 : decode cX7_chooseSizes 94 = .ok (.getfield 69, 3) := by decide +kernel
theorem dX7_chooseSizes_97 : decode cX7_chooseSizes 97 = .ok (.isub, 1) := by decide +kernel
theorem dX7_chooseSizes_98 : decode cX7_chooseSizes 98 = .ok (.aload_n 0, 1) := by decide +kernel
theorem dX7_chooseSizes_99 : decode cX7_chooseSizes 99 = .ok (.getfield 77, 3) := by decide +kernel
theorem dX7_chooseSizes_102 : decode cX7_chooseSizes 102 = .ok (.idiv, 1) := by decide +kernel
theorem dX7_chooseSizes_103 : decode cX7_chooseSizes 103 = .ok (.invokestatic 91, 3) := by decide +kernel
theorem dX7_chooseSizes_106 : decode cX7_chooseSizes 106 = .ok (.istore 4, 2) := by decide +kernel
theorem dX7_chooseSizes_108 : decode cX7_chooseSizes 108 = .ok (.aload_n 0, 1) := by decide +kernel
theorem dX7_chooseSizes_109 : decode cX7_chooseSizes 109 = .ok (.iconst 0, 1) := by decide +kernel
theorem dX7_chooseSizes_110 : decode cX7_chooseSizes 110 = .ok (.iload 4, 2) := by decide +kernel
theorem dX7_chooseSizes_112 : decode cX7_chooseSizes 112 = .ok (.iload_n 3, 1) := by decide +kernel
theorem dX7_chooseSizes_113 : decode cX7_chooseSizes 113 = .ok (.isub, 1) := by decide +kernel
theorem dX7_chooseSizes_114 : decode cX7_chooseSizes 114 = .ok (.iconst 1, 1) := by decide +kernel
theorem dX7_chooseSizes_115 : decode cX7_chooseSizes 115 = .ok (.iadd, 1) := by decide +kernel
theorem dX7_chooseSizes_116 : decode cX7_chooseSizes 116 = .ok (.invokestatic 72, 3) := by decide +kernel
theorem dX7_chooseSizes_119 : decode cX7_chooseSizes 119 = .ok (.putfield 98, 3) := by decide +kernel
theorem dX7_chooseSizes_122 : decode cX7_chooseSizes 122 = .ok (.aload_n 0, 1) := by decide +kernel
theorem dX7_chooseSizes_123 : decode cX7_chooseSizes 123 = .ok (.aload_n 0, 1) := by decide +kernel
theorem dX7_chooseSizes_124 : decode cX7_chooseSizes 124 = .ok (.getfield 98, 3) := by decide +kernel
theorem dX7_chooseSizes_127 : decode cX7_chooseSizes 127 = .ok (.ifCond .le 17, 3) := by decide +kernel
theorem dX7_chooseSizes_130 : decode cX7_chooseSizes 130 = .ok (.aload_n 0, 1) := by decide +kernel
theorem dX7_chooseSizes_131 : decode cX7_chooseSizes 131 = .ok (.getfield 69, 3) := by decide +kernel
theorem dX7_chooseSizes_134 : decode cX7_chooseSizes 134 = .ok (.iload_n 3, 1) := by decide +kernel
theorem dX7_chooseSizes_135 : decode cX7_chooseSizes 135 = .ok (.aload_n 0, 1) := by decide +kernel
theorem dX7_chooseSizes_136 : decode cX7_chooseSizes 136 = .ok (.getfield 77, 3) := by decide +kernel
theorem dX7_chooseSizes_139 : decode cX7_chooseSizes 139 = .ok (.imul, 1) := by decide +kernel
theorem dX7_chooseSizes_140 : decode cX7_chooseSizes 140 = .ok (.iadd, 1) := by decide +kernel
theorem dX7_chooseSizes_141 : decode cX7_chooseSizes 141 = .ok (.goto 4, 3) := by decide +kernel
theorem dX7_chooseSizes_144 : decode cX7_chooseSizes 144 = .ok (.iconst (-1), 1) := by decide +kernel
theorem dX7_chooseSizes_145 : decode cX7_chooseSizes 145 = .ok (.putfield 101, 3) := by decide +kernel
theorem dX7_chooseSizes_148 : decode cX7_chooseSizes 148 = .ok (.aload_n 0, 1) := by decide +kernel
theorem dX7_chooseSizes_149 : decode cX7_chooseSizes 149 = .ok (.aload_n 0, 1) := by decide +kernel
theorem dX7_chooseSizes_150 : decode cX7_chooseSizes 150 = .ok (.getfield 98, 3) := by decide +kernel
theorem dX7_chooseSizes_153 : decode cX7_chooseSizes 153 = .ok (.ifCond .le 18, 3) := by decide +kernel
theorem dX7_chooseSizes_156 : decode cX7_chooseSizes 156 = .ok (.aload_n 0, 1) := by decide +kernel
theorem dX7_chooseSizes_157 : decode cX7_chooseSizes 157 = .ok (.getfield 69, 3) := by decide +kernel
theorem dX7_chooseSizes_160 : decode cX7_chooseSizes 160 = .ok (.iload 4, 2) := by decide +kernel
theorem dX7_chooseSizes_162 : decode cX7_chooseSizes 162 = .ok (.aload_n 0, 1) := by decide +kernel
theorem dX7_chooseSizes_163 : decode cX7_chooseSizes 163 = .ok (.getfield 77, 3) := by decide +kernel
theorem dX7_chooseSizes_166 : decode cX7_chooseSizes 166 = .ok (.imul, 1) := by decide +kernel
theorem dX7_chooseSizes_167 : decode cX7_chooseSizes 167 = .ok (.iadd, 1) := by decide +kernel
theorem dX7_chooseSizes_168 : decode cX7_chooseSizes 168 = .ok (.goto 4, 3) := by decide +kernel
theorem dX7_chooseSizes_171 : decode cX7_chooseSizes 171 = .ok (.iconst (-1), 1) := by decide +kernel
theorem dX7_chooseSizes_172 : decode cX7_chooseSizes 172 = .ok (.putfield 104, 3) := by decide +kernel
theorem dX7_chooseSizes_175 : decode cX7_chooseSizes 175 = .ok (.return_, 1) := by decide +kernel
theorem dX7_placeFrom_0 : decode cX7_placeFrom 0 = .ok (.iload_n 1, 1) := by decide +kernel
theorem dX7_placeFrom_1 : decode cX7_placeFrom 1 = .ok (.aload_n 0, 1) := by decide +kernel
theorem dX7_placeFrom_2 : decode cX7_placeFrom 2 = .ok (.getfield 69, 3) := by decide +kernel
theorem dX7_placeFrom_5 : decode cX7_placeFrom 5 = .ok (.if_icmp .le 11, 3) := by decide +kernel
theorem dX7_placeFrom_8 : decode cX7_placeFrom 8 = .ok (.aload_n 0, 1) := by decide +kernel
theorem dX7_placeFrom_9 : decode cX7_placeFrom 9 = .ok (.getfield 77, 3) := by decide +kernel
theorem dX7_placeFrom_12 : decode cX7_placeFrom 12 = .ok (.iconst 1, 1) := by decide +kernel
theorem dX7_placeFrom_13 : decode cX7_placeFrom 13 = .ok (.if_icmp .ge 7, 3) := by decide +kernel
theorem dX7_placeFrom_16 : decode cX7_placeFrom 16 = .ok (.iconst 0, 1) := by decide +kernel
theorem dX7_placeFrom_17 : decode cX7_placeFrom 17 = .ok (.goto 21, 3) := by decide +kernel
theorem dX7_placeFrom_20 : decode cX7_placeFrom 20 = .ok (.iload_n 1, 1) := by decide +kernel
theorem dX7_placeFrom_21 : decode cX7_placeFrom 21 = .ok (.aload_n 0, 1) := by decide +kernel
theorem dX7_placeFrom_22 : decode cX7_placeFrom 22 = .ok (.getfield 69, 3) := by decide +kernel
theorem dX7_placeFrom_25 : decode cX7_placeFrom 25 = .ok (.isub, 1) := by decide +kernel
theorem dX7_placeFrom_26 : decode cX7_placeFrom 26 = .ok (.aload_n 0, 1) := by decide +kernel
theorem dX7_placeFrom_27 : decode cX7_placeFrom 27 = .ok (.getfield 77, 3) := by decide +kernel
theorem dX7_placeFrom_30 : decode cX7_placeFrom 30 = .ok (.iadd, 1) := by decide +kernel
theorem dX7_placeFrom_31 : decode cX7_placeFrom 31 = .ok (.iconst 1, 1) := by decide +kernel
theorem dX7_placeFrom_32 : decode cX7_placeFrom 32 = .ok (.isub, 1) := by decide +kernel
theorem dX7_placeFrom_33 : decode cX7_placeFrom 33 = .ok (.aload_n 0, 1) := by decide +kernel
theorem dX7_placeFrom_34 : decode cX7_placeFrom 34 = .ok (.getfield 77, 3) := by decide +kernel
theorem dX7_placeFrom_37 : decode cX7_placeFrom 37 = .ok (.idiv, 1) := by decide +kernel
theorem dX7_placeFrom_38 : decode cX7_placeFrom 38 = .ok (.ireturn, 1) := by decide +kernel
theorem dX7_answer_0 : decode cX7_answer 0 = .ok (.iload_n 1, 1) := by decide +kernel
theorem dX7_answer_1 : decode cX7_answer 1 = .ok (.ifCond .ne 10, 3) := by decide +kernel
theorem dX7_answer_4 : decode cX7_answer 4 = .ok (.aload_n 0, 1) := by decide +kernel
theorem dX7_answer_5 : decode cX7_answer 5 = .ok (.getfield 101, 3) := by decide +kernel
theorem dX7_answer_8 : decode cX7_answer 8 = .ok (.goto 19, 3) := by decide +kernel
theorem dX7_answer_11 : decode cX7_answer 11 = .ok (.iload_n 1, 1) := by decide +kernel
theorem dX7_answer_12 : decode cX7_answer 12 = .ok (.iconst 1, 1) := by decide +kernel
theorem dX7_answer_13 : decode cX7_answer 13 = .ok (.if_icmp .ne 10, 3) := by decide +kernel
theorem dX7_answer_16 : decode cX7_answer 16 = .ok (.aload_n 0, 1) := by decide +kernel
theorem dX7_answer_17 : decode cX7_answer 17 = .ok (.getfield 104, 3) := by decide +kernel
theorem dX7_answer_20 : decode cX7_answer 20 = .ok (.goto 7, 3) := by decide +kernel
theorem dX7_answer_23 : decode cX7_answer 23 = .ok (.aload_n 0, 1) := by decide +kernel
theorem dX7_answer_24 : decode cX7_answer 24 = .ok (.getfield 98, 3) := by decide +kernel
theorem dX7_answer_27 : decode cX7_answer 27 = .ok (.ireturn, 1) := by decide +kernel
theorem dX7_leastDisputed_0 : decode cX7_leastDisputed 0 = .ok (.aload_n 0, 1) := by decide +kernel
theorem dX7_leastDisputed_1 : decode cX7_leastDisputed 1 = .ok (.getfield 69, 3) := by decide +kernel
theorem dX7_leastDisputed_4 : decode cX7_leastDisputed 4 = .ok (.istore_n 1, 1) := by decide +kernel
theorem dX7_leastDisputed_5 : decode cX7_leastDisputed 5 = .ok (.aload_n 0, 1) := by decide +kernel
theorem dX7_leastDisputed_6 : decode cX7_leastDisputed 6 = .ok (.aload_n 0, 1) := by decide +kernel
theorem dX7_leastDisputed_7 : decode cX7_leastDisputed 7 = .ok (.getfield 69, 3) := by decide +kernel
theorem dX7_leastDisputed_10 : decode cX7_leastDisputed 10 = .ok (.invokevirtual 107, 3) := by decide +kernel
theorem dX7_leastDisputed_13 : decode cX7_leastDisputed 13 = .ok (.istore_n 2, 1) := by decide +kernel
theorem dX7_leastDisputed_14 : decode cX7_leastDisputed 14 = .ok (.iconst 0, 1) := by decide +kernel
theorem dX7_leastDisputed_15 : decode cX7_leastDisputed 15 = .ok (.istore_n 3, 1) := by decide +kernel
theorem dX7_leastDisputed_16 : decode cX7_leastDisputed 16 = .ok (.iload_n 3, 1) := by decide +kernel
theorem dX7_leastDisputed_17 : decode cX7_leastDisputed 17 = .ok (.aload_n 0, 1) := by decide +kernel
theorem dX7_leastDisputed_18 : decode cX7_leastDisputed 18 = .ok (.getfield 45, 3) := by decide +kernel
theorem dX7_leastDisputed_21 : decode cX7_leastDisputed 21 = .ok (.if_icmp .ge 88, 3) := by decide +kernel
theorem dX7_leastDisputed_24 : decode cX7_leastDisputed 24 = .ok (.iload_n 3, 1) := by decide +kernel
theorem dX7_leastDisputed_25 : decode cX7_leastDisputed 25 = .ok (.aload_n 0, 1) := by decide +kernel
theorem dX7_leastDisputed_26 : decode cX7_leastDisputed 26 = .ok (.getfield 19, 3) := by decide +kernel
theorem dX7_leastDisputed_29 : decode cX7_leastDisputed 29 = .ok (.arraylength, 1) := by decide +kernel
theorem dX7_leastDisputed_30 : decode cX7_leastDisputed 30 = .ok (.if_icmp .ge 79, 3) := by decide +kernel
theorem dX7_leastDisputed_33 : decode cX7_leastDisputed 33 = .ok (.aload_n 0, 1) := by decide +kernel
theorem dX7_leastDisputed_34 : decode cX7_leastDisputed 34 = .ok (.aload_n 0, 1) := by decide +kernel
theorem dX7_leastDisputed_35 : decode cX7_leastDisputed 35 = .ok (.getfield 19, 3) := by decide +kernel
theorem dX7_leastDisputed_38 : decode cX7_leastDisputed 38 = .ok (.iload_n 3, 1) := by decide +kernel
theorem dX7_leastDisputed_39 : decode cX7_leastDisputed 39 = .ok (.iaload, 1) := by decide +kernel
theorem dX7_leastDisputed_40 : decode cX7_leastDisputed 40 = .ok (.invokevirtual 94, 3) := by decide +kernel
theorem dX7_leastDisputed_43 : decode cX7_leastDisputed 43 = .ok (.istore 4, 2) := by decide +kernel
theorem dX7_leastDisputed_45 : decode cX7_leastDisputed 45 = .ok (.iload 4, 2) := by decide +kernel
theorem dX7_leastDisputed_47 : decode cX7_leastDisputed 47 = .ok (.aload_n 0, 1) := by decide +kernel
theorem dX7_leastDisputed_48 : decode cX7_leastDisputed 48 = .ok (.getfield 81, 3) := by decide +kernel
theorem dX7_leastDisputed_51 : decode cX7_leastDisputed 51 = .ok (.if_icmp .le 6, 3) := by decide +kernel
theorem dX7_leastDisputed_54 : decode cX7_leastDisputed 54 = .ok (.goto 49, 3) := by decide +kernel
theorem dX7_leastDisputed_57 : decode cX7_leastDisputed 57 = .ok (.aload_n 0, 1) := by decide +kernel
theorem dX7_leastDisputed_58 : decode cX7_leastDisputed 58 = .ok (.getfield 69, 3) := by decide +kernel
theorem dX7_leastDisputed_61 : decode cX7_leastDisputed 61 = .ok (.iload 4, 2) := by decide +kernel
theorem dX7_leastDisputed_63 : decode cX7_leastDisputed 63 = .ok (.aload_n 0, 1) := by decide +kernel
theorem dX7_leastDisputed_64 : decode cX7_leastDisputed 64 = .ok (.getfield 77, 3) := by decide +kernel
theorem dX7_leastDisputed_67 : decode cX7_leastDisputed 67 = .ok (.imul, 1) := by decide +kernel
theorem dX7_leastDisputed_68 : decode cX7_leastDisputed 68 = .ok (.iadd, 1) := by decide +kernel
theorem dX7_leastDisputed_69 : decode cX7_leastDisputed 69 = .ok (.istore 5, 2) := by decide +kernel
theorem dX7_leastDisputed_71 : decode cX7_leastDisputed 71 = .ok (.aload_n 0, 1) := by decide +kernel
theorem dX7_leastDisputed_72 : decode cX7_leastDisputed 72 = .ok (.iload 5, 2) := by decide +kernel
theorem dX7_leastDisputed_74 : decode cX7_leastDisputed 74 = .ok (.invokevirtual 107, 3) := by decide +kernel
theorem dX7_leastDisputed_77 : decode cX7_leastDisputed 77 = .ok (.istore 6, 2) := by decide +kernel
theorem dX7_leastDisputed_79 : decode cX7_leastDisputed 79 = .ok (.iload 6, 2) := by decide +kernel
theorem dX7_leastDisputed_81 : decode cX7_leastDisputed 81 = .ok (.iload_n 2, 1) := by decide +kernel
theorem dX7_leastDisputed_82 : decode cX7_leastDisputed 82 = .ok (.if_icmp .lt 15, 3) := by decide +kernel
theorem dX7_leastDisputed_85 : decode cX7_leastDisputed 85 = .ok (.iload 6, 2) := by decide +kernel
theorem dX7_leastDisputed_87 : decode cX7_leastDisputed 87 = .ok (.iload_n 2, 1) := by decide +kernel
theorem dX7_leastDisputed_88 : decode cX7_leastDisputed 88 = .ok (.if_icmp .ne 15, 3) := by decide +kernel
theorem dX7_leastDisputed_91 : decode cX7_leastDisputed 91 = .ok (.iload 5, 2) := by decide +kernel
theorem dX7_leastDisputed_93 : decode cX7_leastDisputed 93 = .ok (.iload_n 1, 1) := by decide +kernel
theorem dX7_leastDisputed_94 : decode cX7_leastDisputed 94 = .ok (.if_icmp .ge 9, 3) := by decide +kernel
theorem dX7_leastDisputed_97 : decode cX7_leastDisputed 97 = .ok (.iload 5, 2) := by decide +kernel
theorem dX7_leastDisputed_99 : decode cX7_leastDisputed 99 = .ok (.istore_n 1, 1) := by decide +kernel
theorem dX7_leastDisputed_100 : decode cX7_leastDisputed 100 = .ok (.iload 6, 2) := by decide +kernel
theorem dX7_leastDisputed_102 : decode cX7_leastDisputed 102 = .ok (.istore_n 2, 1) := by decide +kernel
theorem dX7_leastDisputed_103 : decode cX7_leastDisputed 103 = .ok (.iinc 3 1, 3) := by decide +kernel
theorem dX7_leastDisputed_106 : decode cX7_leastDisputed 106 = .ok (.goto (-90), 3) := by decide +kernel
theorem dX7_leastDisputed_109 : decode cX7_leastDisputed 109 = .ok (.iload_n 1, 1) := by decide +kernel
theorem dX7_leastDisputed_110 : decode cX7_leastDisputed 110 = .ok (.ireturn, 1) := by decide +kernel
theorem dX7_against_0 : decode cX7_against 0 = .ok (.iconst 0, 1) := by decide +kernel
theorem dX7_against_1 : decode cX7_against 1 = .ok (.istore_n 2, 1) := by decide +kernel
theorem dX7_against_2 : decode cX7_against 2 = .ok (.iconst 0, 1) := by decide +kernel
theorem dX7_against_3 : decode cX7_against 3 = .ok (.istore_n 3, 1) := by decide +kernel
theorem dX7_against_4 : decode cX7_against 4 = .ok (.iload_n 3, 1) := by decide +kernel
theorem dX7_against_5 : decode cX7_against 5 = .ok (.aload_n 0, 1) := by decide +kernel
theorem dX7_against_6 : decode cX7_against 6 = .ok (.getfield 45, 3) := by decide +kernel
theorem dX7_against_9 : decode cX7_against 9 = .ok (.if_icmp .ge 21, 3) := by decide +kernel
theorem dX7_against_12 : decode cX7_against 12 = .ok (.aload_n 0, 1) := by decide +kernel
theorem dX7_against_13 : decode cX7_against 13 = .ok (.iload_n 3, 1) := by decide +kernel
theorem dX7_against_14 : decode cX7_against 14 = .ok (.iload_n 1, 1) := by decide +kernel
theorem dX7_against_15 : decode cX7_against 15 = .ok (.invokevirtual 110, 3) := by decide +kernel
theorem dX7_against_18 : decode cX7_against 18 = .ok (.ifCond .eq 6, 3) := by decide +kernel
theorem dX7_against_21 : decode cX7_against 21 = .ok (.iinc 2 1, 3) := by decide +kernel
theorem dX7_against_24 : decode cX7_against 24 = .ok (.iinc 3 1, 3) := by decide +kernel
theorem dX7_against_27 : decode cX7_against 27 = .ok (.goto (-23), 3) := by decide +kernel
theorem dX7_against_30 : decode cX7_against 30 = .ok (.iload_n 2, 1) := by decide +kernel
theorem dX7_against_31 : decode cX7_against 31 = .ok (.ireturn, 1) := by decide +kernel
theorem dX7_objector_0 : decode cX7_objector 0 = .ok (.iconst 0, 1) := by decide +kernel
theorem dX7_objector_1 : decode cX7_objector 1 = .ok (.istore_n 3, 1) := by decide +kernel
theorem dX7_objector_2 : decode cX7_objector 2 = .ok (.iconst 0, 1) := by decide +kernel
theorem dX7_objector_3 : decode cX7_objector 3 = .ok (.istore 4, 2) := by decide +kernel
theorem dX7_objector_5 : decode cX7_objector 5 = .ok (.iload 4, 2) := by decide +kernel
theorem dX7_objector_7 : decode cX7_objector 7 = .ok (.aload_n 0, 1) := by decide +kernel
theorem dX7_objector_8 : decode cX7_objector 8 = .ok (.getfield 45, 3) := by decide +kernel
theorem dX7_objector_11 : decode cX7_objector 11 = .ok (.if_icmp .ge 48, 3) := by decide +kernel
theorem dX7_objector_14 : decode cX7_objector 14 = .ok (.iload 4, 2) := by decide +kernel
theorem dX7_objector_16 : decode cX7_objector 16 = .ok (.aload_n 0, 1) := by decide +kernel
theorem dX7_objector_17 : decode cX7_objector 17 = .ok (.getfield 26, 3) := by decide +kernel
theorem dX7_objector_20 : decode cX7_objector 20 = .ok (.arraylength, 1) := by decide +kernel
theorem dX7_objector_21 : decode cX7_objector 21 = .ok (.if_icmp .ge 38, 3) := by decide +kernel
theorem dX7_objector_24 : decode cX7_objector 24 = .ok (.aload_n 0, 1) := by decide +kernel
theorem dX7_objector_25 : decode cX7_objector 25 = .ok (.iload 4, 2) := by decide +kernel
theorem dX7_objector_27 : decode cX7_objector 27 = .ok (.iload_n 1, 1) := by decide +kernel
theorem dX7_objector_28 : decode cX7_objector 28 = .ok (.invokevirtual 110, 3) := by decide +kernel
theorem dX7_objector_31 : decode cX7_objector 31 = .ok (.ifCond .ne 6, 3) := by decide +kernel
theorem dX7_objector_34 : decode cX7_objector 34 = .ok (.goto 19, 3) := by decide +kernel
theorem dX7_objector_37 : decode cX7_objector 37 = .ok (.iload_n 3, 1) := by decide +kernel
theorem dX7_objector_38 : decode cX7_objector 38 = .ok (.iload_n 2, 1) := by decide +kernel
theorem dX7_objector_39 : decode cX7_objector 39 = .ok (.if_icmp .ne 11, 3) := by decide +kernel
theorem dX7_objector_42 : decode cX7_objector 42 = .ok (.aload_n 0, 1) := by decide +kernel
theorem dX7_objector_43 : decode cX7_objector 43 = .ok (.getfield 26, 3) := by decide +kernel
theorem dX7_objector_46 : decode cX7_objector 46 = .ok (.iload 4, 2) := by decide +kernel
theorem dX7_objector_48 : decode cX7_objector 48 = .ok (.iaload, 1) := by decide +kernel
theorem dX7_objector_49 : decode cX7_objector 49 = .ok (.ireturn, 1) := by decide +kernel
theorem dX7_objector_50 : decode cX7_objector 50 = .ok (.iinc 3 1, 3) := by decide +kernel
theorem dX7_objector_53 : decode cX7_objector 53 = .ok (.iinc 4 1, 3) := by decide +kernel
theorem dX7_objector_56 : decode cX7_objector 56 = .ok (.goto (-51), 3) := by decide +kernel
theorem dX7_objector_59 : decode cX7_objector 59 = .ok (.iconst (-1), 1) := by decide +kernel
theorem dX7_objector_60 : decode cX7_objector 60 = .ok (.ireturn, 1) := by decide +kernel
theorem dX7_denies_0 : decode cX7_denies 0 = .ok (.iload_n 1, 1) := by decide +kernel
theorem dX7_denies_1 : decode cX7_denies 1 = .ok (.ifCond .lt 45, 3) := by decide +kernel
theorem dX7_denies_4 : decode cX7_denies 4 = .ok (.iload_n 1, 1) := by decide +kernel
theorem dX7_denies_5 : decode cX7_denies 5 = .ok (.aload_n 0, 1) := by decide +kernel
theorem dX7_denies_6 : decode cX7_denies 6 = .ok (.getfield 19, 3) := by decide +kernel
theorem dX7_denies_9 : decode cX7_denies 9 = .ok (.arraylength, 1) := by decide +kernel
theorem dX7_denies_10 : decode cX7_denies 10 = .ok (.if_icmp .ge 36, 3) := by decide +kernel
theorem dX7_denies_13 : decode cX7_denies 13 = .ok (.iload_n 1, 1) := by decide +kernel
theorem dX7_denies_14 : decode cX7_denies 14 = .ok (.aload_n 0, 1) := by decide +kernel
theorem dX7_denies_15 : decode cX7_denies 15 = .ok (.getfield 23, 3) := by decide +kernel
theorem dX7_denies_18 : decode cX7_denies 18 = .ok (.arraylength, 1) := by decide +kernel
theorem dX7_denies_19 : decode cX7_denies 19 = .ok (.if_icmp .ge 27, 3) := by decide +kernel
theorem dX7_denies_22 : decode cX7_denies 22 = .ok (.iload_n 2, 1) := by decide +kernel
theorem dX7_denies_23 : decode cX7_denies 23 = .ok (.aload_n 0, 1) := by decide +kernel
theorem dX7_denies_24 : decode cX7_denies 24 = .ok (.getfield 19, 3) := by decide +kernel
theorem dX7_denies_27 : decode cX7_denies 27 = .ok (.iload_n 1, 1) := by decide +kernel
theorem dX7_denies_28 : decode cX7_denies 28 = .ok (.iaload, 1) := by decide +kernel
theorem dX7_denies_29 : decode cX7_denies 29 = .ok (.if_icmp .lt 13, 3) := by decide +kernel
theorem dX7_denies_32 : decode cX7_denies 32 = .ok (.iload_n 2, 1) := by decide +kernel
theorem dX7_denies_33 : decode cX7_denies 33 = .ok (.aload_n 0, 1) := by decide +kernel
theorem dX7_denies_34 : decode cX7_denies 34 = .ok (.getfield 23, 3) := by decide +kernel
theorem dX7_denies_37 : decode cX7_denies 37 = .ok (.iload_n 1, 1) := by decide +kernel
theorem dX7_denies_38 : decode cX7_denies 38 = .ok (.iaload, 1) := by decide +kernel
theorem dX7_denies_39 : decode cX7_denies 39 = .ok (.if_icmp .le 7, 3) := by decide +kernel
theorem dX7_denies_42 : decode cX7_denies 42 = .ok (.iconst 1, 1) := by decide +kernel
theorem dX7_denies_43 : decode cX7_denies 43 = .ok (.goto 4, 3) := by decide +kernel
theorem dX7_denies_46 : decode cX7_denies 46 = .ok (.iconst 0, 1) := by decide +kernel
theorem dX7_denies_47 : decode cX7_denies 47 = .ok (.ireturn, 1) := by decide +kernel
theorem dX8_init_0 : decode cX8_init 0 = .ok (.aload_n 0, 1) := by decide +kernel
theorem dX8_init_1 : decode cX8_init 1 = .ok (.invokespecial 3, 3) := by decide +kernel
theorem dX8_init_4 : decode cX8_init 4 = .ok (.iload_n 1, 1) := by decide +kernel
theorem dX8_init_5 : decode cX8_init 5 = .ok (.ifCond .le 23, 3) := by decide +kernel
theorem dX8_init_8 : decode cX8_init 8 = .ok (.iload_n 1, 1) := by decide +kernel
theorem dX8_init_9 : decode cX8_init 9 = .ok (.bipush 100, 2) := by decide +kernel
theorem dX8_init_11 : decode cX8_init 11 = .ok (.if_icmp .gt 17, 3) := by decide +kernel
theorem dX8_init_14 : decode cX8_init 14 = .ok (.iload_n 2, 1) := by decide +kernel
theorem dX8_init_15 : decode cX8_init 15 = .ok (.ifCond .le 13, 3) := by decide +kernel
theorem dX8_init_18 : decode cX8_init 18 = .ok (.iload_n 2, 1) := by decide +kernel
theorem dX8_init_19 : decode cX8_init 19 = .ok (.bipush 20, 2) := by decide +kernel
theorem dX8_init_21 : decode cX8_init 21 = .ok (.if_icmp .gt 7, 3) := by decide +kernel
theorem dX8_init_24 : decode cX8_init 24 = .ok (.iconst 1, 1) := by decide +kernel
theorem dX8_init_25 : decode cX8_init 25 = .ok (.goto 4, 3) := by decide +kernel
theorem dX8_init_28 : decode cX8_init 28 = .ok (.iconst 0, 1) := by decide +kernel
theorem dX8_init_29 : decode cX8_init 29 = .ok (.istore_n 3, 1) := by decide +kernel
theorem dX8_init_30 : decode cX8_init 30 = .ok (.aload_n 0, 1) := by decide +kernel
theorem dX8_init_31 : decode cX8_init 31 = .ok (.iload_n 3, 1) := by decide +kernel
theorem dX8_init_32 : decode cX8_init 32 = .ok (.ifCond .eq 7, 3) := by decide +kernel
theorem dX8_init_35 : decode cX8_init 35 = .ok (.iload_n 1, 1) := by decide +kernel
theorem dX8_init_36 : decode cX8_init 36 = .ok (.goto 4, 3) := by decide +kernel
theorem dX8_init_39 : decode cX8_init 39 = .ok (.iconst 0, 1) := by decide +kernel
theorem dX8_init_40 : decode cX8_init 40 = .ok (.putfield 9, 3) := by decide +kernel
theorem dX8_init_43 : decode cX8_init 43 = .ok (.aload_n 0, 1) := by decide +kernel
theorem dX8_init_44 : decode cX8_init 44 = .ok (.iload_n 3, 1) := by decide +kernel
theorem dX8_init_45 : decode cX8_init 45 = .ok (.ifCond .eq 7, 3) := by decide +kernel
theorem dX8_init_48 : decode cX8_init 48 = .ok (.iload_n 2, 1) := by decide +kernel
theorem dX8_init_49 : decode cX8_init 49 = .ok (.goto 4, 3) := by decide +kernel
theorem dX8_init_52 : decode cX8_init 52 = .ok (.iconst 0, 1) := by decide +kernel
theorem dX8_init_53 : decode cX8_init 53 = .ok (.putfield 15, 3) := by decide +kernel
theorem dX8_init_56 : decode cX8_init 56 = .ok (.aload_n 0, 1) := by decide +kernel
theorem dX8_init_57 : decode cX8_init 57 = .ok (.iload_n 3, 1) := by decide +kernel
theorem dX8_init_58 : decode cX8_init 58 = .ok (.ifCond .eq 9, 3) := by decide +kernel
theorem dX8_init_61 : decode cX8_init 61 = .ok (.iload_n 1, 1) := by decide +kernel
theorem dX8_init_62 : decode cX8_init 62 = .ok (.iload_n 2, 1) := by decide +kernel
theorem dX8_init_63 : decode cX8_init 63 = .ok (.imul, 1) := by decide +kernel
theorem dX8_init_64 : decode cX8_init 64 = .ok (.goto 4, 3) := by decide +kernel
theorem dX8_init_67 : decode cX8_init 67 = .ok (.iconst 0, 1) := by decide +kernel
theorem dX8_init_68 : decode cX8_init 68 = .ok (.newarray .int, 2) := by decide +kernel
theorem dX8_init_70 : decode cX8_init 70 = .ok (.putfield 18, 3) := by decide +kernel
theorem dX8_init_73 : decode cX8_init 73 = .ok (.return_, 1) := by decide +kernel
theorem dX8_rows_0 : decode cX8_rows 0 = .ok (.aload_n 0, 1) := by decide +kernel
theorem dX8_rows_1 : decode cX8_rows 1 = .ok (.getfield 22, 3) := by decide +kernel
theorem dX8_rows_4 : decode cX8_rows 4 = .ok (.ireturn, 1) := by decide +kernel
theorem dX8_has_0 : decode cX8_has 0 = .ok (.iconst 0, 1) := by decide +kernel
theorem dX8_has_1 : decode cX8_has 1 = .ok (.iload_n 1, 1) := by decide +kernel
theorem dX8_has_2 : decode cX8_has 2 = .ok (.if_icmp .gt 15, 3) := by decide +kernel
theorem dX8_has_5 : decode cX8_has 5 = .ok (.iload_n 1, 1) := by decide +kernel
theorem dX8_has_6 : decode cX8_has 6 = .ok (.aload_n 0, 1) := by decide +kernel
theorem dX8_has_7 : decode cX8_has 7 = .ok (.getfield 22, 3) := by decide +kernel
theorem dX8_has_10 : decode cX8_has 10 = .ok (.if_icmp .ge 7, 3) := by decide +kernel
theorem dX8_has_13 : decode cX8_has 13 = .ok (.iconst 1, 1) := by decide +kernel
theorem dX8_has_14 : decode cX8_has 14 = .ok (.goto 4, 3) := by decide +kernel
theorem dX8_has_17 : decode cX8_has 17 = .ok (.iconst 0, 1) := by decide +kernel
theorem dX8_has_18 : decode cX8_has 18 = .ok (.ireturn, 1) := by decide +kernel
theorem dX8_empty_0 : decode cX8_empty 0 = .ok (.aload_n 0, 1) := by decide +kernel
theorem dX8_empty_1 : decode cX8_empty 1 = .ok (.iconst 0, 1) := by decide +kernel
theorem dX8_empty_2 : decode cX8_empty 2 = .ok (.putfield 22, 3) := by decide +kernel
theorem dX8_empty_5 : decode cX8_empty 5 = .ok (.return_, 1) := by decide +kernel
theorem dX8_add_0 : decode cX8_add 0 = .ok (.aload_n 0, 1) := by decide +kernel
theorem dX8_add_1 : decode cX8_add 1 = .ok (.getfield 22, 3) := by decide +kernel
theorem dX8_add_4 : decode cX8_add 4 = .ok (.aload_n 0, 1) := by decide +kernel
theorem dX8_add_5 : decode cX8_add 5 = .ok (.getfield 9, 3) := by decide +kernel
theorem dX8_add_8 : decode cX8_add 8 = .ok (.if_icmp .lt 6, 3) := by decide +kernel
theorem dX8_add_11 : decode cX8_add 11 = .ok (.bipush (-4), 2) := by decide +kernel
theorem dX8_add_13 : decode cX8_add 13 = .ok (.ireturn, 1) := by decide +kernel
theorem dX8_add_14 : decode cX8_add 14 = .ok (.aload_n 0, 1) := by decide +kernel
theorem dX8_add_15 : decode cX8_add 15 = .ok (.getfield 22, 3) := by decide +kernel
theorem dX8_add_18 : decode cX8_add 18 = .ok (.istore 5, 2) := by decide +kernel
theorem dX8_add_20 : decode cX8_add 20 = .ok (.aload_n 0, 1) := by decide +kernel
theorem dX8_add_21 : decode cX8_add 21 = .ok (.dup, 1) := by decide +kernel
theorem dX8_add_22 : decode cX8_add 22 = .ok (.getfield 22, 3) := by decide +kernel
theorem dX8_add_25 : decode cX8_add 25 = .ok (.iconst 1, 1) := by decide +kernel
theorem dX8_add_26 : decode cX8_add 26 = .ok (.iadd, 1) := by decide +kernel
theorem dX8_add_27 : decode cX8_add 27 = .ok (.putfield 22, 3) := by decide +kernel
theorem dX8_add_30 : decode cX8_add 30 = .ok (.iconst 4, 1) := by decide +kernel
theorem dX8_add_31 : decode cX8_add 31 = .ok (.istore 6, 2) := by decide +kernel
theorem dX8_add_33 : decode cX8_add 33 = .ok (.iload 6, 2) := by decide +kernel
theorem dX8_add_35 : decode cX8_add 35 = .ok (.aload_n 0, 1) := by decide +kernel
theorem dX8_add_36 : decode cX8_add 36 = .ok (.getfield 15, 3) := by decide +kernel
theorem dX8_add_39 : decode cX8_add 39 = .ok (.if_icmp .ge 18, 3) := by decide +kernel
theorem dX8_add_42 : decode cX8_add 42 = .ok (.aload_n 0, 1) := by decide +kernel
theorem dX8_add_43 : decode cX8_add 43 = .ok (.iload 5, 2) := by decide +kernel
theorem dX8_add_45 : decode cX8_add 45 = .ok (.iload 6, 2) := by decide +kernel
theorem dX8_add_47 : decode cX8_add 47 = .ok (.iconst 0, 1) := by decide +kernel
theorem dX8_add_48 : decode cX8_add 48 = .ok (.invokevirtual 25, 3) := by decide +kernel
theorem dX8_add_51 : decode cX8_add 51 = .ok (.iinc 6 1, 3) := by decide +kernel
theorem dX8_add_54 : decode cX8_add 54 = .ok (.goto (-21), 3) := by decide +kernel
theorem dX8_add_57 : decode cX8_add 57 = .ok (.aload_n 0, 1) := by decide +kernel
theorem dX8_add_58 : decode cX8_add 58 = .ok (.iload 5, 2) := by decide +kernel
theorem dX8_add_60 : decode cX8_add 60 = .ok (.iconst 0, 1) := by decide +kernel
theorem dX8_add_61 : decode cX8_add 61 = .ok (.iload_n 1, 1) := by decide +kernel
theorem dX8_add_62 : decode cX8_add 62 = .ok (.invokevirtual 25, 3) := by decide +kernel
theorem dX8_add_65 : decode cX8_add 65 = .ok (.aload_n 0, 1) := by decide +kernel
theorem dX8_add_66 : decode cX8_add 66 = .ok (.iload 5, 2) := by decide +kernel
theorem dX8_add_68 : decode cX8_add 68 = .ok (.iconst 1, 1) := by decide +kernel
theorem dX8_add_69 : decode cX8_add 69 = .ok (.iload_n 2, 1) := by decide +kernel
theorem dX8_add_70 : decode cX8_add 70 = .ok (.invokevirtual 25, 3) := by decide +kernel
theorem dX8_add_73 : decode cX8_add 73 = .ok (.aload_n 0, 1) := by decide +kernel
theorem dX8_add_74 : decode cX8_add 74 = .ok (.iload 5, 2) := by decide +kernel
theorem dX8_add_76 : decode cX8_add 76 = .ok (.iconst 2, 1) := by decide +kernel
theorem dX8_add_77 : decode cX8_add 77 = .ok (.iload_n 3, 1) := by decide +kernel
theorem dX8_add_78 : decode cX8_add 78 = .ok (.invokevirtual 25, 3) := by decide +kernel
theorem dX8_add_81 : decode cX8_add 81 = .ok (.aload_n 0, 1) := by decide +kernel
theorem dX8_add_82 : decode cX8_add 82 = .ok (.iload 5, 2) := by decide +kernel
theorem dX8_add_84 : decode cX8_add 84 = .ok (.iconst 3, 1) := by decide +kernel
theorem dX8_add_85 : decode cX8_add 85 = .ok (.iload 4, 2) := by decide +kernel
theorem dX8_add_87 : decode cX8_add 87 = .ok (.invokevirtual 25, 3) := by decide +kernel
theorem dX8_add_90 : decode cX8_add 90 = .ok (.iload 5, 2) := by decide +kernel
theorem dX8_add_92 : decode cX8_add 92 = .ok (.ireturn, 1) := by decide +kernel
theorem dX8_at_0 : decode cX8_at 0 = .ok (.iload_n 1, 1) := by decide +kernel
theorem dX8_at_1 : decode cX8_at 1 = .ok (.ifCond .lt 23, 3) := by decide +kernel
theorem dX8_at_4 : decode cX8_at 4 = .ok (.iload_n 1, 1) := by decide +kernel
theorem dX8_at_5 : decode cX8_at 5 = .ok (.aload_n 0, 1) := by decide +kernel
theorem dX8_at_6 : decode cX8_at 6 = .ok (.getfield 22, 3) := by decide +kernel
theorem dX8_at_9 : decode cX8_at 9 = .ok (.if_icmp .ge 15, 3) := by decide +kernel
theorem dX8_at_12 : decode cX8_at 12 = .ok (.iload_n 2, 1) := by decide +kernel
theorem dX8_at_13 : decode cX8_at 13 = .ok (.ifCond .lt 11, 3) := by decide +kernel
theorem dX8_at_16 : decode cX8_at 16 = .ok (.iload_n 2, 1) := by decide +kernel
theorem dX8_at_17 : decode cX8_at 17 = .ok (.aload_n 0, 1) := by decide +kernel
theorem dX8_at_18 : decode cX8_at 18 = .ok (.getfield 15, 3) := by decide +kernel
theorem dX8_at_21 : decode cX8_at 21 = .ok (.if_icmp .lt 5, 3) := by decide +kernel
theorem dX8_at_24 : decode cX8_at 24 = .ok (.iconst 0, 1) := by decide +kernel
theorem dX8_at_25 : decode cX8_at 25 = .ok (.ireturn, 1) := by decide +kernel
theorem dX8_at_26 : decode cX8_at 26 = .ok (.iload_n 1, 1) := by decide +kernel
theorem dX8_at_27 : decode cX8_at 27 = .ok (.aload_n 0, 1) := by decide +kernel
theorem dX8_at_28 : decode cX8_at 28 = .ok (.getfield 15, 3) := by decide +kernel
theorem dX8_at_31 : decode cX8_at 31 = .ok (.imul, 1) := by decide +kernel
theorem dX8_at_32 : decode cX8_at 32 = .ok (.iload_n 2, 1) := by decide +kernel
theorem dX8_at_33 : decode cX8_at 33 = .ok (.iadd, 1) := by decide +kernel
theorem dX8_at_34 : decode cX8_at 34 = .ok (.istore_n 3, 1) := by decide +kernel
theorem dX8_at_35 : decode cX8_at 35 = .ok (.iload_n 3, 1) := by decide +kernel
theorem dX8_at_36 : decode cX8_at 36 = .ok (.aload_n 0, 1) := by decide +kernel
theorem dX8_at_37 : decode cX8_at 37 = .ok (.getfield 18, 3) := by decide +kernel
theorem dX8_at_40 : decode cX8_at 40 = .ok (.arraylength, 1) := by decide +kernel
theorem dX8_at_41 : decode cX8_at 41 = .ok (.if_icmp .ge 12, 3) := by decide +kernel
theorem dX8_at_44 : decode cX8_at 44 = .ok (.aload_n 0, 1) := by decide +kernel
theorem dX8_at_45 : decode cX8_at 45 = .ok (.getfield 18, 3) := by decide +kernel
theorem dX8_at_48 : decode cX8_at 48 = .ok (.iload_n 3, 1) := by decide +kernel
theorem dX8_at_49 : decode cX8_at 49 = .ok (.iaload, 1) := by decide +kernel
theorem dX8_at_50 : decode cX8_at 50 = .ok (.goto 4, 3) := by decide +kernel
theorem dX8_at_53 : decode cX8_at 53 = .ok (.iconst 0, 1) := by decide +kernel
theorem dX8_at_54 : decode cX8_at 54 = .ok (.ireturn, 1) := by decide +kernel
theorem dX8_put_0 : decode cX8_put 0 = .ok (.iload_n 1, 1) := by decide +kernel
theorem dX8_put_1 : decode cX8_put 1 = .ok (.ifCond .lt 23, 3) := by decide +kernel
theorem dX8_put_4 : decode cX8_put 4 = .ok (.iload_n 1, 1) := by decide +kernel
theorem dX8_put_5 : decode cX8_put 5 = .ok (.aload_n 0, 1) := by decide +kernel
theorem dX8_put_6 : decode cX8_put 6 = .ok (.getfield 22, 3) := by decide +kernel
theorem dX8_put_9 : decode cX8_put 9 = .ok (.if_icmp .ge 15, 3) := by decide +kernel
theorem dX8_put_12 : decode cX8_put 12 = .ok (.iload_n 2, 1) := by decide +kernel
theorem dX8_put_13 : decode cX8_put 13 = .ok (.ifCond .lt 11, 3) := by decide +kernel
theorem dX8_put_16 : decode cX8_put 16 = .ok (.iload_n 2, 1) := by decide +kernel
theorem dX8_put_17 : decode cX8_put 17 = .ok (.aload_n 0, 1) := by decide +kernel
theorem dX8_put_18 : decode cX8_put 18 = .ok (.getfield 15, 3) := by decide +kernel
theorem dX8_put_21 : decode cX8_put 21 = .ok (.if_icmp .lt 4, 3) := by decide +kernel
theorem dX8_put_24 : decode cX8_put 24 = .ok (.return_, 1) := by decide +kernel
theorem dX8_put_25 : decode cX8_put 25 = .ok (.iload_n 1, 1) := by decide +kernel
theorem dX8_put_26 : decode cX8_put 26 = .ok (.aload_n 0, 1) := by decide +kernel
theorem dX8_put_27 : decode cX8_put 27 = .ok (.getfield 15, 3) := by decide +kernel
theorem dX8_put_30 : decode cX8_put 30 = .ok (.imul, 1) := by decide +kernel
theorem dX8_put_31 : decode cX8_put 31 = .ok (.iload_n 2, 1) := by decide +kernel
theorem dX8_put_32 : decode cX8_put 32 = .ok (.iadd, 1) := by decide +kernel
theorem dX8_put_33 : decode cX8_put 33 = .ok (.istore 4, 2) := by decide +kernel
theorem dX8_put_35 : decode cX8_put 35 = .ok (.iload 4, 2) := by decide +kernel
theorem dX8_put_37 : decode cX8_put 37 = .ok (.aload_n 0, 1) := by decide +kernel
theorem dX8_put_38 : decode cX8_put 38 = .ok (.getfield 18, 3) := by decide +kernel
theorem dX8_put_41 : decode cX8_put 41 = .ok (.arraylength, 1) := by decide +kernel
theorem dX8_put_42 : decode cX8_put 42 = .ok (.if_icmp .ge 11, 3) := by decide +kernel
theorem dX8_put_45 : decode cX8_put 45 = .ok (.aload_n 0, 1) := by decide +kernel
theorem dX8_put_46 : decode cX8_put 46 = .ok (.getfield 18, 3) := by decide +kernel
theorem dX8_put_49 : decode cX8_put 49 = .ok (.iload 4, 2) := by decide +kernel
theorem dX8_put_51 : decode cX8_put 51 = .ok (.iload_n 3, 1) := by decide +kernel
theorem dX8_put_52 : decode cX8_put 52 = .ok (.iastore, 1) := by decide +kernel
theorem dX8_put_53 : decode cX8_put 53 = .ok (.return_, 1) := by decide +kernel
theorem dX8_copy_0 : decode cX8_copy 0 = .ok (.aload_n 1, 1) := by decide +kernel
theorem dX8_copy_1 : decode cX8_copy 1 = .ok (.getfield 22, 3) := by decide +kernel
theorem dX8_copy_4 : decode cX8_copy 4 = .ok (.aload_n 1, 1) := by decide +kernel
theorem dX8_copy_5 : decode cX8_copy 5 = .ok (.getfield 15, 3) := by decide +kernel
theorem dX8_copy_8 : decode cX8_copy 8 = .ok (.imul, 1) := by decide +kernel
theorem dX8_copy_9 : decode cX8_copy 9 = .ok (.istore_n 2, 1) := by decide +kernel
theorem dX8_copy_10 : decode cX8_copy 10 = .ok (.aload_n 1, 1) := by decide +kernel
theorem dX8_copy_11 : decode cX8_copy 11 = .ok (.getfield 15, 3) := by decide +kernel
theorem dX8_copy_14 : decode cX8_copy 14 = .ok (.aload_n 0, 1) := by decide +kernel
theorem dX8_copy_15 : decode cX8_copy 15 = .ok (.getfield 15, 3) := by decide +kernel
theorem dX8_copy_18 : decode cX8_copy 18 = .ok (.if_icmp .ne 25, 3) := by decide +kernel
theorem dX8_copy_21 : decode cX8_copy 21 = .ok (.iload_n 2, 1) := by decide +kernel
theorem dX8_copy_22 : decode cX8_copy 22 = .ok (.ifCond .lt 21, 3) := by decide +kernel
theorem dX8_copy_25 : decode cX8_copy 25 = .ok (.iload_n 2, 1) := by decide +kernel
theorem dX8_copy_26 : decode cX8_copy 26 = .ok (.aload_n 0, 1) := by decide +kernel
theorem dX8_copy_27 : decode cX8_copy 27 = .ok (.getfield 18, 3) := by decide +kernel
theorem dX8_copy_30 : decode cX8_copy 30 = .ok (.arraylength, 1) := by decide +kernel
theorem dX8_copy_31 : decode cX8_copy 31 = .ok (.if_icmp .gt 12, 3) := by decide +kernel
theorem dX8_copy_34 : decode cX8_copy 34 = .ok (.iload_n 2, 1) := by decide +kernel
theorem dX8_copy_35 : decode cX8_copy 35 = .ok (.aload_n 1, 1) := by decide +kernel
theorem dX8_copy_36 : decode cX8_copy 36 = .ok (.getfield 18, 3) := by decide +kernel
theorem dX8_copy_39 : decode cX8_copy 39 = .ok (.arraylength, 1) := by decide +kernel
theorem dX8_copy_40 : decode cX8_copy 40 = .ok (.if_icmp .le 4, 3) := by decide +kernel
theorem dX8_copy_43 : decode cX8_copy 43 = .ok (.return_, 1) := by decide +kernel
theorem dX8_copy_44 : decode cX8_copy 44 = .ok (.aload_n 1, 1) := by decide +kernel
theorem dX8_copy_45 : decode cX8_copy 45 = .ok (.getfield 18, 3) := by decide +kernel
theorem dX8_copy_48 : decode cX8_copy 48 = .ok (.iconst 0, 1) := by decide +kernel
theorem dX8_copy_49 : decode cX8_copy 49 = .ok (.aload_n 0, 1) := by decide +kernel
theorem dX8_copy_50 : decode cX8_copy 50 = .ok (.getfield 18, 3) := by decide +kernel
theorem dX8_copy_53 : decode cX8_copy 53 = .ok (.iconst 0, 1) := by decide +kernel
theorem dX8_copy_54 : decode cX8_copy 54 = .ok (.iload_n 2, 1) := by decide +kernel
theorem dX8_copy_55 : decode cX8_copy 55 = .ok (.invokestatic 29, 3) := by decide +kernel
theorem dX8_copy_58 : decode cX8_copy 58 = .ok (.aload_n 0, 1) := by decide +kernel
theorem dX8_copy_59 : decode cX8_copy 59 = .ok (.aload_n 1, 1) := by decide +kernel
theorem dX8_copy_60 : decode cX8_copy 60 = .ok (.getfield 22, 3) := by decide +kernel
theorem dX8_copy_63 : decode cX8_copy 63 = .ok (.putfield 22, 3) := by decide +kernel
theorem dX8_copy_66 : decode cX8_copy 66 = .ok (.return_, 1) := by decide +kernel
theorem dX9_init_0 : decode cX9_init 0 = .ok (.aload_n 0, 1) := by decide +kernel
theorem dX9_init_1 : decode cX9_init 1 = .ok (.invokespecial 3, 3) := by decide +kernel
theorem dX9_init_4 : decode cX9_init 4 = .ok (.aload_n 0, 1) := by decide +kernel
theorem dX9_init_5 : decode cX9_init 5 = .ok (.iconst 2, 1) := by decide +kernel
theorem dX9_init_6 : decode cX9_init 6 = .ok (.sipush 3001, 3) := by decide +kernel
theorem dX9_init_9 : decode cX9_init 9 = .ok (.multianewarray 9 2, 4) := by decide +kernel
theorem dX9_init_13 : decode cX9_init 13 = .ok (.putfield 11, 3) := by decide +kernel
theorem dX9_init_16 : decode cX9_init 16 = .ok (.aload_n 0, 1) := by decide +kernel
theorem dX9_init_17 : decode cX9_init 17 = .ok (.iconst 2, 1) := by decide +kernel
theorem dX9_init_18 : decode cX9_init 18 = .ok (.sipush 3000, 3) := by decide +kernel
theorem dX9_init_21 : decode cX9_init 21 = .ok (.multianewarray 9 2, 4) := by decide +kernel
theorem dX9_init_25 : decode cX9_init 25 = .ok (.putfield 16, 3) := by decide +kernel
theorem dX9_init_28 : decode cX9_init 28 = .ok (.aload_n 0, 1) := by decide +kernel
theorem dX9_init_29 : decode cX9_init 29 = .ok (.iconst 2, 1) := by decide +kernel
theorem dX9_init_30 : decode cX9_init 30 = .ok (.newarray .int, 2) := by decide +kernel
theorem dX9_init_32 : decode cX9_init 32 = .ok (.putfield 19, 3) := by decide +kernel
theorem dX9_init_35 : decode cX9_init 35 = .ok (.aload_n 0, 1) := by decide +kernel
theorem dX9_init_36 : decode cX9_init 36 = .ok (.aload_n 1, 1) := by decide +kernel
theorem dX9_init_37 : decode cX9_init 37 = .ok (.putfield 23, 3) := by decide +kernel
theorem dX9_init_40 : decode cX9_init 40 = .ok (.aload_n 0, 1) := by decide +kernel
theorem dX9_init_41 : decode cX9_init 41 = .ok (.getfield 11, 3) := by decide +kernel
theorem dX9_init_44 : decode cX9_init 44 = .ok (.iconst 0, 1) := by decide +kernel
theorem dX9_init_45 : decode cX9_init 45 = .ok (.aaload, 1) := by decide +kernel
theorem dX9_init_46 : decode cX9_init 46 = .ok (.iconst (-1), 1) := by decide +kernel
theorem dX9_init_47 : decode cX9_init 47 = .ok (.invokestatic 27, 3) := by decide +kernel
theorem dX9_init_50 : decode cX9_init 50 = .ok (.aload_n 0, 1) := by decide +kernel
theorem dX9_init_51 : decode cX9_init 51 = .ok (.getfield 11, 3) := by decide +kernel
theorem dX9_init_54 : decode cX9_init 54 = .ok (.iconst 1, 1) := by decide +kernel
theorem dX9_init_55 : decode cX9_init 55 = .ok (.aaload, 1) := by decide +kernel
theorem dX9_init_56 : decode cX9_init 56 = .ok (.iconst (-1), 1) := by decide +kernel
theorem dX9_init_57 : decode cX9_init 57 = .ok (.invokestatic 27, 3) := by decide +kernel
theorem dX9_init_60 : decode cX9_init 60 = .ok (.return_, 1) := by decide +kernel
theorem dX9_find_0 : decode cX9_find 0 = .ok (.aload_n 0, 1) := by decide +kernel
theorem dX9_find_1 : decode cX9_find 1 = .ok (.iconst (-1), 1) := by decide +kernel
theorem dX9_find_2 : decode cX9_find 2 = .ok (.putfield 33, 3) := by decide +kernel
theorem dX9_find_5 : decode cX9_find 5 = .ok (.aload_n 0, 1) := by decide +kernel
theorem dX9_find_6 : decode cX9_find 6 = .ok (.iconst 0, 1) := by decide +kernel
theorem dX9_find_7 : decode cX9_find 7 = .ok (.iload_n 1, 1) := by decide +kernel
theorem dX9_find_8 : decode cX9_find 8 = .ok (.iconst 0, 1) := by decide +kernel
theorem dX9_find_9 : decode cX9_find 9 = .ok (.invokevirtual 37, 3) := by decide +kernel
theorem dX9_find_12 : decode cX9_find 12 = .ok (.iconst 0, 1) := by decide +kernel
theorem dX9_find_13 : decode cX9_find 13 = .ok (.istore 4, 2) := by decide +kernel
theorem dX9_find_15 : decode cX9_find 15 = .ok (.iload 4, 2) := by decide +kernel
theorem dX9_find_17 : decode cX9_find 17 = .ok (.iconst 5, 1) := by decide +kernel
theorem dX9_find_18 : decode cX9_find 18 = .ok (.if_icmp .gt 43, 3) := by decide +kernel
theorem dX9_find_21 : decode cX9_find 21 = .ok (.iload 4, 2) := by decide +kernel
theorem dX9_find_23 : decode cX9_find 23 = .ok (.iconst 1, 1) := by decide +kernel
theorem dX9_find_24 : decode cX9_find 24 = .ok (.iand, 1) := by decide +kernel
theorem dX9_find_25 : decode cX9_find 25 = .ok (.istore 5, 2) := by decide +kernel
theorem dX9_find_27 : decode cX9_find 27 = .ok (.aload_n 0, 1) := by decide +kernel
theorem dX9_find_28 : decode cX9_find 28 = .ok (.iload 5, 2) := by decide +kernel
theorem dX9_find_30 : decode cX9_find 30 = .ok (.iload 4, 2) := by decide +kernel
theorem dX9_find_32 : decode cX9_find 32 = .ok (.iload_n 2, 1) := by decide +kernel
theorem dX9_find_33 : decode cX9_find 33 = .ok (.iload_n 3, 1) := by decide +kernel
theorem dX9_find_34 : decode cX9_find 34 = .ok (.invokevirtual 41, 3) := by decide +kernel
theorem dX9_find_37 : decode cX9_find 37 = .ok (.iload 4, 2) := by decide +kernel
theorem dX9_find_39 : decode cX9_find 39 = .ok (.iconst 5, 1) := by decide +kernel
theorem dX9_find_40 : decode cX9_find 40 = .ok (.if_icmp .ge 9, 3) := by decide +kernel
theorem dX9_find_43 : decode cX9_find 43 = .ok (.aload_n 0, 1) := by decide +kernel
theorem dX9_find_44 : decode cX9_find 44 = .ok (.iload 5, 2) := by decide +kernel
theorem dX9_find_46 : decode cX9_find 46 = .ok (.invokevirtual 45, 3) := by decide +kernel
theorem dX9_find_49 : decode cX9_find 49 = .ok (.aload_n 0, 1) := by decide +kernel
theorem dX9_find_50 : decode cX9_find 50 = .ok (.iload 5, 2) := by decide +kernel
theorem dX9_find_52 : decode cX9_find 52 = .ok (.invokevirtual 49, 3) := by decide +kernel
theorem dX9_find_55 : decode cX9_find 55 = .ok (.iinc 4 1, 3) := by decide +kernel
theorem dX9_find_58 : decode cX9_find 58 = .ok (.goto (-43), 3) := by decide +kernel
theorem dX9_find_61 : decode cX9_find 61 = .ok (.return_, 1) := by decide +kernel
theorem dX9_look_0 : decode cX9_look 0 = .ok (.iload_n 1, 1) := by decide +kernel
theorem dX9_look_1 : decode cX9_look 1 = .ok (.iconst 0, 1) := by decide +kernel
theorem dX9_look_2 : decode cX9_look 2 = .ok (.iconst 1, 1) := by decide +kernel
theorem dX9_look_3 : decode cX9_look 3 = .ok (.invokestatic 52, 3) := by decide +kernel
theorem dX9_look_6 : decode cX9_look 6 = .ok (.ifCond .ne 4, 3) := by decide +kernel
theorem dX9_look_9 : decode cX9_look 9 = .ok (.return_, 1) := by decide +kernel
theorem dX9_look_10 : decode cX9_look 10 = .ok (.iconst (-1), 1) := by decide +kernel
theorem dX9_look_11 : decode cX9_look 11 = .ok (.istore 5, 2) := by decide +kernel
theorem dX9_look_13 : decode cX9_look 13 = .ok (.iconst 0, 1) := by decide +kernel
theorem dX9_look_14 : decode cX9_look 14 = .ok (.istore 6, 2) := by decide +kernel
theorem dX9_look_16 : decode cX9_look 16 = .ok (.iload 6, 2) := by decide +kernel
theorem dX9_look_18 : decode cX9_look 18 = .ok (.aload_n 0, 1) := by decide +kernel
theorem dX9_look_19 : decode cX9_look 19 = .ok (.getfield 19, 3) := by decide +kernel
theorem dX9_look_22 : decode cX9_look 22 = .ok (.iload_n 1, 1) := by decide +kernel
theorem dX9_look_23 : decode cX9_look 23 = .ok (.iaload, 1) := by decide +kernel
theorem dX9_look_24 : decode cX9_look 24 = .ok (.if_icmp .ge 80, 3) := by decide +kernel
theorem dX9_look_27 : decode cX9_look 27 = .ok (.iload 6, 2) := by decide +kernel
theorem dX9_look_29 : decode cX9_look 29 = .ok (.sipush 3000, 3) := by decide +kernel
theorem dX9_look_32 : decode cX9_look 32 = .ok (.if_icmp .ge 72, 3) := by decide +kernel
theorem dX9_look_35 : decode cX9_look 35 = .ok (.aload_n 0, 1) := by decide +kernel
theorem dX9_look_36 : decode cX9_look 36 = .ok (.getfield 16, 3) := by decide +kernel
theorem dX9_look_39 : decode cX9_look 39 = .ok (.iload_n 1, 1) := by decide +kernel
theorem dX9_look_40 : decode cX9_look 40 = .ok (.aaload, 1) := by decide +kernel
theorem dX9_look_41 : decode cX9_look 41 = .ok (.iload 6, 2) := by decide +kernel
theorem dX9_look_43 : decode cX9_look 43 = .ok (.iaload, 1) := by decide +kernel
theorem dX9_look_44 : decode cX9_look 44 = .ok (.istore 7, 2) := by decide +kernel
theorem dX9_look_46 : decode cX9_look 46 = .ok (.iload 7, 2) := by decide +kernel
theorem dX9_look_48 : decode cX9_look 48 = .ok (.iload_n 3, 1) := by decide +kernel
theorem dX9_look_49 : decode cX9_look 49 = .ok (.iconst 1, 1) := by decide +kernel
theorem dX9_look_50 : decode cX9_look 50 = .ok (.invokestatic 56, 3) := by decide +kernel
theorem dX9_look_53 : decode cX9_look 53 = .ok (.iload 4, 2) := by decide +kernel
theorem dX9_look_55 : decode cX9_look 55 = .ok (.sipush 3000, 3) := by decide +kernel
theorem dX9_look_58 : decode cX9_look 58 = .ok (.invokestatic 62, 3) := by decide +kernel
theorem dX9_look_61 : decode cX9_look 61 = .ok (.invokestatic 52, 3) := by decide +kernel
theorem dX9_look_64 : decode cX9_look 64 = .ok (.ifCond .ne 6, 3) := by decide +kernel
theorem dX9_look_67 : decode cX9_look 67 = .ok (.goto 31, 3) := by decide +kernel
theorem dX9_look_70 : decode cX9_look 70 = .ok (.aload_n 0, 1) := by decide +kernel
theorem dX9_look_71 : decode cX9_look 71 = .ok (.getfield 11, 3) := by decide +kernel
theorem dX9_look_74 : decode cX9_look 74 = .ok (.iload_n 1, 1) := by decide +kernel
theorem dX9_look_75 : decode cX9_look 75 = .ok (.aaload, 1) := by decide +kernel
theorem dX9_look_76 : decode cX9_look 76 = .ok (.iload 7, 2) := by decide +kernel
theorem dX9_look_78 : decode cX9_look 78 = .ok (.iaload, 1) := by decide +kernel
theorem dX9_look_79 : decode cX9_look 79 = .ok (.istore 8, 2) := by decide +kernel
theorem dX9_look_81 : decode cX9_look 81 = .ok (.iload 5, 2) := by decide +kernel
theorem dX9_look_83 : decode cX9_look 83 = .ok (.iconst (-1), 1) := by decide +kernel
theorem dX9_look_84 : decode cX9_look 84 = .ok (.if_icmp .eq 10, 3) := by decide +kernel
theorem dX9_look_87 : decode cX9_look 87 = .ok (.iload 8, 2) := by decide +kernel
theorem dX9_look_89 : decode cX9_look 89 = .ok (.iload 5, 2) := by decide +kernel
theorem dX9_look_91 : decode cX9_look 91 = .ok (.if_icmp .ge 7, 3) := by decide +kernel
theorem dX9_look_94 : decode cX9_look 94 = .ok (.iload 8, 2) := by decide +kernel
theorem dX9_look_96 : decode cX9_look 96 = .ok (.istore 5, 2) := by decide +kernel
theorem dX9_look_98 : decode cX9_look 98 = .ok (.iinc 6 1, 3) := by decide +kernel
theorem dX9_look_101 : decode cX9_look 101 = .ok (.goto (-85), 3) := by decide +kernel
theorem dX9_look_104 : decode cX9_look 104 = .ok (.iload 5, 2) := by decide +kernel
theorem dX9_look_106 : decode cX9_look 106 = .ok (.iconst (-1), 1) := by decide +kernel
theorem dX9_look_107 : decode cX9_look 107 = .ok (.if_icmp .eq 23, 3) := by decide +kernel
theorem dX9_look_110 : decode cX9_look 110 = .ok (.aload_n 0, 1) := by decide +kernel
theorem dX9_look_111 : decode cX9_look 111 = .ok (.getfield 33, 3) := by decide +kernel
theorem dX9_look_114 : decode cX9_look 114 = .ok (.iconst (-1), 1) := by decide +kernel
theorem dX9_look_115 : decode cX9_look 115 = .ok (.if_icmp .eq 16, 3) := by decide +kernel
theorem dX9_look_118 : decode cX9_look 118 = .ok (.aload_n 0, 1) := by decide +kernel
theorem dX9_look_119 : decode cX9_look 119 = .ok (.getfield 33, 3) := by decide +kernel
theorem dX9_look_122 : decode cX9_look 122 = .ok (.iload 5, 2) := by decide +kernel
theorem dX9_look_124 : decode cX9_look 124 = .ok (.ldc 65, 2) := by decide +kernel
theorem dX9_look_126 : decode cX9_look 126 = .ok (.idiv, 1) := by decide +kernel
theorem dX9_look_127 : decode cX9_look 127 = .ok (.if_icmp .gt 4, 3) := by decide +kernel
theorem dX9_look_130 : decode cX9_look 130 = .ok (.return_, 1) := by decide +kernel
theorem dX9_look_131 : decode cX9_look 131 = .ok (.aload_n 0, 1) := by decide +kernel
theorem dX9_look_132 : decode cX9_look 132 = .ok (.iload 5, 2) := by decide +kernel
theorem dX9_look_134 : decode cX9_look 134 = .ok (.ldc 65, 2) := by decide +kernel
theorem dX9_look_136 : decode cX9_look 136 = .ok (.idiv, 1) := by decide +kernel
theorem dX9_look_137 : decode cX9_look 137 = .ok (.putfield 33, 3) := by decide +kernel
theorem dX9_look_140 : decode cX9_look 140 = .ok (.aload_n 0, 1) := by decide +kernel
theorem dX9_look_141 : decode cX9_look 141 = .ok (.iload 5, 2) := by decide +kernel
theorem dX9_look_143 : decode cX9_look 143 = .ok (.ldc 65, 2) := by decide +kernel
theorem dX9_look_145 : decode cX9_look 145 = .ok (.irem, 1) := by decide +kernel
theorem dX9_look_146 : decode cX9_look 146 = .ok (.putfield 66, 3) := by decide +kernel
theorem dX9_look_149 : decode cX9_look 149 = .ok (.aload_n 0, 1) := by decide +kernel
theorem dX9_look_150 : decode cX9_look 150 = .ok (.iload_n 2, 1) := by decide +kernel
theorem dX9_look_151 : decode cX9_look 151 = .ok (.putfield 69, 3) := by decide +kernel
theorem dX9_look_154 : decode cX9_look 154 = .ok (.return_, 1) := by decide +kernel
theorem dX9_spread_0 : decode cX9_spread 0 = .ok (.iload_n 1, 1) := by decide +kernel
theorem dX9_spread_1 : decode cX9_spread 1 = .ok (.iconst 0, 1) := by decide +kernel
theorem dX9_spread_2 : decode cX9_spread 2 = .ok (.iconst 1, 1) := by decide +kernel
theorem dX9_spread_3 : decode cX9_spread 3 = .ok (.invokestatic 52, 3) := by decide +kernel
theorem dX9_spread_6 : decode cX9_spread 6 = .ok (.ifCond .ne 4, 3) := by decide +kernel
theorem dX9_spread_9 : decode cX9_spread 9 = .ok (.return_, 1) := by decide +kernel
theorem dX9_spread_10 : decode cX9_spread 10 = .ok (.iconst 0, 1) := by decide +kernel
theorem dX9_spread_11 : decode cX9_spread 11 = .ok (.istore_n 2, 1) := by decide +kernel
theorem dX9_spread_12 : decode cX9_spread 12 = .ok (.iload_n 2, 1) := by decide +kernel
theorem dX9_spread_13 : decode cX9_spread 13 = .ok (.aload_n 0, 1) := by decide +kernel
theorem dX9_spread_14 : decode cX9_spread 14 = .ok (.getfield 19, 3) := by decide +kernel
theorem dX9_spread_17 : decode cX9_spread 17 = .ok (.iload_n 1, 1) := by decide +kernel
theorem dX9_spread_18 : decode cX9_spread 18 = .ok (.iaload, 1) := by decide +kernel
theorem dX9_spread_19 : decode cX9_spread 19 = .ok (.if_icmp .ge 181, 3) := by decide +kernel
theorem dX9_spread_22 : decode cX9_spread 22 = .ok (.iload_n 2, 1) := by decide +kernel
theorem dX9_spread_23 : decode cX9_spread 23 = .ok (.sipush 3000, 3) := by decide +kernel
theorem dX9_spread_26 : decode cX9_spread 26 = .ok (.if_icmp .ge 174, 3) := by decide +kernel
theorem dX9_spread_29 : decode cX9_spread 29 = .ok (.aload_n 0, 1) := by decide +kernel
theorem dX9_spread_30 : decode cX9_spread 30 = .ok (.getfield 16, 3) := by decide +kernel
theorem dX9_spread_33 : decode cX9_spread 33 = .ok (.iload_n 1, 1) := by decide +kernel
theorem dX9_spread_34 : decode cX9_spread 34 = .ok (.aaload, 1) := by decide +kernel
theorem dX9_spread_35 : decode cX9_spread 35 = .ok (.iload_n 2, 1) := by decide +kernel
theorem dX9_spread_36 : decode cX9_spread 36 = .ok (.iaload, 1) := by decide +kernel
theorem dX9_spread_37 : decode cX9_spread 37 = .ok (.istore_n 3, 1) := by decide +kernel
theorem dX9_spread_38 : decode cX9_spread 38 = .ok (.iload_n 3, 1) := by decide +kernel
theorem dX9_spread_39 : decode cX9_spread 39 = .ok (.iconst 1, 1) := by decide +kernel
theorem dX9_spread_40 : decode cX9_spread 40 = .ok (.sipush 3000, 3) := by decide +kernel
theorem dX9_spread_43 : decode cX9_spread 43 = .ok (.invokestatic 52, 3) := by decide +kernel
theorem dX9_spread_46 : decode cX9_spread 46 = .ok (.ifCond .ne 6, 3) := by decide +kernel
theorem dX9_spread_49 : decode cX9_spread 49 = .ok (.goto 145, 3) := by decide +kernel
theorem dX9_spread_52 : decode cX9_spread 52 = .ok (.aload_n 0, 1) := by decide +kernel
theorem dX9_spread_53 : decode cX9_spread 53 = .ok (.getfield 11, 3) := by decide +kernel
theorem dX9_spread_56 : decode cX9_spread 56 = .ok (.iload_n 1, 1) := by decide +kernel
theorem dX9_spread_57 : decode cX9_spread 57 = .ok (.aaload, 1) := by decide +kernel
theorem dX9_spread_58 : decode cX9_spread 58 = .ok (.iload_n 3, 1) := by decide +kernel
theorem dX9_spread_59 : decode cX9_spread 59 = .ok (.iaload, 1) := by decide +kernel
theorem dX9_spread_60 : decode cX9_spread 60 = .ok (.istore 4, 2) := by decide +kernel
theorem dX9_spread_62 : decode cX9_spread 62 = .ok (.iload 4, 2) := by decide +kernel
theorem dX9_spread_64 : decode cX9_spread 64 = .ok (.ldc 65, 2) := by decide +kernel
theorem dX9_spread_66 : decode cX9_spread 66 = .ok (.idiv, 1) := by decide +kernel
theorem dX9_spread_67 : decode cX9_spread 67 = .ok (.istore 5, 2) := by decide +kernel
theorem dX9_spread_69 : decode cX9_spread 69 = .ok (.iload 4, 2) := by decide +kernel
theorem dX9_spread_71 : decode cX9_spread 71 = .ok (.ldc 65, 2) := by decide +kernel
theorem dX9_spread_73 : decode cX9_spread 73 = .ok (.irem, 1) := by decide +kernel
theorem dX9_spread_74 : decode cX9_spread 74 = .ok (.istore 6, 2) := by decide +kernel
theorem dX9_spread_76 : decode cX9_spread 76 = .ok (.iconst 0, 1) := by decide +kernel
theorem dX9_spread_77 : decode cX9_spread 77 = .ok (.istore 7, 2) := by decide +kernel
theorem dX9_spread_79 : decode cX9_spread 79 = .ok (.iload 7, 2) := by decide +kernel
theorem dX9_spread_81 : decode cX9_spread 81 = .ok (.aload_n 0, 1) := by decide +kernel
theorem dX9_spread_82 : decode cX9_spread 82 = .ok (.getfield 23, 3) := by decide +kernel
theorem dX9_spread_85 : decode cX9_spread 85 = .ok (.getfield 72, 3) := by decide +kernel
theorem dX9_spread_88 : decode cX9_spread 88 = .ok (.invokevirtual 78, 3) := by decide +kernel
theorem dX9_spread_91 : decode cX9_spread 91 = .ok (.if_icmp .ge 103, 3) := by decide +kernel
theorem dX9_spread_94 : decode cX9_spread 94 = .ok (.iload_n 3, 1) := by decide +kernel
theorem dX9_spread_95 : decode cX9_spread 95 = .ok (.aload_n 0, 1) := by decide +kernel
theorem dX9_spread_96 : decode cX9_spread 96 = .ok (.getfield 23, 3) := by decide +kernel
theorem dX9_spread_99 : decode cX9_spread 99 = .ok (.getfield 72, 3) := by decide +kernel
theorem dX9_spread_102 : decode cX9_spread 102 = .ok (.iload 7, 2) := by decide +kernel
theorem dX9_spread_104 : decode cX9_spread 104 = .ok (.iconst 2, 1) := by decide +kernel
theorem dX9_spread_105 : decode cX9_spread 105 = .ok (.invokevirtual 84, 3) := by decide +kernel
theorem dX9_spread_108 : decode cX9_spread 108 = .ok (.if_icmp .ge 6, 3) := by decide +kernel
theorem dX9_spread_111 : decode cX9_spread 111 = .ok (.goto 77, 3) := by decide +kernel
theorem dX9_spread_114 : decode cX9_spread 114 = .ok (.iload_n 3, 1) := by decide +kernel
theorem dX9_spread_115 : decode cX9_spread 115 = .ok (.aload_n 0, 1) := by decide +kernel
theorem dX9_spread_116 : decode cX9_spread 116 = .ok (.getfield 23, 3) := by decide +kernel
theorem dX9_spread_119 : decode cX9_spread 119 = .ok (.getfield 72, 3) := by decide +kernel
theorem dX9_spread_122 : decode cX9_spread 122 = .ok (.iload 7, 2) := by decide +kernel
theorem dX9_spread_124 : decode cX9_spread 124 = .ok (.iconst 3, 1) := by decide +kernel
theorem dX9_spread_125 : decode cX9_spread 125 = .ok (.invokevirtual 84, 3) := by decide +kernel
theorem dX9_spread_128 : decode cX9_spread 128 = .ok (.if_icmp .le 6, 3) := by decide +kernel
theorem dX9_spread_131 : decode cX9_spread 131 = .ok (.goto 57, 3) := by decide +kernel
theorem dX9_spread_134 : decode cX9_spread 134 = .ok (.iload 5, 2) := by decide +kernel
theorem dX9_spread_136 : decode cX9_spread 136 = .ok (.aload_n 0, 1) := by decide +kernel
theorem dX9_spread_137 : decode cX9_spread 137 = .ok (.getfield 23, 3) := by decide +kernel
theorem dX9_spread_140 : decode cX9_spread 140 = .ok (.getfield 72, 3) := by decide +kernel
theorem dX9_spread_143 : decode cX9_spread 143 = .ok (.iload 7, 2) := by decide +kernel
theorem dX9_spread_145 : decode cX9_spread 145 = .ok (.iconst 1, 1) := by decide +kernel
theorem dX9_spread_146 : decode cX9_spread 146 = .ok (.invokevirtual 84, 3) := by decide +kernel
theorem dX9_spread_149 : decode cX9_spread 149 = .ok (.iadd, 1) := by decide +kernel
theorem dX9_spread_150 : decode cX9_spread 150 = .ok (.istore 8, 2) := by decide +kernel
theorem dX9_spread_152 : decode cX9_spread 152 = .ok (.aload_n 0, 1) := by decide +kernel
theorem dX9_spread_153 : decode cX9_spread 153 = .ok (.iconst 1, 1) := by decide +kernel
theorem dX9_spread_154 : decode cX9_spread 154 = .ok (.iload_n 1, 1) := by decide +kernel
theorem dX9_spread_155 : decode cX9_spread 155 = .ok (.isub, 1) := by decide +kernel
theorem dX9_spread_156 : decode cX9_spread 156 = .ok (.iload_n 3, 1) := by decide +kernel
theorem dX9_spread_157 : decode cX9_spread 157 = .ok (.aload_n 0, 1) := by decide +kernel
theorem dX9_spread_158 : decode cX9_spread 158 = .ok (.getfield 23, 3) := by decide +kernel
theorem dX9_spread_161 : decode cX9_spread 161 = .ok (.getfield 72, 3) := by decide +kernel
theorem dX9_spread_164 : decode cX9_spread 164 = .ok (.iload 7, 2) := by decide +kernel
theorem dX9_spread_166 : decode cX9_spread 166 = .ok (.iconst 0, 1) := by decide +kernel
theorem dX9_spread_167 : decode cX9_spread 167 = .ok (.invokevirtual 84, 3) := by decide +kernel
theorem dX9_spread_170 : decode cX9_spread 170 = .ok (.iadd, 1) := by decide +kernel
theorem dX9_spread_171 : decode cX9_spread 171 = .ok (.iload 8, 2) := by decide +kernel
theorem dX9_spread_173 : decode cX9_spread 173 = .ok (.ldc 65, 2) := by decide +kernel
theorem dX9_spread_175 : decode cX9_spread 175 = .ok (.imul, 1) := by decide +kernel
theorem dX9_spread_176 : decode cX9_spread 176 = .ok (.iload 6, 2) := by decide +kernel
theorem dX9_spread_178 : decode cX9_spread 178 = .ok (.bipush 8, 2) := by decide +kernel
theorem dX9_spread_180 : decode cX9_spread 180 = .ok (.imul, 1) := by decide +kernel
theorem dX9_spread_181 : decode cX9_spread 181 = .ok (.iadd, 1) := by decide +kernel
theorem dX9_spread_182 : decode cX9_spread 182 = .ok (.iload 7, 2) := by decide +kernel
theorem dX9_spread_184 : decode cX9_spread 184 = .ok (.iadd, 1) := by decide +kernel
theorem dX9_spread_185 : decode cX9_spread 185 = .ok (.invokevirtual 37, 3) := by decide +kernel
theorem dX9_spread_188 : decode cX9_spread 188 = .ok (.iinc 7 1, 3) := by decide +kernel
theorem dX9_spread_191 : decode cX9_spread 191 = .ok (.goto (-112), 3) := by decide +kernel
theorem dX9_spread_194 : decode cX9_spread 194 = .ok (.iinc 2 1, 3) := by decide +kernel
theorem dX9_spread_197 : decode cX9_spread 197 = .ok (.goto (-185), 3) := by decide +kernel
theorem dX9_spread_200 : decode cX9_spread 200 = .ok (.return_, 1) := by decide +kernel
theorem dX9_reach_0 : decode cX9_reach 0 = .ok (.iload_n 1, 1) := by decide +kernel
theorem dX9_reach_1 : decode cX9_reach 1 = .ok (.iconst 0, 1) := by decide +kernel
theorem dX9_reach_2 : decode cX9_reach 2 = .ok (.iconst 1, 1) := by decide +kernel
theorem dX9_reach_3 : decode cX9_reach 3 = .ok (.invokestatic 52, 3) := by decide +kernel
theorem dX9_reach_6 : decode cX9_reach 6 = .ok (.ifCond .eq 14, 3) := by decide +kernel
theorem dX9_reach_9 : decode cX9_reach 9 = .ok (.iload_n 2, 1) := by decide +kernel
theorem dX9_reach_10 : decode cX9_reach 10 = .ok (.iconst 1, 1) := by decide +kernel
theorem dX9_reach_11 : decode cX9_reach 11 = .ok (.sipush 3000, 3) := by decide +kernel
theorem dX9_reach_14 : decode cX9_reach 14 = .ok (.invokestatic 52, 3) := by decide +kernel
theorem dX9_reach_17 : decode cX9_reach 17 = .ok (.ifCond .ne 4, 3) := by decide +kernel
theorem dX9_reach_20 : decode cX9_reach 20 = .ok (.return_, 1) := by decide +kernel
theorem dX9_reach_21 : decode cX9_reach 21 = .ok (.aload_n 0, 1) := by decide +kernel
theorem dX9_reach_22 : decode cX9_reach 22 = .ok (.getfield 11, 3) := by decide +kernel
theorem dX9_reach_25 : decode cX9_reach 25 = .ok (.iload_n 1, 1) := by decide +kernel
theorem dX9_reach_26 : decode cX9_reach 26 = .ok (.aaload, 1) := by decide +kernel
theorem dX9_reach_27 : decode cX9_reach 27 = .ok (.iload_n 2, 1) := by decide +kernel
theorem dX9_reach_28 : decode cX9_reach 28 = .ok (.iaload, 1) := by decide +kernel
theorem dX9_reach_29 : decode cX9_reach 29 = .ok (.iconst (-1), 1) := by decide +kernel
theorem dX9_reach_30 : decode cX9_reach 30 = .ok (.if_icmp .ne 55, 3) := by decide +kernel
theorem dX9_reach_33 : decode cX9_reach 33 = .ok (.aload_n 0, 1) := by decide +kernel
theorem dX9_reach_34 : decode cX9_reach 34 = .ok (.getfield 19, 3) := by decide +kernel
theorem dX9_reach_37 : decode cX9_reach 37 = .ok (.iload_n 1, 1) := by decide +kernel
theorem dX9_reach_38 : decode cX9_reach 38 = .ok (.iaload, 1) := by decide +kernel
theorem dX9_reach_39 : decode cX9_reach 39 = .ok (.iconst 0, 1) := by decide +kernel
theorem dX9_reach_40 : decode cX9_reach 40 = .ok (.sipush 2999, 3) := by decide +kernel
theorem dX9_reach_43 : decode cX9_reach 43 = .ok (.invokestatic 52, 3) := by decide +kernel
theorem dX9_reach_46 : decode cX9_reach 46 = .ok (.ifCond .eq 39, 3) := by decide +kernel
theorem dX9_reach_49 : decode cX9_reach 49 = .ok (.aload_n 0, 1) := by decide +kernel
theorem dX9_reach_50 : decode cX9_reach 50 = .ok (.getfield 16, 3) := by decide +kernel
theorem dX9_reach_53 : decode cX9_reach 53 = .ok (.iload_n 1, 1) := by decide +kernel
theorem dX9_reach_54 : decode cX9_reach 54 = .ok (.aaload, 1) := by decide +kernel
theorem dX9_reach_55 : decode cX9_reach 55 = .ok (.aload_n 0, 1) := by decide +kernel
theorem dX9_reach_56 : decode cX9_reach 56 = .ok (.getfield 19, 3) := by decide +kernel
theorem dX9_reach_59 : decode cX9_reach 59 = .ok (.iload_n 1, 1) := by decide +kernel
theorem dX9_reach_60 : decode cX9_reach 60 = .ok (.iaload, 1) := by decide +kernel
theorem dX9_reach_61 : decode cX9_reach 61 = .ok (.iload_n 2, 1) := by decide +kernel
theorem dX9_reach_62 : decode cX9_reach 62 = .ok (.iastore, 1) := by decide +kernel
theorem dX9_reach_63 : decode cX9_reach 63 = .ok (.aload_n 0, 1) := by decide +kernel
theorem dX9_reach_64 : decode cX9_reach 64 = .ok (.getfield 19, 3) := by decide +kernel
theorem dX9_reach_67 : decode cX9_reach 67 = .ok (.iload_n 1, 1) := by decide +kernel
theorem dX9_reach_68 : decode cX9_reach 68 = .ok (.dup2, 1) := by decide +kernel
theorem dX9_reach_69 : decode cX9_reach 69 = .ok (.iaload, 1) := by decide +kernel
theorem dX9_reach_70 : decode cX9_reach 70 = .ok (.iconst 1, 1) := by decide +kernel
theorem dX9_reach_71 : decode cX9_reach 71 = .ok (.iadd, 1) := by decide +kernel
theorem dX9_reach_72 : decode cX9_reach 72 = .ok (.iastore, 1) := by decide +kernel
theorem dX9_reach_73 : decode cX9_reach 73 = .ok (.aload_n 0, 1) := by decide +kernel
theorem dX9_reach_74 : decode cX9_reach 74 = .ok (.getfield 11, 3) := by decide +kernel
theorem dX9_reach_77 : decode cX9_reach 77 = .ok (.iload_n 1, 1) := by decide +kernel
theorem dX9_reach_78 : decode cX9_reach 78 = .ok (.aaload, 1) := by decide +kernel
theorem dX9_reach_79 : decode cX9_reach 79 = .ok (.iload_n 2, 1) := by decide +kernel
theorem dX9_reach_80 : decode cX9_reach 80 = .ok (.iload_n 3, 1) := by decide +kernel
theorem dX9_reach_81 : decode cX9_reach 81 = .ok (.iastore, 1) := by decide +kernel
theorem dX9_reach_82 : decode cX9_reach 82 = .ok (.goto 24, 3) := by decide +kernel
theorem dX9_reach_85 : decode cX9_reach 85 = .ok (.iload_n 3, 1) := by decide +kernel
theorem dX9_reach_86 : decode cX9_reach 86 = .ok (.aload_n 0, 1) := by decide +kernel
theorem dX9_reach_87 : decode cX9_reach 87 = .ok (.getfield 11, 3) := by decide +kernel
theorem dX9_reach_90 : decode cX9_reach 90 = .ok (.iload_n 1, 1) := by decide +kernel
theorem dX9_reach_91 : decode cX9_reach 91 = .ok (.aaload, 1) := by decide +kernel
theorem dX9_reach_92 : decode cX9_reach 92 = .ok (.iload_n 2, 1) := by decide +kernel
theorem dX9_reach_93 : decode cX9_reach 93 = .ok (.iaload, 1) := by decide +kernel
theorem dX9_reach_94 : decode cX9_reach 94 = .ok (.if_icmp .ge 12, 3) := by decide +kernel
theorem dX9_reach_97 : decode cX9_reach 97 = .ok (.aload_n 0, 1) := by decide +kernel
theorem dX9_reach_98 : decode cX9_reach 98 = .ok (.getfield 11, 3) := by decide +kernel
theorem dX9_reach_101 : decode cX9_reach 101 = .ok (.iload_n 1, 1) := by decide +kernel
theorem dX9_reach_102 : decode cX9_reach 102 = .ok (.aaload, 1) := by decide +kernel
theorem dX9_reach_103 : decode cX9_reach 103 = .ok (.iload_n 2, 1) := by decide +kernel
theorem dX9_reach_104 : decode cX9_reach 104 = .ok (.iload_n 3, 1) := by decide +kernel
theorem dX9_reach_105 : decode cX9_reach 105 = .ok (.iastore, 1) := by decide +kernel
theorem dX9_reach_106 : decode cX9_reach 106 = .ok (.return_, 1) := by decide +kernel
theorem dX9_forget_0 : decode cX9_forget 0 = .ok (.iload_n 1, 1) := by decide +kernel
theorem dX9_forget_1 : decode cX9_forget 1 = .ok (.iconst 0, 1) := by decide +kernel
theorem dX9_forget_2 : decode cX9_forget 2 = .ok (.iconst 1, 1) := by decide +kernel
theorem dX9_forget_3 : decode cX9_forget 3 = .ok (.invokestatic 52, 3) := by decide +kernel
theorem dX9_forget_6 : decode cX9_forget 6 = .ok (.ifCond .ne 4, 3) := by decide +kernel
theorem dX9_forget_9 : decode cX9_forget 9 = .ok (.return_, 1) := by decide +kernel
theorem dX9_forget_10 : decode cX9_forget 10 = .ok (.iconst 0, 1) := by decide +kernel
theorem dX9_forget_11 : decode cX9_forget 11 = .ok (.istore_n 2, 1) := by decide +kernel
theorem dX9_forget_12 : decode cX9_forget 12 = .ok (.iload_n 2, 1) := by decide +kernel
theorem dX9_forget_13 : decode cX9_forget 13 = .ok (.aload_n 0, 1) := by decide +kernel
theorem dX9_forget_14 : decode cX9_forget 14 = .ok (.getfield 19, 3) := by decide +kernel
theorem dX9_forget_17 : decode cX9_forget 17 = .ok (.iload_n 1, 1) := by decide +kernel
theorem dX9_forget_18 : decode cX9_forget 18 = .ok (.iaload, 1) := by decide +kernel
theorem dX9_forget_19 : decode cX9_forget 19 = .ok (.if_icmp .ge 45, 3) := by decide +kernel
theorem dX9_forget_22 : decode cX9_forget 22 = .ok (.iload_n 2, 1) := by decide +kernel
theorem dX9_forget_23 : decode cX9_forget 23 = .ok (.sipush 3000, 3) := by decide +kernel
theorem dX9_forget_26 : decode cX9_forget 26 = .ok (.if_icmp .ge 38, 3) := by decide +kernel
theorem dX9_forget_29 : decode cX9_forget 29 = .ok (.aload_n 0, 1) := by decide +kernel
theorem dX9_forget_30 : decode cX9_forget 30 = .ok (.getfield 16, 3) := by decide +kernel
theorem dX9_forget_33 : decode cX9_forget 33 = .ok (.iload_n 1, 1) := by decide +kernel
theorem dX9_forget_34 : decode cX9_forget 34 = .ok (.aaload, 1) := by decide +kernel
theorem dX9_forget_35 : decode cX9_forget 35 = .ok (.iload_n 2, 1) := by decide +kernel
theorem dX9_forget_36 : decode cX9_forget 36 = .ok (.iaload, 1) := by decide +kernel
theorem dX9_forget_37 : decode cX9_forget 37 = .ok (.istore_n 3, 1) := by decide +kernel
theorem dX9_forget_38 : decode cX9_forget 38 = .ok (.iload_n 3, 1) := by decide +kernel
theorem dX9_forget_39 : decode cX9_forget 39 = .ok (.iconst 1, 1) := by decide +kernel
theorem dX9_forget_40 : decode cX9_forget 40 = .ok (.sipush 3000, 3) := by decide +kernel
theorem dX9_forget_43 : decode cX9_forget 43 = .ok (.invokestatic 52, 3) := by decide +kernel
theorem dX9_forget_46 : decode cX9_forget 46 = .ok (.ifCond .eq 12, 3) := by decide +kernel
theorem dX9_forget_49 : decode cX9_forget 49 = .ok (.aload_n 0, 1) := by decide +kernel
theorem dX9_forget_50 : decode cX9_forget 50 = .ok (.getfield 11, 3) := by decide +kernel
theorem dX9_forget_53 : decode cX9_forget 53 = .ok (.iload_n 1, 1) := by decide +kernel
theorem dX9_forget_54 : decode cX9_forget 54 = .ok (.aaload, 1) := by decide +kernel
theorem dX9_forget_55 : decode cX9_forget 55 = .ok (.iload_n 3, 1) := by decide +kernel
theorem dX9_forget_56 : decode cX9_forget 56 = .ok (.iconst (-1), 1) := by decide +kernel
theorem dX9_forget_57 : decode cX9_forget 57 = .ok (.iastore, 1) := by decide +kernel
theorem dX9_forget_58 : decode cX9_forget 58 = .ok (.iinc 2 1, 3) := by decide +kernel
theorem dX9_forget_61 : decode cX9_forget 61 = .ok (.goto (-49), 3) := by decide +kernel
theorem dX9_forget_64 : decode cX9_forget 64 = .ok (.aload_n 0, 1) := by decide +kernel
theorem dX9_forget_65 : decode cX9_forget 65 = .ok (.getfield 19, 3) := by decide +kernel
theorem dX9_forget_68 : decode cX9_forget 68 = .ok (.iload_n 1, 1) := by decide +kernel
theorem dX9_forget_69 : decode cX9_forget 69 = .ok (.iconst 0, 1) := by decide +kernel
theorem dX9_forget_70 : decode cX9_forget 70 = .ok (.iastore, 1) := by decide +kernel
theorem dX9_forget_71 : decode cX9_forget 71 = .ok (.return_, 1) := by decide +kernel
theorem dX9_stepAt_0 : decode cX9_stepAt 0 = .ok (.iload_n 1, 1) := by decide +kernel
theorem dX9_stepAt_1 : decode cX9_stepAt 1 = .ok (.iconst 0, 1) := by decide +kernel
theorem dX9_stepAt_2 : decode cX9_stepAt 2 = .ok (.aload_n 0, 1) := by decide +kernel
theorem dX9_stepAt_3 : decode cX9_stepAt 3 = .ok (.getfield 69, 3) := by decide +kernel
theorem dX9_stepAt_6 : decode cX9_stepAt 6 = .ok (.iconst 1, 1) := by decide +kernel
theorem dX9_stepAt_7 : decode cX9_stepAt 7 = .ok (.isub, 1) := by decide +kernel
theorem dX9_stepAt_8 : decode cX9_stepAt 8 = .ok (.invokestatic 52, 3) := by decide +kernel
theorem dX9_stepAt_11 : decode cX9_stepAt 11 = .ok (.ifCond .eq 24, 3) := by decide +kernel
theorem dX9_stepAt_14 : decode cX9_stepAt 14 = .ok (.aload_n 0, 1) := by decide +kernel
theorem dX9_stepAt_15 : decode cX9_stepAt 15 = .ok (.getfield 66, 3) := by decide +kernel
theorem dX9_stepAt_18 : decode cX9_stepAt 18 = .ok (.iconst 3, 1) := by decide +kernel
theorem dX9_stepAt_19 : decode cX9_stepAt 19 = .ok (.aload_n 0, 1) := by decide +kernel
theorem dX9_stepAt_20 : decode cX9_stepAt 20 = .ok (.getfield 69, 3) := by decide +kernel
theorem dX9_stepAt_23 : decode cX9_stepAt 23 = .ok (.iconst 1, 1) := by decide +kernel
theorem dX9_stepAt_24 : decode cX9_stepAt 24 = .ok (.isub, 1) := by decide +kernel
theorem dX9_stepAt_25 : decode cX9_stepAt 25 = .ok (.iload_n 1, 1) := by decide +kernel
theorem dX9_stepAt_26 : decode cX9_stepAt 26 = .ok (.isub, 1) := by decide +kernel
theorem dX9_stepAt_27 : decode cX9_stepAt 27 = .ok (.imul, 1) := by decide +kernel
theorem dX9_stepAt_28 : decode cX9_stepAt 28 = .ok (.ishr, 1) := by decide +kernel
theorem dX9_stepAt_29 : decode cX9_stepAt 29 = .ok (.bipush 7, 2) := by decide +kernel
theorem dX9_stepAt_31 : decode cX9_stepAt 31 = .ok (.iand, 1) := by decide +kernel
theorem dX9_stepAt_32 : decode cX9_stepAt 32 = .ok (.goto 4, 3) := by decide +kernel
theorem dX9_stepAt_35 : decode cX9_stepAt 35 = .ok (.iconst (-1), 1) := by decide +kernel
theorem dX9_stepAt_36 : decode cX9_stepAt 36 = .ok (.ireturn, 1) := by decide +kernel
theorem dX10_init_0 : decode cX10_init 0 = .ok (.aload_n 0, 1) := by decide +kernel
theorem dX10_init_1 : decode cX10_init 1 = .ok (.invokespecial 1, 3) := by decide +kernel
theorem dX10_init_4 : decode cX10_init 4 = .ok (.aload_n 0, 1) := by decide +kernel
theorem dX10_init_5 : decode cX10_init 5 = .ok (.new 7, 3) := by decide +kernel
theorem dX10_init_8 : decode cX10_init 8 = .ok (.dup, 1) := by decide +kernel
theorem dX10_init_9 : decode cX10_init 9 = .ok (.invokespecial 9, 3) := by decide +kernel
theorem dX10_init_12 : decode cX10_init 12 = .ok (.putfield 10, 3) := by decide +kernel
theorem dX10_init_15 : decode cX10_init 15 = .ok (.aload_n 0, 1) := by decide +kernel
theorem dX10_init_16 : decode cX10_init 16 = .ok (.new 7, 3) := by decide +kernel
theorem dX10_init_19 : decode cX10_init 19 = .ok (.dup, 1) := by decide +kernel
theorem dX10_init_20 : decode cX10_init 20 = .ok (.invokespecial 9, 3) := by decide +kernel
theorem dX10_init_23 : decode cX10_init 23 = .ok (.putfield 16, 3) := by decide +kernel
theorem dX10_init_26 : decode cX10_init 26 = .ok (.aload_n 0, 1) := by decide +kernel
theorem dX10_init_27 : decode cX10_init 27 = .ok (.new 7, 3) := by decide +kernel
theorem dX10_init_30 : decode cX10_init 30 = .ok (.dup, 1) := by decide +kernel
theorem dX10_init_31 : decode cX10_init 31 = .ok (.invokespecial 9, 3) := by decide +kernel
theorem dX10_init_34 : decode cX10_init 34 = .ok (.putfield 19, 3) := by decide +kernel
theorem dX10_init_37 : decode cX10_init 37 = .ok (.aload_n 0, 1) := by decide +kernel
theorem dX10_init_38 : decode cX10_init 38 = .ok (.iconst 2, 1) := by decide +kernel
theorem dX10_init_39 : decode cX10_init 39 = .ok (.newarray .boolean, 2) := by decide +kernel
theorem dX10_init_41 : decode cX10_init 41 = .ok (.putfield 22, 3) := by decide +kernel
theorem dX10_init_44 : decode cX10_init 44 = .ok (.aload_n 0, 1) := by decide +kernel
theorem dX10_init_45 : decode cX10_init 45 = .ok (.new 26, 3) := by decide +kernel
theorem dX10_init_48 : decode cX10_init 48 = .ok (.dup, 1) := by decide +kernel
theorem dX10_init_49 : decode cX10_init 49 = .ok (.aload_n 0, 1) := by decide +kernel
theorem dX10_init_50 : decode cX10_init 50 = .ok (.getfield 10, 3) := by decide +kernel
theorem dX10_init_53 : decode cX10_init 53 = .ok (.invokespecial 28, 3) := by decide +kernel
theorem dX10_init_56 : decode cX10_init 56 = .ok (.putfield 31, 3) := by decide +kernel
theorem dX10_init_59 : decode cX10_init 59 = .ok (.aload_n 0, 1) := by decide +kernel
theorem dX10_init_60 : decode cX10_init 60 = .ok (.new 35, 3) := by decide +kernel
theorem dX10_init_63 : decode cX10_init 63 = .ok (.dup, 1) := by decide +kernel
theorem dX10_init_64 : decode cX10_init 64 = .ok (.aload_n 0, 1) := by decide +kernel
theorem dX10_init_65 : decode cX10_init 65 = .ok (.getfield 10, 3) := by decide +kernel
theorem dX10_init_68 : decode cX10_init 68 = .ok (.aload_n 0, 1) := by decide +kernel
theorem dX10_init_69 : decode cX10_init 69 = .ok (.getfield 31, 3) := by decide +kernel
theorem dX10_init_72 : decode cX10_init 72 = .ok (.invokespecial 37, 3) := by decide +kernel
theorem dX10_init_75 : decode cX10_init 75 = .ok (.putfield 40, 3) := by decide +kernel
theorem dX10_init_78 : decode cX10_init 78 = .ok (.aload_n 0, 1) := by decide +kernel
theorem dX10_init_79 : decode cX10_init 79 = .ok (.new 44, 3) := by decide +kernel
theorem dX10_init_82 : decode cX10_init 82 = .ok (.dup, 1) := by decide +kernel
theorem dX10_init_83 : decode cX10_init 83 = .ok (.aload_n 0, 1) := by decide +kernel
theorem dX10_init_84 : decode cX10_init 84 = .ok (.getfield 10, 3) := by decide +kernel
theorem dX10_init_87 : decode cX10_init 87 = .ok (.aload_n 0, 1) := by decide +kernel
theorem dX10_init_88 : decode cX10_init 88 = .ok (.getfield 31, 3) := by decide +kernel
theorem dX10_init_91 : decode cX10_init 91 = .ok (.aload_n 0, 1) := by decide +kernel
theorem dX10_init_92 : decode cX10_init 92 = .ok (.getfield 40, 3) := by decide +kernel
theorem dX10_init_95 : decode cX10_init 95 = .ok (.invokespecial 46, 3) := by decide +kernel
theorem dX10_init_98 : decode cX10_init 98 = .ok (.putfield 49, 3) := by decide +kernel
theorem dX10_init_101 : decode cX10_init 101 = .ok (.aload_n 0, 1) := by decide +kernel
theorem dX10_init_102 : decode cX10_init 102 = .ok (.new 53, 3) := by decide +kernel
theorem dX10_init_105 : decode cX10_init 105 = .ok (.dup, 1) := by decide +kernel
theorem dX10_init_106 : decode cX10_init 106 = .ok (.aload_n 0, 1) := by decide +kernel
theorem dX10_init_107 : decode cX10_init 107 = .ok (.getfield 10, 3) := by decide +kernel
theorem dX10_init_110 : decode cX10_init 110 = .ok (.invokespecial 55, 3) := by decide +kernel
theorem dX10_init_113 : decode cX10_init 113 = .ok (.putfield 56, 3) := by decide +kernel
theorem dX10_init_116 : decode cX10_init 116 = .ok (.aload_n 0, 1) := by decide +kernel
theorem dX10_init_117 : decode cX10_init 117 = .ok (.new 60, 3) := by decide +kernel
theorem dX10_init_120 : decode cX10_init 120 = .ok (.dup, 1) := by decide +kernel
theorem dX10_init_121 : decode cX10_init 121 = .ok (.aload_n 0, 1) := by decide +kernel
theorem dX10_init_122 : decode cX10_init 122 = .ok (.getfield 10, 3) := by decide +kernel
theorem dX10_init_125 : decode cX10_init 125 = .ok (.invokespecial 62, 3) := by decide +kernel
theorem dX10_init_128 : decode cX10_init 128 = .ok (.putfield 63, 3) := by decide +kernel
theorem dX10_init_131 : decode cX10_init 131 = .ok (.aload_n 0, 1) := by decide +kernel
theorem dX10_init_132 : decode cX10_init 132 = .ok (.new 67, 3) := by decide +kernel
theorem dX10_init_135 : decode cX10_init 135 = .ok (.dup, 1) := by decide +kernel
theorem dX10_init_136 : decode cX10_init 136 = .ok (.aload_n 0, 1) := by decide +kernel
theorem dX10_init_137 : decode cX10_init 137 = .ok (.getfield 10, 3) := by decide +kernel
theorem dX10_init_140 : decode cX10_init 140 = .ok (.invokespecial 69, 3) := by decide +kernel
theorem dX10_init_143 : decode cX10_init 143 = .ok (.putfield 70, 3) := by decide +kernel
theorem dX10_init_146 : decode cX10_init 146 = .ok (.aload_n 0, 1) := by decide +kernel
theorem dX10_init_147 : decode cX10_init 147 = .ok (.new 74, 3) := by decide +kernel
theorem dX10_init_150 : decode cX10_init 150 = .ok (.dup, 1) := by decide +kernel
theorem dX10_init_151 : decode cX10_init 151 = .ok (.aload_n 0, 1) := by decide +kernel
theorem dX10_init_152 : decode cX10_init 152 = .ok (.getfield 10, 3) := by decide +kernel
theorem dX10_init_155 : decode cX10_init 155 = .ok (.invokespecial 76, 3) := by decide +kernel
theorem dX10_init_158 : decode cX10_init 158 = .ok (.putfield 77, 3) := by decide +kernel
theorem dX10_init_161 : decode cX10_init 161 = .ok (.return_, 1) := by decide +kernel
theorem dX10_part_0 : decode cX10_part 0 = .ok (.iload_n 1, 1) := by decide +kernel
theorem dX10_part_1 : decode cX10_part 1 = .ok (.iconst 0, 1) := by decide +kernel
theorem dX10_part_2 : decode cX10_part 2 = .ok (.bipush 100, 2) := by decide +kernel
theorem dX10_part_4 : decode cX10_part 4 = .ok (.invokestatic 81, 3) := by decide +kernel
theorem dX10_part_7 : decode cX10_part 7 = .ok (.ifCond .eq 13, 3) := by decide +kernel
theorem dX10_part_10 : decode cX10_part 10 = .ok (.iload_n 2, 1) := by decide +kernel
theorem dX10_part_11 : decode cX10_part 11 = .ok (.iconst 1, 1) := by decide +kernel
theorem dX10_part_12 : decode cX10_part 12 = .ok (.bipush 100, 2) := by decide +kernel
theorem dX10_part_14 : decode cX10_part 14 = .ok (.invokestatic 81, 3) := by decide +kernel
theorem dX10_part_17 : decode cX10_part 17 = .ok (.ifCond .ne 6, 3) := by decide +kernel
theorem dX10_part_20 : decode cX10_part 20 = .ok (.bipush (-2), 2) := by decide +kernel
theorem dX10_part_22 : decode cX10_part 22 = .ok (.ireturn, 1) := by decide +kernel
theorem dX10_part_23 : decode cX10_part 23 = .ok (.iload_n 3, 1) := by decide +kernel
theorem dX10_part_24 : decode cX10_part 24 = .ok (.iconst 0, 1) := by decide +kernel
theorem dX10_part_25 : decode cX10_part 25 = .ok (.bipush 99, 2) := by decide +kernel
theorem dX10_part_27 : decode cX10_part 27 = .ok (.invokestatic 81, 3) := by decide +kernel
theorem dX10_part_30 : decode cX10_part 30 = .ok (.ifCond .eq 13, 3) := by decide +kernel
theorem dX10_part_33 : decode cX10_part 33 = .ok (.iload 4, 2) := by decide +kernel
theorem dX10_part_35 : decode cX10_part 35 = .ok (.iconst (-1), 1) := by decide +kernel
theorem dX10_part_36 : decode cX10_part 36 = .ok (.iconst 3, 1) := by decide +kernel
theorem dX10_part_37 : decode cX10_part 37 = .ok (.invokestatic 81, 3) := by decide +kernel
theorem dX10_part_40 : decode cX10_part 40 = .ok (.ifCond .ne 6, 3) := by decide +kernel
theorem dX10_part_43 : decode cX10_part 43 = .ok (.bipush (-2), 2) := by decide +kernel
theorem dX10_part_45 : decode cX10_part 45 = .ok (.ireturn, 1) := by decide +kernel
theorem dX10_part_46 : decode cX10_part 46 = .ok (.aload_n 0, 1) := by decide +kernel
theorem dX10_part_47 : decode cX10_part 47 = .ok (.getfield 10, 3) := by decide +kernel
theorem dX10_part_50 : decode cX10_part 50 = .ok (.getfield 85, 3) := by decide +kernel
theorem dX10_part_53 : decode cX10_part 53 = .ok (.iload_n 1, 1) := by decide +kernel
theorem dX10_part_54 : decode cX10_part 54 = .ok (.iload_n 2, 1) := by decide +kernel
theorem dX10_part_55 : decode cX10_part 55 = .ok (.iload_n 3, 1) := by decide +kernel
theorem dX10_part_56 : decode cX10_part 56 = .ok (.iload 4, 2) := by decide +kernel
theorem dX10_part_58 : decode cX10_part 58 = .ok (.invokevirtual 89, 3) := by decide +kernel
theorem dX10_part_61 : decode cX10_part 61 = .ok (.ireturn, 1) := by decide +kernel
theorem dX10_family_0 : decode cX10_family 0 = .ok (.aload_n 0, 1) := by decide +kernel
theorem dX10_family_1 : decode cX10_family 1 = .ok (.getfield 10, 3) := by decide +kernel
theorem dX10_family_4 : decode cX10_family 4 = .ok (.getfield 95, 3) := by decide +kernel
theorem dX10_family_7 : decode cX10_family 7 = .ok (.iload_n 1, 1) := by decide +kernel
theorem dX10_family_8 : decode cX10_family 8 = .ok (.invokevirtual 98, 3) := by decide +kernel
theorem dX10_family_11 : decode cX10_family 11 = .ok (.ifCond .eq 13, 3) := by decide +kernel
theorem dX10_family_14 : decode cX10_family 14 = .ok (.iload_n 2, 1) := by decide +kernel
theorem dX10_family_15 : decode cX10_family 15 = .ok (.iconst 1, 1) := by decide +kernel
theorem dX10_family_16 : decode cX10_family 16 = .ok (.ldc 102, 2) := by decide +kernel
theorem dX10_family_18 : decode cX10_family 18 = .ok (.invokestatic 81, 3) := by decide +kernel
theorem dX10_family_21 : decode cX10_family 21 = .ok (.ifCond .ne 6, 3) := by decide +kernel
theorem dX10_family_24 : decode cX10_family 24 = .ok (.bipush (-2), 2) := by decide +kernel
theorem dX10_family_26 : decode cX10_family 26 = .ok (.ireturn, 1) := by decide +kernel
theorem dX10_family_27 : decode cX10_family 27 = .ok (.iload_n 3, 1) := by decide +kernel
theorem dX10_family_28 : decode cX10_family 28 = .ok (.iconst 1, 1) := by decide +kernel
theorem dX10_family_29 : decode cX10_family 29 = .ok (.ldc 102, 2) := by decide +kernel
theorem dX10_family_31 : decode cX10_family 31 = .ok (.invokestatic 81, 3) := by decide +kernel
theorem dX10_family_34 : decode cX10_family 34 = .ok (.ifCond .eq 14, 3) := by decide +kernel
theorem dX10_family_37 : decode cX10_family 37 = .ok (.iload 4, 2) := by decide +kernel
theorem dX10_family_39 : decode cX10_family 39 = .ok (.iconst 1, 1) := by decide +kernel
theorem dX10_family_40 : decode cX10_family 40 = .ok (.ldc 102, 2) := by decide +kernel
theorem dX10_family_42 : decode cX10_family 42 = .ok (.invokestatic 81, 3) := by decide +kernel
theorem dX10_family_45 : decode cX10_family 45 = .ok (.ifCond .ne 6, 3) := by decide +kernel
theorem dX10_family_48 : decode cX10_family 48 = .ok (.bipush (-2), 2) := by decide +kernel
theorem dX10_family_50 : decode cX10_family 50 = .ok (.ireturn, 1) := by decide +kernel
theorem dX10_family_51 : decode cX10_family 51 = .ok (.iload_n 2, 1) := by decide +kernel
theorem dX10_family_52 : decode cX10_family 52 = .ok (.i2l, 1) := by decide +kernel
theorem dX10_family_53 : decode cX10_family 53 = .ok (.iload 4, 2) := by decide +kernel
theorem dX10_family_55 : decode cX10_family 55 = .ok (.i2l, 1) := by decide +kernel
theorem dX10_family_56 : decode cX10_family 56 = .ok (.lconst 1, 1) := by decide +kernel
theorem dX10_family_57 : decode cX10_family 57 = .ok (.lsub, 1) := by decide +kernel
theorem dX10_family_58 : decode cX10_family 58 = .ok (.iload_n 3, 1) := by decide +kernel
theorem dX10_family_59 : decode cX10_family 59 = .ok (.i2l, 1) := by decide +kernel
