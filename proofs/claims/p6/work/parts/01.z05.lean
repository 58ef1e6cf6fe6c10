theorem dX10_imageAt_4 : decode cX10_imageAt 4 = .ok (.aload_n 0, 1) := by decide +kernel
theorem dX10_imageAt_5 : decode cX10_imageAt 5 = .ok (.getfield 16, 3) := by decide +kernel
theorem dX10_imageAt_8 : decode cX10_imageAt 8 = .ok (.goto 7, 3) := by decide +kernel
theorem dX10_imageAt_11 : decode cX10_imageAt 11 = .ok (.aload_n 0, 1) := by decide +kernel
theorem dX10_imageAt_12 : decode cX10_imageAt 12 = .ok (.getfield 19, 3) := by decide +kernel
theorem dX10_imageAt_15 : decode cX10_imageAt 15 = .ok (.areturn, 1) := by decide +kernel
theorem dX10_count_0 : decode cX10_count 0 = .ok (.iload_n 1, 1) := by decide +kernel
theorem dX10_count_1 : decode cX10_count 1 = .ok (.tableswitch 162 0 9 #[55, 66, 77, 85, 96, 107, 118, 129, 140, 151], 55) := by decide +kernel
theorem dX10_count_56 : decode cX10_count 56 = .ok (.aload_n 0, 1) := by decide +kernel
theorem dX10_count_57 : decode cX10_count 57 = .ok (.getfield 10, 3) := by decide +kernel
theorem dX10_count_60 : decode cX10_count 60 = .ok (.getfield 85, 3) := by decide +kernel
theorem dX10_count_63 : decode cX10_count 63 = .ok (.invokevirtual 115, 3) := by decide +kernel
theorem dX10_count_66 : decode cX10_count 66 = .ok (.ireturn, 1) := by decide +kernel
theorem dX10_count_67 : decode cX10_count 67 = .ok (.aload_n 0, 1) := by decide +kernel
theorem dX10_count_68 : decode cX10_count 68 = .ok (.getfield 10, 3) := by decide +kernel
theorem dX10_count_71 : decode cX10_count 71 = .ok (.getfield 129, 3) := by decide +kernel
theorem dX10_count_74 : decode cX10_count 74 = .ok (.invokevirtual 115, 3) := by decide +kernel
theorem dX10_count_77 : decode cX10_count 77 = .ok (.ireturn, 1) := by decide +kernel
theorem dX10_count_78 : decode cX10_count 78 = .ok (.aload_n 0, 1) := by decide +kernel
theorem dX10_count_79 : decode cX10_count 79 = .ok (.getfield 10, 3) := by decide +kernel
theorem dX10_count_82 : decode cX10_count 82 = .ok (.invokevirtual 258, 3) := by decide +kernel
theorem dX10_count_85 : decode cX10_count 85 = .ok (.ireturn, 1) := by decide +kernel
theorem dX10_count_86 : decode cX10_count 86 = .ok (.aload_n 0, 1) := by decide +kernel
theorem dX10_count_87 : decode cX10_count 87 = .ok (.getfield 10, 3) := by decide +kernel
theorem dX10_count_90 : decode cX10_count 90 = .ok (.getfield 153, 3) := by decide +kernel
theorem dX10_count_93 : decode cX10_count 93 = .ok (.invokevirtual 115, 3) := by decide +kernel
theorem dX10_count_96 : decode cX10_count 96 = .ok (.ireturn, 1) := by decide +kernel
theorem dX10_count_97 : decode cX10_count 97 = .ok (.aload_n 0, 1) := by decide +kernel
theorem dX10_count_98 : decode cX10_count 98 = .ok (.getfield 10, 3) := by decide +kernel
theorem dX10_count_101 : decode cX10_count 101 = .ok (.getfield 182, 3) := by decide +kernel
theorem dX10_count_104 : decode cX10_count 104 = .ok (.invokevirtual 115, 3) := by decide +kernel
theorem dX10_count_107 : decode cX10_count 107 = .ok (.ireturn, 1) := by decide +kernel
theorem dX10_count_108 : decode cX10_count 108 = .ok (.aload_n 0, 1) := by decide +kernel
theorem dX10_count_109 : decode cX10_count 109 = .ok (.getfield 10, 3) := by decide +kernel
theorem dX10_count_112 : decode cX10_count 112 = .ok (.getfield 196, 3) := by decide +kernel
theorem dX10_count_115 : decode cX10_count 115 = .ok (.invokevirtual 115, 3) := by decide +kernel
theorem dX10_count_118 : decode cX10_count 118 = .ok (.ireturn, 1) := by decide +kernel
theorem dX10_count_119 : decode cX10_count 119 = .ok (.aload_n 0, 1) := by decide +kernel
theorem dX10_count_120 : decode cX10_count 120 = .ok (.getfield 10, 3) := by decide +kernel
theorem dX10_count_123 : decode cX10_count 123 = .ok (.getfield 199, 3) := by decide +kernel
theorem dX10_count_126 : decode cX10_count 126 = .ok (.invokevirtual 115, 3) := by decide +kernel
theorem dX10_count_129 : decode cX10_count 129 = .ok (.ireturn, 1) := by decide +kernel
theorem dX10_count_130 : decode cX10_count 130 = .ok (.aload_n 0, 1) := by decide +kernel
theorem dX10_count_131 : decode cX10_count 131 = .ok (.getfield 10, 3) := by decide +kernel
theorem dX10_count_134 : decode cX10_count 134 = .ok (.getfield 229, 3) := by decide +kernel
theorem dX10_count_137 : decode cX10_count 137 = .ok (.invokevirtual 115, 3) := by decide +kernel
theorem dX10_count_140 : decode cX10_count 140 = .ok (.ireturn, 1) := by decide +kernel
theorem dX10_count_141 : decode cX10_count 141 = .ok (.aload_n 0, 1) := by decide +kernel
theorem dX10_count_142 : decode cX10_count 142 = .ok (.getfield 10, 3) := by decide +kernel
theorem dX10_count_145 : decode cX10_count 145 = .ok (.getfield 238, 3) := by decide +kernel
theorem dX10_count_148 : decode cX10_count 148 = .ok (.invokevirtual 115, 3) := by decide +kernel
theorem dX10_count_151 : decode cX10_count 151 = .ok (.ireturn, 1) := by decide +kernel
theorem dX10_count_152 : decode cX10_count 152 = .ok (.aload_n 0, 1) := by decide +kernel
theorem dX10_count_153 : decode cX10_count 153 = .ok (.getfield 10, 3) := by decide +kernel
theorem dX10_count_156 : decode cX10_count 156 = .ok (.getfield 109, 3) := by decide +kernel
theorem dX10_count_159 : decode cX10_count 159 = .ok (.invokevirtual 115, 3) := by decide +kernel
theorem dX10_count_162 : decode cX10_count 162 = .ok (.ireturn, 1) := by decide +kernel
theorem dX10_count_163 : decode cX10_count 163 = .ok (.bipush (-2), 2) := by decide +kernel
theorem dX10_count_165 : decode cX10_count 165 = .ok (.ireturn, 1) := by decide +kernel
theorem dX10_digest_0 : decode cX10_digest 0 = .ok (.ldc2_w 261, 3) := by decide +kernel
theorem dX10_digest_3 : decode cX10_digest 3 = .ok (.lstore_n 1, 1) := by decide +kernel
theorem dX10_digest_4 : decode cX10_digest 4 = .ok (.iconst 0, 1) := by decide +kernel
theorem dX10_digest_5 : decode cX10_digest 5 = .ok (.istore_n 3, 1) := by decide +kernel
theorem dX10_digest_6 : decode cX10_digest 6 = .ok (.iload_n 3, 1) := by decide +kernel
theorem dX10_digest_7 : decode cX10_digest 7 = .ok (.bipush 10, 2) := by decide +kernel
theorem dX10_digest_9 : decode cX10_digest 9 = .ok (.if_icmp .ge 22, 3) := by decide +kernel
theorem dX10_digest_12 : decode cX10_digest 12 = .ok (.ldc2_w 263, 3) := by decide +kernel
theorem dX10_digest_15 : decode cX10_digest 15 = .ok (.lload_n 1, 1) := by decide +kernel
theorem dX10_digest_16 : decode cX10_digest 16 = .ok (.lmul, 1) := by decide +kernel
theorem dX10_digest_17 : decode cX10_digest 17 = .ok (.aload_n 0, 1) := by decide +kernel
theorem dX10_digest_18 : decode cX10_digest 18 = .ok (.iload_n 3, 1) := by decide +kernel
theorem dX10_digest_19 : decode cX10_digest 19 = .ok (.invokevirtual 265, 3) := by decide +kernel
theorem dX10_digest_22 : decode cX10_digest 22 = .ok (.i2l, 1) := by decide +kernel
theorem dX10_digest_23 : decode cX10_digest 23 = .ok (.ladd, 1) := by decide +kernel
theorem dX10_digest_24 : decode cX10_digest 24 = .ok (.lstore_n 1, 1) := by decide +kernel
theorem dX10_digest_25 : decode cX10_digest 25 = .ok (.iinc 3 1, 3) := by decide +kernel
theorem dX10_digest_28 : decode cX10_digest 28 = .ok (.goto (-22), 3) := by decide +kernel
theorem dX10_digest_31 : decode cX10_digest 31 = .ok (.aload_n 0, 1) := by decide +kernel
theorem dX10_digest_32 : decode cX10_digest 32 = .ok (.lload_n 1, 1) := by decide +kernel
theorem dX10_digest_33 : decode cX10_digest 33 = .ok (.invokevirtual 268, 3) := by decide +kernel
theorem dX10_digest_36 : decode cX10_digest 36 = .ok (.lstore_n 1, 1) := by decide +kernel
theorem dX10_digest_37 : decode cX10_digest 37 = .ok (.lload_n 1, 1) := by decide +kernel
theorem dX10_digest_38 : decode cX10_digest 38 = .ok (.aload_n 0, 1) := by decide +kernel
theorem dX10_digest_39 : decode cX10_digest 39 = .ok (.getfield 10, 3) := by decide +kernel
theorem dX10_digest_42 : decode cX10_digest 42 = .ok (.getfield 95, 3) := by decide +kernel
theorem dX10_digest_45 : decode cX10_digest 45 = .ok (.iconst 3, 1) := by decide +kernel
theorem dX10_digest_46 : decode cX10_digest 46 = .ok (.invokestatic 272, 3) := by decide +kernel
theorem dX10_digest_49 : decode cX10_digest 49 = .ok (.lstore_n 1, 1) := by decide +kernel
theorem dX10_digest_50 : decode cX10_digest 50 = .ok (.lload_n 1, 1) := by decide +kernel
theorem dX10_digest_51 : decode cX10_digest 51 = .ok (.aload_n 0, 1) := by decide +kernel
theorem dX10_digest_52 : decode cX10_digest 52 = .ok (.getfield 10, 3) := by decide +kernel
theorem dX10_digest_55 : decode cX10_digest 55 = .ok (.getfield 129, 3) := by decide +kernel
theorem dX10_digest_58 : decode cX10_digest 58 = .ok (.bipush 6, 2) := by decide +kernel
theorem dX10_digest_60 : decode cX10_digest 60 = .ok (.invokestatic 272, 3) := by decide +kernel
theorem dX10_digest_63 : decode cX10_digest 63 = .ok (.lstore_n 1, 1) := by decide +kernel
theorem dX10_digest_64 : decode cX10_digest 64 = .ok (.aload_n 0, 1) := by decide +kernel
theorem dX10_digest_65 : decode cX10_digest 65 = .ok (.lload_n 1, 1) := by decide +kernel
theorem dX10_digest_66 : decode cX10_digest 66 = .ok (.invokevirtual 276, 3) := by decide +kernel
theorem dX10_digest_69 : decode cX10_digest 69 = .ok (.lstore_n 1, 1) := by decide +kernel
theorem dX10_digest_70 : decode cX10_digest 70 = .ok (.lload_n 1, 1) := by decide +kernel
theorem dX10_digest_71 : decode cX10_digest 71 = .ok (.aload_n 0, 1) := by decide +kernel
theorem dX10_digest_72 : decode cX10_digest 72 = .ok (.getfield 10, 3) := by decide +kernel
theorem dX10_digest_75 : decode cX10_digest 75 = .ok (.getfield 182, 3) := by decide +kernel
theorem dX10_digest_78 : decode cX10_digest 78 = .ok (.iconst 4, 1) := by decide +kernel
theorem dX10_digest_79 : decode cX10_digest 79 = .ok (.invokestatic 272, 3) := by decide +kernel
theorem dX10_digest_82 : decode cX10_digest 82 = .ok (.lstore_n 1, 1) := by decide +kernel
theorem dX10_digest_83 : decode cX10_digest 83 = .ok (.lload_n 1, 1) := by decide +kernel
theorem dX10_digest_84 : decode cX10_digest 84 = .ok (.aload_n 0, 1) := by decide +kernel
theorem dX10_digest_85 : decode cX10_digest 85 = .ok (.getfield 10, 3) := by decide +kernel
theorem dX10_digest_88 : decode cX10_digest 88 = .ok (.getfield 196, 3) := by decide +kernel
theorem dX10_digest_91 : decode cX10_digest 91 = .ok (.iconst 1, 1) := by decide +kernel
theorem dX10_digest_92 : decode cX10_digest 92 = .ok (.invokestatic 272, 3) := by decide +kernel
theorem dX10_digest_95 : decode cX10_digest 95 = .ok (.lstore_n 1, 1) := by decide +kernel
theorem dX10_digest_96 : decode cX10_digest 96 = .ok (.lload_n 1, 1) := by decide +kernel
theorem dX10_digest_97 : decode cX10_digest 97 = .ok (.aload_n 0, 1) := by decide +kernel
theorem dX10_digest_98 : decode cX10_digest 98 = .ok (.getfield 10, 3) := by decide +kernel
theorem dX10_digest_101 : decode cX10_digest 101 = .ok (.getfield 199, 3) := by decide +kernel
theorem dX10_digest_104 : decode cX10_digest 104 = .ok (.iconst 3, 1) := by decide +kernel
theorem dX10_digest_105 : decode cX10_digest 105 = .ok (.invokestatic 272, 3) := by decide +kernel
theorem dX10_digest_108 : decode cX10_digest 108 = .ok (.lstore_n 1, 1) := by decide +kernel
theorem dX10_digest_109 : decode cX10_digest 109 = .ok (.lload_n 1, 1) := by decide +kernel
theorem dX10_digest_110 : decode cX10_digest 110 = .ok (.aload_n 0, 1) := by decide +kernel
theorem dX10_digest_111 : decode cX10_digest 111 = .ok (.getfield 10, 3) := by decide +kernel
theorem dX10_digest_114 : decode cX10_digest 114 = .ok (.getfield 210, 3) := by decide +kernel
theorem dX10_digest_117 : decode cX10_digest 117 = .ok (.iconst 2, 1) := by decide +kernel
theorem dX10_digest_118 : decode cX10_digest 118 = .ok (.invokestatic 272, 3) := by decide +kernel
theorem dX10_digest_121 : decode cX10_digest 121 = .ok (.lstore_n 1, 1) := by decide +kernel
theorem dX10_digest_122 : decode cX10_digest 122 = .ok (.lload_n 1, 1) := by decide +kernel
theorem dX10_digest_123 : decode cX10_digest 123 = .ok (.aload_n 0, 1) := by decide +kernel
theorem dX10_digest_124 : decode cX10_digest 124 = .ok (.getfield 10, 3) := by decide +kernel
theorem dX10_digest_127 : decode cX10_digest 127 = .ok (.getfield 229, 3) := by decide +kernel
theorem dX10_digest_130 : decode cX10_digest 130 = .ok (.iconst 2, 1) := by decide +kernel
theorem dX10_digest_131 : decode cX10_digest 131 = .ok (.invokestatic 272, 3) := by decide +kernel
theorem dX10_digest_134 : decode cX10_digest 134 = .ok (.lstore_n 1, 1) := by decide +kernel
theorem dX10_digest_135 : decode cX10_digest 135 = .ok (.lload_n 1, 1) := by decide +kernel
theorem dX10_digest_136 : decode cX10_digest 136 = .ok (.aload_n 0, 1) := by decide +kernel
theorem dX10_digest_137 : decode cX10_digest 137 = .ok (.getfield 10, 3) := by decide +kernel
theorem dX10_digest_140 : decode cX10_digest 140 = .ok (.getfield 238, 3) := by decide +kernel
theorem dX10_digest_143 : decode cX10_digest 143 = .ok (.iconst 2, 1) := by decide +kernel
theorem dX10_digest_144 : decode cX10_digest 144 = .ok (.invokestatic 272, 3) := by decide +kernel
theorem dX10_digest_147 : decode cX10_digest 147 = .ok (.lstore_n 1, 1) := by decide +kernel
theorem dX10_digest_148 : decode cX10_digest 148 = .ok (.lload_n 1, 1) := by decide +kernel
theorem dX10_digest_149 : decode cX10_digest 149 = .ok (.aload_n 0, 1) := by decide +kernel
theorem dX10_digest_150 : decode cX10_digest 150 = .ok (.getfield 10, 3) := by decide +kernel
theorem dX10_digest_153 : decode cX10_digest 153 = .ok (.getfield 241, 3) := by decide +kernel
theorem dX10_digest_156 : decode cX10_digest 156 = .ok (.iconst 1, 1) := by decide +kernel
theorem dX10_digest_157 : decode cX10_digest 157 = .ok (.invokestatic 272, 3) := by decide +kernel
theorem dX10_digest_160 : decode cX10_digest 160 = .ok (.lstore_n 1, 1) := by decide +kernel
theorem dX10_digest_161 : decode cX10_digest 161 = .ok (.lload_n 1, 1) := by decide +kernel
theorem dX10_digest_162 : decode cX10_digest 162 = .ok (.aload_n 0, 1) := by decide +kernel
theorem dX10_digest_163 : decode cX10_digest 163 = .ok (.getfield 10, 3) := by decide +kernel
theorem dX10_digest_166 : decode cX10_digest 166 = .ok (.getfield 109, 3) := by decide +kernel
theorem dX10_digest_169 : decode cX10_digest 169 = .ok (.iconst 1, 1) := by decide +kernel
theorem dX10_digest_170 : decode cX10_digest 170 = .ok (.invokestatic 272, 3) := by decide +kernel
theorem dX10_digest_173 : decode cX10_digest 173 = .ok (.lreturn, 1) := by decide +kernel
theorem dX10_withParts_0 : decode cX10_withParts 0 = .ok (.lload_n 1, 1) := by decide +kernel
theorem dX10_withParts_1 : decode cX10_withParts 1 = .ok (.lstore_n 3, 1) := by decide +kernel
theorem dX10_withParts_2 : decode cX10_withParts 2 = .ok (.iconst 0, 1) := by decide +kernel
theorem dX10_withParts_3 : decode cX10_withParts 3 = .ok (.istore 5, 2) := by decide +kernel
theorem dX10_withParts_5 : decode cX10_withParts 5 = .ok (.iload 5, 2) := by decide +kernel
theorem dX10_withParts_7 : decode cX10_withParts 7 = .ok (.aload_n 0, 1) := by decide +kernel
theorem dX10_withParts_8 : decode cX10_withParts 8 = .ok (.getfield 10, 3) := by decide +kernel
theorem dX10_withParts_11 : decode cX10_withParts 11 = .ok (.getfield 85, 3) := by decide +kernel
theorem dX10_withParts_14 : decode cX10_withParts 14 = .ok (.invokevirtual 115, 3) := by decide +kernel
theorem dX10_withParts_17 : decode cX10_withParts 17 = .ok (.if_icmp .ge 82, 3) := by decide +kernel
theorem dX10_withParts_20 : decode cX10_withParts 20 = .ok (.lload_n 3, 1) := by decide +kernel
theorem dX10_withParts_21 : decode cX10_withParts 21 = .ok (.aload_n 0, 1) := by decide +kernel
theorem dX10_withParts_22 : decode cX10_withParts 22 = .ok (.getfield 10, 3) := by decide +kernel
theorem dX10_withParts_25 : decode cX10_withParts 25 = .ok (.getfield 85, 3) := by decide +kernel
theorem dX10_withParts_28 : decode cX10_withParts 28 = .ok (.iload 5, 2) := by decide +kernel
theorem dX10_withParts_30 : decode cX10_withParts 30 = .ok (.iconst 4, 1) := by decide +kernel
theorem dX10_withParts_31 : decode cX10_withParts 31 = .ok (.invokestatic 279, 3) := by decide +kernel
theorem dX10_withParts_34 : decode cX10_withParts 34 = .ok (.lstore_n 3, 1) := by decide +kernel
theorem dX10_withParts_35 : decode cX10_withParts 35 = .ok (.aload_n 0, 1) := by decide +kernel
theorem dX10_withParts_36 : decode cX10_withParts 36 = .ok (.getfield 40, 3) := by decide +kernel
theorem dX10_withParts_39 : decode cX10_withParts 39 = .ok (.iload 5, 2) := by decide +kernel
theorem dX10_withParts_41 : decode cX10_withParts 41 = .ok (.invokevirtual 135, 3) := by decide +kernel
theorem dX10_withParts_44 : decode cX10_withParts 44 = .ok (.iconst 0, 1) := by decide +kernel
theorem dX10_withParts_45 : decode cX10_withParts 45 = .ok (.istore 6, 2) := by decide +kernel
theorem dX10_withParts_47 : decode cX10_withParts 47 = .ok (.iload 6, 2) := by decide +kernel
theorem dX10_withParts_49 : decode cX10_withParts 49 = .ok (.iconst 3, 1) := by decide +kernel
theorem dX10_withParts_50 : decode cX10_withParts 50 = .ok (.if_icmp .ge 26, 3) := by decide +kernel
theorem dX10_withParts_53 : decode cX10_withParts 53 = .ok (.ldc2_w 263, 3) := by decide +kernel
theorem dX10_withParts_56 : decode cX10_withParts 56 = .ok (.lload_n 3, 1) := by decide +kernel
theorem dX10_withParts_57 : decode cX10_withParts 57 = .ok (.lmul, 1) := by decide +kernel
theorem dX10_withParts_58 : decode cX10_withParts 58 = .ok (.aload_n 0, 1) := by decide +kernel
theorem dX10_withParts_59 : decode cX10_withParts 59 = .ok (.getfield 40, 3) := by decide +kernel
theorem dX10_withParts_62 : decode cX10_withParts 62 = .ok (.iload 6, 2) := by decide +kernel
theorem dX10_withParts_64 : decode cX10_withParts 64 = .ok (.invokevirtual 139, 3) := by decide +kernel
theorem dX10_withParts_67 : decode cX10_withParts 67 = .ok (.i2l, 1) := by decide +kernel
theorem dX10_withParts_68 : decode cX10_withParts 68 = .ok (.ladd, 1) := by decide +kernel
theorem dX10_withParts_69 : decode cX10_withParts 69 = .ok (.lstore_n 3, 1) := by decide +kernel
theorem dX10_withParts_70 : decode cX10_withParts 70 = .ok (.iinc 6 1, 3) := by decide +kernel
theorem dX10_withParts_73 : decode cX10_withParts 73 = .ok (.goto (-26), 3) := by decide +kernel
theorem dX10_withParts_76 : decode cX10_withParts 76 = .ok (.ldc2_w 263, 3) := by decide +kernel
theorem dX10_withParts_79 : decode cX10_withParts 79 = .ok (.lload_n 3, 1) := by decide +kernel
theorem dX10_withParts_80 : decode cX10_withParts 80 = .ok (.lmul, 1) := by decide +kernel
theorem dX10_withParts_81 : decode cX10_withParts 81 = .ok (.aload_n 0, 1) := by decide +kernel
theorem dX10_withParts_82 : decode cX10_withParts 82 = .ok (.getfield 70, 3) := by decide +kernel
theorem dX10_withParts_85 : decode cX10_withParts 85 = .ok (.iload 5, 2) := by decide +kernel
theorem dX10_withParts_87 : decode cX10_withParts 87 = .ok (.invokevirtual 235, 3) := by decide +kernel
theorem dX10_withParts_90 : decode cX10_withParts 90 = .ok (.i2l, 1) := by decide +kernel
theorem dX10_withParts_91 : decode cX10_withParts 91 = .ok (.ladd, 1) := by decide +kernel
theorem dX10_withParts_92 : decode cX10_withParts 92 = .ok (.lstore_n 3, 1) := by decide +kernel
theorem dX10_withParts_93 : decode cX10_withParts 93 = .ok (.iinc 5 1, 3) := by decide +kernel
theorem dX10_withParts_96 : decode cX10_withParts 96 = .ok (.goto (-91), 3) := by decide +kernel
theorem dX10_withParts_99 : decode cX10_withParts 99 = .ok (.lload_n 3, 1) := by decide +kernel
theorem dX10_withParts_100 : decode cX10_withParts 100 = .ok (.lreturn, 1) := by decide +kernel
theorem dX10_withChains_0 : decode cX10_withChains 0 = .ok (.lload_n 1, 1) := by decide +kernel
theorem dX10_withChains_1 : decode cX10_withChains 1 = .ok (.lstore_n 3, 1) := by decide +kernel
theorem dX10_withChains_2 : decode cX10_withChains 2 = .ok (.iconst 0, 1) := by decide +kernel
theorem dX10_withChains_3 : decode cX10_withChains 3 = .ok (.istore 5, 2) := by decide +kernel
theorem dX10_withChains_5 : decode cX10_withChains 5 = .ok (.iload 5, 2) := by decide +kernel
theorem dX10_withChains_7 : decode cX10_withChains 7 = .ok (.aload_n 0, 1) := by decide +kernel
theorem dX10_withChains_8 : decode cX10_withChains 8 = .ok (.getfield 10, 3) := by decide +kernel
theorem dX10_withChains_11 : decode cX10_withChains 11 = .ok (.getfield 153, 3) := by decide +kernel
theorem dX10_withChains_14 : decode cX10_withChains 14 = .ok (.invokevirtual 115, 3) := by decide +kernel
theorem dX10_withChains_17 : decode cX10_withChains 17 = .ok (.if_icmp .ge 40, 3) := by decide +kernel
theorem dX10_withChains_20 : decode cX10_withChains 20 = .ok (.lload_n 3, 1) := by decide +kernel
theorem dX10_withChains_21 : decode cX10_withChains 21 = .ok (.aload_n 0, 1) := by decide +kernel
theorem dX10_withChains_22 : decode cX10_withChains 22 = .ok (.getfield 10, 3) := by decide +kernel
theorem dX10_withChains_25 : decode cX10_withChains 25 = .ok (.getfield 153, 3) := by decide +kernel
theorem dX10_withChains_28 : decode cX10_withChains 28 = .ok (.iload 5, 2) := by decide +kernel
theorem dX10_withChains_30 : decode cX10_withChains 30 = .ok (.iconst 3, 1) := by decide +kernel
theorem dX10_withChains_31 : decode cX10_withChains 31 = .ok (.iconst 2, 1) := by decide +kernel
theorem dX10_withChains_32 : decode cX10_withChains 32 = .ok (.aload_n 0, 1) := by decide +kernel
theorem dX10_withChains_33 : decode cX10_withChains 33 = .ok (.getfield 10, 3) := by decide +kernel
theorem dX10_withChains_36 : decode cX10_withChains 36 = .ok (.getfield 153, 3) := by decide +kernel
theorem dX10_withChains_39 : decode cX10_withChains 39 = .ok (.iload 5, 2) := by decide +kernel
theorem dX10_withChains_41 : decode cX10_withChains 41 = .ok (.iconst 2, 1) := by decide +kernel
theorem dX10_withChains_42 : decode cX10_withChains 42 = .ok (.invokevirtual 132, 3) := by decide +kernel
theorem dX10_withChains_45 : decode cX10_withChains 45 = .ok (.imul, 1) := by decide +kernel
theorem dX10_withChains_46 : decode cX10_withChains 46 = .ok (.iadd, 1) := by decide +kernel
theorem dX10_withChains_47 : decode cX10_withChains 47 = .ok (.invokestatic 279, 3) := by decide +kernel
theorem dX10_withChains_50 : decode cX10_withChains 50 = .ok (.lstore_n 3, 1) := by decide +kernel
theorem dX10_withChains_51 : decode cX10_withChains 51 = .ok (.iinc 5 1, 3) := by decide +kernel
theorem dX10_withChains_54 : decode cX10_withChains 54 = .ok (.goto (-49), 3) := by decide +kernel
theorem dX10_withChains_57 : decode cX10_withChains 57 = .ok (.lload_n 3, 1) := by decide +kernel
theorem dX10_withChains_58 : decode cX10_withChains 58 = .ok (.lreturn, 1) := by decide +kernel
theorem dX10_withTable_0 : decode cX10_withTable 0 = .ok (.lload_n 0, 1) := by decide +kernel
theorem dX10_withTable_1 : decode cX10_withTable 1 = .ok (.lstore 4, 2) := by decide +kernel
theorem dX10_withTable_3 : decode cX10_withTable 3 = .ok (.iconst 0, 1) := by decide +kernel
theorem dX10_withTable_4 : decode cX10_withTable 4 = .ok (.istore 6, 2) := by decide +kernel
theorem dX10_withTable_6 : decode cX10_withTable 6 = .ok (.iload 6, 2) := by decide +kernel
theorem dX10_withTable_8 : decode cX10_withTable 8 = .ok (.aload_n 2, 1) := by decide +kernel
theorem dX10_withTable_9 : decode cX10_withTable 9 = .ok (.invokevirtual 115, 3) := by decide +kernel
theorem dX10_withTable_12 : decode cX10_withTable 12 = .ok (.if_icmp .ge 20, 3) := by decide +kernel
theorem dX10_withTable_15 : decode cX10_withTable 15 = .ok (.lload 4, 2) := by decide +kernel
theorem dX10_withTable_17 : decode cX10_withTable 17 = .ok (.aload_n 2, 1) := by decide +kernel
theorem dX10_withTable_18 : decode cX10_withTable 18 = .ok (.iload 6, 2) := by decide +kernel
theorem dX10_withTable_20 : decode cX10_withTable 20 = .ok (.iload_n 3, 1) := by decide +kernel
theorem dX10_withTable_21 : decode cX10_withTable 21 = .ok (.invokestatic 279, 3) := by decide +kernel
theorem dX10_withTable_24 : decode cX10_withTable 24 = .ok (.lstore 4, 2) := by decide +kernel
theorem dX10_withTable_26 : decode cX10_withTable 26 = .ok (.iinc 6 1, 3) := by decide +kernel
theorem dX10_withTable_29 : decode cX10_withTable 29 = .ok (.goto (-23), 3) := by decide +kernel
theorem dX10_withTable_32 : decode cX10_withTable 32 = .ok (.lload 4, 2) := by decide +kernel
theorem dX10_withTable_34 : decode cX10_withTable 34 = .ok (.lreturn, 1) := by decide +kernel
theorem dX10_withRow_0 : decode cX10_withRow 0 = .ok (.lload_n 0, 1) := by decide +kernel
theorem dX10_withRow_1 : decode cX10_withRow 1 = .ok (.lstore 5, 2) := by decide +kernel
theorem dX10_withRow_3 : decode cX10_withRow 3 = .ok (.iconst 0, 1) := by decide +kernel
theorem dX10_withRow_4 : decode cX10_withRow 4 = .ok (.istore 7, 2) := by decide +kernel
theorem dX10_withRow_6 : decode cX10_withRow 6 = .ok (.iload 7, 2) := by decide +kernel
theorem dX10_withRow_8 : decode cX10_withRow 8 = .ok (.iload 4, 2) := by decide +kernel
theorem dX10_withRow_10 : decode cX10_withRow 10 = .ok (.if_icmp .ge 26, 3) := by decide +kernel
theorem dX10_withRow_13 : decode cX10_withRow 13 = .ok (.ldc2_w 263, 3) := by decide +kernel
theorem dX10_withRow_16 : decode cX10_withRow 16 = .ok (.lload 5, 2) := by decide +kernel
theorem dX10_withRow_18 : decode cX10_withRow 18 = .ok (.lmul, 1) := by decide +kernel
theorem dX10_withRow_19 : decode cX10_withRow 19 = .ok (.aload_n 2, 1) := by decide +kernel
theorem dX10_withRow_20 : decode cX10_withRow 20 = .ok (.iload_n 3, 1) := by decide +kernel
theorem dX10_withRow_21 : decode cX10_withRow 21 = .ok (.iload 7, 2) := by decide +kernel
theorem dX10_withRow_23 : decode cX10_withRow 23 = .ok (.invokevirtual 132, 3) := by decide +kernel
theorem dX10_withRow_26 : decode cX10_withRow 26 = .ok (.i2l, 1) := by decide +kernel
theorem dX10_withRow_27 : decode cX10_withRow 27 = .ok (.ladd, 1) := by decide +kernel
theorem dX10_withRow_28 : decode cX10_withRow 28 = .ok (.lstore 5, 2) := by decide +kernel
theorem dX10_withRow_30 : decode cX10_withRow 30 = .ok (.iinc 7 1, 3) := by decide +kernel
theorem dX10_withRow_33 : decode cX10_withRow 33 = .ok (.goto (-27), 3) := by decide +kernel
theorem dX10_withRow_36 : decode cX10_withRow 36 = .ok (.lload 5, 2) := by decide +kernel
theorem dX10_withRow_38 : decode cX10_withRow 38 = .ok (.lreturn, 1) := by decide +kernel
theorem dX10_within_0 : decode cX10_within 0 = .ok (.iload_n 1, 1) := by decide +kernel
theorem dX10_within_1 : decode cX10_within 1 = .ok (.iload_n 0, 1) := by decide +kernel
theorem dX10_within_2 : decode cX10_within 2 = .ok (.if_icmp .gt 12, 3) := by decide +kernel
theorem dX10_within_5 : decode cX10_within 5 = .ok (.iload_n 0, 1) := by decide +kernel
theorem dX10_within_6 : decode cX10_within 6 = .ok (.iload_n 2, 1) := by decide +kernel
theorem dX10_within_7 : decode cX10_within 7 = .ok (.if_icmp .gt 7, 3) := by decide +kernel
theorem dX10_within_10 : decode cX10_within 10 = .ok (.iconst 1, 1) := by decide +kernel
theorem dX10_within_11 : decode cX10_within 11 = .ok (.goto 4, 3) := by decide +kernel
theorem dX10_within_14 : decode cX10_within 14 = .ok (.iconst 0, 1) := by decide +kernel
theorem dX10_within_15 : decode cX10_within 15 = .ok (.ireturn, 1) := by decide +kernel
theorem dX11_in_0 : decode cX11_in 0 = .ok (.lload_n 0, 1) := by decide +kernel
theorem dX11_in_1 : decode cX11_in 1 = .ok (.lload_n 2, 1) := by decide +kernel
theorem dX11_in_2 : decode cX11_in 2 = .ok (.lcmp, 1) := by decide +kernel
theorem dX11_in_3 : decode cX11_in 3 = .ok (.ifCond .lt 14, 3) := by decide +kernel
theorem dX11_in_6 : decode cX11_in 6 = .ok (.lload_n 0, 1) := by decide +kernel
theorem dX11_in_7 : decode cX11_in 7 = .ok (.lload 4, 2) := by decide +kernel
theorem dX11_in_9 : decode cX11_in 9 = .ok (.lcmp, 1) := by decide +kernel
theorem dX11_in_10 : decode cX11_in 10 = .ok (.ifCond .gt 7, 3) := by decide +kernel
theorem dX11_in_13 : decode cX11_in 13 = .ok (.iconst 1, 1) := by decide +kernel
theorem dX11_in_14 : decode cX11_in 14 = .ok (.goto 4, 3) := by decide +kernel
theorem dX11_in_17 : decode cX11_in 17 = .ok (.iconst 0, 1) := by decide +kernel
theorem dX11_in_18 : decode cX11_in 18 = .ok (.ireturn, 1) := by decide +kernel
theorem dX11_init_0 : decode cX11_init 0 = .ok (.aload_n 0, 1) := by decide +kernel
theorem dX11_init_1 : decode cX11_init 1 = .ok (.invokespecial 1, 3) := by decide +kernel
theorem dX11_init_4 : decode cX11_init 4 = .ok (.aload_n 0, 1) := by decide +kernel
theorem dX11_init_5 : decode cX11_init 5 = .ok (.sipush 887, 3) := by decide +kernel
theorem dX11_init_8 : decode cX11_init 8 = .ok (.newarray .int, 2) := by decide +kernel
theorem dX11_init_10 : decode cX11_init 10 = .ok (.putfield 7, 3) := by decide +kernel
theorem dX11_init_13 : decode cX11_init 13 = .ok (.aload_n 0, 1) := by decide +kernel
theorem dX11_init_14 : decode cX11_init 14 = .ok (.sipush 1774, 3) := by decide +kernel
theorem dX11_init_17 : decode cX11_init 17 = .ok (.newarray .int, 2) := by decide +kernel
theorem dX11_init_19 : decode cX11_init 19 = .ok (.putfield 13, 3) := by decide +kernel
theorem dX11_init_22 : decode cX11_init 22 = .ok (.aload_n 0, 1) := by decide +kernel
theorem dX11_init_23 : decode cX11_init 23 = .ok (.iconst 2, 1) := by decide +kernel
theorem dX11_init_24 : decode cX11_init 24 = .ok (.newarray .boolean, 2) := by decide +kernel
theorem dX11_init_26 : decode cX11_init 26 = .ok (.putfield 16, 3) := by decide +kernel
theorem dX11_init_29 : decode cX11_init 29 = .ok (.aload_n 0, 1) := by decide +kernel
theorem dX11_init_30 : decode cX11_init 30 = .ok (.bipush 70, 2) := by decide +kernel
theorem dX11_init_32 : decode cX11_init 32 = .ok (.newarray .int, 2) := by decide +kernel
theorem dX11_init_34 : decode cX11_init 34 = .ok (.putfield 20, 3) := by decide +kernel
theorem dX11_init_37 : decode cX11_init 37 = .ok (.aload_n 0, 1) := by decide +kernel
theorem dX11_init_38 : decode cX11_init 38 = .ok (.bipush 70, 2) := by decide +kernel
theorem dX11_init_40 : decode cX11_init 40 = .ok (.newarray .int, 2) := by decide +kernel
theorem dX11_init_42 : decode cX11_init 42 = .ok (.putfield 23, 3) := by decide +kernel
theorem dX11_init_45 : decode cX11_init 45 = .ok (.aload_n 0, 1) := by decide +kernel
theorem dX11_init_46 : decode cX11_init 46 = .ok (.bipush 70, 2) := by decide +kernel
theorem dX11_init_48 : decode cX11_init 48 = .ok (.newarray .int, 2) := by decide +kernel
theorem dX11_init_50 : decode cX11_init 50 = .ok (.putfield 26, 3) := by decide +kernel
theorem dX11_init_53 : decode cX11_init 53 = .ok (.aload_n 0, 1) := by decide +kernel
theorem dX11_init_54 : decode cX11_init 54 = .ok (.bipush 70, 2) := by decide +kernel
theorem dX11_init_56 : decode cX11_init 56 = .ok (.newarray .long, 2) := by decide +kernel
theorem dX11_init_58 : decode cX11_init 58 = .ok (.putfield 29, 3) := by decide +kernel
theorem dX11_init_61 : decode cX11_init 61 = .ok (.aload_n 0, 1) := by decide +kernel
theorem dX11_init_62 : decode cX11_init 62 = .ok (.sipush 18006, 3) := by decide +kernel
theorem dX11_init_65 : decode cX11_init 65 = .ok (.newarray .int, 2) := by decide +kernel
theorem dX11_init_67 : decode cX11_init 67 = .ok (.putfield 33, 3) := by decide +kernel
theorem dX11_init_70 : decode cX11_init 70 = .ok (.aload_n 0, 1) := by decide +kernel
theorem dX11_init_71 : decode cX11_init 71 = .ok (.bipush 6, 2) := by decide +kernel
theorem dX11_init_73 : decode cX11_init 73 = .ok (.newarray .int, 2) := by decide +kernel
theorem dX11_init_75 : decode cX11_init 75 = .ok (.putfield 36, 3) := by decide +kernel
theorem dX11_init_78 : decode cX11_init 78 = .ok (.aload_n 0, 1) := by decide +kernel
theorem dX11_init_79 : decode cX11_init 79 = .ok (.bipush 6, 2) := by decide +kernel
theorem dX11_init_81 : decode cX11_init 81 = .ok (.newarray .int, 2) := by decide +kernel
theorem dX11_init_83 : decode cX11_init 83 = .ok (.putfield 39, 3) := by decide +kernel
theorem dX11_init_86 : decode cX11_init 86 = .ok (.aload_n 0, 1) := by decide +kernel
theorem dX11_init_87 : decode cX11_init 87 = .ok (.sipush 400, 3) := by decide +kernel
theorem dX11_init_90 : decode cX11_init 90 = .ok (.newarray .int, 2) := by decide +kernel
theorem dX11_init_92 : decode cX11_init 92 = .ok (.putfield 42, 3) := by decide +kernel
theorem dX11_init_95 : decode cX11_init 95 = .ok (.aload_n 0, 1) := by decide +kernel
theorem dX11_init_96 : decode cX11_init 96 = .ok (.iconst 5, 1) := by decide +kernel
theorem dX11_init_97 : decode cX11_init 97 = .ok (.newarray .int, 2) := by decide +kernel
theorem dX11_init_99 : decode cX11_init 99 = .ok (.putfield 45, 3) := by decide +kernel
theorem dX11_init_102 : decode cX11_init 102 = .ok (.aload_n 0, 1) := by decide +kernel
theorem dX11_init_103 : decode cX11_init 103 = .ok (.ldc 48, 2) := by decide +kernel
theorem dX11_init_105 : decode cX11_init 105 = .ok (.newarray .int, 2) := by decide +kernel
theorem dX11_init_107 : decode cX11_init 107 = .ok (.putfield 49, 3) := by decide +kernel
theorem dX11_init_110 : decode cX11_init 110 = .ok (.iconst 0, 1) := by decide +kernel
theorem dX11_init_111 : decode cX11_init 111 = .ok (.istore_n 1, 1) := by decide +kernel
theorem dX11_init_112 : decode cX11_init 112 = .ok (.iload_n 1, 1) := by decide +kernel
theorem dX11_init_113 : decode cX11_init 113 = .ok (.iconst 4, 1) := by decide +kernel
theorem dX11_init_114 : decode cX11_init 114 = .ok (.if_icmp .ge 53, 3) := by decide +kernel
theorem dX11_init_117 : decode cX11_init 117 = .ok (.aload_n 0, 1) := by decide +kernel
theorem dX11_init_118 : decode cX11_init 118 = .ok (.getfield 7, 3) := by decide +kernel
theorem dX11_init_121 : decode cX11_init 121 = .ok (.sipush 140, 3) := by decide +kernel
theorem dX11_init_124 : decode cX11_init 124 = .ok (.iconst 3, 1) := by decide +kernel
theorem dX11_init_125 : decode cX11_init 125 = .ok (.iload_n 1, 1) := by decide +kernel
theorem dX11_init_126 : decode cX11_init 126 = .ok (.imul, 1) := by decide +kernel
theorem dX11_init_127 : decode cX11_init 127 = .ok (.iadd, 1) := by decide +kernel
theorem dX11_init_128 : decode cX11_init 128 = .ok (.iconst 1, 1) := by decide +kernel
theorem dX11_init_129 : decode cX11_init 129 = .ok (.iastore, 1) := by decide +kernel
theorem dX11_init_130 : decode cX11_init 130 = .ok (.aload_n 0, 1) := by decide +kernel
theorem dX11_init_131 : decode cX11_init 131 = .ok (.getfield 7, 3) := by decide +kernel
theorem dX11_init_134 : decode cX11_init 134 = .ok (.sipush 140, 3) := by decide +kernel
theorem dX11_init_137 : decode cX11_init 137 = .ok (.iconst 3, 1) := by decide +kernel
theorem dX11_init_138 : decode cX11_init 138 = .ok (.iload_n 1, 1) := by decide +kernel
theorem dX11_init_139 : decode cX11_init 139 = .ok (.imul, 1) := by decide +kernel
theorem dX11_init_140 : decode cX11_init 140 = .ok (.iadd, 1) := by decide +kernel
theorem dX11_init_141 : decode cX11_init 141 = .ok (.iconst 1, 1) := by decide +kernel
theorem dX11_init_142 : decode cX11_init 142 = .ok (.iadd, 1) := by decide +kernel
theorem dX11_init_143 : decode cX11_init 143 = .ok (.iconst 1, 1) := by decide +kernel
theorem dX11_init_144 : decode cX11_init 144 = .ok (.iastore, 1) := by decide +kernel
theorem dX11_init_145 : decode cX11_init 145 = .ok (.aload_n 0, 1) := by decide +kernel
theorem dX11_init_146 : decode cX11_init 146 = .ok (.getfield 7, 3) := by decide +kernel
theorem dX11_init_149 : decode cX11_init 149 = .ok (.sipush 140, 3) := by decide +kernel
theorem dX11_init_152 : decode cX11_init 152 = .ok (.iconst 3, 1) := by decide +kernel
theorem dX11_init_153 : decode cX11_init 153 = .ok (.iload_n 1, 1) := by decide +kernel
theorem dX11_init_154 : decode cX11_init 154 = .ok (.imul, 1) := by decide +kernel
theorem dX11_init_155 : decode cX11_init 155 = .ok (.iadd, 1) := by decide +kernel
theorem dX11_init_156 : decode cX11_init 156 = .ok (.iconst 2, 1) := by decide +kernel
theorem dX11_init_157 : decode cX11_init 157 = .ok (.iadd, 1) := by decide +kernel
theorem dX11_init_158 : decode cX11_init 158 = .ok (.ldc 52, 2) := by decide +kernel
theorem dX11_init_160 : decode cX11_init 160 = .ok (.iastore, 1) := by decide +kernel
theorem dX11_init_161 : decode cX11_init 161 = .ok (.iinc 1 1, 3) := by decide +kernel
theorem dX11_init_164 : decode cX11_init 164 = .ok (.goto (-52), 3) := by decide +kernel
theorem dX11_init_167 : decode cX11_init 167 = .ok (.aload_n 0, 1) := by decide +kernel
theorem dX11_init_168 : decode cX11_init 168 = .ok (.getfield 42, 3) := by decide +kernel
theorem dX11_init_171 : decode cX11_init 171 = .ok (.bipush 80, 2) := by decide +kernel
theorem dX11_init_173 : decode cX11_init 173 = .ok (.iconst 1, 1) := by decide +kernel
theorem dX11_init_174 : decode cX11_init 174 = .ok (.iastore, 1) := by decide +kernel
theorem dX11_init_175 : decode cX11_init 175 = .ok (.aload_n 0, 1) := by decide +kernel
theorem dX11_init_176 : decode cX11_init 176 = .ok (.getfield 45, 3) := by decide +kernel
theorem dX11_init_179 : decode cX11_init 179 = .ok (.iconst 1, 1) := by decide +kernel
theorem dX11_init_180 : decode cX11_init 180 = .ok (.iconst 1, 1) := by decide +kernel
theorem dX11_init_181 : decode cX11_init 181 = .ok (.iastore, 1) := by decide +kernel
theorem dX11_init_182 : decode cX11_init 182 = .ok (.return_, 1) := by decide +kernel
theorem dX11_is_0 : decode cX11_is 0 = .ok (.iload_n 2, 1) := by decide +kernel
theorem dX11_is_1 : decode cX11_is 1 = .ok (.i2l, 1) := by decide +kernel
theorem dX11_is_2 : decode cX11_is 2 = .ok (.lconst 0, 1) := by decide +kernel
theorem dX11_is_3 : decode cX11_is 3 = .ok (.aload_n 0, 1) := by decide +kernel
theorem dX11_is_4 : decode cX11_is 4 = .ok (.getfield 7, 3) := by decide +kernel
theorem dX11_is_7 : decode cX11_is 7 = .ok (.iload_n 1, 1) := by decide +kernel
theorem dX11_is_8 : decode cX11_is 8 = .ok (.iaload, 1) := by decide +kernel
theorem dX11_is_9 : decode cX11_is 9 = .ok (.iconst 1, 1) := by decide +kernel
theorem dX11_is_10 : decode cX11_is 10 = .ok (.isub, 1) := by decide +kernel
theorem dX11_is_11 : decode cX11_is 11 = .ok (.i2l, 1) := by decide +kernel
theorem dX11_is_12 : decode cX11_is 12 = .ok (.invokestatic 53, 3) := by decide +kernel
theorem dX11_is_15 : decode cX11_is 15 = .ok (.ireturn, 1) := by decide +kernel
theorem dX11_one_0 : decode cX11_one 0 = .ok (.aload_n 0, 1) := by decide +kernel
theorem dX11_one_1 : decode cX11_one 1 = .ok (.getfield 7, 3) := by decide +kernel
theorem dX11_one_4 : decode cX11_one 4 = .ok (.iload_n 1, 1) := by decide +kernel
theorem dX11_one_5 : decode cX11_one 5 = .ok (.dup2, 1) := by decide +kernel
theorem dX11_one_6 : decode cX11_one 6 = .ok (.iaload, 1) := by decide +kernel
theorem dX11_one_7 : decode cX11_one 7 = .ok (.iconst 1, 1) := by decide +kernel
theorem dX11_one_8 : decode cX11_one 8 = .ok (.iadd, 1) := by decide +kernel
theorem dX11_one_9 : decode cX11_one 9 = .ok (.iastore, 1) := by decide +kernel
theorem dX11_one_10 : decode cX11_one 10 = .ok (.aload_n 0, 1) := by decide +kernel
theorem dX11_one_11 : decode cX11_one 11 = .ok (.getfield 7, 3) := by decide +kernel
theorem dX11_one_14 : decode cX11_one 14 = .ok (.iload_n 1, 1) := by decide +kernel
theorem dX11_one_15 : decode cX11_one 15 = .ok (.iaload, 1) := by decide +kernel
theorem dX11_one_16 : decode cX11_one 16 = .ok (.iconst 1, 1) := by decide +kernel
theorem dX11_one_17 : decode cX11_one 17 = .ok (.isub, 1) := by decide +kernel
theorem dX11_one_18 : decode cX11_one 18 = .ok (.ireturn, 1) := by decide +kernel
theorem dX11_puts_0 : decode cX11_puts 0 = .ok (.aload_n 0, 1) := by decide +kernel
theorem dX11_puts_1 : decode cX11_puts 1 = .ok (.getfield 7, 3) := by decide +kernel
theorem dX11_puts_4 : decode cX11_puts 4 = .ok (.iload_n 1, 1) := by decide +kernel
theorem dX11_puts_5 : decode cX11_puts 5 = .ok (.iaload, 1) := by decide +kernel
theorem dX11_puts_6 : decode cX11_puts 6 = .ok (.istore_n 3, 1) := by decide +kernel
theorem dX11_puts_7 : decode cX11_puts 7 = .ok (.aload_n 0, 1) := by decide +kernel
theorem dX11_puts_8 : decode cX11_puts 8 = .ok (.getfield 7, 3) := by decide +kernel
theorem dX11_puts_11 : decode cX11_puts 11 = .ok (.iload_n 1, 1) := by decide +kernel
theorem dX11_puts_12 : decode cX11_puts 12 = .ok (.iload_n 2, 1) := by decide +kernel
theorem dX11_puts_13 : decode cX11_puts 13 = .ok (.iastore, 1) := by decide +kernel
theorem dX11_puts_14 : decode cX11_puts 14 = .ok (.iload_n 3, 1) := by decide +kernel
theorem dX11_puts_15 : decode cX11_puts 15 = .ok (.ireturn, 1) := by decide +kernel
theorem dX11_isYear_0 : decode cX11_isYear 0 = .ok (.iload_n 0, 1) := by decide +kernel
theorem dX11_isYear_1 : decode cX11_isYear 1 = .ok (.i2l, 1) := by decide +kernel
theorem dX11_isYear_2 : decode cX11_isYear 2 = .ok (.lconst 0, 1) := by decide +kernel
theorem dX11_isYear_3 : decode cX11_isYear 3 = .ok (.ldc2_w 57, 3) := by decide +kernel
theorem dX11_isYear_6 : decode cX11_isYear 6 = .ok (.invokestatic 53, 3) := by decide +kernel
theorem dX11_isYear_9 : decode cX11_isYear 9 = .ok (.ireturn, 1) := by decide +kernel
theorem dX11_partOf_0 : decode cX11_partOf 0 = .ok (.aload_n 0, 1) := by decide +kernel
theorem dX11_partOf_1 : decode cX11_partOf 1 = .ok (.getfield 7, 3) := by decide +kernel
theorem dX11_partOf_4 : decode cX11_partOf 4 = .ok (.bipush 20, 2) := by decide +kernel
theorem dX11_partOf_6 : decode cX11_partOf 6 = .ok (.iconst 5, 1) := by decide +kernel
theorem dX11_partOf_7 : decode cX11_partOf 7 = .ok (.iload_n 1, 1) := by decide +kernel
theorem dX11_partOf_8 : decode cX11_partOf 8 = .ok (.imul, 1) := by decide +kernel
theorem dX11_partOf_9 : decode cX11_partOf 9 = .ok (.iadd, 1) := by decide +kernel
theorem dX11_partOf_10 : decode cX11_partOf 10 = .ok (.iload_n 2, 1) := by decide +kernel
theorem dX11_partOf_11 : decode cX11_partOf 11 = .ok (.iadd, 1) := by decide +kernel
theorem dX11_partOf_12 : decode cX11_partOf 12 = .ok (.iaload, 1) := by decide +kernel
theorem dX11_partOf_13 : decode cX11_partOf 13 = .ok (.ireturn, 1) := by decide +kernel
theorem dX11_part_0 : decode cX11_part 0 = .ok (.iload_n 1, 1) := by decide +kernel
theorem dX11_part_1 : decode cX11_part 1 = .ok (.i2l, 1) := by decide +kernel
theorem dX11_part_2 : decode cX11_part 2 = .ok (.lconst 0, 1) := by decide +kernel
theorem dX11_part_3 : decode cX11_part 3 = .ok (.ldc2_w 59, 3) := by decide +kernel
theorem dX11_part_6 : decode cX11_part 6 = .ok (.invokestatic 53, 3) := by decide +kernel
theorem dX11_part_9 : decode cX11_part 9 = .ok (.ifCond .eq 37, 3) := by decide +kernel
theorem dX11_part_12 : decode cX11_part 12 = .ok (.iload_n 2, 1) := by decide +kernel
theorem dX11_part_13 : decode cX11_part 13 = .ok (.i2l, 1) := by decide +kernel
theorem dX11_part_14 : decode cX11_part 14 = .ok (.lconst 1, 1) := by decide +kernel
theorem dX11_part_15 : decode cX11_part 15 = .ok (.ldc2_w 59, 3) := by decide +kernel
theorem dX11_part_18 : decode cX11_part 18 = .ok (.invokestatic 53, 3) := by decide +kernel
theorem dX11_part_21 : decode cX11_part 21 = .ok (.ifCond .eq 25, 3) := by decide +kernel
theorem dX11_part_24 : decode cX11_part 24 = .ok (.iload_n 3, 1) := by decide +kernel
theorem dX11_part_25 : decode cX11_part 25 = .ok (.invokestatic 61, 3) := by decide +kernel
theorem dX11_part_28 : decode cX11_part 28 = .ok (.ifCond .eq 18, 3) := by decide +kernel
theorem dX11_part_31 : decode cX11_part 31 = .ok (.iload 4, 2) := by decide +kernel
theorem dX11_part_33 : decode cX11_part 33 = .ok (.i2l, 1) := by decide +kernel
theorem dX11_part_34 : decode cX11_part 34 = .ok (.ldc2_w 65, 3) := by decide +kernel
theorem dX11_part_37 : decode cX11_part 37 = .ok (.ldc2_w 67, 3) := by decide +kernel
theorem dX11_part_40 : decode cX11_part 40 = .ok (.invokestatic 53, 3) := by decide +kernel
theorem dX11_part_43 : decode cX11_part 43 = .ok (.ifCond .ne 6, 3) := by decide +kernel
theorem dX11_part_46 : decode cX11_part 46 = .ok (.bipush (-2), 2) := by decide +kernel
theorem dX11_part_48 : decode cX11_part 48 = .ok (.ireturn, 1) := by decide +kernel
theorem dX11_part_49 : decode cX11_part 49 = .ok (.aload_n 0, 1) := by decide +kernel
theorem dX11_part_50 : decode cX11_part 50 = .ok (.getfield 7, 3) := by decide +kernel
theorem dX11_part_53 : decode cX11_part 53 = .ok (.iconst 0, 1) := by decide +kernel
theorem dX11_part_54 : decode cX11_part 54 = .ok (.iaload, 1) := by decide +kernel
theorem dX11_part_55 : decode cX11_part 55 = .ok (.bipush 24, 2) := by decide +kernel
theorem dX11_part_57 : decode cX11_part 57 = .ok (.if_icmp .ne 6, 3) := by decide +kernel
theorem dX11_part_60 : decode cX11_part 60 = .ok (.bipush (-4), 2) := by decide +kernel
theorem dX11_part_62 : decode cX11_part 62 = .ok (.ireturn, 1) := by decide +kernel
theorem dX11_part_63 : decode cX11_part 63 = .ok (.bipush 20, 2) := by decide +kernel
theorem dX11_part_65 : decode cX11_part 65 = .ok (.iconst 5, 1) := by decide +kernel
theorem dX11_part_66 : decode cX11_part 66 = .ok (.aload_n 0, 1) := by decide +kernel
theorem dX11_part_67 : decode cX11_part 67 = .ok (.getfield 7, 3) := by decide +kernel
theorem dX11_part_70 : decode cX11_part 70 = .ok (.iconst 0, 1) := by decide +kernel
theorem dX11_part_71 : decode cX11_part 71 = .ok (.iaload, 1) := by decide +kernel
theorem dX11_part_72 : decode cX11_part 72 = .ok (.imul, 1) := by decide +kernel
theorem dX11_part_73 : decode cX11_part 73 = .ok (.iadd, 1) := by decide +kernel
theorem dX11_part_74 : decode cX11_part 74 = .ok (.istore 5, 2) := by decide +kernel
theorem dX11_part_76 : decode cX11_part 76 = .ok (.aload_n 0, 1) := by decide +kernel
theorem dX11_part_77 : decode cX11_part 77 = .ok (.getfield 7, 3) := by decide +kernel
theorem dX11_part_80 : decode cX11_part 80 = .ok (.iload 5, 2) := by decide +kernel
theorem dX11_part_82 : decode cX11_part 82 = .ok (.iload_n 1, 1) := by decide +kernel
theorem dX11_part_83 : decode cX11_part 83 = .ok (.iastore, 1) := by decide +kernel
theorem dX11_part_84 : decode cX11_part 84 = .ok (.aload_n 0, 1) := by decide +kernel
theorem dX11_part_85 : decode cX11_part 85 = .ok (.getfield 7, 3) := by decide +kernel
theorem dX11_part_88 : decode cX11_part 88 = .ok (.iload 5, 2) := by decide +kernel
theorem dX11_part_90 : decode cX11_part 90 = .ok (.iconst 1, 1) := by decide +kernel
theorem dX11_part_91 : decode cX11_part 91 = .ok (.iadd, 1) := by decide +kernel
theorem dX11_part_92 : decode cX11_part 92 = .ok (.iload_n 2, 1) := by decide +kernel
theorem dX11_part_93 : decode cX11_part 93 = .ok (.iastore, 1) := by decide +kernel
theorem dX11_part_94 : decode cX11_part 94 = .ok (.aload_n 0, 1) := by decide +kernel
theorem dX11_part_95 : decode cX11_part 95 = .ok (.getfield 7, 3) := by decide +kernel
theorem dX11_part_98 : decode cX11_part 98 = .ok (.iload 5, 2) := by decide +kernel
theorem dX11_part_100 : decode cX11_part 100 = .ok (.iconst 2, 1) := by decide +kernel
theorem dX11_part_101 : decode cX11_part 101 = .ok (.iadd, 1) := by decide +kernel
theorem dX11_part_102 : decode cX11_part 102 = .ok (.iload_n 3, 1) := by decide +kernel
theorem dX11_part_103 : decode cX11_part 103 = .ok (.iastore, 1) := by decide +kernel
theorem dX11_part_104 : decode cX11_part 104 = .ok (.aload_n 0, 1) := by decide +kernel
theorem dX11_part_105 : decode cX11_part 105 = .ok (.getfield 7, 3) := by decide +kernel
theorem dX11_part_108 : decode cX11_part 108 = .ok (.iload 5, 2) := by decide +kernel
theorem dX11_part_110 : decode cX11_part 110 = .ok (.iconst 3, 1) := by decide +kernel
theorem dX11_part_111 : decode cX11_part 111 = .ok (.iadd, 1) := by decide +kernel
theorem dX11_part_112 : decode cX11_part 112 = .ok (.iload 4, 2) := by decide +kernel
theorem dX11_part_114 : decode cX11_part 114 = .ok (.iastore, 1) := by decide +kernel
theorem dX11_part_115 : decode cX11_part 115 = .ok (.aload_n 0, 1) := by decide +kernel
theorem dX11_part_116 : decode cX11_part 116 = .ok (.getfield 7, 3) := by decide +kernel
theorem dX11_part_119 : decode cX11_part 119 = .ok (.iload 5, 2) := by decide +kernel
theorem dX11_part_121 : decode cX11_part 121 = .ok (.iconst 4, 1) := by decide +kernel
theorem dX11_part_122 : decode cX11_part 122 = .ok (.iadd, 1) := by decide +kernel
theorem dX11_part_123 : decode cX11_part 123 = .ok (.iconst 0, 1) := by decide +kernel
theorem dX11_part_124 : decode cX11_part 124 = .ok (.iastore, 1) := by decide +kernel
theorem dX11_part_125 : decode cX11_part 125 = .ok (.aload_n 0, 1) := by decide +kernel
theorem dX11_part_126 : decode cX11_part 126 = .ok (.iconst 0, 1) := by decide +kernel
theorem dX11_part_127 : decode cX11_part 127 = .ok (.invokevirtual 69, 3) := by decide +kernel
theorem dX11_part_130 : decode cX11_part 130 = .ok (.ireturn, 1) := by decide +kernel
theorem dX11_isSize_0 : decode cX11_isSize 0 = .ok (.iload_n 0, 1) := by decide +kernel
theorem dX11_isSize_1 : decode cX11_isSize 1 = .ok (.i2l, 1) := by decide +kernel
theorem dX11_isSize_2 : decode cX11_isSize 2 = .ok (.lconst 1, 1) := by decide +kernel
theorem dX11_isSize_3 : decode cX11_isSize 3 = .ok (.ldc2_w 73, 3) := by decide +kernel
theorem dX11_isSize_6 : decode cX11_isSize 6 = .ok (.invokestatic 53, 3) := by decide +kernel
theorem dX11_isSize_9 : decode cX11_isSize 9 = .ok (.ireturn, 1) := by decide +kernel
theorem dX11_family_0 : decode cX11_family 0 = .ok (.iload_n 1, 1) := by decide +kernel
theorem dX11_family_1 : decode cX11_family 1 = .ok (.i2l, 1) := by decide +kernel
theorem dX11_family_2 : decode cX11_family 2 = .ok (.lconst 0, 1) := by decide +kernel
theorem dX11_family_3 : decode cX11_family 3 = .ok (.ldc2_w 67, 3) := by decide +kernel
theorem dX11_family_6 : decode cX11_family 6 = .ok (.invokestatic 53, 3) := by decide +kernel
theorem dX11_family_9 : decode cX11_family 9 = .ok (.ifCond .eq 43, 3) := by decide +kernel
theorem dX11_family_12 : decode cX11_family 12 = .ok (.iload_n 2, 1) := by decide +kernel
theorem dX11_family_13 : decode cX11_family 13 = .ok (.invokestatic 75, 3) := by decide +kernel
theorem dX11_family_16 : decode cX11_family 16 = .ok (.ifCond .eq 36, 3) := by decide +kernel
theorem dX11_family_19 : decode cX11_family 19 = .ok (.iload_n 3, 1) := by decide +kernel
theorem dX11_family_20 : decode cX11_family 20 = .ok (.invokestatic 75, 3) := by decide +kernel
theorem dX11_family_23 : decode cX11_family 23 = .ok (.ifCond .eq 29, 3) := by decide +kernel
theorem dX11_family_26 : decode cX11_family 26 = .ok (.iload 4, 2) := by decide +kernel
theorem dX11_family_28 : decode cX11_family 28 = .ok (.invokestatic 75, 3) := by decide +kernel
theorem dX11_family_31 : decode cX11_family 31 = .ok (.ifCond .eq 21, 3) := by decide +kernel
theorem dX11_family_34 : decode cX11_family 34 = .ok (.iload_n 2, 1) := by decide +kernel
theorem dX11_family_35 : decode cX11_family 35 = .ok (.i2l, 1) := by decide +kernel
theorem dX11_family_36 : decode cX11_family 36 = .ok (.iload 4, 2) := by decide +kernel
theorem dX11_family_38 : decode cX11_family 38 = .ok (.i2l, 1) := by decide +kernel
theorem dX11_family_39 : decode cX11_family 39 = .ok (.lconst 1, 1) := by decide +kernel
theorem dX11_family_40 : decode cX11_family 40 = .ok (.lsub, 1) := by decide +kernel
theorem dX11_family_41 : decode cX11_family 41 = .ok (.iload_n 3, 1) := by decide +kernel
theorem dX11_family_42 : decode cX11_family 42 = .ok (.i2l, 1) := by decide +kernel
theorem dX11_family_43 : decode cX11_family 43 = .ok (.lmul, 1) := by decide +kernel
theorem dX11_family_44 : decode cX11_family 44 = .ok (.ladd, 1) := by decide +kernel
theorem dX11_family_45 : decode cX11_family 45 = .ok (.ldc2_w 73, 3) := by decide +kernel
theorem dX11_family_48 : decode cX11_family 48 = .ok (.lcmp, 1) := by decide +kernel
theorem dX11_family_49 : decode cX11_family 49 = .ok (.ifCond .le 6, 3) := by decide +kernel
theorem dX11_family_52 : decode cX11_family 52 = .ok (.bipush (-2), 2) := by decide +kernel
theorem dX11_family_54 : decode cX11_family 54 = .ok (.ireturn, 1) := by decide +kernel
theorem dX11_family_55 : decode cX11_family 55 = .ok (.aload_n 0, 1) := by decide +kernel
theorem dX11_family_56 : decode cX11_family 56 = .ok (.getfield 7, 3) := by decide +kernel
theorem dX11_family_59 : decode cX11_family 59 = .ok (.sipush 140, 3) := by decide +kernel
theorem dX11_family_62 : decode cX11_family 62 = .ok (.iconst 3, 1) := by decide +kernel
theorem dX11_family_63 : decode cX11_family 63 = .ok (.iload_n 1, 1) := by decide +kernel
theorem dX11_family_64 : decode cX11_family 64 = .ok (.imul, 1) := by decide +kernel
theorem dX11_family_65 : decode cX11_family 65 = .ok (.iadd, 1) := by decide +kernel
theorem dX11_family_66 : decode cX11_family 66 = .ok (.iload_n 2, 1) := by decide +kernel
theorem dX11_family_67 : decode cX11_family 67 = .ok (.iastore, 1) := by decide +kernel
theorem dX11_family_68 : decode cX11_family 68 = .ok (.aload_n 0, 1) := by decide +kernel
theorem dX11_family_69 : decode cX11_family 69 = .ok (.getfield 7, 3) := by decide +kernel
theorem dX11_family_72 : decode cX11_family 72 = .ok (.sipush 140, 3) := by decide +kernel
theorem dX11_family_75 : decode cX11_family 75 = .ok (.iconst 3, 1) := by decide +kernel
theorem dX11_family_76 : decode cX11_family 76 = .ok (.iload_n 1, 1) := by decide +kernel
theorem dX11_family_77 : decode cX11_family 77 = .ok (.imul, 1) := by decide +kernel
theorem dX11_family_78 : decode cX11_family 78 = .ok (.iadd, 1) := by decide +kernel
theorem dX11_family_79 : decode cX11_family 79 = .ok (.iconst 1, 1) := by decide +kernel
theorem dX11_family_80 : decode cX11_family 80 = .ok (.iadd, 1) := by decide +kernel
theorem dX11_family_81 : decode cX11_family 81 = .ok (.iload_n 3, 1) := by decide +kernel
theorem dX11_family_82 : decode cX11_family 82 = .ok (.iastore, 1) := by decide +kernel
theorem dX11_family_83 : decode cX11_family 83 = .ok (.aload_n 0, 1) := by decide +kernel
theorem dX11_family_84 : decode cX11_family 84 = .ok (.getfield 7, 3) := by decide +kernel
theorem dX11_family_87 : decode cX11_family 87 = .ok (.sipush 140, 3) := by decide +kernel
theorem dX11_family_90 : decode cX11_family 90 = .ok (.iconst 3, 1) := by decide +kernel
theorem dX11_family_91 : decode cX11_family 91 = .ok (.iload_n 1, 1) := by decide +kernel
theorem dX11_family_92 : decode cX11_family 92 = .ok (.imul, 1) := by decide +kernel
theorem dX11_family_93 : decode cX11_family 93 = .ok (.iadd, 1) := by decide +kernel
theorem dX11_family_94 : decode cX11_family 94 = .ok (.iconst 2, 1) := by decide +kernel
theorem dX11_family_95 : decode cX11_family 95 = .ok (.iadd, 1) := by decide +kernel
theorem dX11_family_96 : decode cX11_family 96 = .ok (.iload 4, 2) := by decide +kernel
theorem dX11_family_98 : decode cX11_family 98 = .ok (.iastore, 1) := by decide +kernel
theorem dX11_family_99 : decode cX11_family 99 = .ok (.iconst 1, 1) := by decide +kernel
theorem dX11_family_100 : decode cX11_family 100 = .ok (.ireturn, 1) := by decide +kernel
theorem dX11_emits_0 : decode cX11_emits 0 = .ok (.aload_n 0, 1) := by decide +kernel
theorem dX11_emits_1 : decode cX11_emits 1 = .ok (.getfield 20, 3) := by decide +kernel
theorem dX11_emits_4 : decode cX11_emits 4 = .ok (.aload_n 0, 1) := by decide +kernel
theorem dX11_emits_5 : decode cX11_emits 5 = .ok (.getfield 78, 3) := by decide +kernel
theorem dX11_emits_8 : decode cX11_emits 8 = .ok (.iload_n 1, 1) := by decide +kernel
theorem dX11_emits_9 : decode cX11_emits 9 = .ok (.iastore, 1) := by decide +kernel
theorem dX11_emits_10 : decode cX11_emits 10 = .ok (.aload_n 0, 1) := by decide +kernel
theorem dX11_emits_11 : decode cX11_emits 11 = .ok (.getfield 23, 3) := by decide +kernel
theorem dX11_emits_14 : decode cX11_emits 14 = .ok (.aload_n 0, 1) := by decide +kernel
theorem dX11_emits_15 : decode cX11_emits 15 = .ok (.getfield 78, 3) := by decide +kernel
theorem dX11_emits_18 : decode cX11_emits 18 = .ok (.iload_n 2, 1) := by decide +kernel
theorem dX11_emits_19 : decode cX11_emits 19 = .ok (.iastore, 1) := by decide +kernel
theorem dX11_emits_20 : decode cX11_emits 20 = .ok (.aload_n 0, 1) := by decide +kernel
theorem dX11_emits_21 : decode cX11_emits 21 = .ok (.dup, 1) := by decide +kernel
theorem dX11_emits_22 : decode cX11_emits 22 = .ok (.getfield 78, 3) := by decide +kernel
theorem dX11_emits_25 : decode cX11_emits 25 = .ok (.iconst 1, 1) := by decide +kernel
theorem dX11_emits_26 : decode cX11_emits 26 = .ok (.iadd, 1) := by decide +kernel
theorem dX11_emits_27 : decode cX11_emits 27 = .ok (.putfield 78, 3) := by decide +kernel
theorem dX11_emits_30 : decode cX11_emits 30 = .ok (.return_, 1) := by decide +kernel
theorem dX11_holds_0 : decode cX11_holds 0 = .ok (.iload_n 0, 1) := by decide +kernel
theorem dX11_holds_1 : decode cX11_holds 1 = .ok (.tableswitch 83 2 12 #[59, 62, 65, 67, 69, 71, 73, 75, 77, 79, 81], 59) := by decide +kernel
theorem dX11_holds_60 : decode cX11_holds 60 = .ok (.bipush 6, 2) := by decide +kernel
theorem dX11_holds_62 : decode cX11_holds 62 = .ok (.ireturn, 1) := by decide +kernel
theorem dX11_holds_63 : decode cX11_holds 63 = .ok (.bipush 6, 2) := by decide +kernel
theorem dX11_holds_65 : decode cX11_holds 65 = .ok (.ireturn, 1) := by decide +kernel
theorem dX11_holds_66 : decode cX11_holds 66 = .ok (.iconst 5, 1) := by decide +kernel
theorem dX11_holds_67 : decode cX11_holds 67 = .ok (.ireturn, 1) := by decide +kernel
theorem dX11_holds_68 : decode cX11_holds 68 = .ok (.iconst 5, 1) := by decide +kernel
theorem dX11_holds_69 : decode cX11_holds 69 = .ok (.ireturn, 1) := by decide +kernel
theorem dX11_holds_70 : decode cX11_holds 70 = .ok (.iconst 4, 1) := by decide +kernel
theorem dX11_holds_71 : decode cX11_holds 71 = .ok (.ireturn, 1) := by decide +kernel
theorem dX11_holds_72 : decode cX11_holds 72 = .ok (.iconst 4, 1) := by decide +kernel
theorem dX11_holds_73 : decode cX11_holds 73 = .ok (.ireturn, 1) := by decide +kernel
theorem dX11_holds_74 : decode cX11_holds 74 = .ok (.iconst 3, 1) := by decide +kernel
theorem dX11_holds_75 : decode cX11_holds 75 = .ok (.ireturn, 1) := by decide +kernel
theorem dX11_holds_76 : decode cX11_holds 76 = .ok (.iconst 3, 1) := by decide +kernel
theorem dX11_holds_77 : decode cX11_holds 77 = .ok (.ireturn, 1) := by decide +kernel
theorem dX11_holds_78 : decode cX11_holds 78 = .ok (.iconst 3, 1) := by decide +kernel
theorem dX11_holds_79 : decode cX11_holds 79 = .ok (.ireturn, 1) := by decide +kernel
theorem dX11_holds_80 : decode cX11_holds 80 = .ok (.iconst 2, 1) := by decide +kernel
theorem dX11_holds_81 : decode cX11_holds 81 = .ok (.ireturn, 1) := by decide +kernel
theorem dX11_holds_82 : decode cX11_holds 82 = .ok (.iconst 1, 1) := by decide +kernel
theorem dX11_holds_83 : decode cX11_holds 83 = .ok (.ireturn, 1) := by decide +kernel
theorem dX11_holds_84 : decode cX11_holds 84 = .ok (.iconst 0, 1) := by decide +kernel
theorem dX11_holds_85 : decode cX11_holds 85 = .ok (.ireturn, 1) := by decide +kernel
theorem dX11_settles_0 : decode cX11_settles 0 = .ok (.aload_n 0, 1) := by decide +kernel
theorem dX11_settles_1 : decode cX11_settles 1 = .ok (.getfield 82, 3) := by decide +kernel
theorem dX11_settles_4 : decode cX11_settles 4 = .ok (.ifCond .le 48, 3) := by decide +kernel
theorem dX11_settles_7 : decode cX11_settles 7 = .ok (.aload_n 0, 1) := by decide +kernel
theorem dX11_settles_8 : decode cX11_settles 8 = .ok (.getfield 26, 3) := by decide +kernel
theorem dX11_settles_11 : decode cX11_settles 11 = .ok (.aload_n 0, 1) := by decide +kernel
theorem dX11_settles_12 : decode cX11_settles 12 = .ok (.getfield 82, 3) := by decide +kernel
theorem dX11_settles_15 : decode cX11_settles 15 = .ok (.iconst 1, 1) := by decide +kernel
theorem dX11_settles_16 : decode cX11_settles 16 = .ok (.isub, 1) := by decide +kernel
theorem dX11_settles_17 : decode cX11_settles 17 = .ok (.iaload, 1) := by decide +kernel
theorem dX11_settles_18 : decode cX11_settles 18 = .ok (.invokestatic 85, 3) := by decide +kernel
theorem dX11_settles_21 : decode cX11_settles 21 = .ok (.iload_n 1, 1) := by decide +kernel
theorem dX11_settles_22 : decode cX11_settles 22 = .ok (.if_icmp .lt 30, 3) := by decide +kernel
theorem dX11_settles_25 : decode cX11_settles 25 = .ok (.aload_n 0, 1) := by decide +kernel
theorem dX11_settles_26 : decode cX11_settles 26 = .ok (.dup, 1) := by decide +kernel
theorem dX11_settles_27 : decode cX11_settles 27 = .ok (.getfield 82, 3) := by decide +kernel
theorem dX11_settles_30 : decode cX11_settles 30 = .ok (.iconst 1, 1) := by decide +kernel
theorem dX11_settles_31 : decode cX11_settles 31 = .ok (.isub, 1) := by decide +kernel
theorem dX11_settles_32 : decode cX11_settles 32 = .ok (.putfield 82, 3) := by decide +kernel
theorem dX11_settles_35 : decode cX11_settles 35 = .ok (.aload_n 0, 1) := by decide +kernel
theorem dX11_settles_36 : decode cX11_settles 36 = .ok (.aload_n 0, 1) := by decide +kernel
theorem dX11_settles_37 : decode cX11_settles 37 = .ok (.getfield 26, 3) := by decide +kernel
theorem dX11_settles_40 : decode cX11_settles 40 = .ok (.aload_n 0, 1) := by decide +kernel
theorem dX11_settles_41 : decode cX11_settles 41 = .ok (.getfield 82, 3) := by decide +kernel
theorem dX11_settles_44 : decode cX11_settles 44 = .ok (.iaload, 1) := by decide +kernel
theorem dX11_settles_45 : decode cX11_settles 45 = .ok (.iconst 0, 1) := by decide +kernel
theorem dX11_settles_46 : decode cX11_settles 46 = .ok (.invokevirtual 88, 3) := by decide +kernel
theorem dX11_settles_49 : decode cX11_settles 49 = .ok (.goto (-49), 3) := by decide +kernel
theorem dX11_settles_52 : decode cX11_settles 52 = .ok (.return_, 1) := by decide +kernel
theorem dX11_waitsWith_0 : decode cX11_waitsWith 0 = .ok (.aload_n 0, 1) := by decide +kernel
theorem dX11_waitsWith_1 : decode cX11_waitsWith 1 = .ok (.getfield 26, 3) := by decide +kernel
theorem dX11_waitsWith_4 : decode cX11_waitsWith 4 = .ok (.aload_n 0, 1) := by decide +kernel
theorem dX11_waitsWith_5 : decode cX11_waitsWith 5 = .ok (.getfield 82, 3) := by decide +kernel
theorem dX11_waitsWith_8 : decode cX11_waitsWith 8 = .ok (.iload_n 1, 1) := by decide +kernel
theorem dX11_waitsWith_9 : decode cX11_waitsWith 9 = .ok (.iastore, 1) := by decide +kernel
theorem dX11_waitsWith_10 : decode cX11_waitsWith 10 = .ok (.aload_n 0, 1) := by decide +kernel
theorem dX11_waitsWith_11 : decode cX11_waitsWith 11 = .ok (.dup, 1) := by decide +kernel
theorem dX11_waitsWith_12 : decode cX11_waitsWith 12 = .ok (.getfield 82, 3) := by decide +kernel
theorem dX11_waitsWith_15 : decode cX11_waitsWith 15 = .ok (.iconst 1, 1) := by decide +kernel
theorem dX11_waitsWith_16 : decode cX11_waitsWith 16 = .ok (.iadd, 1) := by decide +kernel
theorem dX11_waitsWith_17 : decode cX11_waitsWith 17 = .ok (.putfield 82, 3) := by decide +kernel
theorem dX11_waitsWith_20 : decode cX11_waitsWith 20 = .ok (.return_, 1) := by decide +kernel
theorem dX11_nameOf_0 : decode cX11_nameOf 0 = .ok (.iload_n 0, 1) := by decide +kernel
theorem dX11_nameOf_1 : decode cX11_nameOf 1 = .ok (.lookupswitch 41 #[(104, 39), (108, 37), (121, 35)], 35) := by decide +kernel
theorem dX11_nameOf_36 : decode cX11_nameOf 36 = .ok (.iconst 0, 1) := by decide +kernel
theorem dX11_nameOf_37 : decode cX11_nameOf 37 = .ok (.ireturn, 1) := by decide +kernel
theorem dX11_nameOf_38 : decode cX11_nameOf 38 = .ok (.iconst 1, 1) := by decide +kernel
theorem dX11_nameOf_39 : decode cX11_nameOf 39 = .ok (.ireturn, 1) := by decide +kernel
theorem dX11_nameOf_40 : decode cX11_nameOf 40 = .ok (.iconst 2, 1) := by decide +kernel
theorem dX11_nameOf_41 : decode cX11_nameOf 41 = .ok (.ireturn, 1) := by decide +kernel
theorem dX11_nameOf_42 : decode cX11_nameOf 42 = .ok (.iconst (-1), 1) := by decide +kernel
theorem dX11_nameOf_43 : decode cX11_nameOf 43 = .ok (.ireturn, 1) := by decide +kernel
theorem dX11_signOf_0 : decode cX11_signOf 0 = .ok (.iload_n 0, 1) := by decide +kernel
theorem dX11_signOf_1 : decode cX11_signOf 1 = .ok (.lookupswitch 108 #[(38, 102), (42, 83), (43, 87), (45, 90), (47, 85), (60, 93), (61, 99), (62, 96), (124, 105)], 83) := by decide +kernel
theorem dX11_signOf_84 : decode cX11_signOf 84 = .ok (.iconst 4, 1) := by decide +kernel
theorem dX11_signOf_85 : decode cX11_signOf 85 = .ok (.ireturn, 1) := by decide +kernel
theorem dX11_signOf_86 : decode cX11_signOf 86 = .ok (.iconst 5, 1) := by decide +kernel
theorem dX11_signOf_87 : decode cX11_signOf 87 = .ok (.ireturn, 1) := by decide +kernel
theorem dX11_signOf_88 : decode cX11_signOf 88 = .ok (.bipush 6, 2) := by decide +kernel
theorem dX11_signOf_90 : decode cX11_signOf 90 = .ok (.ireturn, 1) := by decide +kernel
theorem dX11_signOf_91 : decode cX11_signOf 91 = .ok (.bipush 7, 2) := by decide +kernel
theorem dX11_signOf_93 : decode cX11_signOf 93 = .ok (.ireturn, 1) := by decide +kernel
theorem dX11_signOf_94 : decode cX11_signOf 94 = .ok (.bipush 8, 2) := by decide +kernel
theorem dX11_signOf_96 : decode cX11_signOf 96 = .ok (.ireturn, 1) := by decide +kernel
theorem dX11_signOf_97 : decode cX11_signOf 97 = .ok (.bipush 9, 2) := by decide +kernel
theorem dX11_signOf_99 : decode cX11_signOf 99 = .ok (.ireturn, 1) := by decide +kernel
theorem dX11_signOf_100 : decode cX11_signOf 100 = .ok (.bipush 10, 2) := by decide +kernel
theorem dX11_signOf_102 : decode cX11_signOf 102 = .ok (.ireturn, 1) := by decide +kernel
theorem dX11_signOf_103 : decode cX11_signOf 103 = .ok (.bipush 11, 2) := by decide +kernel
theorem dX11_signOf_105 : decode cX11_signOf 105 = .ok (.ireturn, 1) := by decide +kernel
theorem dX11_signOf_106 : decode cX11_signOf 106 = .ok (.bipush 12, 2) := by decide +kernel
theorem dX11_signOf_108 : decode cX11_signOf 108 = .ok (.ireturn, 1) := by decide +kernel
theorem dX11_signOf_109 : decode cX11_signOf 109 = .ok (.iconst (-1), 1) := by decide +kernel
theorem dX11_signOf_110 : decode cX11_signOf 110 = .ok (.ireturn, 1) := by decide +kernel
theorem dX11_goesOn_0 : decode cX11_goesOn 0 = .ok (.iload_n 1, 1) := by decide +kernel
theorem dX11_goesOn_1 : decode cX11_goesOn 1 = .ok (.invokestatic 85, 3) := by decide +kernel
theorem dX11_goesOn_4 : decode cX11_goesOn 4 = .ok (.istore_n 2, 1) := by decide +kernel
theorem dX11_goesOn_5 : decode cX11_goesOn 5 = .ok (.iload_n 2, 1) := by decide +kernel
theorem dX11_goesOn_6 : decode cX11_goesOn 6 = .ok (.iconst 3, 1) := by decide +kernel
theorem dX11_goesOn_7 : decode cX11_goesOn 7 = .ok (.if_icmp .ne 35, 3) := by decide +kernel
theorem dX11_goesOn_10 : decode cX11_goesOn 10 = .ok (.aload_n 0, 1) := by decide +kernel
theorem dX11_goesOn_11 : decode cX11_goesOn 11 = .ok (.iconst 4, 1) := by decide +kernel
theorem dX11_goesOn_12 : decode cX11_goesOn 12 = .ok (.invokevirtual 92, 3) := by decide +kernel
theorem dX11_goesOn_15 : decode cX11_goesOn 15 = .ok (.aload_n 0, 1) := by decide +kernel
theorem dX11_goesOn_16 : decode cX11_goesOn 16 = .ok (.getfield 82, 3) := by decide +kernel
theorem dX11_goesOn_19 : decode cX11_goesOn 19 = .ok (.ifCond .le 23, 3) := by decide +kernel
theorem dX11_goesOn_22 : decode cX11_goesOn 22 = .ok (.aload_n 0, 1) := by decide +kernel
theorem dX11_goesOn_23 : decode cX11_goesOn 23 = .ok (.getfield 26, 3) := by decide +kernel
theorem dX11_goesOn_26 : decode cX11_goesOn 26 = .ok (.aload_n 0, 1) := by decide +kernel
theorem dX11_goesOn_27 : decode cX11_goesOn 27 = .ok (.getfield 82, 3) := by decide +kernel
theorem dX11_goesOn_30 : decode cX11_goesOn 30 = .ok (.iconst 1, 1) := by decide +kernel
theorem dX11_goesOn_31 : decode cX11_goesOn 31 = .ok (.isub, 1) := by decide +kernel
theorem dX11_goesOn_32 : decode cX11_goesOn 32 = .ok (.iaload, 1) := by decide +kernel
theorem dX11_goesOn_33 : decode cX11_goesOn 33 = .ok (.invokestatic 85, 3) := by decide +kernel
theorem dX11_goesOn_36 : decode cX11_goesOn 36 = .ok (.iconst 3, 1) := by decide +kernel
theorem dX11_goesOn_37 : decode cX11_goesOn 37 = .ok (.if_icmp .ne 5, 3) := by decide +kernel
theorem dX11_goesOn_40 : decode cX11_goesOn 40 = .ok (.iconst 0, 1) := by decide +kernel
theorem dX11_goesOn_41 : decode cX11_goesOn 41 = .ok (.ireturn, 1) := by decide +kernel
theorem dX11_goesOn_42 : decode cX11_goesOn 42 = .ok (.aload_n 0, 1) := by decide +kernel
theorem dX11_goesOn_43 : decode cX11_goesOn 43 = .ok (.iload_n 2, 1) := by decide +kernel
theorem dX11_goesOn_44 : decode cX11_goesOn 44 = .ok (.invokevirtual 92, 3) := by decide +kernel
theorem dX11_goesOn_47 : decode cX11_goesOn 47 = .ok (.aload_n 0, 1) := by decide +kernel
theorem dX11_goesOn_48 : decode cX11_goesOn 48 = .ok (.iload_n 1, 1) := by decide +kernel
theorem dX11_goesOn_49 : decode cX11_goesOn 49 = .ok (.invokevirtual 96, 3) := by decide +kernel
theorem dX11_goesOn_52 : decode cX11_goesOn 52 = .ok (.iconst 1, 1) := by decide +kernel
theorem dX11_goesOn_53 : decode cX11_goesOn 53 = .ok (.ireturn, 1) := by decide +kernel
theorem dX11_reads_0 : decode cX11_reads 0 = .ok (.aload_n 0, 1) := by decide +kernel
theorem dX11_reads_1 : decode cX11_reads 1 = .ok (.getfield 7, 3) := by decide +kernel
theorem dX11_reads_4 : decode cX11_reads 4 = .ok (.bipush 8, 2) := by decide +kernel
theorem dX11_reads_6 : decode cX11_reads 6 = .ok (.iaload, 1) := by decide +kernel
theorem dX11_reads_7 : decode cX11_reads 7 = .ok (.istore_n 1, 1) := by decide +kernel
theorem dX11_reads_8 : decode cX11_reads 8 = .ok (.aload_n 0, 1) := by decide +kernel
theorem dX11_reads_9 : decode cX11_reads 9 = .ok (.iconst 0, 1) := by decide +kernel
theorem dX11_reads_10 : decode cX11_reads 10 = .ok (.putfield 78, 3) := by decide +kernel
theorem dX11_reads_13 : decode cX11_reads 13 = .ok (.aload_n 0, 1) := by decide +kernel
theorem dX11_reads_14 : decode cX11_reads 14 = .ok (.iconst 0, 1) := by decide +kernel
theorem dX11_reads_15 : decode cX11_reads 15 = .ok (.putfield 82, 3) := by decide +kernel
theorem dX11_reads_18 : decode cX11_reads 18 = .ok (.iconst 0, 1) := by decide +kernel
theorem dX11_reads_19 : decode cX11_reads 19 = .ok (.istore_n 2, 1) := by decide +kernel
theorem dX11_reads_20 : decode cX11_reads 20 = .ok (.iconst 0, 1) := by decide +kernel
theorem dX11_reads_21 : decode cX11_reads 21 = .ok (.istore_n 3, 1) := by decide +kernel
theorem dX11_reads_22 : decode cX11_reads 22 = .ok (.iconst 0, 1) := by decide +kernel
theorem dX11_reads_23 : decode cX11_reads 23 = .ok (.istore 4, 2) := by decide +kernel
theorem dX11_reads_25 : decode cX11_reads 25 = .ok (.iload 4, 2) := by decide +kernel
theorem dX11_reads_27 : decode cX11_reads 27 = .ok (.iload_n 1, 1) := by decide +kernel
theorem dX11_reads_28 : decode cX11_reads 28 = .ok (.if_icmp .ge 343, 3) := by decide +kernel
theorem dX11_reads_31 : decode cX11_reads 31 = .ok (.aload_n 0, 1) := by decide +kernel
theorem dX11_reads_32 : decode cX11_reads 32 = .ok (.getfield 7, 3) := by decide +kernel
theorem dX11_reads_35 : decode cX11_reads 35 = .ok (.sipush 827, 3) := by decide +kernel
theorem dX11_reads_38 : decode cX11_reads 38 = .ok (.iload 4, 2) := by decide +kernel
theorem dX11_reads_40 : decode cX11_reads 40 = .ok (.iadd, 1) := by decide +kernel
theorem dX11_reads_41 : decode cX11_reads 41 = .ok (.iaload, 1) := by decide +kernel
theorem dX11_reads_42 : decode cX11_reads 42 = .ok (.istore 5, 2) := by decide +kernel
theorem dX11_reads_44 : decode cX11_reads 44 = .ok (.iload 5, 2) := by decide +kernel
theorem dX11_reads_46 : decode cX11_reads 46 = .ok (.bipush 32, 2) := by decide +kernel
theorem dX11_reads_48 : decode cX11_reads 48 = .ok (.if_icmp .ne 9, 3) := by decide +kernel
theorem dX11_reads_51 : decode cX11_reads 51 = .ok (.iinc 4 1, 3) := by decide +kernel
theorem dX11_reads_54 : decode cX11_reads 54 = .ok (.goto 314, 3) := by decide +kernel
theorem dX11_reads_57 : decode cX11_reads 57 = .ok (.iload_n 3, 1) := by decide +kernel
theorem dX11_reads_58 : decode cX11_reads 58 = .ok (.ifCond .eq 81, 3) := by decide +kernel
theorem dX11_reads_61 : decode cX11_reads 61 = .ok (.iload 5, 2) := by decide +kernel
theorem dX11_reads_63 : decode cX11_reads 63 = .ok (.bipush 41, 2) := by decide +kernel
theorem dX11_reads_65 : decode cX11_reads 65 = .ok (.if_icmp .ne 34, 3) := by decide +kernel
theorem dX11_reads_68 : decode cX11_reads 68 = .ok (.iload_n 2, 1) := by decide +kernel
theorem dX11_reads_69 : decode cX11_reads 69 = .ok (.ifCond .le 30, 3) := by decide +kernel
theorem dX11_reads_72 : decode cX11_reads 72 = .ok (.aload_n 0, 1) := by decide +kernel
theorem dX11_reads_73 : decode cX11_reads 73 = .ok (.iconst 1, 1) := by decide +kernel
theorem dX11_reads_74 : decode cX11_reads 74 = .ok (.invokevirtual 92, 3) := by decide +kernel
theorem dX11_reads_77 : decode cX11_reads 77 = .ok (.aload_n 0, 1) := by decide +kernel
theorem dX11_reads_78 : decode cX11_reads 78 = .ok (.dup, 1) := by decide +kernel
theorem dX11_reads_79 : decode cX11_reads 79 = .ok (.getfield 82, 3) := by decide +kernel
theorem dX11_reads_82 : decode cX11_reads 82 = .ok (.iconst 1, 1) := by decide +kernel
theorem dX11_reads_83 : decode cX11_reads 83 = .ok (.isub, 1) := by decide +kernel
theorem dX11_reads_84 : decode cX11_reads 84 = .ok (.putfield 82, 3) := by decide +kernel
theorem dX11_reads_87 : decode cX11_reads 87 = .ok (.iinc 2 (-1), 3) := by decide +kernel
theorem dX11_reads_90 : decode cX11_reads 90 = .ok (.aload_n 0, 1) := by decide +kernel
theorem dX11_reads_91 : decode cX11_reads 91 = .ok (.bipush 6, 2) := by decide +kernel
theorem dX11_reads_93 : decode cX11_reads 93 = .ok (.invokevirtual 92, 3) := by decide +kernel
theorem dX11_reads_96 : decode cX11_reads 96 = .ok (.goto 37, 3) := by decide +kernel
theorem dX11_reads_99 : decode cX11_reads 99 = .ok (.iload 5, 2) := by decide +kernel
theorem dX11_reads_101 : decode cX11_reads 101 = .ok (.invokestatic 99, 3) := by decide +kernel
theorem dX11_reads_104 : decode cX11_reads 104 = .ok (.iconst (-1), 1) := by decide +kernel
theorem dX11_reads_105 : decode cX11_reads 105 = .ok (.if_icmp .eq 20, 3) := by decide +kernel
theorem dX11_reads_108 : decode cX11_reads 108 = .ok (.aload_n 0, 1) := by decide +kernel
theorem dX11_reads_109 : decode cX11_reads 109 = .ok (.iload 5, 2) := by decide +kernel
theorem dX11_reads_111 : decode cX11_reads 111 = .ok (.invokestatic 99, 3) := by decide +kernel
theorem dX11_reads_114 : decode cX11_reads 114 = .ok (.invokevirtual 102, 3) := by decide +kernel
theorem dX11_reads_117 : decode cX11_reads 117 = .ok (.ifCond .eq 8, 3) := by decide +kernel
theorem dX11_reads_120 : decode cX11_reads 120 = .ok (.iconst 0, 1) := by decide +kernel
theorem dX11_reads_121 : decode cX11_reads 121 = .ok (.istore_n 3, 1) := by decide +kernel
theorem dX11_reads_122 : decode cX11_reads 122 = .ok (.goto 11, 3) := by decide +kernel
theorem dX11_reads_125 : decode cX11_reads 125 = .ok (.bipush 10, 2) := by decide +kernel
theorem dX11_reads_127 : decode cX11_reads 127 = .ok (.iload 4, 2) := by decide +kernel
theorem dX11_reads_129 : decode cX11_reads 129 = .ok (.imul, 1) := by decide +kernel
theorem dX11_reads_130 : decode cX11_reads 130 = .ok (.iconst 1, 1) := by decide +kernel
theorem dX11_reads_131 : decode cX11_reads 131 = .ok (.iadd, 1) := by decide +kernel
theorem dX11_reads_132 : decode cX11_reads 132 = .ok (.ireturn, 1) := by decide +kernel
theorem dX11_reads_133 : decode cX11_reads 133 = .ok (.iinc 4 1, 3) := by decide +kernel
theorem dX11_reads_136 : decode cX11_reads 136 = .ok (.goto 232, 3) := by decide +kernel
theorem dX11_reads_139 : decode cX11_reads 139 = .ok (.iload 5, 2) := by decide +kernel
theorem dX11_reads_141 : decode cX11_reads 141 = .ok (.i2l, 1) := by decide +kernel
theorem dX11_reads_142 : decode cX11_reads 142 = .ok (.ldc2_w 105, 3) := by decide +kernel
theorem dX11_reads_145 : decode cX11_reads 145 = .ok (.ldc2_w 107, 3) := by decide +kernel
theorem dX11_reads_148 : decode cX11_reads 148 = .ok (.invokestatic 53, 3) := by decide +kernel
theorem dX11_reads_151 : decode cX11_reads 151 = .ok (.ifCond .eq 104, 3) := by decide +kernel
theorem dX11_reads_154 : decode cX11_reads 154 = .ok (.iload 4, 2) := by decide +kernel
theorem dX11_reads_156 : decode cX11_reads 156 = .ok (.istore 6, 2) := by decide +kernel
theorem dX11_reads_158 : decode cX11_reads 158 = .ok (.iconst 0, 1) := by decide +kernel
theorem dX11_reads_159 : decode cX11_reads 159 = .ok (.istore 7, 2) := by decide +kernel
theorem dX11_reads_161 : decode cX11_reads 161 = .ok (.iload 4, 2) := by decide +kernel
theorem dX11_reads_163 : decode cX11_reads 163 = .ok (.iload_n 1, 1) := by decide +kernel
theorem dX11_reads_164 : decode cX11_reads 164 = .ok (.if_icmp .ge 73, 3) := by decide +kernel
theorem dX11_reads_167 : decode cX11_reads 167 = .ok (.aload_n 0, 1) := by decide +kernel
theorem dX11_reads_168 : decode cX11_reads 168 = .ok (.getfield 7, 3) := by decide +kernel
theorem dX11_reads_171 : decode cX11_reads 171 = .ok (.sipush 827, 3) := by decide +kernel
theorem dX11_reads_174 : decode cX11_reads 174 = .ok (.iload 4, 2) := by decide +kernel
theorem dX11_reads_176 : decode cX11_reads 176 = .ok (.iadd, 1) := by decide +kernel
theorem dX11_reads_177 : decode cX11_reads 177 = .ok (.iaload, 1) := by decide +kernel
theorem dX11_reads_178 : decode cX11_reads 178 = .ok (.i2l, 1) := by decide +kernel
theorem dX11_reads_179 : decode cX11_reads 179 = .ok (.ldc2_w 105, 3) := by decide +kernel
theorem dX11_reads_182 : decode cX11_reads 182 = .ok (.ldc2_w 107, 3) := by decide +kernel
theorem dX11_reads_185 : decode cX11_reads 185 = .ok (.invokestatic 53, 3) := by decide +kernel
theorem dX11_reads_188 : decode cX11_reads 188 = .ok (.ifCond .eq 49, 3) := by decide +kernel
theorem dX11_reads_191 : decode cX11_reads 191 = .ok (.iload 4, 2) := by decide +kernel
theorem dX11_reads_193 : decode cX11_reads 193 = .ok (.iload 6, 2) := by decide +kernel
theorem dX11_reads_195 : decode cX11_reads 195 = .ok (.isub, 1) := by decide +kernel
theorem dX11_reads_196 : decode cX11_reads 196 = .ok (.bipush 6, 2) := by decide +kernel
theorem dX11_reads_198 : decode cX11_reads 198 = .ok (.if_icmp .ne 11, 3) := by decide +kernel
theorem dX11_reads_201 : decode cX11_reads 201 = .ok (.bipush 10, 2) := by decide +kernel
theorem dX11_reads_203 : decode cX11_reads 203 = .ok (.iload 6, 2) := by decide +kernel
theorem dX11_reads_205 : decode cX11_reads 205 = .ok (.imul, 1) := by decide +kernel
theorem dX11_reads_206 : decode cX11_reads 206 = .ok (.iconst 2, 1) := by decide +kernel
theorem dX11_reads_207 : decode cX11_reads 207 = .ok (.iadd, 1) := by decide +kernel
theorem dX11_reads_208 : decode cX11_reads 208 = .ok (.ireturn, 1) := by decide +kernel
theorem dX11_reads_209 : decode cX11_reads 209 = .ok (.bipush 10, 2) := by decide +kernel
theorem dX11_reads_211 : decode cX11_reads 211 = .ok (.iload 7, 2) := by decide +kernel
theorem dX11_reads_213 : decode cX11_reads 213 = .ok (.imul, 1) := by decide +kernel
theorem dX11_reads_214 : decode cX11_reads 214 = .ok (.aload_n 0, 1) := by decide +kernel
theorem dX11_reads_215 : decode cX11_reads 215 = .ok (.getfield 7, 3) := by decide +kernel
theorem dX11_reads_218 : decode cX11_reads 218 = .ok (.sipush 827, 3) := by decide +kernel
theorem dX11_reads_221 : decode cX11_reads 221 = .ok (.iload 4, 2) := by decide +kernel
theorem dX11_reads_223 : decode cX11_reads 223 = .ok (.iadd, 1) := by decide +kernel
theorem dX11_reads_224 : decode cX11_reads 224 = .ok (.iaload, 1) := by decide +kernel
theorem dX11_reads_225 : decode cX11_reads 225 = .ok (.iadd, 1) := by decide +kernel
theorem dX11_reads_226 : decode cX11_reads 226 = .ok (.bipush 48, 2) := by decide +kernel
theorem dX11_reads_228 : decode cX11_reads 228 = .ok (.isub, 1) := by decide +kernel
theorem dX11_reads_229 : decode cX11_reads 229 = .ok (.istore 7, 2) := by decide +kernel
theorem dX11_reads_231 : decode cX11_reads 231 = .ok (.iinc 4 1, 3) := by decide +kernel
theorem dX11_reads_234 : decode cX11_reads 234 = .ok (.goto (-73), 3) := by decide +kernel
theorem dX11_reads_237 : decode cX11_reads 237 = .ok (.aload_n 0, 1) := by decide +kernel
theorem dX11_reads_238 : decode cX11_reads 238 = .ok (.iconst 0, 1) := by decide +kernel
theorem dX11_reads_239 : decode cX11_reads 239 = .ok (.iload 7, 2) := by decide +kernel
theorem dX11_reads_241 : decode cX11_reads 241 = .ok (.invokevirtual 88, 3) := by decide +kernel
theorem dX11_reads_244 : decode cX11_reads 244 = .ok (.aload_n 0, 1) := by decide +kernel
theorem dX11_reads_245 : decode cX11_reads 245 = .ok (.bipush 6, 2) := by decide +kernel
theorem dX11_reads_247 : decode cX11_reads 247 = .ok (.invokevirtual 92, 3) := by decide +kernel
theorem dX11_reads_250 : decode cX11_reads 250 = .ok (.iconst 1, 1) := by decide +kernel
theorem dX11_reads_251 : decode cX11_reads 251 = .ok (.istore_n 3, 1) := by decide +kernel
theorem dX11_reads_252 : decode cX11_reads 252 = .ok (.goto 116, 3) := by decide +kernel
theorem dX11_reads_255 : decode cX11_reads 255 = .ok (.iload 5, 2) := by decide +kernel
theorem dX11_reads_257 : decode cX11_reads 257 = .ok (.invokestatic 109, 3) := by decide +kernel
theorem dX11_reads_260 : decode cX11_reads 260 = .ok (.iconst (-1), 1) := by decide +kernel
theorem dX11_reads_261 : decode cX11_reads 261 = .ok (.if_icmp .eq 27, 3) := by decide +kernel
theorem dX11_reads_264 : decode cX11_reads 264 = .ok (.aload_n 0, 1) := by decide +kernel
theorem dX11_reads_265 : decode cX11_reads 265 = .ok (.iconst 1, 1) := by decide +kernel
theorem dX11_reads_266 : decode cX11_reads 266 = .ok (.iload 5, 2) := by decide +kernel
theorem dX11_reads_268 : decode cX11_reads 268 = .ok (.invokestatic 109, 3) := by decide +kernel
theorem dX11_reads_271 : decode cX11_reads 271 = .ok (.invokevirtual 88, 3) := by decide +kernel
theorem dX11_reads_274 : decode cX11_reads 274 = .ok (.aload_n 0, 1) := by decide +kernel
theorem dX11_reads_275 : decode cX11_reads 275 = .ok (.bipush 6, 2) := by decide +kernel
theorem dX11_reads_277 : decode cX11_reads 277 = .ok (.invokevirtual 92, 3) := by decide +kernel
theorem dX11_reads_280 : decode cX11_reads 280 = .ok (.iconst 1, 1) := by decide +kernel
theorem dX11_reads_281 : decode cX11_reads 281 = .ok (.istore_n 3, 1) := by decide +kernel
theorem dX11_reads_282 : decode cX11_reads 282 = .ok (.iinc 4 1, 3) := by decide +kernel
theorem dX11_reads_285 : decode cX11_reads 285 = .ok (.goto 83, 3) := by decide +kernel
theorem dX11_reads_288 : decode cX11_reads 288 = .ok (.iload 5, 2) := by decide +kernel
theorem dX11_reads_290 : decode cX11_reads 290 = .ok (.bipush 40, 2) := by decide +kernel
theorem dX11_reads_292 : decode cX11_reads 292 = .ok (.if_icmp .ne 32, 3) := by decide +kernel
theorem dX11_reads_295 : decode cX11_reads 295 = .ok (.iload_n 2, 1) := by decide +kernel
theorem dX11_reads_296 : decode cX11_reads 296 = .ok (.bipush 8, 2) := by decide +kernel
theorem dX11_reads_298 : decode cX11_reads 298 = .ok (.if_icmp .ne 11, 3) := by decide +kernel
theorem dX11_reads_301 : decode cX11_reads 301 = .ok (.bipush 10, 2) := by decide +kernel
theorem dX11_reads_303 : decode cX11_reads 303 = .ok (.iload 4, 2) := by decide +kernel
theorem dX11_reads_305 : decode cX11_reads 305 = .ok (.imul, 1) := by decide +kernel
theorem dX11_reads_306 : decode cX11_reads 306 = .ok (.iconst 3, 1) := by decide +kernel
theorem dX11_reads_307 : decode cX11_reads 307 = .ok (.iadd, 1) := by decide +kernel
theorem dX11_reads_308 : decode cX11_reads 308 = .ok (.ireturn, 1) := by decide +kernel
theorem dX11_reads_309 : decode cX11_reads 309 = .ok (.iinc 2 1, 3) := by decide +kernel
theorem dX11_reads_312 : decode cX11_reads 312 = .ok (.aload_n 0, 1) := by decide +kernel
theorem dX11_reads_313 : decode cX11_reads 313 = .ok (.bipush 13, 2) := by decide +kernel
theorem dX11_reads_315 : decode cX11_reads 315 = .ok (.invokevirtual 96, 3) := by decide +kernel
theorem dX11_reads_318 : decode cX11_reads 318 = .ok (.iinc 4 1, 3) := by decide +kernel
theorem dX11_reads_321 : decode cX11_reads 321 = .ok (.goto 47, 3) := by decide +kernel
theorem dX11_reads_324 : decode cX11_reads 324 = .ok (.iload 5, 2) := by decide +kernel
theorem dX11_reads_326 : decode cX11_reads 326 = .ok (.bipush 45, 2) := by decide +kernel
theorem dX11_reads_328 : decode cX11_reads 328 = .ok (.if_icmp .eq 10, 3) := by decide +kernel
theorem dX11_reads_331 : decode cX11_reads 331 = .ok (.iload 5, 2) := by decide +kernel
theorem dX11_reads_333 : decode cX11_reads 333 = .ok (.bipush 33, 2) := by decide +kernel
theorem dX11_reads_335 : decode cX11_reads 335 = .ok (.if_icmp .ne 25, 3) := by decide +kernel
theorem dX11_reads_338 : decode cX11_reads 338 = .ok (.aload_n 0, 1) := by decide +kernel
theorem dX11_reads_339 : decode cX11_reads 339 = .ok (.iload 5, 2) := by decide +kernel
theorem dX11_reads_341 : decode cX11_reads 341 = .ok (.bipush 45, 2) := by decide +kernel
theorem dX11_reads_343 : decode cX11_reads 343 = .ok (.if_icmp .ne 7, 3) := by decide +kernel
theorem dX11_reads_346 : decode cX11_reads 346 = .ok (.iconst 3, 1) := by decide +kernel
theorem dX11_reads_347 : decode cX11_reads 347 = .ok (.goto 4, 3) := by decide +kernel
theorem dX11_reads_350 : decode cX11_reads 350 = .ok (.iconst 2, 1) := by decide +kernel
theorem dX11_reads_351 : decode cX11_reads 351 = .ok (.invokevirtual 96, 3) := by decide +kernel
theorem dX11_reads_354 : decode cX11_reads 354 = .ok (.iinc 4 1, 3) := by decide +kernel
theorem dX11_reads_357 : decode cX11_reads 357 = .ok (.goto 11, 3) := by decide +kernel
theorem dX11_reads_360 : decode cX11_reads 360 = .ok (.bipush 10, 2) := by decide +kernel
theorem dX11_reads_362 : decode cX11_reads 362 = .ok (.iload 4, 2) := by decide +kernel
theorem dX11_reads_364 : decode cX11_reads 364 = .ok (.imul, 1) := by decide +kernel
theorem dX11_reads_365 : decode cX11_reads 365 = .ok (.iconst 1, 1) := by decide +kernel
theorem dX11_reads_366 : decode cX11_reads 366 = .ok (.iadd, 1) := by decide +kernel
theorem dX11_reads_367 : decode cX11_reads 367 = .ok (.ireturn, 1) := by decide +kernel
theorem dX11_reads_368 : decode cX11_reads 368 = .ok (.goto (-343), 3) := by decide +kernel
theorem dX11_reads_371 : decode cX11_reads 371 = .ok (.aload_n 0, 1) := by decide +kernel
theorem dX11_reads_372 : decode cX11_reads 372 = .ok (.iconst 1, 1) := by decide +kernel
theorem dX11_reads_373 : decode cX11_reads 373 = .ok (.invokevirtual 92, 3) := by decide +kernel
theorem dX11_reads_376 : decode cX11_reads 376 = .ok (.iload_n 3, 1) := by decide +kernel
theorem dX11_reads_377 : decode cX11_reads 377 = .ok (.ifCond .eq 11, 3) := by decide +kernel
theorem dX11_reads_380 : decode cX11_reads 380 = .ok (.iload_n 2, 1) := by decide +kernel
theorem dX11_reads_381 : decode cX11_reads 381 = .ok (.ifCond .ne 7, 3) := by decide +kernel
theorem dX11_reads_384 : decode cX11_reads 384 = .ok (.iconst (-1), 1) := by decide +kernel
theorem dX11_reads_385 : decode cX11_reads 385 = .ok (.goto 9, 3) := by decide +kernel
theorem dX11_reads_388 : decode cX11_reads 388 = .ok (.bipush 10, 2) := by decide +kernel
theorem dX11_reads_390 : decode cX11_reads 390 = .ok (.iload_n 1, 1) := by decide +kernel
theorem dX11_reads_391 : decode cX11_reads 391 = .ok (.imul, 1) := by decide +kernel
theorem dX11_reads_392 : decode cX11_reads 392 = .ok (.iconst 1, 1) := by decide +kernel
theorem dX11_reads_393 : decode cX11_reads 393 = .ok (.iadd, 1) := by decide +kernel
theorem dX11_reads_394 : decode cX11_reads 394 = .ok (.ireturn, 1) := by decide +kernel
theorem dX11_twoOf_0 : decode cX11_twoOf 0 = .ok (.iload_n 0, 1) := by decide +kernel
theorem dX11_twoOf_1 : decode cX11_twoOf 1 = .ok (.tableswitch 127 4 11 #[47, 51, 65, 69, 73, 85, 97, 109], 47) := by decide +kernel
theorem dX11_twoOf_48 : decode cX11_twoOf 48 = .ok (.lload_n 1, 1) := by decide +kernel
theorem dX11_twoOf_49 : decode cX11_twoOf 49 = .ok (.lload_n 3, 1) := by decide +kernel
theorem dX11_twoOf_50 : decode cX11_twoOf 50 = .ok (.lmul, 1) := by decide +kernel
theorem dX11_twoOf_51 : decode cX11_twoOf 51 = .ok (.lreturn, 1) := by decide +kernel
theorem dX11_twoOf_52 : decode cX11_twoOf 52 = .ok (.lload_n 3, 1) := by decide +kernel
theorem dX11_twoOf_53 : decode cX11_twoOf 53 = .ok (.lconst 0, 1) := by decide +kernel
theorem dX11_twoOf_54 : decode cX11_twoOf 54 = .ok (.lcmp, 1) := by decide +kernel
theorem dX11_twoOf_55 : decode cX11_twoOf 55 = .ok (.ifCond .ne 7, 3) := by decide +kernel
theorem dX11_twoOf_58 : decode cX11_twoOf 58 = .ok (.lconst 0, 1) := by decide +kernel
theorem dX11_twoOf_59 : decode cX11_twoOf 59 = .ok (.goto 6, 3) := by decide +kernel
theorem dX11_twoOf_62 : decode cX11_twoOf 62 = .ok (.lload_n 1, 1) := by decide +kernel
theorem dX11_twoOf_63 : decode cX11_twoOf 63 = .ok (.lload_n 3, 1) := by decide +kernel
theorem dX11_twoOf_64 : decode cX11_twoOf 64 = .ok (.ldiv, 1) := by decide +kernel
theorem dX11_twoOf_65 : decode cX11_twoOf 65 = .ok (.lreturn, 1) := by decide +kernel
theorem dX11_twoOf_66 : decode cX11_twoOf 66 = .ok (.lload_n 1, 1) := by decide +kernel
theorem dX11_twoOf_67 : decode cX11_twoOf 67 = .ok (.lload_n 3, 1) := by decide +kernel
theorem dX11_twoOf_68 : decode cX11_twoOf 68 = .ok (.ladd, 1) := by decide +kernel
theorem dX11_twoOf_69 : decode cX11_twoOf 69 = .ok (.lreturn, 1) := by decide +kernel
theorem dX11_twoOf_70 : decode cX11_twoOf 70 = .ok (.lload_n 1, 1) := by decide +kernel
theorem dX11_twoOf_71 : decode cX11_twoOf 71 = .ok (.lload_n 3, 1) := by decide +kernel
theorem dX11_twoOf_72 : decode cX11_twoOf 72 = .ok (.lsub, 1) := by decide +kernel
theorem dX11_twoOf_73 : decode cX11_twoOf 73 = .ok (.lreturn, 1) := by decide +kernel
theorem dX11_twoOf_74 : decode cX11_twoOf 74 = .ok (.lload_n 1, 1) := by decide +kernel
theorem dX11_twoOf_75 : decode cX11_twoOf 75 = .ok (.lload_n 3, 1) := by decide +kernel
theorem dX11_twoOf_76 : decode cX11_twoOf 76 = .ok (.lcmp, 1) := by decide +kernel
theorem dX11_twoOf_77 : decode cX11_twoOf 77 = .ok (.ifCond .ge 7, 3) := by decide +kernel
theorem dX11_twoOf_80 : decode cX11_twoOf 80 = .ok (.lconst 1, 1) := by decide +kernel
theorem dX11_twoOf_81 : decode cX11_twoOf 81 = .ok (.goto 4, 3) := by decide +kernel
theorem dX11_twoOf_84 : decode cX11_twoOf 84 = .ok (.lconst 0, 1) := by decide +kernel
theorem dX11_twoOf_85 : decode cX11_twoOf 85 = .ok (.lreturn, 1) := by decide +kernel
theorem dX11_twoOf_86 : decode cX11_twoOf 86 = .ok (.lload_n 1, 1) := by decide +kernel
theorem dX11_twoOf_87 : decode cX11_twoOf 87 = .ok (.lload_n 3, 1) := by decide +kernel
theorem dX11_twoOf_88 : decode cX11_twoOf 88 = .ok (.lcmp, 1) := by decide +kernel
theorem dX11_twoOf_89 : decode cX11_twoOf 89 = .ok (.ifCond .le 7, 3) := by decide +kernel
theorem dX11_twoOf_92 : decode cX11_twoOf 92 = .ok (.lconst 1, 1) := by decide +kernel
theorem dX11_twoOf_93 : decode cX11_twoOf 93 = .ok (.goto 4, 3) := by decide +kernel
theorem dX11_twoOf_96 : decode cX11_twoOf 96 = .ok (.lconst 0, 1) := by decide +kernel
