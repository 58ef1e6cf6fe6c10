theorem dX11_twoOf_97 : decode cX11_twoOf 97 = .ok (.lreturn, 1) := by decide +kernel
theorem dX11_twoOf_98 : decode cX11_twoOf 98 = .ok (.lload_n 1, 1) := by decide +kernel
theorem dX11_twoOf_99 : decode cX11_twoOf 99 = .ok (.lload_n 3, 1) := by decide +kernel
theorem dX11_twoOf_100 : decode cX11_twoOf 100 = .ok (.lcmp, 1) := by decide +kernel
theorem dX11_twoOf_101 : decode cX11_twoOf 101 = .ok (.ifCond .ne 7, 3) := by decide +kernel
theorem dX11_twoOf_104 : decode cX11_twoOf 104 = .ok (.lconst 1, 1) := by decide +kernel
theorem dX11_twoOf_105 : decode cX11_twoOf 105 = .ok (.goto 4, 3) := by decide +kernel
theorem dX11_twoOf_108 : decode cX11_twoOf 108 = .ok (.lconst 0, 1) := by decide +kernel
theorem dX11_twoOf_109 : decode cX11_twoOf 109 = .ok (.lreturn, 1) := by decide +kernel
theorem dX11_twoOf_110 : decode cX11_twoOf 110 = .ok (.lload_n 1, 1) := by decide +kernel
theorem dX11_twoOf_111 : decode cX11_twoOf 111 = .ok (.lconst 0, 1) := by decide +kernel
theorem dX11_twoOf_112 : decode cX11_twoOf 112 = .ok (.lcmp, 1) := by decide +kernel
theorem dX11_twoOf_113 : decode cX11_twoOf 113 = .ok (.ifCond .eq 13, 3) := by decide +kernel
theorem dX11_twoOf_116 : decode cX11_twoOf 116 = .ok (.lload_n 3, 1) := by decide +kernel
theorem dX11_twoOf_117 : decode cX11_twoOf 117 = .ok (.lconst 0, 1) := by decide +kernel
theorem dX11_twoOf_118 : decode cX11_twoOf 118 = .ok (.lcmp, 1) := by decide +kernel
theorem dX11_twoOf_119 : decode cX11_twoOf 119 = .ok (.ifCond .eq 7, 3) := by decide +kernel
theorem dX11_twoOf_122 : decode cX11_twoOf 122 = .ok (.lconst 1, 1) := by decide +kernel
theorem dX11_twoOf_123 : decode cX11_twoOf 123 = .ok (.goto 4, 3) := by decide +kernel
theorem dX11_twoOf_126 : decode cX11_twoOf 126 = .ok (.lconst 0, 1) := by decide +kernel
theorem dX11_twoOf_127 : decode cX11_twoOf 127 = .ok (.lreturn, 1) := by decide +kernel
theorem dX11_twoOf_128 : decode cX11_twoOf 128 = .ok (.lload_n 1, 1) := by decide +kernel
theorem dX11_twoOf_129 : decode cX11_twoOf 129 = .ok (.lconst 0, 1) := by decide +kernel
theorem dX11_twoOf_130 : decode cX11_twoOf 130 = .ok (.lcmp, 1) := by decide +kernel
theorem dX11_twoOf_131 : decode cX11_twoOf 131 = .ok (.ifCond .ne 9, 3) := by decide +kernel
theorem dX11_twoOf_134 : decode cX11_twoOf 134 = .ok (.lload_n 3, 1) := by decide +kernel
theorem dX11_twoOf_135 : decode cX11_twoOf 135 = .ok (.lconst 0, 1) := by decide +kernel
theorem dX11_twoOf_136 : decode cX11_twoOf 136 = .ok (.lcmp, 1) := by decide +kernel
theorem dX11_twoOf_137 : decode cX11_twoOf 137 = .ok (.ifCond .eq 7, 3) := by decide +kernel
theorem dX11_twoOf_140 : decode cX11_twoOf 140 = .ok (.lconst 1, 1) := by decide +kernel
theorem dX11_twoOf_141 : decode cX11_twoOf 141 = .ok (.goto 4, 3) := by decide +kernel
theorem dX11_twoOf_144 : decode cX11_twoOf 144 = .ok (.lconst 0, 1) := by decide +kernel
theorem dX11_twoOf_145 : decode cX11_twoOf 145 = .ok (.lreturn, 1) := by decide +kernel
theorem dX11_tells_0 : decode cX11_tells 0 = .ok (.iconst 0, 1) := by decide +kernel
theorem dX11_tells_1 : decode cX11_tells 1 = .ok (.istore_n 3, 1) := by decide +kernel
theorem dX11_tells_2 : decode cX11_tells 2 = .ok (.iconst 0, 1) := by decide +kernel
theorem dX11_tells_3 : decode cX11_tells 3 = .ok (.istore 4, 2) := by decide +kernel
theorem dX11_tells_5 : decode cX11_tells 5 = .ok (.iload 4, 2) := by decide +kernel
theorem dX11_tells_7 : decode cX11_tells 7 = .ok (.aload_n 0, 1) := by decide +kernel
theorem dX11_tells_8 : decode cX11_tells 8 = .ok (.getfield 78, 3) := by decide +kernel
theorem dX11_tells_11 : decode cX11_tells 11 = .ok (.if_icmp .ge 191, 3) := by decide +kernel
theorem dX11_tells_14 : decode cX11_tells 14 = .ok (.aload_n 0, 1) := by decide +kernel
theorem dX11_tells_15 : decode cX11_tells 15 = .ok (.getfield 20, 3) := by decide +kernel
theorem dX11_tells_18 : decode cX11_tells 18 = .ok (.iload 4, 2) := by decide +kernel
theorem dX11_tells_20 : decode cX11_tells 20 = .ok (.iaload, 1) := by decide +kernel
theorem dX11_tells_21 : decode cX11_tells 21 = .ok (.istore 5, 2) := by decide +kernel
theorem dX11_tells_23 : decode cX11_tells 23 = .ok (.iload 5, 2) := by decide +kernel
theorem dX11_tells_25 : decode cX11_tells 25 = .ok (.ifCond .eq 9, 3) := by decide +kernel
theorem dX11_tells_28 : decode cX11_tells 28 = .ok (.iload 5, 2) := by decide +kernel
theorem dX11_tells_30 : decode cX11_tells 30 = .ok (.iconst 1, 1) := by decide +kernel
theorem dX11_tells_31 : decode cX11_tells 31 = .ok (.if_icmp .ne 74, 3) := by decide +kernel
theorem dX11_tells_34 : decode cX11_tells 34 = .ok (.aload_n 0, 1) := by decide +kernel
theorem dX11_tells_35 : decode cX11_tells 35 = .ok (.getfield 29, 3) := by decide +kernel
theorem dX11_tells_38 : decode cX11_tells 38 = .ok (.iload_n 3, 1) := by decide +kernel
theorem dX11_tells_39 : decode cX11_tells 39 = .ok (.iload 5, 2) := by decide +kernel
theorem dX11_tells_41 : decode cX11_tells 41 = .ok (.ifCond .ne 14, 3) := by decide +kernel
theorem dX11_tells_44 : decode cX11_tells 44 = .ok (.aload_n 0, 1) := by decide +kernel
theorem dX11_tells_45 : decode cX11_tells 45 = .ok (.getfield 23, 3) := by decide +kernel
theorem dX11_tells_48 : decode cX11_tells 48 = .ok (.iload 4, 2) := by decide +kernel
theorem dX11_tells_50 : decode cX11_tells 50 = .ok (.iaload, 1) := by decide +kernel
theorem dX11_tells_51 : decode cX11_tells 51 = .ok (.i2l, 1) := by decide +kernel
theorem dX11_tells_52 : decode cX11_tells 52 = .ok (.goto 46, 3) := by decide +kernel
theorem dX11_tells_55 : decode cX11_tells 55 = .ok (.aload_n 0, 1) := by decide +kernel
theorem dX11_tells_56 : decode cX11_tells 56 = .ok (.getfield 23, 3) := by decide +kernel
theorem dX11_tells_59 : decode cX11_tells 59 = .ok (.iload 4, 2) := by decide +kernel
theorem dX11_tells_61 : decode cX11_tells 61 = .ok (.iaload, 1) := by decide +kernel
theorem dX11_tells_62 : decode cX11_tells 62 = .ok (.ifCond .ne 8, 3) := by decide +kernel
theorem dX11_tells_65 : decode cX11_tells 65 = .ok (.iload_n 2, 1) := by decide +kernel
theorem dX11_tells_66 : decode cX11_tells 66 = .ok (.i2l, 1) := by decide +kernel
theorem dX11_tells_67 : decode cX11_tells 67 = .ok (.goto 31, 3) := by decide +kernel
theorem dX11_tells_70 : decode cX11_tells 70 = .ok (.aload_n 0, 1) := by decide +kernel
theorem dX11_tells_71 : decode cX11_tells 71 = .ok (.getfield 23, 3) := by decide +kernel
theorem dX11_tells_74 : decode cX11_tells 74 = .ok (.iload 4, 2) := by decide +kernel
theorem dX11_tells_76 : decode cX11_tells 76 = .ok (.iaload, 1) := by decide +kernel
theorem dX11_tells_77 : decode cX11_tells 77 = .ok (.iconst 1, 1) := by decide +kernel
theorem dX11_tells_78 : decode cX11_tells 78 = .ok (.if_icmp .ne 13, 3) := by decide +kernel
theorem dX11_tells_81 : decode cX11_tells 81 = .ok (.aload_n 0, 1) := by decide +kernel
theorem dX11_tells_82 : decode cX11_tells 82 = .ok (.iload_n 1, 1) := by decide +kernel
theorem dX11_tells_83 : decode cX11_tells 83 = .ok (.iconst 0, 1) := by decide +kernel
theorem dX11_tells_84 : decode cX11_tells 84 = .ok (.invokevirtual 112, 3) := by decide +kernel
theorem dX11_tells_87 : decode cX11_tells 87 = .ok (.i2l, 1) := by decide +kernel
theorem dX11_tells_88 : decode cX11_tells 88 = .ok (.goto 10, 3) := by decide +kernel
theorem dX11_tells_91 : decode cX11_tells 91 = .ok (.aload_n 0, 1) := by decide +kernel
theorem dX11_tells_92 : decode cX11_tells 92 = .ok (.iload_n 1, 1) := by decide +kernel
theorem dX11_tells_93 : decode cX11_tells 93 = .ok (.iconst 1, 1) := by decide +kernel
theorem dX11_tells_94 : decode cX11_tells 94 = .ok (.invokevirtual 112, 3) := by decide +kernel
theorem dX11_tells_97 : decode cX11_tells 97 = .ok (.i2l, 1) := by decide +kernel
theorem dX11_tells_98 : decode cX11_tells 98 = .ok (.lastore, 1) := by decide +kernel
theorem dX11_tells_99 : decode cX11_tells 99 = .ok (.iinc 3 1, 3) := by decide +kernel
theorem dX11_tells_102 : decode cX11_tells 102 = .ok (.goto 94, 3) := by decide +kernel
theorem dX11_tells_105 : decode cX11_tells 105 = .ok (.iload 5, 2) := by decide +kernel
theorem dX11_tells_107 : decode cX11_tells 107 = .ok (.iconst 3, 1) := by decide +kernel
theorem dX11_tells_108 : decode cX11_tells 108 = .ok (.if_icmp .ne 23, 3) := by decide +kernel
theorem dX11_tells_111 : decode cX11_tells 111 = .ok (.aload_n 0, 1) := by decide +kernel
theorem dX11_tells_112 : decode cX11_tells 112 = .ok (.getfield 29, 3) := by decide +kernel
theorem dX11_tells_115 : decode cX11_tells 115 = .ok (.iload_n 3, 1) := by decide +kernel
theorem dX11_tells_116 : decode cX11_tells 116 = .ok (.iconst 1, 1) := by decide +kernel
theorem dX11_tells_117 : decode cX11_tells 117 = .ok (.isub, 1) := by decide +kernel
theorem dX11_tells_118 : decode cX11_tells 118 = .ok (.aload_n 0, 1) := by decide +kernel
theorem dX11_tells_119 : decode cX11_tells 119 = .ok (.getfield 29, 3) := by decide +kernel
theorem dX11_tells_122 : decode cX11_tells 122 = .ok (.iload_n 3, 1) := by decide +kernel
theorem dX11_tells_123 : decode cX11_tells 123 = .ok (.iconst 1, 1) := by decide +kernel
theorem dX11_tells_124 : decode cX11_tells 124 = .ok (.isub, 1) := by decide +kernel
theorem dX11_tells_125 : decode cX11_tells 125 = .ok (.laload, 1) := by decide +kernel
theorem dX11_tells_126 : decode cX11_tells 126 = .ok (.lneg, 1) := by decide +kernel
theorem dX11_tells_127 : decode cX11_tells 127 = .ok (.lastore, 1) := by decide +kernel
theorem dX11_tells_128 : decode cX11_tells 128 = .ok (.goto 68, 3) := by decide +kernel
theorem dX11_tells_131 : decode cX11_tells 131 = .ok (.iload 5, 2) := by decide +kernel
theorem dX11_tells_133 : decode cX11_tells 133 = .ok (.iconst 2, 1) := by decide +kernel
theorem dX11_tells_134 : decode cX11_tells 134 = .ok (.if_icmp .ne 32, 3) := by decide +kernel
theorem dX11_tells_137 : decode cX11_tells 137 = .ok (.aload_n 0, 1) := by decide +kernel
theorem dX11_tells_138 : decode cX11_tells 138 = .ok (.getfield 29, 3) := by decide +kernel
theorem dX11_tells_141 : decode cX11_tells 141 = .ok (.iload_n 3, 1) := by decide +kernel
theorem dX11_tells_142 : decode cX11_tells 142 = .ok (.iconst 1, 1) := by decide +kernel
theorem dX11_tells_143 : decode cX11_tells 143 = .ok (.isub, 1) := by decide +kernel
theorem dX11_tells_144 : decode cX11_tells 144 = .ok (.aload_n 0, 1) := by decide +kernel
theorem dX11_tells_145 : decode cX11_tells 145 = .ok (.getfield 29, 3) := by decide +kernel
theorem dX11_tells_148 : decode cX11_tells 148 = .ok (.iload_n 3, 1) := by decide +kernel
theorem dX11_tells_149 : decode cX11_tells 149 = .ok (.iconst 1, 1) := by decide +kernel
theorem dX11_tells_150 : decode cX11_tells 150 = .ok (.isub, 1) := by decide +kernel
theorem dX11_tells_151 : decode cX11_tells 151 = .ok (.laload, 1) := by decide +kernel
theorem dX11_tells_152 : decode cX11_tells 152 = .ok (.lconst 0, 1) := by decide +kernel
theorem dX11_tells_153 : decode cX11_tells 153 = .ok (.lcmp, 1) := by decide +kernel
theorem dX11_tells_154 : decode cX11_tells 154 = .ok (.ifCond .ne 7, 3) := by decide +kernel
theorem dX11_tells_157 : decode cX11_tells 157 = .ok (.lconst 1, 1) := by decide +kernel
theorem dX11_tells_158 : decode cX11_tells 158 = .ok (.goto 4, 3) := by decide +kernel
theorem dX11_tells_161 : decode cX11_tells 161 = .ok (.lconst 0, 1) := by decide +kernel
theorem dX11_tells_162 : decode cX11_tells 162 = .ok (.lastore, 1) := by decide +kernel
theorem dX11_tells_163 : decode cX11_tells 163 = .ok (.goto 33, 3) := by decide +kernel
theorem dX11_tells_166 : decode cX11_tells 166 = .ok (.iinc 3 (-1), 3) := by decide +kernel
theorem dX11_tells_169 : decode cX11_tells 169 = .ok (.aload_n 0, 1) := by decide +kernel
theorem dX11_tells_170 : decode cX11_tells 170 = .ok (.getfield 29, 3) := by decide +kernel
theorem dX11_tells_173 : decode cX11_tells 173 = .ok (.iload_n 3, 1) := by decide +kernel
theorem dX11_tells_174 : decode cX11_tells 174 = .ok (.iconst 1, 1) := by decide +kernel
theorem dX11_tells_175 : decode cX11_tells 175 = .ok (.isub, 1) := by decide +kernel
theorem dX11_tells_176 : decode cX11_tells 176 = .ok (.iload 5, 2) := by decide +kernel
theorem dX11_tells_178 : decode cX11_tells 178 = .ok (.aload_n 0, 1) := by decide +kernel
theorem dX11_tells_179 : decode cX11_tells 179 = .ok (.getfield 29, 3) := by decide +kernel
theorem dX11_tells_182 : decode cX11_tells 182 = .ok (.iload_n 3, 1) := by decide +kernel
theorem dX11_tells_183 : decode cX11_tells 183 = .ok (.iconst 1, 1) := by decide +kernel
theorem dX11_tells_184 : decode cX11_tells 184 = .ok (.isub, 1) := by decide +kernel
theorem dX11_tells_185 : decode cX11_tells 185 = .ok (.laload, 1) := by decide +kernel
theorem dX11_tells_186 : decode cX11_tells 186 = .ok (.aload_n 0, 1) := by decide +kernel
theorem dX11_tells_187 : decode cX11_tells 187 = .ok (.getfield 29, 3) := by decide +kernel
theorem dX11_tells_190 : decode cX11_tells 190 = .ok (.iload_n 3, 1) := by decide +kernel
theorem dX11_tells_191 : decode cX11_tells 191 = .ok (.laload, 1) := by decide +kernel
theorem dX11_tells_192 : decode cX11_tells 192 = .ok (.invokestatic 116, 3) := by decide +kernel
theorem dX11_tells_195 : decode cX11_tells 195 = .ok (.lastore, 1) := by decide +kernel
theorem dX11_tells_196 : decode cX11_tells 196 = .ok (.iinc 4 1, 3) := by decide +kernel
theorem dX11_tells_199 : decode cX11_tells 199 = .ok (.goto (-194), 3) := by decide +kernel
theorem dX11_tells_202 : decode cX11_tells 202 = .ok (.aload_n 0, 1) := by decide +kernel
theorem dX11_tells_203 : decode cX11_tells 203 = .ok (.getfield 29, 3) := by decide +kernel
theorem dX11_tells_206 : decode cX11_tells 206 = .ok (.iconst 0, 1) := by decide +kernel
theorem dX11_tells_207 : decode cX11_tells 207 = .ok (.laload, 1) := by decide +kernel
theorem dX11_tells_208 : decode cX11_tells 208 = .ok (.lreturn, 1) := by decide +kernel
theorem dX11_wornOf_0 : decode cX11_wornOf 0 = .ok (.iload_n 2, 1) := by decide +kernel
theorem dX11_wornOf_1 : decode cX11_wornOf 1 = .ok (.aload_n 0, 1) := by decide +kernel
theorem dX11_wornOf_2 : decode cX11_wornOf 2 = .ok (.iload_n 1, 1) := by decide +kernel
theorem dX11_wornOf_3 : decode cX11_wornOf 3 = .ok (.iconst 2, 1) := by decide +kernel
theorem dX11_wornOf_4 : decode cX11_wornOf 4 = .ok (.invokevirtual 112, 3) := by decide +kernel
theorem dX11_wornOf_7 : decode cX11_wornOf 7 = .ok (.if_icmp .ge 7, 3) := by decide +kernel
theorem dX11_wornOf_10 : decode cX11_wornOf 10 = .ok (.iconst 0, 1) := by decide +kernel
theorem dX11_wornOf_11 : decode cX11_wornOf 11 = .ok (.goto 11, 3) := by decide +kernel
theorem dX11_wornOf_14 : decode cX11_wornOf 14 = .ok (.iload_n 2, 1) := by decide +kernel
theorem dX11_wornOf_15 : decode cX11_wornOf 15 = .ok (.aload_n 0, 1) := by decide +kernel
theorem dX11_wornOf_16 : decode cX11_wornOf 16 = .ok (.iload_n 1, 1) := by decide +kernel
theorem dX11_wornOf_17 : decode cX11_wornOf 17 = .ok (.iconst 2, 1) := by decide +kernel
theorem dX11_wornOf_18 : decode cX11_wornOf 18 = .ok (.invokevirtual 112, 3) := by decide +kernel
theorem dX11_wornOf_21 : decode cX11_wornOf 21 = .ok (.isub, 1) := by decide +kernel
theorem dX11_wornOf_22 : decode cX11_wornOf 22 = .ok (.istore_n 3, 1) := by decide +kernel
theorem dX11_wornOf_23 : decode cX11_wornOf 23 = .ok (.aload_n 0, 1) := by decide +kernel
theorem dX11_wornOf_24 : decode cX11_wornOf 24 = .ok (.invokevirtual 120, 3) := by decide +kernel
theorem dX11_wornOf_27 : decode cX11_wornOf 27 = .ok (.iconst (-1), 1) := by decide +kernel
theorem dX11_wornOf_28 : decode cX11_wornOf 28 = .ok (.if_icmp .ne 12, 3) := by decide +kernel
theorem dX11_wornOf_31 : decode cX11_wornOf 31 = .ok (.aload_n 0, 1) := by decide +kernel
theorem dX11_wornOf_32 : decode cX11_wornOf 32 = .ok (.iload_n 1, 1) := by decide +kernel
theorem dX11_wornOf_33 : decode cX11_wornOf 33 = .ok (.iload_n 3, 1) := by decide +kernel
theorem dX11_wornOf_34 : decode cX11_wornOf 34 = .ok (.invokevirtual 124, 3) := by decide +kernel
theorem dX11_wornOf_37 : decode cX11_wornOf 37 = .ok (.goto 5, 3) := by decide +kernel
theorem dX11_wornOf_40 : decode cX11_wornOf 40 = .ok (.iload_n 3, 1) := by decide +kernel
theorem dX11_wornOf_41 : decode cX11_wornOf 41 = .ok (.i2l, 1) := by decide +kernel
theorem dX11_wornOf_42 : decode cX11_wornOf 42 = .ok (.lstore 4, 2) := by decide +kernel
theorem dX11_wornOf_44 : decode cX11_wornOf 44 = .ok (.lload 4, 2) := by decide +kernel
theorem dX11_wornOf_46 : decode cX11_wornOf 46 = .ok (.lconst 0, 1) := by decide +kernel
theorem dX11_wornOf_47 : decode cX11_wornOf 47 = .ok (.lcmp, 1) := by decide +kernel
theorem dX11_wornOf_48 : decode cX11_wornOf 48 = .ok (.ifCond .ge 7, 3) := by decide +kernel
theorem dX11_wornOf_51 : decode cX11_wornOf 51 = .ok (.iconst 0, 1) := by decide +kernel
theorem dX11_wornOf_52 : decode cX11_wornOf 52 = .ok (.goto 21, 3) := by decide +kernel
theorem dX11_wornOf_55 : decode cX11_wornOf 55 = .ok (.lload 4, 2) := by decide +kernel
theorem dX11_wornOf_57 : decode cX11_wornOf 57 = .ok (.ldc2_w 128, 3) := by decide +kernel
theorem dX11_wornOf_60 : decode cX11_wornOf 60 = .ok (.lcmp, 1) := by decide +kernel
theorem dX11_wornOf_61 : decode cX11_wornOf 61 = .ok (.ifCond .le 9, 3) := by decide +kernel
theorem dX11_wornOf_64 : decode cX11_wornOf 64 = .ok (.sipush 10000, 3) := by decide +kernel
theorem dX11_wornOf_67 : decode cX11_wornOf 67 = .ok (.goto 6, 3) := by decide +kernel
theorem dX11_wornOf_70 : decode cX11_wornOf 70 = .ok (.lload 4, 2) := by decide +kernel
theorem dX11_wornOf_72 : decode cX11_wornOf 72 = .ok (.l2i, 1) := by decide +kernel
theorem dX11_wornOf_73 : decode cX11_wornOf 73 = .ok (.ireturn, 1) := by decide +kernel
theorem dX11_write_0 : decode cX11_write 0 = .ok (.iload_n 1, 1) := by decide +kernel
theorem dX11_write_1 : decode cX11_write 1 = .ok (.i2l, 1) := by decide +kernel
theorem dX11_write_2 : decode cX11_write 2 = .ok (.lconst 0, 1) := by decide +kernel
theorem dX11_write_3 : decode cX11_write 3 = .ok (.ldc2_w 130, 3) := by decide +kernel
theorem dX11_write_6 : decode cX11_write 6 = .ok (.invokestatic 53, 3) := by decide +kernel
theorem dX11_write_9 : decode cX11_write 9 = .ok (.ifCond .ne 6, 3) := by decide +kernel
theorem dX11_write_12 : decode cX11_write 12 = .ok (.bipush (-2), 2) := by decide +kernel
theorem dX11_write_14 : decode cX11_write 14 = .ok (.ireturn, 1) := by decide +kernel
theorem dX11_write_15 : decode cX11_write 15 = .ok (.aload_n 0, 1) := by decide +kernel
theorem dX11_write_16 : decode cX11_write 16 = .ok (.getfield 7, 3) := by decide +kernel
theorem dX11_write_19 : decode cX11_write 19 = .ok (.bipush 8, 2) := by decide +kernel
theorem dX11_write_21 : decode cX11_write 21 = .ok (.iaload, 1) := by decide +kernel
theorem dX11_write_22 : decode cX11_write 22 = .ok (.bipush 60, 2) := by decide +kernel
theorem dX11_write_24 : decode cX11_write 24 = .ok (.if_icmp .ne 6, 3) := by decide +kernel
theorem dX11_write_27 : decode cX11_write 27 = .ok (.bipush (-4), 2) := by decide +kernel
theorem dX11_write_29 : decode cX11_write 29 = .ok (.ireturn, 1) := by decide +kernel
theorem dX11_write_30 : decode cX11_write 30 = .ok (.aload_n 0, 1) := by decide +kernel
theorem dX11_write_31 : decode cX11_write 31 = .ok (.getfield 7, 3) := by decide +kernel
theorem dX11_write_34 : decode cX11_write 34 = .ok (.sipush 827, 3) := by decide +kernel
theorem dX11_write_37 : decode cX11_write 37 = .ok (.aload_n 0, 1) := by decide +kernel
theorem dX11_write_38 : decode cX11_write 38 = .ok (.getfield 7, 3) := by decide +kernel
theorem dX11_write_41 : decode cX11_write 41 = .ok (.bipush 8, 2) := by decide +kernel
theorem dX11_write_43 : decode cX11_write 43 = .ok (.iaload, 1) := by decide +kernel
theorem dX11_write_44 : decode cX11_write 44 = .ok (.iadd, 1) := by decide +kernel
theorem dX11_write_45 : decode cX11_write 45 = .ok (.iload_n 1, 1) := by decide +kernel
theorem dX11_write_46 : decode cX11_write 46 = .ok (.iastore, 1) := by decide +kernel
theorem dX11_write_47 : decode cX11_write 47 = .ok (.aload_n 0, 1) := by decide +kernel
theorem dX11_write_48 : decode cX11_write 48 = .ok (.bipush 8, 2) := by decide +kernel
theorem dX11_write_50 : decode cX11_write 50 = .ok (.invokevirtual 69, 3) := by decide +kernel
theorem dX11_write_53 : decode cX11_write 53 = .ok (.iconst 1, 1) := by decide +kernel
theorem dX11_write_54 : decode cX11_write 54 = .ok (.iadd, 1) := by decide +kernel
theorem dX11_write_55 : decode cX11_write 55 = .ok (.ireturn, 1) := by decide +kernel
theorem dX11_erase_0 : decode cX11_erase 0 = .ok (.aload_n 0, 1) := by decide +kernel
theorem dX11_erase_1 : decode cX11_erase 1 = .ok (.bipush 8, 2) := by decide +kernel
theorem dX11_erase_3 : decode cX11_erase 3 = .ok (.iconst 0, 1) := by decide +kernel
theorem dX11_erase_4 : decode cX11_erase 4 = .ok (.invokevirtual 132, 3) := by decide +kernel
theorem dX11_erase_7 : decode cX11_erase 7 = .ok (.ireturn, 1) := by decide +kernel
theorem dX11_fault_0 : decode cX11_fault 0 = .ok (.aload_n 0, 1) := by decide +kernel
theorem dX11_fault_1 : decode cX11_fault 1 = .ok (.invokevirtual 120, 3) := by decide +kernel
theorem dX11_fault_4 : decode cX11_fault 4 = .ok (.ireturn, 1) := by decide +kernel
theorem dX11_worn_0 : decode cX11_worn 0 = .ok (.aload_n 0, 1) := by decide +kernel
theorem dX11_worn_1 : decode cX11_worn 1 = .ok (.iconst 0, 1) := by decide +kernel
theorem dX11_worn_2 : decode cX11_worn 2 = .ok (.iload_n 1, 1) := by decide +kernel
theorem dX11_worn_3 : decode cX11_worn 3 = .ok (.invokevirtual 135, 3) := by decide +kernel
theorem dX11_worn_6 : decode cX11_worn 6 = .ok (.ifCond .eq 19, 3) := by decide +kernel
theorem dX11_worn_9 : decode cX11_worn 9 = .ok (.iload_n 2, 1) := by decide +kernel
theorem dX11_worn_10 : decode cX11_worn 10 = .ok (.invokestatic 61, 3) := by decide +kernel
theorem dX11_worn_13 : decode cX11_worn 13 = .ok (.ifCond .eq 12, 3) := by decide +kernel
theorem dX11_worn_16 : decode cX11_worn 16 = .ok (.aload_n 0, 1) := by decide +kernel
theorem dX11_worn_17 : decode cX11_worn 17 = .ok (.iload_n 1, 1) := by decide +kernel
theorem dX11_worn_18 : decode cX11_worn 18 = .ok (.iload_n 2, 1) := by decide +kernel
theorem dX11_worn_19 : decode cX11_worn 19 = .ok (.invokevirtual 139, 3) := by decide +kernel
theorem dX11_worn_22 : decode cX11_worn 22 = .ok (.goto 5, 3) := by decide +kernel
theorem dX11_worn_25 : decode cX11_worn 25 = .ok (.bipush (-2), 2) := by decide +kernel
theorem dX11_worn_27 : decode cX11_worn 27 = .ok (.ireturn, 1) := by decide +kernel
theorem dX11_sayOf_0 : decode cX11_sayOf 0 = .ok (.aload_n 0, 1) := by decide +kernel
theorem dX11_sayOf_1 : decode cX11_sayOf 1 = .ok (.getfield 7, 3) := by decide +kernel
theorem dX11_sayOf_4 : decode cX11_sayOf 4 = .ok (.sipush 152, 3) := by decide +kernel
theorem dX11_sayOf_7 : decode cX11_sayOf 7 = .ok (.bipush 6, 2) := by decide +kernel
theorem dX11_sayOf_9 : decode cX11_sayOf 9 = .ok (.iload_n 1, 1) := by decide +kernel
theorem dX11_sayOf_10 : decode cX11_sayOf 10 = .ok (.imul, 1) := by decide +kernel
theorem dX11_sayOf_11 : decode cX11_sayOf 11 = .ok (.iadd, 1) := by decide +kernel
theorem dX11_sayOf_12 : decode cX11_sayOf 12 = .ok (.iload_n 2, 1) := by decide +kernel
theorem dX11_sayOf_13 : decode cX11_sayOf 13 = .ok (.iadd, 1) := by decide +kernel
theorem dX11_sayOf_14 : decode cX11_sayOf 14 = .ok (.iaload, 1) := by decide +kernel
theorem dX11_sayOf_15 : decode cX11_sayOf 15 = .ok (.ireturn, 1) := by decide +kernel
theorem dX11_say_0 : decode cX11_say 0 = .ok (.aload_n 0, 1) := by decide +kernel
theorem dX11_say_1 : decode cX11_say 1 = .ok (.iconst 0, 1) := by decide +kernel
theorem dX11_say_2 : decode cX11_say 2 = .ok (.iload_n 1, 1) := by decide +kernel
theorem dX11_say_3 : decode cX11_say 3 = .ok (.invokevirtual 135, 3) := by decide +kernel
theorem dX11_say_6 : decode cX11_say 6 = .ok (.ifCond .eq 59, 3) := by decide +kernel
theorem dX11_say_9 : decode cX11_say 9 = .ok (.iload_n 2, 1) := by decide +kernel
theorem dX11_say_10 : decode cX11_say 10 = .ok (.i2l, 1) := by decide +kernel
theorem dX11_say_11 : decode cX11_say 11 = .ok (.lconst 0, 1) := by decide +kernel
theorem dX11_say_12 : decode cX11_say 12 = .ok (.ldc2_w 67, 3) := by decide +kernel
theorem dX11_say_15 : decode cX11_say 15 = .ok (.invokestatic 53, 3) := by decide +kernel
theorem dX11_say_18 : decode cX11_say 18 = .ok (.ifCond .eq 47, 3) := by decide +kernel
theorem dX11_say_21 : decode cX11_say 21 = .ok (.iload_n 3, 1) := by decide +kernel
theorem dX11_say_22 : decode cX11_say 22 = .ok (.i2l, 1) := by decide +kernel
theorem dX11_say_23 : decode cX11_say 23 = .ok (.ldc2_w 142, 3) := by decide +kernel
theorem dX11_say_26 : decode cX11_say 26 = .ok (.ldc2_w 73, 3) := by decide +kernel
theorem dX11_say_29 : decode cX11_say 29 = .ok (.invokestatic 53, 3) := by decide +kernel
theorem dX11_say_32 : decode cX11_say 32 = .ok (.ifCond .eq 33, 3) := by decide +kernel
theorem dX11_say_35 : decode cX11_say 35 = .ok (.iload_n 2, 1) := by decide +kernel
theorem dX11_say_36 : decode cX11_say 36 = .ok (.iconst 2, 1) := by decide +kernel
theorem dX11_say_37 : decode cX11_say 37 = .ok (.if_icmp .ge 16, 3) := by decide +kernel
theorem dX11_say_40 : decode cX11_say 40 = .ok (.iload 4, 2) := by decide +kernel
theorem dX11_say_42 : decode cX11_say 42 = .ok (.i2l, 1) := by decide +kernel
theorem dX11_say_43 : decode cX11_say 43 = .ok (.lconst 0, 1) := by decide +kernel
theorem dX11_say_44 : decode cX11_say 44 = .ok (.ldc2_w 128, 3) := by decide +kernel
theorem dX11_say_47 : decode cX11_say 47 = .ok (.invokestatic 53, 3) := by decide +kernel
theorem dX11_say_50 : decode cX11_say 50 = .ok (.ifCond .eq 15, 3) := by decide +kernel
theorem dX11_say_53 : decode cX11_say 53 = .ok (.iload_n 2, 1) := by decide +kernel
theorem dX11_say_54 : decode cX11_say 54 = .ok (.ifCond .ne 14, 3) := by decide +kernel
theorem dX11_say_57 : decode cX11_say 57 = .ok (.iload 5, 2) := by decide +kernel
theorem dX11_say_59 : decode cX11_say 59 = .ok (.invokestatic 61, 3) := by decide +kernel
theorem dX11_say_62 : decode cX11_say 62 = .ok (.ifCond .ne 6, 3) := by decide +kernel
theorem dX11_say_65 : decode cX11_say 65 = .ok (.bipush (-2), 2) := by decide +kernel
theorem dX11_say_67 : decode cX11_say 67 = .ok (.ireturn, 1) := by decide +kernel
theorem dX11_say_68 : decode cX11_say 68 = .ok (.aload_n 0, 1) := by decide +kernel
theorem dX11_say_69 : decode cX11_say 69 = .ok (.getfield 7, 3) := by decide +kernel
theorem dX11_say_72 : decode cX11_say 72 = .ok (.iconst 1, 1) := by decide +kernel
theorem dX11_say_73 : decode cX11_say 73 = .ok (.iaload, 1) := by decide +kernel
theorem dX11_say_74 : decode cX11_say 74 = .ok (.bipush 60, 2) := by decide +kernel
theorem dX11_say_76 : decode cX11_say 76 = .ok (.if_icmp .ne 6, 3) := by decide +kernel
theorem dX11_say_79 : decode cX11_say 79 = .ok (.bipush (-4), 2) := by decide +kernel
theorem dX11_say_81 : decode cX11_say 81 = .ok (.ireturn, 1) := by decide +kernel
theorem dX11_say_82 : decode cX11_say 82 = .ok (.sipush 152, 3) := by decide +kernel
theorem dX11_say_85 : decode cX11_say 85 = .ok (.bipush 6, 2) := by decide +kernel
theorem dX11_say_87 : decode cX11_say 87 = .ok (.aload_n 0, 1) := by decide +kernel
theorem dX11_say_88 : decode cX11_say 88 = .ok (.getfield 7, 3) := by decide +kernel
theorem dX11_say_91 : decode cX11_say 91 = .ok (.iconst 1, 1) := by decide +kernel
theorem dX11_say_92 : decode cX11_say 92 = .ok (.iaload, 1) := by decide +kernel
theorem dX11_say_93 : decode cX11_say 93 = .ok (.imul, 1) := by decide +kernel
theorem dX11_say_94 : decode cX11_say 94 = .ok (.iadd, 1) := by decide +kernel
theorem dX11_say_95 : decode cX11_say 95 = .ok (.istore 6, 2) := by decide +kernel
theorem dX11_say_97 : decode cX11_say 97 = .ok (.aload_n 0, 1) := by decide +kernel
theorem dX11_say_98 : decode cX11_say 98 = .ok (.getfield 7, 3) := by decide +kernel
theorem dX11_say_101 : decode cX11_say 101 = .ok (.iload 6, 2) := by decide +kernel
theorem dX11_say_103 : decode cX11_say 103 = .ok (.iload_n 1, 1) := by decide +kernel
theorem dX11_say_104 : decode cX11_say 104 = .ok (.iastore, 1) := by decide +kernel
theorem dX11_say_105 : decode cX11_say 105 = .ok (.aload_n 0, 1) := by decide +kernel
theorem dX11_say_106 : decode cX11_say 106 = .ok (.getfield 7, 3) := by decide +kernel
theorem dX11_say_109 : decode cX11_say 109 = .ok (.iload 6, 2) := by decide +kernel
theorem dX11_say_111 : decode cX11_say 111 = .ok (.iconst 1, 1) := by decide +kernel
theorem dX11_say_112 : decode cX11_say 112 = .ok (.iadd, 1) := by decide +kernel
theorem dX11_say_113 : decode cX11_say 113 = .ok (.iload_n 2, 1) := by decide +kernel
theorem dX11_say_114 : decode cX11_say 114 = .ok (.iastore, 1) := by decide +kernel
theorem dX11_say_115 : decode cX11_say 115 = .ok (.aload_n 0, 1) := by decide +kernel
theorem dX11_say_116 : decode cX11_say 116 = .ok (.getfield 7, 3) := by decide +kernel
theorem dX11_say_119 : decode cX11_say 119 = .ok (.iload 6, 2) := by decide +kernel
theorem dX11_say_121 : decode cX11_say 121 = .ok (.iconst 2, 1) := by decide +kernel
theorem dX11_say_122 : decode cX11_say 122 = .ok (.iadd, 1) := by decide +kernel
theorem dX11_say_123 : decode cX11_say 123 = .ok (.iload_n 3, 1) := by decide +kernel
theorem dX11_say_124 : decode cX11_say 124 = .ok (.iastore, 1) := by decide +kernel
theorem dX11_say_125 : decode cX11_say 125 = .ok (.aload_n 0, 1) := by decide +kernel
theorem dX11_say_126 : decode cX11_say 126 = .ok (.getfield 7, 3) := by decide +kernel
theorem dX11_say_129 : decode cX11_say 129 = .ok (.iload 6, 2) := by decide +kernel
theorem dX11_say_131 : decode cX11_say 131 = .ok (.iconst 3, 1) := by decide +kernel
theorem dX11_say_132 : decode cX11_say 132 = .ok (.iadd, 1) := by decide +kernel
theorem dX11_say_133 : decode cX11_say 133 = .ok (.iload_n 2, 1) := by decide +kernel
theorem dX11_say_134 : decode cX11_say 134 = .ok (.iconst 2, 1) := by decide +kernel
theorem dX11_say_135 : decode cX11_say 135 = .ok (.if_icmp .ge 8, 3) := by decide +kernel
theorem dX11_say_138 : decode cX11_say 138 = .ok (.iload 4, 2) := by decide +kernel
theorem dX11_say_140 : decode cX11_say 140 = .ok (.goto 4, 3) := by decide +kernel
theorem dX11_say_143 : decode cX11_say 143 = .ok (.iconst 0, 1) := by decide +kernel
theorem dX11_say_144 : decode cX11_say 144 = .ok (.iastore, 1) := by decide +kernel
theorem dX11_say_145 : decode cX11_say 145 = .ok (.aload_n 0, 1) := by decide +kernel
theorem dX11_say_146 : decode cX11_say 146 = .ok (.getfield 7, 3) := by decide +kernel
theorem dX11_say_149 : decode cX11_say 149 = .ok (.iload 6, 2) := by decide +kernel
theorem dX11_say_151 : decode cX11_say 151 = .ok (.iconst 4, 1) := by decide +kernel
theorem dX11_say_152 : decode cX11_say 152 = .ok (.iadd, 1) := by decide +kernel
theorem dX11_say_153 : decode cX11_say 153 = .ok (.iload_n 2, 1) := by decide +kernel
theorem dX11_say_154 : decode cX11_say 154 = .ok (.ifCond .ne 8, 3) := by decide +kernel
theorem dX11_say_157 : decode cX11_say 157 = .ok (.iload 5, 2) := by decide +kernel
theorem dX11_say_159 : decode cX11_say 159 = .ok (.goto 4, 3) := by decide +kernel
theorem dX11_say_162 : decode cX11_say 162 = .ok (.iconst 0, 1) := by decide +kernel
theorem dX11_say_163 : decode cX11_say 163 = .ok (.iastore, 1) := by decide +kernel
theorem dX11_say_164 : decode cX11_say 164 = .ok (.aload_n 0, 1) := by decide +kernel
theorem dX11_say_165 : decode cX11_say 165 = .ok (.getfield 7, 3) := by decide +kernel
theorem dX11_say_168 : decode cX11_say 168 = .ok (.iload 6, 2) := by decide +kernel
theorem dX11_say_170 : decode cX11_say 170 = .ok (.iconst 5, 1) := by decide +kernel
theorem dX11_say_171 : decode cX11_say 171 = .ok (.iadd, 1) := by decide +kernel
theorem dX11_say_172 : decode cX11_say 172 = .ok (.iconst 0, 1) := by decide +kernel
theorem dX11_say_173 : decode cX11_say 173 = .ok (.iastore, 1) := by decide +kernel
theorem dX11_say_174 : decode cX11_say 174 = .ok (.aload_n 0, 1) := by decide +kernel
theorem dX11_say_175 : decode cX11_say 175 = .ok (.iconst 1, 1) := by decide +kernel
theorem dX11_say_176 : decode cX11_say 176 = .ok (.invokevirtual 69, 3) := by decide +kernel
theorem dX11_say_179 : decode cX11_say 179 = .ok (.ireturn, 1) := by decide +kernel
theorem dX11_deny_0 : decode cX11_deny 0 = .ok (.aload_n 0, 1) := by decide +kernel
theorem dX11_deny_1 : decode cX11_deny 1 = .ok (.iconst 1, 1) := by decide +kernel
theorem dX11_deny_2 : decode cX11_deny 2 = .ok (.iload_n 1, 1) := by decide +kernel
theorem dX11_deny_3 : decode cX11_deny 3 = .ok (.invokevirtual 135, 3) := by decide +kernel
theorem dX11_deny_6 : decode cX11_deny 6 = .ok (.ifCond .ne 6, 3) := by decide +kernel
theorem dX11_deny_9 : decode cX11_deny 9 = .ok (.bipush (-2), 2) := by decide +kernel
theorem dX11_deny_11 : decode cX11_deny 11 = .ok (.ireturn, 1) := by decide +kernel
theorem dX11_deny_12 : decode cX11_deny 12 = .ok (.aload_n 0, 1) := by decide +kernel
theorem dX11_deny_13 : decode cX11_deny 13 = .ok (.iload_n 1, 1) := by decide +kernel
theorem dX11_deny_14 : decode cX11_deny 14 = .ok (.iconst 5, 1) := by decide +kernel
theorem dX11_deny_15 : decode cX11_deny 15 = .ok (.invokevirtual 144, 3) := by decide +kernel
theorem dX11_deny_18 : decode cX11_deny 18 = .ok (.iconst 1, 1) := by decide +kernel
theorem dX11_deny_19 : decode cX11_deny 19 = .ok (.if_icmp .ne 7, 3) := by decide +kernel
theorem dX11_deny_22 : decode cX11_deny 22 = .ok (.iconst 1, 1) := by decide +kernel
theorem dX11_deny_23 : decode cX11_deny 23 = .ok (.goto 4, 3) := by decide +kernel
theorem dX11_deny_26 : decode cX11_deny 26 = .ok (.iconst 0, 1) := by decide +kernel
theorem dX11_deny_27 : decode cX11_deny 27 = .ok (.iload_n 2, 1) := by decide +kernel
theorem dX11_deny_28 : decode cX11_deny 28 = .ok (.if_icmp .ne 6, 3) := by decide +kernel
theorem dX11_deny_31 : decode cX11_deny 31 = .ok (.bipush (-3), 2) := by decide +kernel
theorem dX11_deny_33 : decode cX11_deny 33 = .ok (.ireturn, 1) := by decide +kernel
theorem dX11_deny_34 : decode cX11_deny 34 = .ok (.aload_n 0, 1) := by decide +kernel
theorem dX11_deny_35 : decode cX11_deny 35 = .ok (.getfield 7, 3) := by decide +kernel
theorem dX11_deny_38 : decode cX11_deny 38 = .ok (.sipush 152, 3) := by decide +kernel
theorem dX11_deny_41 : decode cX11_deny 41 = .ok (.bipush 6, 2) := by decide +kernel
theorem dX11_deny_43 : decode cX11_deny 43 = .ok (.iload_n 1, 1) := by decide +kernel
theorem dX11_deny_44 : decode cX11_deny 44 = .ok (.imul, 1) := by decide +kernel
theorem dX11_deny_45 : decode cX11_deny 45 = .ok (.iadd, 1) := by decide +kernel
theorem dX11_deny_46 : decode cX11_deny 46 = .ok (.iconst 5, 1) := by decide +kernel
theorem dX11_deny_47 : decode cX11_deny 47 = .ok (.iadd, 1) := by decide +kernel
theorem dX11_deny_48 : decode cX11_deny 48 = .ok (.iload_n 2, 1) := by decide +kernel
theorem dX11_deny_49 : decode cX11_deny 49 = .ok (.ifCond .eq 7, 3) := by decide +kernel
theorem dX11_deny_52 : decode cX11_deny 52 = .ok (.iconst 1, 1) := by decide +kernel
theorem dX11_deny_53 : decode cX11_deny 53 = .ok (.goto 4, 3) := by decide +kernel
theorem dX11_deny_56 : decode cX11_deny 56 = .ok (.iconst 0, 1) := by decide +kernel
theorem dX11_deny_57 : decode cX11_deny 57 = .ok (.iastore, 1) := by decide +kernel
theorem dX11_deny_58 : decode cX11_deny 58 = .ok (.iconst 1, 1) := by decide +kernel
theorem dX11_deny_59 : decode cX11_deny 59 = .ok (.ireturn, 1) := by decide +kernel
theorem dX11_lets_0 : decode cX11_lets 0 = .ok (.aload_n 0, 1) := by decide +kernel
theorem dX11_lets_1 : decode cX11_lets 1 = .ok (.iload_n 1, 1) := by decide +kernel
theorem dX11_lets_2 : decode cX11_lets 2 = .ok (.iconst 1, 1) := by decide +kernel
theorem dX11_lets_3 : decode cX11_lets 3 = .ok (.invokevirtual 144, 3) := by decide +kernel
theorem dX11_lets_6 : decode cX11_lets 6 = .ok (.istore_n 2, 1) := by decide +kernel
theorem dX11_lets_7 : decode cX11_lets 7 = .ok (.iload_n 2, 1) := by decide +kernel
theorem dX11_lets_8 : decode cX11_lets 8 = .ok (.ifCond .ne 22, 3) := by decide +kernel
theorem dX11_lets_11 : decode cX11_lets 11 = .ok (.aload_n 0, 1) := by decide +kernel
theorem dX11_lets_12 : decode cX11_lets 12 = .ok (.aload_n 0, 1) := by decide +kernel
theorem dX11_lets_13 : decode cX11_lets 13 = .ok (.iload_n 1, 1) := by decide +kernel
theorem dX11_lets_14 : decode cX11_lets 14 = .ok (.iconst 0, 1) := by decide +kernel
theorem dX11_lets_15 : decode cX11_lets 15 = .ok (.invokevirtual 144, 3) := by decide +kernel
theorem dX11_lets_18 : decode cX11_lets 18 = .ok (.aload_n 0, 1) := by decide +kernel
theorem dX11_lets_19 : decode cX11_lets 19 = .ok (.iload_n 1, 1) := by decide +kernel
theorem dX11_lets_20 : decode cX11_lets 20 = .ok (.iconst 4, 1) := by decide +kernel
theorem dX11_lets_21 : decode cX11_lets 21 = .ok (.invokevirtual 144, 3) := by decide +kernel
theorem dX11_lets_24 : decode cX11_lets 24 = .ok (.invokevirtual 139, 3) := by decide +kernel
theorem dX11_lets_27 : decode cX11_lets 27 = .ok (.goto 4, 3) := by decide +kernel
theorem dX11_lets_30 : decode cX11_lets 30 = .ok (.iconst 0, 1) := by decide +kernel
theorem dX11_lets_31 : decode cX11_lets 31 = .ok (.istore_n 3, 1) := by decide +kernel
theorem dX11_lets_32 : decode cX11_lets 32 = .ok (.aload_n 0, 1) := by decide +kernel
theorem dX11_lets_33 : decode cX11_lets 33 = .ok (.iload_n 2, 1) := by decide +kernel
theorem dX11_lets_34 : decode cX11_lets 34 = .ok (.iconst 2, 1) := by decide +kernel
theorem dX11_lets_35 : decode cX11_lets 35 = .ok (.if_icmp .ne 8, 3) := by decide +kernel
theorem dX11_lets_38 : decode cX11_lets 38 = .ok (.ldc 147, 2) := by decide +kernel
theorem dX11_lets_40 : decode cX11_lets 40 = .ok (.goto 18, 3) := by decide +kernel
theorem dX11_lets_43 : decode cX11_lets 43 = .ok (.aload_n 0, 1) := by decide +kernel
theorem dX11_lets_44 : decode cX11_lets 44 = .ok (.iload_n 1, 1) := by decide +kernel
theorem dX11_lets_45 : decode cX11_lets 45 = .ok (.iconst 2, 1) := by decide +kernel
theorem dX11_lets_46 : decode cX11_lets 46 = .ok (.invokevirtual 144, 3) := by decide +kernel
theorem dX11_lets_49 : decode cX11_lets 49 = .ok (.aload_n 0, 1) := by decide +kernel
theorem dX11_lets_50 : decode cX11_lets 50 = .ok (.iload_n 1, 1) := by decide +kernel
theorem dX11_lets_51 : decode cX11_lets 51 = .ok (.iconst 3, 1) := by decide +kernel
theorem dX11_lets_52 : decode cX11_lets 52 = .ok (.invokevirtual 144, 3) := by decide +kernel
theorem dX11_lets_55 : decode cX11_lets 55 = .ok (.isub, 1) := by decide +kernel
theorem dX11_lets_56 : decode cX11_lets 56 = .ok (.iload_n 3, 1) := by decide +kernel
theorem dX11_lets_57 : decode cX11_lets 57 = .ok (.iadd, 1) := by decide +kernel
theorem dX11_lets_58 : decode cX11_lets 58 = .ok (.putfield 148, 3) := by decide +kernel
theorem dX11_lets_61 : decode cX11_lets 61 = .ok (.aload_n 0, 1) := by decide +kernel
theorem dX11_lets_62 : decode cX11_lets 62 = .ok (.iload_n 2, 1) := by decide +kernel
theorem dX11_lets_63 : decode cX11_lets 63 = .ok (.iconst 3, 1) := by decide +kernel
theorem dX11_lets_64 : decode cX11_lets 64 = .ok (.if_icmp .ne 8, 3) := by decide +kernel
theorem dX11_lets_67 : decode cX11_lets 67 = .ok (.ldc 151, 2) := by decide +kernel
theorem dX11_lets_69 : decode cX11_lets 69 = .ok (.goto 18, 3) := by decide +kernel
theorem dX11_lets_72 : decode cX11_lets 72 = .ok (.aload_n 0, 1) := by decide +kernel
theorem dX11_lets_73 : decode cX11_lets 73 = .ok (.iload_n 1, 1) := by decide +kernel
theorem dX11_lets_74 : decode cX11_lets 74 = .ok (.iconst 2, 1) := by decide +kernel
theorem dX11_lets_75 : decode cX11_lets 75 = .ok (.invokevirtual 144, 3) := by decide +kernel
theorem dX11_lets_78 : decode cX11_lets 78 = .ok (.aload_n 0, 1) := by decide +kernel
theorem dX11_lets_79 : decode cX11_lets 79 = .ok (.iload_n 1, 1) := by decide +kernel
theorem dX11_lets_80 : decode cX11_lets 80 = .ok (.iconst 3, 1) := by decide +kernel
theorem dX11_lets_81 : decode cX11_lets 81 = .ok (.invokevirtual 144, 3) := by decide +kernel
theorem dX11_lets_84 : decode cX11_lets 84 = .ok (.iadd, 1) := by decide +kernel
theorem dX11_lets_85 : decode cX11_lets 85 = .ok (.iload_n 3, 1) := by decide +kernel
theorem dX11_lets_86 : decode cX11_lets 86 = .ok (.iadd, 1) := by decide +kernel
theorem dX11_lets_87 : decode cX11_lets 87 = .ok (.putfield 152, 3) := by decide +kernel
theorem dX11_lets_90 : decode cX11_lets 90 = .ok (.return_, 1) := by decide +kernel
theorem dX11_isOf_0 : decode cX11_isOf 0 = .ok (.aload_n 0, 1) := by decide +kernel
theorem dX11_isOf_1 : decode cX11_isOf 1 = .ok (.iload_n 1, 1) := by decide +kernel
theorem dX11_isOf_2 : decode cX11_isOf 2 = .ok (.iconst 0, 1) := by decide +kernel
theorem dX11_isOf_3 : decode cX11_isOf 3 = .ok (.invokevirtual 144, 3) := by decide +kernel
theorem dX11_isOf_6 : decode cX11_isOf 6 = .ok (.iload_n 2, 1) := by decide +kernel
theorem dX11_isOf_7 : decode cX11_isOf 7 = .ok (.if_icmp .ne 16, 3) := by decide +kernel
theorem dX11_isOf_10 : decode cX11_isOf 10 = .ok (.aload_n 0, 1) := by decide +kernel
theorem dX11_isOf_11 : decode cX11_isOf 11 = .ok (.iload_n 1, 1) := by decide +kernel
theorem dX11_isOf_12 : decode cX11_isOf 12 = .ok (.iconst 5, 1) := by decide +kernel
theorem dX11_isOf_13 : decode cX11_isOf 13 = .ok (.invokevirtual 144, 3) := by decide +kernel
theorem dX11_isOf_16 : decode cX11_isOf 16 = .ok (.ifCond .ne 7, 3) := by decide +kernel
theorem dX11_isOf_19 : decode cX11_isOf 19 = .ok (.iconst 1, 1) := by decide +kernel
theorem dX11_isOf_20 : decode cX11_isOf 20 = .ok (.goto 4, 3) := by decide +kernel
theorem dX11_isOf_23 : decode cX11_isOf 23 = .ok (.iconst 0, 1) := by decide +kernel
theorem dX11_isOf_24 : decode cX11_isOf 24 = .ok (.ireturn, 1) := by decide +kernel
theorem dX11_findFamily_0 : decode cX11_findFamily 0 = .ok (.aload_n 0, 1) := by decide +kernel
theorem dX11_findFamily_1 : decode cX11_findFamily 1 = .ok (.iload_n 1, 1) := by decide +kernel
theorem dX11_findFamily_2 : decode cX11_findFamily 2 = .ok (.iconst 3, 1) := by decide +kernel
theorem dX11_findFamily_3 : decode cX11_findFamily 3 = .ok (.invokevirtual 112, 3) := by decide +kernel
theorem dX11_findFamily_6 : decode cX11_findFamily 6 = .ok (.istore_n 2, 1) := by decide +kernel
theorem dX11_findFamily_7 : decode cX11_findFamily 7 = .ok (.aload_n 0, 1) := by decide +kernel
theorem dX11_findFamily_8 : decode cX11_findFamily 8 = .ok (.iload_n 2, 1) := by decide +kernel
theorem dX11_findFamily_9 : decode cX11_findFamily 9 = .ok (.iconst (-1), 1) := by decide +kernel
theorem dX11_findFamily_10 : decode cX11_findFamily 10 = .ok (.if_icmp .ne 7, 3) := by decide +kernel
theorem dX11_findFamily_13 : decode cX11_findFamily 13 = .ok (.iconst 1, 1) := by decide +kernel
theorem dX11_findFamily_14 : decode cX11_findFamily 14 = .ok (.goto 15, 3) := by decide +kernel
theorem dX11_findFamily_17 : decode cX11_findFamily 17 = .ok (.aload_n 0, 1) := by decide +kernel
theorem dX11_findFamily_18 : decode cX11_findFamily 18 = .ok (.getfield 7, 3) := by decide +kernel
theorem dX11_findFamily_21 : decode cX11_findFamily 21 = .ok (.sipush 140, 3) := by decide +kernel
theorem dX11_findFamily_24 : decode cX11_findFamily 24 = .ok (.iconst 3, 1) := by decide +kernel
theorem dX11_findFamily_25 : decode cX11_findFamily 25 = .ok (.iload_n 2, 1) := by decide +kernel
theorem dX11_findFamily_26 : decode cX11_findFamily 26 = .ok (.imul, 1) := by decide +kernel
theorem dX11_findFamily_27 : decode cX11_findFamily 27 = .ok (.iadd, 1) := by decide +kernel
theorem dX11_findFamily_28 : decode cX11_findFamily 28 = .ok (.iaload, 1) := by decide +kernel
theorem dX11_findFamily_29 : decode cX11_findFamily 29 = .ok (.putfield 155, 3) := by decide +kernel
theorem dX11_findFamily_32 : decode cX11_findFamily 32 = .ok (.aload_n 0, 1) := by decide +kernel
theorem dX11_findFamily_33 : decode cX11_findFamily 33 = .ok (.iload_n 2, 1) := by decide +kernel
theorem dX11_findFamily_34 : decode cX11_findFamily 34 = .ok (.iconst (-1), 1) := by decide +kernel
theorem dX11_findFamily_35 : decode cX11_findFamily 35 = .ok (.if_icmp .ne 7, 3) := by decide +kernel
theorem dX11_findFamily_38 : decode cX11_findFamily 38 = .ok (.iconst 1, 1) := by decide +kernel
theorem dX11_findFamily_39 : decode cX11_findFamily 39 = .ok (.goto 17, 3) := by decide +kernel
theorem dX11_findFamily_42 : decode cX11_findFamily 42 = .ok (.aload_n 0, 1) := by decide +kernel
theorem dX11_findFamily_43 : decode cX11_findFamily 43 = .ok (.getfield 7, 3) := by decide +kernel
theorem dX11_findFamily_46 : decode cX11_findFamily 46 = .ok (.sipush 140, 3) := by decide +kernel
theorem dX11_findFamily_49 : decode cX11_findFamily 49 = .ok (.iconst 3, 1) := by decide +kernel
theorem dX11_findFamily_50 : decode cX11_findFamily 50 = .ok (.iload_n 2, 1) := by decide +kernel
theorem dX11_findFamily_51 : decode cX11_findFamily 51 = .ok (.imul, 1) := by decide +kernel
theorem dX11_findFamily_52 : decode cX11_findFamily 52 = .ok (.iadd, 1) := by decide +kernel
theorem dX11_findFamily_53 : decode cX11_findFamily 53 = .ok (.iconst 1, 1) := by decide +kernel
theorem dX11_findFamily_54 : decode cX11_findFamily 54 = .ok (.iadd, 1) := by decide +kernel
theorem dX11_findFamily_55 : decode cX11_findFamily 55 = .ok (.iaload, 1) := by decide +kernel
theorem dX11_findFamily_56 : decode cX11_findFamily 56 = .ok (.putfield 158, 3) := by decide +kernel
theorem dX11_findFamily_59 : decode cX11_findFamily 59 = .ok (.aload_n 0, 1) := by decide +kernel
theorem dX11_findFamily_60 : decode cX11_findFamily 60 = .ok (.iload_n 2, 1) := by decide +kernel
theorem dX11_findFamily_61 : decode cX11_findFamily 61 = .ok (.iconst (-1), 1) := by decide +kernel
theorem dX11_findFamily_62 : decode cX11_findFamily 62 = .ok (.if_icmp .ne 8, 3) := by decide +kernel
theorem dX11_findFamily_65 : decode cX11_findFamily 65 = .ok (.ldc 52, 2) := by decide +kernel
theorem dX11_findFamily_67 : decode cX11_findFamily 67 = .ok (.goto 17, 3) := by decide +kernel
theorem dX11_findFamily_70 : decode cX11_findFamily 70 = .ok (.aload_n 0, 1) := by decide +kernel
theorem dX11_findFamily_71 : decode cX11_findFamily 71 = .ok (.getfield 7, 3) := by decide +kernel
theorem dX11_findFamily_74 : decode cX11_findFamily 74 = .ok (.sipush 140, 3) := by decide +kernel
theorem dX11_findFamily_77 : decode cX11_findFamily 77 = .ok (.iconst 3, 1) := by decide +kernel
theorem dX11_findFamily_78 : decode cX11_findFamily 78 = .ok (.iload_n 2, 1) := by decide +kernel
theorem dX11_findFamily_79 : decode cX11_findFamily 79 = .ok (.imul, 1) := by decide +kernel
theorem dX11_findFamily_80 : decode cX11_findFamily 80 = .ok (.iadd, 1) := by decide +kernel
theorem dX11_findFamily_81 : decode cX11_findFamily 81 = .ok (.iconst 2, 1) := by decide +kernel
theorem dX11_findFamily_82 : decode cX11_findFamily 82 = .ok (.iadd, 1) := by decide +kernel
theorem dX11_findFamily_83 : decode cX11_findFamily 83 = .ok (.iaload, 1) := by decide +kernel
theorem dX11_findFamily_84 : decode cX11_findFamily 84 = .ok (.putfield 161, 3) := by decide +kernel
theorem dX11_findFamily_87 : decode cX11_findFamily 87 = .ok (.return_, 1) := by decide +kernel
theorem dX11_numberFrom_0 : decode cX11_numberFrom 0 = .ok (.iload_n 1, 1) := by decide +kernel
theorem dX11_numberFrom_1 : decode cX11_numberFrom 1 = .ok (.aload_n 0, 1) := by decide +kernel
theorem dX11_numberFrom_2 : decode cX11_numberFrom 2 = .ok (.getfield 155, 3) := by decide +kernel
theorem dX11_numberFrom_5 : decode cX11_numberFrom 5 = .ok (.if_icmp .gt 7, 3) := by decide +kernel
theorem dX11_numberFrom_8 : decode cX11_numberFrom 8 = .ok (.iconst 0, 1) := by decide +kernel
theorem dX11_numberFrom_9 : decode cX11_numberFrom 9 = .ok (.goto 21, 3) := by decide +kernel
theorem dX11_numberFrom_12 : decode cX11_numberFrom 12 = .ok (.iload_n 1, 1) := by decide +kernel
theorem dX11_numberFrom_13 : decode cX11_numberFrom 13 = .ok (.aload_n 0, 1) := by decide +kernel
theorem dX11_numberFrom_14 : decode cX11_numberFrom 14 = .ok (.getfield 155, 3) := by decide +kernel
theorem dX11_numberFrom_17 : decode cX11_numberFrom 17 = .ok (.isub, 1) := by decide +kernel
theorem dX11_numberFrom_18 : decode cX11_numberFrom 18 = .ok (.aload_n 0, 1) := by decide +kernel
theorem dX11_numberFrom_19 : decode cX11_numberFrom 19 = .ok (.getfield 158, 3) := by decide +kernel
theorem dX11_numberFrom_22 : decode cX11_numberFrom 22 = .ok (.iadd, 1) := by decide +kernel
theorem dX11_numberFrom_23 : decode cX11_numberFrom 23 = .ok (.iconst 1, 1) := by decide +kernel
theorem dX11_numberFrom_24 : decode cX11_numberFrom 24 = .ok (.isub, 1) := by decide +kernel
theorem dX11_numberFrom_25 : decode cX11_numberFrom 25 = .ok (.aload_n 0, 1) := by decide +kernel
theorem dX11_numberFrom_26 : decode cX11_numberFrom 26 = .ok (.getfield 158, 3) := by decide +kernel
theorem dX11_numberFrom_29 : decode cX11_numberFrom 29 = .ok (.idiv, 1) := by decide +kernel
theorem dX11_numberFrom_30 : decode cX11_numberFrom 30 = .ok (.ireturn, 1) := by decide +kernel
theorem dX11_findFirst_0 : decode cX11_findFirst 0 = .ok (.aload_n 0, 1) := by decide +kernel
theorem dX11_findFirst_1 : decode cX11_findFirst 1 = .ok (.iload_n 1, 1) := by decide +kernel
theorem dX11_findFirst_2 : decode cX11_findFirst 2 = .ok (.invokevirtual 164, 3) := by decide +kernel
theorem dX11_findFirst_5 : decode cX11_findFirst 5 = .ok (.iconst 0, 1) := by decide +kernel
theorem dX11_findFirst_6 : decode cX11_findFirst 6 = .ok (.istore_n 2, 1) := by decide +kernel
theorem dX11_findFirst_7 : decode cX11_findFirst 7 = .ok (.aload_n 0, 1) := by decide +kernel
theorem dX11_findFirst_8 : decode cX11_findFirst 8 = .ok (.getfield 161, 3) := by decide +kernel
theorem dX11_findFirst_11 : decode cX11_findFirst 11 = .ok (.iconst 1, 1) := by decide +kernel
theorem dX11_findFirst_12 : decode cX11_findFirst 12 = .ok (.isub, 1) := by decide +kernel
theorem dX11_findFirst_13 : decode cX11_findFirst 13 = .ok (.istore_n 3, 1) := by decide +kernel
theorem dX11_findFirst_14 : decode cX11_findFirst 14 = .ok (.iconst 0, 1) := by decide +kernel
theorem dX11_findFirst_15 : decode cX11_findFirst 15 = .ok (.istore 4, 2) := by decide +kernel
theorem dX11_findFirst_17 : decode cX11_findFirst 17 = .ok (.iload 4, 2) := by decide +kernel
theorem dX11_findFirst_19 : decode cX11_findFirst 19 = .ok (.aload_n 0, 1) := by decide +kernel
theorem dX11_findFirst_20 : decode cX11_findFirst 20 = .ok (.getfield 7, 3) := by decide +kernel
theorem dX11_findFirst_23 : decode cX11_findFirst 23 = .ok (.iconst 1, 1) := by decide +kernel
theorem dX11_findFirst_24 : decode cX11_findFirst 24 = .ok (.iaload, 1) := by decide +kernel
theorem dX11_findFirst_25 : decode cX11_findFirst 25 = .ok (.if_icmp .ge 92, 3) := by decide +kernel
theorem dX11_findFirst_28 : decode cX11_findFirst 28 = .ok (.aload_n 0, 1) := by decide +kernel
theorem dX11_findFirst_29 : decode cX11_findFirst 29 = .ok (.iload 4, 2) := by decide +kernel
theorem dX11_findFirst_31 : decode cX11_findFirst 31 = .ok (.iload_n 1, 1) := by decide +kernel
theorem dX11_findFirst_32 : decode cX11_findFirst 32 = .ok (.invokevirtual 167, 3) := by decide +kernel
theorem dX11_findFirst_35 : decode cX11_findFirst 35 = .ok (.ifCond .eq 76, 3) := by decide +kernel
theorem dX11_findFirst_38 : decode cX11_findFirst 38 = .ok (.aload_n 0, 1) := by decide +kernel
theorem dX11_findFirst_39 : decode cX11_findFirst 39 = .ok (.iload 4, 2) := by decide +kernel
theorem dX11_findFirst_41 : decode cX11_findFirst 41 = .ok (.invokevirtual 170, 3) := by decide +kernel
theorem dX11_findFirst_44 : decode cX11_findFirst 44 = .ok (.aload_n 0, 1) := by decide +kernel
theorem dX11_findFirst_45 : decode cX11_findFirst 45 = .ok (.aload_n 0, 1) := by decide +kernel
theorem dX11_findFirst_46 : decode cX11_findFirst 46 = .ok (.getfield 148, 3) := by decide +kernel
theorem dX11_findFirst_49 : decode cX11_findFirst 49 = .ok (.invokevirtual 173, 3) := by decide +kernel
theorem dX11_findFirst_52 : decode cX11_findFirst 52 = .ok (.istore 5, 2) := by decide +kernel
theorem dX11_findFirst_54 : decode cX11_findFirst 54 = .ok (.aload_n 0, 1) := by decide +kernel
theorem dX11_findFirst_55 : decode cX11_findFirst 55 = .ok (.getfield 152, 3) := by decide +kernel
theorem dX11_findFirst_58 : decode cX11_findFirst 58 = .ok (.aload_n 0, 1) := by decide +kernel
theorem dX11_findFirst_59 : decode cX11_findFirst 59 = .ok (.getfield 155, 3) := by decide +kernel
theorem dX11_findFirst_62 : decode cX11_findFirst 62 = .ok (.if_icmp .ge 7, 3) := by decide +kernel
theorem dX11_findFirst_65 : decode cX11_findFirst 65 = .ok (.iconst (-1), 1) := by decide +kernel
theorem dX11_findFirst_66 : decode cX11_findFirst 66 = .ok (.goto 17, 3) := by decide +kernel
theorem dX11_findFirst_69 : decode cX11_findFirst 69 = .ok (.aload_n 0, 1) := by decide +kernel
theorem dX11_findFirst_70 : decode cX11_findFirst 70 = .ok (.getfield 152, 3) := by decide +kernel
theorem dX11_findFirst_73 : decode cX11_findFirst 73 = .ok (.aload_n 0, 1) := by decide +kernel
theorem dX11_findFirst_74 : decode cX11_findFirst 74 = .ok (.getfield 155, 3) := by decide +kernel
theorem dX11_findFirst_77 : decode cX11_findFirst 77 = .ok (.isub, 1) := by decide +kernel
theorem dX11_findFirst_78 : decode cX11_findFirst 78 = .ok (.aload_n 0, 1) := by decide +kernel
theorem dX11_findFirst_79 : decode cX11_findFirst 79 = .ok (.getfield 158, 3) := by decide +kernel
theorem dX11_findFirst_82 : decode cX11_findFirst 82 = .ok (.idiv, 1) := by decide +kernel
theorem dX11_findFirst_83 : decode cX11_findFirst 83 = .ok (.istore 6, 2) := by decide +kernel
theorem dX11_findFirst_85 : decode cX11_findFirst 85 = .ok (.iload 5, 2) := by decide +kernel
theorem dX11_findFirst_87 : decode cX11_findFirst 87 = .ok (.iload_n 2, 1) := by decide +kernel
theorem dX11_findFirst_88 : decode cX11_findFirst 88 = .ok (.if_icmp .le 8, 3) := by decide +kernel
theorem dX11_findFirst_91 : decode cX11_findFirst 91 = .ok (.iload 5, 2) := by decide +kernel
theorem dX11_findFirst_93 : decode cX11_findFirst 93 = .ok (.goto 4, 3) := by decide +kernel
theorem dX11_findFirst_96 : decode cX11_findFirst 96 = .ok (.iload_n 2, 1) := by decide +kernel
theorem dX11_findFirst_97 : decode cX11_findFirst 97 = .ok (.istore_n 2, 1) := by decide +kernel
theorem dX11_findFirst_98 : decode cX11_findFirst 98 = .ok (.iload 6, 2) := by decide +kernel
theorem dX11_findFirst_100 : decode cX11_findFirst 100 = .ok (.iload_n 3, 1) := by decide +kernel
theorem dX11_findFirst_101 : decode cX11_findFirst 101 = .ok (.if_icmp .ge 8, 3) := by decide +kernel
theorem dX11_findFirst_104 : decode cX11_findFirst 104 = .ok (.iload 6, 2) := by decide +kernel
theorem dX11_findFirst_106 : decode cX11_findFirst 106 = .ok (.goto 4, 3) := by decide +kernel
theorem dX11_findFirst_109 : decode cX11_findFirst 109 = .ok (.iload_n 3, 1) := by decide +kernel
theorem dX11_findFirst_110 : decode cX11_findFirst 110 = .ok (.istore_n 3, 1) := by decide +kernel
theorem dX11_findFirst_111 : decode cX11_findFirst 111 = .ok (.iinc 4 1, 3) := by decide +kernel
theorem dX11_findFirst_114 : decode cX11_findFirst 114 = .ok (.goto (-97), 3) := by decide +kernel
theorem dX11_findFirst_117 : decode cX11_findFirst 117 = .ok (.aload_n 0, 1) := by decide +kernel
theorem dX11_findFirst_118 : decode cX11_findFirst 118 = .ok (.iload_n 2, 1) := by decide +kernel
theorem dX11_findFirst_119 : decode cX11_findFirst 119 = .ok (.putfield 176, 3) := by decide +kernel
theorem dX11_findFirst_122 : decode cX11_findFirst 122 = .ok (.aload_n 0, 1) := by decide +kernel
theorem dX11_findFirst_123 : decode cX11_findFirst 123 = .ok (.iload_n 3, 1) := by decide +kernel
theorem dX11_findFirst_124 : decode cX11_findFirst 124 = .ok (.iload_n 2, 1) := by decide +kernel
theorem dX11_findFirst_125 : decode cX11_findFirst 125 = .ok (.if_icmp .ge 7, 3) := by decide +kernel
theorem dX11_findFirst_128 : decode cX11_findFirst 128 = .ok (.iconst 0, 1) := by decide +kernel
theorem dX11_findFirst_129 : decode cX11_findFirst 129 = .ok (.goto 8, 3) := by decide +kernel
theorem dX11_findFirst_132 : decode cX11_findFirst 132 = .ok (.iload_n 3, 1) := by decide +kernel
theorem dX11_findFirst_133 : decode cX11_findFirst 133 = .ok (.iload_n 2, 1) := by decide +kernel
theorem dX11_findFirst_134 : decode cX11_findFirst 134 = .ok (.isub, 1) := by decide +kernel
theorem dX11_findFirst_135 : decode cX11_findFirst 135 = .ok (.iconst 1, 1) := by decide +kernel
theorem dX11_findFirst_136 : decode cX11_findFirst 136 = .ok (.iadd, 1) := by decide +kernel
theorem dX11_findFirst_137 : decode cX11_findFirst 137 = .ok (.putfield 179, 3) := by decide +kernel
theorem dX11_findFirst_140 : decode cX11_findFirst 140 = .ok (.return_, 1) := by decide +kernel
theorem dX11_firstOf_0 : decode cX11_firstOf 0 = .ok (.aload_n 0, 1) := by decide +kernel
theorem dX11_firstOf_1 : decode cX11_firstOf 1 = .ok (.iload_n 1, 1) := by decide +kernel
theorem dX11_firstOf_2 : decode cX11_firstOf 2 = .ok (.invokevirtual 182, 3) := by decide +kernel
theorem dX11_firstOf_5 : decode cX11_firstOf 5 = .ok (.iload_n 2, 1) := by decide +kernel
theorem dX11_firstOf_6 : decode cX11_firstOf 6 = .ok (.iconst 2, 1) := by decide +kernel
theorem dX11_firstOf_7 : decode cX11_firstOf 7 = .ok (.if_icmp .ne 8, 3) := by decide +kernel
theorem dX11_firstOf_10 : decode cX11_firstOf 10 = .ok (.aload_n 0, 1) := by decide +kernel
theorem dX11_firstOf_11 : decode cX11_firstOf 11 = .ok (.getfield 179, 3) := by decide +kernel
theorem dX11_firstOf_14 : decode cX11_firstOf 14 = .ok (.ireturn, 1) := by decide +kernel
theorem dX11_firstOf_15 : decode cX11_firstOf 15 = .ok (.aload_n 0, 1) := by decide +kernel
theorem dX11_firstOf_16 : decode cX11_firstOf 16 = .ok (.getfield 179, 3) := by decide +kernel
theorem dX11_firstOf_19 : decode cX11_firstOf 19 = .ok (.ifCond .ne 7, 3) := by decide +kernel
theorem dX11_firstOf_22 : decode cX11_firstOf 22 = .ok (.iconst (-1), 1) := by decide +kernel
theorem dX11_firstOf_23 : decode cX11_firstOf 23 = .ok (.goto 35, 3) := by decide +kernel
theorem dX11_firstOf_26 : decode cX11_firstOf 26 = .ok (.aload_n 0, 1) := by decide +kernel
theorem dX11_firstOf_27 : decode cX11_firstOf 27 = .ok (.getfield 155, 3) := by decide +kernel
theorem dX11_firstOf_30 : decode cX11_firstOf 30 = .ok (.aload_n 0, 1) := by decide +kernel
theorem dX11_firstOf_31 : decode cX11_firstOf 31 = .ok (.getfield 158, 3) := by decide +kernel
theorem dX11_firstOf_34 : decode cX11_firstOf 34 = .ok (.iload_n 2, 1) := by decide +kernel
theorem dX11_firstOf_35 : decode cX11_firstOf 35 = .ok (.ifCond .ne 10, 3) := by decide +kernel
theorem dX11_firstOf_38 : decode cX11_firstOf 38 = .ok (.aload_n 0, 1) := by decide +kernel
theorem dX11_firstOf_39 : decode cX11_firstOf 39 = .ok (.getfield 176, 3) := by decide +kernel
theorem dX11_firstOf_42 : decode cX11_firstOf 42 = .ok (.goto 14, 3) := by decide +kernel
theorem dX11_firstOf_45 : decode cX11_firstOf 45 = .ok (.aload_n 0, 1) := by decide +kernel
theorem dX11_firstOf_46 : decode cX11_firstOf 46 = .ok (.getfield 176, 3) := by decide +kernel
theorem dX11_firstOf_49 : decode cX11_firstOf 49 = .ok (.aload_n 0, 1) := by decide +kernel
theorem dX11_firstOf_50 : decode cX11_firstOf 50 = .ok (.getfield 179, 3) := by decide +kernel
theorem dX11_firstOf_53 : decode cX11_firstOf 53 = .ok (.iadd, 1) := by decide +kernel
theorem dX11_firstOf_54 : decode cX11_firstOf 54 = .ok (.iconst 1, 1) := by decide +kernel
theorem dX11_firstOf_55 : decode cX11_firstOf 55 = .ok (.isub, 1) := by decide +kernel
theorem dX11_firstOf_56 : decode cX11_firstOf 56 = .ok (.imul, 1) := by decide +kernel
theorem dX11_firstOf_57 : decode cX11_firstOf 57 = .ok (.iadd, 1) := by decide +kernel
theorem dX11_firstOf_58 : decode cX11_firstOf 58 = .ok (.ireturn, 1) := by decide +kernel
theorem dX11_first_0 : decode cX11_first 0 = .ok (.aload_n 0, 1) := by decide +kernel
theorem dX11_first_1 : decode cX11_first 1 = .ok (.iconst 0, 1) := by decide +kernel
theorem dX11_first_2 : decode cX11_first 2 = .ok (.iload_n 1, 1) := by decide +kernel
theorem dX11_first_3 : decode cX11_first 3 = .ok (.invokevirtual 135, 3) := by decide +kernel
theorem dX11_first_6 : decode cX11_first 6 = .ok (.ifCond .eq 24, 3) := by decide +kernel
theorem dX11_first_9 : decode cX11_first 9 = .ok (.iload_n 2, 1) := by decide +kernel
theorem dX11_first_10 : decode cX11_first 10 = .ok (.i2l, 1) := by decide +kernel
theorem dX11_first_11 : decode cX11_first 11 = .ok (.lconst 0, 1) := by decide +kernel
theorem dX11_first_12 : decode cX11_first 12 = .ok (.ldc2_w 185, 3) := by decide +kernel
theorem dX11_first_15 : decode cX11_first 15 = .ok (.invokestatic 53, 3) := by decide +kernel
theorem dX11_first_18 : decode cX11_first 18 = .ok (.ifCond .eq 12, 3) := by decide +kernel
theorem dX11_first_21 : decode cX11_first 21 = .ok (.aload_n 0, 1) := by decide +kernel
theorem dX11_first_22 : decode cX11_first 22 = .ok (.iload_n 1, 1) := by decide +kernel
theorem dX11_first_23 : decode cX11_first 23 = .ok (.iload_n 2, 1) := by decide +kernel
theorem dX11_first_24 : decode cX11_first 24 = .ok (.invokevirtual 187, 3) := by decide +kernel
theorem dX11_first_27 : decode cX11_first 27 = .ok (.goto 5, 3) := by decide +kernel
theorem dX11_first_30 : decode cX11_first 30 = .ok (.bipush (-2), 2) := by decide +kernel
theorem dX11_first_32 : decode cX11_first 32 = .ok (.ireturn, 1) := by decide +kernel
theorem dX11_quarrels_0 : decode cX11_quarrels 0 = .ok (.aload_n 0, 1) := by decide +kernel
theorem dX11_quarrels_1 : decode cX11_quarrels 1 = .ok (.iload_n 1, 1) := by decide +kernel
theorem dX11_quarrels_2 : decode cX11_quarrels 2 = .ok (.iload_n 2, 1) := by decide +kernel
theorem dX11_quarrels_3 : decode cX11_quarrels 3 = .ok (.invokevirtual 167, 3) := by decide +kernel
theorem dX11_quarrels_6 : decode cX11_quarrels 6 = .ok (.ifCond .ne 5, 3) := by decide +kernel
theorem dX11_quarrels_9 : decode cX11_quarrels 9 = .ok (.iconst 0, 1) := by decide +kernel
theorem dX11_quarrels_10 : decode cX11_quarrels 10 = .ok (.ireturn, 1) := by decide +kernel
theorem dX11_quarrels_11 : decode cX11_quarrels 11 = .ok (.aload_n 0, 1) := by decide +kernel
theorem dX11_quarrels_12 : decode cX11_quarrels 12 = .ok (.iload_n 1, 1) := by decide +kernel
theorem dX11_quarrels_13 : decode cX11_quarrels 13 = .ok (.invokevirtual 170, 3) := by decide +kernel
theorem dX11_quarrels_16 : decode cX11_quarrels 16 = .ok (.iload_n 3, 1) := by decide +kernel
theorem dX11_quarrels_17 : decode cX11_quarrels 17 = .ok (.i2l, 1) := by decide +kernel
theorem dX11_quarrels_18 : decode cX11_quarrels 18 = .ok (.aload_n 0, 1) := by decide +kernel
theorem dX11_quarrels_19 : decode cX11_quarrels 19 = .ok (.getfield 148, 3) := by decide +kernel
theorem dX11_quarrels_22 : decode cX11_quarrels 22 = .ok (.i2l, 1) := by decide +kernel
theorem dX11_quarrels_23 : decode cX11_quarrels 23 = .ok (.aload_n 0, 1) := by decide +kernel
theorem dX11_quarrels_24 : decode cX11_quarrels 24 = .ok (.getfield 152, 3) := by decide +kernel
theorem dX11_quarrels_27 : decode cX11_quarrels 27 = .ok (.i2l, 1) := by decide +kernel
theorem dX11_quarrels_28 : decode cX11_quarrels 28 = .ok (.invokestatic 53, 3) := by decide +kernel
theorem dX11_quarrels_31 : decode cX11_quarrels 31 = .ok (.ifCond .ne 7, 3) := by decide +kernel
theorem dX11_quarrels_34 : decode cX11_quarrels 34 = .ok (.iconst 1, 1) := by decide +kernel
theorem dX11_quarrels_35 : decode cX11_quarrels 35 = .ok (.goto 4, 3) := by decide +kernel
theorem dX11_quarrels_38 : decode cX11_quarrels 38 = .ok (.iconst 0, 1) := by decide +kernel
theorem dX11_quarrels_39 : decode cX11_quarrels 39 = .ok (.ireturn, 1) := by decide +kernel
theorem dX11_tries_0 : decode cX11_tries 0 = .ok (.iload_n 2, 1) := by decide +kernel
theorem dX11_tries_1 : decode cX11_tries 1 = .ok (.i2l, 1) := by decide +kernel
theorem dX11_tries_2 : decode cX11_tries 2 = .ok (.lconst 0, 1) := by decide +kernel
theorem dX11_tries_3 : decode cX11_tries 3 = .ok (.aload_n 0, 1) := by decide +kernel
theorem dX11_tries_4 : decode cX11_tries 4 = .ok (.getfield 161, 3) := by decide +kernel
theorem dX11_tries_7 : decode cX11_tries 7 = .ok (.iconst 1, 1) := by decide +kernel
theorem dX11_tries_8 : decode cX11_tries 8 = .ok (.isub, 1) := by decide +kernel
theorem dX11_tries_9 : decode cX11_tries 9 = .ok (.i2l, 1) := by decide +kernel
theorem dX11_tries_10 : decode cX11_tries 10 = .ok (.invokestatic 53, 3) := by decide +kernel
theorem dX11_tries_13 : decode cX11_tries 13 = .ok (.ifCond .ne 4, 3) := by decide +kernel
theorem dX11_tries_16 : decode cX11_tries 16 = .ok (.return_, 1) := by decide +kernel
theorem dX11_tries_17 : decode cX11_tries 17 = .ok (.aload_n 0, 1) := by decide +kernel
theorem dX11_tries_18 : decode cX11_tries 18 = .ok (.getfield 155, 3) := by decide +kernel
theorem dX11_tries_21 : decode cX11_tries 21 = .ok (.aload_n 0, 1) := by decide +kernel
theorem dX11_tries_22 : decode cX11_tries 22 = .ok (.getfield 158, 3) := by decide +kernel
theorem dX11_tries_25 : decode cX11_tries 25 = .ok (.iload_n 2, 1) := by decide +kernel
theorem dX11_tries_26 : decode cX11_tries 26 = .ok (.imul, 1) := by decide +kernel
theorem dX11_tries_27 : decode cX11_tries 27 = .ok (.iadd, 1) := by decide +kernel
theorem dX11_tries_28 : decode cX11_tries 28 = .ok (.istore_n 3, 1) := by decide +kernel
theorem dX11_tries_29 : decode cX11_tries 29 = .ok (.iconst 0, 1) := by decide +kernel
theorem dX11_tries_30 : decode cX11_tries 30 = .ok (.istore 4, 2) := by decide +kernel
theorem dX11_tries_32 : decode cX11_tries 32 = .ok (.iconst 0, 1) := by decide +kernel
theorem dX11_tries_33 : decode cX11_tries 33 = .ok (.istore 5, 2) := by decide +kernel
theorem dX11_tries_35 : decode cX11_tries 35 = .ok (.iload 5, 2) := by decide +kernel
theorem dX11_tries_37 : decode cX11_tries 37 = .ok (.aload_n 0, 1) := by decide +kernel
theorem dX11_tries_38 : decode cX11_tries 38 = .ok (.getfield 7, 3) := by decide +kernel
theorem dX11_tries_41 : decode cX11_tries 41 = .ok (.iconst 1, 1) := by decide +kernel
theorem dX11_tries_42 : decode cX11_tries 42 = .ok (.iaload, 1) := by decide +kernel
theorem dX11_tries_43 : decode cX11_tries 43 = .ok (.if_icmp .ge 30, 3) := by decide +kernel
theorem dX11_tries_46 : decode cX11_tries 46 = .ok (.iload 4, 2) := by decide +kernel
theorem dX11_tries_48 : decode cX11_tries 48 = .ok (.aload_n 0, 1) := by decide +kernel
theorem dX11_tries_49 : decode cX11_tries 49 = .ok (.iload 5, 2) := by decide +kernel
theorem dX11_tries_51 : decode cX11_tries 51 = .ok (.iload_n 1, 1) := by decide +kernel
theorem dX11_tries_52 : decode cX11_tries 52 = .ok (.iload_n 3, 1) := by decide +kernel
theorem dX11_tries_53 : decode cX11_tries 53 = .ok (.invokevirtual 190, 3) := by decide +kernel
theorem dX11_tries_56 : decode cX11_tries 56 = .ok (.ifCond .eq 7, 3) := by decide +kernel
theorem dX11_tries_59 : decode cX11_tries 59 = .ok (.iconst 1, 1) := by decide +kernel
theorem dX11_tries_60 : decode cX11_tries 60 = .ok (.goto 4, 3) := by decide +kernel
theorem dX11_tries_63 : decode cX11_tries 63 = .ok (.iconst 0, 1) := by decide +kernel
theorem dX11_tries_64 : decode cX11_tries 64 = .ok (.iadd, 1) := by decide +kernel
theorem dX11_tries_65 : decode cX11_tries 65 = .ok (.istore 4, 2) := by decide +kernel
theorem dX11_tries_67 : decode cX11_tries 67 = .ok (.iinc 5 1, 3) := by decide +kernel
theorem dX11_tries_70 : decode cX11_tries 70 = .ok (.goto (-35), 3) := by decide +kernel
theorem dX11_tries_73 : decode cX11_tries 73 = .ok (.aload_n 0, 1) := by decide +kernel
theorem dX11_tries_74 : decode cX11_tries 74 = .ok (.getfield 194, 3) := by decide +kernel
theorem dX11_tries_77 : decode cX11_tries 77 = .ok (.iconst (-1), 1) := by decide +kernel
theorem dX11_tries_78 : decode cX11_tries 78 = .ok (.if_icmp .eq 29, 3) := by decide +kernel
theorem dX11_tries_81 : decode cX11_tries 81 = .ok (.iload 4, 2) := by decide +kernel
theorem dX11_tries_83 : decode cX11_tries 83 = .ok (.aload_n 0, 1) := by decide +kernel
theorem dX11_tries_84 : decode cX11_tries 84 = .ok (.getfield 194, 3) := by decide +kernel
theorem dX11_tries_87 : decode cX11_tries 87 = .ok (.if_icmp .lt 20, 3) := by decide +kernel
theorem dX11_tries_90 : decode cX11_tries 90 = .ok (.iload 4, 2) := by decide +kernel
theorem dX11_tries_92 : decode cX11_tries 92 = .ok (.aload_n 0, 1) := by decide +kernel
theorem dX11_tries_93 : decode cX11_tries 93 = .ok (.getfield 194, 3) := by decide +kernel
theorem dX11_tries_96 : decode cX11_tries 96 = .ok (.if_icmp .ne 22, 3) := by decide +kernel
theorem dX11_tries_99 : decode cX11_tries 99 = .ok (.iload_n 3, 1) := by decide +kernel
theorem dX11_tries_100 : decode cX11_tries 100 = .ok (.aload_n 0, 1) := by decide +kernel
theorem dX11_tries_101 : decode cX11_tries 101 = .ok (.getfield 197, 3) := by decide +kernel
theorem dX11_tries_104 : decode cX11_tries 104 = .ok (.if_icmp .ge 14, 3) := by decide +kernel
theorem dX11_tries_107 : decode cX11_tries 107 = .ok (.aload_n 0, 1) := by decide +kernel
theorem dX11_tries_108 : decode cX11_tries 108 = .ok (.iload 4, 2) := by decide +kernel
theorem dX11_tries_110 : decode cX11_tries 110 = .ok (.putfield 194, 3) := by decide +kernel
theorem dX11_tries_113 : decode cX11_tries 113 = .ok (.aload_n 0, 1) := by decide +kernel
theorem dX11_tries_114 : decode cX11_tries 114 = .ok (.iload_n 3, 1) := by decide +kernel
theorem dX11_tries_115 : decode cX11_tries 115 = .ok (.putfield 197, 3) := by decide +kernel
theorem dX11_tries_118 : decode cX11_tries 118 = .ok (.return_, 1) := by decide +kernel
theorem dX11_quarrel_0 : decode cX11_quarrel 0 = .ok (.aload_n 0, 1) := by decide +kernel
theorem dX11_quarrel_1 : decode cX11_quarrel 1 = .ok (.iconst 0, 1) := by decide +kernel
theorem dX11_quarrel_2 : decode cX11_quarrel 2 = .ok (.iload_n 1, 1) := by decide +kernel
theorem dX11_quarrel_3 : decode cX11_quarrel 3 = .ok (.invokevirtual 135, 3) := by decide +kernel
theorem dX11_quarrel_6 : decode cX11_quarrel 6 = .ok (.ifCond .eq 14, 3) := by decide +kernel
theorem dX11_quarrel_9 : decode cX11_quarrel 9 = .ok (.iload_n 2, 1) := by decide +kernel
theorem dX11_quarrel_10 : decode cX11_quarrel 10 = .ok (.iconst (-1), 1) := by decide +kernel
theorem dX11_quarrel_11 : decode cX11_quarrel 11 = .ok (.if_icmp .ge 12, 3) := by decide +kernel
theorem dX11_quarrel_14 : decode cX11_quarrel 14 = .ok (.iload_n 2, 1) := by decide +kernel
theorem dX11_quarrel_15 : decode cX11_quarrel 15 = .ok (.bipush (-3), 2) := by decide +kernel
theorem dX11_quarrel_17 : decode cX11_quarrel 17 = .ok (.if_icmp .eq 6, 3) := by decide +kernel
theorem dX11_quarrel_20 : decode cX11_quarrel 20 = .ok (.bipush (-10), 2) := by decide +kernel
theorem dX11_quarrel_22 : decode cX11_quarrel 22 = .ok (.ireturn, 1) := by decide +kernel
theorem dX11_quarrel_23 : decode cX11_quarrel 23 = .ok (.aload_n 0, 1) := by decide +kernel
theorem dX11_quarrel_24 : decode cX11_quarrel 24 = .ok (.iload_n 1, 1) := by decide +kernel
theorem dX11_quarrel_25 : decode cX11_quarrel 25 = .ok (.invokevirtual 164, 3) := by decide +kernel
theorem dX11_quarrel_28 : decode cX11_quarrel 28 = .ok (.aload_n 0, 1) := by decide +kernel
theorem dX11_quarrel_29 : decode cX11_quarrel 29 = .ok (.iconst (-1), 1) := by decide +kernel
theorem dX11_quarrel_30 : decode cX11_quarrel 30 = .ok (.putfield 194, 3) := by decide +kernel
theorem dX11_quarrel_33 : decode cX11_quarrel 33 = .ok (.aload_n 0, 1) := by decide +kernel
theorem dX11_quarrel_34 : decode cX11_quarrel 34 = .ok (.iload_n 1, 1) := by decide +kernel
theorem dX11_quarrel_35 : decode cX11_quarrel 35 = .ok (.iconst 0, 1) := by decide +kernel
theorem dX11_quarrel_36 : decode cX11_quarrel 36 = .ok (.invokevirtual 200, 3) := by decide +kernel
theorem dX11_quarrel_39 : decode cX11_quarrel 39 = .ok (.iconst 0, 1) := by decide +kernel
theorem dX11_quarrel_40 : decode cX11_quarrel 40 = .ok (.istore_n 3, 1) := by decide +kernel
theorem dX11_quarrel_41 : decode cX11_quarrel 41 = .ok (.iload_n 3, 1) := by decide +kernel
theorem dX11_quarrel_42 : decode cX11_quarrel 42 = .ok (.aload_n 0, 1) := by decide +kernel
theorem dX11_quarrel_43 : decode cX11_quarrel 43 = .ok (.getfield 7, 3) := by decide +kernel
theorem dX11_quarrel_46 : decode cX11_quarrel 46 = .ok (.iconst 1, 1) := by decide +kernel
theorem dX11_quarrel_47 : decode cX11_quarrel 47 = .ok (.iaload, 1) := by decide +kernel
theorem dX11_quarrel_48 : decode cX11_quarrel 48 = .ok (.if_icmp .ge 55, 3) := by decide +kernel
theorem dX11_quarrel_51 : decode cX11_quarrel 51 = .ok (.aload_n 0, 1) := by decide +kernel
theorem dX11_quarrel_52 : decode cX11_quarrel 52 = .ok (.iload_n 3, 1) := by decide +kernel
theorem dX11_quarrel_53 : decode cX11_quarrel 53 = .ok (.iload_n 1, 1) := by decide +kernel
theorem dX11_quarrel_54 : decode cX11_quarrel 54 = .ok (.invokevirtual 167, 3) := by decide +kernel
theorem dX11_quarrel_57 : decode cX11_quarrel 57 = .ok (.ifCond .eq 40, 3) := by decide +kernel
theorem dX11_quarrel_60 : decode cX11_quarrel 60 = .ok (.aload_n 0, 1) := by decide +kernel
theorem dX11_quarrel_61 : decode cX11_quarrel 61 = .ok (.iload_n 3, 1) := by decide +kernel
theorem dX11_quarrel_62 : decode cX11_quarrel 62 = .ok (.invokevirtual 170, 3) := by decide +kernel
theorem dX11_quarrel_65 : decode cX11_quarrel 65 = .ok (.aload_n 0, 1) := by decide +kernel
theorem dX11_quarrel_66 : decode cX11_quarrel 66 = .ok (.getfield 152, 3) := by decide +kernel
theorem dX11_quarrel_69 : decode cX11_quarrel 69 = .ok (.istore 4, 2) := by decide +kernel
theorem dX11_quarrel_71 : decode cX11_quarrel 71 = .ok (.aload_n 0, 1) := by decide +kernel
theorem dX11_quarrel_72 : decode cX11_quarrel 72 = .ok (.iload_n 1, 1) := by decide +kernel
theorem dX11_quarrel_73 : decode cX11_quarrel 73 = .ok (.aload_n 0, 1) := by decide +kernel
theorem dX11_quarrel_74 : decode cX11_quarrel 74 = .ok (.aload_n 0, 1) := by decide +kernel
theorem dX11_quarrel_75 : decode cX11_quarrel 75 = .ok (.getfield 148, 3) := by decide +kernel
theorem dX11_quarrel_78 : decode cX11_quarrel 78 = .ok (.invokevirtual 173, 3) := by decide +kernel
theorem dX11_quarrel_81 : decode cX11_quarrel 81 = .ok (.invokevirtual 200, 3) := by decide +kernel
theorem dX11_quarrel_84 : decode cX11_quarrel 84 = .ok (.aload_n 0, 1) := by decide +kernel
theorem dX11_quarrel_85 : decode cX11_quarrel 85 = .ok (.iload_n 1, 1) := by decide +kernel
theorem dX11_quarrel_86 : decode cX11_quarrel 86 = .ok (.aload_n 0, 1) := by decide +kernel
theorem dX11_quarrel_87 : decode cX11_quarrel 87 = .ok (.iload 4, 2) := by decide +kernel
theorem dX11_quarrel_89 : decode cX11_quarrel 89 = .ok (.iconst 1, 1) := by decide +kernel
theorem dX11_quarrel_90 : decode cX11_quarrel 90 = .ok (.iadd, 1) := by decide +kernel
theorem dX11_quarrel_91 : decode cX11_quarrel 91 = .ok (.invokevirtual 173, 3) := by decide +kernel
theorem dX11_quarrel_94 : decode cX11_quarrel 94 = .ok (.invokevirtual 200, 3) := by decide +kernel
theorem dX11_quarrel_97 : decode cX11_quarrel 97 = .ok (.iinc 3 1, 3) := by decide +kernel
theorem dX11_quarrel_100 : decode cX11_quarrel 100 = .ok (.goto (-59), 3) := by decide +kernel
theorem dX11_quarrel_103 : decode cX11_quarrel 103 = .ok (.iload_n 2, 1) := by decide +kernel
theorem dX11_quarrel_104 : decode cX11_quarrel 104 = .ok (.ifCond .ge 20, 3) := by decide +kernel
theorem dX11_quarrel_107 : decode cX11_quarrel 107 = .ok (.iload_n 2, 1) := by decide +kernel
theorem dX11_quarrel_108 : decode cX11_quarrel 108 = .ok (.iconst (-1), 1) := by decide +kernel
theorem dX11_quarrel_109 : decode cX11_quarrel 109 = .ok (.if_icmp .ne 10, 3) := by decide +kernel
theorem dX11_quarrel_112 : decode cX11_quarrel 112 = .ok (.aload_n 0, 1) := by decide +kernel
theorem dX11_quarrel_113 : decode cX11_quarrel 113 = .ok (.getfield 194, 3) := by decide +kernel
theorem dX11_quarrel_116 : decode cX11_quarrel 116 = .ok (.goto 7, 3) := by decide +kernel
theorem dX11_quarrel_119 : decode cX11_quarrel 119 = .ok (.aload_n 0, 1) := by decide +kernel
theorem dX11_quarrel_120 : decode cX11_quarrel 120 = .ok (.getfield 197, 3) := by decide +kernel
theorem dX11_quarrel_123 : decode cX11_quarrel 123 = .ok (.ireturn, 1) := by decide +kernel
theorem dX11_quarrel_124 : decode cX11_quarrel 124 = .ok (.iconst 0, 1) := by decide +kernel
theorem dX11_quarrel_125 : decode cX11_quarrel 125 = .ok (.istore_n 3, 1) := by decide +kernel
theorem dX11_quarrel_126 : decode cX11_quarrel 126 = .ok (.iconst 0, 1) := by decide +kernel
theorem dX11_quarrel_127 : decode cX11_quarrel 127 = .ok (.istore 4, 2) := by decide +kernel
theorem dX11_quarrel_129 : decode cX11_quarrel 129 = .ok (.iload 4, 2) := by decide +kernel
theorem dX11_quarrel_131 : decode cX11_quarrel 131 = .ok (.aload_n 0, 1) := by decide +kernel
theorem dX11_quarrel_132 : decode cX11_quarrel 132 = .ok (.getfield 7, 3) := by decide +kernel
theorem dX11_quarrel_135 : decode cX11_quarrel 135 = .ok (.iconst 1, 1) := by decide +kernel
theorem dX11_quarrel_136 : decode cX11_quarrel 136 = .ok (.iaload, 1) := by decide +kernel
theorem dX11_quarrel_137 : decode cX11_quarrel 137 = .ok (.if_icmp .ge 34, 3) := by decide +kernel
theorem dX11_quarrel_140 : decode cX11_quarrel 140 = .ok (.aload_n 0, 1) := by decide +kernel
theorem dX11_quarrel_141 : decode cX11_quarrel 141 = .ok (.iload 4, 2) := by decide +kernel
theorem dX11_quarrel_143 : decode cX11_quarrel 143 = .ok (.iload_n 1, 1) := by decide +kernel
theorem dX11_quarrel_144 : decode cX11_quarrel 144 = .ok (.aload_n 0, 1) := by decide +kernel
theorem dX11_quarrel_145 : decode cX11_quarrel 145 = .ok (.getfield 197, 3) := by decide +kernel
theorem dX11_quarrel_148 : decode cX11_quarrel 148 = .ok (.invokevirtual 190, 3) := by decide +kernel
theorem dX11_quarrel_151 : decode cX11_quarrel 151 = .ok (.ifCond .eq 14, 3) := by decide +kernel
theorem dX11_quarrel_154 : decode cX11_quarrel 154 = .ok (.iload_n 3, 1) := by decide +kernel
theorem dX11_quarrel_155 : decode cX11_quarrel 155 = .ok (.iload_n 2, 1) := by decide +kernel
theorem dX11_quarrel_156 : decode cX11_quarrel 156 = .ok (.if_icmp .ne 6, 3) := by decide +kernel
theorem dX11_quarrel_159 : decode cX11_quarrel 159 = .ok (.iload 4, 2) := by decide +kernel
theorem dX11_quarrel_161 : decode cX11_quarrel 161 = .ok (.ireturn, 1) := by decide +kernel
theorem dX11_quarrel_162 : decode cX11_quarrel 162 = .ok (.iinc 3 1, 3) := by decide +kernel
theorem dX11_quarrel_165 : decode cX11_quarrel 165 = .ok (.iinc 4 1, 3) := by decide +kernel
theorem dX11_quarrel_168 : decode cX11_quarrel 168 = .ok (.goto (-39), 3) := by decide +kernel
theorem dX11_quarrel_171 : decode cX11_quarrel 171 = .ok (.iconst (-1), 1) := by decide +kernel
theorem dX11_quarrel_172 : decode cX11_quarrel 172 = .ok (.ireturn, 1) := by decide +kernel
theorem dX11_chainOf_0 : decode cX11_chainOf 0 = .ok (.aload_n 0, 1) := by decide +kernel
theorem dX11_chainOf_1 : decode cX11_chainOf 1 = .ok (.getfield 7, 3) := by decide +kernel
theorem dX11_chainOf_4 : decode cX11_chainOf 4 = .ok (.sipush 512, 3) := by decide +kernel
theorem dX11_chainOf_7 : decode cX11_chainOf 7 = .ok (.bipush 10, 2) := by decide +kernel
theorem dX11_chainOf_9 : decode cX11_chainOf 9 = .ok (.iload_n 1, 1) := by decide +kernel
theorem dX11_chainOf_10 : decode cX11_chainOf 10 = .ok (.imul, 1) := by decide +kernel
theorem dX11_chainOf_11 : decode cX11_chainOf 11 = .ok (.iadd, 1) := by decide +kernel
theorem dX11_chainOf_12 : decode cX11_chainOf 12 = .ok (.iload_n 2, 1) := by decide +kernel
theorem dX11_chainOf_13 : decode cX11_chainOf 13 = .ok (.iadd, 1) := by decide +kernel
theorem dX11_chainOf_14 : decode cX11_chainOf 14 = .ok (.iaload, 1) := by decide +kernel
theorem dX11_chainOf_15 : decode cX11_chainOf 15 = .ok (.ireturn, 1) := by decide +kernel
theorem dX11_chain_0 : decode cX11_chain 0 = .ok (.iload_n 1, 1) := by decide +kernel
theorem dX11_chain_1 : decode cX11_chain 1 = .ok (.i2l, 1) := by decide +kernel
theorem dX11_chain_2 : decode cX11_chain 2 = .ok (.ldc2_w 203, 3) := by decide +kernel
theorem dX11_chain_5 : decode cX11_chain 5 = .ok (.iload_n 2, 1) := by decide +kernel
theorem dX11_chain_6 : decode cX11_chain 6 = .ok (.i2l, 1) := by decide +kernel
theorem dX11_chain_7 : decode cX11_chain 7 = .ok (.invokestatic 53, 3) := by decide +kernel
theorem dX11_chain_10 : decode cX11_chain 10 = .ok (.ifCond .eq 16, 3) := by decide +kernel
theorem dX11_chain_13 : decode cX11_chain 13 = .ok (.iload_n 2, 1) := by decide +kernel
theorem dX11_chain_14 : decode cX11_chain 14 = .ok (.i2l, 1) := by decide +kernel
theorem dX11_chain_15 : decode cX11_chain 15 = .ok (.iload_n 1, 1) := by decide +kernel
theorem dX11_chain_16 : decode cX11_chain 16 = .ok (.i2l, 1) := by decide +kernel
theorem dX11_chain_17 : decode cX11_chain 17 = .ok (.ldc2_w 73, 3) := by decide +kernel
theorem dX11_chain_20 : decode cX11_chain 20 = .ok (.invokestatic 53, 3) := by decide +kernel
theorem dX11_chain_23 : decode cX11_chain 23 = .ok (.ifCond .ne 6, 3) := by decide +kernel
theorem dX11_chain_26 : decode cX11_chain 26 = .ok (.bipush (-2), 2) := by decide +kernel
theorem dX11_chain_28 : decode cX11_chain 28 = .ok (.ireturn, 1) := by decide +kernel
theorem dX11_chain_29 : decode cX11_chain 29 = .ok (.aload_n 0, 1) := by decide +kernel
theorem dX11_chain_30 : decode cX11_chain 30 = .ok (.getfield 7, 3) := by decide +kernel
theorem dX11_chain_33 : decode cX11_chain 33 = .ok (.iconst 2, 1) := by decide +kernel
theorem dX11_chain_34 : decode cX11_chain 34 = .ok (.iaload, 1) := by decide +kernel
theorem dX11_chain_35 : decode cX11_chain 35 = .ok (.bipush 16, 2) := by decide +kernel
theorem dX11_chain_37 : decode cX11_chain 37 = .ok (.if_icmp .ne 6, 3) := by decide +kernel
theorem dX11_chain_40 : decode cX11_chain 40 = .ok (.bipush (-4), 2) := by decide +kernel
theorem dX11_chain_42 : decode cX11_chain 42 = .ok (.ireturn, 1) := by decide +kernel
theorem dX11_chain_43 : decode cX11_chain 43 = .ok (.sipush 512, 3) := by decide +kernel
theorem dX11_chain_46 : decode cX11_chain 46 = .ok (.bipush 10, 2) := by decide +kernel
theorem dX11_chain_48 : decode cX11_chain 48 = .ok (.aload_n 0, 1) := by decide +kernel
theorem dX11_chain_49 : decode cX11_chain 49 = .ok (.getfield 7, 3) := by decide +kernel
theorem dX11_chain_52 : decode cX11_chain 52 = .ok (.iconst 2, 1) := by decide +kernel
theorem dX11_chain_53 : decode cX11_chain 53 = .ok (.iaload, 1) := by decide +kernel
theorem dX11_chain_54 : decode cX11_chain 54 = .ok (.imul, 1) := by decide +kernel
theorem dX11_chain_55 : decode cX11_chain 55 = .ok (.iadd, 1) := by decide +kernel
theorem dX11_chain_56 : decode cX11_chain 56 = .ok (.istore_n 3, 1) := by decide +kernel
theorem dX11_chain_57 : decode cX11_chain 57 = .ok (.iconst 0, 1) := by decide +kernel
theorem dX11_chain_58 : decode cX11_chain 58 = .ok (.istore 4, 2) := by decide +kernel
theorem dX11_chain_60 : decode cX11_chain 60 = .ok (.iload 4, 2) := by decide +kernel
theorem dX11_chain_62 : decode cX11_chain 62 = .ok (.bipush 10, 2) := by decide +kernel
theorem dX11_chain_64 : decode cX11_chain 64 = .ok (.if_icmp .ge 38, 3) := by decide +kernel
theorem dX11_chain_67 : decode cX11_chain 67 = .ok (.aload_n 0, 1) := by decide +kernel
theorem dX11_chain_68 : decode cX11_chain 68 = .ok (.getfield 7, 3) := by decide +kernel
theorem dX11_chain_71 : decode cX11_chain 71 = .ok (.iload_n 3, 1) := by decide +kernel
theorem dX11_chain_72 : decode cX11_chain 72 = .ok (.iload 4, 2) := by decide +kernel
theorem dX11_chain_74 : decode cX11_chain 74 = .ok (.iadd, 1) := by decide +kernel
theorem dX11_chain_75 : decode cX11_chain 75 = .ok (.iload 4, 2) := by decide +kernel
theorem dX11_chain_77 : decode cX11_chain 77 = .ok (.ifCond .ne 7, 3) := by decide +kernel
theorem dX11_chain_80 : decode cX11_chain 80 = .ok (.iload_n 1, 1) := by decide +kernel
theorem dX11_chain_81 : decode cX11_chain 81 = .ok (.goto 14, 3) := by decide +kernel
theorem dX11_chain_84 : decode cX11_chain 84 = .ok (.iload 4, 2) := by decide +kernel
theorem dX11_chain_86 : decode cX11_chain 86 = .ok (.iconst 1, 1) := by decide +kernel
theorem dX11_chain_87 : decode cX11_chain 87 = .ok (.if_icmp .ne 7, 3) := by decide +kernel
theorem dX11_chain_90 : decode cX11_chain 90 = .ok (.iload_n 2, 1) := by decide +kernel
theorem dX11_chain_91 : decode cX11_chain 91 = .ok (.goto 4, 3) := by decide +kernel
theorem dX11_chain_94 : decode cX11_chain 94 = .ok (.iconst 0, 1) := by decide +kernel
theorem dX11_chain_95 : decode cX11_chain 95 = .ok (.iastore, 1) := by decide +kernel
theorem dX11_chain_96 : decode cX11_chain 96 = .ok (.iinc 4 1, 3) := by decide +kernel
theorem dX11_chain_99 : decode cX11_chain 99 = .ok (.goto (-39), 3) := by decide +kernel
theorem dX11_chain_102 : decode cX11_chain 102 = .ok (.aload_n 0, 1) := by decide +kernel
theorem dX11_chain_103 : decode cX11_chain 103 = .ok (.iconst 2, 1) := by decide +kernel
theorem dX11_chain_104 : decode cX11_chain 104 = .ok (.invokevirtual 69, 3) := by decide +kernel
theorem dX11_chain_107 : decode cX11_chain 107 = .ok (.ireturn, 1) := by decide +kernel
theorem dX11_has_0 : decode cX11_has 0 = .ok (.iconst 0, 1) := by decide +kernel
theorem dX11_has_1 : decode cX11_has 1 = .ok (.istore_n 3, 1) := by decide +kernel
theorem dX11_has_2 : decode cX11_has 2 = .ok (.iload_n 3, 1) := by decide +kernel
theorem dX11_has_3 : decode cX11_has 3 = .ok (.aload_n 0, 1) := by decide +kernel
theorem dX11_has_4 : decode cX11_has 4 = .ok (.iload_n 1, 1) := by decide +kernel
theorem dX11_has_5 : decode cX11_has 5 = .ok (.iconst 2, 1) := by decide +kernel
theorem dX11_has_6 : decode cX11_has 6 = .ok (.invokevirtual 205, 3) := by decide +kernel
theorem dX11_has_9 : decode cX11_has 9 = .ok (.if_icmp .ge 23, 3) := by decide +kernel
theorem dX11_has_12 : decode cX11_has 12 = .ok (.aload_n 0, 1) := by decide +kernel
theorem dX11_has_13 : decode cX11_has 13 = .ok (.iload_n 1, 1) := by decide +kernel
theorem dX11_has_14 : decode cX11_has 14 = .ok (.iconst 3, 1) := by decide +kernel
theorem dX11_has_15 : decode cX11_has 15 = .ok (.iload_n 3, 1) := by decide +kernel
theorem dX11_has_16 : decode cX11_has 16 = .ok (.iadd, 1) := by decide +kernel
theorem dX11_has_17 : decode cX11_has 17 = .ok (.invokevirtual 205, 3) := by decide +kernel
theorem dX11_has_20 : decode cX11_has 20 = .ok (.iload_n 2, 1) := by decide +kernel
theorem dX11_has_21 : decode cX11_has 21 = .ok (.if_icmp .ne 5, 3) := by decide +kernel
theorem dX11_has_24 : decode cX11_has 24 = .ok (.iconst 1, 1) := by decide +kernel
theorem dX11_has_25 : decode cX11_has 25 = .ok (.ireturn, 1) := by decide +kernel
theorem dX11_has_26 : decode cX11_has 26 = .ok (.iinc 3 1, 3) := by decide +kernel
theorem dX11_has_29 : decode cX11_has 29 = .ok (.goto (-27), 3) := by decide +kernel
theorem dX11_has_32 : decode cX11_has 32 = .ok (.iconst 0, 1) := by decide +kernel
theorem dX11_has_33 : decode cX11_has 33 = .ok (.ireturn, 1) := by decide +kernel
theorem dX11_link_0 : decode cX11_link 0 = .ok (.aload_n 0, 1) := by decide +kernel
theorem dX11_link_1 : decode cX11_link 1 = .ok (.iconst 2, 1) := by decide +kernel
theorem dX11_link_2 : decode cX11_link 2 = .ok (.iload_n 1, 1) := by decide +kernel
theorem dX11_link_3 : decode cX11_link 3 = .ok (.invokevirtual 135, 3) := by decide +kernel
theorem dX11_link_6 : decode cX11_link 6 = .ok (.ifCond .eq 21, 3) := by decide +kernel
theorem dX11_link_9 : decode cX11_link 9 = .ok (.aload_n 0, 1) := by decide +kernel
theorem dX11_link_10 : decode cX11_link 10 = .ok (.iconst 0, 1) := by decide +kernel
theorem dX11_link_11 : decode cX11_link 11 = .ok (.iload_n 2, 1) := by decide +kernel
theorem dX11_link_12 : decode cX11_link 12 = .ok (.invokevirtual 135, 3) := by decide +kernel
theorem dX11_link_15 : decode cX11_link 15 = .ok (.ifCond .eq 12, 3) := by decide +kernel
theorem dX11_link_18 : decode cX11_link 18 = .ok (.aload_n 0, 1) := by decide +kernel
theorem dX11_link_19 : decode cX11_link 19 = .ok (.iload_n 1, 1) := by decide +kernel
theorem dX11_link_20 : decode cX11_link 20 = .ok (.iload_n 2, 1) := by decide +kernel
theorem dX11_link_21 : decode cX11_link 21 = .ok (.invokevirtual 208, 3) := by decide +kernel
theorem dX11_link_24 : decode cX11_link 24 = .ok (.ifCond .eq 6, 3) := by decide +kernel
theorem dX11_link_27 : decode cX11_link 27 = .ok (.bipush (-2), 2) := by decide +kernel
theorem dX11_link_29 : decode cX11_link 29 = .ok (.ireturn, 1) := by decide +kernel
theorem dX11_link_30 : decode cX11_link 30 = .ok (.sipush 512, 3) := by decide +kernel
theorem dX11_link_33 : decode cX11_link 33 = .ok (.bipush 10, 2) := by decide +kernel
theorem dX11_link_35 : decode cX11_link 35 = .ok (.iload_n 1, 1) := by decide +kernel
theorem dX11_link_36 : decode cX11_link 36 = .ok (.imul, 1) := by decide +kernel
theorem dX11_link_37 : decode cX11_link 37 = .ok (.iadd, 1) := by decide +kernel
theorem dX11_link_38 : decode cX11_link 38 = .ok (.istore 4, 2) := by decide +kernel
theorem dX11_link_40 : decode cX11_link 40 = .ok (.aload_n 0, 1) := by decide +kernel
theorem dX11_link_41 : decode cX11_link 41 = .ok (.getfield 7, 3) := by decide +kernel
theorem dX11_link_44 : decode cX11_link 44 = .ok (.iload 4, 2) := by decide +kernel
theorem dX11_link_46 : decode cX11_link 46 = .ok (.iconst 2, 1) := by decide +kernel
theorem dX11_link_47 : decode cX11_link 47 = .ok (.iadd, 1) := by decide +kernel
theorem dX11_link_48 : decode cX11_link 48 = .ok (.iaload, 1) := by decide +kernel
theorem dX11_link_49 : decode cX11_link 49 = .ok (.bipush 6, 2) := by decide +kernel
theorem dX11_link_51 : decode cX11_link 51 = .ok (.if_icmp .ne 6, 3) := by decide +kernel
theorem dX11_link_54 : decode cX11_link 54 = .ok (.bipush (-4), 2) := by decide +kernel
theorem dX11_link_56 : decode cX11_link 56 = .ok (.ireturn, 1) := by decide +kernel
theorem dX11_link_57 : decode cX11_link 57 = .ok (.aload_n 0, 1) := by decide +kernel
theorem dX11_link_58 : decode cX11_link 58 = .ok (.getfield 7, 3) := by decide +kernel
theorem dX11_link_61 : decode cX11_link 61 = .ok (.iload 4, 2) := by decide +kernel
theorem dX11_link_63 : decode cX11_link 63 = .ok (.iconst 3, 1) := by decide +kernel
theorem dX11_link_64 : decode cX11_link 64 = .ok (.iadd, 1) := by decide +kernel
theorem dX11_link_65 : decode cX11_link 65 = .ok (.aload_n 0, 1) := by decide +kernel
theorem dX11_link_66 : decode cX11_link 66 = .ok (.getfield 7, 3) := by decide +kernel
theorem dX11_link_69 : decode cX11_link 69 = .ok (.iload 4, 2) := by decide +kernel
