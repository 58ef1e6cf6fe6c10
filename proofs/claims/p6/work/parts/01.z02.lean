theorem dX5_chooseBits_91 : decode cX5_chooseBits 91 = .ok (.istore 5, 2) := by decide +kernel
theorem dX5_chooseBits_93 : decode cX5_chooseBits 93 = .ok (.iload 4, 2) := by decide +kernel
theorem dX5_chooseBits_95 : decode cX5_chooseBits 95 = .ok (.aload_n 0, 1) := by decide +kernel
theorem dX5_chooseBits_96 : decode cX5_chooseBits 96 = .ok (.getfield 35, 3) := by decide +kernel
theorem dX5_chooseBits_99 : decode cX5_chooseBits 99 = .ok (.getfield 76, 3) := by decide +kernel
theorem dX5_chooseBits_102 : decode cX5_chooseBits 102 = .ok (.invokevirtual 82, 3) := by decide +kernel
theorem dX5_chooseBits_105 : decode cX5_chooseBits 105 = .ok (.if_icmp .ge 18, 3) := by decide +kernel
theorem dX5_chooseBits_108 : decode cX5_chooseBits 108 = .ok (.iload_n 1, 1) := by decide +kernel
theorem dX5_chooseBits_109 : decode cX5_chooseBits 109 = .ok (.iload 4, 2) := by decide +kernel
theorem dX5_chooseBits_111 : decode cX5_chooseBits 111 = .ok (.iload 5, 2) := by decide +kernel
theorem dX5_chooseBits_113 : decode cX5_chooseBits 113 = .ok (.invokestatic 91, 3) := by decide +kernel
theorem dX5_chooseBits_116 : decode cX5_chooseBits 116 = .ok (.ifCond .ne 7, 3) := by decide +kernel
theorem dX5_chooseBits_119 : decode cX5_chooseBits 119 = .ok (.iconst 1, 1) := by decide +kernel
theorem dX5_chooseBits_120 : decode cX5_chooseBits 120 = .ok (.goto 4, 3) := by decide +kernel
theorem dX5_chooseBits_123 : decode cX5_chooseBits 123 = .ok (.iconst 0, 1) := by decide +kernel
theorem dX5_chooseBits_124 : decode cX5_chooseBits 124 = .ok (.istore 6, 2) := by decide +kernel
theorem dX5_chooseBits_126 : decode cX5_chooseBits 126 = .ok (.iload_n 2, 1) := by decide +kernel
theorem dX5_chooseBits_127 : decode cX5_chooseBits 127 = .ok (.iload 5, 2) := by decide +kernel
theorem dX5_chooseBits_129 : decode cX5_chooseBits 129 = .ok (.ishr, 1) := by decide +kernel
theorem dX5_chooseBits_130 : decode cX5_chooseBits 130 = .ok (.iconst 1, 1) := by decide +kernel
theorem dX5_chooseBits_131 : decode cX5_chooseBits 131 = .ok (.iand, 1) := by decide +kernel
theorem dX5_chooseBits_132 : decode cX5_chooseBits 132 = .ok (.iconst 1, 1) := by decide +kernel
theorem dX5_chooseBits_133 : decode cX5_chooseBits 133 = .ok (.if_icmp .ne 23, 3) := by decide +kernel
theorem dX5_chooseBits_136 : decode cX5_chooseBits 136 = .ok (.aload_n 0, 1) := by decide +kernel
theorem dX5_chooseBits_137 : decode cX5_chooseBits 137 = .ok (.getfield 35, 3) := by decide +kernel
theorem dX5_chooseBits_140 : decode cX5_chooseBits 140 = .ok (.getfield 95, 3) := by decide +kernel
theorem dX5_chooseBits_143 : decode cX5_chooseBits 143 = .ok (.iload 5, 2) := by decide +kernel
theorem dX5_chooseBits_145 : decode cX5_chooseBits 145 = .ok (.iconst 0, 1) := by decide +kernel
theorem dX5_chooseBits_146 : decode cX5_chooseBits 146 = .ok (.invokevirtual 88, 3) := by decide +kernel
theorem dX5_chooseBits_149 : decode cX5_chooseBits 149 = .ok (.ifCond .le 7, 3) := by decide +kernel
theorem dX5_chooseBits_152 : decode cX5_chooseBits 152 = .ok (.iconst 1, 1) := by decide +kernel
theorem dX5_chooseBits_153 : decode cX5_chooseBits 153 = .ok (.goto 4, 3) := by decide +kernel
theorem dX5_chooseBits_156 : decode cX5_chooseBits 156 = .ok (.iconst 0, 1) := by decide +kernel
theorem dX5_chooseBits_157 : decode cX5_chooseBits 157 = .ok (.istore 7, 2) := by decide +kernel
theorem dX5_chooseBits_159 : decode cX5_chooseBits 159 = .ok (.aload_n 0, 1) := by decide +kernel
theorem dX5_chooseBits_160 : decode cX5_chooseBits 160 = .ok (.getfield 18, 3) := by decide +kernel
theorem dX5_chooseBits_163 : decode cX5_chooseBits 163 = .ok (.iload_n 3, 1) := by decide +kernel
theorem dX5_chooseBits_164 : decode cX5_chooseBits 164 = .ok (.iconst 0, 1) := by decide +kernel
theorem dX5_chooseBits_165 : decode cX5_chooseBits 165 = .ok (.iastore, 1) := by decide +kernel
theorem dX5_chooseBits_166 : decode cX5_chooseBits 166 = .ok (.iload 6, 2) := by decide +kernel
theorem dX5_chooseBits_168 : decode cX5_chooseBits 168 = .ok (.ifCond .eq 91, 3) := by decide +kernel
theorem dX5_chooseBits_171 : decode cX5_chooseBits 171 = .ok (.iload 7, 2) := by decide +kernel
theorem dX5_chooseBits_173 : decode cX5_chooseBits 173 = .ok (.ifCond .eq 86, 3) := by decide +kernel
theorem dX5_chooseBits_176 : decode cX5_chooseBits 176 = .ok (.aload_n 0, 1) := by decide +kernel
theorem dX5_chooseBits_177 : decode cX5_chooseBits 177 = .ok (.getfield 64, 3) := by decide +kernel
theorem dX5_chooseBits_180 : decode cX5_chooseBits 180 = .ok (.iconst 0, 1) := by decide +kernel
theorem dX5_chooseBits_181 : decode cX5_chooseBits 181 = .ok (.bipush 7, 2) := by decide +kernel
theorem dX5_chooseBits_183 : decode cX5_chooseBits 183 = .ok (.invokestatic 98, 3) := by decide +kernel
theorem dX5_chooseBits_186 : decode cX5_chooseBits 186 = .ok (.ifCond .ne 6, 3) := by decide +kernel
theorem dX5_chooseBits_189 : decode cX5_chooseBits 189 = .ok (.goto 70, 3) := by decide +kernel
theorem dX5_chooseBits_192 : decode cX5_chooseBits 192 = .ok (.aload_n 0, 1) := by decide +kernel
theorem dX5_chooseBits_193 : decode cX5_chooseBits 193 = .ok (.getfield 18, 3) := by decide +kernel
theorem dX5_chooseBits_196 : decode cX5_chooseBits 196 = .ok (.iload_n 3, 1) := by decide +kernel
theorem dX5_chooseBits_197 : decode cX5_chooseBits 197 = .ok (.iconst 1, 1) := by decide +kernel
theorem dX5_chooseBits_198 : decode cX5_chooseBits 198 = .ok (.aload_n 0, 1) := by decide +kernel
theorem dX5_chooseBits_199 : decode cX5_chooseBits 199 = .ok (.getfield 64, 3) := by decide +kernel
theorem dX5_chooseBits_202 : decode cX5_chooseBits 202 = .ok (.ishl, 1) := by decide +kernel
theorem dX5_chooseBits_203 : decode cX5_chooseBits 203 = .ok (.iastore, 1) := by decide +kernel
theorem dX5_chooseBits_204 : decode cX5_chooseBits 204 = .ok (.iconst 0, 1) := by decide +kernel
theorem dX5_chooseBits_205 : decode cX5_chooseBits 205 = .ok (.istore 8, 2) := by decide +kernel
theorem dX5_chooseBits_207 : decode cX5_chooseBits 207 = .ok (.iload 8, 2) := by decide +kernel
theorem dX5_chooseBits_209 : decode cX5_chooseBits 209 = .ok (.aload_n 0, 1) := by decide +kernel
theorem dX5_chooseBits_210 : decode cX5_chooseBits 210 = .ok (.getfield 18, 3) := by decide +kernel
theorem dX5_chooseBits_213 : decode cX5_chooseBits 213 = .ok (.iload_n 3, 1) := by decide +kernel
theorem dX5_chooseBits_214 : decode cX5_chooseBits 214 = .ok (.iaload, 1) := by decide +kernel
theorem dX5_chooseBits_215 : decode cX5_chooseBits 215 = .ok (.if_icmp .ge 34, 3) := by decide +kernel
theorem dX5_chooseBits_218 : decode cX5_chooseBits 218 = .ok (.aload_n 0, 1) := by decide +kernel
theorem dX5_chooseBits_219 : decode cX5_chooseBits 219 = .ok (.getfield 21, 3) := by decide +kernel
theorem dX5_chooseBits_222 : decode cX5_chooseBits 222 = .ok (.iload 8, 2) := by decide +kernel
theorem dX5_chooseBits_224 : decode cX5_chooseBits 224 = .ok (.aload_n 0, 1) := by decide +kernel
theorem dX5_chooseBits_225 : decode cX5_chooseBits 225 = .ok (.getfield 18, 3) := by decide +kernel
theorem dX5_chooseBits_228 : decode cX5_chooseBits 228 = .ok (.iload_n 3, 1) := by decide +kernel
theorem dX5_chooseBits_229 : decode cX5_chooseBits 229 = .ok (.iaload, 1) := by decide +kernel
theorem dX5_chooseBits_230 : decode cX5_chooseBits 230 = .ok (.ior, 1) := by decide +kernel
theorem dX5_chooseBits_231 : decode cX5_chooseBits 231 = .ok (.aload_n 0, 1) := by decide +kernel
theorem dX5_chooseBits_232 : decode cX5_chooseBits 232 = .ok (.getfield 21, 3) := by decide +kernel
theorem dX5_chooseBits_235 : decode cX5_chooseBits 235 = .ok (.iload 8, 2) := by decide +kernel
theorem dX5_chooseBits_237 : decode cX5_chooseBits 237 = .ok (.iaload, 1) := by decide +kernel
theorem dX5_chooseBits_238 : decode cX5_chooseBits 238 = .ok (.iconst 1, 1) := by decide +kernel
theorem dX5_chooseBits_239 : decode cX5_chooseBits 239 = .ok (.iload_n 3, 1) := by decide +kernel
theorem dX5_chooseBits_240 : decode cX5_chooseBits 240 = .ok (.ishl, 1) := by decide +kernel
theorem dX5_chooseBits_241 : decode cX5_chooseBits 241 = .ok (.ior, 1) := by decide +kernel
theorem dX5_chooseBits_242 : decode cX5_chooseBits 242 = .ok (.iastore, 1) := by decide +kernel
theorem dX5_chooseBits_243 : decode cX5_chooseBits 243 = .ok (.iinc 8 1, 3) := by decide +kernel
theorem dX5_chooseBits_246 : decode cX5_chooseBits 246 = .ok (.goto (-39), 3) := by decide +kernel
theorem dX5_chooseBits_249 : decode cX5_chooseBits 249 = .ok (.aload_n 0, 1) := by decide +kernel
theorem dX5_chooseBits_250 : decode cX5_chooseBits 250 = .ok (.dup, 1) := by decide +kernel
theorem dX5_chooseBits_251 : decode cX5_chooseBits 251 = .ok (.getfield 64, 3) := by decide +kernel
theorem dX5_chooseBits_254 : decode cX5_chooseBits 254 = .ok (.iconst 1, 1) := by decide +kernel
theorem dX5_chooseBits_255 : decode cX5_chooseBits 255 = .ok (.iadd, 1) := by decide +kernel
theorem dX5_chooseBits_256 : decode cX5_chooseBits 256 = .ok (.putfield 64, 3) := by decide +kernel
theorem dX5_chooseBits_259 : decode cX5_chooseBits 259 = .ok (.iinc 3 1, 3) := by decide +kernel
theorem dX5_chooseBits_262 : decode cX5_chooseBits 262 = .ok (.goto (-188), 3) := by decide +kernel
theorem dX5_chooseBits_265 : decode cX5_chooseBits 265 = .ok (.return_, 1) := by decide +kernel
theorem dX5_chooseLessons_0 : decode cX5_chooseLessons 0 = .ok (.aload_n 0, 1) := by decide +kernel
theorem dX5_chooseLessons_1 : decode cX5_chooseLessons 1 = .ok (.iconst 0, 1) := by decide +kernel
theorem dX5_chooseLessons_2 : decode cX5_chooseLessons 2 = .ok (.putfield 101, 3) := by decide +kernel
theorem dX5_chooseLessons_5 : decode cX5_chooseLessons 5 = .ok (.iconst 0, 1) := by decide +kernel
theorem dX5_chooseLessons_6 : decode cX5_chooseLessons 6 = .ok (.istore_n 1, 1) := by decide +kernel
theorem dX5_chooseLessons_7 : decode cX5_chooseLessons 7 = .ok (.iload_n 1, 1) := by decide +kernel
theorem dX5_chooseLessons_8 : decode cX5_chooseLessons 8 = .ok (.bipush 47, 2) := by decide +kernel
theorem dX5_chooseLessons_10 : decode cX5_chooseLessons 10 = .ok (.if_icmp .gt 125, 3) := by decide +kernel
theorem dX5_chooseLessons_13 : decode cX5_chooseLessons 13 = .ok (.iload_n 1, 1) := by decide +kernel
theorem dX5_chooseLessons_14 : decode cX5_chooseLessons 14 = .ok (.iconst 4, 1) := by decide +kernel
theorem dX5_chooseLessons_15 : decode cX5_chooseLessons 15 = .ok (.ishr, 1) := by decide +kernel
theorem dX5_chooseLessons_16 : decode cX5_chooseLessons 16 = .ok (.istore_n 2, 1) := by decide +kernel
theorem dX5_chooseLessons_17 : decode cX5_chooseLessons 17 = .ok (.iload_n 1, 1) := by decide +kernel
theorem dX5_chooseLessons_18 : decode cX5_chooseLessons 18 = .ok (.iconst 3, 1) := by decide +kernel
theorem dX5_chooseLessons_19 : decode cX5_chooseLessons 19 = .ok (.iand, 1) := by decide +kernel
theorem dX5_chooseLessons_20 : decode cX5_chooseLessons 20 = .ok (.istore_n 3, 1) := by decide +kernel
theorem dX5_chooseLessons_21 : decode cX5_chooseLessons 21 = .ok (.iconst 4, 1) := by decide +kernel
theorem dX5_chooseLessons_22 : decode cX5_chooseLessons 22 = .ok (.iload_n 3, 1) := by decide +kernel
theorem dX5_chooseLessons_23 : decode cX5_chooseLessons 23 = .ok (.imul, 1) := by decide +kernel
theorem dX5_chooseLessons_24 : decode cX5_chooseLessons 24 = .ok (.iload_n 1, 1) := by decide +kernel
theorem dX5_chooseLessons_25 : decode cX5_chooseLessons 25 = .ok (.iconst 2, 1) := by decide +kernel
theorem dX5_chooseLessons_26 : decode cX5_chooseLessons 26 = .ok (.ishr, 1) := by decide +kernel
theorem dX5_chooseLessons_27 : decode cX5_chooseLessons 27 = .ok (.iconst 3, 1) := by decide +kernel
theorem dX5_chooseLessons_28 : decode cX5_chooseLessons 28 = .ok (.iand, 1) := by decide +kernel
theorem dX5_chooseLessons_29 : decode cX5_chooseLessons 29 = .ok (.iadd, 1) := by decide +kernel
theorem dX5_chooseLessons_30 : decode cX5_chooseLessons 30 = .ok (.istore 4, 2) := by decide +kernel
theorem dX5_chooseLessons_32 : decode cX5_chooseLessons 32 = .ok (.iload_n 2, 1) := by decide +kernel
theorem dX5_chooseLessons_33 : decode cX5_chooseLessons 33 = .ok (.iload_n 3, 1) := by decide +kernel
theorem dX5_chooseLessons_34 : decode cX5_chooseLessons 34 = .ok (.if_icmp .eq 95, 3) := by decide +kernel
theorem dX5_chooseLessons_37 : decode cX5_chooseLessons 37 = .ok (.aload_n 0, 1) := by decide +kernel
theorem dX5_chooseLessons_38 : decode cX5_chooseLessons 38 = .ok (.getfield 35, 3) := by decide +kernel
theorem dX5_chooseLessons_41 : decode cX5_chooseLessons 41 = .ok (.getfield 76, 3) := by decide +kernel
theorem dX5_chooseLessons_44 : decode cX5_chooseLessons 44 = .ok (.iload_n 2, 1) := by decide +kernel
theorem dX5_chooseLessons_45 : decode cX5_chooseLessons 45 = .ok (.invokevirtual 104, 3) := by decide +kernel
theorem dX5_chooseLessons_48 : decode cX5_chooseLessons 48 = .ok (.ifCond .eq 81, 3) := by decide +kernel
theorem dX5_chooseLessons_51 : decode cX5_chooseLessons 51 = .ok (.iload 4, 2) := by decide +kernel
theorem dX5_chooseLessons_53 : decode cX5_chooseLessons 53 = .ok (.iconst 0, 1) := by decide +kernel
theorem dX5_chooseLessons_54 : decode cX5_chooseLessons 54 = .ok (.aload_n 0, 1) := by decide +kernel
theorem dX5_chooseLessons_55 : decode cX5_chooseLessons 55 = .ok (.getfield 18, 3) := by decide +kernel
theorem dX5_chooseLessons_58 : decode cX5_chooseLessons 58 = .ok (.arraylength, 1) := by decide +kernel
theorem dX5_chooseLessons_59 : decode cX5_chooseLessons 59 = .ok (.iconst 1, 1) := by decide +kernel
theorem dX5_chooseLessons_60 : decode cX5_chooseLessons 60 = .ok (.isub, 1) := by decide +kernel
theorem dX5_chooseLessons_61 : decode cX5_chooseLessons 61 = .ok (.invokestatic 98, 3) := by decide +kernel
theorem dX5_chooseLessons_64 : decode cX5_chooseLessons 64 = .ok (.ifCond .ne 6, 3) := by decide +kernel
theorem dX5_chooseLessons_67 : decode cX5_chooseLessons 67 = .ok (.goto 62, 3) := by decide +kernel
theorem dX5_chooseLessons_70 : decode cX5_chooseLessons 70 = .ok (.aload_n 0, 1) := by decide +kernel
theorem dX5_chooseLessons_71 : decode cX5_chooseLessons 71 = .ok (.getfield 18, 3) := by decide +kernel
theorem dX5_chooseLessons_74 : decode cX5_chooseLessons 74 = .ok (.iload 4, 2) := by decide +kernel
theorem dX5_chooseLessons_76 : decode cX5_chooseLessons 76 = .ok (.iaload, 1) := by decide +kernel
theorem dX5_chooseLessons_77 : decode cX5_chooseLessons 77 = .ok (.ifCond .eq 52, 3) := by decide +kernel
theorem dX5_chooseLessons_80 : decode cX5_chooseLessons 80 = .ok (.aload_n 0, 1) := by decide +kernel
theorem dX5_chooseLessons_81 : decode cX5_chooseLessons 81 = .ok (.getfield 101, 3) := by decide +kernel
theorem dX5_chooseLessons_84 : decode cX5_chooseLessons 84 = .ok (.iconst 0, 1) := by decide +kernel
theorem dX5_chooseLessons_85 : decode cX5_chooseLessons 85 = .ok (.bipush 15, 2) := by decide +kernel
theorem dX5_chooseLessons_87 : decode cX5_chooseLessons 87 = .ok (.invokestatic 98, 3) := by decide +kernel
theorem dX5_chooseLessons_90 : decode cX5_chooseLessons 90 = .ok (.ifCond .eq 39, 3) := by decide +kernel
theorem dX5_chooseLessons_93 : decode cX5_chooseLessons 93 = .ok (.aload_n 0, 1) := by decide +kernel
theorem dX5_chooseLessons_94 : decode cX5_chooseLessons 94 = .ok (.getfield 11, 3) := by decide +kernel
theorem dX5_chooseLessons_97 : decode cX5_chooseLessons 97 = .ok (.aload_n 0, 1) := by decide +kernel
theorem dX5_chooseLessons_98 : decode cX5_chooseLessons 98 = .ok (.getfield 101, 3) := by decide +kernel
theorem dX5_chooseLessons_101 : decode cX5_chooseLessons 101 = .ok (.iload_n 1, 1) := by decide +kernel
theorem dX5_chooseLessons_102 : decode cX5_chooseLessons 102 = .ok (.iastore, 1) := by decide +kernel
theorem dX5_chooseLessons_103 : decode cX5_chooseLessons 103 = .ok (.aload_n 0, 1) := by decide +kernel
theorem dX5_chooseLessons_104 : decode cX5_chooseLessons 104 = .ok (.getfield 15, 3) := by decide +kernel
theorem dX5_chooseLessons_107 : decode cX5_chooseLessons 107 = .ok (.aload_n 0, 1) := by decide +kernel
theorem dX5_chooseLessons_108 : decode cX5_chooseLessons 108 = .ok (.getfield 101, 3) := by decide +kernel
theorem dX5_chooseLessons_111 : decode cX5_chooseLessons 111 = .ok (.aload_n 0, 1) := by decide +kernel
theorem dX5_chooseLessons_112 : decode cX5_chooseLessons 112 = .ok (.getfield 18, 3) := by decide +kernel
theorem dX5_chooseLessons_115 : decode cX5_chooseLessons 115 = .ok (.iload 4, 2) := by decide +kernel
theorem dX5_chooseLessons_117 : decode cX5_chooseLessons 117 = .ok (.iaload, 1) := by decide +kernel
theorem dX5_chooseLessons_118 : decode cX5_chooseLessons 118 = .ok (.iastore, 1) := by decide +kernel
theorem dX5_chooseLessons_119 : decode cX5_chooseLessons 119 = .ok (.aload_n 0, 1) := by decide +kernel
theorem dX5_chooseLessons_120 : decode cX5_chooseLessons 120 = .ok (.dup, 1) := by decide +kernel
theorem dX5_chooseLessons_121 : decode cX5_chooseLessons 121 = .ok (.getfield 101, 3) := by decide +kernel
theorem dX5_chooseLessons_124 : decode cX5_chooseLessons 124 = .ok (.iconst 1, 1) := by decide +kernel
theorem dX5_chooseLessons_125 : decode cX5_chooseLessons 125 = .ok (.iadd, 1) := by decide +kernel
theorem dX5_chooseLessons_126 : decode cX5_chooseLessons 126 = .ok (.putfield 101, 3) := by decide +kernel
theorem dX5_chooseLessons_129 : decode cX5_chooseLessons 129 = .ok (.iinc 1 1, 3) := by decide +kernel
theorem dX5_chooseLessons_132 : decode cX5_chooseLessons 132 = .ok (.goto (-125), 3) := by decide +kernel
theorem dX5_chooseLessons_135 : decode cX5_chooseLessons 135 = .ok (.return_, 1) := by decide +kernel
theorem dX5_chooseRuns_0 : decode cX5_chooseRuns 0 = .ok (.iconst 0, 1) := by decide +kernel
theorem dX5_chooseRuns_1 : decode cX5_chooseRuns 1 = .ok (.istore_n 1, 1) := by decide +kernel
theorem dX5_chooseRuns_2 : decode cX5_chooseRuns 2 = .ok (.iload_n 1, 1) := by decide +kernel
theorem dX5_chooseRuns_3 : decode cX5_chooseRuns 3 = .ok (.bipush 15, 2) := by decide +kernel
theorem dX5_chooseRuns_5 : decode cX5_chooseRuns 5 = .ok (.if_icmp .gt 59, 3) := by decide +kernel
theorem dX5_chooseRuns_8 : decode cX5_chooseRuns 8 = .ok (.aload_n 0, 1) := by decide +kernel
theorem dX5_chooseRuns_9 : decode cX5_chooseRuns 9 = .ok (.getfield 24, 3) := by decide +kernel
theorem dX5_chooseRuns_12 : decode cX5_chooseRuns 12 = .ok (.iload_n 1, 1) := by decide +kernel
theorem dX5_chooseRuns_13 : decode cX5_chooseRuns 13 = .ok (.iconst 0, 1) := by decide +kernel
theorem dX5_chooseRuns_14 : decode cX5_chooseRuns 14 = .ok (.iastore, 1) := by decide +kernel
theorem dX5_chooseRuns_15 : decode cX5_chooseRuns 15 = .ok (.iconst 0, 1) := by decide +kernel
theorem dX5_chooseRuns_16 : decode cX5_chooseRuns 16 = .ok (.istore_n 2, 1) := by decide +kernel
theorem dX5_chooseRuns_17 : decode cX5_chooseRuns 17 = .ok (.iload_n 2, 1) := by decide +kernel
theorem dX5_chooseRuns_18 : decode cX5_chooseRuns 18 = .ok (.iconst 4, 1) := by decide +kernel
theorem dX5_chooseRuns_19 : decode cX5_chooseRuns 19 = .ok (.if_icmp .ge 39, 3) := by decide +kernel
theorem dX5_chooseRuns_22 : decode cX5_chooseRuns 22 = .ok (.iload_n 1, 1) := by decide +kernel
theorem dX5_chooseRuns_23 : decode cX5_chooseRuns 23 = .ok (.iload_n 2, 1) := by decide +kernel
theorem dX5_chooseRuns_24 : decode cX5_chooseRuns 24 = .ok (.ishr, 1) := by decide +kernel
theorem dX5_chooseRuns_25 : decode cX5_chooseRuns 25 = .ok (.iconst 1, 1) := by decide +kernel
theorem dX5_chooseRuns_26 : decode cX5_chooseRuns 26 = .ok (.iand, 1) := by decide +kernel
theorem dX5_chooseRuns_27 : decode cX5_chooseRuns 27 = .ok (.iconst 1, 1) := by decide +kernel
theorem dX5_chooseRuns_28 : decode cX5_chooseRuns 28 = .ok (.if_icmp .ne 24, 3) := by decide +kernel
theorem dX5_chooseRuns_31 : decode cX5_chooseRuns 31 = .ok (.aload_n 0, 1) := by decide +kernel
theorem dX5_chooseRuns_32 : decode cX5_chooseRuns 32 = .ok (.getfield 24, 3) := by decide +kernel
theorem dX5_chooseRuns_35 : decode cX5_chooseRuns 35 = .ok (.iload_n 1, 1) := by decide +kernel
theorem dX5_chooseRuns_36 : decode cX5_chooseRuns 36 = .ok (.dup2, 1) := by decide +kernel
theorem dX5_chooseRuns_37 : decode cX5_chooseRuns 37 = .ok (.iaload, 1) := by decide +kernel
theorem dX5_chooseRuns_38 : decode cX5_chooseRuns 38 = .ok (.aload_n 0, 1) := by decide +kernel
theorem dX5_chooseRuns_39 : decode cX5_chooseRuns 39 = .ok (.getfield 35, 3) := by decide +kernel
theorem dX5_chooseRuns_42 : decode cX5_chooseRuns 42 = .ok (.getfield 95, 3) := by decide +kernel
theorem dX5_chooseRuns_45 : decode cX5_chooseRuns 45 = .ok (.iload_n 2, 1) := by decide +kernel
theorem dX5_chooseRuns_46 : decode cX5_chooseRuns 46 = .ok (.iconst 0, 1) := by decide +kernel
theorem dX5_chooseRuns_47 : decode cX5_chooseRuns 47 = .ok (.invokevirtual 88, 3) := by decide +kernel
theorem dX5_chooseRuns_50 : decode cX5_chooseRuns 50 = .ok (.iadd, 1) := by decide +kernel
theorem dX5_chooseRuns_51 : decode cX5_chooseRuns 51 = .ok (.iastore, 1) := by decide +kernel
theorem dX5_chooseRuns_52 : decode cX5_chooseRuns 52 = .ok (.iinc 2 1, 3) := by decide +kernel
theorem dX5_chooseRuns_55 : decode cX5_chooseRuns 55 = .ok (.goto (-38), 3) := by decide +kernel
theorem dX5_chooseRuns_58 : decode cX5_chooseRuns 58 = .ok (.iinc 1 1, 3) := by decide +kernel
theorem dX5_chooseRuns_61 : decode cX5_chooseRuns 61 = .ok (.goto (-59), 3) := by decide +kernel
theorem dX5_chooseRuns_64 : decode cX5_chooseRuns 64 = .ok (.return_, 1) := by decide +kernel
theorem dX5_chooseYears_0 : decode cX5_chooseYears 0 = .ok (.iconst 0, 1) := by decide +kernel
theorem dX5_chooseYears_1 : decode cX5_chooseYears 1 = .ok (.istore_n 1, 1) := by decide +kernel
theorem dX5_chooseYears_2 : decode cX5_chooseYears 2 = .ok (.iload_n 1, 1) := by decide +kernel
theorem dX5_chooseYears_3 : decode cX5_chooseYears 3 = .ok (.bipush 8, 2) := by decide +kernel
theorem dX5_chooseYears_5 : decode cX5_chooseYears 5 = .ok (.if_icmp .ge 66, 3) := by decide +kernel
theorem dX5_chooseYears_8 : decode cX5_chooseYears 8 = .ok (.aload_n 0, 1) := by decide +kernel
theorem dX5_chooseYears_9 : decode cX5_chooseYears 9 = .ok (.getfield 27, 3) := by decide +kernel
theorem dX5_chooseYears_12 : decode cX5_chooseYears 12 = .ok (.iload_n 1, 1) := by decide +kernel
theorem dX5_chooseYears_13 : decode cX5_chooseYears 13 = .ok (.iconst 0, 1) := by decide +kernel
theorem dX5_chooseYears_14 : decode cX5_chooseYears 14 = .ok (.iastore, 1) := by decide +kernel
theorem dX5_chooseYears_15 : decode cX5_chooseYears 15 = .ok (.iconst 0, 1) := by decide +kernel
theorem dX5_chooseYears_16 : decode cX5_chooseYears 16 = .ok (.istore_n 2, 1) := by decide +kernel
theorem dX5_chooseYears_17 : decode cX5_chooseYears 17 = .ok (.iload_n 2, 1) := by decide +kernel
theorem dX5_chooseYears_18 : decode cX5_chooseYears 18 = .ok (.aload_n 0, 1) := by decide +kernel
theorem dX5_chooseYears_19 : decode cX5_chooseYears 19 = .ok (.getfield 35, 3) := by decide +kernel
theorem dX5_chooseYears_22 : decode cX5_chooseYears 22 = .ok (.getfield 76, 3) := by decide +kernel
theorem dX5_chooseYears_25 : decode cX5_chooseYears 25 = .ok (.invokevirtual 82, 3) := by decide +kernel
theorem dX5_chooseYears_28 : decode cX5_chooseYears 28 = .ok (.if_icmp .ge 37, 3) := by decide +kernel
theorem dX5_chooseYears_31 : decode cX5_chooseYears 31 = .ok (.iload_n 1, 1) := by decide +kernel
theorem dX5_chooseYears_32 : decode cX5_chooseYears 32 = .ok (.aload_n 0, 1) := by decide +kernel
theorem dX5_chooseYears_33 : decode cX5_chooseYears 33 = .ok (.getfield 35, 3) := by decide +kernel
theorem dX5_chooseYears_36 : decode cX5_chooseYears 36 = .ok (.getfield 76, 3) := by decide +kernel
theorem dX5_chooseYears_39 : decode cX5_chooseYears 39 = .ok (.iload_n 2, 1) := by decide +kernel
theorem dX5_chooseYears_40 : decode cX5_chooseYears 40 = .ok (.iconst 1, 1) := by decide +kernel
theorem dX5_chooseYears_41 : decode cX5_chooseYears 41 = .ok (.invokevirtual 88, 3) := by decide +kernel
theorem dX5_chooseYears_44 : decode cX5_chooseYears 44 = .ok (.if_icmp .ge 15, 3) := by decide +kernel
theorem dX5_chooseYears_47 : decode cX5_chooseYears 47 = .ok (.aload_n 0, 1) := by decide +kernel
theorem dX5_chooseYears_48 : decode cX5_chooseYears 48 = .ok (.getfield 27, 3) := by decide +kernel
theorem dX5_chooseYears_51 : decode cX5_chooseYears 51 = .ok (.iload_n 1, 1) := by decide +kernel
theorem dX5_chooseYears_52 : decode cX5_chooseYears 52 = .ok (.dup2, 1) := by decide +kernel
theorem dX5_chooseYears_53 : decode cX5_chooseYears 53 = .ok (.iaload, 1) := by decide +kernel
theorem dX5_chooseYears_54 : decode cX5_chooseYears 54 = .ok (.iconst 1, 1) := by decide +kernel
theorem dX5_chooseYears_55 : decode cX5_chooseYears 55 = .ok (.iload_n 2, 1) := by decide +kernel
theorem dX5_chooseYears_56 : decode cX5_chooseYears 56 = .ok (.ishl, 1) := by decide +kernel
theorem dX5_chooseYears_57 : decode cX5_chooseYears 57 = .ok (.ior, 1) := by decide +kernel
theorem dX5_chooseYears_58 : decode cX5_chooseYears 58 = .ok (.iastore, 1) := by decide +kernel
theorem dX5_chooseYears_59 : decode cX5_chooseYears 59 = .ok (.iinc 2 1, 3) := by decide +kernel
theorem dX5_chooseYears_62 : decode cX5_chooseYears 62 = .ok (.goto (-45), 3) := by decide +kernel
theorem dX5_chooseYears_65 : decode cX5_chooseYears 65 = .ok (.iinc 1 1, 3) := by decide +kernel
theorem dX5_chooseYears_68 : decode cX5_chooseYears 68 = .ok (.goto (-66), 3) := by decide +kernel
theorem dX5_chooseYears_71 : decode cX5_chooseYears 71 = .ok (.return_, 1) := by decide +kernel
theorem dX5_mostOf_0 : decode cX5_mostOf 0 = .ok (.aload_n 0, 1) := by decide +kernel
theorem dX5_mostOf_1 : decode cX5_mostOf 1 = .ok (.iload_n 1, 1) := by decide +kernel
theorem dX5_mostOf_2 : decode cX5_mostOf 2 = .ok (.iload_n 2, 1) := by decide +kernel
theorem dX5_mostOf_3 : decode cX5_mostOf 3 = .ok (.invokevirtual 108, 3) := by decide +kernel
theorem dX5_mostOf_6 : decode cX5_mostOf 6 = .ok (.istore_n 3, 1) := by decide +kernel
theorem dX5_mostOf_7 : decode cX5_mostOf 7 = .ok (.iconst 0, 1) := by decide +kernel
theorem dX5_mostOf_8 : decode cX5_mostOf 8 = .ok (.istore 4, 2) := by decide +kernel
theorem dX5_mostOf_10 : decode cX5_mostOf 10 = .ok (.iload 4, 2) := by decide +kernel
theorem dX5_mostOf_12 : decode cX5_mostOf 12 = .ok (.aload_n 0, 1) := by decide +kernel
theorem dX5_mostOf_13 : decode cX5_mostOf 13 = .ok (.getfield 101, 3) := by decide +kernel
theorem dX5_mostOf_16 : decode cX5_mostOf 16 = .ok (.if_icmp .ge 22, 3) := by decide +kernel
theorem dX5_mostOf_19 : decode cX5_mostOf 19 = .ok (.iload_n 3, 1) := by decide +kernel
theorem dX5_mostOf_20 : decode cX5_mostOf 20 = .ok (.aload_n 0, 1) := by decide +kernel
theorem dX5_mostOf_21 : decode cX5_mostOf 21 = .ok (.iload_n 1, 1) := by decide +kernel
theorem dX5_mostOf_22 : decode cX5_mostOf 22 = .ok (.iload_n 2, 1) := by decide +kernel
theorem dX5_mostOf_23 : decode cX5_mostOf 23 = .ok (.iload 4, 2) := by decide +kernel
theorem dX5_mostOf_25 : decode cX5_mostOf 25 = .ok (.invokevirtual 111, 3) := by decide +kernel
theorem dX5_mostOf_28 : decode cX5_mostOf 28 = .ok (.invokestatic 45, 3) := by decide +kernel
theorem dX5_mostOf_31 : decode cX5_mostOf 31 = .ok (.istore_n 3, 1) := by decide +kernel
theorem dX5_mostOf_32 : decode cX5_mostOf 32 = .ok (.iinc 4 1, 3) := by decide +kernel
theorem dX5_mostOf_35 : decode cX5_mostOf 35 = .ok (.goto (-25), 3) := by decide +kernel
theorem dX5_mostOf_38 : decode cX5_mostOf 38 = .ok (.iload_n 3, 1) := by decide +kernel
theorem dX5_mostOf_39 : decode cX5_mostOf 39 = .ok (.ireturn, 1) := by decide +kernel
theorem dX5_idle_0 : decode cX5_idle 0 = .ok (.iload_n 1, 1) := by decide +kernel
theorem dX5_idle_1 : decode cX5_idle 1 = .ok (.iconst 0, 1) := by decide +kernel
theorem dX5_idle_2 : decode cX5_idle 2 = .ok (.bipush 7, 2) := by decide +kernel
theorem dX5_idle_4 : decode cX5_idle 4 = .ok (.invokestatic 98, 3) := by decide +kernel
theorem dX5_idle_7 : decode cX5_idle 7 = .ok (.ifCond .eq 14, 3) := by decide +kernel
theorem dX5_idle_10 : decode cX5_idle 10 = .ok (.iload_n 2, 1) := by decide +kernel
theorem dX5_idle_11 : decode cX5_idle 11 = .ok (.iconst 0, 1) := by decide +kernel
theorem dX5_idle_12 : decode cX5_idle 12 = .ok (.sipush 255, 3) := by decide +kernel
theorem dX5_idle_15 : decode cX5_idle 15 = .ok (.invokestatic 98, 3) := by decide +kernel
theorem dX5_idle_18 : decode cX5_idle 18 = .ok (.ifCond .ne 5, 3) := by decide +kernel
theorem dX5_idle_21 : decode cX5_idle 21 = .ok (.iconst (-1), 1) := by decide +kernel
theorem dX5_idle_22 : decode cX5_idle 22 = .ok (.ireturn, 1) := by decide +kernel
theorem dX5_idle_23 : decode cX5_idle 23 = .ok (.aload_n 0, 1) := by decide +kernel
theorem dX5_idle_24 : decode cX5_idle 24 = .ok (.aload_n 0, 1) := by decide +kernel
theorem dX5_idle_25 : decode cX5_idle 25 = .ok (.getfield 27, 3) := by decide +kernel
theorem dX5_idle_28 : decode cX5_idle 28 = .ok (.iload_n 1, 1) := by decide +kernel
theorem dX5_idle_29 : decode cX5_idle 29 = .ok (.iaload, 1) := by decide +kernel
theorem dX5_idle_30 : decode cX5_idle 30 = .ok (.iload_n 2, 1) := by decide +kernel
theorem dX5_idle_31 : decode cX5_idle 31 = .ok (.invokevirtual 115, 3) := by decide +kernel
theorem dX5_idle_34 : decode cX5_idle 34 = .ok (.aload_n 0, 1) := by decide +kernel
theorem dX5_idle_35 : decode cX5_idle 35 = .ok (.getfield 32, 3) := by decide +kernel
theorem dX5_idle_38 : decode cX5_idle 38 = .ok (.iload_n 1, 1) := by decide +kernel
theorem dX5_idle_39 : decode cX5_idle 39 = .ok (.iconst 1, 1) := by decide +kernel
theorem dX5_idle_40 : decode cX5_idle 40 = .ok (.iadd, 1) := by decide +kernel
theorem dX5_idle_41 : decode cX5_idle 41 = .ok (.aaload, 1) := by decide +kernel
theorem dX5_idle_42 : decode cX5_idle 42 = .ok (.iload_n 2, 1) := by decide +kernel
theorem dX5_idle_43 : decode cX5_idle 43 = .ok (.iaload, 1) := by decide +kernel
theorem dX5_idle_44 : decode cX5_idle 44 = .ok (.iadd, 1) := by decide +kernel
theorem dX5_idle_45 : decode cX5_idle 45 = .ok (.ireturn, 1) := by decide +kernel
theorem dX5_taught_0 : decode cX5_taught 0 = .ok (.iload_n 3, 1) := by decide +kernel
theorem dX5_taught_1 : decode cX5_taught 1 = .ok (.iconst 0, 1) := by decide +kernel
theorem dX5_taught_2 : decode cX5_taught 2 = .ok (.bipush 15, 2) := by decide +kernel
theorem dX5_taught_4 : decode cX5_taught 4 = .ok (.invokestatic 98, 3) := by decide +kernel
theorem dX5_taught_7 : decode cX5_taught 7 = .ok (.ifCond .ne 5, 3) := by decide +kernel
theorem dX5_taught_10 : decode cX5_taught 10 = .ok (.iconst (-1), 1) := by decide +kernel
theorem dX5_taught_11 : decode cX5_taught 11 = .ok (.ireturn, 1) := by decide +kernel
theorem dX5_taught_12 : decode cX5_taught 12 = .ok (.iload_n 1, 1) := by decide +kernel
theorem dX5_taught_13 : decode cX5_taught 13 = .ok (.iconst 0, 1) := by decide +kernel
theorem dX5_taught_14 : decode cX5_taught 14 = .ok (.bipush 7, 2) := by decide +kernel
theorem dX5_taught_16 : decode cX5_taught 16 = .ok (.invokestatic 98, 3) := by decide +kernel
theorem dX5_taught_19 : decode cX5_taught 19 = .ok (.ifCond .eq 14, 3) := by decide +kernel
theorem dX5_taught_22 : decode cX5_taught 22 = .ok (.iload_n 2, 1) := by decide +kernel
theorem dX5_taught_23 : decode cX5_taught 23 = .ok (.iconst 0, 1) := by decide +kernel
theorem dX5_taught_24 : decode cX5_taught 24 = .ok (.sipush 255, 3) := by decide +kernel
theorem dX5_taught_27 : decode cX5_taught 27 = .ok (.invokestatic 98, 3) := by decide +kernel
theorem dX5_taught_30 : decode cX5_taught 30 = .ok (.ifCond .ne 5, 3) := by decide +kernel
theorem dX5_taught_33 : decode cX5_taught 33 = .ok (.iconst (-1), 1) := by decide +kernel
theorem dX5_taught_34 : decode cX5_taught 34 = .ok (.ireturn, 1) := by decide +kernel
theorem dX5_taught_35 : decode cX5_taught 35 = .ok (.aload_n 0, 1) := by decide +kernel
theorem dX5_taught_36 : decode cX5_taught 36 = .ok (.getfield 11, 3) := by decide +kernel
theorem dX5_taught_39 : decode cX5_taught 39 = .ok (.iload_n 3, 1) := by decide +kernel
theorem dX5_taught_40 : decode cX5_taught 40 = .ok (.iaload, 1) := by decide +kernel
theorem dX5_taught_41 : decode cX5_taught 41 = .ok (.iconst 4, 1) := by decide +kernel
theorem dX5_taught_42 : decode cX5_taught 42 = .ok (.ishr, 1) := by decide +kernel
theorem dX5_taught_43 : decode cX5_taught 43 = .ok (.istore 4, 2) := by decide +kernel
theorem dX5_taught_45 : decode cX5_taught 45 = .ok (.iconst 1, 1) := by decide +kernel
theorem dX5_taught_46 : decode cX5_taught 46 = .ok (.iload 4, 2) := by decide +kernel
theorem dX5_taught_48 : decode cX5_taught 48 = .ok (.ishl, 1) := by decide +kernel
theorem dX5_taught_49 : decode cX5_taught 49 = .ok (.iconst 1, 1) := by decide +kernel
theorem dX5_taught_50 : decode cX5_taught 50 = .ok (.aload_n 0, 1) := by decide +kernel
theorem dX5_taught_51 : decode cX5_taught 51 = .ok (.getfield 11, 3) := by decide +kernel
theorem dX5_taught_54 : decode cX5_taught 54 = .ok (.iload_n 3, 1) := by decide +kernel
theorem dX5_taught_55 : decode cX5_taught 55 = .ok (.iaload, 1) := by decide +kernel
theorem dX5_taught_56 : decode cX5_taught 56 = .ok (.iconst 3, 1) := by decide +kernel
theorem dX5_taught_57 : decode cX5_taught 57 = .ok (.iand, 1) := by decide +kernel
theorem dX5_taught_58 : decode cX5_taught 58 = .ok (.ishl, 1) := by decide +kernel
theorem dX5_taught_59 : decode cX5_taught 59 = .ok (.ior, 1) := by decide +kernel
theorem dX5_taught_60 : decode cX5_taught 60 = .ok (.istore 5, 2) := by decide +kernel
theorem dX5_taught_62 : decode cX5_taught 62 = .ok (.iload_n 2, 1) := by decide +kernel
theorem dX5_taught_63 : decode cX5_taught 63 = .ok (.aload_n 0, 1) := by decide +kernel
theorem dX5_taught_64 : decode cX5_taught 64 = .ok (.getfield 15, 3) := by decide +kernel
theorem dX5_taught_67 : decode cX5_taught 67 = .ok (.iload_n 3, 1) := by decide +kernel
theorem dX5_taught_68 : decode cX5_taught 68 = .ok (.iaload, 1) := by decide +kernel
theorem dX5_taught_69 : decode cX5_taught 69 = .ok (.ior, 1) := by decide +kernel
theorem dX5_taught_70 : decode cX5_taught 70 = .ok (.istore 6, 2) := by decide +kernel
theorem dX5_taught_72 : decode cX5_taught 72 = .ok (.aload_n 0, 1) := by decide +kernel
theorem dX5_taught_73 : decode cX5_taught 73 = .ok (.getfield 27, 3) := by decide +kernel
theorem dX5_taught_76 : decode cX5_taught 76 = .ok (.iload_n 1, 1) := by decide +kernel
theorem dX5_taught_77 : decode cX5_taught 77 = .ok (.iaload, 1) := by decide +kernel
theorem dX5_taught_78 : decode cX5_taught 78 = .ok (.iload 5, 2) := by decide +kernel
theorem dX5_taught_80 : decode cX5_taught 80 = .ok (.iand, 1) := by decide +kernel
theorem dX5_taught_81 : decode cX5_taught 81 = .ok (.iload 5, 2) := by decide +kernel
theorem dX5_taught_83 : decode cX5_taught 83 = .ok (.if_icmp .ne 17, 3) := by decide +kernel
theorem dX5_taught_86 : decode cX5_taught 86 = .ok (.iload 6, 2) := by decide +kernel
theorem dX5_taught_88 : decode cX5_taught 88 = .ok (.iload_n 2, 1) := by decide +kernel
theorem dX5_taught_89 : decode cX5_taught 89 = .ok (.if_icmp .eq 11, 3) := by decide +kernel
theorem dX5_taught_92 : decode cX5_taught 92 = .ok (.iload 6, 2) := by decide +kernel
theorem dX5_taught_94 : decode cX5_taught 94 = .ok (.sipush 256, 3) := by decide +kernel
theorem dX5_taught_97 : decode cX5_taught 97 = .ok (.if_icmp .lt 5, 3) := by decide +kernel
theorem dX5_taught_100 : decode cX5_taught 100 = .ok (.iconst (-1), 1) := by decide +kernel
theorem dX5_taught_101 : decode cX5_taught 101 = .ok (.ireturn, 1) := by decide +kernel
theorem dX5_taught_102 : decode cX5_taught 102 = .ok (.aload_n 0, 1) := by decide +kernel
theorem dX5_taught_103 : decode cX5_taught 103 = .ok (.getfield 21, 3) := by decide +kernel
theorem dX5_taught_106 : decode cX5_taught 106 = .ok (.iload_n 2, 1) := by decide +kernel
theorem dX5_taught_107 : decode cX5_taught 107 = .ok (.iaload, 1) := by decide +kernel
theorem dX5_taught_108 : decode cX5_taught 108 = .ok (.iload 4, 2) := by decide +kernel
theorem dX5_taught_110 : decode cX5_taught 110 = .ok (.aload_n 0, 1) := by decide +kernel
theorem dX5_taught_111 : decode cX5_taught 111 = .ok (.getfield 11, 3) := by decide +kernel
theorem dX5_taught_114 : decode cX5_taught 114 = .ok (.iload_n 3, 1) := by decide +kernel
theorem dX5_taught_115 : decode cX5_taught 115 = .ok (.iaload, 1) := by decide +kernel
theorem dX5_taught_116 : decode cX5_taught 116 = .ok (.iconst 2, 1) := by decide +kernel
theorem dX5_taught_117 : decode cX5_taught 117 = .ok (.ishr, 1) := by decide +kernel
theorem dX5_taught_118 : decode cX5_taught 118 = .ok (.iconst 3, 1) := by decide +kernel
theorem dX5_taught_119 : decode cX5_taught 119 = .ok (.iand, 1) := by decide +kernel
theorem dX5_taught_120 : decode cX5_taught 120 = .ok (.invokestatic 91, 3) := by decide +kernel
theorem dX5_taught_123 : decode cX5_taught 123 = .ok (.ifCond .ne 5, 3) := by decide +kernel
theorem dX5_taught_126 : decode cX5_taught 126 = .ok (.iconst (-1), 1) := by decide +kernel
theorem dX5_taught_127 : decode cX5_taught 127 = .ok (.ireturn, 1) := by decide +kernel
theorem dX5_taught_128 : decode cX5_taught 128 = .ok (.aload_n 0, 1) := by decide +kernel
theorem dX5_taught_129 : decode cX5_taught 129 = .ok (.aload_n 0, 1) := by decide +kernel
theorem dX5_taught_130 : decode cX5_taught 130 = .ok (.getfield 27, 3) := by decide +kernel
theorem dX5_taught_133 : decode cX5_taught 133 = .ok (.iload_n 1, 1) := by decide +kernel
theorem dX5_taught_134 : decode cX5_taught 134 = .ok (.iaload, 1) := by decide +kernel
theorem dX5_taught_135 : decode cX5_taught 135 = .ok (.iload 5, 2) := by decide +kernel
theorem dX5_taught_137 : decode cX5_taught 137 = .ok (.iconst (-1), 1) := by decide +kernel
theorem dX5_taught_138 : decode cX5_taught 138 = .ok (.ixor, 1) := by decide +kernel
theorem dX5_taught_139 : decode cX5_taught 139 = .ok (.iand, 1) := by decide +kernel
theorem dX5_taught_140 : decode cX5_taught 140 = .ok (.iload_n 2, 1) := by decide +kernel
theorem dX5_taught_141 : decode cX5_taught 141 = .ok (.invokevirtual 115, 3) := by decide +kernel
theorem dX5_taught_144 : decode cX5_taught 144 = .ok (.aload_n 0, 1) := by decide +kernel
theorem dX5_taught_145 : decode cX5_taught 145 = .ok (.getfield 32, 3) := by decide +kernel
theorem dX5_taught_148 : decode cX5_taught 148 = .ok (.iload_n 1, 1) := by decide +kernel
theorem dX5_taught_149 : decode cX5_taught 149 = .ok (.iconst 1, 1) := by decide +kernel
theorem dX5_taught_150 : decode cX5_taught 150 = .ok (.iadd, 1) := by decide +kernel
theorem dX5_taught_151 : decode cX5_taught 151 = .ok (.aaload, 1) := by decide +kernel
theorem dX5_taught_152 : decode cX5_taught 152 = .ok (.iload 6, 2) := by decide +kernel
theorem dX5_taught_154 : decode cX5_taught 154 = .ok (.iaload, 1) := by decide +kernel
theorem dX5_taught_155 : decode cX5_taught 155 = .ok (.iadd, 1) := by decide +kernel
theorem dX5_taught_156 : decode cX5_taught 156 = .ok (.ireturn, 1) := by decide +kernel
theorem dX5_runsBy_0 : decode cX5_runsBy 0 = .ok (.iload_n 2, 1) := by decide +kernel
theorem dX5_runsBy_1 : decode cX5_runsBy 1 = .ok (.iconst 0, 1) := by decide +kernel
theorem dX5_runsBy_2 : decode cX5_runsBy 2 = .ok (.sipush 255, 3) := by decide +kernel
theorem dX5_runsBy_5 : decode cX5_runsBy 5 = .ok (.invokestatic 98, 3) := by decide +kernel
theorem dX5_runsBy_8 : decode cX5_runsBy 8 = .ok (.ifCond .ne 5, 3) := by decide +kernel
theorem dX5_runsBy_11 : decode cX5_runsBy 11 = .ok (.iconst 0, 1) := by decide +kernel
theorem dX5_runsBy_12 : decode cX5_runsBy 12 = .ok (.ireturn, 1) := by decide +kernel
theorem dX5_runsBy_13 : decode cX5_runsBy 13 = .ok (.iconst 0, 1) := by decide +kernel
theorem dX5_runsBy_14 : decode cX5_runsBy 14 = .ok (.istore_n 3, 1) := by decide +kernel
theorem dX5_runsBy_15 : decode cX5_runsBy 15 = .ok (.iconst 0, 1) := by decide +kernel
theorem dX5_runsBy_16 : decode cX5_runsBy 16 = .ok (.istore 4, 2) := by decide +kernel
theorem dX5_runsBy_18 : decode cX5_runsBy 18 = .ok (.iload 4, 2) := by decide +kernel
theorem dX5_runsBy_20 : decode cX5_runsBy 20 = .ok (.iconst 3, 1) := by decide +kernel
theorem dX5_runsBy_21 : decode cX5_runsBy 21 = .ok (.if_icmp .ge 33, 3) := by decide +kernel
theorem dX5_runsBy_24 : decode cX5_runsBy 24 = .ok (.iload_n 1, 1) := by decide +kernel
theorem dX5_runsBy_25 : decode cX5_runsBy 25 = .ok (.iload 4, 2) := by decide +kernel
theorem dX5_runsBy_27 : decode cX5_runsBy 27 = .ok (.ishr, 1) := by decide +kernel
theorem dX5_runsBy_28 : decode cX5_runsBy 28 = .ok (.iconst 1, 1) := by decide +kernel
theorem dX5_runsBy_29 : decode cX5_runsBy 29 = .ok (.iand, 1) := by decide +kernel
theorem dX5_runsBy_30 : decode cX5_runsBy 30 = .ok (.iconst 1, 1) := by decide +kernel
theorem dX5_runsBy_31 : decode cX5_runsBy 31 = .ok (.if_icmp .ne 17, 3) := by decide +kernel
theorem dX5_runsBy_34 : decode cX5_runsBy 34 = .ok (.iload_n 3, 1) := by decide +kernel
theorem dX5_runsBy_35 : decode cX5_runsBy 35 = .ok (.aload_n 0, 1) := by decide +kernel
theorem dX5_runsBy_36 : decode cX5_runsBy 36 = .ok (.getfield 21, 3) := by decide +kernel
theorem dX5_runsBy_39 : decode cX5_runsBy 39 = .ok (.iload_n 2, 1) := by decide +kernel
theorem dX5_runsBy_40 : decode cX5_runsBy 40 = .ok (.iaload, 1) := by decide +kernel
theorem dX5_runsBy_41 : decode cX5_runsBy 41 = .ok (.iconst 4, 1) := by decide +kernel
theorem dX5_runsBy_42 : decode cX5_runsBy 42 = .ok (.iload 4, 2) := by decide +kernel
theorem dX5_runsBy_44 : decode cX5_runsBy 44 = .ok (.imul, 1) := by decide +kernel
theorem dX5_runsBy_45 : decode cX5_runsBy 45 = .ok (.ishr, 1) := by decide +kernel
theorem dX5_runsBy_46 : decode cX5_runsBy 46 = .ok (.ior, 1) := by decide +kernel
theorem dX5_runsBy_47 : decode cX5_runsBy 47 = .ok (.istore_n 3, 1) := by decide +kernel
theorem dX5_runsBy_48 : decode cX5_runsBy 48 = .ok (.iinc 4 1, 3) := by decide +kernel
theorem dX5_runsBy_51 : decode cX5_runsBy 51 = .ok (.goto (-33), 3) := by decide +kernel
theorem dX5_runsBy_54 : decode cX5_runsBy 54 = .ok (.aload_n 0, 1) := by decide +kernel
theorem dX5_runsBy_55 : decode cX5_runsBy 55 = .ok (.getfield 24, 3) := by decide +kernel
theorem dX5_runsBy_58 : decode cX5_runsBy 58 = .ok (.iload_n 3, 1) := by decide +kernel
theorem dX5_runsBy_59 : decode cX5_runsBy 59 = .ok (.bipush 15, 2) := by decide +kernel
theorem dX5_runsBy_61 : decode cX5_runsBy 61 = .ok (.iand, 1) := by decide +kernel
theorem dX5_runsBy_62 : decode cX5_runsBy 62 = .ok (.iaload, 1) := by decide +kernel
theorem dX5_runsBy_63 : decode cX5_runsBy 63 = .ok (.ireturn, 1) := by decide +kernel
theorem dX5_mostRuns_0 : decode cX5_mostRuns 0 = .ok (.aload_n 0, 1) := by decide +kernel
theorem dX5_mostRuns_1 : decode cX5_mostRuns 1 = .ok (.getfield 32, 3) := by decide +kernel
theorem dX5_mostRuns_4 : decode cX5_mostRuns 4 = .ok (.iconst 0, 1) := by decide +kernel
theorem dX5_mostRuns_5 : decode cX5_mostRuns 5 = .ok (.aaload, 1) := by decide +kernel
theorem dX5_mostRuns_6 : decode cX5_mostRuns 6 = .ok (.iconst 0, 1) := by decide +kernel
theorem dX5_mostRuns_7 : decode cX5_mostRuns 7 = .ok (.iaload, 1) := by decide +kernel
theorem dX5_mostRuns_8 : decode cX5_mostRuns 8 = .ok (.ireturn, 1) := by decide +kernel
theorem dX5_lessonIn_0 : decode cX5_lessonIn 0 = .ok (.iconst 0, 1) := by decide +kernel
theorem dX5_lessonIn_1 : decode cX5_lessonIn 1 = .ok (.istore_n 2, 1) := by decide +kernel
theorem dX5_lessonIn_2 : decode cX5_lessonIn 2 = .ok (.iconst 0, 1) := by decide +kernel
theorem dX5_lessonIn_3 : decode cX5_lessonIn 3 = .ok (.istore_n 3, 1) := by decide +kernel
theorem dX5_lessonIn_4 : decode cX5_lessonIn 4 = .ok (.iload_n 3, 1) := by decide +kernel
theorem dX5_lessonIn_5 : decode cX5_lessonIn 5 = .ok (.aload_n 0, 1) := by decide +kernel
theorem dX5_lessonIn_6 : decode cX5_lessonIn 6 = .ok (.getfield 48, 3) := by decide +kernel
theorem dX5_lessonIn_9 : decode cX5_lessonIn 9 = .ok (.if_icmp .ge 64, 3) := by decide +kernel
theorem dX5_lessonIn_12 : decode cX5_lessonIn 12 = .ok (.aload_n 0, 1) := by decide +kernel
theorem dX5_lessonIn_13 : decode cX5_lessonIn 13 = .ok (.iload_n 3, 1) := by decide +kernel
theorem dX5_lessonIn_14 : decode cX5_lessonIn 14 = .ok (.iload_n 2, 1) := by decide +kernel
theorem dX5_lessonIn_15 : decode cX5_lessonIn 15 = .ok (.invokevirtual 118, 3) := by decide +kernel
theorem dX5_lessonIn_18 : decode cX5_lessonIn 18 = .ok (.istore 4, 2) := by decide +kernel
theorem dX5_lessonIn_20 : decode cX5_lessonIn 20 = .ok (.iload 4, 2) := by decide +kernel
theorem dX5_lessonIn_22 : decode cX5_lessonIn 22 = .ok (.iconst 0, 1) := by decide +kernel
theorem dX5_lessonIn_23 : decode cX5_lessonIn 23 = .ok (.bipush 15, 2) := by decide +kernel
theorem dX5_lessonIn_25 : decode cX5_lessonIn 25 = .ok (.invokestatic 98, 3) := by decide +kernel
theorem dX5_lessonIn_28 : decode cX5_lessonIn 28 = .ok (.istore 5, 2) := by decide +kernel
theorem dX5_lessonIn_30 : decode cX5_lessonIn 30 = .ok (.iload_n 3, 1) := by decide +kernel
theorem dX5_lessonIn_31 : decode cX5_lessonIn 31 = .ok (.iload_n 1, 1) := by decide +kernel
theorem dX5_lessonIn_32 : decode cX5_lessonIn 32 = .ok (.if_icmp .ne 20, 3) := by decide +kernel
theorem dX5_lessonIn_35 : decode cX5_lessonIn 35 = .ok (.iload 5, 2) := by decide +kernel
theorem dX5_lessonIn_37 : decode cX5_lessonIn 37 = .ok (.ifCond .eq 13, 3) := by decide +kernel
theorem dX5_lessonIn_40 : decode cX5_lessonIn 40 = .ok (.aload_n 0, 1) := by decide +kernel
theorem dX5_lessonIn_41 : decode cX5_lessonIn 41 = .ok (.getfield 11, 3) := by decide +kernel
theorem dX5_lessonIn_44 : decode cX5_lessonIn 44 = .ok (.iload 4, 2) := by decide +kernel
theorem dX5_lessonIn_46 : decode cX5_lessonIn 46 = .ok (.iaload, 1) := by decide +kernel
theorem dX5_lessonIn_47 : decode cX5_lessonIn 47 = .ok (.goto 4, 3) := by decide +kernel
theorem dX5_lessonIn_50 : decode cX5_lessonIn 50 = .ok (.iconst (-1), 1) := by decide +kernel
theorem dX5_lessonIn_51 : decode cX5_lessonIn 51 = .ok (.ireturn, 1) := by decide +kernel
theorem dX5_lessonIn_52 : decode cX5_lessonIn 52 = .ok (.iload 5, 2) := by decide +kernel
theorem dX5_lessonIn_54 : decode cX5_lessonIn 54 = .ok (.ifCond .eq 13, 3) := by decide +kernel
theorem dX5_lessonIn_57 : decode cX5_lessonIn 57 = .ok (.iload_n 2, 1) := by decide +kernel
theorem dX5_lessonIn_58 : decode cX5_lessonIn 58 = .ok (.aload_n 0, 1) := by decide +kernel
theorem dX5_lessonIn_59 : decode cX5_lessonIn 59 = .ok (.getfield 15, 3) := by decide +kernel
theorem dX5_lessonIn_62 : decode cX5_lessonIn 62 = .ok (.iload 4, 2) := by decide +kernel
theorem dX5_lessonIn_64 : decode cX5_lessonIn 64 = .ok (.iaload, 1) := by decide +kernel
theorem dX5_lessonIn_65 : decode cX5_lessonIn 65 = .ok (.ior, 1) := by decide +kernel
theorem dX5_lessonIn_66 : decode cX5_lessonIn 66 = .ok (.istore_n 2, 1) := by decide +kernel
theorem dX5_lessonIn_67 : decode cX5_lessonIn 67 = .ok (.iinc 3 1, 3) := by decide +kernel
theorem dX5_lessonIn_70 : decode cX5_lessonIn 70 = .ok (.goto (-66), 3) := by decide +kernel
theorem dX5_lessonIn_73 : decode cX5_lessonIn 73 = .ok (.iconst (-1), 1) := by decide +kernel
theorem dX5_lessonIn_74 : decode cX5_lessonIn 74 = .ok (.ireturn, 1) := by decide +kernel
theorem dX5_bestIn_0 : decode cX5_bestIn 0 = .ok (.aload_n 0, 1) := by decide +kernel
theorem dX5_bestIn_1 : decode cX5_bestIn 1 = .ok (.iload_n 1, 1) := by decide +kernel
theorem dX5_bestIn_2 : decode cX5_bestIn 2 = .ok (.iload_n 2, 1) := by decide +kernel
theorem dX5_bestIn_3 : decode cX5_bestIn 3 = .ok (.invokevirtual 73, 3) := by decide +kernel
theorem dX5_bestIn_6 : decode cX5_bestIn 6 = .ok (.istore_n 3, 1) := by decide +kernel
theorem dX5_bestIn_7 : decode cX5_bestIn 7 = .ok (.aload_n 0, 1) := by decide +kernel
theorem dX5_bestIn_8 : decode cX5_bestIn 8 = .ok (.iload_n 1, 1) := by decide +kernel
theorem dX5_bestIn_9 : decode cX5_bestIn 9 = .ok (.iload_n 2, 1) := by decide +kernel
theorem dX5_bestIn_10 : decode cX5_bestIn 10 = .ok (.invokevirtual 108, 3) := by decide +kernel
theorem dX5_bestIn_13 : decode cX5_bestIn 13 = .ok (.iload_n 3, 1) := by decide +kernel
theorem dX5_bestIn_14 : decode cX5_bestIn 14 = .ok (.if_icmp .ne 5, 3) := by decide +kernel
theorem dX5_bestIn_17 : decode cX5_bestIn 17 = .ok (.iconst (-1), 1) := by decide +kernel
theorem dX5_bestIn_18 : decode cX5_bestIn 18 = .ok (.ireturn, 1) := by decide +kernel
theorem dX5_bestIn_19 : decode cX5_bestIn 19 = .ok (.iconst 0, 1) := by decide +kernel
theorem dX5_bestIn_20 : decode cX5_bestIn 20 = .ok (.istore 4, 2) := by decide +kernel
theorem dX5_bestIn_22 : decode cX5_bestIn 22 = .ok (.iload 4, 2) := by decide +kernel
theorem dX5_bestIn_24 : decode cX5_bestIn 24 = .ok (.aload_n 0, 1) := by decide +kernel
theorem dX5_bestIn_25 : decode cX5_bestIn 25 = .ok (.getfield 101, 3) := by decide +kernel
theorem dX5_bestIn_28 : decode cX5_bestIn 28 = .ok (.if_icmp .ge 24, 3) := by decide +kernel
theorem dX5_bestIn_31 : decode cX5_bestIn 31 = .ok (.aload_n 0, 1) := by decide +kernel
theorem dX5_bestIn_32 : decode cX5_bestIn 32 = .ok (.iload_n 1, 1) := by decide +kernel
theorem dX5_bestIn_33 : decode cX5_bestIn 33 = .ok (.iload_n 2, 1) := by decide +kernel
theorem dX5_bestIn_34 : decode cX5_bestIn 34 = .ok (.iload 4, 2) := by decide +kernel
theorem dX5_bestIn_36 : decode cX5_bestIn 36 = .ok (.invokevirtual 111, 3) := by decide +kernel
theorem dX5_bestIn_39 : decode cX5_bestIn 39 = .ok (.iload_n 3, 1) := by decide +kernel
theorem dX5_bestIn_40 : decode cX5_bestIn 40 = .ok (.if_icmp .ne 6, 3) := by decide +kernel
theorem dX5_bestIn_43 : decode cX5_bestIn 43 = .ok (.iload 4, 2) := by decide +kernel
theorem dX5_bestIn_45 : decode cX5_bestIn 45 = .ok (.ireturn, 1) := by decide +kernel
theorem dX5_bestIn_46 : decode cX5_bestIn 46 = .ok (.iinc 4 1, 3) := by decide +kernel
theorem dX5_bestIn_49 : decode cX5_bestIn 49 = .ok (.goto (-27), 3) := by decide +kernel
theorem dX5_bestIn_52 : decode cX5_bestIn 52 = .ok (.iconst (-1), 1) := by decide +kernel
theorem dX5_bestIn_53 : decode cX5_bestIn 53 = .ok (.ireturn, 1) := by decide +kernel
theorem dX6_init_0 : decode cX6_init 0 = .ok (.aload_n 0, 1) := by decide +kernel
theorem dX6_init_1 : decode cX6_init 1 = .ok (.invokespecial 3, 3) := by decide +kernel
theorem dX6_init_4 : decode cX6_init 4 = .ok (.aload_n 0, 1) := by decide +kernel
theorem dX6_init_5 : decode cX6_init 5 = .ok (.new 9, 3) := by decide +kernel
theorem dX6_init_8 : decode cX6_init 8 = .ok (.dup, 1) := by decide +kernel
theorem dX6_init_9 : decode cX6_init 9 = .ok (.bipush 24, 2) := by decide +kernel
theorem dX6_init_11 : decode cX6_init 11 = .ok (.iconst 5, 1) := by decide +kernel
theorem dX6_init_12 : decode cX6_init 12 = .ok (.invokespecial 11, 3) := by decide +kernel
theorem dX6_init_15 : decode cX6_init 15 = .ok (.putfield 14, 3) := by decide +kernel
theorem dX6_init_18 : decode cX6_init 18 = .ok (.aload_n 0, 1) := by decide +kernel
theorem dX6_init_19 : decode cX6_init 19 = .ok (.new 9, 3) := by decide +kernel
theorem dX6_init_22 : decode cX6_init 22 = .ok (.dup, 1) := by decide +kernel
theorem dX6_init_23 : decode cX6_init 23 = .ok (.iconst 4, 1) := by decide +kernel
theorem dX6_init_24 : decode cX6_init 24 = .ok (.iconst 3, 1) := by decide +kernel
theorem dX6_init_25 : decode cX6_init 25 = .ok (.invokespecial 11, 3) := by decide +kernel
theorem dX6_init_28 : decode cX6_init 28 = .ok (.putfield 20, 3) := by decide +kernel
theorem dX6_init_31 : decode cX6_init 31 = .ok (.aload_n 0, 1) := by decide +kernel
theorem dX6_init_32 : decode cX6_init 32 = .ok (.new 9, 3) := by decide +kernel
theorem dX6_init_35 : decode cX6_init 35 = .ok (.dup, 1) := by decide +kernel
theorem dX6_init_36 : decode cX6_init 36 = .ok (.bipush 60, 2) := by decide +kernel
theorem dX6_init_38 : decode cX6_init 38 = .ok (.bipush 6, 2) := by decide +kernel
theorem dX6_init_40 : decode cX6_init 40 = .ok (.invokespecial 11, 3) := by decide +kernel
theorem dX6_init_43 : decode cX6_init 43 = .ok (.putfield 23, 3) := by decide +kernel
theorem dX6_init_46 : decode cX6_init 46 = .ok (.aload_n 0, 1) := by decide +kernel
theorem dX6_init_47 : decode cX6_init 47 = .ok (.new 9, 3) := by decide +kernel
theorem dX6_init_50 : decode cX6_init 50 = .ok (.dup, 1) := by decide +kernel
theorem dX6_init_51 : decode cX6_init 51 = .ok (.bipush 16, 2) := by decide +kernel
theorem dX6_init_53 : decode cX6_init 53 = .ok (.bipush 15, 2) := by decide +kernel
theorem dX6_init_55 : decode cX6_init 55 = .ok (.invokespecial 11, 3) := by decide +kernel
theorem dX6_init_58 : decode cX6_init 58 = .ok (.putfield 26, 3) := by decide +kernel
theorem dX6_init_61 : decode cX6_init 61 = .ok (.aload_n 0, 1) := by decide +kernel
theorem dX6_init_62 : decode cX6_init 62 = .ok (.new 9, 3) := by decide +kernel
theorem dX6_init_65 : decode cX6_init 65 = .ok (.dup, 1) := by decide +kernel
theorem dX6_init_66 : decode cX6_init 66 = .ok (.bipush 8, 2) := by decide +kernel
theorem dX6_init_68 : decode cX6_init 68 = .ok (.iconst 4, 1) := by decide +kernel
theorem dX6_init_69 : decode cX6_init 69 = .ok (.invokespecial 11, 3) := by decide +kernel
theorem dX6_init_72 : decode cX6_init 72 = .ok (.putfield 29, 3) := by decide +kernel
theorem dX6_init_75 : decode cX6_init 75 = .ok (.aload_n 0, 1) := by decide +kernel
theorem dX6_init_76 : decode cX6_init 76 = .ok (.new 9, 3) := by decide +kernel
theorem dX6_init_79 : decode cX6_init 79 = .ok (.dup, 1) := by decide +kernel
theorem dX6_init_80 : decode cX6_init 80 = .ok (.bipush 6, 2) := by decide +kernel
theorem dX6_init_82 : decode cX6_init 82 = .ok (.iconst 1, 1) := by decide +kernel
theorem dX6_init_83 : decode cX6_init 83 = .ok (.invokespecial 11, 3) := by decide +kernel
theorem dX6_init_86 : decode cX6_init 86 = .ok (.putfield 32, 3) := by decide +kernel
theorem dX6_init_89 : decode cX6_init 89 = .ok (.aload_n 0, 1) := by decide +kernel
theorem dX6_init_90 : decode cX6_init 90 = .ok (.new 9, 3) := by decide +kernel
theorem dX6_init_93 : decode cX6_init 93 = .ok (.dup, 1) := by decide +kernel
theorem dX6_init_94 : decode cX6_init 94 = .ok (.bipush 9, 2) := by decide +kernel
theorem dX6_init_96 : decode cX6_init 96 = .ok (.iconst 3, 1) := by decide +kernel
theorem dX6_init_97 : decode cX6_init 97 = .ok (.invokespecial 11, 3) := by decide +kernel
theorem dX6_init_100 : decode cX6_init 100 = .ok (.putfield 35, 3) := by decide +kernel
theorem dX6_init_103 : decode cX6_init 103 = .ok (.aload_n 0, 1) := by decide +kernel
theorem dX6_init_104 : decode cX6_init 104 = .ok (.new 9, 3) := by decide +kernel
theorem dX6_init_107 : decode cX6_init 107 = .ok (.dup, 1) := by decide +kernel
theorem dX6_init_108 : decode cX6_init 108 = .ok (.iconst 1, 1) := by decide +kernel
theorem dX6_init_109 : decode cX6_init 109 = .ok (.iconst 2, 1) := by decide +kernel
theorem dX6_init_110 : decode cX6_init 110 = .ok (.invokespecial 11, 3) := by decide +kernel
theorem dX6_init_113 : decode cX6_init 113 = .ok (.putfield 38, 3) := by decide +kernel
theorem dX6_init_116 : decode cX6_init 116 = .ok (.aload_n 0, 1) := by decide +kernel
theorem dX6_init_117 : decode cX6_init 117 = .ok (.new 9, 3) := by decide +kernel
theorem dX6_init_120 : decode cX6_init 120 = .ok (.dup, 1) := by decide +kernel
theorem dX6_init_121 : decode cX6_init 121 = .ok (.bipush 40, 2) := by decide +kernel
theorem dX6_init_123 : decode cX6_init 123 = .ok (.iconst 2, 1) := by decide +kernel
theorem dX6_init_124 : decode cX6_init 124 = .ok (.invokespecial 11, 3) := by decide +kernel
theorem dX6_init_127 : decode cX6_init 127 = .ok (.putfield 41, 3) := by decide +kernel
theorem dX6_init_130 : decode cX6_init 130 = .ok (.aload_n 0, 1) := by decide +kernel
theorem dX6_init_131 : decode cX6_init 131 = .ok (.new 9, 3) := by decide +kernel
theorem dX6_init_134 : decode cX6_init 134 = .ok (.dup, 1) := by decide +kernel
theorem dX6_init_135 : decode cX6_init 135 = .ok (.iconst 3, 1) := by decide +kernel
theorem dX6_init_136 : decode cX6_init 136 = .ok (.iconst 2, 1) := by decide +kernel
theorem dX6_init_137 : decode cX6_init 137 = .ok (.invokespecial 11, 3) := by decide +kernel
theorem dX6_init_140 : decode cX6_init 140 = .ok (.putfield 44, 3) := by decide +kernel
theorem dX6_init_143 : decode cX6_init 143 = .ok (.aload_n 0, 1) := by decide +kernel
theorem dX6_init_144 : decode cX6_init 144 = .ok (.new 9, 3) := by decide +kernel
theorem dX6_init_147 : decode cX6_init 147 = .ok (.dup, 1) := by decide +kernel
theorem dX6_init_148 : decode cX6_init 148 = .ok (.iconst 4, 1) := by decide +kernel
theorem dX6_init_149 : decode cX6_init 149 = .ok (.iconst 1, 1) := by decide +kernel
theorem dX6_init_150 : decode cX6_init 150 = .ok (.invokespecial 11, 3) := by decide +kernel
theorem dX6_init_153 : decode cX6_init 153 = .ok (.putfield 47, 3) := by decide +kernel
theorem dX6_init_156 : decode cX6_init 156 = .ok (.aload_n 0, 1) := by decide +kernel
theorem dX6_init_157 : decode cX6_init 157 = .ok (.new 9, 3) := by decide +kernel
theorem dX6_init_160 : decode cX6_init 160 = .ok (.dup, 1) := by decide +kernel
theorem dX6_init_161 : decode cX6_init 161 = .ok (.bipush 60, 2) := by decide +kernel
theorem dX6_init_163 : decode cX6_init 163 = .ok (.iconst 1, 1) := by decide +kernel
theorem dX6_init_164 : decode cX6_init 164 = .ok (.invokespecial 11, 3) := by decide +kernel
theorem dX6_init_167 : decode cX6_init 167 = .ok (.putfield 52, 3) := by decide +kernel
theorem dX6_init_170 : decode cX6_init 170 = .ok (.iconst 0, 1) := by decide +kernel
theorem dX6_init_171 : decode cX6_init 171 = .ok (.istore_n 1, 1) := by decide +kernel
theorem dX6_init_172 : decode cX6_init 172 = .ok (.iload_n 1, 1) := by decide +kernel
theorem dX6_init_173 : decode cX6_init 173 = .ok (.iconst 4, 1) := by decide +kernel
theorem dX6_init_174 : decode cX6_init 174 = .ok (.if_icmp .ge 22, 3) := by decide +kernel
theorem dX6_init_177 : decode cX6_init 177 = .ok (.aload_n 0, 1) := by decide +kernel
theorem dX6_init_178 : decode cX6_init 178 = .ok (.getfield 20, 3) := by decide +kernel
theorem dX6_init_181 : decode cX6_init 181 = .ok (.iconst 1, 1) := by decide +kernel
theorem dX6_init_182 : decode cX6_init 182 = .ok (.iconst 1, 1) := by decide +kernel
theorem dX6_init_183 : decode cX6_init 183 = .ok (.ldc 55, 2) := by decide +kernel
theorem dX6_init_185 : decode cX6_init 185 = .ok (.iconst 0, 1) := by decide +kernel
theorem dX6_init_186 : decode cX6_init 186 = .ok (.invokevirtual 56, 3) := by decide +kernel
theorem dX6_init_189 : decode cX6_init 189 = .ok (.pop, 1) := by decide +kernel
theorem dX6_init_190 : decode cX6_init 190 = .ok (.iinc 1 1, 3) := by decide +kernel
theorem dX6_init_193 : decode cX6_init 193 = .ok (.goto (-21), 3) := by decide +kernel
theorem dX6_init_196 : decode cX6_init 196 = .ok (.iconst 0, 1) := by decide +kernel
theorem dX6_init_197 : decode cX6_init 197 = .ok (.istore_n 1, 1) := by decide +kernel
theorem dX6_init_198 : decode cX6_init 198 = .ok (.iload_n 1, 1) := by decide +kernel
theorem dX6_init_199 : decode cX6_init 199 = .ok (.iconst 4, 1) := by decide +kernel
theorem dX6_init_200 : decode cX6_init 200 = .ok (.if_icmp .ge 21, 3) := by decide +kernel
theorem dX6_init_203 : decode cX6_init 203 = .ok (.aload_n 0, 1) := by decide +kernel
theorem dX6_init_204 : decode cX6_init 204 = .ok (.getfield 47, 3) := by decide +kernel
theorem dX6_init_207 : decode cX6_init 207 = .ok (.iconst 0, 1) := by decide +kernel
theorem dX6_init_208 : decode cX6_init 208 = .ok (.iconst 0, 1) := by decide +kernel
theorem dX6_init_209 : decode cX6_init 209 = .ok (.iconst 0, 1) := by decide +kernel
theorem dX6_init_210 : decode cX6_init 210 = .ok (.iconst 0, 1) := by decide +kernel
theorem dX6_init_211 : decode cX6_init 211 = .ok (.invokevirtual 56, 3) := by decide +kernel
theorem dX6_init_214 : decode cX6_init 214 = .ok (.pop, 1) := by decide +kernel
theorem dX6_init_215 : decode cX6_init 215 = .ok (.iinc 1 1, 3) := by decide +kernel
theorem dX6_init_218 : decode cX6_init 218 = .ok (.goto (-20), 3) := by decide +kernel
theorem dX6_init_221 : decode cX6_init 221 = .ok (.aload_n 0, 1) := by decide +kernel
theorem dX6_init_222 : decode cX6_init 222 = .ok (.getfield 38, 3) := by decide +kernel
theorem dX6_init_225 : decode cX6_init 225 = .ok (.iconst 0, 1) := by decide +kernel
theorem dX6_init_226 : decode cX6_init 226 = .ok (.iconst 0, 1) := by decide +kernel
theorem dX6_init_227 : decode cX6_init 227 = .ok (.iconst 0, 1) := by decide +kernel
theorem dX6_init_228 : decode cX6_init 228 = .ok (.iconst 0, 1) := by decide +kernel
theorem dX6_init_229 : decode cX6_init 229 = .ok (.invokevirtual 56, 3) := by decide +kernel
theorem dX6_init_232 : decode cX6_init 232 = .ok (.pop, 1) := by decide +kernel
theorem dX6_init_233 : decode cX6_init 233 = .ok (.return_, 1) := by decide +kernel
theorem dX6_copy_0 : decode cX6_copy 0 = .ok (.aload_n 0, 1) := by decide +kernel
theorem dX6_copy_1 : decode cX6_copy 1 = .ok (.getfield 14, 3) := by decide +kernel
theorem dX6_copy_4 : decode cX6_copy 4 = .ok (.aload_n 1, 1) := by decide +kernel
theorem dX6_copy_5 : decode cX6_copy 5 = .ok (.getfield 14, 3) := by decide +kernel
theorem dX6_copy_8 : decode cX6_copy 8 = .ok (.invokevirtual 60, 3) := by decide +kernel
theorem dX6_copy_11 : decode cX6_copy 11 = .ok (.aload_n 0, 1) := by decide +kernel
theorem dX6_copy_12 : decode cX6_copy 12 = .ok (.getfield 20, 3) := by decide +kernel
theorem dX6_copy_15 : decode cX6_copy 15 = .ok (.aload_n 1, 1) := by decide +kernel
theorem dX6_copy_16 : decode cX6_copy 16 = .ok (.getfield 20, 3) := by decide +kernel
theorem dX6_copy_19 : decode cX6_copy 19 = .ok (.invokevirtual 60, 3) := by decide +kernel
theorem dX6_copy_22 : decode cX6_copy 22 = .ok (.aload_n 0, 1) := by decide +kernel
theorem dX6_copy_23 : decode cX6_copy 23 = .ok (.getfield 23, 3) := by decide +kernel
theorem dX6_copy_26 : decode cX6_copy 26 = .ok (.aload_n 1, 1) := by decide +kernel
theorem dX6_copy_27 : decode cX6_copy 27 = .ok (.getfield 23, 3) := by decide +kernel
theorem dX6_copy_30 : decode cX6_copy 30 = .ok (.invokevirtual 60, 3) := by decide +kernel
theorem dX6_copy_33 : decode cX6_copy 33 = .ok (.aload_n 0, 1) := by decide +kernel
theorem dX6_copy_34 : decode cX6_copy 34 = .ok (.getfield 26, 3) := by decide +kernel
theorem dX6_copy_37 : decode cX6_copy 37 = .ok (.aload_n 1, 1) := by decide +kernel
theorem dX6_copy_38 : decode cX6_copy 38 = .ok (.getfield 26, 3) := by decide +kernel
theorem dX6_copy_41 : decode cX6_copy 41 = .ok (.invokevirtual 60, 3) := by decide +kernel
theorem dX6_copy_44 : decode cX6_copy 44 = .ok (.aload_n 0, 1) := by decide +kernel
theorem dX6_copy_45 : decode cX6_copy 45 = .ok (.getfield 29, 3) := by decide +kernel
theorem dX6_copy_48 : decode cX6_copy 48 = .ok (.aload_n 1, 1) := by decide +kernel
theorem dX6_copy_49 : decode cX6_copy 49 = .ok (.getfield 29, 3) := by decide +kernel
theorem dX6_copy_52 : decode cX6_copy 52 = .ok (.invokevirtual 60, 3) := by decide +kernel
theorem dX6_copy_55 : decode cX6_copy 55 = .ok (.aload_n 0, 1) := by decide +kernel
theorem dX6_copy_56 : decode cX6_copy 56 = .ok (.getfield 32, 3) := by decide +kernel
theorem dX6_copy_59 : decode cX6_copy 59 = .ok (.aload_n 1, 1) := by decide +kernel
theorem dX6_copy_60 : decode cX6_copy 60 = .ok (.getfield 32, 3) := by decide +kernel
theorem dX6_copy_63 : decode cX6_copy 63 = .ok (.invokevirtual 60, 3) := by decide +kernel
theorem dX6_copy_66 : decode cX6_copy 66 = .ok (.aload_n 0, 1) := by decide +kernel
theorem dX6_copy_67 : decode cX6_copy 67 = .ok (.getfield 35, 3) := by decide +kernel
theorem dX6_copy_70 : decode cX6_copy 70 = .ok (.aload_n 1, 1) := by decide +kernel
theorem dX6_copy_71 : decode cX6_copy 71 = .ok (.getfield 35, 3) := by decide +kernel
theorem dX6_copy_74 : decode cX6_copy 74 = .ok (.invokevirtual 60, 3) := by decide +kernel
theorem dX6_copy_77 : decode cX6_copy 77 = .ok (.aload_n 0, 1) := by decide +kernel
theorem dX6_copy_78 : decode cX6_copy 78 = .ok (.getfield 38, 3) := by decide +kernel
theorem dX6_copy_81 : decode cX6_copy 81 = .ok (.aload_n 1, 1) := by decide +kernel
theorem dX6_copy_82 : decode cX6_copy 82 = .ok (.getfield 38, 3) := by decide +kernel
theorem dX6_copy_85 : decode cX6_copy 85 = .ok (.invokevirtual 60, 3) := by decide +kernel
theorem dX6_copy_88 : decode cX6_copy 88 = .ok (.aload_n 0, 1) := by decide +kernel
theorem dX6_copy_89 : decode cX6_copy 89 = .ok (.getfield 41, 3) := by decide +kernel
theorem dX6_copy_92 : decode cX6_copy 92 = .ok (.aload_n 1, 1) := by decide +kernel
theorem dX6_copy_93 : decode cX6_copy 93 = .ok (.getfield 41, 3) := by decide +kernel
theorem dX6_copy_96 : decode cX6_copy 96 = .ok (.invokevirtual 60, 3) := by decide +kernel
theorem dX6_copy_99 : decode cX6_copy 99 = .ok (.aload_n 0, 1) := by decide +kernel
theorem dX6_copy_100 : decode cX6_copy 100 = .ok (.getfield 44, 3) := by decide +kernel
theorem dX6_copy_103 : decode cX6_copy 103 = .ok (.aload_n 1, 1) := by decide +kernel
theorem dX6_copy_104 : decode cX6_copy 104 = .ok (.getfield 44, 3) := by decide +kernel
theorem dX6_copy_107 : decode cX6_copy 107 = .ok (.invokevirtual 60, 3) := by decide +kernel
theorem dX6_copy_110 : decode cX6_copy 110 = .ok (.aload_n 0, 1) := by decide +kernel
theorem dX6_copy_111 : decode cX6_copy 111 = .ok (.getfield 47, 3) := by decide +kernel
theorem dX6_copy_114 : decode cX6_copy 114 = .ok (.aload_n 1, 1) := by decide +kernel
theorem dX6_copy_115 : decode cX6_copy 115 = .ok (.getfield 47, 3) := by decide +kernel
theorem dX6_copy_118 : decode cX6_copy 118 = .ok (.invokevirtual 60, 3) := by decide +kernel
theorem dX6_copy_121 : decode cX6_copy 121 = .ok (.aload_n 0, 1) := by decide +kernel
theorem dX6_copy_122 : decode cX6_copy 122 = .ok (.getfield 52, 3) := by decide +kernel
theorem dX6_copy_125 : decode cX6_copy 125 = .ok (.aload_n 1, 1) := by decide +kernel
theorem dX6_copy_126 : decode cX6_copy 126 = .ok (.getfield 52, 3) := by decide +kernel
theorem dX6_copy_129 : decode cX6_copy 129 = .ok (.invokevirtual 60, 3) := by decide +kernel
theorem dX6_copy_132 : decode cX6_copy 132 = .ok (.return_, 1) := by decide +kernel
theorem dX6_deniedSayings_0 : decode cX6_deniedSayings 0 = .ok (.iconst 0, 1) := by decide +kernel
theorem dX6_deniedSayings_1 : decode cX6_deniedSayings 1 = .ok (.istore_n 1, 1) := by decide +kernel
theorem dX6_deniedSayings_2 : decode cX6_deniedSayings 2 = .ok (.iconst 0, 1) := by decide +kernel
theorem dX6_deniedSayings_3 : decode cX6_deniedSayings 3 = .ok (.istore_n 2, 1) := by decide +kernel
theorem dX6_deniedSayings_4 : decode cX6_deniedSayings 4 = .ok (.iload_n 2, 1) := by decide +kernel
theorem dX6_deniedSayings_5 : decode cX6_deniedSayings 5 = .ok (.aload_n 0, 1) := by decide +kernel
theorem dX6_deniedSayings_6 : decode cX6_deniedSayings 6 = .ok (.getfield 23, 3) := by decide +kernel
theorem dX6_deniedSayings_9 : decode cX6_deniedSayings 9 = .ok (.invokevirtual 64, 3) := by decide +kernel
theorem dX6_deniedSayings_12 : decode cX6_deniedSayings 12 = .ok (.if_icmp .ge 21, 3) := by decide +kernel
theorem dX6_deniedSayings_15 : decode cX6_deniedSayings 15 = .ok (.iload_n 1, 1) := by decide +kernel
theorem dX6_deniedSayings_16 : decode cX6_deniedSayings 16 = .ok (.aload_n 0, 1) := by decide +kernel
theorem dX6_deniedSayings_17 : decode cX6_deniedSayings 17 = .ok (.getfield 23, 3) := by decide +kernel
theorem dX6_deniedSayings_20 : decode cX6_deniedSayings 20 = .ok (.iload_n 2, 1) := by decide +kernel
theorem dX6_deniedSayings_21 : decode cX6_deniedSayings 21 = .ok (.iconst 5, 1) := by decide +kernel
theorem dX6_deniedSayings_22 : decode cX6_deniedSayings 22 = .ok (.invokevirtual 68, 3) := by decide +kernel
theorem dX6_deniedSayings_25 : decode cX6_deniedSayings 25 = .ok (.iadd, 1) := by decide +kernel
theorem dX6_deniedSayings_26 : decode cX6_deniedSayings 26 = .ok (.istore_n 1, 1) := by decide +kernel
theorem dX6_deniedSayings_27 : decode cX6_deniedSayings 27 = .ok (.iinc 2 1, 3) := by decide +kernel
theorem dX6_deniedSayings_30 : decode cX6_deniedSayings 30 = .ok (.goto (-26), 3) := by decide +kernel
theorem dX6_deniedSayings_33 : decode cX6_deniedSayings 33 = .ok (.iload_n 1, 1) := by decide +kernel
theorem dX6_deniedSayings_34 : decode cX6_deniedSayings 34 = .ok (.ireturn, 1) := by decide +kernel
theorem dX6_isIn_0 : decode cX6_isIn 0 = .ok (.aload_n 0, 1) := by decide +kernel
theorem dX6_isIn_1 : decode cX6_isIn 1 = .ok (.getfield 26, 3) := by decide +kernel
theorem dX6_isIn_4 : decode cX6_isIn 4 = .ok (.iload_n 1, 1) := by decide +kernel
theorem dX6_isIn_5 : decode cX6_isIn 5 = .ok (.iconst 2, 1) := by decide +kernel
theorem dX6_isIn_6 : decode cX6_isIn 6 = .ok (.invokevirtual 68, 3) := by decide +kernel
theorem dX6_isIn_9 : decode cX6_isIn 9 = .ok (.istore_n 3, 1) := by decide +kernel
theorem dX6_isIn_10 : decode cX6_isIn 10 = .ok (.iconst 0, 1) := by decide +kernel
theorem dX6_isIn_11 : decode cX6_isIn 11 = .ok (.istore 4, 2) := by decide +kernel
theorem dX6_isIn_13 : decode cX6_isIn 13 = .ok (.iload 4, 2) := by decide +kernel
theorem dX6_isIn_15 : decode cX6_isIn 15 = .ok (.iload_n 3, 1) := by decide +kernel
theorem dX6_isIn_16 : decode cX6_isIn 16 = .ok (.if_icmp .ge 29, 3) := by decide +kernel
theorem dX6_isIn_19 : decode cX6_isIn 19 = .ok (.aload_n 0, 1) := by decide +kernel
theorem dX6_isIn_20 : decode cX6_isIn 20 = .ok (.getfield 26, 3) := by decide +kernel
theorem dX6_isIn_23 : decode cX6_isIn 23 = .ok (.iload_n 1, 1) := by decide +kernel
theorem dX6_isIn_24 : decode cX6_isIn 24 = .ok (.iconst 3, 1) := by decide +kernel
theorem dX6_isIn_25 : decode cX6_isIn 25 = .ok (.iconst 2, 1) := by decide +kernel
theorem dX6_isIn_26 : decode cX6_isIn 26 = .ok (.iload 4, 2) := by decide +kernel
theorem dX6_isIn_28 : decode cX6_isIn 28 = .ok (.imul, 1) := by decide +kernel
theorem dX6_isIn_29 : decode cX6_isIn 29 = .ok (.iadd, 1) := by decide +kernel
theorem dX6_isIn_30 : decode cX6_isIn 30 = .ok (.invokevirtual 68, 3) := by decide +kernel
theorem dX6_isIn_33 : decode cX6_isIn 33 = .ok (.iload_n 2, 1) := by decide +kernel
theorem dX6_isIn_34 : decode cX6_isIn 34 = .ok (.if_icmp .ne 5, 3) := by decide +kernel
theorem dX6_isIn_37 : decode cX6_isIn 37 = .ok (.iconst 1, 1) := by decide +kernel
theorem dX6_isIn_38 : decode cX6_isIn 38 = .ok (.ireturn, 1) := by decide +kernel
theorem dX6_isIn_39 : decode cX6_isIn 39 = .ok (.iinc 4 1, 3) := by decide +kernel
theorem dX6_isIn_42 : decode cX6_isIn 42 = .ok (.goto (-29), 3) := by decide +kernel
theorem dX6_isIn_45 : decode cX6_isIn 45 = .ok (.iconst 0, 1) := by decide +kernel
theorem dX6_isIn_46 : decode cX6_isIn 46 = .ok (.ireturn, 1) := by decide +kernel
theorem dX7_init_0 : decode cX7_init 0 = .ok (.aload_n 0, 1) := by decide +kernel
theorem dX7_init_1 : decode cX7_init 1 = .ok (.invokespecial 3, 3) := by decide +kernel
theorem dX7_init_4 : decode cX7_init 4 = .ok (.aload_n 0, 1) := by decide +kernel
theorem dX7_init_5 : decode cX7_init 5 = .ok (.aload_n 1, 1) := by decide +kernel
theorem dX7_init_6 : decode cX7_init 6 = .ok (.putfield 9, 3) := by decide +kernel
theorem dX7_init_9 : decode cX7_init 9 = .ok (.aload_n 0, 1) := by decide +kernel
theorem dX7_init_10 : decode cX7_init 10 = .ok (.aload_n 2, 1) := by decide +kernel
theorem dX7_init_11 : decode cX7_init 11 = .ok (.putfield 15, 3) := by decide +kernel
theorem dX7_init_14 : decode cX7_init 14 = .ok (.aload_n 0, 1) := by decide +kernel
theorem dX7_init_15 : decode cX7_init 15 = .ok (.bipush 60, 2) := by decide +kernel
theorem dX7_init_17 : decode cX7_init 17 = .ok (.newarray .int, 2) := by decide +kernel
theorem dX7_init_19 : decode cX7_init 19 = .ok (.putfield 19, 3) := by decide +kernel
theorem dX7_init_22 : decode cX7_init 22 = .ok (.aload_n 0, 1) := by decide +kernel
theorem dX7_init_23 : decode cX7_init 23 = .ok (.bipush 60, 2) := by decide +kernel
theorem dX7_init_25 : decode cX7_init 25 = .ok (.newarray .int, 2) := by decide +kernel
theorem dX7_init_27 : decode cX7_init 27 = .ok (.putfield 23, 3) := by decide +kernel
theorem dX7_init_30 : decode cX7_init 30 = .ok (.aload_n 0, 1) := by decide +kernel
theorem dX7_init_31 : decode cX7_init 31 = .ok (.bipush 60, 2) := by decide +kernel
theorem dX7_init_33 : decode cX7_init 33 = .ok (.newarray .int, 2) := by decide +kernel
theorem dX7_init_35 : decode cX7_init 35 = .ok (.putfield 26, 3) := by decide +kernel
theorem dX7_init_38 : decode cX7_init 38 = .ok (.return_, 1) := by decide +kernel
theorem dX7_find_0 : decode cX7_find 0 = .ok (.aload_n 0, 1) := by decide +kernel
theorem dX7_find_1 : decode cX7_find 1 = .ok (.aload_n 0, 1) := by decide +kernel
theorem dX7_find_2 : decode cX7_find 2 = .ok (.getfield 9, 3) := by decide +kernel
theorem dX7_find_5 : decode cX7_find 5 = .ok (.getfield 29, 3) := by decide +kernel
theorem dX7_find_8 : decode cX7_find 8 = .ok (.iload_n 1, 1) := by decide +kernel
theorem dX7_find_9 : decode cX7_find 9 = .ok (.iconst 3, 1) := by decide +kernel
theorem dX7_find_10 : decode cX7_find 10 = .ok (.invokevirtual 35, 3) := by decide +kernel
theorem dX7_find_13 : decode cX7_find 13 = .ok (.invokevirtual 41, 3) := by decide +kernel
theorem dX7_find_16 : decode cX7_find 16 = .ok (.aload_n 0, 1) := by decide +kernel
theorem dX7_find_17 : decode cX7_find 17 = .ok (.iconst 0, 1) := by decide +kernel
theorem dX7_find_18 : decode cX7_find 18 = .ok (.putfield 45, 3) := by decide +kernel
theorem dX7_find_21 : decode cX7_find 21 = .ok (.iconst 0, 1) := by decide +kernel
theorem dX7_find_22 : decode cX7_find 22 = .ok (.istore_n 2, 1) := by decide +kernel
theorem dX7_find_23 : decode cX7_find 23 = .ok (.iload_n 2, 1) := by decide +kernel
theorem dX7_find_24 : decode cX7_find 24 = .ok (.aload_n 0, 1) := by decide +kernel
theorem dX7_find_25 : decode cX7_find 25 = .ok (.getfield 9, 3) := by decide +kernel
theorem dX7_find_28 : decode cX7_find 28 = .ok (.getfield 49, 3) := by decide +kernel
theorem dX7_find_31 : decode cX7_find 31 = .ok (.invokevirtual 51, 3) := by decide +kernel
theorem dX7_find_34 : decode cX7_find 34 = .ok (.if_icmp .ge 82, 3) := by decide +kernel
theorem dX7_find_37 : decode cX7_find 37 = .ok (.aload_n 0, 1) := by decide +kernel
theorem dX7_find_38 : decode cX7_find 38 = .ok (.getfield 9, 3) := by decide +kernel
theorem dX7_find_41 : decode cX7_find 41 = .ok (.getfield 49, 3) := by decide +kernel
theorem dX7_find_44 : decode cX7_find 44 = .ok (.iload_n 2, 1) := by decide +kernel
theorem dX7_find_45 : decode cX7_find 45 = .ok (.iconst 0, 1) := by decide +kernel
theorem dX7_find_46 : decode cX7_find 46 = .ok (.invokevirtual 35, 3) := by decide +kernel
theorem dX7_find_49 : decode cX7_find 49 = .ok (.iload_n 1, 1) := by decide +kernel
theorem dX7_find_50 : decode cX7_find 50 = .ok (.if_icmp .ne 22, 3) := by decide +kernel
theorem dX7_find_53 : decode cX7_find 53 = .ok (.aload_n 0, 1) := by decide +kernel
theorem dX7_find_54 : decode cX7_find 54 = .ok (.getfield 9, 3) := by decide +kernel
theorem dX7_find_57 : decode cX7_find 57 = .ok (.getfield 49, 3) := by decide +kernel
theorem dX7_find_60 : decode cX7_find 60 = .ok (.iload_n 2, 1) := by decide +kernel
theorem dX7_find_61 : decode cX7_find 61 = .ok (.iconst 5, 1) := by decide +kernel
theorem dX7_find_62 : decode cX7_find 62 = .ok (.invokevirtual 35, 3) := by decide +kernel
theorem dX7_find_65 : decode cX7_find 65 = .ok (.ifCond .ne 7, 3) := by decide +kernel
theorem dX7_find_68 : decode cX7_find 68 = .ok (.iconst 1, 1) := by decide +kernel
theorem dX7_find_69 : decode cX7_find 69 = .ok (.goto 4, 3) := by decide +kernel
theorem dX7_find_72 : decode cX7_find 72 = .ok (.iconst 0, 1) := by decide +kernel
theorem dX7_find_73 : decode cX7_find 73 = .ok (.istore_n 3, 1) := by decide +kernel
theorem dX7_find_74 : decode cX7_find 74 = .ok (.iload_n 3, 1) := by decide +kernel
theorem dX7_find_75 : decode cX7_find 75 = .ok (.ifCond .eq 35, 3) := by decide +kernel
theorem dX7_find_78 : decode cX7_find 78 = .ok (.aload_n 0, 1) := by decide +kernel
theorem dX7_find_79 : decode cX7_find 79 = .ok (.getfield 45, 3) := by decide +kernel
theorem dX7_find_82 : decode cX7_find 82 = .ok (.aload_n 0, 1) := by decide +kernel
theorem dX7_find_83 : decode cX7_find 83 = .ok (.getfield 26, 3) := by decide +kernel
theorem dX7_find_86 : decode cX7_find 86 = .ok (.arraylength, 1) := by decide +kernel
theorem dX7_find_87 : decode cX7_find 87 = .ok (.if_icmp .ge 23, 3) := by decide +kernel
theorem dX7_find_90 : decode cX7_find 90 = .ok (.aload_n 0, 1) := by decide +kernel
theorem dX7_find_91 : decode cX7_find 91 = .ok (.iload_n 1, 1) := by decide +kernel
theorem dX7_find_92 : decode cX7_find 92 = .ok (.iload_n 2, 1) := by decide +kernel
theorem dX7_find_93 : decode cX7_find 93 = .ok (.aload_n 0, 1) := by decide +kernel
theorem dX7_find_94 : decode cX7_find 94 = .ok (.getfield 45, 3) := by decide +kernel
theorem dX7_find_97 : decode cX7_find 97 = .ok (.invokevirtual 55, 3) := by decide +kernel
theorem dX7_find_100 : decode cX7_find 100 = .ok (.aload_n 0, 1) := by decide +kernel
theorem dX7_find_101 : decode cX7_find 101 = .ok (.dup, 1) := by decide +kernel
theorem dX7_find_102 : decode cX7_find 102 = .ok (.getfield 45, 3) := by decide +kernel
theorem dX7_find_105 : decode cX7_find 105 = .ok (.iconst 1, 1) := by decide +kernel
theorem dX7_find_106 : decode cX7_find 106 = .ok (.iadd, 1) := by decide +kernel
theorem dX7_find_107 : decode cX7_find 107 = .ok (.putfield 45, 3) := by decide +kernel
theorem dX7_find_110 : decode cX7_find 110 = .ok (.iinc 2 1, 3) := by decide +kernel
theorem dX7_find_113 : decode cX7_find 113 = .ok (.goto (-90), 3) := by decide +kernel
theorem dX7_find_116 : decode cX7_find 116 = .ok (.aload_n 0, 1) := by decide +kernel
theorem dX7_find_117 : decode cX7_find 117 = .ok (.invokevirtual 59, 3) := by decide +kernel
theorem dX7_find_120 : decode cX7_find 120 = .ok (.return_, 1) := by decide +kernel
theorem dX7_chooseFamily_0 : decode cX7_chooseFamily 0 = .ok (.aload_n 0, 1) := by decide +kernel
theorem dX7_chooseFamily_1 : decode cX7_chooseFamily 1 = .ok (.getfield 9, 3) := by decide +kernel
theorem dX7_chooseFamily_4 : decode cX7_chooseFamily 4 = .ok (.getfield 62, 3) := by decide +kernel
theorem dX7_chooseFamily_7 : decode cX7_chooseFamily 7 = .ok (.iload_n 1, 1) := by decide +kernel
theorem dX7_chooseFamily_8 : decode cX7_chooseFamily 8 = .ok (.invokevirtual 65, 3) := by decide +kernel
theorem dX7_chooseFamily_11 : decode cX7_chooseFamily 11 = .ok (.istore_n 2, 1) := by decide +kernel
theorem dX7_chooseFamily_12 : decode cX7_chooseFamily 12 = .ok (.aload_n 0, 1) := by decide +kernel
theorem dX7_chooseFamily_13 : decode cX7_chooseFamily 13 = .ok (.iload_n 2, 1) := by decide +kernel
theorem dX7_chooseFamily_14 : decode cX7_chooseFamily 14 = .ok (.ifCond .eq 18, 3) := by decide +kernel
theorem dX7_chooseFamily_17 : decode cX7_chooseFamily 17 = .ok (.aload_n 0, 1) := by decide +kernel
theorem dX7_chooseFamily_18 : decode cX7_chooseFamily 18 = .ok (.getfield 9, 3) := by decide +kernel
theorem dX7_chooseFamily_21 : decode cX7_chooseFamily 21 = .ok (.getfield 62, 3) := by decide +kernel
theorem dX7_chooseFamily_24 : decode cX7_chooseFamily 24 = .ok (.iload_n 1, 1) := by decide +kernel
theorem dX7_chooseFamily_25 : decode cX7_chooseFamily 25 = .ok (.iconst 0, 1) := by decide +kernel
theorem dX7_chooseFamily_26 : decode cX7_chooseFamily 26 = .ok (.invokevirtual 35, 3) := by decide +kernel
theorem dX7_chooseFamily_29 : decode cX7_chooseFamily 29 = .ok (.goto 4, 3) := by decide +kernel
theorem dX7_chooseFamily_32 : decode cX7_chooseFamily 32 = .ok (.iconst 1, 1) := by decide +kernel
theorem dX7_chooseFamily_33 : decode cX7_chooseFamily 33 = .ok (.putfield 69, 3) := by decide +kernel
theorem dX7_chooseFamily_36 : decode cX7_chooseFamily 36 = .ok (.aload_n 0, 1) := by decide +kernel
theorem dX7_chooseFamily_37 : decode cX7_chooseFamily 37 = .ok (.iload_n 2, 1) := by decide +kernel
theorem dX7_chooseFamily_38 : decode cX7_chooseFamily 38 = .ok (.ifCond .eq 22, 3) := by decide +kernel
theorem dX7_chooseFamily_41 : decode cX7_chooseFamily 41 = .ok (.iconst 1, 1) := by decide +kernel
theorem dX7_chooseFamily_42 : decode cX7_chooseFamily 42 = .ok (.aload_n 0, 1) := by decide +kernel
theorem dX7_chooseFamily_43 : decode cX7_chooseFamily 43 = .ok (.getfield 9, 3) := by decide +kernel
theorem dX7_chooseFamily_46 : decode cX7_chooseFamily 46 = .ok (.getfield 62, 3) := by decide +kernel
theorem dX7_chooseFamily_49 : decode cX7_chooseFamily 49 = .ok (.iload_n 1, 1) := by decide +kernel
theorem dX7_chooseFamily_50 : decode cX7_chooseFamily 50 = .ok (.iconst 1, 1) := by decide +kernel
theorem dX7_chooseFamily_51 : decode cX7_chooseFamily 51 = .ok (.invokevirtual 35, 3) := by decide +kernel
theorem dX7_chooseFamily_54 : decode cX7_chooseFamily 54 = .ok (.invokestatic 72, 3) := by decide +kernel
theorem dX7_chooseFamily_57 : decode cX7_chooseFamily 57 = .ok (.goto 4, 3) := by decide +kernel
theorem dX7_chooseFamily_60 : decode cX7_chooseFamily 60 = .ok (.iconst 1, 1) := by decide +kernel
theorem dX7_chooseFamily_61 : decode cX7_chooseFamily 61 = .ok (.putfield 77, 3) := by decide +kernel
theorem dX7_chooseFamily_64 : decode cX7_chooseFamily 64 = .ok (.aload_n 0, 1) := by decide +kernel
theorem dX7_chooseFamily_65 : decode cX7_chooseFamily 65 = .ok (.iload_n 2, 1) := by decide +kernel
theorem dX7_chooseFamily_66 : decode cX7_chooseFamily 66 = .ok (.ifCond .eq 18, 3) := by decide +kernel
theorem dX7_chooseFamily_69 : decode cX7_chooseFamily 69 = .ok (.aload_n 0, 1) := by decide +kernel
theorem dX7_chooseFamily_70 : decode cX7_chooseFamily 70 = .ok (.getfield 9, 3) := by decide +kernel
theorem dX7_chooseFamily_73 : decode cX7_chooseFamily 73 = .ok (.getfield 62, 3) := by decide +kernel
theorem dX7_chooseFamily_76 : decode cX7_chooseFamily 76 = .ok (.iload_n 1, 1) := by decide +kernel
theorem dX7_chooseFamily_77 : decode cX7_chooseFamily 77 = .ok (.iconst 2, 1) := by decide +kernel
theorem dX7_chooseFamily_78 : decode cX7_chooseFamily 78 = .ok (.invokevirtual 35, 3) := by decide +kernel
theorem dX7_chooseFamily_81 : decode cX7_chooseFamily 81 = .ok (.goto 5, 3) := by decide +kernel
theorem dX7_chooseFamily_84 : decode cX7_chooseFamily 84 = .ok (.ldc 80, 2) := by decide +kernel
theorem dX7_chooseFamily_86 : decode cX7_chooseFamily 86 = .ok (.iconst 1, 1) := by decide +kernel
theorem dX7_chooseFamily_87 : decode cX7_chooseFamily 87 = .ok (.isub, 1) := by decide +kernel
theorem dX7_chooseFamily_88 : decode cX7_chooseFamily 88 = .ok (.putfield 81, 3) := by decide +kernel
theorem dX7_chooseFamily_91 : decode cX7_chooseFamily 91 = .ok (.return_, 1) := by decide +kernel
theorem dX7_allow_0 : decode cX7_allow 0 = .ok (.iload_n 3, 1) := by decide +kernel
theorem dX7_allow_1 : decode cX7_allow 1 = .ok (.ifCond .lt 30, 3) := by decide +kernel
theorem dX7_allow_4 : decode cX7_allow 4 = .ok (.iload_n 3, 1) := by decide +kernel
theorem dX7_allow_5 : decode cX7_allow 5 = .ok (.aload_n 0, 1) := by decide +kernel
theorem dX7_allow_6 : decode cX7_allow 6 = .ok (.getfield 19, 3) := by decide +kernel
theorem dX7_allow_9 : decode cX7_allow 9 = .ok (.arraylength, 1) := by decide +kernel
theorem dX7_allow_10 : decode cX7_allow 10 = .ok (.if_icmp .ge 21, 3) := by decide +kernel
theorem dX7_allow_13 : decode cX7_allow 13 = .ok (.iload_n 3, 1) := by decide +kernel
theorem dX7_allow_14 : decode cX7_allow 14 = .ok (.aload_n 0, 1) := by decide +kernel
theorem dX7_allow_15 : decode cX7_allow 15 = .ok (.getfield 23, 3) := by decide +kernel
theorem dX7_allow_18 : decode cX7_allow 18 = .ok (.arraylength, 1) := by decide +kernel
theorem dX7_allow_19 : decode cX7_allow 19 = .ok (.if_icmp .ge 12, 3) := by decide +kernel
theorem dX7_allow_22 : decode cX7_allow 22 = .ok (.iload_n 3, 1) := by decide +kernel
theorem dX7_allow_23 : decode cX7_allow 23 = .ok (.aload_n 0, 1) := by decide +kernel
theorem dX7_allow_24 : decode cX7_allow 24 = .ok (.getfield 26, 3) := by decide +kernel
theorem dX7_allow_27 : decode cX7_allow 27 = .ok (.arraylength, 1) := by decide +kernel
theorem dX7_allow_28 : decode cX7_allow 28 = .ok (.if_icmp .lt 4, 3) := by decide +kernel
theorem dX7_allow_31 : decode cX7_allow 31 = .ok (.return_, 1) := by decide +kernel
theorem dX7_allow_32 : decode cX7_allow 32 = .ok (.aload_n 0, 1) := by decide +kernel
theorem dX7_allow_33 : decode cX7_allow 33 = .ok (.getfield 9, 3) := by decide +kernel
theorem dX7_allow_36 : decode cX7_allow 36 = .ok (.getfield 49, 3) := by decide +kernel
theorem dX7_allow_39 : decode cX7_allow 39 = .ok (.iload_n 2, 1) := by decide +kernel
theorem dX7_allow_40 : decode cX7_allow 40 = .ok (.iconst 1, 1) := by decide +kernel
theorem dX7_allow_41 : decode cX7_allow 41 = .ok (.invokevirtual 35, 3) := by decide +kernel
theorem dX7_allow_44 : decode cX7_allow 44 = .ok (.istore 4, 2) := by decide +kernel
theorem dX7_allow_46 : decode cX7_allow 46 = .ok (.aload_n 0, 1) := by decide +kernel
theorem dX7_allow_47 : decode cX7_allow 47 = .ok (.getfield 9, 3) := by decide +kernel
theorem dX7_allow_50 : decode cX7_allow 50 = .ok (.getfield 49, 3) := by decide +kernel
theorem dX7_allow_53 : decode cX7_allow 53 = .ok (.iload_n 2, 1) := by decide +kernel
theorem dX7_allow_54 : decode cX7_allow 54 = .ok (.iconst 2, 1) := by decide +kernel
theorem dX7_allow_55 : decode cX7_allow 55 = .ok (.invokevirtual 35, 3) := by decide +kernel
theorem dX7_allow_58 : decode cX7_allow 58 = .ok (.istore 5, 2) := by decide +kernel
theorem dX7_allow_60 : decode cX7_allow 60 = .ok (.aload_n 0, 1) := by decide +kernel
theorem dX7_allow_61 : decode cX7_allow 61 = .ok (.getfield 9, 3) := by decide +kernel
theorem dX7_allow_64 : decode cX7_allow 64 = .ok (.getfield 49, 3) := by decide +kernel
theorem dX7_allow_67 : decode cX7_allow 67 = .ok (.iload_n 2, 1) := by decide +kernel
theorem dX7_allow_68 : decode cX7_allow 68 = .ok (.iconst 3, 1) := by decide +kernel
theorem dX7_allow_69 : decode cX7_allow 69 = .ok (.invokevirtual 35, 3) := by decide +kernel
theorem dX7_allow_72 : decode cX7_allow 72 = .ok (.istore 6, 2) := by decide +kernel
theorem dX7_allow_74 : decode cX7_allow 74 = .ok (.iload 4, 2) := by decide +kernel
theorem dX7_allow_76 : decode cX7_allow 76 = .ok (.ifCond .ne 28, 3) := by decide +kernel
theorem dX7_allow_79 : decode cX7_allow 79 = .ok (.iload 5, 2) := by decide +kernel
theorem dX7_allow_81 : decode cX7_allow 81 = .ok (.aload_n 0, 1) := by decide +kernel
theorem dX7_allow_82 : decode cX7_allow 82 = .ok (.getfield 15, 3) := by decide +kernel
theorem dX7_allow_85 : decode cX7_allow 85 = .ok (.iload_n 1, 1) := by decide +kernel
theorem dX7_allow_86 : decode cX7_allow 86 = .ok (.aload_n 0, 1) := by decide +kernel
theorem dX7_allow_87 : decode cX7_allow 87 = .ok (.getfield 9, 3) := by decide +kernel
theorem dX7_allow_90 : decode cX7_allow 90 = .ok (.getfield 49, 3) := by decide +kernel
theorem dX7_allow_93 : decode cX7_allow 93 = .ok (.iload_n 2, 1) := by decide +kernel
theorem dX7_allow_94 : decode cX7_allow 94 = .ok (.iconst 4, 1) := by decide +kernel
theorem dX7_allow_95 : decode cX7_allow 95 = .ok (.invokevirtual 35, 3) := by decide +kernel
theorem dX7_allow_98 : decode cX7_allow 98 = .ok (.invokevirtual 84, 3) := by decide +kernel
theorem dX7_allow_101 : decode cX7_allow 101 = .ok (.iadd, 1) := by decide +kernel
theorem dX7_allow_102 : decode cX7_allow 102 = .ok (.istore 5, 2) := by decide +kernel
theorem dX7_allow_104 : decode cX7_allow 104 = .ok (.aload_n 0, 1) := by decide +kernel
theorem dX7_allow_105 : decode cX7_allow 105 = .ok (.getfield 19, 3) := by decide +kernel
theorem dX7_allow_108 : decode cX7_allow 108 = .ok (.iload_n 3, 1) := by decide +kernel
theorem dX7_allow_109 : decode cX7_allow 109 = .ok (.iload 4, 2) := by decide +kernel
theorem dX7_allow_111 : decode cX7_allow 111 = .ok (.iconst 2, 1) := by decide +kernel
theorem dX7_allow_112 : decode cX7_allow 112 = .ok (.if_icmp .ne 8, 3) := by decide +kernel
theorem dX7_allow_115 : decode cX7_allow 115 = .ok (.ldc 89, 2) := by decide +kernel
theorem dX7_allow_117 : decode cX7_allow 117 = .ok (.goto 8, 3) := by decide +kernel
theorem dX7_allow_120 : decode cX7_allow 120 = .ok (.iload 5, 2) := by decide +kernel
theorem dX7_allow_122 : decode cX7_allow 122 = .ok (.iload 6, 2) := by decide +kernel
theorem dX7_allow_124 : decode cX7_allow 124 = .ok (.isub, 1) := by decide +kernel
theorem dX7_allow_125 : decode cX7_allow 125 = .ok (.iastore, 1) := by decide +kernel
theorem dX7_allow_126 : decode cX7_allow 126 = .ok (.aload_n 0, 1) := by decide +kernel
theorem dX7_allow_127 : decode cX7_allow 127 = .ok (.getfield 23, 3) := by decide +kernel
theorem dX7_allow_130 : decode cX7_allow 130 = .ok (.iload_n 3, 1) := by decide +kernel
theorem dX7_allow_131 : decode cX7_allow 131 = .ok (.iload 4, 2) := by decide +kernel
theorem dX7_allow_133 : decode cX7_allow 133 = .ok (.iconst 3, 1) := by decide +kernel
theorem dX7_allow_134 : decode cX7_allow 134 = .ok (.if_icmp .ne 8, 3) := by decide +kernel
theorem dX7_allow_137 : decode cX7_allow 137 = .ok (.ldc 90, 2) := by decide +kernel
theorem dX7_allow_139 : decode cX7_allow 139 = .ok (.goto 8, 3) := by decide +kernel
theorem dX7_allow_142 : decode cX7_allow 142 = .ok (.iload 5, 2) := by decide +kernel
theorem dX7_allow_144 : decode cX7_allow 144 = .ok (.iload 6, 2) := by decide +kernel
theorem dX7_allow_146 : decode cX7_allow 146 = .ok (.iadd, 1) := by decide +kernel
theorem dX7_allow_147 : decode cX7_allow 147 = .ok (.iastore, 1) := by decide +kernel
theorem dX7_allow_148 : decode cX7_allow 148 = .ok (.aload_n 0, 1) := by decide +kernel
theorem dX7_allow_149 : decode cX7_allow 149 = .ok (.getfield 26, 3) := by decide +kernel
theorem dX7_allow_152 : decode cX7_allow 152 = .ok (.iload_n 3, 1) := by decide +kernel
theorem dX7_allow_153 : decode cX7_allow 153 = .ok (.iload_n 2, 1) := by decide +kernel
theorem dX7_allow_154 : decode cX7_allow 154 = .ok (.iastore, 1) := by decide +kernel
theorem dX7_allow_155 : decode cX7_allow 155 = .ok (.return_, 1) := by decide +kernel
theorem dX7_chooseSizes_0 : decode cX7_chooseSizes 0 = .ok (.ldc 89, 2) := by decide +kernel
theorem dX7_chooseSizes_2 : decode cX7_chooseSizes 2 = .ok (.istore_n 1, 1) := by decide +kernel
theorem dX7_chooseSizes_3 : decode cX7_chooseSizes 3 = .ok (.ldc 90, 2) := by decide +kernel
theorem dX7_chooseSizes_5 : decode cX7_chooseSizes 5 = .ok (.istore_n 2, 1) := by decide +kernel
theorem dX7_chooseSizes_6 : decode cX7_chooseSizes 6 = .ok (.iconst 0, 1) := by decide +kernel
theorem dX7_chooseSizes_7 : decode cX7_chooseSizes 7 = .ok (.istore_n 3, 1) := by decide +kernel
theorem dX7_chooseSizes_8 : decode cX7_chooseSizes 8 = .ok (.iload_n 3, 1) := by decide +kernel
theorem dX7_chooseSizes_9 : decode cX7_chooseSizes 9 = .ok (.aload_n 0, 1) := by decide +kernel
theorem dX7_chooseSizes_10 : decode cX7_chooseSizes 10 = .ok (.getfield 45, 3) := by decide +kernel
theorem dX7_chooseSizes_13 : decode cX7_chooseSizes 13 = .ok (.if_icmp .ge 49, 3) := by decide +kernel
theorem dX7_chooseSizes_16 : decode cX7_chooseSizes 16 = .ok (.iload_n 3, 1) := by decide +kernel
theorem dX7_chooseSizes_17 : decode cX7_chooseSizes 17 = .ok (.aload_n 0, 1) := by decide +kernel
theorem dX7_chooseSizes_18 : decode cX7_chooseSizes 18 = .ok (.getfield 19, 3) := by decide +kernel
theorem dX7_chooseSizes_21 : decode cX7_chooseSizes 21 = .ok (.arraylength, 1) := by decide +kernel
theorem dX7_chooseSizes_22 : decode cX7_chooseSizes 22 = .ok (.if_icmp .ge 40, 3) := by decide +kernel
theorem dX7_chooseSizes_25 : decode cX7_chooseSizes 25 = .ok (.iload_n 3, 1) := by decide +kernel
theorem dX7_chooseSizes_26 : decode cX7_chooseSizes 26 = .ok (.aload_n 0, 1) := by decide +kernel
theorem dX7_chooseSizes_27 : decode cX7_chooseSizes 27 = .ok (.getfield 23, 3) := by decide +kernel
theorem dX7_chooseSizes_30 : decode cX7_chooseSizes 30 = .ok (.arraylength, 1) := by decide +kernel
theorem dX7_chooseSizes_31 : decode cX7_chooseSizes 31 = .ok (.if_icmp .ge 31, 3) := by decide +kernel
