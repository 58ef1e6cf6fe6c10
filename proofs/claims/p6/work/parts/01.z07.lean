theorem dX11_link_71 : decode cX11_link 71 = .ok (.iconst 2, 1) := by decide +kernel
theorem dX11_link_72 : decode cX11_link 72 = .ok (.iadd, 1) := by decide +kernel
theorem dX11_link_73 : decode cX11_link 73 = .ok (.iaload, 1) := by decide +kernel
theorem dX11_link_74 : decode cX11_link 74 = .ok (.iadd, 1) := by decide +kernel
theorem dX11_link_75 : decode cX11_link 75 = .ok (.iload_n 2, 1) := by decide +kernel
theorem dX11_link_76 : decode cX11_link 76 = .ok (.iastore, 1) := by decide +kernel
theorem dX11_link_77 : decode cX11_link 77 = .ok (.aload_n 0, 1) := by decide +kernel
theorem dX11_link_78 : decode cX11_link 78 = .ok (.getfield 7, 3) := by decide +kernel
theorem dX11_link_81 : decode cX11_link 81 = .ok (.iload 4, 2) := by decide +kernel
theorem dX11_link_83 : decode cX11_link 83 = .ok (.bipush 9, 2) := by decide +kernel
theorem dX11_link_85 : decode cX11_link 85 = .ok (.iadd, 1) := by decide +kernel
theorem dX11_link_86 : decode cX11_link 86 = .ok (.dup2, 1) := by decide +kernel
theorem dX11_link_87 : decode cX11_link 87 = .ok (.iaload, 1) := by decide +kernel
theorem dX11_link_88 : decode cX11_link 88 = .ok (.iload_n 3, 1) := by decide +kernel
theorem dX11_link_89 : decode cX11_link 89 = .ok (.ifCond .eq 17, 3) := by decide +kernel
theorem dX11_link_92 : decode cX11_link 92 = .ok (.iconst 1, 1) := by decide +kernel
theorem dX11_link_93 : decode cX11_link 93 = .ok (.aload_n 0, 1) := by decide +kernel
theorem dX11_link_94 : decode cX11_link 94 = .ok (.getfield 7, 3) := by decide +kernel
theorem dX11_link_97 : decode cX11_link 97 = .ok (.iload 4, 2) := by decide +kernel
theorem dX11_link_99 : decode cX11_link 99 = .ok (.iconst 2, 1) := by decide +kernel
theorem dX11_link_100 : decode cX11_link 100 = .ok (.iadd, 1) := by decide +kernel
theorem dX11_link_101 : decode cX11_link 101 = .ok (.iaload, 1) := by decide +kernel
theorem dX11_link_102 : decode cX11_link 102 = .ok (.ishl, 1) := by decide +kernel
theorem dX11_link_103 : decode cX11_link 103 = .ok (.goto 4, 3) := by decide +kernel
theorem dX11_link_106 : decode cX11_link 106 = .ok (.iconst 0, 1) := by decide +kernel
theorem dX11_link_107 : decode cX11_link 107 = .ok (.ior, 1) := by decide +kernel
theorem dX11_link_108 : decode cX11_link 108 = .ok (.iastore, 1) := by decide +kernel
theorem dX11_link_109 : decode cX11_link 109 = .ok (.aload_n 0, 1) := by decide +kernel
theorem dX11_link_110 : decode cX11_link 110 = .ok (.getfield 7, 3) := by decide +kernel
theorem dX11_link_113 : decode cX11_link 113 = .ok (.iload 4, 2) := by decide +kernel
theorem dX11_link_115 : decode cX11_link 115 = .ok (.iconst 2, 1) := by decide +kernel
theorem dX11_link_116 : decode cX11_link 116 = .ok (.iadd, 1) := by decide +kernel
theorem dX11_link_117 : decode cX11_link 117 = .ok (.dup2, 1) := by decide +kernel
theorem dX11_link_118 : decode cX11_link 118 = .ok (.iaload, 1) := by decide +kernel
theorem dX11_link_119 : decode cX11_link 119 = .ok (.iconst 1, 1) := by decide +kernel
theorem dX11_link_120 : decode cX11_link 120 = .ok (.iadd, 1) := by decide +kernel
theorem dX11_link_121 : decode cX11_link 121 = .ok (.iastore, 1) := by decide +kernel
theorem dX11_link_122 : decode cX11_link 122 = .ok (.aload_n 0, 1) := by decide +kernel
theorem dX11_link_123 : decode cX11_link 123 = .ok (.getfield 7, 3) := by decide +kernel
theorem dX11_link_126 : decode cX11_link 126 = .ok (.iload 4, 2) := by decide +kernel
theorem dX11_link_128 : decode cX11_link 128 = .ok (.iconst 2, 1) := by decide +kernel
theorem dX11_link_129 : decode cX11_link 129 = .ok (.iadd, 1) := by decide +kernel
theorem dX11_link_130 : decode cX11_link 130 = .ok (.iaload, 1) := by decide +kernel
theorem dX11_link_131 : decode cX11_link 131 = .ok (.ireturn, 1) := by decide +kernel
theorem dX11_sums_0 : decode cX11_sums 0 = .ok (.aload_n 0, 1) := by decide +kernel
theorem dX11_sums_1 : decode cX11_sums 1 = .ok (.iconst 0, 1) := by decide +kernel
theorem dX11_sums_2 : decode cX11_sums 2 = .ok (.putfield 211, 3) := by decide +kernel
theorem dX11_sums_5 : decode cX11_sums 5 = .ok (.aload_n 0, 1) := by decide +kernel
theorem dX11_sums_6 : decode cX11_sums 6 = .ok (.iconst 0, 1) := by decide +kernel
theorem dX11_sums_7 : decode cX11_sums 7 = .ok (.putfield 214, 3) := by decide +kernel
theorem dX11_sums_10 : decode cX11_sums 10 = .ok (.iconst 0, 1) := by decide +kernel
theorem dX11_sums_11 : decode cX11_sums 11 = .ok (.istore 5, 2) := by decide +kernel
theorem dX11_sums_13 : decode cX11_sums 13 = .ok (.iload 5, 2) := by decide +kernel
theorem dX11_sums_15 : decode cX11_sums 15 = .ok (.aload_n 0, 1) := by decide +kernel
theorem dX11_sums_16 : decode cX11_sums 16 = .ok (.iload_n 1, 1) := by decide +kernel
theorem dX11_sums_17 : decode cX11_sums 17 = .ok (.iconst 2, 1) := by decide +kernel
theorem dX11_sums_18 : decode cX11_sums 18 = .ok (.invokevirtual 205, 3) := by decide +kernel
theorem dX11_sums_21 : decode cX11_sums 21 = .ok (.if_icmp .ge 150, 3) := by decide +kernel
theorem dX11_sums_24 : decode cX11_sums 24 = .ok (.aload_n 0, 1) := by decide +kernel
theorem dX11_sums_25 : decode cX11_sums 25 = .ok (.iload_n 1, 1) := by decide +kernel
theorem dX11_sums_26 : decode cX11_sums 26 = .ok (.iconst 3, 1) := by decide +kernel
theorem dX11_sums_27 : decode cX11_sums 27 = .ok (.iload 5, 2) := by decide +kernel
theorem dX11_sums_29 : decode cX11_sums 29 = .ok (.iadd, 1) := by decide +kernel
theorem dX11_sums_30 : decode cX11_sums 30 = .ok (.invokevirtual 205, 3) := by decide +kernel
theorem dX11_sums_33 : decode cX11_sums 33 = .ok (.iload 4, 2) := by decide +kernel
theorem dX11_sums_35 : decode cX11_sums 35 = .ok (.if_icmp .ne 7, 3) := by decide +kernel
theorem dX11_sums_38 : decode cX11_sums 38 = .ok (.iload_n 3, 1) := by decide +kernel
theorem dX11_sums_39 : decode cX11_sums 39 = .ok (.goto 12, 3) := by decide +kernel
theorem dX11_sums_42 : decode cX11_sums 42 = .ok (.aload_n 0, 1) := by decide +kernel
theorem dX11_sums_43 : decode cX11_sums 43 = .ok (.iload_n 1, 1) := by decide +kernel
theorem dX11_sums_44 : decode cX11_sums 44 = .ok (.iconst 3, 1) := by decide +kernel
theorem dX11_sums_45 : decode cX11_sums 45 = .ok (.iload 5, 2) := by decide +kernel
theorem dX11_sums_47 : decode cX11_sums 47 = .ok (.iadd, 1) := by decide +kernel
theorem dX11_sums_48 : decode cX11_sums 48 = .ok (.invokevirtual 205, 3) := by decide +kernel
theorem dX11_sums_51 : decode cX11_sums 51 = .ok (.istore 6, 2) := by decide +kernel
theorem dX11_sums_53 : decode cX11_sums 53 = .ok (.aload_n 0, 1) := by decide +kernel
theorem dX11_sums_54 : decode cX11_sums 54 = .ok (.iload 6, 2) := by decide +kernel
theorem dX11_sums_56 : decode cX11_sums 56 = .ok (.iconst 0, 1) := by decide +kernel
theorem dX11_sums_57 : decode cX11_sums 57 = .ok (.invokevirtual 187, 3) := by decide +kernel
theorem dX11_sums_60 : decode cX11_sums 60 = .ok (.istore 7, 2) := by decide +kernel
theorem dX11_sums_62 : decode cX11_sums 62 = .ok (.iload 7, 2) := by decide +kernel
theorem dX11_sums_64 : decode cX11_sums 64 = .ok (.iconst (-1), 1) := by decide +kernel
theorem dX11_sums_65 : decode cX11_sums 65 = .ok (.if_icmp .ne 5, 3) := by decide +kernel
theorem dX11_sums_68 : decode cX11_sums 68 = .ok (.iconst 0, 1) := by decide +kernel
theorem dX11_sums_69 : decode cX11_sums 69 = .ok (.ireturn, 1) := by decide +kernel
theorem dX11_sums_70 : decode cX11_sums 70 = .ok (.aload_n 0, 1) := by decide +kernel
theorem dX11_sums_71 : decode cX11_sums 71 = .ok (.iload 6, 2) := by decide +kernel
theorem dX11_sums_73 : decode cX11_sums 73 = .ok (.iload_n 2, 1) := by decide +kernel
theorem dX11_sums_74 : decode cX11_sums 74 = .ok (.invokevirtual 139, 3) := by decide +kernel
theorem dX11_sums_77 : decode cX11_sums 77 = .ok (.istore 8, 2) := by decide +kernel
theorem dX11_sums_79 : decode cX11_sums 79 = .ok (.aload_n 0, 1) := by decide +kernel
theorem dX11_sums_80 : decode cX11_sums 80 = .ok (.iload 6, 2) := by decide +kernel
theorem dX11_sums_82 : decode cX11_sums 82 = .ok (.iconst 1, 1) := by decide +kernel
theorem dX11_sums_83 : decode cX11_sums 83 = .ok (.invokevirtual 187, 3) := by decide +kernel
theorem dX11_sums_86 : decode cX11_sums 86 = .ok (.iload 8, 2) := by decide +kernel
theorem dX11_sums_88 : decode cX11_sums 88 = .ok (.isub, 1) := by decide +kernel
theorem dX11_sums_89 : decode cX11_sums 89 = .ok (.istore 9, 2) := by decide +kernel
theorem dX11_sums_91 : decode cX11_sums 91 = .ok (.iload 7, 2) := by decide +kernel
theorem dX11_sums_93 : decode cX11_sums 93 = .ok (.iload 8, 2) := by decide +kernel
theorem dX11_sums_95 : decode cX11_sums 95 = .ok (.isub, 1) := by decide +kernel
theorem dX11_sums_96 : decode cX11_sums 96 = .ok (.istore 7, 2) := by decide +kernel
theorem dX11_sums_98 : decode cX11_sums 98 = .ok (.aload_n 0, 1) := by decide +kernel
theorem dX11_sums_99 : decode cX11_sums 99 = .ok (.iload_n 1, 1) := by decide +kernel
theorem dX11_sums_100 : decode cX11_sums 100 = .ok (.bipush 9, 2) := by decide +kernel
theorem dX11_sums_102 : decode cX11_sums 102 = .ok (.invokevirtual 205, 3) := by decide +kernel
theorem dX11_sums_105 : decode cX11_sums 105 = .ok (.iload 5, 2) := by decide +kernel
theorem dX11_sums_107 : decode cX11_sums 107 = .ok (.ishr, 1) := by decide +kernel
theorem dX11_sums_108 : decode cX11_sums 108 = .ok (.iconst 1, 1) := by decide +kernel
theorem dX11_sums_109 : decode cX11_sums 109 = .ok (.iand, 1) := by decide +kernel
theorem dX11_sums_110 : decode cX11_sums 110 = .ok (.iconst 1, 1) := by decide +kernel
theorem dX11_sums_111 : decode cX11_sums 111 = .ok (.if_icmp .ne 7, 3) := by decide +kernel
theorem dX11_sums_114 : decode cX11_sums 114 = .ok (.iconst 1, 1) := by decide +kernel
theorem dX11_sums_115 : decode cX11_sums 115 = .ok (.goto 4, 3) := by decide +kernel
theorem dX11_sums_118 : decode cX11_sums 118 = .ok (.iconst 0, 1) := by decide +kernel
theorem dX11_sums_119 : decode cX11_sums 119 = .ok (.istore 10, 2) := by decide +kernel
theorem dX11_sums_121 : decode cX11_sums 121 = .ok (.aload_n 0, 1) := by decide +kernel
theorem dX11_sums_122 : decode cX11_sums 122 = .ok (.dup, 1) := by decide +kernel
theorem dX11_sums_123 : decode cX11_sums 123 = .ok (.getfield 211, 3) := by decide +kernel
theorem dX11_sums_126 : decode cX11_sums 126 = .ok (.iload 10, 2) := by decide +kernel
theorem dX11_sums_128 : decode cX11_sums 128 = .ok (.ifCond .eq 9, 3) := by decide +kernel
theorem dX11_sums_131 : decode cX11_sums 131 = .ok (.iload 9, 2) := by decide +kernel
theorem dX11_sums_133 : decode cX11_sums 133 = .ok (.ineg, 1) := by decide +kernel
theorem dX11_sums_134 : decode cX11_sums 134 = .ok (.goto 5, 3) := by decide +kernel
theorem dX11_sums_137 : decode cX11_sums 137 = .ok (.iload 7, 2) := by decide +kernel
theorem dX11_sums_139 : decode cX11_sums 139 = .ok (.iadd, 1) := by decide +kernel
theorem dX11_sums_140 : decode cX11_sums 140 = .ok (.putfield 211, 3) := by decide +kernel
theorem dX11_sums_143 : decode cX11_sums 143 = .ok (.aload_n 0, 1) := by decide +kernel
theorem dX11_sums_144 : decode cX11_sums 144 = .ok (.dup, 1) := by decide +kernel
theorem dX11_sums_145 : decode cX11_sums 145 = .ok (.getfield 214, 3) := by decide +kernel
theorem dX11_sums_148 : decode cX11_sums 148 = .ok (.iload 10, 2) := by decide +kernel
theorem dX11_sums_150 : decode cX11_sums 150 = .ok (.ifCond .eq 9, 3) := by decide +kernel
theorem dX11_sums_153 : decode cX11_sums 153 = .ok (.iload 7, 2) := by decide +kernel
theorem dX11_sums_155 : decode cX11_sums 155 = .ok (.ineg, 1) := by decide +kernel
theorem dX11_sums_156 : decode cX11_sums 156 = .ok (.goto 5, 3) := by decide +kernel
theorem dX11_sums_159 : decode cX11_sums 159 = .ok (.iload 9, 2) := by decide +kernel
theorem dX11_sums_161 : decode cX11_sums 161 = .ok (.iadd, 1) := by decide +kernel
theorem dX11_sums_162 : decode cX11_sums 162 = .ok (.putfield 214, 3) := by decide +kernel
theorem dX11_sums_165 : decode cX11_sums 165 = .ok (.iinc 5 1, 3) := by decide +kernel
theorem dX11_sums_168 : decode cX11_sums 168 = .ok (.goto (-155), 3) := by decide +kernel
theorem dX11_sums_171 : decode cX11_sums 171 = .ok (.iconst 1, 1) := by decide +kernel
theorem dX11_sums_172 : decode cX11_sums 172 = .ok (.ireturn, 1) := by decide +kernel
theorem dX11_holds0_0 : decode cX11_holds0 0 = .ok (.aload_n 0, 1) := by decide +kernel
theorem dX11_holds0_1 : decode cX11_holds0 1 = .ok (.iload_n 1, 1) := by decide +kernel
theorem dX11_holds0_2 : decode cX11_holds0 2 = .ok (.iload_n 2, 1) := by decide +kernel
theorem dX11_holds0_3 : decode cX11_holds0 3 = .ok (.iload_n 3, 1) := by decide +kernel
theorem dX11_holds0_4 : decode cX11_holds0 4 = .ok (.iload 4, 2) := by decide +kernel
theorem dX11_holds0_6 : decode cX11_holds0 6 = .ok (.invokevirtual 217, 3) := by decide +kernel
theorem dX11_holds0_9 : decode cX11_holds0 9 = .ok (.ifCond .eq 33, 3) := by decide +kernel
theorem dX11_holds0_12 : decode cX11_holds0 12 = .ok (.aload_n 0, 1) := by decide +kernel
theorem dX11_holds0_13 : decode cX11_holds0 13 = .ok (.getfield 211, 3) := by decide +kernel
theorem dX11_holds0_16 : decode cX11_holds0 16 = .ok (.aload_n 0, 1) := by decide +kernel
theorem dX11_holds0_17 : decode cX11_holds0 17 = .ok (.iload_n 1, 1) := by decide +kernel
theorem dX11_holds0_18 : decode cX11_holds0 18 = .ok (.iconst 0, 1) := by decide +kernel
theorem dX11_holds0_19 : decode cX11_holds0 19 = .ok (.invokevirtual 205, 3) := by decide +kernel
theorem dX11_holds0_22 : decode cX11_holds0 22 = .ok (.if_icmp .lt 20, 3) := by decide +kernel
theorem dX11_holds0_25 : decode cX11_holds0 25 = .ok (.aload_n 0, 1) := by decide +kernel
theorem dX11_holds0_26 : decode cX11_holds0 26 = .ok (.getfield 214, 3) := by decide +kernel
theorem dX11_holds0_29 : decode cX11_holds0 29 = .ok (.aload_n 0, 1) := by decide +kernel
theorem dX11_holds0_30 : decode cX11_holds0 30 = .ok (.iload_n 1, 1) := by decide +kernel
theorem dX11_holds0_31 : decode cX11_holds0 31 = .ok (.iconst 1, 1) := by decide +kernel
theorem dX11_holds0_32 : decode cX11_holds0 32 = .ok (.invokevirtual 205, 3) := by decide +kernel
theorem dX11_holds0_35 : decode cX11_holds0 35 = .ok (.if_icmp .gt 7, 3) := by decide +kernel
theorem dX11_holds0_38 : decode cX11_holds0 38 = .ok (.iconst 1, 1) := by decide +kernel
theorem dX11_holds0_39 : decode cX11_holds0 39 = .ok (.goto 4, 3) := by decide +kernel
theorem dX11_holds0_42 : decode cX11_holds0 42 = .ok (.iconst 0, 1) := by decide +kernel
theorem dX11_holds0_43 : decode cX11_holds0 43 = .ok (.ireturn, 1) := by decide +kernel
theorem dX11_sum_0 : decode cX11_sum 0 = .ok (.aload_n 0, 1) := by decide +kernel
theorem dX11_sum_1 : decode cX11_sum 1 = .ok (.iconst 2, 1) := by decide +kernel
theorem dX11_sum_2 : decode cX11_sum 2 = .ok (.iload_n 1, 1) := by decide +kernel
theorem dX11_sum_3 : decode cX11_sum 3 = .ok (.invokevirtual 135, 3) := by decide +kernel
theorem dX11_sum_6 : decode cX11_sum 6 = .ok (.ifCond .eq 22, 3) := by decide +kernel
theorem dX11_sum_9 : decode cX11_sum 9 = .ok (.iload_n 2, 1) := by decide +kernel
theorem dX11_sum_10 : decode cX11_sum 10 = .ok (.invokestatic 61, 3) := by decide +kernel
theorem dX11_sum_13 : decode cX11_sum 13 = .ok (.ifCond .eq 15, 3) := by decide +kernel
theorem dX11_sum_16 : decode cX11_sum 16 = .ok (.iload_n 3, 1) := by decide +kernel
theorem dX11_sum_17 : decode cX11_sum 17 = .ok (.i2l, 1) := by decide +kernel
theorem dX11_sum_18 : decode cX11_sum 18 = .ok (.lconst 0, 1) := by decide +kernel
theorem dX11_sum_19 : decode cX11_sum 19 = .ok (.ldc2_w 185, 3) := by decide +kernel
theorem dX11_sum_22 : decode cX11_sum 22 = .ok (.invokestatic 53, 3) := by decide +kernel
theorem dX11_sum_25 : decode cX11_sum 25 = .ok (.ifCond .ne 6, 3) := by decide +kernel
theorem dX11_sum_28 : decode cX11_sum 28 = .ok (.ldc 221, 2) := by decide +kernel
theorem dX11_sum_30 : decode cX11_sum 30 = .ok (.ireturn, 1) := by decide +kernel
theorem dX11_sum_31 : decode cX11_sum 31 = .ok (.iload_n 3, 1) := by decide +kernel
theorem dX11_sum_32 : decode cX11_sum 32 = .ok (.iconst 2, 1) := by decide +kernel
theorem dX11_sum_33 : decode cX11_sum 33 = .ok (.if_icmp .ne 21, 3) := by decide +kernel
theorem dX11_sum_36 : decode cX11_sum 36 = .ok (.aload_n 0, 1) := by decide +kernel
theorem dX11_sum_37 : decode cX11_sum 37 = .ok (.iload_n 1, 1) := by decide +kernel
theorem dX11_sum_38 : decode cX11_sum 38 = .ok (.iload_n 2, 1) := by decide +kernel
theorem dX11_sum_39 : decode cX11_sum 39 = .ok (.iconst (-1), 1) := by decide +kernel
theorem dX11_sum_40 : decode cX11_sum 40 = .ok (.bipush (-2), 2) := by decide +kernel
theorem dX11_sum_42 : decode cX11_sum 42 = .ok (.invokevirtual 222, 3) := by decide +kernel
theorem dX11_sum_45 : decode cX11_sum 45 = .ok (.ifCond .eq 7, 3) := by decide +kernel
theorem dX11_sum_48 : decode cX11_sum 48 = .ok (.iconst 1, 1) := by decide +kernel
theorem dX11_sum_49 : decode cX11_sum 49 = .ok (.goto 4, 3) := by decide +kernel
theorem dX11_sum_52 : decode cX11_sum 52 = .ok (.iconst 0, 1) := by decide +kernel
theorem dX11_sum_53 : decode cX11_sum 53 = .ok (.ireturn, 1) := by decide +kernel
theorem dX11_sum_54 : decode cX11_sum 54 = .ok (.aload_n 0, 1) := by decide +kernel
theorem dX11_sum_55 : decode cX11_sum 55 = .ok (.iload_n 1, 1) := by decide +kernel
theorem dX11_sum_56 : decode cX11_sum 56 = .ok (.iload_n 2, 1) := by decide +kernel
theorem dX11_sum_57 : decode cX11_sum 57 = .ok (.iconst (-1), 1) := by decide +kernel
theorem dX11_sum_58 : decode cX11_sum 58 = .ok (.bipush (-2), 2) := by decide +kernel
theorem dX11_sum_60 : decode cX11_sum 60 = .ok (.invokevirtual 217, 3) := by decide +kernel
theorem dX11_sum_63 : decode cX11_sum 63 = .ok (.ifCond .ne 8, 3) := by decide +kernel
theorem dX11_sum_66 : decode cX11_sum 66 = .ok (.ldc 225, 2) := by decide +kernel
theorem dX11_sum_68 : decode cX11_sum 68 = .ok (.goto 18, 3) := by decide +kernel
theorem dX11_sum_71 : decode cX11_sum 71 = .ok (.iload_n 3, 1) := by decide +kernel
theorem dX11_sum_72 : decode cX11_sum 72 = .ok (.ifCond .ne 10, 3) := by decide +kernel
theorem dX11_sum_75 : decode cX11_sum 75 = .ok (.aload_n 0, 1) := by decide +kernel
theorem dX11_sum_76 : decode cX11_sum 76 = .ok (.getfield 211, 3) := by decide +kernel
theorem dX11_sum_79 : decode cX11_sum 79 = .ok (.goto 7, 3) := by decide +kernel
theorem dX11_sum_82 : decode cX11_sum 82 = .ok (.aload_n 0, 1) := by decide +kernel
theorem dX11_sum_83 : decode cX11_sum 83 = .ok (.getfield 214, 3) := by decide +kernel
theorem dX11_sum_86 : decode cX11_sum 86 = .ok (.ireturn, 1) := by decide +kernel
theorem dX11_stands_0 : decode cX11_stands 0 = .ok (.aload_n 0, 1) := by decide +kernel
theorem dX11_stands_1 : decode cX11_stands 1 = .ok (.iconst 0, 1) := by decide +kernel
theorem dX11_stands_2 : decode cX11_stands 2 = .ok (.iload_n 1, 1) := by decide +kernel
theorem dX11_stands_3 : decode cX11_stands 3 = .ok (.invokevirtual 135, 3) := by decide +kernel
theorem dX11_stands_6 : decode cX11_stands 6 = .ok (.ifCond .eq 24, 3) := by decide +kernel
theorem dX11_stands_9 : decode cX11_stands 9 = .ok (.aload_n 0, 1) := by decide +kernel
theorem dX11_stands_10 : decode cX11_stands 10 = .ok (.iconst 0, 1) := by decide +kernel
theorem dX11_stands_11 : decode cX11_stands 11 = .ok (.iload_n 2, 1) := by decide +kernel
theorem dX11_stands_12 : decode cX11_stands 12 = .ok (.invokevirtual 135, 3) := by decide +kernel
theorem dX11_stands_15 : decode cX11_stands 15 = .ok (.ifCond .eq 15, 3) := by decide +kernel
theorem dX11_stands_18 : decode cX11_stands 18 = .ok (.iload_n 1, 1) := by decide +kernel
theorem dX11_stands_19 : decode cX11_stands 19 = .ok (.iload_n 2, 1) := by decide +kernel
theorem dX11_stands_20 : decode cX11_stands 20 = .ok (.if_icmp .eq 10, 3) := by decide +kernel
theorem dX11_stands_23 : decode cX11_stands 23 = .ok (.iload_n 3, 1) := by decide +kernel
theorem dX11_stands_24 : decode cX11_stands 24 = .ok (.invokestatic 61, 3) := by decide +kernel
theorem dX11_stands_27 : decode cX11_stands 27 = .ok (.ifCond .ne 6, 3) := by decide +kernel
theorem dX11_stands_30 : decode cX11_stands 30 = .ok (.bipush (-2), 2) := by decide +kernel
theorem dX11_stands_32 : decode cX11_stands 32 = .ok (.ireturn, 1) := by decide +kernel
theorem dX11_stands_33 : decode cX11_stands 33 = .ok (.iconst 0, 1) := by decide +kernel
theorem dX11_stands_34 : decode cX11_stands 34 = .ok (.istore 4, 2) := by decide +kernel
theorem dX11_stands_36 : decode cX11_stands 36 = .ok (.iload 4, 2) := by decide +kernel
theorem dX11_stands_38 : decode cX11_stands 38 = .ok (.aload_n 0, 1) := by decide +kernel
theorem dX11_stands_39 : decode cX11_stands 39 = .ok (.getfield 7, 3) := by decide +kernel
theorem dX11_stands_42 : decode cX11_stands 42 = .ok (.iconst 2, 1) := by decide +kernel
theorem dX11_stands_43 : decode cX11_stands 43 = .ok (.iaload, 1) := by decide +kernel
theorem dX11_stands_44 : decode cX11_stands 44 = .ok (.if_icmp .ge 43, 3) := by decide +kernel
theorem dX11_stands_47 : decode cX11_stands 47 = .ok (.aload_n 0, 1) := by decide +kernel
theorem dX11_stands_48 : decode cX11_stands 48 = .ok (.iload 4, 2) := by decide +kernel
theorem dX11_stands_50 : decode cX11_stands 50 = .ok (.iload_n 2, 1) := by decide +kernel
theorem dX11_stands_51 : decode cX11_stands 51 = .ok (.invokevirtual 208, 3) := by decide +kernel
theorem dX11_stands_54 : decode cX11_stands 54 = .ok (.ifCond .eq 27, 3) := by decide +kernel
theorem dX11_stands_57 : decode cX11_stands 57 = .ok (.aload_n 0, 1) := by decide +kernel
theorem dX11_stands_58 : decode cX11_stands 58 = .ok (.iload 4, 2) := by decide +kernel
theorem dX11_stands_60 : decode cX11_stands 60 = .ok (.iload_n 1, 1) := by decide +kernel
theorem dX11_stands_61 : decode cX11_stands 61 = .ok (.invokevirtual 208, 3) := by decide +kernel
theorem dX11_stands_64 : decode cX11_stands 64 = .ok (.ifCond .ne 15, 3) := by decide +kernel
theorem dX11_stands_67 : decode cX11_stands 67 = .ok (.aload_n 0, 1) := by decide +kernel
theorem dX11_stands_68 : decode cX11_stands 68 = .ok (.iload 4, 2) := by decide +kernel
theorem dX11_stands_70 : decode cX11_stands 70 = .ok (.iload_n 3, 1) := by decide +kernel
theorem dX11_stands_71 : decode cX11_stands 71 = .ok (.iload_n 1, 1) := by decide +kernel
theorem dX11_stands_72 : decode cX11_stands 72 = .ok (.iload_n 2, 1) := by decide +kernel
theorem dX11_stands_73 : decode cX11_stands 73 = .ok (.invokevirtual 222, 3) := by decide +kernel
theorem dX11_stands_76 : decode cX11_stands 76 = .ok (.ifCond .ne 5, 3) := by decide +kernel
theorem dX11_stands_79 : decode cX11_stands 79 = .ok (.iconst 0, 1) := by decide +kernel
theorem dX11_stands_80 : decode cX11_stands 80 = .ok (.ireturn, 1) := by decide +kernel
theorem dX11_stands_81 : decode cX11_stands 81 = .ok (.iinc 4 1, 3) := by decide +kernel
theorem dX11_stands_84 : decode cX11_stands 84 = .ok (.goto (-48), 3) := by decide +kernel
theorem dX11_stands_87 : decode cX11_stands 87 = .ok (.iconst 1, 1) := by decide +kernel
theorem dX11_stands_88 : decode cX11_stands 88 = .ok (.ireturn, 1) := by decide +kernel
theorem dX11_life_0 : decode cX11_life 0 = .ok (.aload_n 0, 1) := by decide +kernel
theorem dX11_life_1 : decode cX11_life 1 = .ok (.iconst 2, 1) := by decide +kernel
theorem dX11_life_2 : decode cX11_life 2 = .ok (.iload_n 1, 1) := by decide +kernel
theorem dX11_life_3 : decode cX11_life 3 = .ok (.invokevirtual 135, 3) := by decide +kernel
theorem dX11_life_6 : decode cX11_life 6 = .ok (.ifCond .eq 10, 3) := by decide +kernel
theorem dX11_life_9 : decode cX11_life 9 = .ok (.iload_n 2, 1) := by decide +kernel
theorem dX11_life_10 : decode cX11_life 10 = .ok (.invokestatic 61, 3) := by decide +kernel
theorem dX11_life_13 : decode cX11_life 13 = .ok (.ifCond .ne 6, 3) := by decide +kernel
theorem dX11_life_16 : decode cX11_life 16 = .ok (.bipush (-2), 2) := by decide +kernel
theorem dX11_life_18 : decode cX11_life 18 = .ok (.ireturn, 1) := by decide +kernel
theorem dX11_life_19 : decode cX11_life 19 = .ok (.iconst 0, 1) := by decide +kernel
theorem dX11_life_20 : decode cX11_life 20 = .ok (.istore_n 3, 1) := by decide +kernel
theorem dX11_life_21 : decode cX11_life 21 = .ok (.iload_n 2, 1) := by decide +kernel
theorem dX11_life_22 : decode cX11_life 22 = .ok (.iload_n 3, 1) := by decide +kernel
theorem dX11_life_23 : decode cX11_life 23 = .ok (.iadd, 1) := by decide +kernel
theorem dX11_life_24 : decode cX11_life 24 = .ok (.bipush 100, 2) := by decide +kernel
theorem dX11_life_26 : decode cX11_life 26 = .ok (.if_icmp .ge 23, 3) := by decide +kernel
theorem dX11_life_29 : decode cX11_life 29 = .ok (.aload_n 0, 1) := by decide +kernel
theorem dX11_life_30 : decode cX11_life 30 = .ok (.iload_n 1, 1) := by decide +kernel
theorem dX11_life_31 : decode cX11_life 31 = .ok (.iload_n 2, 1) := by decide +kernel
theorem dX11_life_32 : decode cX11_life 32 = .ok (.iload_n 3, 1) := by decide +kernel
theorem dX11_life_33 : decode cX11_life 33 = .ok (.iadd, 1) := by decide +kernel
theorem dX11_life_34 : decode cX11_life 34 = .ok (.iconst (-1), 1) := by decide +kernel
theorem dX11_life_35 : decode cX11_life 35 = .ok (.bipush (-2), 2) := by decide +kernel
theorem dX11_life_37 : decode cX11_life 37 = .ok (.invokevirtual 222, 3) := by decide +kernel
theorem dX11_life_40 : decode cX11_life 40 = .ok (.ifCond .eq 9, 3) := by decide +kernel
theorem dX11_life_43 : decode cX11_life 43 = .ok (.iinc 3 1, 3) := by decide +kernel
theorem dX11_life_46 : decode cX11_life 46 = .ok (.goto (-25), 3) := by decide +kernel
theorem dX11_life_49 : decode cX11_life 49 = .ok (.iload_n 3, 1) := by decide +kernel
theorem dX11_life_50 : decode cX11_life 50 = .ok (.ireturn, 1) := by decide +kernel
theorem dX11_work_0 : decode cX11_work 0 = .ok (.iload_n 1, 1) := by decide +kernel
theorem dX11_work_1 : decode cX11_work 1 = .ok (.i2l, 1) := by decide +kernel
theorem dX11_work_2 : decode cX11_work 2 = .ok (.ldc2_w 226, 3) := by decide +kernel
theorem dX11_work_5 : decode cX11_work 5 = .ok (.ldc2_w 228, 3) := by decide +kernel
theorem dX11_work_8 : decode cX11_work 8 = .ok (.invokestatic 53, 3) := by decide +kernel
theorem dX11_work_11 : decode cX11_work 11 = .ok (.ifCond .eq 45, 3) := by decide +kernel
theorem dX11_work_14 : decode cX11_work 14 = .ok (.iload_n 1, 1) := by decide +kernel
theorem dX11_work_15 : decode cX11_work 15 = .ok (.ifCond .eq 41, 3) := by decide +kernel
theorem dX11_work_18 : decode cX11_work 18 = .ok (.iload_n 2, 1) := by decide +kernel
theorem dX11_work_19 : decode cX11_work 19 = .ok (.i2l, 1) := by decide +kernel
theorem dX11_work_20 : decode cX11_work 20 = .ok (.lconst 1, 1) := by decide +kernel
theorem dX11_work_21 : decode cX11_work 21 = .ok (.ldc2_w 230, 3) := by decide +kernel
theorem dX11_work_24 : decode cX11_work 24 = .ok (.invokestatic 53, 3) := by decide +kernel
theorem dX11_work_27 : decode cX11_work 27 = .ok (.ifCond .eq 29, 3) := by decide +kernel
theorem dX11_work_30 : decode cX11_work 30 = .ok (.iload_n 3, 1) := by decide +kernel
theorem dX11_work_31 : decode cX11_work 31 = .ok (.i2l, 1) := by decide +kernel
theorem dX11_work_32 : decode cX11_work 32 = .ok (.lconst 1, 1) := by decide +kernel
theorem dX11_work_33 : decode cX11_work 33 = .ok (.iload 4, 2) := by decide +kernel
theorem dX11_work_35 : decode cX11_work 35 = .ok (.i2l, 1) := by decide +kernel
theorem dX11_work_36 : decode cX11_work 36 = .ok (.invokestatic 53, 3) := by decide +kernel
theorem dX11_work_39 : decode cX11_work 39 = .ok (.ifCond .eq 17, 3) := by decide +kernel
theorem dX11_work_42 : decode cX11_work 42 = .ok (.iload 4, 2) := by decide +kernel
theorem dX11_work_44 : decode cX11_work 44 = .ok (.i2l, 1) := by decide +kernel
theorem dX11_work_45 : decode cX11_work 45 = .ok (.iload_n 3, 1) := by decide +kernel
theorem dX11_work_46 : decode cX11_work 46 = .ok (.i2l, 1) := by decide +kernel
theorem dX11_work_47 : decode cX11_work 47 = .ok (.ldc2_w 232, 3) := by decide +kernel
theorem dX11_work_50 : decode cX11_work 50 = .ok (.invokestatic 53, 3) := by decide +kernel
theorem dX11_work_53 : decode cX11_work 53 = .ok (.ifCond .ne 6, 3) := by decide +kernel
theorem dX11_work_56 : decode cX11_work 56 = .ok (.bipush (-2), 2) := by decide +kernel
theorem dX11_work_58 : decode cX11_work 58 = .ok (.ireturn, 1) := by decide +kernel
theorem dX11_work_59 : decode cX11_work 59 = .ok (.aload_n 0, 1) := by decide +kernel
theorem dX11_work_60 : decode cX11_work 60 = .ok (.getfield 7, 3) := by decide +kernel
theorem dX11_work_63 : decode cX11_work 63 = .ok (.iconst 3, 1) := by decide +kernel
theorem dX11_work_64 : decode cX11_work 64 = .ok (.iaload, 1) := by decide +kernel
theorem dX11_work_65 : decode cX11_work 65 = .ok (.bipush 8, 2) := by decide +kernel
theorem dX11_work_67 : decode cX11_work 67 = .ok (.if_icmp .ne 6, 3) := by decide +kernel
theorem dX11_work_70 : decode cX11_work 70 = .ok (.bipush (-4), 2) := by decide +kernel
theorem dX11_work_72 : decode cX11_work 72 = .ok (.ireturn, 1) := by decide +kernel
theorem dX11_work_73 : decode cX11_work 73 = .ok (.sipush 672, 3) := by decide +kernel
theorem dX11_work_76 : decode cX11_work 76 = .ok (.iconst 4, 1) := by decide +kernel
theorem dX11_work_77 : decode cX11_work 77 = .ok (.aload_n 0, 1) := by decide +kernel
theorem dX11_work_78 : decode cX11_work 78 = .ok (.getfield 7, 3) := by decide +kernel
theorem dX11_work_81 : decode cX11_work 81 = .ok (.iconst 3, 1) := by decide +kernel
theorem dX11_work_82 : decode cX11_work 82 = .ok (.iaload, 1) := by decide +kernel
theorem dX11_work_83 : decode cX11_work 83 = .ok (.imul, 1) := by decide +kernel
theorem dX11_work_84 : decode cX11_work 84 = .ok (.iadd, 1) := by decide +kernel
theorem dX11_work_85 : decode cX11_work 85 = .ok (.istore 5, 2) := by decide +kernel
theorem dX11_work_87 : decode cX11_work 87 = .ok (.aload_n 0, 1) := by decide +kernel
theorem dX11_work_88 : decode cX11_work 88 = .ok (.getfield 7, 3) := by decide +kernel
theorem dX11_work_91 : decode cX11_work 91 = .ok (.iload 5, 2) := by decide +kernel
theorem dX11_work_93 : decode cX11_work 93 = .ok (.iload_n 1, 1) := by decide +kernel
theorem dX11_work_94 : decode cX11_work 94 = .ok (.iastore, 1) := by decide +kernel
theorem dX11_work_95 : decode cX11_work 95 = .ok (.aload_n 0, 1) := by decide +kernel
theorem dX11_work_96 : decode cX11_work 96 = .ok (.getfield 7, 3) := by decide +kernel
theorem dX11_work_99 : decode cX11_work 99 = .ok (.iload 5, 2) := by decide +kernel
theorem dX11_work_101 : decode cX11_work 101 = .ok (.iconst 1, 1) := by decide +kernel
theorem dX11_work_102 : decode cX11_work 102 = .ok (.iadd, 1) := by decide +kernel
theorem dX11_work_103 : decode cX11_work 103 = .ok (.iload_n 2, 1) := by decide +kernel
theorem dX11_work_104 : decode cX11_work 104 = .ok (.iastore, 1) := by decide +kernel
theorem dX11_work_105 : decode cX11_work 105 = .ok (.aload_n 0, 1) := by decide +kernel
theorem dX11_work_106 : decode cX11_work 106 = .ok (.getfield 7, 3) := by decide +kernel
theorem dX11_work_109 : decode cX11_work 109 = .ok (.iload 5, 2) := by decide +kernel
theorem dX11_work_111 : decode cX11_work 111 = .ok (.iconst 2, 1) := by decide +kernel
theorem dX11_work_112 : decode cX11_work 112 = .ok (.iadd, 1) := by decide +kernel
theorem dX11_work_113 : decode cX11_work 113 = .ok (.iload_n 3, 1) := by decide +kernel
theorem dX11_work_114 : decode cX11_work 114 = .ok (.iastore, 1) := by decide +kernel
theorem dX11_work_115 : decode cX11_work 115 = .ok (.aload_n 0, 1) := by decide +kernel
theorem dX11_work_116 : decode cX11_work 116 = .ok (.getfield 7, 3) := by decide +kernel
theorem dX11_work_119 : decode cX11_work 119 = .ok (.iload 5, 2) := by decide +kernel
theorem dX11_work_121 : decode cX11_work 121 = .ok (.iconst 3, 1) := by decide +kernel
theorem dX11_work_122 : decode cX11_work 122 = .ok (.iadd, 1) := by decide +kernel
theorem dX11_work_123 : decode cX11_work 123 = .ok (.iload 4, 2) := by decide +kernel
theorem dX11_work_125 : decode cX11_work 125 = .ok (.iastore, 1) := by decide +kernel
theorem dX11_work_126 : decode cX11_work 126 = .ok (.aload_n 0, 1) := by decide +kernel
theorem dX11_work_127 : decode cX11_work 127 = .ok (.iconst 3, 1) := by decide +kernel
theorem dX11_work_128 : decode cX11_work 128 = .ok (.invokevirtual 69, 3) := by decide +kernel
theorem dX11_work_131 : decode cX11_work 131 = .ok (.ireturn, 1) := by decide +kernel
theorem dX11_by_0 : decode cX11_by 0 = .ok (.sipush 672, 3) := by decide +kernel
theorem dX11_by_3 : decode cX11_by 3 = .ok (.iconst 4, 1) := by decide +kernel
theorem dX11_by_4 : decode cX11_by 4 = .ok (.iload_n 1, 1) := by decide +kernel
theorem dX11_by_5 : decode cX11_by 5 = .ok (.imul, 1) := by decide +kernel
theorem dX11_by_6 : decode cX11_by 6 = .ok (.iadd, 1) := by decide +kernel
theorem dX11_by_7 : decode cX11_by 7 = .ok (.istore 4, 2) := by decide +kernel
theorem dX11_by_9 : decode cX11_by 9 = .ok (.iload_n 2, 1) := by decide +kernel
theorem dX11_by_10 : decode cX11_by 10 = .ok (.aload_n 0, 1) := by decide +kernel
theorem dX11_by_11 : decode cX11_by 11 = .ok (.getfield 7, 3) := by decide +kernel
theorem dX11_by_14 : decode cX11_by 14 = .ok (.iload 4, 2) := by decide +kernel
theorem dX11_by_16 : decode cX11_by 16 = .ok (.iaload, 1) := by decide +kernel
theorem dX11_by_17 : decode cX11_by 17 = .ok (.iadd, 1) := by decide +kernel
theorem dX11_by_18 : decode cX11_by 18 = .ok (.istore 5, 2) := by decide +kernel
theorem dX11_by_20 : decode cX11_by 20 = .ok (.iload_n 2, 1) := by decide +kernel
theorem dX11_by_21 : decode cX11_by 21 = .ok (.i2l, 1) := by decide +kernel
theorem dX11_by_22 : decode cX11_by 22 = .ok (.aload_n 0, 1) := by decide +kernel
theorem dX11_by_23 : decode cX11_by 23 = .ok (.getfield 7, 3) := by decide +kernel
theorem dX11_by_26 : decode cX11_by 26 = .ok (.iload 4, 2) := by decide +kernel
theorem dX11_by_28 : decode cX11_by 28 = .ok (.iconst 2, 1) := by decide +kernel
theorem dX11_by_29 : decode cX11_by 29 = .ok (.iadd, 1) := by decide +kernel
theorem dX11_by_30 : decode cX11_by 30 = .ok (.iaload, 1) := by decide +kernel
theorem dX11_by_31 : decode cX11_by 31 = .ok (.i2l, 1) := by decide +kernel
theorem dX11_by_32 : decode cX11_by 32 = .ok (.aload_n 0, 1) := by decide +kernel
theorem dX11_by_33 : decode cX11_by 33 = .ok (.getfield 7, 3) := by decide +kernel
theorem dX11_by_36 : decode cX11_by 36 = .ok (.iload 4, 2) := by decide +kernel
theorem dX11_by_38 : decode cX11_by 38 = .ok (.iconst 3, 1) := by decide +kernel
theorem dX11_by_39 : decode cX11_by 39 = .ok (.iadd, 1) := by decide +kernel
theorem dX11_by_40 : decode cX11_by 40 = .ok (.iaload, 1) := by decide +kernel
theorem dX11_by_41 : decode cX11_by 41 = .ok (.i2l, 1) := by decide +kernel
theorem dX11_by_42 : decode cX11_by 42 = .ok (.invokestatic 53, 3) := by decide +kernel
theorem dX11_by_45 : decode cX11_by 45 = .ok (.ifCond .eq 16, 3) := by decide +kernel
theorem dX11_by_48 : decode cX11_by 48 = .ok (.iload 5, 2) := by decide +kernel
theorem dX11_by_50 : decode cX11_by 50 = .ok (.i2l, 1) := by decide +kernel
theorem dX11_by_51 : decode cX11_by 51 = .ok (.lconst 1, 1) := by decide +kernel
theorem dX11_by_52 : decode cX11_by 52 = .ok (.ldc2_w 232, 3) := by decide +kernel
theorem dX11_by_55 : decode cX11_by 55 = .ok (.invokestatic 53, 3) := by decide +kernel
theorem dX11_by_58 : decode cX11_by 58 = .ok (.ifCond .ne 6, 3) := by decide +kernel
theorem dX11_by_61 : decode cX11_by 61 = .ok (.ldc 234, 2) := by decide +kernel
theorem dX11_by_63 : decode cX11_by 63 = .ok (.ireturn, 1) := by decide +kernel
theorem dX11_by_64 : decode cX11_by 64 = .ok (.aload_n 0, 1) := by decide +kernel
theorem dX11_by_65 : decode cX11_by 65 = .ok (.getfield 7, 3) := by decide +kernel
theorem dX11_by_68 : decode cX11_by 68 = .ok (.iload 4, 2) := by decide +kernel
theorem dX11_by_70 : decode cX11_by 70 = .ok (.iconst 1, 1) := by decide +kernel
theorem dX11_by_71 : decode cX11_by 71 = .ok (.iadd, 1) := by decide +kernel
theorem dX11_by_72 : decode cX11_by 72 = .ok (.iaload, 1) := by decide +kernel
theorem dX11_by_73 : decode cX11_by 73 = .ok (.aload_n 0, 1) := by decide +kernel
theorem dX11_by_74 : decode cX11_by 74 = .ok (.getfield 33, 3) := by decide +kernel
theorem dX11_by_77 : decode cX11_by 77 = .ok (.sipush 3001, 3) := by decide +kernel
theorem dX11_by_80 : decode cX11_by 80 = .ok (.iload_n 3, 1) := by decide +kernel
theorem dX11_by_81 : decode cX11_by 81 = .ok (.imul, 1) := by decide +kernel
theorem dX11_by_82 : decode cX11_by 82 = .ok (.iload 5, 2) := by decide +kernel
theorem dX11_by_84 : decode cX11_by 84 = .ok (.iadd, 1) := by decide +kernel
theorem dX11_by_85 : decode cX11_by 85 = .ok (.iaload, 1) := by decide +kernel
theorem dX11_by_86 : decode cX11_by 86 = .ok (.iadd, 1) := by decide +kernel
theorem dX11_by_87 : decode cX11_by 87 = .ok (.ireturn, 1) := by decide +kernel
theorem dX11_findPrices_0 : decode cX11_findPrices 0 = .ok (.iconst 0, 1) := by decide +kernel
theorem dX11_findPrices_1 : decode cX11_findPrices 1 = .ok (.istore_n 3, 1) := by decide +kernel
theorem dX11_findPrices_2 : decode cX11_findPrices 2 = .ok (.iload_n 3, 1) := by decide +kernel
theorem dX11_findPrices_3 : decode cX11_findPrices 3 = .ok (.iconst 5, 1) := by decide +kernel
theorem dX11_findPrices_4 : decode cX11_findPrices 4 = .ok (.if_icmp .gt 119, 3) := by decide +kernel
theorem dX11_findPrices_7 : decode cX11_findPrices 7 = .ok (.iconst 1, 1) := by decide +kernel
theorem dX11_findPrices_8 : decode cX11_findPrices 8 = .ok (.istore 4, 2) := by decide +kernel
theorem dX11_findPrices_10 : decode cX11_findPrices 10 = .ok (.iload 4, 2) := by decide +kernel
theorem dX11_findPrices_12 : decode cX11_findPrices 12 = .ok (.sipush 3000, 3) := by decide +kernel
theorem dX11_findPrices_15 : decode cX11_findPrices 15 = .ok (.if_icmp .gt 102, 3) := by decide +kernel
theorem dX11_findPrices_18 : decode cX11_findPrices 18 = .ok (.iload_n 3, 1) := by decide +kernel
theorem dX11_findPrices_19 : decode cX11_findPrices 19 = .ok (.ifCond .ne 20, 3) := by decide +kernel
theorem dX11_findPrices_22 : decode cX11_findPrices 22 = .ok (.iload 4, 2) := by decide +kernel
theorem dX11_findPrices_24 : decode cX11_findPrices 24 = .ok (.i2l, 1) := by decide +kernel
theorem dX11_findPrices_25 : decode cX11_findPrices 25 = .ok (.iload_n 1, 1) := by decide +kernel
theorem dX11_findPrices_26 : decode cX11_findPrices 26 = .ok (.i2l, 1) := by decide +kernel
theorem dX11_findPrices_27 : decode cX11_findPrices 27 = .ok (.iload_n 2, 1) := by decide +kernel
theorem dX11_findPrices_28 : decode cX11_findPrices 28 = .ok (.i2l, 1) := by decide +kernel
theorem dX11_findPrices_29 : decode cX11_findPrices 29 = .ok (.invokestatic 53, 3) := by decide +kernel
theorem dX11_findPrices_32 : decode cX11_findPrices 32 = .ok (.ifCond .eq 7, 3) := by decide +kernel
theorem dX11_findPrices_35 : decode cX11_findPrices 35 = .ok (.iconst 0, 1) := by decide +kernel
theorem dX11_findPrices_36 : decode cX11_findPrices 36 = .ok (.goto 5, 3) := by decide +kernel
theorem dX11_findPrices_39 : decode cX11_findPrices 39 = .ok (.ldc 234, 2) := by decide +kernel
theorem dX11_findPrices_41 : decode cX11_findPrices 41 = .ok (.istore 5, 2) := by decide +kernel
theorem dX11_findPrices_43 : decode cX11_findPrices 43 = .ok (.iconst 0, 1) := by decide +kernel
theorem dX11_findPrices_44 : decode cX11_findPrices 44 = .ok (.istore 6, 2) := by decide +kernel
theorem dX11_findPrices_46 : decode cX11_findPrices 46 = .ok (.iload 6, 2) := by decide +kernel
theorem dX11_findPrices_48 : decode cX11_findPrices 48 = .ok (.aload_n 0, 1) := by decide +kernel
theorem dX11_findPrices_49 : decode cX11_findPrices 49 = .ok (.getfield 7, 3) := by decide +kernel
theorem dX11_findPrices_52 : decode cX11_findPrices 52 = .ok (.iconst 3, 1) := by decide +kernel
theorem dX11_findPrices_53 : decode cX11_findPrices 53 = .ok (.iaload, 1) := by decide +kernel
theorem dX11_findPrices_54 : decode cX11_findPrices 54 = .ok (.if_icmp .ge 42, 3) := by decide +kernel
theorem dX11_findPrices_57 : decode cX11_findPrices 57 = .ok (.iload_n 3, 1) := by decide +kernel
theorem dX11_findPrices_58 : decode cX11_findPrices 58 = .ok (.ifCond .le 38, 3) := by decide +kernel
theorem dX11_findPrices_61 : decode cX11_findPrices 61 = .ok (.aload_n 0, 1) := by decide +kernel
theorem dX11_findPrices_62 : decode cX11_findPrices 62 = .ok (.iload 6, 2) := by decide +kernel
theorem dX11_findPrices_64 : decode cX11_findPrices 64 = .ok (.iload 4, 2) := by decide +kernel
theorem dX11_findPrices_66 : decode cX11_findPrices 66 = .ok (.iload_n 3, 1) := by decide +kernel
theorem dX11_findPrices_67 : decode cX11_findPrices 67 = .ok (.iconst 1, 1) := by decide +kernel
theorem dX11_findPrices_68 : decode cX11_findPrices 68 = .ok (.isub, 1) := by decide +kernel
theorem dX11_findPrices_69 : decode cX11_findPrices 69 = .ok (.invokevirtual 235, 3) := by decide +kernel
theorem dX11_findPrices_72 : decode cX11_findPrices 72 = .ok (.istore 7, 2) := by decide +kernel
theorem dX11_findPrices_74 : decode cX11_findPrices 74 = .ok (.iload 7, 2) := by decide +kernel
theorem dX11_findPrices_76 : decode cX11_findPrices 76 = .ok (.iload 5, 2) := by decide +kernel
theorem dX11_findPrices_78 : decode cX11_findPrices 78 = .ok (.if_icmp .ge 8, 3) := by decide +kernel
theorem dX11_findPrices_81 : decode cX11_findPrices 81 = .ok (.iload 7, 2) := by decide +kernel
theorem dX11_findPrices_83 : decode cX11_findPrices 83 = .ok (.goto 5, 3) := by decide +kernel
theorem dX11_findPrices_86 : decode cX11_findPrices 86 = .ok (.iload 5, 2) := by decide +kernel
theorem dX11_findPrices_88 : decode cX11_findPrices 88 = .ok (.istore 5, 2) := by decide +kernel
theorem dX11_findPrices_90 : decode cX11_findPrices 90 = .ok (.iinc 6 1, 3) := by decide +kernel
theorem dX11_findPrices_93 : decode cX11_findPrices 93 = .ok (.goto (-47), 3) := by decide +kernel
theorem dX11_findPrices_96 : decode cX11_findPrices 96 = .ok (.aload_n 0, 1) := by decide +kernel
theorem dX11_findPrices_97 : decode cX11_findPrices 97 = .ok (.getfield 33, 3) := by decide +kernel
theorem dX11_findPrices_100 : decode cX11_findPrices 100 = .ok (.sipush 3001, 3) := by decide +kernel
theorem dX11_findPrices_103 : decode cX11_findPrices 103 = .ok (.iload_n 3, 1) := by decide +kernel
theorem dX11_findPrices_104 : decode cX11_findPrices 104 = .ok (.imul, 1) := by decide +kernel
theorem dX11_findPrices_105 : decode cX11_findPrices 105 = .ok (.iload 4, 2) := by decide +kernel
theorem dX11_findPrices_107 : decode cX11_findPrices 107 = .ok (.iadd, 1) := by decide +kernel
theorem dX11_findPrices_108 : decode cX11_findPrices 108 = .ok (.iload 5, 2) := by decide +kernel
theorem dX11_findPrices_110 : decode cX11_findPrices 110 = .ok (.iastore, 1) := by decide +kernel
theorem dX11_findPrices_111 : decode cX11_findPrices 111 = .ok (.iinc 4 1, 3) := by decide +kernel
theorem dX11_findPrices_114 : decode cX11_findPrices 114 = .ok (.goto (-104), 3) := by decide +kernel
theorem dX11_findPrices_117 : decode cX11_findPrices 117 = .ok (.iinc 3 1, 3) := by decide +kernel
theorem dX11_findPrices_120 : decode cX11_findPrices 120 = .ok (.goto (-118), 3) := by decide +kernel
theorem dX11_findPrices_123 : decode cX11_findPrices 123 = .ok (.return_, 1) := by decide +kernel
theorem dX11_way_0 : decode cX11_way 0 = .ok (.iload_n 1, 1) := by decide +kernel
theorem dX11_way_1 : decode cX11_way 1 = .ok (.i2l, 1) := by decide +kernel
theorem dX11_way_2 : decode cX11_way 2 = .ok (.lconst 1, 1) := by decide +kernel
theorem dX11_way_3 : decode cX11_way 3 = .ok (.ldc2_w 232, 3) := by decide +kernel
theorem dX11_way_6 : decode cX11_way 6 = .ok (.invokestatic 53, 3) := by decide +kernel
theorem dX11_way_9 : decode cX11_way 9 = .ok (.ifCond .eq 34, 3) := by decide +kernel
theorem dX11_way_12 : decode cX11_way 12 = .ok (.iload_n 2, 1) := by decide +kernel
theorem dX11_way_13 : decode cX11_way 13 = .ok (.i2l, 1) := by decide +kernel
theorem dX11_way_14 : decode cX11_way 14 = .ok (.lconst 1, 1) := by decide +kernel
theorem dX11_way_15 : decode cX11_way 15 = .ok (.iload_n 3, 1) := by decide +kernel
theorem dX11_way_16 : decode cX11_way 16 = .ok (.i2l, 1) := by decide +kernel
theorem dX11_way_17 : decode cX11_way 17 = .ok (.invokestatic 53, 3) := by decide +kernel
theorem dX11_way_20 : decode cX11_way 20 = .ok (.ifCond .eq 23, 3) := by decide +kernel
theorem dX11_way_23 : decode cX11_way 23 = .ok (.iload_n 3, 1) := by decide +kernel
theorem dX11_way_24 : decode cX11_way 24 = .ok (.i2l, 1) := by decide +kernel
theorem dX11_way_25 : decode cX11_way 25 = .ok (.iload_n 2, 1) := by decide +kernel
theorem dX11_way_26 : decode cX11_way 26 = .ok (.i2l, 1) := by decide +kernel
theorem dX11_way_27 : decode cX11_way 27 = .ok (.ldc2_w 232, 3) := by decide +kernel
theorem dX11_way_30 : decode cX11_way 30 = .ok (.invokestatic 53, 3) := by decide +kernel
theorem dX11_way_33 : decode cX11_way 33 = .ok (.ifCond .eq 10, 3) := by decide +kernel
theorem dX11_way_36 : decode cX11_way 36 = .ok (.iload 4, 2) := by decide +kernel
theorem dX11_way_38 : decode cX11_way 38 = .ok (.bipush (-2), 2) := by decide +kernel
theorem dX11_way_40 : decode cX11_way 40 = .ok (.if_icmp .ge 6, 3) := by decide +kernel
theorem dX11_way_43 : decode cX11_way 43 = .ok (.bipush (-10), 2) := by decide +kernel
theorem dX11_way_45 : decode cX11_way 45 = .ok (.ireturn, 1) := by decide +kernel
theorem dX11_way_46 : decode cX11_way 46 = .ok (.aload_n 0, 1) := by decide +kernel
theorem dX11_way_47 : decode cX11_way 47 = .ok (.iload_n 2, 1) := by decide +kernel
theorem dX11_way_48 : decode cX11_way 48 = .ok (.iload_n 3, 1) := by decide +kernel
theorem dX11_way_49 : decode cX11_way 49 = .ok (.invokevirtual 239, 3) := by decide +kernel
theorem dX11_way_52 : decode cX11_way 52 = .ok (.iconst 0, 1) := by decide +kernel
theorem dX11_way_53 : decode cX11_way 53 = .ok (.istore 5, 2) := by decide +kernel
theorem dX11_way_55 : decode cX11_way 55 = .ok (.iconst 1, 1) := by decide +kernel
theorem dX11_way_56 : decode cX11_way 56 = .ok (.istore 6, 2) := by decide +kernel
theorem dX11_way_58 : decode cX11_way 58 = .ok (.iload 6, 2) := by decide +kernel
theorem dX11_way_60 : decode cX11_way 60 = .ok (.iconst 5, 1) := by decide +kernel
theorem dX11_way_61 : decode cX11_way 61 = .ok (.if_icmp .gt 47, 3) := by decide +kernel
theorem dX11_way_64 : decode cX11_way 64 = .ok (.aload_n 0, 1) := by decide +kernel
theorem dX11_way_65 : decode cX11_way 65 = .ok (.getfield 33, 3) := by decide +kernel
theorem dX11_way_68 : decode cX11_way 68 = .ok (.sipush 3001, 3) := by decide +kernel
theorem dX11_way_71 : decode cX11_way 71 = .ok (.iload 6, 2) := by decide +kernel
theorem dX11_way_73 : decode cX11_way 73 = .ok (.imul, 1) := by decide +kernel
theorem dX11_way_74 : decode cX11_way 74 = .ok (.iload_n 1, 1) := by decide +kernel
theorem dX11_way_75 : decode cX11_way 75 = .ok (.iadd, 1) := by decide +kernel
theorem dX11_way_76 : decode cX11_way 76 = .ok (.iaload, 1) := by decide +kernel
theorem dX11_way_77 : decode cX11_way 77 = .ok (.aload_n 0, 1) := by decide +kernel
theorem dX11_way_78 : decode cX11_way 78 = .ok (.getfield 33, 3) := by decide +kernel
theorem dX11_way_81 : decode cX11_way 81 = .ok (.sipush 3001, 3) := by decide +kernel
theorem dX11_way_84 : decode cX11_way 84 = .ok (.iload 5, 2) := by decide +kernel
theorem dX11_way_86 : decode cX11_way 86 = .ok (.imul, 1) := by decide +kernel
theorem dX11_way_87 : decode cX11_way 87 = .ok (.iload_n 1, 1) := by decide +kernel
theorem dX11_way_88 : decode cX11_way 88 = .ok (.iadd, 1) := by decide +kernel
theorem dX11_way_89 : decode cX11_way 89 = .ok (.iaload, 1) := by decide +kernel
theorem dX11_way_90 : decode cX11_way 90 = .ok (.if_icmp .ge 8, 3) := by decide +kernel
theorem dX11_way_93 : decode cX11_way 93 = .ok (.iload 6, 2) := by decide +kernel
theorem dX11_way_95 : decode cX11_way 95 = .ok (.goto 5, 3) := by decide +kernel
theorem dX11_way_98 : decode cX11_way 98 = .ok (.iload 5, 2) := by decide +kernel
theorem dX11_way_100 : decode cX11_way 100 = .ok (.istore 5, 2) := by decide +kernel
theorem dX11_way_102 : decode cX11_way 102 = .ok (.iinc 6 1, 3) := by decide +kernel
theorem dX11_way_105 : decode cX11_way 105 = .ok (.goto (-47), 3) := by decide +kernel
theorem dX11_way_108 : decode cX11_way 108 = .ok (.aload_n 0, 1) := by decide +kernel
theorem dX11_way_109 : decode cX11_way 109 = .ok (.getfield 33, 3) := by decide +kernel
theorem dX11_way_112 : decode cX11_way 112 = .ok (.sipush 3001, 3) := by decide +kernel
theorem dX11_way_115 : decode cX11_way 115 = .ok (.iload 5, 2) := by decide +kernel
theorem dX11_way_117 : decode cX11_way 117 = .ok (.imul, 1) := by decide +kernel
theorem dX11_way_118 : decode cX11_way 118 = .ok (.iload_n 1, 1) := by decide +kernel
theorem dX11_way_119 : decode cX11_way 119 = .ok (.iadd, 1) := by decide +kernel
theorem dX11_way_120 : decode cX11_way 120 = .ok (.iaload, 1) := by decide +kernel
theorem dX11_way_121 : decode cX11_way 121 = .ok (.istore 6, 2) := by decide +kernel
theorem dX11_way_123 : decode cX11_way 123 = .ok (.iload 6, 2) := by decide +kernel
theorem dX11_way_125 : decode cX11_way 125 = .ok (.ldc 234, 2) := by decide +kernel
theorem dX11_way_127 : decode cX11_way 127 = .ok (.if_icmp .lt 6, 3) := by decide +kernel
theorem dX11_way_130 : decode cX11_way 130 = .ok (.bipush (-5), 2) := by decide +kernel
theorem dX11_way_132 : decode cX11_way 132 = .ok (.ireturn, 1) := by decide +kernel
theorem dX11_way_133 : decode cX11_way 133 = .ok (.iload 4, 2) := by decide +kernel
theorem dX11_way_135 : decode cX11_way 135 = .ok (.ifCond .ge 17, 3) := by decide +kernel
theorem dX11_way_138 : decode cX11_way 138 = .ok (.iload 4, 2) := by decide +kernel
theorem dX11_way_140 : decode cX11_way 140 = .ok (.iconst (-1), 1) := by decide +kernel
theorem dX11_way_141 : decode cX11_way 141 = .ok (.if_icmp .ne 8, 3) := by decide +kernel
theorem dX11_way_144 : decode cX11_way 144 = .ok (.iload 6, 2) := by decide +kernel
theorem dX11_way_146 : decode cX11_way 146 = .ok (.goto 5, 3) := by decide +kernel
theorem dX11_way_149 : decode cX11_way 149 = .ok (.iload 5, 2) := by decide +kernel
theorem dX11_way_151 : decode cX11_way 151 = .ok (.ireturn, 1) := by decide +kernel
theorem dX11_way_152 : decode cX11_way 152 = .ok (.iload 4, 2) := by decide +kernel
theorem dX11_way_154 : decode cX11_way 154 = .ok (.iload 5, 2) := by decide +kernel
theorem dX11_way_156 : decode cX11_way 156 = .ok (.if_icmp .lt 5, 3) := by decide +kernel
theorem dX11_way_159 : decode cX11_way 159 = .ok (.iconst (-1), 1) := by decide +kernel
theorem dX11_way_160 : decode cX11_way 160 = .ok (.ireturn, 1) := by decide +kernel
theorem dX11_way_161 : decode cX11_way 161 = .ok (.iload_n 1, 1) := by decide +kernel
theorem dX11_way_162 : decode cX11_way 162 = .ok (.istore 7, 2) := by decide +kernel
theorem dX11_way_164 : decode cX11_way 164 = .ok (.iconst 0, 1) := by decide +kernel
theorem dX11_way_165 : decode cX11_way 165 = .ok (.istore 8, 2) := by decide +kernel
theorem dX11_way_167 : decode cX11_way 167 = .ok (.iconst 0, 1) := by decide +kernel
theorem dX11_way_168 : decode cX11_way 168 = .ok (.istore 9, 2) := by decide +kernel
theorem dX11_way_170 : decode cX11_way 170 = .ok (.iload 9, 2) := by decide +kernel
theorem dX11_way_172 : decode cX11_way 172 = .ok (.iload 4, 2) := by decide +kernel
theorem dX11_way_174 : decode cX11_way 174 = .ok (.if_icmp .gt 71, 3) := by decide +kernel
theorem dX11_way_177 : decode cX11_way 177 = .ok (.iconst 0, 1) := by decide +kernel
theorem dX11_way_178 : decode cX11_way 178 = .ok (.istore 8, 2) := by decide +kernel
theorem dX11_way_180 : decode cX11_way 180 = .ok (.aload_n 0, 1) := by decide +kernel
theorem dX11_way_181 : decode cX11_way 181 = .ok (.iload 8, 2) := by decide +kernel
theorem dX11_way_183 : decode cX11_way 183 = .ok (.iload 7, 2) := by decide +kernel
theorem dX11_way_185 : decode cX11_way 185 = .ok (.iload 5, 2) := by decide +kernel
theorem dX11_way_187 : decode cX11_way 187 = .ok (.iload 9, 2) := by decide +kernel
theorem dX11_way_189 : decode cX11_way 189 = .ok (.isub, 1) := by decide +kernel
theorem dX11_way_190 : decode cX11_way 190 = .ok (.iconst 1, 1) := by decide +kernel
theorem dX11_way_191 : decode cX11_way 191 = .ok (.isub, 1) := by decide +kernel
theorem dX11_way_192 : decode cX11_way 192 = .ok (.invokevirtual 235, 3) := by decide +kernel
theorem dX11_way_195 : decode cX11_way 195 = .ok (.aload_n 0, 1) := by decide +kernel
theorem dX11_way_196 : decode cX11_way 196 = .ok (.getfield 33, 3) := by decide +kernel
theorem dX11_way_199 : decode cX11_way 199 = .ok (.sipush 3001, 3) := by decide +kernel
theorem dX11_way_202 : decode cX11_way 202 = .ok (.iload 5, 2) := by decide +kernel
theorem dX11_way_204 : decode cX11_way 204 = .ok (.iload 9, 2) := by decide +kernel
theorem dX11_way_206 : decode cX11_way 206 = .ok (.isub, 1) := by decide +kernel
theorem dX11_way_207 : decode cX11_way 207 = .ok (.imul, 1) := by decide +kernel
theorem dX11_way_208 : decode cX11_way 208 = .ok (.iload 7, 2) := by decide +kernel
theorem dX11_way_210 : decode cX11_way 210 = .ok (.iadd, 1) := by decide +kernel
theorem dX11_way_211 : decode cX11_way 211 = .ok (.iaload, 1) := by decide +kernel
theorem dX11_way_212 : decode cX11_way 212 = .ok (.if_icmp .eq 9, 3) := by decide +kernel
theorem dX11_way_215 : decode cX11_way 215 = .ok (.iinc 8 1, 3) := by decide +kernel
theorem dX11_way_218 : decode cX11_way 218 = .ok (.goto (-38), 3) := by decide +kernel
theorem dX11_way_221 : decode cX11_way 221 = .ok (.iload 7, 2) := by decide +kernel
theorem dX11_way_223 : decode cX11_way 223 = .ok (.aload_n 0, 1) := by decide +kernel
theorem dX11_way_224 : decode cX11_way 224 = .ok (.getfield 7, 3) := by decide +kernel
theorem dX11_way_227 : decode cX11_way 227 = .ok (.sipush 672, 3) := by decide +kernel
theorem dX11_way_230 : decode cX11_way 230 = .ok (.iconst 4, 1) := by decide +kernel
theorem dX11_way_231 : decode cX11_way 231 = .ok (.iload 8, 2) := by decide +kernel
theorem dX11_way_233 : decode cX11_way 233 = .ok (.imul, 1) := by decide +kernel
theorem dX11_way_234 : decode cX11_way 234 = .ok (.iadd, 1) := by decide +kernel
theorem dX11_way_235 : decode cX11_way 235 = .ok (.iaload, 1) := by decide +kernel
theorem dX11_way_236 : decode cX11_way 236 = .ok (.iadd, 1) := by decide +kernel
theorem dX11_way_237 : decode cX11_way 237 = .ok (.istore 7, 2) := by decide +kernel
theorem dX11_way_239 : decode cX11_way 239 = .ok (.iinc 9 1, 3) := by decide +kernel
theorem dX11_way_242 : decode cX11_way 242 = .ok (.goto (-72), 3) := by decide +kernel
theorem dX11_way_245 : decode cX11_way 245 = .ok (.iload 8, 2) := by decide +kernel
theorem dX11_way_247 : decode cX11_way 247 = .ok (.ireturn, 1) := by decide +kernel
theorem dX11_machine_0 : decode cX11_machine 0 = .ok (.iload_n 1, 1) := by decide +kernel
theorem dX11_machine_1 : decode cX11_machine 1 = .ok (.i2l, 1) := by decide +kernel
theorem dX11_machine_2 : decode cX11_machine 2 = .ok (.lconst 0, 1) := by decide +kernel
theorem dX11_machine_3 : decode cX11_machine 3 = .ok (.ldc2_w 67, 3) := by decide +kernel
theorem dX11_machine_6 : decode cX11_machine 6 = .ok (.invokestatic 53, 3) := by decide +kernel
theorem dX11_machine_9 : decode cX11_machine 9 = .ok (.ifCond .ne 6, 3) := by decide +kernel
theorem dX11_machine_12 : decode cX11_machine 12 = .ok (.bipush (-2), 2) := by decide +kernel
theorem dX11_machine_14 : decode cX11_machine 14 = .ok (.ireturn, 1) := by decide +kernel
theorem dX11_machine_15 : decode cX11_machine 15 = .ok (.aload_n 0, 1) := by decide +kernel
theorem dX11_machine_16 : decode cX11_machine 16 = .ok (.getfield 7, 3) := by decide +kernel
theorem dX11_machine_19 : decode cX11_machine 19 = .ok (.iconst 4, 1) := by decide +kernel
theorem dX11_machine_20 : decode cX11_machine 20 = .ok (.iaload, 1) := by decide +kernel
theorem dX11_machine_21 : decode cX11_machine 21 = .ok (.bipush 6, 2) := by decide +kernel
theorem dX11_machine_23 : decode cX11_machine 23 = .ok (.if_icmp .ne 6, 3) := by decide +kernel
theorem dX11_machine_26 : decode cX11_machine 26 = .ok (.bipush (-4), 2) := by decide +kernel
theorem dX11_machine_28 : decode cX11_machine 28 = .ok (.ireturn, 1) := by decide +kernel
theorem dX11_machine_29 : decode cX11_machine 29 = .ok (.aload_n 0, 1) := by decide +kernel
theorem dX11_machine_30 : decode cX11_machine 30 = .ok (.getfield 7, 3) := by decide +kernel
theorem dX11_machine_33 : decode cX11_machine 33 = .ok (.sipush 704, 3) := by decide +kernel
theorem dX11_machine_36 : decode cX11_machine 36 = .ok (.aload_n 0, 1) := by decide +kernel
theorem dX11_machine_37 : decode cX11_machine 37 = .ok (.getfield 7, 3) := by decide +kernel
theorem dX11_machine_40 : decode cX11_machine 40 = .ok (.iconst 4, 1) := by decide +kernel
theorem dX11_machine_41 : decode cX11_machine 41 = .ok (.iaload, 1) := by decide +kernel
theorem dX11_machine_42 : decode cX11_machine 42 = .ok (.iadd, 1) := by decide +kernel
theorem dX11_machine_43 : decode cX11_machine 43 = .ok (.iload_n 1, 1) := by decide +kernel
theorem dX11_machine_44 : decode cX11_machine 44 = .ok (.iastore, 1) := by decide +kernel
theorem dX11_machine_45 : decode cX11_machine 45 = .ok (.aload_n 0, 1) := by decide +kernel
theorem dX11_machine_46 : decode cX11_machine 46 = .ok (.iconst 4, 1) := by decide +kernel
theorem dX11_machine_47 : decode cX11_machine 47 = .ok (.invokevirtual 69, 3) := by decide +kernel
theorem dX11_machine_50 : decode cX11_machine 50 = .ok (.ireturn, 1) := by decide +kernel
theorem dX11_spare_0 : decode cX11_spare 0 = .ok (.iload_n 1, 1) := by decide +kernel
theorem dX11_spare_1 : decode cX11_spare 1 = .ok (.i2l, 1) := by decide +kernel
theorem dX11_spare_2 : decode cX11_spare 2 = .ok (.lconst 0, 1) := by decide +kernel
theorem dX11_spare_3 : decode cX11_spare 3 = .ok (.ldc2_w 67, 3) := by decide +kernel
theorem dX11_spare_6 : decode cX11_spare 6 = .ok (.invokestatic 53, 3) := by decide +kernel
theorem dX11_spare_9 : decode cX11_spare 9 = .ok (.ifCond .eq 29, 3) := by decide +kernel
theorem dX11_spare_12 : decode cX11_spare 12 = .ok (.iload_n 2, 1) := by decide +kernel
theorem dX11_spare_13 : decode cX11_spare 13 = .ok (.i2l, 1) := by decide +kernel
theorem dX11_spare_14 : decode cX11_spare 14 = .ok (.lconst 1, 1) := by decide +kernel
theorem dX11_spare_15 : decode cX11_spare 15 = .ok (.ldc2_w 242, 3) := by decide +kernel
theorem dX11_spare_18 : decode cX11_spare 18 = .ok (.invokestatic 53, 3) := by decide +kernel
theorem dX11_spare_21 : decode cX11_spare 21 = .ok (.ifCond .eq 17, 3) := by decide +kernel
theorem dX11_spare_24 : decode cX11_spare 24 = .ok (.iload_n 3, 1) := by decide +kernel
theorem dX11_spare_25 : decode cX11_spare 25 = .ok (.i2l, 1) := by decide +kernel
theorem dX11_spare_26 : decode cX11_spare 26 = .ok (.ldc2_w 65, 3) := by decide +kernel
theorem dX11_spare_29 : decode cX11_spare 29 = .ok (.ldc2_w 67, 3) := by decide +kernel
theorem dX11_spare_32 : decode cX11_spare 32 = .ok (.invokestatic 53, 3) := by decide +kernel
theorem dX11_spare_35 : decode cX11_spare 35 = .ok (.ifCond .ne 6, 3) := by decide +kernel
theorem dX11_spare_38 : decode cX11_spare 38 = .ok (.bipush (-2), 2) := by decide +kernel
theorem dX11_spare_40 : decode cX11_spare 40 = .ok (.ireturn, 1) := by decide +kernel
theorem dX11_spare_41 : decode cX11_spare 41 = .ok (.aload_n 0, 1) := by decide +kernel
theorem dX11_spare_42 : decode cX11_spare 42 = .ok (.getfield 7, 3) := by decide +kernel
theorem dX11_spare_45 : decode cX11_spare 45 = .ok (.iconst 5, 1) := by decide +kernel
theorem dX11_spare_46 : decode cX11_spare 46 = .ok (.iaload, 1) := by decide +kernel
theorem dX11_spare_47 : decode cX11_spare 47 = .ok (.bipush 9, 2) := by decide +kernel
theorem dX11_spare_49 : decode cX11_spare 49 = .ok (.if_icmp .ne 6, 3) := by decide +kernel
theorem dX11_spare_52 : decode cX11_spare 52 = .ok (.bipush (-4), 2) := by decide +kernel
theorem dX11_spare_54 : decode cX11_spare 54 = .ok (.ireturn, 1) := by decide +kernel
theorem dX11_spare_55 : decode cX11_spare 55 = .ok (.sipush 710, 3) := by decide +kernel
theorem dX11_spare_58 : decode cX11_spare 58 = .ok (.iconst 3, 1) := by decide +kernel
theorem dX11_spare_59 : decode cX11_spare 59 = .ok (.aload_n 0, 1) := by decide +kernel
theorem dX11_spare_60 : decode cX11_spare 60 = .ok (.getfield 7, 3) := by decide +kernel
theorem dX11_spare_63 : decode cX11_spare 63 = .ok (.iconst 5, 1) := by decide +kernel
theorem dX11_spare_64 : decode cX11_spare 64 = .ok (.iaload, 1) := by decide +kernel
theorem dX11_spare_65 : decode cX11_spare 65 = .ok (.imul, 1) := by decide +kernel
theorem dX11_spare_66 : decode cX11_spare 66 = .ok (.iadd, 1) := by decide +kernel
theorem dX11_spare_67 : decode cX11_spare 67 = .ok (.istore 4, 2) := by decide +kernel
theorem dX11_spare_69 : decode cX11_spare 69 = .ok (.aload_n 0, 1) := by decide +kernel
theorem dX11_spare_70 : decode cX11_spare 70 = .ok (.getfield 7, 3) := by decide +kernel
theorem dX11_spare_73 : decode cX11_spare 73 = .ok (.iload 4, 2) := by decide +kernel
theorem dX11_spare_75 : decode cX11_spare 75 = .ok (.iload_n 1, 1) := by decide +kernel
theorem dX11_spare_76 : decode cX11_spare 76 = .ok (.iastore, 1) := by decide +kernel
theorem dX11_spare_77 : decode cX11_spare 77 = .ok (.aload_n 0, 1) := by decide +kernel
theorem dX11_spare_78 : decode cX11_spare 78 = .ok (.getfield 7, 3) := by decide +kernel
theorem dX11_spare_81 : decode cX11_spare 81 = .ok (.iload 4, 2) := by decide +kernel
theorem dX11_spare_83 : decode cX11_spare 83 = .ok (.iconst 1, 1) := by decide +kernel
theorem dX11_spare_84 : decode cX11_spare 84 = .ok (.iadd, 1) := by decide +kernel
theorem dX11_spare_85 : decode cX11_spare 85 = .ok (.iload_n 2, 1) := by decide +kernel
theorem dX11_spare_86 : decode cX11_spare 86 = .ok (.iastore, 1) := by decide +kernel
theorem dX11_spare_87 : decode cX11_spare 87 = .ok (.aload_n 0, 1) := by decide +kernel
theorem dX11_spare_88 : decode cX11_spare 88 = .ok (.getfield 7, 3) := by decide +kernel
theorem dX11_spare_91 : decode cX11_spare 91 = .ok (.iload 4, 2) := by decide +kernel
theorem dX11_spare_93 : decode cX11_spare 93 = .ok (.iconst 2, 1) := by decide +kernel
theorem dX11_spare_94 : decode cX11_spare 94 = .ok (.iadd, 1) := by decide +kernel
theorem dX11_spare_95 : decode cX11_spare 95 = .ok (.iload_n 3, 1) := by decide +kernel
theorem dX11_spare_96 : decode cX11_spare 96 = .ok (.iastore, 1) := by decide +kernel
theorem dX11_spare_97 : decode cX11_spare 97 = .ok (.aload_n 0, 1) := by decide +kernel
theorem dX11_spare_98 : decode cX11_spare 98 = .ok (.iconst 5, 1) := by decide +kernel
theorem dX11_spare_99 : decode cX11_spare 99 = .ok (.invokevirtual 69, 3) := by decide +kernel
theorem dX11_spare_102 : decode cX11_spare 102 = .ok (.ireturn, 1) := by decide +kernel
theorem dX11_scrap_0 : decode cX11_scrap 0 = .ok (.aload_n 0, 1) := by decide +kernel
theorem dX11_scrap_1 : decode cX11_scrap 1 = .ok (.getfield 7, 3) := by decide +kernel
theorem dX11_scrap_4 : decode cX11_scrap 4 = .ok (.iconst 4, 1) := by decide +kernel
theorem dX11_scrap_5 : decode cX11_scrap 5 = .ok (.iaload, 1) := by decide +kernel
theorem dX11_scrap_6 : decode cX11_scrap 6 = .ok (.aload_n 0, 1) := by decide +kernel
theorem dX11_scrap_7 : decode cX11_scrap 7 = .ok (.getfield 7, 3) := by decide +kernel
theorem dX11_scrap_10 : decode cX11_scrap 10 = .ok (.iconst 5, 1) := by decide +kernel
theorem dX11_scrap_11 : decode cX11_scrap 11 = .ok (.iaload, 1) := by decide +kernel
theorem dX11_scrap_12 : decode cX11_scrap 12 = .ok (.iadd, 1) := by decide +kernel
theorem dX11_scrap_13 : decode cX11_scrap 13 = .ok (.istore_n 1, 1) := by decide +kernel
theorem dX11_scrap_14 : decode cX11_scrap 14 = .ok (.aload_n 0, 1) := by decide +kernel
theorem dX11_scrap_15 : decode cX11_scrap 15 = .ok (.getfield 7, 3) := by decide +kernel
theorem dX11_scrap_18 : decode cX11_scrap 18 = .ok (.iconst 4, 1) := by decide +kernel
theorem dX11_scrap_19 : decode cX11_scrap 19 = .ok (.iconst 0, 1) := by decide +kernel
theorem dX11_scrap_20 : decode cX11_scrap 20 = .ok (.iastore, 1) := by decide +kernel
theorem dX11_scrap_21 : decode cX11_scrap 21 = .ok (.aload_n 0, 1) := by decide +kernel
theorem dX11_scrap_22 : decode cX11_scrap 22 = .ok (.getfield 7, 3) := by decide +kernel
theorem dX11_scrap_25 : decode cX11_scrap 25 = .ok (.iconst 5, 1) := by decide +kernel
theorem dX11_scrap_26 : decode cX11_scrap 26 = .ok (.iconst 0, 1) := by decide +kernel
theorem dX11_scrap_27 : decode cX11_scrap 27 = .ok (.iastore, 1) := by decide +kernel
theorem dX11_scrap_28 : decode cX11_scrap 28 = .ok (.iload_n 1, 1) := by decide +kernel
theorem dX11_scrap_29 : decode cX11_scrap 29 = .ok (.ireturn, 1) := by decide +kernel
theorem dX11_mayGet_0 : decode cX11_mayGet 0 = .ok (.aload_n 0, 1) := by decide +kernel
theorem dX11_mayGet_1 : decode cX11_mayGet 1 = .ok (.getfield 36, 3) := by decide +kernel
theorem dX11_mayGet_4 : decode cX11_mayGet 4 = .ok (.iload_n 1, 1) := by decide +kernel
theorem dX11_mayGet_5 : decode cX11_mayGet 5 = .ok (.iaload, 1) := by decide +kernel
theorem dX11_mayGet_6 : decode cX11_mayGet 6 = .ok (.istore_n 3, 1) := by decide +kernel
theorem dX11_mayGet_7 : decode cX11_mayGet 7 = .ok (.iload_n 3, 1) := by decide +kernel
theorem dX11_mayGet_8 : decode cX11_mayGet 8 = .ok (.iconst (-1), 1) := by decide +kernel
theorem dX11_mayGet_9 : decode cX11_mayGet 9 = .ok (.if_icmp .eq 36, 3) := by decide +kernel
theorem dX11_mayGet_12 : decode cX11_mayGet 12 = .ok (.aload_n 0, 1) := by decide +kernel
theorem dX11_mayGet_13 : decode cX11_mayGet 13 = .ok (.getfield 7, 3) := by decide +kernel
theorem dX11_mayGet_16 : decode cX11_mayGet 16 = .ok (.sipush 710, 3) := by decide +kernel
theorem dX11_mayGet_19 : decode cX11_mayGet 19 = .ok (.iconst 3, 1) := by decide +kernel
theorem dX11_mayGet_20 : decode cX11_mayGet 20 = .ok (.iload_n 3, 1) := by decide +kernel
theorem dX11_mayGet_21 : decode cX11_mayGet 21 = .ok (.imul, 1) := by decide +kernel
theorem dX11_mayGet_22 : decode cX11_mayGet 22 = .ok (.iadd, 1) := by decide +kernel
theorem dX11_mayGet_23 : decode cX11_mayGet 23 = .ok (.iaload, 1) := by decide +kernel
theorem dX11_mayGet_24 : decode cX11_mayGet 24 = .ok (.aload_n 0, 1) := by decide +kernel
theorem dX11_mayGet_25 : decode cX11_mayGet 25 = .ok (.getfield 7, 3) := by decide +kernel
theorem dX11_mayGet_28 : decode cX11_mayGet 28 = .ok (.sipush 704, 3) := by decide +kernel
theorem dX11_mayGet_31 : decode cX11_mayGet 31 = .ok (.iload_n 1, 1) := by decide +kernel
theorem dX11_mayGet_32 : decode cX11_mayGet 32 = .ok (.iadd, 1) := by decide +kernel
theorem dX11_mayGet_33 : decode cX11_mayGet 33 = .ok (.iaload, 1) := by decide +kernel
theorem dX11_mayGet_34 : decode cX11_mayGet 34 = .ok (.if_icmp .ne 15, 3) := by decide +kernel
theorem dX11_mayGet_37 : decode cX11_mayGet 37 = .ok (.iload_n 2, 1) := by decide +kernel
theorem dX11_mayGet_38 : decode cX11_mayGet 38 = .ok (.iload_n 3, 1) := by decide +kernel
theorem dX11_mayGet_39 : decode cX11_mayGet 39 = .ok (.ishr, 1) := by decide +kernel
theorem dX11_mayGet_40 : decode cX11_mayGet 40 = .ok (.iconst 1, 1) := by decide +kernel
theorem dX11_mayGet_41 : decode cX11_mayGet 41 = .ok (.iand, 1) := by decide +kernel
theorem dX11_mayGet_42 : decode cX11_mayGet 42 = .ok (.ifCond .ne 7, 3) := by decide +kernel
theorem dX11_mayGet_45 : decode cX11_mayGet 45 = .ok (.iconst 1, 1) := by decide +kernel
theorem dX11_mayGet_46 : decode cX11_mayGet 46 = .ok (.goto 4, 3) := by decide +kernel
theorem dX11_mayGet_49 : decode cX11_mayGet 49 = .ok (.iconst 0, 1) := by decide +kernel
theorem dX11_mayGet_50 : decode cX11_mayGet 50 = .ok (.ireturn, 1) := by decide +kernel
theorem dX11_givenTo_0 : decode cX11_givenTo 0 = .ok (.iconst 0, 1) := by decide +kernel
theorem dX11_givenTo_1 : decode cX11_givenTo 1 = .ok (.istore_n 2, 1) := by decide +kernel
theorem dX11_givenTo_2 : decode cX11_givenTo 2 = .ok (.iconst 0, 1) := by decide +kernel
theorem dX11_givenTo_3 : decode cX11_givenTo 3 = .ok (.istore_n 3, 1) := by decide +kernel
theorem dX11_givenTo_4 : decode cX11_givenTo 4 = .ok (.iload_n 3, 1) := by decide +kernel
theorem dX11_givenTo_5 : decode cX11_givenTo 5 = .ok (.iload_n 1, 1) := by decide +kernel
theorem dX11_givenTo_6 : decode cX11_givenTo 6 = .ok (.if_icmp .ge 34, 3) := by decide +kernel
theorem dX11_givenTo_9 : decode cX11_givenTo 9 = .ok (.iload_n 2, 1) := by decide +kernel
theorem dX11_givenTo_10 : decode cX11_givenTo 10 = .ok (.aload_n 0, 1) := by decide +kernel
theorem dX11_givenTo_11 : decode cX11_givenTo 11 = .ok (.getfield 36, 3) := by decide +kernel
theorem dX11_givenTo_14 : decode cX11_givenTo 14 = .ok (.iload_n 3, 1) := by decide +kernel
theorem dX11_givenTo_15 : decode cX11_givenTo 15 = .ok (.iaload, 1) := by decide +kernel
theorem dX11_givenTo_16 : decode cX11_givenTo 16 = .ok (.iconst (-1), 1) := by decide +kernel
theorem dX11_givenTo_17 : decode cX11_givenTo 17 = .ok (.if_icmp .ne 7, 3) := by decide +kernel
theorem dX11_givenTo_20 : decode cX11_givenTo 20 = .ok (.iconst 0, 1) := by decide +kernel
theorem dX11_givenTo_21 : decode cX11_givenTo 21 = .ok (.goto 11, 3) := by decide +kernel
theorem dX11_givenTo_24 : decode cX11_givenTo 24 = .ok (.iconst 1, 1) := by decide +kernel
theorem dX11_givenTo_25 : decode cX11_givenTo 25 = .ok (.aload_n 0, 1) := by decide +kernel
theorem dX11_givenTo_26 : decode cX11_givenTo 26 = .ok (.getfield 36, 3) := by decide +kernel
theorem dX11_givenTo_29 : decode cX11_givenTo 29 = .ok (.iload_n 3, 1) := by decide +kernel
theorem dX11_givenTo_30 : decode cX11_givenTo 30 = .ok (.iaload, 1) := by decide +kernel
theorem dX11_givenTo_31 : decode cX11_givenTo 31 = .ok (.ishl, 1) := by decide +kernel
theorem dX11_givenTo_32 : decode cX11_givenTo 32 = .ok (.ior, 1) := by decide +kernel
theorem dX11_givenTo_33 : decode cX11_givenTo 33 = .ok (.istore_n 2, 1) := by decide +kernel
theorem dX11_givenTo_34 : decode cX11_givenTo 34 = .ok (.iinc 3 1, 3) := by decide +kernel
theorem dX11_givenTo_37 : decode cX11_givenTo 37 = .ok (.goto (-33), 3) := by decide +kernel
theorem dX11_givenTo_40 : decode cX11_givenTo 40 = .ok (.iload_n 2, 1) := by decide +kernel
theorem dX11_givenTo_41 : decode cX11_givenTo 41 = .ok (.ireturn, 1) := by decide +kernel
theorem dX11_yearsOf_0 : decode cX11_yearsOf 0 = .ok (.iconst 0, 1) := by decide +kernel
theorem dX11_yearsOf_1 : decode cX11_yearsOf 1 = .ok (.istore_n 2, 1) := by decide +kernel
theorem dX11_yearsOf_2 : decode cX11_yearsOf 2 = .ok (.iconst 0, 1) := by decide +kernel
theorem dX11_yearsOf_3 : decode cX11_yearsOf 3 = .ok (.istore_n 3, 1) := by decide +kernel
theorem dX11_yearsOf_4 : decode cX11_yearsOf 4 = .ok (.iconst 0, 1) := by decide +kernel
theorem dX11_yearsOf_5 : decode cX11_yearsOf 5 = .ok (.istore 4, 2) := by decide +kernel
theorem dX11_yearsOf_7 : decode cX11_yearsOf 7 = .ok (.iconst 0, 1) := by decide +kernel
theorem dX11_yearsOf_8 : decode cX11_yearsOf 8 = .ok (.istore 5, 2) := by decide +kernel
theorem dX11_yearsOf_10 : decode cX11_yearsOf 10 = .ok (.iload 5, 2) := by decide +kernel
theorem dX11_yearsOf_12 : decode cX11_yearsOf 12 = .ok (.aload_n 0, 1) := by decide +kernel
theorem dX11_yearsOf_13 : decode cX11_yearsOf 13 = .ok (.getfield 7, 3) := by decide +kernel
theorem dX11_yearsOf_16 : decode cX11_yearsOf 16 = .ok (.iconst 5, 1) := by decide +kernel
theorem dX11_yearsOf_17 : decode cX11_yearsOf 17 = .ok (.iaload, 1) := by decide +kernel
theorem dX11_yearsOf_18 : decode cX11_yearsOf 18 = .ok (.if_icmp .ge 116, 3) := by decide +kernel
theorem dX11_yearsOf_21 : decode cX11_yearsOf 21 = .ok (.aload_n 0, 1) := by decide +kernel
theorem dX11_yearsOf_22 : decode cX11_yearsOf 22 = .ok (.getfield 7, 3) := by decide +kernel
theorem dX11_yearsOf_25 : decode cX11_yearsOf 25 = .ok (.sipush 710, 3) := by decide +kernel
theorem dX11_yearsOf_28 : decode cX11_yearsOf 28 = .ok (.iconst 3, 1) := by decide +kernel
theorem dX11_yearsOf_29 : decode cX11_yearsOf 29 = .ok (.iload 5, 2) := by decide +kernel
theorem dX11_yearsOf_31 : decode cX11_yearsOf 31 = .ok (.imul, 1) := by decide +kernel
theorem dX11_yearsOf_32 : decode cX11_yearsOf 32 = .ok (.iadd, 1) := by decide +kernel
theorem dX11_yearsOf_33 : decode cX11_yearsOf 33 = .ok (.iconst 2, 1) := by decide +kernel
theorem dX11_yearsOf_34 : decode cX11_yearsOf 34 = .ok (.iadd, 1) := by decide +kernel
theorem dX11_yearsOf_35 : decode cX11_yearsOf 35 = .ok (.iaload, 1) := by decide +kernel
theorem dX11_yearsOf_36 : decode cX11_yearsOf 36 = .ok (.istore 6, 2) := by decide +kernel
theorem dX11_yearsOf_38 : decode cX11_yearsOf 38 = .ok (.iload_n 1, 1) := by decide +kernel
theorem dX11_yearsOf_39 : decode cX11_yearsOf 39 = .ok (.iload 5, 2) := by decide +kernel
theorem dX11_yearsOf_41 : decode cX11_yearsOf 41 = .ok (.ishr, 1) := by decide +kernel
theorem dX11_yearsOf_42 : decode cX11_yearsOf 42 = .ok (.iconst 1, 1) := by decide +kernel
theorem dX11_yearsOf_43 : decode cX11_yearsOf 43 = .ok (.iand, 1) := by decide +kernel
theorem dX11_yearsOf_44 : decode cX11_yearsOf 44 = .ok (.iconst 1, 1) := by decide +kernel
theorem dX11_yearsOf_45 : decode cX11_yearsOf 45 = .ok (.if_icmp .ne 7, 3) := by decide +kernel
theorem dX11_yearsOf_48 : decode cX11_yearsOf 48 = .ok (.iconst 1, 1) := by decide +kernel
theorem dX11_yearsOf_49 : decode cX11_yearsOf 49 = .ok (.goto 4, 3) := by decide +kernel
theorem dX11_yearsOf_52 : decode cX11_yearsOf 52 = .ok (.iconst 0, 1) := by decide +kernel
theorem dX11_yearsOf_53 : decode cX11_yearsOf 53 = .ok (.istore 7, 2) := by decide +kernel
theorem dX11_yearsOf_55 : decode cX11_yearsOf 55 = .ok (.iload_n 2, 1) := by decide +kernel
theorem dX11_yearsOf_56 : decode cX11_yearsOf 56 = .ok (.iload 7, 2) := by decide +kernel
theorem dX11_yearsOf_58 : decode cX11_yearsOf 58 = .ok (.ifCond .eq 21, 3) := by decide +kernel
theorem dX11_yearsOf_61 : decode cX11_yearsOf 61 = .ok (.aload_n 0, 1) := by decide +kernel
theorem dX11_yearsOf_62 : decode cX11_yearsOf 62 = .ok (.getfield 7, 3) := by decide +kernel
theorem dX11_yearsOf_65 : decode cX11_yearsOf 65 = .ok (.sipush 710, 3) := by decide +kernel
theorem dX11_yearsOf_68 : decode cX11_yearsOf 68 = .ok (.iconst 3, 1) := by decide +kernel
theorem dX11_yearsOf_69 : decode cX11_yearsOf 69 = .ok (.iload 5, 2) := by decide +kernel
theorem dX11_yearsOf_71 : decode cX11_yearsOf 71 = .ok (.imul, 1) := by decide +kernel
theorem dX11_yearsOf_72 : decode cX11_yearsOf 72 = .ok (.iadd, 1) := by decide +kernel
theorem dX11_yearsOf_73 : decode cX11_yearsOf 73 = .ok (.iconst 1, 1) := by decide +kernel
theorem dX11_yearsOf_74 : decode cX11_yearsOf 74 = .ok (.iadd, 1) := by decide +kernel
theorem dX11_yearsOf_75 : decode cX11_yearsOf 75 = .ok (.iaload, 1) := by decide +kernel
theorem dX11_yearsOf_76 : decode cX11_yearsOf 76 = .ok (.goto 4, 3) := by decide +kernel
theorem dX11_yearsOf_79 : decode cX11_yearsOf 79 = .ok (.iconst 0, 1) := by decide +kernel
theorem dX11_yearsOf_80 : decode cX11_yearsOf 80 = .ok (.iadd, 1) := by decide +kernel
theorem dX11_yearsOf_81 : decode cX11_yearsOf 81 = .ok (.istore_n 2, 1) := by decide +kernel
theorem dX11_yearsOf_82 : decode cX11_yearsOf 82 = .ok (.iload_n 3, 1) := by decide +kernel
theorem dX11_yearsOf_83 : decode cX11_yearsOf 83 = .ok (.iload 7, 2) := by decide +kernel
theorem dX11_yearsOf_85 : decode cX11_yearsOf 85 = .ok (.ifCond .eq 16, 3) := by decide +kernel
theorem dX11_yearsOf_88 : decode cX11_yearsOf 88 = .ok (.iload 6, 2) := by decide +kernel
theorem dX11_yearsOf_90 : decode cX11_yearsOf 90 = .ok (.iconst (-1), 1) := by decide +kernel
theorem dX11_yearsOf_91 : decode cX11_yearsOf 91 = .ok (.if_icmp .eq 10, 3) := by decide +kernel
theorem dX11_yearsOf_94 : decode cX11_yearsOf 94 = .ok (.iconst 1, 1) := by decide +kernel
theorem dX11_yearsOf_95 : decode cX11_yearsOf 95 = .ok (.iload 6, 2) := by decide +kernel
theorem dX11_yearsOf_97 : decode cX11_yearsOf 97 = .ok (.ishl, 1) := by decide +kernel
theorem dX11_yearsOf_98 : decode cX11_yearsOf 98 = .ok (.goto 4, 3) := by decide +kernel
theorem dX11_yearsOf_101 : decode cX11_yearsOf 101 = .ok (.iconst 0, 1) := by decide +kernel
theorem dX11_yearsOf_102 : decode cX11_yearsOf 102 = .ok (.ior, 1) := by decide +kernel
theorem dX11_yearsOf_103 : decode cX11_yearsOf 103 = .ok (.istore_n 3, 1) := by decide +kernel
theorem dX11_yearsOf_104 : decode cX11_yearsOf 104 = .ok (.iload 4, 2) := by decide +kernel
theorem dX11_yearsOf_106 : decode cX11_yearsOf 106 = .ok (.iload 7, 2) := by decide +kernel
theorem dX11_yearsOf_108 : decode cX11_yearsOf 108 = .ok (.ifCond .ne 16, 3) := by decide +kernel
theorem dX11_yearsOf_111 : decode cX11_yearsOf 111 = .ok (.iload 6, 2) := by decide +kernel
theorem dX11_yearsOf_113 : decode cX11_yearsOf 113 = .ok (.iconst (-1), 1) := by decide +kernel
theorem dX11_yearsOf_114 : decode cX11_yearsOf 114 = .ok (.if_icmp .eq 10, 3) := by decide +kernel
theorem dX11_yearsOf_117 : decode cX11_yearsOf 117 = .ok (.iconst 1, 1) := by decide +kernel
theorem dX11_yearsOf_118 : decode cX11_yearsOf 118 = .ok (.iload 6, 2) := by decide +kernel
theorem dX11_yearsOf_120 : decode cX11_yearsOf 120 = .ok (.ishl, 1) := by decide +kernel
theorem dX11_yearsOf_121 : decode cX11_yearsOf 121 = .ok (.goto 4, 3) := by decide +kernel
theorem dX11_yearsOf_124 : decode cX11_yearsOf 124 = .ok (.iconst 0, 1) := by decide +kernel
theorem dX11_yearsOf_125 : decode cX11_yearsOf 125 = .ok (.ior, 1) := by decide +kernel
theorem dX11_yearsOf_126 : decode cX11_yearsOf 126 = .ok (.istore 4, 2) := by decide +kernel
theorem dX11_yearsOf_128 : decode cX11_yearsOf 128 = .ok (.iinc 5 1, 3) := by decide +kernel
theorem dX11_yearsOf_131 : decode cX11_yearsOf 131 = .ok (.goto (-121), 3) := by decide +kernel
theorem dX11_yearsOf_134 : decode cX11_yearsOf 134 = .ok (.iload_n 3, 1) := by decide +kernel
theorem dX11_yearsOf_135 : decode cX11_yearsOf 135 = .ok (.iload 4, 2) := by decide +kernel
theorem dX11_yearsOf_137 : decode cX11_yearsOf 137 = .ok (.iand, 1) := by decide +kernel
theorem dX11_yearsOf_138 : decode cX11_yearsOf 138 = .ok (.ifCond .eq 7, 3) := by decide +kernel
theorem dX11_yearsOf_141 : decode cX11_yearsOf 141 = .ok (.iconst (-1), 1) := by decide +kernel
theorem dX11_yearsOf_142 : decode cX11_yearsOf 142 = .ok (.goto 4, 3) := by decide +kernel
theorem dX11_yearsOf_145 : decode cX11_yearsOf 145 = .ok (.iload_n 2, 1) := by decide +kernel
theorem dX11_yearsOf_146 : decode cX11_yearsOf 146 = .ok (.ireturn, 1) := by decide +kernel
theorem dX11_findTaking_0 : decode cX11_findTaking 0 = .ok (.aload_n 0, 1) := by decide +kernel
theorem dX11_findTaking_1 : decode cX11_findTaking 1 = .ok (.getfield 7, 3) := by decide +kernel
theorem dX11_findTaking_4 : decode cX11_findTaking 4 = .ok (.iconst 4, 1) := by decide +kernel
theorem dX11_findTaking_5 : decode cX11_findTaking 5 = .ok (.iaload, 1) := by decide +kernel
theorem dX11_findTaking_6 : decode cX11_findTaking 6 = .ok (.istore_n 1, 1) := by decide +kernel
theorem dX11_findTaking_7 : decode cX11_findTaking 7 = .ok (.iload_n 1, 1) := by decide +kernel
theorem dX11_findTaking_8 : decode cX11_findTaking 8 = .ok (.ifCond .ne 7, 3) := by decide +kernel
theorem dX11_findTaking_11 : decode cX11_findTaking 11 = .ok (.iconst 0, 1) := by decide +kernel
theorem dX11_findTaking_12 : decode cX11_findTaking 12 = .ok (.goto 4, 3) := by decide +kernel
theorem dX11_findTaking_15 : decode cX11_findTaking 15 = .ok (.iconst (-1), 1) := by decide +kernel
theorem dX11_findTaking_16 : decode cX11_findTaking 16 = .ok (.istore_n 2, 1) := by decide +kernel
theorem dX11_findTaking_17 : decode cX11_findTaking 17 = .ok (.iload_n 1, 1) := by decide +kernel
theorem dX11_findTaking_18 : decode cX11_findTaking 18 = .ok (.ifCond .ne 7, 3) := by decide +kernel
theorem dX11_findTaking_21 : decode cX11_findTaking 21 = .ok (.iconst (-1), 1) := by decide +kernel
theorem dX11_findTaking_22 : decode cX11_findTaking 22 = .ok (.goto 4, 3) := by decide +kernel
theorem dX11_findTaking_25 : decode cX11_findTaking 25 = .ok (.iconst 0, 1) := by decide +kernel
theorem dX11_findTaking_26 : decode cX11_findTaking 26 = .ok (.istore_n 3, 1) := by decide +kernel
theorem dX11_findTaking_27 : decode cX11_findTaking 27 = .ok (.aload_n 0, 1) := by decide +kernel
theorem dX11_findTaking_28 : decode cX11_findTaking 28 = .ok (.getfield 36, 3) := by decide +kernel
theorem dX11_findTaking_31 : decode cX11_findTaking 31 = .ok (.iconst 0, 1) := by decide +kernel
theorem dX11_findTaking_32 : decode cX11_findTaking 32 = .ok (.bipush (-2), 2) := by decide +kernel
theorem dX11_findTaking_34 : decode cX11_findTaking 34 = .ok (.iastore, 1) := by decide +kernel
theorem dX11_findTaking_35 : decode cX11_findTaking 35 = .ok (.iload_n 3, 1) := by decide +kernel
theorem dX11_findTaking_36 : decode cX11_findTaking 36 = .ok (.ifCond .lt 120, 3) := by decide +kernel
theorem dX11_findTaking_39 : decode cX11_findTaking 39 = .ok (.aload_n 0, 1) := by decide +kernel
theorem dX11_findTaking_40 : decode cX11_findTaking 40 = .ok (.getfield 36, 3) := by decide +kernel
theorem dX11_findTaking_43 : decode cX11_findTaking 43 = .ok (.iload_n 3, 1) := by decide +kernel
theorem dX11_findTaking_44 : decode cX11_findTaking 44 = .ok (.dup2, 1) := by decide +kernel
theorem dX11_findTaking_45 : decode cX11_findTaking 45 = .ok (.iaload, 1) := by decide +kernel
theorem dX11_findTaking_46 : decode cX11_findTaking 46 = .ok (.iconst 1, 1) := by decide +kernel
theorem dX11_findTaking_47 : decode cX11_findTaking 47 = .ok (.iadd, 1) := by decide +kernel
theorem dX11_findTaking_48 : decode cX11_findTaking 48 = .ok (.iastore, 1) := by decide +kernel
theorem dX11_findTaking_49 : decode cX11_findTaking 49 = .ok (.aload_n 0, 1) := by decide +kernel
theorem dX11_findTaking_50 : decode cX11_findTaking 50 = .ok (.getfield 36, 3) := by decide +kernel
theorem dX11_findTaking_53 : decode cX11_findTaking 53 = .ok (.iload_n 3, 1) := by decide +kernel
theorem dX11_findTaking_54 : decode cX11_findTaking 54 = .ok (.iaload, 1) := by decide +kernel
theorem dX11_findTaking_55 : decode cX11_findTaking 55 = .ok (.aload_n 0, 1) := by decide +kernel
theorem dX11_findTaking_56 : decode cX11_findTaking 56 = .ok (.getfield 7, 3) := by decide +kernel
theorem dX11_findTaking_59 : decode cX11_findTaking 59 = .ok (.iconst 5, 1) := by decide +kernel
theorem dX11_findTaking_60 : decode cX11_findTaking 60 = .ok (.iaload, 1) := by decide +kernel
theorem dX11_findTaking_61 : decode cX11_findTaking 61 = .ok (.if_icmp .lt 9, 3) := by decide +kernel
theorem dX11_findTaking_64 : decode cX11_findTaking 64 = .ok (.iinc 3 (-1), 3) := by decide +kernel
theorem dX11_findTaking_67 : decode cX11_findTaking 67 = .ok (.goto (-32), 3) := by decide +kernel
theorem dX11_findTaking_70 : decode cX11_findTaking 70 = .ok (.aload_n 0, 1) := by decide +kernel
theorem dX11_findTaking_71 : decode cX11_findTaking 71 = .ok (.iload_n 3, 1) := by decide +kernel
theorem dX11_findTaking_72 : decode cX11_findTaking 72 = .ok (.aload_n 0, 1) := by decide +kernel
theorem dX11_findTaking_73 : decode cX11_findTaking 73 = .ok (.iload_n 3, 1) := by decide +kernel
theorem dX11_findTaking_74 : decode cX11_findTaking 74 = .ok (.invokevirtual 244, 3) := by decide +kernel
theorem dX11_findTaking_77 : decode cX11_findTaking 77 = .ok (.invokevirtual 247, 3) := by decide +kernel
theorem dX11_findTaking_80 : decode cX11_findTaking 80 = .ok (.ifCond .eq (-45), 3) := by decide +kernel
theorem dX11_findTaking_83 : decode cX11_findTaking 83 = .ok (.iload_n 3, 1) := by decide +kernel
theorem dX11_findTaking_84 : decode cX11_findTaking 84 = .ok (.iconst 1, 1) := by decide +kernel
theorem dX11_findTaking_85 : decode cX11_findTaking 85 = .ok (.iadd, 1) := by decide +kernel
theorem dX11_findTaking_86 : decode cX11_findTaking 86 = .ok (.iload_n 1, 1) := by decide +kernel
theorem dX11_findTaking_87 : decode cX11_findTaking 87 = .ok (.if_icmp .ge 17, 3) := by decide +kernel
theorem dX11_findTaking_90 : decode cX11_findTaking 90 = .ok (.iinc 3 1, 3) := by decide +kernel
theorem dX11_findTaking_93 : decode cX11_findTaking 93 = .ok (.aload_n 0, 1) := by decide +kernel
theorem dX11_findTaking_94 : decode cX11_findTaking 94 = .ok (.getfield 36, 3) := by decide +kernel
theorem dX11_findTaking_97 : decode cX11_findTaking 97 = .ok (.iload_n 3, 1) := by decide +kernel
theorem dX11_findTaking_98 : decode cX11_findTaking 98 = .ok (.bipush (-2), 2) := by decide +kernel
theorem dX11_findTaking_100 : decode cX11_findTaking 100 = .ok (.iastore, 1) := by decide +kernel
theorem dX11_findTaking_101 : decode cX11_findTaking 101 = .ok (.goto (-66), 3) := by decide +kernel
theorem dX11_findTaking_104 : decode cX11_findTaking 104 = .ok (.aload_n 0, 1) := by decide +kernel
theorem dX11_findTaking_105 : decode cX11_findTaking 105 = .ok (.aload_n 0, 1) := by decide +kernel
theorem dX11_findTaking_106 : decode cX11_findTaking 106 = .ok (.iload_n 1, 1) := by decide +kernel
theorem dX11_findTaking_107 : decode cX11_findTaking 107 = .ok (.invokevirtual 244, 3) := by decide +kernel
theorem dX11_findTaking_110 : decode cX11_findTaking 110 = .ok (.invokevirtual 250, 3) := by decide +kernel
theorem dX11_findTaking_113 : decode cX11_findTaking 113 = .ok (.istore 4, 2) := by decide +kernel
theorem dX11_findTaking_115 : decode cX11_findTaking 115 = .ok (.iload 4, 2) := by decide +kernel
theorem dX11_findTaking_117 : decode cX11_findTaking 117 = .ok (.iload_n 2, 1) := by decide +kernel
theorem dX11_findTaking_118 : decode cX11_findTaking 118 = .ok (.if_icmp .le 35, 3) := by decide +kernel
theorem dX11_findTaking_121 : decode cX11_findTaking 121 = .ok (.iload 4, 2) := by decide +kernel
theorem dX11_findTaking_123 : decode cX11_findTaking 123 = .ok (.istore_n 2, 1) := by decide +kernel
theorem dX11_findTaking_124 : decode cX11_findTaking 124 = .ok (.iconst 0, 1) := by decide +kernel
theorem dX11_findTaking_125 : decode cX11_findTaking 125 = .ok (.istore 5, 2) := by decide +kernel
theorem dX11_findTaking_127 : decode cX11_findTaking 127 = .ok (.iload 5, 2) := by decide +kernel
theorem dX11_findTaking_129 : decode cX11_findTaking 129 = .ok (.iload_n 1, 1) := by decide +kernel
theorem dX11_findTaking_130 : decode cX11_findTaking 130 = .ok (.if_icmp .ge 23, 3) := by decide +kernel
theorem dX11_findTaking_133 : decode cX11_findTaking 133 = .ok (.aload_n 0, 1) := by decide +kernel
theorem dX11_findTaking_134 : decode cX11_findTaking 134 = .ok (.getfield 39, 3) := by decide +kernel
theorem dX11_findTaking_137 : decode cX11_findTaking 137 = .ok (.iload 5, 2) := by decide +kernel
theorem dX11_findTaking_139 : decode cX11_findTaking 139 = .ok (.aload_n 0, 1) := by decide +kernel
theorem dX11_findTaking_140 : decode cX11_findTaking 140 = .ok (.getfield 36, 3) := by decide +kernel
theorem dX11_findTaking_143 : decode cX11_findTaking 143 = .ok (.iload 5, 2) := by decide +kernel
theorem dX11_findTaking_145 : decode cX11_findTaking 145 = .ok (.iaload, 1) := by decide +kernel
theorem dX11_findTaking_146 : decode cX11_findTaking 146 = .ok (.iastore, 1) := by decide +kernel
theorem dX11_findTaking_147 : decode cX11_findTaking 147 = .ok (.iinc 5 1, 3) := by decide +kernel
theorem dX11_findTaking_150 : decode cX11_findTaking 150 = .ok (.goto (-23), 3) := by decide +kernel
theorem dX11_findTaking_153 : decode cX11_findTaking 153 = .ok (.goto (-118), 3) := by decide +kernel
theorem dX11_findTaking_156 : decode cX11_findTaking 156 = .ok (.iload_n 2, 1) := by decide +kernel
theorem dX11_findTaking_157 : decode cX11_findTaking 157 = .ok (.ireturn, 1) := by decide +kernel
theorem dX11_taking_0 : decode cX11_taking 0 = .ok (.iload_n 1, 1) := by decide +kernel
theorem dX11_taking_1 : decode cX11_taking 1 = .ok (.iconst (-1), 1) := by decide +kernel
theorem dX11_taking_2 : decode cX11_taking 2 = .ok (.if_icmp .eq 15, 3) := by decide +kernel
theorem dX11_taking_5 : decode cX11_taking 5 = .ok (.aload_n 0, 1) := by decide +kernel
theorem dX11_taking_6 : decode cX11_taking 6 = .ok (.iconst 4, 1) := by decide +kernel
theorem dX11_taking_7 : decode cX11_taking 7 = .ok (.iload_n 1, 1) := by decide +kernel
theorem dX11_taking_8 : decode cX11_taking 8 = .ok (.invokevirtual 135, 3) := by decide +kernel
theorem dX11_taking_11 : decode cX11_taking 11 = .ok (.ifCond .ne 6, 3) := by decide +kernel
theorem dX11_taking_14 : decode cX11_taking 14 = .ok (.bipush (-10), 2) := by decide +kernel
theorem dX11_taking_16 : decode cX11_taking 16 = .ok (.ireturn, 1) := by decide +kernel
theorem dX11_taking_17 : decode cX11_taking 17 = .ok (.aload_n 0, 1) := by decide +kernel
theorem dX11_taking_18 : decode cX11_taking 18 = .ok (.invokevirtual 253, 3) := by decide +kernel
theorem dX11_taking_21 : decode cX11_taking 21 = .ok (.istore_n 2, 1) := by decide +kernel
theorem dX11_taking_22 : decode cX11_taking 22 = .ok (.iload_n 1, 1) := by decide +kernel
theorem dX11_taking_23 : decode cX11_taking 23 = .ok (.iconst (-1), 1) := by decide +kernel
theorem dX11_taking_24 : decode cX11_taking 24 = .ok (.if_icmp .ne 7, 3) := by decide +kernel
theorem dX11_taking_27 : decode cX11_taking 27 = .ok (.iload_n 2, 1) := by decide +kernel
theorem dX11_taking_28 : decode cX11_taking 28 = .ok (.goto 9, 3) := by decide +kernel
theorem dX11_taking_31 : decode cX11_taking 31 = .ok (.aload_n 0, 1) := by decide +kernel
theorem dX11_taking_32 : decode cX11_taking 32 = .ok (.getfield 39, 3) := by decide +kernel
theorem dX11_taking_35 : decode cX11_taking 35 = .ok (.iload_n 1, 1) := by decide +kernel
theorem dX11_taking_36 : decode cX11_taking 36 = .ok (.iaload, 1) := by decide +kernel
theorem dX11_taking_37 : decode cX11_taking 37 = .ok (.ireturn, 1) := by decide +kernel
