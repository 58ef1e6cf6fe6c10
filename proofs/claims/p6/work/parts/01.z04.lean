theorem dX10_family_60 : decode cX10_family 60 = .ok (.lmul, 1) := by decide +kernel
theorem dX10_family_61 : decode cX10_family 61 = .ok (.ladd, 1) := by decide +kernel
theorem dX10_family_62 : decode cX10_family 62 = .ok (.ldc2_w 103, 3) := by decide +kernel
theorem dX10_family_65 : decode cX10_family 65 = .ok (.lcmp, 1) := by decide +kernel
theorem dX10_family_66 : decode cX10_family 66 = .ok (.ifCond .le 6, 3) := by decide +kernel
theorem dX10_family_69 : decode cX10_family 69 = .ok (.bipush (-2), 2) := by decide +kernel
theorem dX10_family_71 : decode cX10_family 71 = .ok (.ireturn, 1) := by decide +kernel
theorem dX10_family_72 : decode cX10_family 72 = .ok (.aload_n 0, 1) := by decide +kernel
theorem dX10_family_73 : decode cX10_family 73 = .ok (.getfield 10, 3) := by decide +kernel
theorem dX10_family_76 : decode cX10_family 76 = .ok (.getfield 95, 3) := by decide +kernel
theorem dX10_family_79 : decode cX10_family 79 = .ok (.iload_n 1, 1) := by decide +kernel
theorem dX10_family_80 : decode cX10_family 80 = .ok (.iconst 0, 1) := by decide +kernel
theorem dX10_family_81 : decode cX10_family 81 = .ok (.iload_n 2, 1) := by decide +kernel
theorem dX10_family_82 : decode cX10_family 82 = .ok (.invokevirtual 105, 3) := by decide +kernel
theorem dX10_family_85 : decode cX10_family 85 = .ok (.aload_n 0, 1) := by decide +kernel
theorem dX10_family_86 : decode cX10_family 86 = .ok (.getfield 10, 3) := by decide +kernel
theorem dX10_family_89 : decode cX10_family 89 = .ok (.getfield 95, 3) := by decide +kernel
theorem dX10_family_92 : decode cX10_family 92 = .ok (.iload_n 1, 1) := by decide +kernel
theorem dX10_family_93 : decode cX10_family 93 = .ok (.iconst 1, 1) := by decide +kernel
theorem dX10_family_94 : decode cX10_family 94 = .ok (.iload_n 3, 1) := by decide +kernel
theorem dX10_family_95 : decode cX10_family 95 = .ok (.invokevirtual 105, 3) := by decide +kernel
theorem dX10_family_98 : decode cX10_family 98 = .ok (.aload_n 0, 1) := by decide +kernel
theorem dX10_family_99 : decode cX10_family 99 = .ok (.getfield 10, 3) := by decide +kernel
theorem dX10_family_102 : decode cX10_family 102 = .ok (.getfield 95, 3) := by decide +kernel
theorem dX10_family_105 : decode cX10_family 105 = .ok (.iload_n 1, 1) := by decide +kernel
theorem dX10_family_106 : decode cX10_family 106 = .ok (.iconst 2, 1) := by decide +kernel
theorem dX10_family_107 : decode cX10_family 107 = .ok (.iload 4, 2) := by decide +kernel
theorem dX10_family_109 : decode cX10_family 109 = .ok (.invokevirtual 105, 3) := by decide +kernel
theorem dX10_family_112 : decode cX10_family 112 = .ok (.iconst 1, 1) := by decide +kernel
theorem dX10_family_113 : decode cX10_family 113 = .ok (.ireturn, 1) := by decide +kernel
theorem dX10_write_0 : decode cX10_write 0 = .ok (.iload_n 1, 1) := by decide +kernel
theorem dX10_write_1 : decode cX10_write 1 = .ok (.iconst 0, 1) := by decide +kernel
theorem dX10_write_2 : decode cX10_write 2 = .ok (.bipush 127, 2) := by decide +kernel
theorem dX10_write_4 : decode cX10_write 4 = .ok (.invokestatic 81, 3) := by decide +kernel
theorem dX10_write_7 : decode cX10_write 7 = .ok (.ifCond .ne 6, 3) := by decide +kernel
theorem dX10_write_10 : decode cX10_write 10 = .ok (.bipush (-2), 2) := by decide +kernel
theorem dX10_write_12 : decode cX10_write 12 = .ok (.ireturn, 1) := by decide +kernel
theorem dX10_write_13 : decode cX10_write 13 = .ok (.aload_n 0, 1) := by decide +kernel
theorem dX10_write_14 : decode cX10_write 14 = .ok (.getfield 10, 3) := by decide +kernel
theorem dX10_write_17 : decode cX10_write 17 = .ok (.getfield 109, 3) := by decide +kernel
theorem dX10_write_20 : decode cX10_write 20 = .ok (.iload_n 1, 1) := by decide +kernel
theorem dX10_write_21 : decode cX10_write 21 = .ok (.iconst 0, 1) := by decide +kernel
theorem dX10_write_22 : decode cX10_write 22 = .ok (.iconst 0, 1) := by decide +kernel
theorem dX10_write_23 : decode cX10_write 23 = .ok (.iconst 0, 1) := by decide +kernel
theorem dX10_write_24 : decode cX10_write 24 = .ok (.invokevirtual 89, 3) := by decide +kernel
theorem dX10_write_27 : decode cX10_write 27 = .ok (.istore_n 2, 1) := by decide +kernel
theorem dX10_write_28 : decode cX10_write 28 = .ok (.iload_n 2, 1) := by decide +kernel
theorem dX10_write_29 : decode cX10_write 29 = .ok (.bipush (-4), 2) := by decide +kernel
theorem dX10_write_31 : decode cX10_write 31 = .ok (.if_icmp .ne 6, 3) := by decide +kernel
theorem dX10_write_34 : decode cX10_write 34 = .ok (.bipush (-4), 2) := by decide +kernel
theorem dX10_write_36 : decode cX10_write 36 = .ok (.ireturn, 1) := by decide +kernel
theorem dX10_write_37 : decode cX10_write 37 = .ok (.aload_n 0, 1) := by decide +kernel
theorem dX10_write_38 : decode cX10_write 38 = .ok (.getfield 31, 3) := by decide +kernel
theorem dX10_write_41 : decode cX10_write 41 = .ok (.invokevirtual 112, 3) := by decide +kernel
theorem dX10_write_44 : decode cX10_write 44 = .ok (.aload_n 0, 1) := by decide +kernel
theorem dX10_write_45 : decode cX10_write 45 = .ok (.getfield 10, 3) := by decide +kernel
theorem dX10_write_48 : decode cX10_write 48 = .ok (.getfield 109, 3) := by decide +kernel
theorem dX10_write_51 : decode cX10_write 51 = .ok (.invokevirtual 115, 3) := by decide +kernel
theorem dX10_write_54 : decode cX10_write 54 = .ok (.ireturn, 1) := by decide +kernel
theorem dX10_erase_0 : decode cX10_erase 0 = .ok (.aload_n 0, 1) := by decide +kernel
theorem dX10_erase_1 : decode cX10_erase 1 = .ok (.getfield 10, 3) := by decide +kernel
theorem dX10_erase_4 : decode cX10_erase 4 = .ok (.getfield 109, 3) := by decide +kernel
theorem dX10_erase_7 : decode cX10_erase 7 = .ok (.invokevirtual 115, 3) := by decide +kernel
theorem dX10_erase_10 : decode cX10_erase 10 = .ok (.istore_n 1, 1) := by decide +kernel
theorem dX10_erase_11 : decode cX10_erase 11 = .ok (.aload_n 0, 1) := by decide +kernel
theorem dX10_erase_12 : decode cX10_erase 12 = .ok (.getfield 10, 3) := by decide +kernel
theorem dX10_erase_15 : decode cX10_erase 15 = .ok (.getfield 109, 3) := by decide +kernel
theorem dX10_erase_18 : decode cX10_erase 18 = .ok (.invokevirtual 119, 3) := by decide +kernel
theorem dX10_erase_21 : decode cX10_erase 21 = .ok (.aload_n 0, 1) := by decide +kernel
theorem dX10_erase_22 : decode cX10_erase 22 = .ok (.getfield 31, 3) := by decide +kernel
theorem dX10_erase_25 : decode cX10_erase 25 = .ok (.invokevirtual 112, 3) := by decide +kernel
theorem dX10_erase_28 : decode cX10_erase 28 = .ok (.iload_n 1, 1) := by decide +kernel
theorem dX10_erase_29 : decode cX10_erase 29 = .ok (.ireturn, 1) := by decide +kernel
theorem dX10_fault_0 : decode cX10_fault 0 = .ok (.aload_n 0, 1) := by decide +kernel
theorem dX10_fault_1 : decode cX10_fault 1 = .ok (.getfield 31, 3) := by decide +kernel
theorem dX10_fault_4 : decode cX10_fault 4 = .ok (.invokevirtual 122, 3) := by decide +kernel
theorem dX10_fault_7 : decode cX10_fault 7 = .ok (.ireturn, 1) := by decide +kernel
theorem dX10_worn_0 : decode cX10_worn 0 = .ok (.aload_n 0, 1) := by decide +kernel
theorem dX10_worn_1 : decode cX10_worn 1 = .ok (.getfield 10, 3) := by decide +kernel
theorem dX10_worn_4 : decode cX10_worn 4 = .ok (.getfield 85, 3) := by decide +kernel
theorem dX10_worn_7 : decode cX10_worn 7 = .ok (.iload_n 1, 1) := by decide +kernel
theorem dX10_worn_8 : decode cX10_worn 8 = .ok (.invokevirtual 98, 3) := by decide +kernel
theorem dX10_worn_11 : decode cX10_worn 11 = .ok (.ifCond .eq 13, 3) := by decide +kernel
theorem dX10_worn_14 : decode cX10_worn 14 = .ok (.iload_n 2, 1) := by decide +kernel
theorem dX10_worn_15 : decode cX10_worn 15 = .ok (.iconst 0, 1) := by decide +kernel
theorem dX10_worn_16 : decode cX10_worn 16 = .ok (.bipush 99, 2) := by decide +kernel
theorem dX10_worn_18 : decode cX10_worn 18 = .ok (.invokestatic 81, 3) := by decide +kernel
theorem dX10_worn_21 : decode cX10_worn 21 = .ok (.ifCond .ne 6, 3) := by decide +kernel
theorem dX10_worn_24 : decode cX10_worn 24 = .ok (.bipush (-2), 2) := by decide +kernel
theorem dX10_worn_26 : decode cX10_worn 26 = .ok (.ireturn, 1) := by decide +kernel
theorem dX10_worn_27 : decode cX10_worn 27 = .ok (.aload_n 0, 1) := by decide +kernel
theorem dX10_worn_28 : decode cX10_worn 28 = .ok (.getfield 31, 3) := by decide +kernel
theorem dX10_worn_31 : decode cX10_worn 31 = .ok (.iload_n 1, 1) := by decide +kernel
theorem dX10_worn_32 : decode cX10_worn 32 = .ok (.iload_n 2, 1) := by decide +kernel
theorem dX10_worn_33 : decode cX10_worn 33 = .ok (.invokevirtual 125, 3) := by decide +kernel
theorem dX10_worn_36 : decode cX10_worn 36 = .ok (.ireturn, 1) := by decide +kernel
theorem dX10_say_0 : decode cX10_say 0 = .ok (.aload_n 0, 1) := by decide +kernel
theorem dX10_say_1 : decode cX10_say 1 = .ok (.getfield 10, 3) := by decide +kernel
theorem dX10_say_4 : decode cX10_say 4 = .ok (.getfield 85, 3) := by decide +kernel
theorem dX10_say_7 : decode cX10_say 7 = .ok (.iload_n 1, 1) := by decide +kernel
theorem dX10_say_8 : decode cX10_say 8 = .ok (.invokevirtual 98, 3) := by decide +kernel
theorem dX10_say_11 : decode cX10_say 11 = .ok (.ifCond .eq 24, 3) := by decide +kernel
theorem dX10_say_14 : decode cX10_say 14 = .ok (.iload_n 2, 1) := by decide +kernel
theorem dX10_say_15 : decode cX10_say 15 = .ok (.iconst 0, 1) := by decide +kernel
theorem dX10_say_16 : decode cX10_say 16 = .ok (.iconst 3, 1) := by decide +kernel
theorem dX10_say_17 : decode cX10_say 17 = .ok (.invokestatic 81, 3) := by decide +kernel
theorem dX10_say_20 : decode cX10_say 20 = .ok (.ifCond .eq 15, 3) := by decide +kernel
theorem dX10_say_23 : decode cX10_say 23 = .ok (.iload_n 3, 1) := by decide +kernel
theorem dX10_say_24 : decode cX10_say 24 = .ok (.sipush (-10000), 3) := by decide +kernel
theorem dX10_say_27 : decode cX10_say 27 = .ok (.ldc 102, 2) := by decide +kernel
theorem dX10_say_29 : decode cX10_say 29 = .ok (.invokestatic 81, 3) := by decide +kernel
theorem dX10_say_32 : decode cX10_say 32 = .ok (.ifCond .ne 6, 3) := by decide +kernel
theorem dX10_say_35 : decode cX10_say 35 = .ok (.bipush (-2), 2) := by decide +kernel
theorem dX10_say_37 : decode cX10_say 37 = .ok (.ireturn, 1) := by decide +kernel
theorem dX10_say_38 : decode cX10_say 38 = .ok (.iload_n 2, 1) := by decide +kernel
theorem dX10_say_39 : decode cX10_say 39 = .ok (.ifCond .eq 8, 3) := by decide +kernel
theorem dX10_say_42 : decode cX10_say 42 = .ok (.iload_n 2, 1) := by decide +kernel
theorem dX10_say_43 : decode cX10_say 43 = .ok (.iconst 1, 1) := by decide +kernel
theorem dX10_say_44 : decode cX10_say 44 = .ok (.if_icmp .ne 8, 3) := by decide +kernel
theorem dX10_say_47 : decode cX10_say 47 = .ok (.iload 4, 2) := by decide +kernel
theorem dX10_say_49 : decode cX10_say 49 = .ok (.goto 4, 3) := by decide +kernel
theorem dX10_say_52 : decode cX10_say 52 = .ok (.iconst 0, 1) := by decide +kernel
theorem dX10_say_53 : decode cX10_say 53 = .ok (.istore 6, 2) := by decide +kernel
theorem dX10_say_55 : decode cX10_say 55 = .ok (.iload_n 2, 1) := by decide +kernel
theorem dX10_say_56 : decode cX10_say 56 = .ok (.ifCond .ne 8, 3) := by decide +kernel
theorem dX10_say_59 : decode cX10_say 59 = .ok (.iload 5, 2) := by decide +kernel
theorem dX10_say_61 : decode cX10_say 61 = .ok (.goto 4, 3) := by decide +kernel
theorem dX10_say_64 : decode cX10_say 64 = .ok (.iconst 0, 1) := by decide +kernel
theorem dX10_say_65 : decode cX10_say 65 = .ok (.istore 7, 2) := by decide +kernel
theorem dX10_say_67 : decode cX10_say 67 = .ok (.iload 6, 2) := by decide +kernel
theorem dX10_say_69 : decode cX10_say 69 = .ok (.iconst 0, 1) := by decide +kernel
theorem dX10_say_70 : decode cX10_say 70 = .ok (.sipush 10000, 3) := by decide +kernel
theorem dX10_say_73 : decode cX10_say 73 = .ok (.invokestatic 81, 3) := by decide +kernel
theorem dX10_say_76 : decode cX10_say 76 = .ok (.ifCond .eq 14, 3) := by decide +kernel
theorem dX10_say_79 : decode cX10_say 79 = .ok (.iload 7, 2) := by decide +kernel
theorem dX10_say_81 : decode cX10_say 81 = .ok (.iconst 0, 1) := by decide +kernel
theorem dX10_say_82 : decode cX10_say 82 = .ok (.bipush 99, 2) := by decide +kernel
theorem dX10_say_84 : decode cX10_say 84 = .ok (.invokestatic 81, 3) := by decide +kernel
theorem dX10_say_87 : decode cX10_say 87 = .ok (.ifCond .ne 6, 3) := by decide +kernel
theorem dX10_say_90 : decode cX10_say 90 = .ok (.bipush (-2), 2) := by decide +kernel
theorem dX10_say_92 : decode cX10_say 92 = .ok (.ireturn, 1) := by decide +kernel
theorem dX10_say_93 : decode cX10_say 93 = .ok (.aload_n 0, 1) := by decide +kernel
theorem dX10_say_94 : decode cX10_say 94 = .ok (.getfield 10, 3) := by decide +kernel
theorem dX10_say_97 : decode cX10_say 97 = .ok (.getfield 129, 3) := by decide +kernel
theorem dX10_say_100 : decode cX10_say 100 = .ok (.iload_n 1, 1) := by decide +kernel
theorem dX10_say_101 : decode cX10_say 101 = .ok (.iload_n 2, 1) := by decide +kernel
theorem dX10_say_102 : decode cX10_say 102 = .ok (.iload_n 3, 1) := by decide +kernel
theorem dX10_say_103 : decode cX10_say 103 = .ok (.iload 6, 2) := by decide +kernel
theorem dX10_say_105 : decode cX10_say 105 = .ok (.invokevirtual 89, 3) := by decide +kernel
theorem dX10_say_108 : decode cX10_say 108 = .ok (.istore 8, 2) := by decide +kernel
theorem dX10_say_110 : decode cX10_say 110 = .ok (.aload_n 0, 1) := by decide +kernel
theorem dX10_say_111 : decode cX10_say 111 = .ok (.getfield 10, 3) := by decide +kernel
theorem dX10_say_114 : decode cX10_say 114 = .ok (.getfield 129, 3) := by decide +kernel
theorem dX10_say_117 : decode cX10_say 117 = .ok (.iload 8, 2) := by decide +kernel
theorem dX10_say_119 : decode cX10_say 119 = .ok (.iconst 4, 1) := by decide +kernel
theorem dX10_say_120 : decode cX10_say 120 = .ok (.iload 7, 2) := by decide +kernel
theorem dX10_say_122 : decode cX10_say 122 = .ok (.invokevirtual 105, 3) := by decide +kernel
theorem dX10_say_125 : decode cX10_say 125 = .ok (.iload 8, 2) := by decide +kernel
theorem dX10_say_127 : decode cX10_say 127 = .ok (.ireturn, 1) := by decide +kernel
theorem dX10_deny_0 : decode cX10_deny 0 = .ok (.aload_n 0, 1) := by decide +kernel
theorem dX10_deny_1 : decode cX10_deny 1 = .ok (.getfield 10, 3) := by decide +kernel
theorem dX10_deny_4 : decode cX10_deny 4 = .ok (.getfield 129, 3) := by decide +kernel
theorem dX10_deny_7 : decode cX10_deny 7 = .ok (.iload_n 1, 1) := by decide +kernel
theorem dX10_deny_8 : decode cX10_deny 8 = .ok (.invokevirtual 98, 3) := by decide +kernel
theorem dX10_deny_11 : decode cX10_deny 11 = .ok (.ifCond .ne 6, 3) := by decide +kernel
theorem dX10_deny_14 : decode cX10_deny 14 = .ok (.bipush (-2), 2) := by decide +kernel
theorem dX10_deny_16 : decode cX10_deny 16 = .ok (.ireturn, 1) := by decide +kernel
theorem dX10_deny_17 : decode cX10_deny 17 = .ok (.iload_n 2, 1) := by decide +kernel
theorem dX10_deny_18 : decode cX10_deny 18 = .ok (.ifCond .eq 7, 3) := by decide +kernel
theorem dX10_deny_21 : decode cX10_deny 21 = .ok (.iconst 1, 1) := by decide +kernel
theorem dX10_deny_22 : decode cX10_deny 22 = .ok (.goto 4, 3) := by decide +kernel
theorem dX10_deny_25 : decode cX10_deny 25 = .ok (.iconst 0, 1) := by decide +kernel
theorem dX10_deny_26 : decode cX10_deny 26 = .ok (.istore_n 3, 1) := by decide +kernel
theorem dX10_deny_27 : decode cX10_deny 27 = .ok (.aload_n 0, 1) := by decide +kernel
theorem dX10_deny_28 : decode cX10_deny 28 = .ok (.getfield 10, 3) := by decide +kernel
theorem dX10_deny_31 : decode cX10_deny 31 = .ok (.getfield 129, 3) := by decide +kernel
theorem dX10_deny_34 : decode cX10_deny 34 = .ok (.iload_n 1, 1) := by decide +kernel
theorem dX10_deny_35 : decode cX10_deny 35 = .ok (.iconst 5, 1) := by decide +kernel
theorem dX10_deny_36 : decode cX10_deny 36 = .ok (.invokevirtual 132, 3) := by decide +kernel
theorem dX10_deny_39 : decode cX10_deny 39 = .ok (.iload_n 3, 1) := by decide +kernel
theorem dX10_deny_40 : decode cX10_deny 40 = .ok (.if_icmp .ne 6, 3) := by decide +kernel
theorem dX10_deny_43 : decode cX10_deny 43 = .ok (.bipush (-3), 2) := by decide +kernel
theorem dX10_deny_45 : decode cX10_deny 45 = .ok (.ireturn, 1) := by decide +kernel
theorem dX10_deny_46 : decode cX10_deny 46 = .ok (.aload_n 0, 1) := by decide +kernel
theorem dX10_deny_47 : decode cX10_deny 47 = .ok (.getfield 10, 3) := by decide +kernel
theorem dX10_deny_50 : decode cX10_deny 50 = .ok (.getfield 129, 3) := by decide +kernel
theorem dX10_deny_53 : decode cX10_deny 53 = .ok (.iload_n 1, 1) := by decide +kernel
theorem dX10_deny_54 : decode cX10_deny 54 = .ok (.iconst 5, 1) := by decide +kernel
theorem dX10_deny_55 : decode cX10_deny 55 = .ok (.iload_n 3, 1) := by decide +kernel
theorem dX10_deny_56 : decode cX10_deny 56 = .ok (.invokevirtual 105, 3) := by decide +kernel
theorem dX10_deny_59 : decode cX10_deny 59 = .ok (.iconst 1, 1) := by decide +kernel
theorem dX10_deny_60 : decode cX10_deny 60 = .ok (.ireturn, 1) := by decide +kernel
theorem dX10_first_0 : decode cX10_first 0 = .ok (.aload_n 0, 1) := by decide +kernel
theorem dX10_first_1 : decode cX10_first 1 = .ok (.getfield 10, 3) := by decide +kernel
theorem dX10_first_4 : decode cX10_first 4 = .ok (.getfield 85, 3) := by decide +kernel
theorem dX10_first_7 : decode cX10_first 7 = .ok (.iload_n 1, 1) := by decide +kernel
theorem dX10_first_8 : decode cX10_first 8 = .ok (.invokevirtual 98, 3) := by decide +kernel
theorem dX10_first_11 : decode cX10_first 11 = .ok (.ifCond .eq 12, 3) := by decide +kernel
theorem dX10_first_14 : decode cX10_first 14 = .ok (.iload_n 2, 1) := by decide +kernel
theorem dX10_first_15 : decode cX10_first 15 = .ok (.iconst 0, 1) := by decide +kernel
theorem dX10_first_16 : decode cX10_first 16 = .ok (.iconst 2, 1) := by decide +kernel
theorem dX10_first_17 : decode cX10_first 17 = .ok (.invokestatic 81, 3) := by decide +kernel
theorem dX10_first_20 : decode cX10_first 20 = .ok (.ifCond .ne 6, 3) := by decide +kernel
theorem dX10_first_23 : decode cX10_first 23 = .ok (.bipush (-2), 2) := by decide +kernel
theorem dX10_first_25 : decode cX10_first 25 = .ok (.ireturn, 1) := by decide +kernel
theorem dX10_first_26 : decode cX10_first 26 = .ok (.aload_n 0, 1) := by decide +kernel
theorem dX10_first_27 : decode cX10_first 27 = .ok (.getfield 40, 3) := by decide +kernel
theorem dX10_first_30 : decode cX10_first 30 = .ok (.iload_n 1, 1) := by decide +kernel
theorem dX10_first_31 : decode cX10_first 31 = .ok (.invokevirtual 135, 3) := by decide +kernel
theorem dX10_first_34 : decode cX10_first 34 = .ok (.aload_n 0, 1) := by decide +kernel
theorem dX10_first_35 : decode cX10_first 35 = .ok (.getfield 40, 3) := by decide +kernel
theorem dX10_first_38 : decode cX10_first 38 = .ok (.iload_n 2, 1) := by decide +kernel
theorem dX10_first_39 : decode cX10_first 39 = .ok (.invokevirtual 139, 3) := by decide +kernel
theorem dX10_first_42 : decode cX10_first 42 = .ok (.ireturn, 1) := by decide +kernel
theorem dX10_quarrel_0 : decode cX10_quarrel 0 = .ok (.aload_n 0, 1) := by decide +kernel
theorem dX10_quarrel_1 : decode cX10_quarrel 1 = .ok (.getfield 10, 3) := by decide +kernel
theorem dX10_quarrel_4 : decode cX10_quarrel 4 = .ok (.getfield 85, 3) := by decide +kernel
theorem dX10_quarrel_7 : decode cX10_quarrel 7 = .ok (.iload_n 1, 1) := by decide +kernel
theorem dX10_quarrel_8 : decode cX10_quarrel 8 = .ok (.invokevirtual 98, 3) := by decide +kernel
theorem dX10_quarrel_11 : decode cX10_quarrel 11 = .ok (.ifCond .eq 15, 3) := by decide +kernel
theorem dX10_quarrel_14 : decode cX10_quarrel 14 = .ok (.iload_n 2, 1) := by decide +kernel
theorem dX10_quarrel_15 : decode cX10_quarrel 15 = .ok (.bipush (-3), 2) := by decide +kernel
theorem dX10_quarrel_17 : decode cX10_quarrel 17 = .ok (.if_icmp .lt 9, 3) := by decide +kernel
theorem dX10_quarrel_20 : decode cX10_quarrel 20 = .ok (.iload_n 2, 1) := by decide +kernel
theorem dX10_quarrel_21 : decode cX10_quarrel 21 = .ok (.bipush (-2), 2) := by decide +kernel
theorem dX10_quarrel_23 : decode cX10_quarrel 23 = .ok (.if_icmp .ne 6, 3) := by decide +kernel
theorem dX10_quarrel_26 : decode cX10_quarrel 26 = .ok (.bipush (-10), 2) := by decide +kernel
theorem dX10_quarrel_28 : decode cX10_quarrel 28 = .ok (.ireturn, 1) := by decide +kernel
theorem dX10_quarrel_29 : decode cX10_quarrel 29 = .ok (.aload_n 0, 1) := by decide +kernel
theorem dX10_quarrel_30 : decode cX10_quarrel 30 = .ok (.getfield 40, 3) := by decide +kernel
theorem dX10_quarrel_33 : decode cX10_quarrel 33 = .ok (.iload_n 1, 1) := by decide +kernel
theorem dX10_quarrel_34 : decode cX10_quarrel 34 = .ok (.invokevirtual 135, 3) := by decide +kernel
theorem dX10_quarrel_37 : decode cX10_quarrel 37 = .ok (.aload_n 0, 1) := by decide +kernel
theorem dX10_quarrel_38 : decode cX10_quarrel 38 = .ok (.getfield 40, 3) := by decide +kernel
theorem dX10_quarrel_41 : decode cX10_quarrel 41 = .ok (.invokevirtual 143, 3) := by decide +kernel
theorem dX10_quarrel_44 : decode cX10_quarrel 44 = .ok (.istore_n 3, 1) := by decide +kernel
theorem dX10_quarrel_45 : decode cX10_quarrel 45 = .ok (.iload_n 2, 1) := by decide +kernel
theorem dX10_quarrel_46 : decode cX10_quarrel 46 = .ok (.bipush (-3), 2) := by decide +kernel
theorem dX10_quarrel_48 : decode cX10_quarrel 48 = .ok (.if_icmp .ne 5, 3) := by decide +kernel
theorem dX10_quarrel_51 : decode cX10_quarrel 51 = .ok (.iload_n 3, 1) := by decide +kernel
theorem dX10_quarrel_52 : decode cX10_quarrel 52 = .ok (.ireturn, 1) := by decide +kernel
theorem dX10_quarrel_53 : decode cX10_quarrel 53 = .ok (.iload_n 2, 1) := by decide +kernel
theorem dX10_quarrel_54 : decode cX10_quarrel 54 = .ok (.iconst (-1), 1) := by decide +kernel
theorem dX10_quarrel_55 : decode cX10_quarrel 55 = .ok (.if_icmp .ne 12, 3) := by decide +kernel
theorem dX10_quarrel_58 : decode cX10_quarrel 58 = .ok (.aload_n 0, 1) := by decide +kernel
theorem dX10_quarrel_59 : decode cX10_quarrel 59 = .ok (.getfield 40, 3) := by decide +kernel
theorem dX10_quarrel_62 : decode cX10_quarrel 62 = .ok (.iload_n 3, 1) := by decide +kernel
theorem dX10_quarrel_63 : decode cX10_quarrel 63 = .ok (.invokevirtual 146, 3) := by decide +kernel
theorem dX10_quarrel_66 : decode cX10_quarrel 66 = .ok (.ireturn, 1) := by decide +kernel
theorem dX10_quarrel_67 : decode cX10_quarrel 67 = .ok (.aload_n 0, 1) := by decide +kernel
theorem dX10_quarrel_68 : decode cX10_quarrel 68 = .ok (.getfield 40, 3) := by decide +kernel
theorem dX10_quarrel_71 : decode cX10_quarrel 71 = .ok (.iload_n 3, 1) := by decide +kernel
theorem dX10_quarrel_72 : decode cX10_quarrel 72 = .ok (.iload_n 2, 1) := by decide +kernel
theorem dX10_quarrel_73 : decode cX10_quarrel 73 = .ok (.invokevirtual 149, 3) := by decide +kernel
theorem dX10_quarrel_76 : decode cX10_quarrel 76 = .ok (.ireturn, 1) := by decide +kernel
theorem dX10_chain_0 : decode cX10_chain 0 = .ok (.iload_n 1, 1) := by decide +kernel
theorem dX10_chain_1 : decode cX10_chain 1 = .ok (.ldc 152, 2) := by decide +kernel
theorem dX10_chain_3 : decode cX10_chain 3 = .ok (.ldc 102, 2) := by decide +kernel
theorem dX10_chain_5 : decode cX10_chain 5 = .ok (.invokestatic 81, 3) := by decide +kernel
theorem dX10_chain_8 : decode cX10_chain 8 = .ok (.ifCond .eq 13, 3) := by decide +kernel
theorem dX10_chain_11 : decode cX10_chain 11 = .ok (.iload_n 2, 1) := by decide +kernel
theorem dX10_chain_12 : decode cX10_chain 12 = .ok (.iload_n 1, 1) := by decide +kernel
theorem dX10_chain_13 : decode cX10_chain 13 = .ok (.ldc 102, 2) := by decide +kernel
theorem dX10_chain_15 : decode cX10_chain 15 = .ok (.invokestatic 81, 3) := by decide +kernel
theorem dX10_chain_18 : decode cX10_chain 18 = .ok (.ifCond .ne 6, 3) := by decide +kernel
theorem dX10_chain_21 : decode cX10_chain 21 = .ok (.bipush (-2), 2) := by decide +kernel
theorem dX10_chain_23 : decode cX10_chain 23 = .ok (.ireturn, 1) := by decide +kernel
theorem dX10_chain_24 : decode cX10_chain 24 = .ok (.aload_n 0, 1) := by decide +kernel
theorem dX10_chain_25 : decode cX10_chain 25 = .ok (.getfield 10, 3) := by decide +kernel
theorem dX10_chain_28 : decode cX10_chain 28 = .ok (.getfield 153, 3) := by decide +kernel
theorem dX10_chain_31 : decode cX10_chain 31 = .ok (.iload_n 1, 1) := by decide +kernel
theorem dX10_chain_32 : decode cX10_chain 32 = .ok (.iload_n 2, 1) := by decide +kernel
theorem dX10_chain_33 : decode cX10_chain 33 = .ok (.iconst 0, 1) := by decide +kernel
theorem dX10_chain_34 : decode cX10_chain 34 = .ok (.iconst 0, 1) := by decide +kernel
theorem dX10_chain_35 : decode cX10_chain 35 = .ok (.invokevirtual 89, 3) := by decide +kernel
theorem dX10_chain_38 : decode cX10_chain 38 = .ok (.ireturn, 1) := by decide +kernel
theorem dX10_link_0 : decode cX10_link 0 = .ok (.aload_n 0, 1) := by decide +kernel
theorem dX10_link_1 : decode cX10_link 1 = .ok (.getfield 10, 3) := by decide +kernel
theorem dX10_link_4 : decode cX10_link 4 = .ok (.getfield 153, 3) := by decide +kernel
theorem dX10_link_7 : decode cX10_link 7 = .ok (.iload_n 1, 1) := by decide +kernel
theorem dX10_link_8 : decode cX10_link 8 = .ok (.invokevirtual 98, 3) := by decide +kernel
theorem dX10_link_11 : decode cX10_link 11 = .ok (.ifCond .eq 29, 3) := by decide +kernel
theorem dX10_link_14 : decode cX10_link 14 = .ok (.aload_n 0, 1) := by decide +kernel
theorem dX10_link_15 : decode cX10_link 15 = .ok (.getfield 10, 3) := by decide +kernel
theorem dX10_link_18 : decode cX10_link 18 = .ok (.getfield 85, 3) := by decide +kernel
theorem dX10_link_21 : decode cX10_link 21 = .ok (.iload_n 2, 1) := by decide +kernel
theorem dX10_link_22 : decode cX10_link 22 = .ok (.invokevirtual 98, 3) := by decide +kernel
theorem dX10_link_25 : decode cX10_link 25 = .ok (.ifCond .eq 15, 3) := by decide +kernel
theorem dX10_link_28 : decode cX10_link 28 = .ok (.aload_n 0, 1) := by decide +kernel
theorem dX10_link_29 : decode cX10_link 29 = .ok (.getfield 10, 3) := by decide +kernel
theorem dX10_link_32 : decode cX10_link 32 = .ok (.iload_n 1, 1) := by decide +kernel
theorem dX10_link_33 : decode cX10_link 33 = .ok (.iload_n 2, 1) := by decide +kernel
theorem dX10_link_34 : decode cX10_link 34 = .ok (.invokevirtual 156, 3) := by decide +kernel
theorem dX10_link_37 : decode cX10_link 37 = .ok (.ifCond .eq 6, 3) := by decide +kernel
theorem dX10_link_40 : decode cX10_link 40 = .ok (.bipush (-2), 2) := by decide +kernel
theorem dX10_link_42 : decode cX10_link 42 = .ok (.ireturn, 1) := by decide +kernel
theorem dX10_link_43 : decode cX10_link 43 = .ok (.aload_n 0, 1) := by decide +kernel
theorem dX10_link_44 : decode cX10_link 44 = .ok (.getfield 10, 3) := by decide +kernel
theorem dX10_link_47 : decode cX10_link 47 = .ok (.getfield 153, 3) := by decide +kernel
theorem dX10_link_50 : decode cX10_link 50 = .ok (.iload_n 1, 1) := by decide +kernel
theorem dX10_link_51 : decode cX10_link 51 = .ok (.iconst 2, 1) := by decide +kernel
theorem dX10_link_52 : decode cX10_link 52 = .ok (.invokevirtual 132, 3) := by decide +kernel
theorem dX10_link_55 : decode cX10_link 55 = .ok (.istore 4, 2) := by decide +kernel
theorem dX10_link_57 : decode cX10_link 57 = .ok (.iload 4, 2) := by decide +kernel
theorem dX10_link_59 : decode cX10_link 59 = .ok (.bipush 6, 2) := by decide +kernel
theorem dX10_link_61 : decode cX10_link 61 = .ok (.if_icmp .lt 6, 3) := by decide +kernel
theorem dX10_link_64 : decode cX10_link 64 = .ok (.bipush (-4), 2) := by decide +kernel
theorem dX10_link_66 : decode cX10_link 66 = .ok (.ireturn, 1) := by decide +kernel
theorem dX10_link_67 : decode cX10_link 67 = .ok (.aload_n 0, 1) := by decide +kernel
theorem dX10_link_68 : decode cX10_link 68 = .ok (.getfield 10, 3) := by decide +kernel
theorem dX10_link_71 : decode cX10_link 71 = .ok (.getfield 153, 3) := by decide +kernel
theorem dX10_link_74 : decode cX10_link 74 = .ok (.iload_n 1, 1) := by decide +kernel
theorem dX10_link_75 : decode cX10_link 75 = .ok (.iconst 3, 1) := by decide +kernel
theorem dX10_link_76 : decode cX10_link 76 = .ok (.iconst 2, 1) := by decide +kernel
theorem dX10_link_77 : decode cX10_link 77 = .ok (.iload 4, 2) := by decide +kernel
theorem dX10_link_79 : decode cX10_link 79 = .ok (.imul, 1) := by decide +kernel
theorem dX10_link_80 : decode cX10_link 80 = .ok (.iadd, 1) := by decide +kernel
theorem dX10_link_81 : decode cX10_link 81 = .ok (.iload_n 2, 1) := by decide +kernel
theorem dX10_link_82 : decode cX10_link 82 = .ok (.invokevirtual 105, 3) := by decide +kernel
theorem dX10_link_85 : decode cX10_link 85 = .ok (.aload_n 0, 1) := by decide +kernel
theorem dX10_link_86 : decode cX10_link 86 = .ok (.getfield 10, 3) := by decide +kernel
theorem dX10_link_89 : decode cX10_link 89 = .ok (.getfield 153, 3) := by decide +kernel
theorem dX10_link_92 : decode cX10_link 92 = .ok (.iload_n 1, 1) := by decide +kernel
theorem dX10_link_93 : decode cX10_link 93 = .ok (.iconst 3, 1) := by decide +kernel
theorem dX10_link_94 : decode cX10_link 94 = .ok (.iconst 2, 1) := by decide +kernel
theorem dX10_link_95 : decode cX10_link 95 = .ok (.iload 4, 2) := by decide +kernel
theorem dX10_link_97 : decode cX10_link 97 = .ok (.imul, 1) := by decide +kernel
theorem dX10_link_98 : decode cX10_link 98 = .ok (.iadd, 1) := by decide +kernel
theorem dX10_link_99 : decode cX10_link 99 = .ok (.iconst 1, 1) := by decide +kernel
theorem dX10_link_100 : decode cX10_link 100 = .ok (.iadd, 1) := by decide +kernel
theorem dX10_link_101 : decode cX10_link 101 = .ok (.iload_n 3, 1) := by decide +kernel
theorem dX10_link_102 : decode cX10_link 102 = .ok (.ifCond .eq 7, 3) := by decide +kernel
theorem dX10_link_105 : decode cX10_link 105 = .ok (.iconst 1, 1) := by decide +kernel
theorem dX10_link_106 : decode cX10_link 106 = .ok (.goto 4, 3) := by decide +kernel
theorem dX10_link_109 : decode cX10_link 109 = .ok (.iconst 0, 1) := by decide +kernel
theorem dX10_link_110 : decode cX10_link 110 = .ok (.invokevirtual 105, 3) := by decide +kernel
theorem dX10_link_113 : decode cX10_link 113 = .ok (.aload_n 0, 1) := by decide +kernel
theorem dX10_link_114 : decode cX10_link 114 = .ok (.getfield 10, 3) := by decide +kernel
theorem dX10_link_117 : decode cX10_link 117 = .ok (.getfield 153, 3) := by decide +kernel
theorem dX10_link_120 : decode cX10_link 120 = .ok (.iload_n 1, 1) := by decide +kernel
theorem dX10_link_121 : decode cX10_link 121 = .ok (.iconst 2, 1) := by decide +kernel
theorem dX10_link_122 : decode cX10_link 122 = .ok (.iload 4, 2) := by decide +kernel
theorem dX10_link_124 : decode cX10_link 124 = .ok (.iconst 1, 1) := by decide +kernel
theorem dX10_link_125 : decode cX10_link 125 = .ok (.iadd, 1) := by decide +kernel
theorem dX10_link_126 : decode cX10_link 126 = .ok (.invokevirtual 105, 3) := by decide +kernel
theorem dX10_link_129 : decode cX10_link 129 = .ok (.iload 4, 2) := by decide +kernel
theorem dX10_link_131 : decode cX10_link 131 = .ok (.iconst 1, 1) := by decide +kernel
theorem dX10_link_132 : decode cX10_link 132 = .ok (.iadd, 1) := by decide +kernel
theorem dX10_link_133 : decode cX10_link 133 = .ok (.ireturn, 1) := by decide +kernel
theorem dX10_sum_0 : decode cX10_sum 0 = .ok (.aload_n 0, 1) := by decide +kernel
theorem dX10_sum_1 : decode cX10_sum 1 = .ok (.getfield 10, 3) := by decide +kernel
theorem dX10_sum_4 : decode cX10_sum 4 = .ok (.getfield 153, 3) := by decide +kernel
theorem dX10_sum_7 : decode cX10_sum 7 = .ok (.iload_n 1, 1) := by decide +kernel
theorem dX10_sum_8 : decode cX10_sum 8 = .ok (.invokevirtual 98, 3) := by decide +kernel
theorem dX10_sum_11 : decode cX10_sum 11 = .ok (.ifCond .eq 22, 3) := by decide +kernel
theorem dX10_sum_14 : decode cX10_sum 14 = .ok (.iload_n 2, 1) := by decide +kernel
theorem dX10_sum_15 : decode cX10_sum 15 = .ok (.iconst 0, 1) := by decide +kernel
theorem dX10_sum_16 : decode cX10_sum 16 = .ok (.bipush 99, 2) := by decide +kernel
theorem dX10_sum_18 : decode cX10_sum 18 = .ok (.invokestatic 81, 3) := by decide +kernel
theorem dX10_sum_21 : decode cX10_sum 21 = .ok (.ifCond .eq 12, 3) := by decide +kernel
theorem dX10_sum_24 : decode cX10_sum 24 = .ok (.iload_n 3, 1) := by decide +kernel
theorem dX10_sum_25 : decode cX10_sum 25 = .ok (.iconst 0, 1) := by decide +kernel
theorem dX10_sum_26 : decode cX10_sum 26 = .ok (.iconst 2, 1) := by decide +kernel
theorem dX10_sum_27 : decode cX10_sum 27 = .ok (.invokestatic 81, 3) := by decide +kernel
theorem dX10_sum_30 : decode cX10_sum 30 = .ok (.ifCond .ne 6, 3) := by decide +kernel
theorem dX10_sum_33 : decode cX10_sum 33 = .ok (.ldc 160, 2) := by decide +kernel
theorem dX10_sum_35 : decode cX10_sum 35 = .ok (.ireturn, 1) := by decide +kernel
theorem dX10_sum_36 : decode cX10_sum 36 = .ok (.aload_n 0, 1) := by decide +kernel
theorem dX10_sum_37 : decode cX10_sum 37 = .ok (.getfield 49, 3) := by decide +kernel
theorem dX10_sum_40 : decode cX10_sum 40 = .ok (.iload_n 1, 1) := by decide +kernel
theorem dX10_sum_41 : decode cX10_sum 41 = .ok (.iconst (-1), 1) := by decide +kernel
theorem dX10_sum_42 : decode cX10_sum 42 = .ok (.iconst (-1), 1) := by decide +kernel
theorem dX10_sum_43 : decode cX10_sum 43 = .ok (.invokevirtual 161, 3) := by decide +kernel
theorem dX10_sum_46 : decode cX10_sum 46 = .ok (.iload_n 3, 1) := by decide +kernel
theorem dX10_sum_47 : decode cX10_sum 47 = .ok (.iconst 2, 1) := by decide +kernel
theorem dX10_sum_48 : decode cX10_sum 48 = .ok (.if_icmp .ne 20, 3) := by decide +kernel
theorem dX10_sum_51 : decode cX10_sum 51 = .ok (.aload_n 0, 1) := by decide +kernel
theorem dX10_sum_52 : decode cX10_sum 52 = .ok (.getfield 49, 3) := by decide +kernel
theorem dX10_sum_55 : decode cX10_sum 55 = .ok (.iload_n 2, 1) := by decide +kernel
theorem dX10_sum_56 : decode cX10_sum 56 = .ok (.invokevirtual 164, 3) := by decide +kernel
theorem dX10_sum_59 : decode cX10_sum 59 = .ok (.ifCond .eq 7, 3) := by decide +kernel
theorem dX10_sum_62 : decode cX10_sum 62 = .ok (.iconst 1, 1) := by decide +kernel
theorem dX10_sum_63 : decode cX10_sum 63 = .ok (.goto 4, 3) := by decide +kernel
theorem dX10_sum_66 : decode cX10_sum 66 = .ok (.iconst 0, 1) := by decide +kernel
theorem dX10_sum_67 : decode cX10_sum 67 = .ok (.ireturn, 1) := by decide +kernel
theorem dX10_sum_68 : decode cX10_sum 68 = .ok (.aload_n 0, 1) := by decide +kernel
theorem dX10_sum_69 : decode cX10_sum 69 = .ok (.getfield 49, 3) := by decide +kernel
theorem dX10_sum_72 : decode cX10_sum 72 = .ok (.getfield 167, 3) := by decide +kernel
theorem dX10_sum_75 : decode cX10_sum 75 = .ok (.ifCond .ne 6, 3) := by decide +kernel
theorem dX10_sum_78 : decode cX10_sum 78 = .ok (.ldc 171, 2) := by decide +kernel
theorem dX10_sum_80 : decode cX10_sum 80 = .ok (.ireturn, 1) := by decide +kernel
theorem dX10_sum_81 : decode cX10_sum 81 = .ok (.aload_n 0, 1) := by decide +kernel
theorem dX10_sum_82 : decode cX10_sum 82 = .ok (.getfield 49, 3) := by decide +kernel
theorem dX10_sum_85 : decode cX10_sum 85 = .ok (.iload_n 2, 1) := by decide +kernel
theorem dX10_sum_86 : decode cX10_sum 86 = .ok (.invokevirtual 172, 3) := by decide +kernel
theorem dX10_sum_89 : decode cX10_sum 89 = .ok (.iload_n 3, 1) := by decide +kernel
theorem dX10_sum_90 : decode cX10_sum 90 = .ok (.ifCond .ne 13, 3) := by decide +kernel
theorem dX10_sum_93 : decode cX10_sum 93 = .ok (.aload_n 0, 1) := by decide +kernel
theorem dX10_sum_94 : decode cX10_sum 94 = .ok (.getfield 49, 3) := by decide +kernel
theorem dX10_sum_97 : decode cX10_sum 97 = .ok (.getfield 175, 3) := by decide +kernel
theorem dX10_sum_100 : decode cX10_sum 100 = .ok (.goto 10, 3) := by decide +kernel
theorem dX10_sum_103 : decode cX10_sum 103 = .ok (.aload_n 0, 1) := by decide +kernel
theorem dX10_sum_104 : decode cX10_sum 104 = .ok (.getfield 49, 3) := by decide +kernel
theorem dX10_sum_107 : decode cX10_sum 107 = .ok (.getfield 179, 3) := by decide +kernel
theorem dX10_sum_110 : decode cX10_sum 110 = .ok (.ireturn, 1) := by decide +kernel
theorem dX10_stands_0 : decode cX10_stands 0 = .ok (.aload_n 0, 1) := by decide +kernel
theorem dX10_stands_1 : decode cX10_stands 1 = .ok (.getfield 10, 3) := by decide +kernel
theorem dX10_stands_4 : decode cX10_stands 4 = .ok (.getfield 85, 3) := by decide +kernel
theorem dX10_stands_7 : decode cX10_stands 7 = .ok (.iload_n 1, 1) := by decide +kernel
theorem dX10_stands_8 : decode cX10_stands 8 = .ok (.invokevirtual 98, 3) := by decide +kernel
theorem dX10_stands_11 : decode cX10_stands 11 = .ok (.ifCond .eq 32, 3) := by decide +kernel
theorem dX10_stands_14 : decode cX10_stands 14 = .ok (.aload_n 0, 1) := by decide +kernel
theorem dX10_stands_15 : decode cX10_stands 15 = .ok (.getfield 10, 3) := by decide +kernel
theorem dX10_stands_18 : decode cX10_stands 18 = .ok (.getfield 85, 3) := by decide +kernel
theorem dX10_stands_21 : decode cX10_stands 21 = .ok (.iload_n 2, 1) := by decide +kernel
theorem dX10_stands_22 : decode cX10_stands 22 = .ok (.invokevirtual 98, 3) := by decide +kernel
theorem dX10_stands_25 : decode cX10_stands 25 = .ok (.ifCond .eq 18, 3) := by decide +kernel
theorem dX10_stands_28 : decode cX10_stands 28 = .ok (.iload_n 1, 1) := by decide +kernel
theorem dX10_stands_29 : decode cX10_stands 29 = .ok (.iload_n 2, 1) := by decide +kernel
theorem dX10_stands_30 : decode cX10_stands 30 = .ok (.if_icmp .eq 13, 3) := by decide +kernel
theorem dX10_stands_33 : decode cX10_stands 33 = .ok (.iload_n 3, 1) := by decide +kernel
theorem dX10_stands_34 : decode cX10_stands 34 = .ok (.iconst 0, 1) := by decide +kernel
theorem dX10_stands_35 : decode cX10_stands 35 = .ok (.bipush 99, 2) := by decide +kernel
theorem dX10_stands_37 : decode cX10_stands 37 = .ok (.invokestatic 81, 3) := by decide +kernel
theorem dX10_stands_40 : decode cX10_stands 40 = .ok (.ifCond .ne 6, 3) := by decide +kernel
theorem dX10_stands_43 : decode cX10_stands 43 = .ok (.bipush (-2), 2) := by decide +kernel
theorem dX10_stands_45 : decode cX10_stands 45 = .ok (.ireturn, 1) := by decide +kernel
theorem dX10_stands_46 : decode cX10_stands 46 = .ok (.iconst 0, 1) := by decide +kernel
theorem dX10_stands_47 : decode cX10_stands 47 = .ok (.istore 4, 2) := by decide +kernel
theorem dX10_stands_49 : decode cX10_stands 49 = .ok (.iload 4, 2) := by decide +kernel
theorem dX10_stands_51 : decode cX10_stands 51 = .ok (.aload_n 0, 1) := by decide +kernel
theorem dX10_stands_52 : decode cX10_stands 52 = .ok (.getfield 10, 3) := by decide +kernel
theorem dX10_stands_55 : decode cX10_stands 55 = .ok (.getfield 153, 3) := by decide +kernel
theorem dX10_stands_58 : decode cX10_stands 58 = .ok (.invokevirtual 115, 3) := by decide +kernel
theorem dX10_stands_61 : decode cX10_stands 61 = .ok (.if_icmp .ge 64, 3) := by decide +kernel
theorem dX10_stands_64 : decode cX10_stands 64 = .ok (.aload_n 0, 1) := by decide +kernel
theorem dX10_stands_65 : decode cX10_stands 65 = .ok (.getfield 10, 3) := by decide +kernel
theorem dX10_stands_68 : decode cX10_stands 68 = .ok (.iload 4, 2) := by decide +kernel
theorem dX10_stands_70 : decode cX10_stands 70 = .ok (.iload_n 2, 1) := by decide +kernel
theorem dX10_stands_71 : decode cX10_stands 71 = .ok (.invokevirtual 156, 3) := by decide +kernel
theorem dX10_stands_74 : decode cX10_stands 74 = .ok (.ifCond .ne 6, 3) := by decide +kernel
theorem dX10_stands_77 : decode cX10_stands 77 = .ok (.goto 42, 3) := by decide +kernel
theorem dX10_stands_80 : decode cX10_stands 80 = .ok (.aload_n 0, 1) := by decide +kernel
theorem dX10_stands_81 : decode cX10_stands 81 = .ok (.getfield 10, 3) := by decide +kernel
theorem dX10_stands_84 : decode cX10_stands 84 = .ok (.iload 4, 2) := by decide +kernel
theorem dX10_stands_86 : decode cX10_stands 86 = .ok (.iload_n 1, 1) := by decide +kernel
theorem dX10_stands_87 : decode cX10_stands 87 = .ok (.invokevirtual 156, 3) := by decide +kernel
theorem dX10_stands_90 : decode cX10_stands 90 = .ok (.ifCond .eq 5, 3) := by decide +kernel
theorem dX10_stands_93 : decode cX10_stands 93 = .ok (.iconst 0, 1) := by decide +kernel
theorem dX10_stands_94 : decode cX10_stands 94 = .ok (.ireturn, 1) := by decide +kernel
theorem dX10_stands_95 : decode cX10_stands 95 = .ok (.aload_n 0, 1) := by decide +kernel
theorem dX10_stands_96 : decode cX10_stands 96 = .ok (.getfield 49, 3) := by decide +kernel
theorem dX10_stands_99 : decode cX10_stands 99 = .ok (.iload 4, 2) := by decide +kernel
theorem dX10_stands_101 : decode cX10_stands 101 = .ok (.iload_n 2, 1) := by decide +kernel
theorem dX10_stands_102 : decode cX10_stands 102 = .ok (.iload_n 1, 1) := by decide +kernel
theorem dX10_stands_103 : decode cX10_stands 103 = .ok (.invokevirtual 161, 3) := by decide +kernel
theorem dX10_stands_106 : decode cX10_stands 106 = .ok (.aload_n 0, 1) := by decide +kernel
theorem dX10_stands_107 : decode cX10_stands 107 = .ok (.getfield 49, 3) := by decide +kernel
theorem dX10_stands_110 : decode cX10_stands 110 = .ok (.iload_n 3, 1) := by decide +kernel
theorem dX10_stands_111 : decode cX10_stands 111 = .ok (.invokevirtual 164, 3) := by decide +kernel
theorem dX10_stands_114 : decode cX10_stands 114 = .ok (.ifCond .ne 5, 3) := by decide +kernel
theorem dX10_stands_117 : decode cX10_stands 117 = .ok (.iconst 0, 1) := by decide +kernel
theorem dX10_stands_118 : decode cX10_stands 118 = .ok (.ireturn, 1) := by decide +kernel
theorem dX10_stands_119 : decode cX10_stands 119 = .ok (.iinc 4 1, 3) := by decide +kernel
theorem dX10_stands_122 : decode cX10_stands 122 = .ok (.goto (-73), 3) := by decide +kernel
theorem dX10_stands_125 : decode cX10_stands 125 = .ok (.iconst 1, 1) := by decide +kernel
theorem dX10_stands_126 : decode cX10_stands 126 = .ok (.ireturn, 1) := by decide +kernel
theorem dX10_life_0 : decode cX10_life 0 = .ok (.aload_n 0, 1) := by decide +kernel
theorem dX10_life_1 : decode cX10_life 1 = .ok (.getfield 10, 3) := by decide +kernel
theorem dX10_life_4 : decode cX10_life 4 = .ok (.getfield 153, 3) := by decide +kernel
theorem dX10_life_7 : decode cX10_life 7 = .ok (.iload_n 1, 1) := by decide +kernel
theorem dX10_life_8 : decode cX10_life 8 = .ok (.invokevirtual 98, 3) := by decide +kernel
theorem dX10_life_11 : decode cX10_life 11 = .ok (.ifCond .eq 13, 3) := by decide +kernel
theorem dX10_life_14 : decode cX10_life 14 = .ok (.iload_n 2, 1) := by decide +kernel
theorem dX10_life_15 : decode cX10_life 15 = .ok (.iconst 0, 1) := by decide +kernel
theorem dX10_life_16 : decode cX10_life 16 = .ok (.bipush 99, 2) := by decide +kernel
theorem dX10_life_18 : decode cX10_life 18 = .ok (.invokestatic 81, 3) := by decide +kernel
theorem dX10_life_21 : decode cX10_life 21 = .ok (.ifCond .ne 6, 3) := by decide +kernel
theorem dX10_life_24 : decode cX10_life 24 = .ok (.bipush (-2), 2) := by decide +kernel
theorem dX10_life_26 : decode cX10_life 26 = .ok (.ireturn, 1) := by decide +kernel
theorem dX10_life_27 : decode cX10_life 27 = .ok (.aload_n 0, 1) := by decide +kernel
theorem dX10_life_28 : decode cX10_life 28 = .ok (.getfield 49, 3) := by decide +kernel
theorem dX10_life_31 : decode cX10_life 31 = .ok (.iload_n 1, 1) := by decide +kernel
theorem dX10_life_32 : decode cX10_life 32 = .ok (.iconst (-1), 1) := by decide +kernel
theorem dX10_life_33 : decode cX10_life 33 = .ok (.iconst (-1), 1) := by decide +kernel
theorem dX10_life_34 : decode cX10_life 34 = .ok (.invokevirtual 161, 3) := by decide +kernel
theorem dX10_life_37 : decode cX10_life 37 = .ok (.iconst 0, 1) := by decide +kernel
theorem dX10_life_38 : decode cX10_life 38 = .ok (.istore_n 3, 1) := by decide +kernel
theorem dX10_life_39 : decode cX10_life 39 = .ok (.iload_n 2, 1) := by decide +kernel
theorem dX10_life_40 : decode cX10_life 40 = .ok (.istore 4, 2) := by decide +kernel
theorem dX10_life_42 : decode cX10_life 42 = .ok (.iload 4, 2) := by decide +kernel
theorem dX10_life_44 : decode cX10_life 44 = .ok (.bipush 99, 2) := by decide +kernel
theorem dX10_life_46 : decode cX10_life 46 = .ok (.if_icmp .gt 24, 3) := by decide +kernel
theorem dX10_life_49 : decode cX10_life 49 = .ok (.aload_n 0, 1) := by decide +kernel
theorem dX10_life_50 : decode cX10_life 50 = .ok (.getfield 49, 3) := by decide +kernel
theorem dX10_life_53 : decode cX10_life 53 = .ok (.iload 4, 2) := by decide +kernel
theorem dX10_life_55 : decode cX10_life 55 = .ok (.invokevirtual 164, 3) := by decide +kernel
theorem dX10_life_58 : decode cX10_life 58 = .ok (.ifCond .eq 12, 3) := by decide +kernel
theorem dX10_life_61 : decode cX10_life 61 = .ok (.iinc 3 1, 3) := by decide +kernel
theorem dX10_life_64 : decode cX10_life 64 = .ok (.iinc 4 1, 3) := by decide +kernel
theorem dX10_life_67 : decode cX10_life 67 = .ok (.goto (-25), 3) := by decide +kernel
theorem dX10_life_70 : decode cX10_life 70 = .ok (.iload_n 3, 1) := by decide +kernel
theorem dX10_life_71 : decode cX10_life 71 = .ok (.ireturn, 1) := by decide +kernel
theorem dX10_work_0 : decode cX10_work 0 = .ok (.iload_n 1, 1) := by decide +kernel
theorem dX10_work_1 : decode cX10_work 1 = .ok (.ifCond .eq 27, 3) := by decide +kernel
theorem dX10_work_4 : decode cX10_work 4 = .ok (.iload_n 1, 1) := by decide +kernel
theorem dX10_work_5 : decode cX10_work 5 = .ok (.sipush (-500), 3) := by decide +kernel
theorem dX10_work_8 : decode cX10_work 8 = .ok (.sipush 500, 3) := by decide +kernel
theorem dX10_work_11 : decode cX10_work 11 = .ok (.invokestatic 81, 3) := by decide +kernel
theorem dX10_work_14 : decode cX10_work 14 = .ok (.ifCond .eq 14, 3) := by decide +kernel
theorem dX10_work_17 : decode cX10_work 17 = .ok (.iload_n 2, 1) := by decide +kernel
theorem dX10_work_18 : decode cX10_work 18 = .ok (.iconst 1, 1) := by decide +kernel
theorem dX10_work_19 : decode cX10_work 19 = .ok (.sipush 1000, 3) := by decide +kernel
theorem dX10_work_22 : decode cX10_work 22 = .ok (.invokestatic 81, 3) := by decide +kernel
theorem dX10_work_25 : decode cX10_work 25 = .ok (.ifCond .ne 6, 3) := by decide +kernel
theorem dX10_work_28 : decode cX10_work 28 = .ok (.bipush (-2), 2) := by decide +kernel
theorem dX10_work_30 : decode cX10_work 30 = .ok (.ireturn, 1) := by decide +kernel
theorem dX10_work_31 : decode cX10_work 31 = .ok (.iload_n 3, 1) := by decide +kernel
theorem dX10_work_32 : decode cX10_work 32 = .ok (.iconst 1, 1) := by decide +kernel
theorem dX10_work_33 : decode cX10_work 33 = .ok (.sipush 3000, 3) := by decide +kernel
theorem dX10_work_36 : decode cX10_work 36 = .ok (.invokestatic 81, 3) := by decide +kernel
theorem dX10_work_39 : decode cX10_work 39 = .ok (.ifCond .eq 15, 3) := by decide +kernel
theorem dX10_work_42 : decode cX10_work 42 = .ok (.iload 4, 2) := by decide +kernel
theorem dX10_work_44 : decode cX10_work 44 = .ok (.iload_n 3, 1) := by decide +kernel
theorem dX10_work_45 : decode cX10_work 45 = .ok (.sipush 3000, 3) := by decide +kernel
theorem dX10_work_48 : decode cX10_work 48 = .ok (.invokestatic 81, 3) := by decide +kernel
theorem dX10_work_51 : decode cX10_work 51 = .ok (.ifCond .ne 6, 3) := by decide +kernel
theorem dX10_work_54 : decode cX10_work 54 = .ok (.bipush (-2), 2) := by decide +kernel
theorem dX10_work_56 : decode cX10_work 56 = .ok (.ireturn, 1) := by decide +kernel
theorem dX10_work_57 : decode cX10_work 57 = .ok (.aload_n 0, 1) := by decide +kernel
theorem dX10_work_58 : decode cX10_work 58 = .ok (.getfield 10, 3) := by decide +kernel
theorem dX10_work_61 : decode cX10_work 61 = .ok (.getfield 182, 3) := by decide +kernel
theorem dX10_work_64 : decode cX10_work 64 = .ok (.iload_n 1, 1) := by decide +kernel
theorem dX10_work_65 : decode cX10_work 65 = .ok (.iload_n 2, 1) := by decide +kernel
theorem dX10_work_66 : decode cX10_work 66 = .ok (.iload_n 3, 1) := by decide +kernel
theorem dX10_work_67 : decode cX10_work 67 = .ok (.iload 4, 2) := by decide +kernel
theorem dX10_work_69 : decode cX10_work 69 = .ok (.invokevirtual 89, 3) := by decide +kernel
theorem dX10_work_72 : decode cX10_work 72 = .ok (.ireturn, 1) := by decide +kernel
theorem dX10_way_0 : decode cX10_way 0 = .ok (.iload_n 1, 1) := by decide +kernel
theorem dX10_way_1 : decode cX10_way 1 = .ok (.iconst 1, 1) := by decide +kernel
theorem dX10_way_2 : decode cX10_way 2 = .ok (.sipush 3000, 3) := by decide +kernel
theorem dX10_way_5 : decode cX10_way 5 = .ok (.invokestatic 81, 3) := by decide +kernel
theorem dX10_way_8 : decode cX10_way 8 = .ok (.ifCond .eq 14, 3) := by decide +kernel
theorem dX10_way_11 : decode cX10_way 11 = .ok (.iload_n 2, 1) := by decide +kernel
theorem dX10_way_12 : decode cX10_way 12 = .ok (.iconst 1, 1) := by decide +kernel
theorem dX10_way_13 : decode cX10_way 13 = .ok (.sipush 3000, 3) := by decide +kernel
theorem dX10_way_16 : decode cX10_way 16 = .ok (.invokestatic 81, 3) := by decide +kernel
theorem dX10_way_19 : decode cX10_way 19 = .ok (.ifCond .ne 6, 3) := by decide +kernel
theorem dX10_way_22 : decode cX10_way 22 = .ok (.bipush (-10), 2) := by decide +kernel
theorem dX10_way_24 : decode cX10_way 24 = .ok (.ireturn, 1) := by decide +kernel
theorem dX10_way_25 : decode cX10_way 25 = .ok (.iload_n 3, 1) := by decide +kernel
theorem dX10_way_26 : decode cX10_way 26 = .ok (.iload_n 2, 1) := by decide +kernel
theorem dX10_way_27 : decode cX10_way 27 = .ok (.sipush 3000, 3) := by decide +kernel
theorem dX10_way_30 : decode cX10_way 30 = .ok (.invokestatic 81, 3) := by decide +kernel
theorem dX10_way_33 : decode cX10_way 33 = .ok (.ifCond .eq 10, 3) := by decide +kernel
theorem dX10_way_36 : decode cX10_way 36 = .ok (.iload 4, 2) := by decide +kernel
theorem dX10_way_38 : decode cX10_way 38 = .ok (.bipush (-2), 2) := by decide +kernel
theorem dX10_way_40 : decode cX10_way 40 = .ok (.if_icmp .ge 6, 3) := by decide +kernel
theorem dX10_way_43 : decode cX10_way 43 = .ok (.bipush (-10), 2) := by decide +kernel
theorem dX10_way_45 : decode cX10_way 45 = .ok (.ireturn, 1) := by decide +kernel
theorem dX10_way_46 : decode cX10_way 46 = .ok (.aload_n 0, 1) := by decide +kernel
theorem dX10_way_47 : decode cX10_way 47 = .ok (.getfield 56, 3) := by decide +kernel
theorem dX10_way_50 : decode cX10_way 50 = .ok (.iload_n 1, 1) := by decide +kernel
theorem dX10_way_51 : decode cX10_way 51 = .ok (.iload_n 2, 1) := by decide +kernel
theorem dX10_way_52 : decode cX10_way 52 = .ok (.iload_n 3, 1) := by decide +kernel
theorem dX10_way_53 : decode cX10_way 53 = .ok (.invokevirtual 185, 3) := by decide +kernel
theorem dX10_way_56 : decode cX10_way 56 = .ok (.aload_n 0, 1) := by decide +kernel
theorem dX10_way_57 : decode cX10_way 57 = .ok (.getfield 56, 3) := by decide +kernel
theorem dX10_way_60 : decode cX10_way 60 = .ok (.getfield 187, 3) := by decide +kernel
theorem dX10_way_63 : decode cX10_way 63 = .ok (.iconst (-1), 1) := by decide +kernel
theorem dX10_way_64 : decode cX10_way 64 = .ok (.if_icmp .ne 6, 3) := by decide +kernel
theorem dX10_way_67 : decode cX10_way 67 = .ok (.bipush (-5), 2) := by decide +kernel
theorem dX10_way_69 : decode cX10_way 69 = .ok (.ireturn, 1) := by decide +kernel
theorem dX10_way_70 : decode cX10_way 70 = .ok (.iload 4, 2) := by decide +kernel
theorem dX10_way_72 : decode cX10_way 72 = .ok (.iconst (-1), 1) := by decide +kernel
theorem dX10_way_73 : decode cX10_way 73 = .ok (.if_icmp .ne 11, 3) := by decide +kernel
theorem dX10_way_76 : decode cX10_way 76 = .ok (.aload_n 0, 1) := by decide +kernel
theorem dX10_way_77 : decode cX10_way 77 = .ok (.getfield 56, 3) := by decide +kernel
theorem dX10_way_80 : decode cX10_way 80 = .ok (.getfield 187, 3) := by decide +kernel
theorem dX10_way_83 : decode cX10_way 83 = .ok (.ireturn, 1) := by decide +kernel
theorem dX10_way_84 : decode cX10_way 84 = .ok (.iload 4, 2) := by decide +kernel
theorem dX10_way_86 : decode cX10_way 86 = .ok (.bipush (-2), 2) := by decide +kernel
theorem dX10_way_88 : decode cX10_way 88 = .ok (.if_icmp .ne 11, 3) := by decide +kernel
theorem dX10_way_91 : decode cX10_way 91 = .ok (.aload_n 0, 1) := by decide +kernel
theorem dX10_way_92 : decode cX10_way 92 = .ok (.getfield 56, 3) := by decide +kernel
theorem dX10_way_95 : decode cX10_way 95 = .ok (.getfield 190, 3) := by decide +kernel
theorem dX10_way_98 : decode cX10_way 98 = .ok (.ireturn, 1) := by decide +kernel
theorem dX10_way_99 : decode cX10_way 99 = .ok (.aload_n 0, 1) := by decide +kernel
theorem dX10_way_100 : decode cX10_way 100 = .ok (.getfield 56, 3) := by decide +kernel
theorem dX10_way_103 : decode cX10_way 103 = .ok (.iload 4, 2) := by decide +kernel
theorem dX10_way_105 : decode cX10_way 105 = .ok (.invokevirtual 193, 3) := by decide +kernel
theorem dX10_way_108 : decode cX10_way 108 = .ok (.ireturn, 1) := by decide +kernel
theorem dX10_machine_0 : decode cX10_machine 0 = .ok (.iload_n 1, 1) := by decide +kernel
theorem dX10_machine_1 : decode cX10_machine 1 = .ok (.iconst 0, 1) := by decide +kernel
theorem dX10_machine_2 : decode cX10_machine 2 = .ok (.iconst 3, 1) := by decide +kernel
theorem dX10_machine_3 : decode cX10_machine 3 = .ok (.invokestatic 81, 3) := by decide +kernel
theorem dX10_machine_6 : decode cX10_machine 6 = .ok (.ifCond .ne 6, 3) := by decide +kernel
theorem dX10_machine_9 : decode cX10_machine 9 = .ok (.bipush (-2), 2) := by decide +kernel
theorem dX10_machine_11 : decode cX10_machine 11 = .ok (.ireturn, 1) := by decide +kernel
theorem dX10_machine_12 : decode cX10_machine 12 = .ok (.aload_n 0, 1) := by decide +kernel
theorem dX10_machine_13 : decode cX10_machine 13 = .ok (.getfield 10, 3) := by decide +kernel
theorem dX10_machine_16 : decode cX10_machine 16 = .ok (.getfield 196, 3) := by decide +kernel
theorem dX10_machine_19 : decode cX10_machine 19 = .ok (.iload_n 1, 1) := by decide +kernel
theorem dX10_machine_20 : decode cX10_machine 20 = .ok (.iconst 0, 1) := by decide +kernel
theorem dX10_machine_21 : decode cX10_machine 21 = .ok (.iconst 0, 1) := by decide +kernel
theorem dX10_machine_22 : decode cX10_machine 22 = .ok (.iconst 0, 1) := by decide +kernel
theorem dX10_machine_23 : decode cX10_machine 23 = .ok (.invokevirtual 89, 3) := by decide +kernel
theorem dX10_machine_26 : decode cX10_machine 26 = .ok (.ireturn, 1) := by decide +kernel
theorem dX10_spare_0 : decode cX10_spare 0 = .ok (.iload_n 1, 1) := by decide +kernel
theorem dX10_spare_1 : decode cX10_spare 1 = .ok (.iconst 0, 1) := by decide +kernel
theorem dX10_spare_2 : decode cX10_spare 2 = .ok (.iconst 3, 1) := by decide +kernel
theorem dX10_spare_3 : decode cX10_spare 3 = .ok (.invokestatic 81, 3) := by decide +kernel
theorem dX10_spare_6 : decode cX10_spare 6 = .ok (.ifCond .eq 22, 3) := by decide +kernel
theorem dX10_spare_9 : decode cX10_spare 9 = .ok (.iload_n 2, 1) := by decide +kernel
theorem dX10_spare_10 : decode cX10_spare 10 = .ok (.iconst 1, 1) := by decide +kernel
theorem dX10_spare_11 : decode cX10_spare 11 = .ok (.bipush 50, 2) := by decide +kernel
theorem dX10_spare_13 : decode cX10_spare 13 = .ok (.invokestatic 81, 3) := by decide +kernel
theorem dX10_spare_16 : decode cX10_spare 16 = .ok (.ifCond .eq 12, 3) := by decide +kernel
theorem dX10_spare_19 : decode cX10_spare 19 = .ok (.iload_n 3, 1) := by decide +kernel
theorem dX10_spare_20 : decode cX10_spare 20 = .ok (.iconst (-1), 1) := by decide +kernel
theorem dX10_spare_21 : decode cX10_spare 21 = .ok (.iconst 3, 1) := by decide +kernel
theorem dX10_spare_22 : decode cX10_spare 22 = .ok (.invokestatic 81, 3) := by decide +kernel
theorem dX10_spare_25 : decode cX10_spare 25 = .ok (.ifCond .ne 6, 3) := by decide +kernel
theorem dX10_spare_28 : decode cX10_spare 28 = .ok (.bipush (-2), 2) := by decide +kernel
theorem dX10_spare_30 : decode cX10_spare 30 = .ok (.ireturn, 1) := by decide +kernel
theorem dX10_spare_31 : decode cX10_spare 31 = .ok (.aload_n 0, 1) := by decide +kernel
theorem dX10_spare_32 : decode cX10_spare 32 = .ok (.getfield 10, 3) := by decide +kernel
theorem dX10_spare_35 : decode cX10_spare 35 = .ok (.getfield 199, 3) := by decide +kernel
theorem dX10_spare_38 : decode cX10_spare 38 = .ok (.iload_n 1, 1) := by decide +kernel
theorem dX10_spare_39 : decode cX10_spare 39 = .ok (.iload_n 2, 1) := by decide +kernel
theorem dX10_spare_40 : decode cX10_spare 40 = .ok (.iload_n 3, 1) := by decide +kernel
theorem dX10_spare_41 : decode cX10_spare 41 = .ok (.iconst 0, 1) := by decide +kernel
theorem dX10_spare_42 : decode cX10_spare 42 = .ok (.invokevirtual 89, 3) := by decide +kernel
theorem dX10_spare_45 : decode cX10_spare 45 = .ok (.ireturn, 1) := by decide +kernel
theorem dX10_scrap_0 : decode cX10_scrap 0 = .ok (.aload_n 0, 1) := by decide +kernel
theorem dX10_scrap_1 : decode cX10_scrap 1 = .ok (.getfield 10, 3) := by decide +kernel
theorem dX10_scrap_4 : decode cX10_scrap 4 = .ok (.getfield 196, 3) := by decide +kernel
theorem dX10_scrap_7 : decode cX10_scrap 7 = .ok (.invokevirtual 115, 3) := by decide +kernel
theorem dX10_scrap_10 : decode cX10_scrap 10 = .ok (.aload_n 0, 1) := by decide +kernel
theorem dX10_scrap_11 : decode cX10_scrap 11 = .ok (.getfield 10, 3) := by decide +kernel
theorem dX10_scrap_14 : decode cX10_scrap 14 = .ok (.getfield 199, 3) := by decide +kernel
theorem dX10_scrap_17 : decode cX10_scrap 17 = .ok (.invokevirtual 115, 3) := by decide +kernel
theorem dX10_scrap_20 : decode cX10_scrap 20 = .ok (.iadd, 1) := by decide +kernel
theorem dX10_scrap_21 : decode cX10_scrap 21 = .ok (.istore_n 1, 1) := by decide +kernel
theorem dX10_scrap_22 : decode cX10_scrap 22 = .ok (.aload_n 0, 1) := by decide +kernel
theorem dX10_scrap_23 : decode cX10_scrap 23 = .ok (.getfield 10, 3) := by decide +kernel
theorem dX10_scrap_26 : decode cX10_scrap 26 = .ok (.getfield 196, 3) := by decide +kernel
theorem dX10_scrap_29 : decode cX10_scrap 29 = .ok (.invokevirtual 119, 3) := by decide +kernel
theorem dX10_scrap_32 : decode cX10_scrap 32 = .ok (.aload_n 0, 1) := by decide +kernel
theorem dX10_scrap_33 : decode cX10_scrap 33 = .ok (.getfield 10, 3) := by decide +kernel
theorem dX10_scrap_36 : decode cX10_scrap 36 = .ok (.getfield 199, 3) := by decide +kernel
theorem dX10_scrap_39 : decode cX10_scrap 39 = .ok (.invokevirtual 119, 3) := by decide +kernel
theorem dX10_scrap_42 : decode cX10_scrap 42 = .ok (.iload_n 1, 1) := by decide +kernel
theorem dX10_scrap_43 : decode cX10_scrap 43 = .ok (.ireturn, 1) := by decide +kernel
theorem dX10_taking_0 : decode cX10_taking 0 = .ok (.iload_n 1, 1) := by decide +kernel
theorem dX10_taking_1 : decode cX10_taking 1 = .ok (.iconst (-1), 1) := by decide +kernel
theorem dX10_taking_2 : decode cX10_taking 2 = .ok (.if_icmp .eq 20, 3) := by decide +kernel
theorem dX10_taking_5 : decode cX10_taking 5 = .ok (.aload_n 0, 1) := by decide +kernel
theorem dX10_taking_6 : decode cX10_taking 6 = .ok (.getfield 10, 3) := by decide +kernel
theorem dX10_taking_9 : decode cX10_taking 9 = .ok (.getfield 196, 3) := by decide +kernel
theorem dX10_taking_12 : decode cX10_taking 12 = .ok (.iload_n 1, 1) := by decide +kernel
theorem dX10_taking_13 : decode cX10_taking 13 = .ok (.invokevirtual 98, 3) := by decide +kernel
theorem dX10_taking_16 : decode cX10_taking 16 = .ok (.ifCond .ne 6, 3) := by decide +kernel
theorem dX10_taking_19 : decode cX10_taking 19 = .ok (.bipush (-10), 2) := by decide +kernel
theorem dX10_taking_21 : decode cX10_taking 21 = .ok (.ireturn, 1) := by decide +kernel
theorem dX10_taking_22 : decode cX10_taking 22 = .ok (.aload_n 0, 1) := by decide +kernel
theorem dX10_taking_23 : decode cX10_taking 23 = .ok (.getfield 63, 3) := by decide +kernel
theorem dX10_taking_26 : decode cX10_taking 26 = .ok (.invokevirtual 202, 3) := by decide +kernel
theorem dX10_taking_29 : decode cX10_taking 29 = .ok (.iload_n 1, 1) := by decide +kernel
theorem dX10_taking_30 : decode cX10_taking 30 = .ok (.iconst (-1), 1) := by decide +kernel
theorem dX10_taking_31 : decode cX10_taking 31 = .ok (.if_icmp .ne 13, 3) := by decide +kernel
theorem dX10_taking_34 : decode cX10_taking 34 = .ok (.aload_n 0, 1) := by decide +kernel
theorem dX10_taking_35 : decode cX10_taking 35 = .ok (.getfield 63, 3) := by decide +kernel
theorem dX10_taking_38 : decode cX10_taking 38 = .ok (.invokevirtual 204, 3) := by decide +kernel
theorem dX10_taking_41 : decode cX10_taking 41 = .ok (.goto 11, 3) := by decide +kernel
theorem dX10_taking_44 : decode cX10_taking 44 = .ok (.aload_n 0, 1) := by decide +kernel
theorem dX10_taking_45 : decode cX10_taking 45 = .ok (.getfield 63, 3) := by decide +kernel
theorem dX10_taking_48 : decode cX10_taking 48 = .ok (.iload_n 1, 1) := by decide +kernel
theorem dX10_taking_49 : decode cX10_taking 49 = .ok (.invokevirtual 207, 3) := by decide +kernel
theorem dX10_taking_52 : decode cX10_taking 52 = .ok (.ireturn, 1) := by decide +kernel
theorem dX10_odds_0 : decode cX10_odds 0 = .ok (.iload_n 1, 1) := by decide +kernel
theorem dX10_odds_1 : decode cX10_odds 1 = .ok (.iconst 0, 1) := by decide +kernel
theorem dX10_odds_2 : decode cX10_odds 2 = .ok (.bipush 9, 2) := by decide +kernel
theorem dX10_odds_4 : decode cX10_odds 4 = .ok (.invokestatic 81, 3) := by decide +kernel
theorem dX10_odds_7 : decode cX10_odds 7 = .ok (.ifCond .eq 13, 3) := by decide +kernel
theorem dX10_odds_10 : decode cX10_odds 10 = .ok (.iload_n 2, 1) := by decide +kernel
theorem dX10_odds_11 : decode cX10_odds 11 = .ok (.iconst 0, 1) := by decide +kernel
theorem dX10_odds_12 : decode cX10_odds 12 = .ok (.bipush 9, 2) := by decide +kernel
theorem dX10_odds_14 : decode cX10_odds 14 = .ok (.invokestatic 81, 3) := by decide +kernel
theorem dX10_odds_17 : decode cX10_odds 17 = .ok (.ifCond .ne 6, 3) := by decide +kernel
theorem dX10_odds_20 : decode cX10_odds 20 = .ok (.bipush (-2), 2) := by decide +kernel
theorem dX10_odds_22 : decode cX10_odds 22 = .ok (.ireturn, 1) := by decide +kernel
theorem dX10_odds_23 : decode cX10_odds 23 = .ok (.aload_n 0, 1) := by decide +kernel
theorem dX10_odds_24 : decode cX10_odds 24 = .ok (.getfield 10, 3) := by decide +kernel
theorem dX10_odds_27 : decode cX10_odds 27 = .ok (.getfield 210, 3) := by decide +kernel
theorem dX10_odds_30 : decode cX10_odds 30 = .ok (.iconst 0, 1) := by decide +kernel
theorem dX10_odds_31 : decode cX10_odds 31 = .ok (.iconst 0, 1) := by decide +kernel
theorem dX10_odds_32 : decode cX10_odds 32 = .ok (.iload_n 1, 1) := by decide +kernel
theorem dX10_odds_33 : decode cX10_odds 33 = .ok (.invokevirtual 105, 3) := by decide +kernel
theorem dX10_odds_36 : decode cX10_odds 36 = .ok (.aload_n 0, 1) := by decide +kernel
theorem dX10_odds_37 : decode cX10_odds 37 = .ok (.getfield 10, 3) := by decide +kernel
theorem dX10_odds_40 : decode cX10_odds 40 = .ok (.getfield 210, 3) := by decide +kernel
theorem dX10_odds_43 : decode cX10_odds 43 = .ok (.iconst 0, 1) := by decide +kernel
theorem dX10_odds_44 : decode cX10_odds 44 = .ok (.iconst 1, 1) := by decide +kernel
theorem dX10_odds_45 : decode cX10_odds 45 = .ok (.iload_n 2, 1) := by decide +kernel
theorem dX10_odds_46 : decode cX10_odds 46 = .ok (.invokevirtual 105, 3) := by decide +kernel
theorem dX10_odds_49 : decode cX10_odds 49 = .ok (.iconst 1, 1) := by decide +kernel
theorem dX10_odds_50 : decode cX10_odds 50 = .ok (.ireturn, 1) := by decide +kernel
theorem dX10_lasts_0 : decode cX10_lasts 0 = .ok (.aload_n 0, 1) := by decide +kernel
theorem dX10_lasts_1 : decode cX10_lasts 1 = .ok (.getfield 10, 3) := by decide +kernel
theorem dX10_lasts_4 : decode cX10_lasts 4 = .ok (.getfield 85, 3) := by decide +kernel
theorem dX10_lasts_7 : decode cX10_lasts 7 = .ok (.iload_n 1, 1) := by decide +kernel
theorem dX10_lasts_8 : decode cX10_lasts 8 = .ok (.invokevirtual 98, 3) := by decide +kernel
theorem dX10_lasts_11 : decode cX10_lasts 11 = .ok (.ifCond .eq 13, 3) := by decide +kernel
theorem dX10_lasts_14 : decode cX10_lasts 14 = .ok (.iload_n 2, 1) := by decide +kernel
theorem dX10_lasts_15 : decode cX10_lasts 15 = .ok (.iconst 0, 1) := by decide +kernel
theorem dX10_lasts_16 : decode cX10_lasts 16 = .ok (.bipush 60, 2) := by decide +kernel
theorem dX10_lasts_18 : decode cX10_lasts 18 = .ok (.invokestatic 81, 3) := by decide +kernel
theorem dX10_lasts_21 : decode cX10_lasts 21 = .ok (.ifCond .ne 6, 3) := by decide +kernel
theorem dX10_lasts_24 : decode cX10_lasts 24 = .ok (.bipush (-2), 2) := by decide +kernel
theorem dX10_lasts_26 : decode cX10_lasts 26 = .ok (.ireturn, 1) := by decide +kernel
theorem dX10_lasts_27 : decode cX10_lasts 27 = .ok (.aload_n 0, 1) := by decide +kernel
theorem dX10_lasts_28 : decode cX10_lasts 28 = .ok (.getfield 70, 3) := by decide +kernel
theorem dX10_lasts_31 : decode cX10_lasts 31 = .ok (.iload_n 1, 1) := by decide +kernel
theorem dX10_lasts_32 : decode cX10_lasts 32 = .ok (.iload_n 2, 1) := by decide +kernel
theorem dX10_lasts_33 : decode cX10_lasts 33 = .ok (.invokevirtual 213, 3) := by decide +kernel
theorem dX10_lasts_36 : decode cX10_lasts 36 = .ok (.iconst 1, 1) := by decide +kernel
theorem dX10_lasts_37 : decode cX10_lasts 37 = .ok (.ireturn, 1) := by decide +kernel
theorem dX10_half_0 : decode cX10_half 0 = .ok (.aload_n 0, 1) := by decide +kernel
theorem dX10_half_1 : decode cX10_half 1 = .ok (.getfield 10, 3) := by decide +kernel
theorem dX10_half_4 : decode cX10_half 4 = .ok (.getfield 85, 3) := by decide +kernel
theorem dX10_half_7 : decode cX10_half 7 = .ok (.iload_n 1, 1) := by decide +kernel
theorem dX10_half_8 : decode cX10_half 8 = .ok (.invokevirtual 98, 3) := by decide +kernel
theorem dX10_half_11 : decode cX10_half 11 = .ok (.ifCond .ne 6, 3) := by decide +kernel
theorem dX10_half_14 : decode cX10_half 14 = .ok (.bipush (-2), 2) := by decide +kernel
theorem dX10_half_16 : decode cX10_half 16 = .ok (.ireturn, 1) := by decide +kernel
theorem dX10_half_17 : decode cX10_half 17 = .ok (.aload_n 0, 1) := by decide +kernel
theorem dX10_half_18 : decode cX10_half 18 = .ok (.getfield 70, 3) := by decide +kernel
theorem dX10_half_21 : decode cX10_half 21 = .ok (.iload_n 1, 1) := by decide +kernel
theorem dX10_half_22 : decode cX10_half 22 = .ok (.invokevirtual 217, 3) := by decide +kernel
theorem dX10_half_25 : decode cX10_half 25 = .ok (.ireturn, 1) := by decide +kernel
theorem dX10_limbs_0 : decode cX10_limbs 0 = .ok (.iload_n 1, 1) := by decide +kernel
theorem dX10_limbs_1 : decode cX10_limbs 1 = .ok (.iconst 0, 1) := by decide +kernel
theorem dX10_limbs_2 : decode cX10_limbs 2 = .ok (.iconst 1, 1) := by decide +kernel
theorem dX10_limbs_3 : decode cX10_limbs 3 = .ok (.invokestatic 81, 3) := by decide +kernel
theorem dX10_limbs_6 : decode cX10_limbs 6 = .ok (.ifCond .ne 6, 3) := by decide +kernel
theorem dX10_limbs_9 : decode cX10_limbs 9 = .ok (.bipush (-2), 2) := by decide +kernel
theorem dX10_limbs_11 : decode cX10_limbs 11 = .ok (.ireturn, 1) := by decide +kernel
theorem dX10_limbs_12 : decode cX10_limbs 12 = .ok (.aload_n 0, 1) := by decide +kernel
theorem dX10_limbs_13 : decode cX10_limbs 13 = .ok (.getfield 70, 3) := by decide +kernel
theorem dX10_limbs_16 : decode cX10_limbs 16 = .ok (.iload_n 1, 1) := by decide +kernel
theorem dX10_limbs_17 : decode cX10_limbs 17 = .ok (.invokevirtual 220, 3) := by decide +kernel
theorem dX10_limbs_20 : decode cX10_limbs 20 = .ok (.invokevirtual 224, 3) := by decide +kernel
theorem dX10_limbs_23 : decode cX10_limbs 23 = .ok (.ireturn, 1) := by decide +kernel
theorem dX10_limb_0 : decode cX10_limb 0 = .ok (.iload_n 1, 1) := by decide +kernel
theorem dX10_limb_1 : decode cX10_limb 1 = .ok (.iconst 0, 1) := by decide +kernel
theorem dX10_limb_2 : decode cX10_limb 2 = .ok (.iconst 1, 1) := by decide +kernel
theorem dX10_limb_3 : decode cX10_limb 3 = .ok (.invokestatic 81, 3) := by decide +kernel
theorem dX10_limb_6 : decode cX10_limb 6 = .ok (.ifCond .eq 7, 3) := by decide +kernel
theorem dX10_limb_9 : decode cX10_limb 9 = .ok (.iload_n 2, 1) := by decide +kernel
theorem dX10_limb_10 : decode cX10_limb 10 = .ok (.ifCond .ge 6, 3) := by decide +kernel
theorem dX10_limb_13 : decode cX10_limb 13 = .ok (.bipush (-2), 2) := by decide +kernel
theorem dX10_limb_15 : decode cX10_limb 15 = .ok (.ireturn, 1) := by decide +kernel
theorem dX10_limb_16 : decode cX10_limb 16 = .ok (.aload_n 0, 1) := by decide +kernel
theorem dX10_limb_17 : decode cX10_limb 17 = .ok (.getfield 70, 3) := by decide +kernel
theorem dX10_limb_20 : decode cX10_limb 20 = .ok (.iload_n 1, 1) := by decide +kernel
theorem dX10_limb_21 : decode cX10_limb 21 = .ok (.invokevirtual 220, 3) := by decide +kernel
theorem dX10_limb_24 : decode cX10_limb 24 = .ok (.iload_n 2, 1) := by decide +kernel
theorem dX10_limb_25 : decode cX10_limb 25 = .ok (.invokevirtual 227, 3) := by decide +kernel
theorem dX10_limb_28 : decode cX10_limb 28 = .ok (.ireturn, 1) := by decide +kernel
theorem dX10_told_0 : decode cX10_told 0 = .ok (.iload_n 1, 1) := by decide +kernel
theorem dX10_told_1 : decode cX10_told 1 = .ok (.iconst 0, 1) := by decide +kernel
theorem dX10_told_2 : decode cX10_told 2 = .ok (.bipush 100, 2) := by decide +kernel
theorem dX10_told_4 : decode cX10_told 4 = .ok (.invokestatic 81, 3) := by decide +kernel
theorem dX10_told_7 : decode cX10_told 7 = .ok (.ifCond .ne 6, 3) := by decide +kernel
theorem dX10_told_10 : decode cX10_told 10 = .ok (.bipush (-2), 2) := by decide +kernel
theorem dX10_told_12 : decode cX10_told 12 = .ok (.ireturn, 1) := by decide +kernel
theorem dX10_told_13 : decode cX10_told 13 = .ok (.aload_n 0, 1) := by decide +kernel
theorem dX10_told_14 : decode cX10_told 14 = .ok (.getfield 10, 3) := by decide +kernel
theorem dX10_told_17 : decode cX10_told 17 = .ok (.getfield 229, 3) := by decide +kernel
theorem dX10_told_20 : decode cX10_told 20 = .ok (.iload_n 1, 1) := by decide +kernel
theorem dX10_told_21 : decode cX10_told 21 = .ok (.iload_n 2, 1) := by decide +kernel
theorem dX10_told_22 : decode cX10_told 22 = .ok (.ifCond .eq 7, 3) := by decide +kernel
theorem dX10_told_25 : decode cX10_told 25 = .ok (.iconst 1, 1) := by decide +kernel
theorem dX10_told_26 : decode cX10_told 26 = .ok (.goto 4, 3) := by decide +kernel
theorem dX10_told_29 : decode cX10_told 29 = .ok (.iconst 0, 1) := by decide +kernel
theorem dX10_told_30 : decode cX10_told 30 = .ok (.iconst 0, 1) := by decide +kernel
theorem dX10_told_31 : decode cX10_told 31 = .ok (.iconst 0, 1) := by decide +kernel
theorem dX10_told_32 : decode cX10_told 32 = .ok (.invokevirtual 89, 3) := by decide +kernel
theorem dX10_told_35 : decode cX10_told 35 = .ok (.bipush (-4), 2) := by decide +kernel
theorem dX10_told_37 : decode cX10_told 37 = .ok (.if_icmp .ne 6, 3) := by decide +kernel
theorem dX10_told_40 : decode cX10_told 40 = .ok (.bipush (-4), 2) := by decide +kernel
theorem dX10_told_42 : decode cX10_told 42 = .ok (.ireturn, 1) := by decide +kernel
theorem dX10_told_43 : decode cX10_told 43 = .ok (.aload_n 0, 1) := by decide +kernel
theorem dX10_told_44 : decode cX10_told 44 = .ok (.getfield 10, 3) := by decide +kernel
theorem dX10_told_47 : decode cX10_told 47 = .ok (.getfield 229, 3) := by decide +kernel
theorem dX10_told_50 : decode cX10_told 50 = .ok (.invokevirtual 115, 3) := by decide +kernel
theorem dX10_told_53 : decode cX10_told 53 = .ok (.ireturn, 1) := by decide +kernel
theorem dX10_fitted_0 : decode cX10_fitted 0 = .ok (.aload_n 0, 1) := by decide +kernel
theorem dX10_fitted_1 : decode cX10_fitted 1 = .ok (.getfield 70, 3) := by decide +kernel
theorem dX10_fitted_4 : decode cX10_fitted 4 = .ok (.invokevirtual 232, 3) := by decide +kernel
theorem dX10_fitted_7 : decode cX10_fitted 7 = .ok (.ireturn, 1) := by decide +kernel
theorem dX10_bear_0 : decode cX10_bear 0 = .ok (.aload_n 0, 1) := by decide +kernel
theorem dX10_bear_1 : decode cX10_bear 1 = .ok (.getfield 10, 3) := by decide +kernel
theorem dX10_bear_4 : decode cX10_bear 4 = .ok (.getfield 85, 3) := by decide +kernel
theorem dX10_bear_7 : decode cX10_bear 7 = .ok (.iload_n 1, 1) := by decide +kernel
theorem dX10_bear_8 : decode cX10_bear 8 = .ok (.invokevirtual 98, 3) := by decide +kernel
theorem dX10_bear_11 : decode cX10_bear 11 = .ok (.ifCond .eq 22, 3) := by decide +kernel
theorem dX10_bear_14 : decode cX10_bear 14 = .ok (.aload_n 0, 1) := by decide +kernel
theorem dX10_bear_15 : decode cX10_bear 15 = .ok (.getfield 10, 3) := by decide +kernel
theorem dX10_bear_18 : decode cX10_bear 18 = .ok (.getfield 85, 3) := by decide +kernel
theorem dX10_bear_21 : decode cX10_bear 21 = .ok (.iload_n 2, 1) := by decide +kernel
theorem dX10_bear_22 : decode cX10_bear 22 = .ok (.invokevirtual 98, 3) := by decide +kernel
theorem dX10_bear_25 : decode cX10_bear 25 = .ok (.ifCond .eq 8, 3) := by decide +kernel
theorem dX10_bear_28 : decode cX10_bear 28 = .ok (.iload_n 1, 1) := by decide +kernel
theorem dX10_bear_29 : decode cX10_bear 29 = .ok (.iload_n 2, 1) := by decide +kernel
theorem dX10_bear_30 : decode cX10_bear 30 = .ok (.if_icmp .ne 6, 3) := by decide +kernel
theorem dX10_bear_33 : decode cX10_bear 33 = .ok (.bipush (-2), 2) := by decide +kernel
theorem dX10_bear_35 : decode cX10_bear 35 = .ok (.ireturn, 1) := by decide +kernel
theorem dX10_bear_36 : decode cX10_bear 36 = .ok (.aload_n 0, 1) := by decide +kernel
theorem dX10_bear_37 : decode cX10_bear 37 = .ok (.getfield 10, 3) := by decide +kernel
theorem dX10_bear_40 : decode cX10_bear 40 = .ok (.getfield 85, 3) := by decide +kernel
theorem dX10_bear_43 : decode cX10_bear 43 = .ok (.iload_n 2, 1) := by decide +kernel
theorem dX10_bear_44 : decode cX10_bear 44 = .ok (.iconst 4, 1) := by decide +kernel
theorem dX10_bear_45 : decode cX10_bear 45 = .ok (.invokevirtual 132, 3) := by decide +kernel
theorem dX10_bear_48 : decode cX10_bear 48 = .ok (.istore 4, 2) := by decide +kernel
theorem dX10_bear_50 : decode cX10_bear 50 = .ok (.iload 4, 2) := by decide +kernel
theorem dX10_bear_52 : decode cX10_bear 52 = .ok (.iload_n 1, 1) := by decide +kernel
theorem dX10_bear_53 : decode cX10_bear 53 = .ok (.ishr, 1) := by decide +kernel
theorem dX10_bear_54 : decode cX10_bear 54 = .ok (.iconst 1, 1) := by decide +kernel
theorem dX10_bear_55 : decode cX10_bear 55 = .ok (.iand, 1) := by decide +kernel
theorem dX10_bear_56 : decode cX10_bear 56 = .ok (.iconst 1, 1) := by decide +kernel
theorem dX10_bear_57 : decode cX10_bear 57 = .ok (.if_icmp .ne 7, 3) := by decide +kernel
theorem dX10_bear_60 : decode cX10_bear 60 = .ok (.iconst 1, 1) := by decide +kernel
theorem dX10_bear_61 : decode cX10_bear 61 = .ok (.goto 4, 3) := by decide +kernel
theorem dX10_bear_64 : decode cX10_bear 64 = .ok (.iconst 0, 1) := by decide +kernel
theorem dX10_bear_65 : decode cX10_bear 65 = .ok (.iload_n 3, 1) := by decide +kernel
theorem dX10_bear_66 : decode cX10_bear 66 = .ok (.if_icmp .ne 6, 3) := by decide +kernel
theorem dX10_bear_69 : decode cX10_bear 69 = .ok (.bipush (-3), 2) := by decide +kernel
theorem dX10_bear_71 : decode cX10_bear 71 = .ok (.ireturn, 1) := by decide +kernel
theorem dX10_bear_72 : decode cX10_bear 72 = .ok (.aload_n 0, 1) := by decide +kernel
theorem dX10_bear_73 : decode cX10_bear 73 = .ok (.getfield 10, 3) := by decide +kernel
theorem dX10_bear_76 : decode cX10_bear 76 = .ok (.getfield 85, 3) := by decide +kernel
theorem dX10_bear_79 : decode cX10_bear 79 = .ok (.iload_n 2, 1) := by decide +kernel
theorem dX10_bear_80 : decode cX10_bear 80 = .ok (.iconst 4, 1) := by decide +kernel
theorem dX10_bear_81 : decode cX10_bear 81 = .ok (.iload 4, 2) := by decide +kernel
theorem dX10_bear_83 : decode cX10_bear 83 = .ok (.iconst 1, 1) := by decide +kernel
theorem dX10_bear_84 : decode cX10_bear 84 = .ok (.iload_n 1, 1) := by decide +kernel
theorem dX10_bear_85 : decode cX10_bear 85 = .ok (.ishl, 1) := by decide +kernel
theorem dX10_bear_86 : decode cX10_bear 86 = .ok (.ixor, 1) := by decide +kernel
theorem dX10_bear_87 : decode cX10_bear 87 = .ok (.invokevirtual 105, 3) := by decide +kernel
theorem dX10_bear_90 : decode cX10_bear 90 = .ok (.iconst 1, 1) := by decide +kernel
theorem dX10_bear_91 : decode cX10_bear 91 = .ok (.ireturn, 1) := by decide +kernel
theorem dX10_along_0 : decode cX10_along 0 = .ok (.aload_n 0, 1) := by decide +kernel
theorem dX10_along_1 : decode cX10_along 1 = .ok (.getfield 10, 3) := by decide +kernel
theorem dX10_along_4 : decode cX10_along 4 = .ok (.getfield 85, 3) := by decide +kernel
theorem dX10_along_7 : decode cX10_along 7 = .ok (.iload_n 1, 1) := by decide +kernel
theorem dX10_along_8 : decode cX10_along 8 = .ok (.invokevirtual 98, 3) := by decide +kernel
theorem dX10_along_11 : decode cX10_along 11 = .ok (.ifCond .ne 6, 3) := by decide +kernel
theorem dX10_along_14 : decode cX10_along 14 = .ok (.bipush (-2), 2) := by decide +kernel
theorem dX10_along_16 : decode cX10_along 16 = .ok (.ireturn, 1) := by decide +kernel
theorem dX10_along_17 : decode cX10_along 17 = .ok (.aload_n 0, 1) := by decide +kernel
theorem dX10_along_18 : decode cX10_along 18 = .ok (.getfield 70, 3) := by decide +kernel
theorem dX10_along_21 : decode cX10_along 21 = .ok (.iload_n 1, 1) := by decide +kernel
theorem dX10_along_22 : decode cX10_along 22 = .ok (.invokevirtual 235, 3) := by decide +kernel
theorem dX10_along_25 : decode cX10_along 25 = .ok (.ireturn, 1) := by decide +kernel
theorem dX10_hand_0 : decode cX10_hand 0 = .ok (.iload_n 1, 1) := by decide +kernel
theorem dX10_hand_1 : decode cX10_hand 1 = .ok (.iconst 0, 1) := by decide +kernel
theorem dX10_hand_2 : decode cX10_hand 2 = .ok (.bipush 15, 2) := by decide +kernel
theorem dX10_hand_4 : decode cX10_hand 4 = .ok (.invokestatic 81, 3) := by decide +kernel
theorem dX10_hand_7 : decode cX10_hand 7 = .ok (.ifCond .eq 13, 3) := by decide +kernel
theorem dX10_hand_10 : decode cX10_hand 10 = .ok (.iload_n 2, 1) := by decide +kernel
theorem dX10_hand_11 : decode cX10_hand 11 = .ok (.iconst 0, 1) := by decide +kernel
theorem dX10_hand_12 : decode cX10_hand 12 = .ok (.bipush 9, 2) := by decide +kernel
theorem dX10_hand_14 : decode cX10_hand 14 = .ok (.invokestatic 81, 3) := by decide +kernel
theorem dX10_hand_17 : decode cX10_hand 17 = .ok (.ifCond .ne 6, 3) := by decide +kernel
theorem dX10_hand_20 : decode cX10_hand 20 = .ok (.bipush (-2), 2) := by decide +kernel
theorem dX10_hand_22 : decode cX10_hand 22 = .ok (.ireturn, 1) := by decide +kernel
theorem dX10_hand_23 : decode cX10_hand 23 = .ok (.aload_n 0, 1) := by decide +kernel
theorem dX10_hand_24 : decode cX10_hand 24 = .ok (.getfield 10, 3) := by decide +kernel
theorem dX10_hand_27 : decode cX10_hand 27 = .ok (.getfield 238, 3) := by decide +kernel
theorem dX10_hand_30 : decode cX10_hand 30 = .ok (.iload_n 1, 1) := by decide +kernel
theorem dX10_hand_31 : decode cX10_hand 31 = .ok (.iload_n 2, 1) := by decide +kernel
theorem dX10_hand_32 : decode cX10_hand 32 = .ok (.iconst 0, 1) := by decide +kernel
theorem dX10_hand_33 : decode cX10_hand 33 = .ok (.iconst 0, 1) := by decide +kernel
theorem dX10_hand_34 : decode cX10_hand 34 = .ok (.invokevirtual 89, 3) := by decide +kernel
theorem dX10_hand_37 : decode cX10_hand 37 = .ok (.ireturn, 1) := by decide +kernel
theorem dX10_need_0 : decode cX10_need 0 = .ok (.aload_n 0, 1) := by decide +kernel
theorem dX10_need_1 : decode cX10_need 1 = .ok (.getfield 10, 3) := by decide +kernel
theorem dX10_need_4 : decode cX10_need 4 = .ok (.getfield 241, 3) := by decide +kernel
theorem dX10_need_7 : decode cX10_need 7 = .ok (.iload_n 1, 1) := by decide +kernel
theorem dX10_need_8 : decode cX10_need 8 = .ok (.invokevirtual 98, 3) := by decide +kernel
theorem dX10_need_11 : decode cX10_need 11 = .ok (.ifCond .eq 13, 3) := by decide +kernel
theorem dX10_need_14 : decode cX10_need 14 = .ok (.iload_n 2, 1) := by decide +kernel
theorem dX10_need_15 : decode cX10_need 15 = .ok (.iconst 0, 1) := by decide +kernel
theorem dX10_need_16 : decode cX10_need 16 = .ok (.bipush 9, 2) := by decide +kernel
theorem dX10_need_18 : decode cX10_need 18 = .ok (.invokestatic 81, 3) := by decide +kernel
theorem dX10_need_21 : decode cX10_need 21 = .ok (.ifCond .ne 6, 3) := by decide +kernel
theorem dX10_need_24 : decode cX10_need 24 = .ok (.bipush (-2), 2) := by decide +kernel
theorem dX10_need_26 : decode cX10_need 26 = .ok (.ireturn, 1) := by decide +kernel
theorem dX10_need_27 : decode cX10_need 27 = .ok (.aload_n 0, 1) := by decide +kernel
theorem dX10_need_28 : decode cX10_need 28 = .ok (.getfield 10, 3) := by decide +kernel
theorem dX10_need_31 : decode cX10_need 31 = .ok (.getfield 241, 3) := by decide +kernel
theorem dX10_need_34 : decode cX10_need 34 = .ok (.iload_n 1, 1) := by decide +kernel
theorem dX10_need_35 : decode cX10_need 35 = .ok (.iconst 0, 1) := by decide +kernel
theorem dX10_need_36 : decode cX10_need 36 = .ok (.invokevirtual 132, 3) := by decide +kernel
theorem dX10_need_39 : decode cX10_need 39 = .ok (.istore_n 3, 1) := by decide +kernel
theorem dX10_need_40 : decode cX10_need 40 = .ok (.aload_n 0, 1) := by decide +kernel
theorem dX10_need_41 : decode cX10_need 41 = .ok (.getfield 10, 3) := by decide +kernel
theorem dX10_need_44 : decode cX10_need 44 = .ok (.getfield 241, 3) := by decide +kernel
theorem dX10_need_47 : decode cX10_need 47 = .ok (.iload_n 1, 1) := by decide +kernel
theorem dX10_need_48 : decode cX10_need 48 = .ok (.iconst 0, 1) := by decide +kernel
theorem dX10_need_49 : decode cX10_need 49 = .ok (.iload_n 2, 1) := by decide +kernel
theorem dX10_need_50 : decode cX10_need 50 = .ok (.invokevirtual 105, 3) := by decide +kernel
theorem dX10_need_53 : decode cX10_need 53 = .ok (.iload_n 3, 1) := by decide +kernel
theorem dX10_need_54 : decode cX10_need 54 = .ok (.ireturn, 1) := by decide +kernel
theorem dX10_plan_0 : decode cX10_plan 0 = .ok (.iload_n 1, 1) := by decide +kernel
theorem dX10_plan_1 : decode cX10_plan 1 = .ok (.iconst 1, 1) := by decide +kernel
theorem dX10_plan_2 : decode cX10_plan 2 = .ok (.bipush 8, 2) := by decide +kernel
theorem dX10_plan_4 : decode cX10_plan 4 = .ok (.invokestatic 81, 3) := by decide +kernel
theorem dX10_plan_7 : decode cX10_plan 7 = .ok (.ifCond .eq 14, 3) := by decide +kernel
theorem dX10_plan_10 : decode cX10_plan 10 = .ok (.iload_n 2, 1) := by decide +kernel
theorem dX10_plan_11 : decode cX10_plan 11 = .ok (.iconst (-1), 1) := by decide +kernel
theorem dX10_plan_12 : decode cX10_plan 12 = .ok (.iload_n 1, 1) := by decide +kernel
theorem dX10_plan_13 : decode cX10_plan 13 = .ok (.iconst 1, 1) := by decide +kernel
theorem dX10_plan_14 : decode cX10_plan 14 = .ok (.isub, 1) := by decide +kernel
theorem dX10_plan_15 : decode cX10_plan 15 = .ok (.invokestatic 81, 3) := by decide +kernel
theorem dX10_plan_18 : decode cX10_plan 18 = .ok (.ifCond .ne 6, 3) := by decide +kernel
theorem dX10_plan_21 : decode cX10_plan 21 = .ok (.bipush (-10), 2) := by decide +kernel
theorem dX10_plan_23 : decode cX10_plan 23 = .ok (.ireturn, 1) := by decide +kernel
theorem dX10_plan_24 : decode cX10_plan 24 = .ok (.aload_n 0, 1) := by decide +kernel
theorem dX10_plan_25 : decode cX10_plan 25 = .ok (.getfield 77, 3) := by decide +kernel
theorem dX10_plan_28 : decode cX10_plan 28 = .ok (.iload_n 1, 1) := by decide +kernel
theorem dX10_plan_29 : decode cX10_plan 29 = .ok (.invokevirtual 244, 3) := by decide +kernel
theorem dX10_plan_32 : decode cX10_plan 32 = .ok (.iload_n 2, 1) := by decide +kernel
theorem dX10_plan_33 : decode cX10_plan 33 = .ok (.iconst (-1), 1) := by decide +kernel
theorem dX10_plan_34 : decode cX10_plan 34 = .ok (.if_icmp .ne 11, 3) := by decide +kernel
theorem dX10_plan_37 : decode cX10_plan 37 = .ok (.aload_n 0, 1) := by decide +kernel
theorem dX10_plan_38 : decode cX10_plan 38 = .ok (.getfield 77, 3) := by decide +kernel
theorem dX10_plan_41 : decode cX10_plan 41 = .ok (.invokevirtual 245, 3) := by decide +kernel
theorem dX10_plan_44 : decode cX10_plan 44 = .ok (.ireturn, 1) := by decide +kernel
theorem dX10_plan_45 : decode cX10_plan 45 = .ok (.aload_n 0, 1) := by decide +kernel
theorem dX10_plan_46 : decode cX10_plan 46 = .ok (.getfield 77, 3) := by decide +kernel
theorem dX10_plan_49 : decode cX10_plan 49 = .ok (.iload_n 2, 1) := by decide +kernel
theorem dX10_plan_50 : decode cX10_plan 50 = .ok (.invokevirtual 248, 3) := by decide +kernel
theorem dX10_plan_53 : decode cX10_plan 53 = .ok (.istore_n 3, 1) := by decide +kernel
theorem dX10_plan_54 : decode cX10_plan 54 = .ok (.iload_n 3, 1) := by decide +kernel
theorem dX10_plan_55 : decode cX10_plan 55 = .ok (.iconst (-1), 1) := by decide +kernel
theorem dX10_plan_56 : decode cX10_plan 56 = .ok (.if_icmp .ne 8, 3) := by decide +kernel
theorem dX10_plan_59 : decode cX10_plan 59 = .ok (.bipush (-5), 2) := by decide +kernel
theorem dX10_plan_61 : decode cX10_plan 61 = .ok (.goto 4, 3) := by decide +kernel
theorem dX10_plan_64 : decode cX10_plan 64 = .ok (.iload_n 3, 1) := by decide +kernel
theorem dX10_plan_65 : decode cX10_plan 65 = .ok (.ireturn, 1) := by decide +kernel
theorem dX10_image_0 : decode cX10_image 0 = .ok (.iload_n 1, 1) := by decide +kernel
theorem dX10_image_1 : decode cX10_image 1 = .ok (.iconst 0, 1) := by decide +kernel
theorem dX10_image_2 : decode cX10_image 2 = .ok (.iconst 1, 1) := by decide +kernel
theorem dX10_image_3 : decode cX10_image 3 = .ok (.invokestatic 81, 3) := by decide +kernel
theorem dX10_image_6 : decode cX10_image 6 = .ok (.ifCond .ne 6, 3) := by decide +kernel
theorem dX10_image_9 : decode cX10_image 9 = .ok (.bipush (-2), 2) := by decide +kernel
theorem dX10_image_11 : decode cX10_image 11 = .ok (.ireturn, 1) := by decide +kernel
theorem dX10_image_12 : decode cX10_image 12 = .ok (.aload_n 0, 1) := by decide +kernel
theorem dX10_image_13 : decode cX10_image 13 = .ok (.iload_n 1, 1) := by decide +kernel
theorem dX10_image_14 : decode cX10_image 14 = .ok (.invokevirtual 251, 3) := by decide +kernel
theorem dX10_image_17 : decode cX10_image 17 = .ok (.aload_n 0, 1) := by decide +kernel
theorem dX10_image_18 : decode cX10_image 18 = .ok (.getfield 10, 3) := by decide +kernel
theorem dX10_image_21 : decode cX10_image 21 = .ok (.invokevirtual 255, 3) := by decide +kernel
theorem dX10_image_24 : decode cX10_image 24 = .ok (.aload_n 0, 1) := by decide +kernel
theorem dX10_image_25 : decode cX10_image 25 = .ok (.getfield 22, 3) := by decide +kernel
theorem dX10_image_28 : decode cX10_image 28 = .ok (.iload_n 1, 1) := by decide +kernel
theorem dX10_image_29 : decode cX10_image 29 = .ok (.iconst 1, 1) := by decide +kernel
theorem dX10_image_30 : decode cX10_image 30 = .ok (.bastore, 1) := by decide +kernel
theorem dX10_image_31 : decode cX10_image 31 = .ok (.iconst 1, 1) := by decide +kernel
theorem dX10_image_32 : decode cX10_image 32 = .ok (.ireturn, 1) := by decide +kernel
theorem dX10_from_0 : decode cX10_from 0 = .ok (.iload_n 1, 1) := by decide +kernel
theorem dX10_from_1 : decode cX10_from 1 = .ok (.iconst 0, 1) := by decide +kernel
theorem dX10_from_2 : decode cX10_from 2 = .ok (.iconst 1, 1) := by decide +kernel
theorem dX10_from_3 : decode cX10_from 3 = .ok (.invokestatic 81, 3) := by decide +kernel
theorem dX10_from_6 : decode cX10_from 6 = .ok (.ifCond .ne 6, 3) := by decide +kernel
theorem dX10_from_9 : decode cX10_from 9 = .ok (.bipush (-2), 2) := by decide +kernel
theorem dX10_from_11 : decode cX10_from 11 = .ok (.ireturn, 1) := by decide +kernel
theorem dX10_from_12 : decode cX10_from 12 = .ok (.aload_n 0, 1) := by decide +kernel
theorem dX10_from_13 : decode cX10_from 13 = .ok (.getfield 22, 3) := by decide +kernel
theorem dX10_from_16 : decode cX10_from 16 = .ok (.iload_n 1, 1) := by decide +kernel
theorem dX10_from_17 : decode cX10_from 17 = .ok (.baload, 1) := by decide +kernel
theorem dX10_from_18 : decode cX10_from 18 = .ok (.ifCond .ne 6, 3) := by decide +kernel
theorem dX10_from_21 : decode cX10_from 21 = .ok (.bipush (-3), 2) := by decide +kernel
theorem dX10_from_23 : decode cX10_from 23 = .ok (.ireturn, 1) := by decide +kernel
theorem dX10_from_24 : decode cX10_from 24 = .ok (.aload_n 0, 1) := by decide +kernel
theorem dX10_from_25 : decode cX10_from 25 = .ok (.getfield 10, 3) := by decide +kernel
theorem dX10_from_28 : decode cX10_from 28 = .ok (.aload_n 0, 1) := by decide +kernel
theorem dX10_from_29 : decode cX10_from 29 = .ok (.iload_n 1, 1) := by decide +kernel
theorem dX10_from_30 : decode cX10_from 30 = .ok (.invokevirtual 251, 3) := by decide +kernel
theorem dX10_from_33 : decode cX10_from 33 = .ok (.invokevirtual 255, 3) := by decide +kernel
theorem dX10_from_36 : decode cX10_from 36 = .ok (.aload_n 0, 1) := by decide +kernel
theorem dX10_from_37 : decode cX10_from 37 = .ok (.getfield 31, 3) := by decide +kernel
theorem dX10_from_40 : decode cX10_from 40 = .ok (.invokevirtual 112, 3) := by decide +kernel
theorem dX10_from_43 : decode cX10_from 43 = .ok (.iconst 1, 1) := by decide +kernel
theorem dX10_from_44 : decode cX10_from 44 = .ok (.ireturn, 1) := by decide +kernel
theorem dX10_imageAt_0 : decode cX10_imageAt 0 = .ok (.iload_n 1, 1) := by decide +kernel
theorem dX10_imageAt_1 : decode cX10_imageAt 1 = .ok (.ifCond .ne 10, 3) := by decide +kernel
