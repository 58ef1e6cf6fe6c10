theorem dX0_init_0 : decode cX0_init 0 = .ok (.aload_n 0, 1) := by decide +kernel
theorem dX0_init_1 : decode cX0_init 1 = .ok (.invokespecial 5, 3) := by decide +kernel
theorem dX0_init_4 : decode cX0_init 4 = .ok (.aload_n 0, 1) := by decide +kernel
theorem dX0_init_5 : decode cX0_init 5 = .ok (.bipush 70, 2) := by decide +kernel
theorem dX0_init_7 : decode cX0_init 7 = .ok (.newarray .int, 2) := by decide +kernel
theorem dX0_init_9 : decode cX0_init 9 = .ok (.putfield 11, 3) := by decide +kernel
theorem dX0_init_12 : decode cX0_init 12 = .ok (.aload_n 0, 1) := by decide +kernel
theorem dX0_init_13 : decode cX0_init 13 = .ok (.iconst 1, 1) := by decide +kernel
theorem dX0_init_14 : decode cX0_init 14 = .ok (.putfield 15, 3) := by decide +kernel
theorem dX0_init_17 : decode cX0_init 17 = .ok (.return_, 1) := by decide +kernel
theorem dX0_set_0 : decode cX0_set 0 = .ok (.aload_n 0, 1) := by decide +kernel
theorem dX0_set_1 : decode cX0_set 1 = .ok (.getfield 11, 3) := by decide +kernel
theorem dX0_set_4 : decode cX0_set 4 = .ok (.iconst 0, 1) := by decide +kernel
theorem dX0_set_5 : decode cX0_set 5 = .ok (.iload_n 1, 1) := by decide +kernel
theorem dX0_set_6 : decode cX0_set 6 = .ok (.iastore, 1) := by decide +kernel
theorem dX0_set_7 : decode cX0_set 7 = .ok (.aload_n 0, 1) := by decide +kernel
theorem dX0_set_8 : decode cX0_set 8 = .ok (.iconst 1, 1) := by decide +kernel
theorem dX0_set_9 : decode cX0_set 9 = .ok (.putfield 15, 3) := by decide +kernel
theorem dX0_set_12 : decode cX0_set 12 = .ok (.return_, 1) := by decide +kernel
theorem dX0_copy_0 : decode cX0_copy 0 = .ok (.aload_n 1, 1) := by decide +kernel
theorem dX0_copy_1 : decode cX0_copy 1 = .ok (.getfield 11, 3) := by decide +kernel
theorem dX0_copy_4 : decode cX0_copy 4 = .ok (.iconst 0, 1) := by decide +kernel
theorem dX0_copy_5 : decode cX0_copy 5 = .ok (.aload_n 0, 1) := by decide +kernel
theorem dX0_copy_6 : decode cX0_copy 6 = .ok (.getfield 11, 3) := by decide +kernel
theorem dX0_copy_9 : decode cX0_copy 9 = .ok (.iconst 0, 1) := by decide +kernel
theorem dX0_copy_10 : decode cX0_copy 10 = .ok (.bipush 70, 2) := by decide +kernel
theorem dX0_copy_12 : decode cX0_copy 12 = .ok (.invokestatic 19, 3) := by decide +kernel
theorem dX0_copy_15 : decode cX0_copy 15 = .ok (.aload_n 0, 1) := by decide +kernel
theorem dX0_copy_16 : decode cX0_copy 16 = .ok (.aload_n 1, 1) := by decide +kernel
theorem dX0_copy_17 : decode cX0_copy 17 = .ok (.getfield 15, 3) := by decide +kernel
theorem dX0_copy_20 : decode cX0_copy 20 = .ok (.putfield 15, 3) := by decide +kernel
theorem dX0_copy_23 : decode cX0_copy 23 = .ok (.return_, 1) := by decide +kernel
theorem dX0_times_0 : decode cX0_times 0 = .ok (.lconst 0, 1) := by decide +kernel
theorem dX0_times_1 : decode cX0_times 1 = .ok (.lstore_n 2, 1) := by decide +kernel
theorem dX0_times_2 : decode cX0_times 2 = .ok (.iconst 0, 1) := by decide +kernel
theorem dX0_times_3 : decode cX0_times 3 = .ok (.istore 4, 2) := by decide +kernel
theorem dX0_times_5 : decode cX0_times 5 = .ok (.iload 4, 2) := by decide +kernel
theorem dX0_times_7 : decode cX0_times 7 = .ok (.aload_n 0, 1) := by decide +kernel
theorem dX0_times_8 : decode cX0_times 8 = .ok (.getfield 15, 3) := by decide +kernel
theorem dX0_times_11 : decode cX0_times 11 = .ok (.if_icmp .ge 48, 3) := by decide +kernel
theorem dX0_times_14 : decode cX0_times 14 = .ok (.iload 4, 2) := by decide +kernel
theorem dX0_times_16 : decode cX0_times 16 = .ok (.bipush 70, 2) := by decide +kernel
theorem dX0_times_18 : decode cX0_times 18 = .ok (.if_icmp .ge 41, 3) := by decide +kernel
theorem dX0_times_21 : decode cX0_times 21 = .ok (.lload_n 2, 1) := by decide +kernel
theorem dX0_times_22 : decode cX0_times 22 = .ok (.aload_n 0, 1) := by decide +kernel
theorem dX0_times_23 : decode cX0_times 23 = .ok (.getfield 11, 3) := by decide +kernel
theorem dX0_times_26 : decode cX0_times 26 = .ok (.iload 4, 2) := by decide +kernel
theorem dX0_times_28 : decode cX0_times 28 = .ok (.iaload, 1) := by decide +kernel
theorem dX0_times_29 : decode cX0_times 29 = .ok (.i2l, 1) := by decide +kernel
theorem dX0_times_30 : decode cX0_times 30 = .ok (.iload_n 1, 1) := by decide +kernel
theorem dX0_times_31 : decode cX0_times 31 = .ok (.i2l, 1) := by decide +kernel
theorem dX0_times_32 : decode cX0_times 32 = .ok (.lmul, 1) := by decide +kernel
theorem dX0_times_33 : decode cX0_times 33 = .ok (.ladd, 1) := by decide +kernel
theorem dX0_times_34 : decode cX0_times 34 = .ok (.lstore_n 2, 1) := by decide +kernel
theorem dX0_times_35 : decode cX0_times 35 = .ok (.aload_n 0, 1) := by decide +kernel
theorem dX0_times_36 : decode cX0_times 36 = .ok (.getfield 11, 3) := by decide +kernel
theorem dX0_times_39 : decode cX0_times 39 = .ok (.iload 4, 2) := by decide +kernel
theorem dX0_times_41 : decode cX0_times 41 = .ok (.lload_n 2, 1) := by decide +kernel
theorem dX0_times_42 : decode cX0_times 42 = .ok (.ldc2_w 25, 3) := by decide +kernel
theorem dX0_times_45 : decode cX0_times 45 = .ok (.land, 1) := by decide +kernel
theorem dX0_times_46 : decode cX0_times 46 = .ok (.l2i, 1) := by decide +kernel
theorem dX0_times_47 : decode cX0_times 47 = .ok (.iastore, 1) := by decide +kernel
theorem dX0_times_48 : decode cX0_times 48 = .ok (.lload_n 2, 1) := by decide +kernel
theorem dX0_times_49 : decode cX0_times 49 = .ok (.bipush 30, 2) := by decide +kernel
theorem dX0_times_51 : decode cX0_times 51 = .ok (.lshr, 1) := by decide +kernel
theorem dX0_times_52 : decode cX0_times 52 = .ok (.lstore_n 2, 1) := by decide +kernel
theorem dX0_times_53 : decode cX0_times 53 = .ok (.iinc 4 1, 3) := by decide +kernel
theorem dX0_times_56 : decode cX0_times 56 = .ok (.goto (-51), 3) := by decide +kernel
theorem dX0_times_59 : decode cX0_times 59 = .ok (.lload_n 2, 1) := by decide +kernel
theorem dX0_times_60 : decode cX0_times 60 = .ok (.lconst 0, 1) := by decide +kernel
theorem dX0_times_61 : decode cX0_times 61 = .ok (.lcmp, 1) := by decide +kernel
theorem dX0_times_62 : decode cX0_times 62 = .ok (.ifCond .le 37, 3) := by decide +kernel
theorem dX0_times_65 : decode cX0_times 65 = .ok (.aload_n 0, 1) := by decide +kernel
theorem dX0_times_66 : decode cX0_times 66 = .ok (.getfield 15, 3) := by decide +kernel
theorem dX0_times_69 : decode cX0_times 69 = .ok (.iconst 0, 1) := by decide +kernel
theorem dX0_times_70 : decode cX0_times 70 = .ok (.bipush 69, 2) := by decide +kernel
theorem dX0_times_72 : decode cX0_times 72 = .ok (.invokestatic 27, 3) := by decide +kernel
theorem dX0_times_75 : decode cX0_times 75 = .ok (.ifCond .eq 24, 3) := by decide +kernel
theorem dX0_times_78 : decode cX0_times 78 = .ok (.aload_n 0, 1) := by decide +kernel
theorem dX0_times_79 : decode cX0_times 79 = .ok (.getfield 11, 3) := by decide +kernel
theorem dX0_times_82 : decode cX0_times 82 = .ok (.aload_n 0, 1) := by decide +kernel
theorem dX0_times_83 : decode cX0_times 83 = .ok (.getfield 15, 3) := by decide +kernel
theorem dX0_times_86 : decode cX0_times 86 = .ok (.lload_n 2, 1) := by decide +kernel
theorem dX0_times_87 : decode cX0_times 87 = .ok (.l2i, 1) := by decide +kernel
theorem dX0_times_88 : decode cX0_times 88 = .ok (.iastore, 1) := by decide +kernel
theorem dX0_times_89 : decode cX0_times 89 = .ok (.aload_n 0, 1) := by decide +kernel
theorem dX0_times_90 : decode cX0_times 90 = .ok (.dup, 1) := by decide +kernel
theorem dX0_times_91 : decode cX0_times 91 = .ok (.getfield 15, 3) := by decide +kernel
theorem dX0_times_94 : decode cX0_times 94 = .ok (.iconst 1, 1) := by decide +kernel
theorem dX0_times_95 : decode cX0_times 95 = .ok (.iadd, 1) := by decide +kernel
theorem dX0_times_96 : decode cX0_times 96 = .ok (.putfield 15, 3) := by decide +kernel
theorem dX0_times_99 : decode cX0_times 99 = .ok (.return_, 1) := by decide +kernel
theorem dX0_above_0 : decode cX0_above 0 = .ok (.aload_n 0, 1) := by decide +kernel
theorem dX0_above_1 : decode cX0_above 1 = .ok (.getfield 15, 3) := by decide +kernel
theorem dX0_above_4 : decode cX0_above 4 = .ok (.aload_n 1, 1) := by decide +kernel
theorem dX0_above_5 : decode cX0_above 5 = .ok (.getfield 15, 3) := by decide +kernel
theorem dX0_above_8 : decode cX0_above 8 = .ok (.if_icmp .eq 20, 3) := by decide +kernel
theorem dX0_above_11 : decode cX0_above 11 = .ok (.aload_n 0, 1) := by decide +kernel
theorem dX0_above_12 : decode cX0_above 12 = .ok (.getfield 15, 3) := by decide +kernel
theorem dX0_above_15 : decode cX0_above 15 = .ok (.aload_n 1, 1) := by decide +kernel
theorem dX0_above_16 : decode cX0_above 16 = .ok (.getfield 15, 3) := by decide +kernel
theorem dX0_above_19 : decode cX0_above 19 = .ok (.if_icmp .le 7, 3) := by decide +kernel
theorem dX0_above_22 : decode cX0_above 22 = .ok (.iconst 1, 1) := by decide +kernel
theorem dX0_above_23 : decode cX0_above 23 = .ok (.goto 4, 3) := by decide +kernel
theorem dX0_above_26 : decode cX0_above 26 = .ok (.iconst 0, 1) := by decide +kernel
theorem dX0_above_27 : decode cX0_above 27 = .ok (.ireturn, 1) := by decide +kernel
theorem dX0_above_28 : decode cX0_above 28 = .ok (.aload_n 0, 1) := by decide +kernel
theorem dX0_above_29 : decode cX0_above 29 = .ok (.getfield 15, 3) := by decide +kernel
theorem dX0_above_32 : decode cX0_above 32 = .ok (.iconst 1, 1) := by decide +kernel
theorem dX0_above_33 : decode cX0_above 33 = .ok (.isub, 1) := by decide +kernel
theorem dX0_above_34 : decode cX0_above 34 = .ok (.istore_n 2, 1) := by decide +kernel
theorem dX0_above_35 : decode cX0_above 35 = .ok (.iload_n 2, 1) := by decide +kernel
theorem dX0_above_36 : decode cX0_above 36 = .ok (.ifCond .lt 51, 3) := by decide +kernel
theorem dX0_above_39 : decode cX0_above 39 = .ok (.iload_n 2, 1) := by decide +kernel
theorem dX0_above_40 : decode cX0_above 40 = .ok (.bipush 70, 2) := by decide +kernel
theorem dX0_above_42 : decode cX0_above 42 = .ok (.if_icmp .ge 45, 3) := by decide +kernel
theorem dX0_above_45 : decode cX0_above 45 = .ok (.aload_n 0, 1) := by decide +kernel
theorem dX0_above_46 : decode cX0_above 46 = .ok (.getfield 11, 3) := by decide +kernel
theorem dX0_above_49 : decode cX0_above 49 = .ok (.iload_n 2, 1) := by decide +kernel
theorem dX0_above_50 : decode cX0_above 50 = .ok (.iaload, 1) := by decide +kernel
theorem dX0_above_51 : decode cX0_above 51 = .ok (.aload_n 1, 1) := by decide +kernel
theorem dX0_above_52 : decode cX0_above 52 = .ok (.getfield 11, 3) := by decide +kernel
theorem dX0_above_55 : decode cX0_above 55 = .ok (.iload_n 2, 1) := by decide +kernel
theorem dX0_above_56 : decode cX0_above 56 = .ok (.iaload, 1) := by decide +kernel
theorem dX0_above_57 : decode cX0_above 57 = .ok (.if_icmp .eq 24, 3) := by decide +kernel
theorem dX0_above_60 : decode cX0_above 60 = .ok (.aload_n 0, 1) := by decide +kernel
theorem dX0_above_61 : decode cX0_above 61 = .ok (.getfield 11, 3) := by decide +kernel
theorem dX0_above_64 : decode cX0_above 64 = .ok (.iload_n 2, 1) := by decide +kernel
theorem dX0_above_65 : decode cX0_above 65 = .ok (.iaload, 1) := by decide +kernel
theorem dX0_above_66 : decode cX0_above 66 = .ok (.aload_n 1, 1) := by decide +kernel
theorem dX0_above_67 : decode cX0_above 67 = .ok (.getfield 11, 3) := by decide +kernel
theorem dX0_above_70 : decode cX0_above 70 = .ok (.iload_n 2, 1) := by decide +kernel
theorem dX0_above_71 : decode cX0_above 71 = .ok (.iaload, 1) := by decide +kernel
theorem dX0_above_72 : decode cX0_above 72 = .ok (.if_icmp .le 7, 3) := by decide +kernel
theorem dX0_above_75 : decode cX0_above 75 = .ok (.iconst 1, 1) := by decide +kernel
theorem dX0_above_76 : decode cX0_above 76 = .ok (.goto 4, 3) := by decide +kernel
theorem dX0_above_79 : decode cX0_above 79 = .ok (.iconst 0, 1) := by decide +kernel
theorem dX0_above_80 : decode cX0_above 80 = .ok (.ireturn, 1) := by decide +kernel
theorem dX0_above_81 : decode cX0_above 81 = .ok (.iinc 2 (-1), 3) := by decide +kernel
theorem dX0_above_84 : decode cX0_above 84 = .ok (.goto (-49), 3) := by decide +kernel
theorem dX0_above_87 : decode cX0_above 87 = .ok (.iconst 0, 1) := by decide +kernel
theorem dX0_above_88 : decode cX0_above 88 = .ok (.ireturn, 1) := by decide +kernel
theorem dX0_rows_0 : decode cX0_rows 0 = .ok (.aload_n 0, 1) := by decide +kernel
theorem dX0_rows_1 : decode cX0_rows 1 = .ok (.getfield 15, 3) := by decide +kernel
theorem dX0_rows_4 : decode cX0_rows 4 = .ok (.ireturn, 1) := by decide +kernel
theorem dX0_at_0 : decode cX0_at 0 = .ok (.iload_n 1, 1) := by decide +kernel
theorem dX0_at_1 : decode cX0_at 1 = .ok (.iconst 0, 1) := by decide +kernel
theorem dX0_at_2 : decode cX0_at 2 = .ok (.aload_n 0, 1) := by decide +kernel
theorem dX0_at_3 : decode cX0_at 3 = .ok (.getfield 15, 3) := by decide +kernel
theorem dX0_at_6 : decode cX0_at 6 = .ok (.iconst 1, 1) := by decide +kernel
theorem dX0_at_7 : decode cX0_at 7 = .ok (.isub, 1) := by decide +kernel
theorem dX0_at_8 : decode cX0_at 8 = .ok (.invokestatic 27, 3) := by decide +kernel
theorem dX0_at_11 : decode cX0_at 11 = .ok (.ifCond .eq 18, 3) := by decide +kernel
theorem dX0_at_14 : decode cX0_at 14 = .ok (.iload_n 1, 1) := by decide +kernel
theorem dX0_at_15 : decode cX0_at 15 = .ok (.bipush 70, 2) := by decide +kernel
theorem dX0_at_17 : decode cX0_at 17 = .ok (.if_icmp .ge 12, 3) := by decide +kernel
theorem dX0_at_20 : decode cX0_at 20 = .ok (.aload_n 0, 1) := by decide +kernel
theorem dX0_at_21 : decode cX0_at 21 = .ok (.getfield 11, 3) := by decide +kernel
theorem dX0_at_24 : decode cX0_at 24 = .ok (.iload_n 1, 1) := by decide +kernel
theorem dX0_at_25 : decode cX0_at 25 = .ok (.iaload, 1) := by decide +kernel
theorem dX0_at_26 : decode cX0_at 26 = .ok (.goto 4, 3) := by decide +kernel
theorem dX0_at_29 : decode cX0_at 29 = .ok (.iconst (-1), 1) := by decide +kernel
theorem dX0_at_30 : decode cX0_at 30 = .ok (.ireturn, 1) := by decide +kernel
theorem dX1_init_0 : decode cX1_init 0 = .ok (.aload_n 0, 1) := by decide +kernel
theorem dX1_init_1 : decode cX1_init 1 = .ok (.invokespecial 3, 3) := by decide +kernel
theorem dX1_init_4 : decode cX1_init 4 = .ok (.aload_n 0, 1) := by decide +kernel
theorem dX1_init_5 : decode cX1_init 5 = .ok (.new 9, 3) := by decide +kernel
theorem dX1_init_8 : decode cX1_init 8 = .ok (.dup, 1) := by decide +kernel
theorem dX1_init_9 : decode cX1_init 9 = .ok (.invokespecial 11, 3) := by decide +kernel
theorem dX1_init_12 : decode cX1_init 12 = .ok (.putfield 12, 3) := by decide +kernel
theorem dX1_init_15 : decode cX1_init 15 = .ok (.aload_n 0, 1) := by decide +kernel
theorem dX1_init_16 : decode cX1_init 16 = .ok (.new 9, 3) := by decide +kernel
theorem dX1_init_19 : decode cX1_init 19 = .ok (.dup, 1) := by decide +kernel
theorem dX1_init_20 : decode cX1_init 20 = .ok (.invokespecial 11, 3) := by decide +kernel
theorem dX1_init_23 : decode cX1_init 23 = .ok (.putfield 18, 3) := by decide +kernel
theorem dX1_init_26 : decode cX1_init 26 = .ok (.aload_n 0, 1) := by decide +kernel
theorem dX1_init_27 : decode cX1_init 27 = .ok (.new 9, 3) := by decide +kernel
theorem dX1_init_30 : decode cX1_init 30 = .ok (.dup, 1) := by decide +kernel
theorem dX1_init_31 : decode cX1_init 31 = .ok (.invokespecial 11, 3) := by decide +kernel
theorem dX1_init_34 : decode cX1_init 34 = .ok (.putfield 21, 3) := by decide +kernel
theorem dX1_init_37 : decode cX1_init 37 = .ok (.aload_n 0, 1) := by decide +kernel
theorem dX1_init_38 : decode cX1_init 38 = .ok (.new 9, 3) := by decide +kernel
theorem dX1_init_41 : decode cX1_init 41 = .ok (.dup, 1) := by decide +kernel
theorem dX1_init_42 : decode cX1_init 42 = .ok (.invokespecial 11, 3) := by decide +kernel
theorem dX1_init_45 : decode cX1_init 45 = .ok (.putfield 24, 3) := by decide +kernel
theorem dX1_init_48 : decode cX1_init 48 = .ok (.aload_n 0, 1) := by decide +kernel
theorem dX1_init_49 : decode cX1_init 49 = .ok (.aload_n 1, 1) := by decide +kernel
theorem dX1_init_50 : decode cX1_init 50 = .ok (.putfield 27, 3) := by decide +kernel
theorem dX1_init_53 : decode cX1_init 53 = .ok (.aload_n 0, 1) := by decide +kernel
theorem dX1_init_54 : decode cX1_init 54 = .ok (.getfield 18, 3) := by decide +kernel
theorem dX1_init_57 : decode cX1_init 57 = .ok (.iconst 1, 1) := by decide +kernel
theorem dX1_init_58 : decode cX1_init 58 = .ok (.invokevirtual 31, 3) := by decide +kernel
theorem dX1_init_61 : decode cX1_init 61 = .ok (.return_, 1) := by decide +kernel
theorem dX1_side_0 : decode cX1_side 0 = .ok (.iload_n 1, 1) := by decide +kernel
theorem dX1_side_1 : decode cX1_side 1 = .ok (.ifCond .ne 10, 3) := by decide +kernel
theorem dX1_side_4 : decode cX1_side 4 = .ok (.aload_n 0, 1) := by decide +kernel
theorem dX1_side_5 : decode cX1_side 5 = .ok (.getfield 12, 3) := by decide +kernel
theorem dX1_side_8 : decode cX1_side 8 = .ok (.goto 7, 3) := by decide +kernel
theorem dX1_side_11 : decode cX1_side 11 = .ok (.aload_n 0, 1) := by decide +kernel
theorem dX1_side_12 : decode cX1_side 12 = .ok (.getfield 18, 3) := by decide +kernel
theorem dX1_side_15 : decode cX1_side 15 = .ok (.areturn, 1) := by decide +kernel
theorem dX1_last_0 : decode cX1_last 0 = .ok (.aload_n 0, 1) := by decide +kernel
theorem dX1_last_1 : decode cX1_last 1 = .ok (.iload_n 1, 1) := by decide +kernel
theorem dX1_last_2 : decode cX1_last 2 = .ok (.invokevirtual 35, 3) := by decide +kernel
theorem dX1_last_5 : decode cX1_last 5 = .ok (.aload_n 0, 1) := by decide +kernel
theorem dX1_last_6 : decode cX1_last 6 = .ok (.getfield 12, 3) := by decide +kernel
theorem dX1_last_9 : decode cX1_last 9 = .ok (.iconst 1, 1) := by decide +kernel
theorem dX1_last_10 : decode cX1_last 10 = .ok (.invokevirtual 31, 3) := by decide +kernel
theorem dX1_last_13 : decode cX1_last 13 = .ok (.aload_n 0, 1) := by decide +kernel
theorem dX1_last_14 : decode cX1_last 14 = .ok (.getfield 18, 3) := by decide +kernel
theorem dX1_last_17 : decode cX1_last 17 = .ok (.iconst 1, 1) := by decide +kernel
theorem dX1_last_18 : decode cX1_last 18 = .ok (.invokevirtual 31, 3) := by decide +kernel
theorem dX1_last_21 : decode cX1_last 21 = .ok (.iconst 0, 1) := by decide +kernel
theorem dX1_last_22 : decode cX1_last 22 = .ok (.istore_n 3, 1) := by decide +kernel
theorem dX1_last_23 : decode cX1_last 23 = .ok (.iload_n 3, 1) := by decide +kernel
theorem dX1_last_24 : decode cX1_last 24 = .ok (.iload_n 2, 1) := by decide +kernel
theorem dX1_last_25 : decode cX1_last 25 = .ok (.if_icmp .ge 31, 3) := by decide +kernel
theorem dX1_last_28 : decode cX1_last 28 = .ok (.aload_n 0, 1) := by decide +kernel
theorem dX1_last_29 : decode cX1_last 29 = .ok (.getfield 12, 3) := by decide +kernel
theorem dX1_last_32 : decode cX1_last 32 = .ok (.aload_n 0, 1) := by decide +kernel
theorem dX1_last_33 : decode cX1_last 33 = .ok (.getfield 38, 3) := by decide +kernel
theorem dX1_last_36 : decode cX1_last 36 = .ok (.invokevirtual 42, 3) := by decide +kernel
theorem dX1_last_39 : decode cX1_last 39 = .ok (.aload_n 0, 1) := by decide +kernel
theorem dX1_last_40 : decode cX1_last 40 = .ok (.getfield 18, 3) := by decide +kernel
theorem dX1_last_43 : decode cX1_last 43 = .ok (.aload_n 0, 1) := by decide +kernel
theorem dX1_last_44 : decode cX1_last 44 = .ok (.getfield 45, 3) := by decide +kernel
theorem dX1_last_47 : decode cX1_last 47 = .ok (.invokevirtual 42, 3) := by decide +kernel
theorem dX1_last_50 : decode cX1_last 50 = .ok (.iinc 3 1, 3) := by decide +kernel
theorem dX1_last_53 : decode cX1_last 53 = .ok (.goto (-30), 3) := by decide +kernel
theorem dX1_last_56 : decode cX1_last 56 = .ok (.return_, 1) := by decide +kernel
theorem dX1_halved_0 : decode cX1_halved 0 = .ok (.aload_n 0, 1) := by decide +kernel
theorem dX1_halved_1 : decode cX1_halved 1 = .ok (.iload_n 1, 1) := by decide +kernel
theorem dX1_halved_2 : decode cX1_halved 2 = .ok (.invokevirtual 35, 3) := by decide +kernel
theorem dX1_halved_5 : decode cX1_halved 5 = .ok (.aload_n 0, 1) := by decide +kernel
theorem dX1_halved_6 : decode cX1_halved 6 = .ok (.getfield 21, 3) := by decide +kernel
theorem dX1_halved_9 : decode cX1_halved 9 = .ok (.iconst 2, 1) := by decide +kernel
theorem dX1_halved_10 : decode cX1_halved 10 = .ok (.invokevirtual 31, 3) := by decide +kernel
theorem dX1_halved_13 : decode cX1_halved 13 = .ok (.aload_n 0, 1) := by decide +kernel
theorem dX1_halved_14 : decode cX1_halved 14 = .ok (.getfield 24, 3) := by decide +kernel
theorem dX1_halved_17 : decode cX1_halved 17 = .ok (.iconst 1, 1) := by decide +kernel
theorem dX1_halved_18 : decode cX1_halved 18 = .ok (.invokevirtual 31, 3) := by decide +kernel
theorem dX1_halved_21 : decode cX1_halved 21 = .ok (.iconst 1, 1) := by decide +kernel
theorem dX1_halved_22 : decode cX1_halved 22 = .ok (.istore_n 2, 1) := by decide +kernel
theorem dX1_halved_23 : decode cX1_halved 23 = .ok (.iload_n 2, 1) := by decide +kernel
theorem dX1_halved_24 : decode cX1_halved 24 = .ok (.sipush 200, 3) := by decide +kernel
theorem dX1_halved_27 : decode cX1_halved 27 = .ok (.if_icmp .gt 47, 3) := by decide +kernel
theorem dX1_halved_30 : decode cX1_halved 30 = .ok (.aload_n 0, 1) := by decide +kernel
theorem dX1_halved_31 : decode cX1_halved 31 = .ok (.getfield 21, 3) := by decide +kernel
theorem dX1_halved_34 : decode cX1_halved 34 = .ok (.aload_n 0, 1) := by decide +kernel
theorem dX1_halved_35 : decode cX1_halved 35 = .ok (.getfield 38, 3) := by decide +kernel
theorem dX1_halved_38 : decode cX1_halved 38 = .ok (.invokevirtual 42, 3) := by decide +kernel
theorem dX1_halved_41 : decode cX1_halved 41 = .ok (.aload_n 0, 1) := by decide +kernel
theorem dX1_halved_42 : decode cX1_halved 42 = .ok (.getfield 24, 3) := by decide +kernel
theorem dX1_halved_45 : decode cX1_halved 45 = .ok (.aload_n 0, 1) := by decide +kernel
theorem dX1_halved_46 : decode cX1_halved 46 = .ok (.getfield 45, 3) := by decide +kernel
theorem dX1_halved_49 : decode cX1_halved 49 = .ok (.invokevirtual 42, 3) := by decide +kernel
theorem dX1_halved_52 : decode cX1_halved 52 = .ok (.aload_n 0, 1) := by decide +kernel
theorem dX1_halved_53 : decode cX1_halved 53 = .ok (.getfield 21, 3) := by decide +kernel
theorem dX1_halved_56 : decode cX1_halved 56 = .ok (.aload_n 0, 1) := by decide +kernel
theorem dX1_halved_57 : decode cX1_halved 57 = .ok (.getfield 24, 3) := by decide +kernel
theorem dX1_halved_60 : decode cX1_halved 60 = .ok (.invokevirtual 48, 3) := by decide +kernel
theorem dX1_halved_63 : decode cX1_halved 63 = .ok (.ifCond .ne 5, 3) := by decide +kernel
theorem dX1_halved_66 : decode cX1_halved 66 = .ok (.iload_n 2, 1) := by decide +kernel
theorem dX1_halved_67 : decode cX1_halved 67 = .ok (.ireturn, 1) := by decide +kernel
theorem dX1_halved_68 : decode cX1_halved 68 = .ok (.iinc 2 1, 3) := by decide +kernel
theorem dX1_halved_71 : decode cX1_halved 71 = .ok (.goto (-48), 3) := by decide +kernel
theorem dX1_halved_74 : decode cX1_halved 74 = .ok (.iconst (-1), 1) := by decide +kernel
theorem dX1_halved_75 : decode cX1_halved 75 = .ok (.ireturn, 1) := by decide +kernel
theorem dX1_chooseYear_0 : decode cX1_chooseYear 0 = .ok (.aload_n 0, 1) := by decide +kernel
theorem dX1_chooseYear_1 : decode cX1_chooseYear 1 = .ok (.getfield 27, 3) := by decide +kernel
theorem dX1_chooseYear_4 : decode cX1_chooseYear 4 = .ok (.getfield 51, 3) := by decide +kernel
theorem dX1_chooseYear_7 : decode cX1_chooseYear 7 = .ok (.iconst 0, 1) := by decide +kernel
theorem dX1_chooseYear_8 : decode cX1_chooseYear 8 = .ok (.iconst 0, 1) := by decide +kernel
theorem dX1_chooseYear_9 : decode cX1_chooseYear 9 = .ok (.invokevirtual 57, 3) := by decide +kernel
theorem dX1_chooseYear_12 : decode cX1_chooseYear 12 = .ok (.istore_n 2, 1) := by decide +kernel
theorem dX1_chooseYear_13 : decode cX1_chooseYear 13 = .ok (.aload_n 0, 1) := by decide +kernel
theorem dX1_chooseYear_14 : decode cX1_chooseYear 14 = .ok (.getfield 27, 3) := by decide +kernel
theorem dX1_chooseYear_17 : decode cX1_chooseYear 17 = .ok (.getfield 51, 3) := by decide +kernel
theorem dX1_chooseYear_20 : decode cX1_chooseYear 20 = .ok (.iconst 0, 1) := by decide +kernel
theorem dX1_chooseYear_21 : decode cX1_chooseYear 21 = .ok (.iconst 1, 1) := by decide +kernel
theorem dX1_chooseYear_22 : decode cX1_chooseYear 22 = .ok (.invokevirtual 57, 3) := by decide +kernel
theorem dX1_chooseYear_25 : decode cX1_chooseYear 25 = .ok (.istore_n 3, 1) := by decide +kernel
theorem dX1_chooseYear_26 : decode cX1_chooseYear 26 = .ok (.aload_n 0, 1) := by decide +kernel
theorem dX1_chooseYear_27 : decode cX1_chooseYear 27 = .ok (.sipush 1000, 3) := by decide +kernel
theorem dX1_chooseYear_30 : decode cX1_chooseYear 30 = .ok (.sipush 1000, 3) := by decide +kernel
theorem dX1_chooseYear_33 : decode cX1_chooseYear 33 = .ok (.iload_n 2, 1) := by decide +kernel
theorem dX1_chooseYear_34 : decode cX1_chooseYear 34 = .ok (.iload_n 3, 1) := by decide +kernel
theorem dX1_chooseYear_35 : decode cX1_chooseYear 35 = .ok (.aload_n 0, 1) := by decide +kernel
theorem dX1_chooseYear_36 : decode cX1_chooseYear 36 = .ok (.getfield 27, 3) := by decide +kernel
theorem dX1_chooseYear_39 : decode cX1_chooseYear 39 = .ok (.getfield 63, 3) := by decide +kernel
theorem dX1_chooseYear_42 : decode cX1_chooseYear 42 = .ok (.iload_n 1, 1) := by decide +kernel
theorem dX1_chooseYear_43 : decode cX1_chooseYear 43 = .ok (.iconst 0, 1) := by decide +kernel
theorem dX1_chooseYear_44 : decode cX1_chooseYear 44 = .ok (.invokevirtual 57, 3) := by decide +kernel
theorem dX1_chooseYear_47 : decode cX1_chooseYear 47 = .ok (.invokestatic 66, 3) := by decide +kernel
theorem dX1_chooseYear_50 : decode cX1_chooseYear 50 = .ok (.invokestatic 70, 3) := by decide +kernel
theorem dX1_chooseYear_53 : decode cX1_chooseYear 53 = .ok (.isub, 1) := by decide +kernel
theorem dX1_chooseYear_54 : decode cX1_chooseYear 54 = .ok (.putfield 38, 3) := by decide +kernel
theorem dX1_chooseYear_57 : decode cX1_chooseYear 57 = .ok (.aload_n 0, 1) := by decide +kernel
theorem dX1_chooseYear_58 : decode cX1_chooseYear 58 = .ok (.sipush 1000, 3) := by decide +kernel
theorem dX1_chooseYear_61 : decode cX1_chooseYear 61 = .ok (.putfield 45, 3) := by decide +kernel
theorem dX1_chooseYear_64 : decode cX1_chooseYear 64 = .ok (.iconst 0, 1) := by decide +kernel
theorem dX1_chooseYear_65 : decode cX1_chooseYear 65 = .ok (.istore 4, 2) := by decide +kernel
theorem dX1_chooseYear_67 : decode cX1_chooseYear 67 = .ok (.iload 4, 2) := by decide +kernel
theorem dX1_chooseYear_69 : decode cX1_chooseYear 69 = .ok (.iconst 3, 1) := by decide +kernel
theorem dX1_chooseYear_70 : decode cX1_chooseYear 70 = .ok (.if_icmp .ge 19, 3) := by decide +kernel
theorem dX1_chooseYear_73 : decode cX1_chooseYear 73 = .ok (.aload_n 0, 1) := by decide +kernel
theorem dX1_chooseYear_74 : decode cX1_chooseYear 74 = .ok (.iconst 2, 1) := by decide +kernel
theorem dX1_chooseYear_75 : decode cX1_chooseYear 75 = .ok (.invokevirtual 75, 3) := by decide +kernel
theorem dX1_chooseYear_78 : decode cX1_chooseYear 78 = .ok (.aload_n 0, 1) := by decide +kernel
theorem dX1_chooseYear_79 : decode cX1_chooseYear 79 = .ok (.iconst 5, 1) := by decide +kernel
theorem dX1_chooseYear_80 : decode cX1_chooseYear 80 = .ok (.invokevirtual 75, 3) := by decide +kernel
theorem dX1_chooseYear_83 : decode cX1_chooseYear 83 = .ok (.iinc 4 1, 3) := by decide +kernel
theorem dX1_chooseYear_86 : decode cX1_chooseYear 86 = .ok (.goto (-19), 3) := by decide +kernel
theorem dX1_chooseYear_89 : decode cX1_chooseYear 89 = .ok (.return_, 1) := by decide +kernel
theorem dX1_shorten_0 : decode cX1_shorten 0 = .ok (.iload_n 1, 1) := by decide +kernel
theorem dX1_shorten_1 : decode cX1_shorten 1 = .ok (.ifCond .le 41, 3) := by decide +kernel
theorem dX1_shorten_4 : decode cX1_shorten 4 = .ok (.aload_n 0, 1) := by decide +kernel
theorem dX1_shorten_5 : decode cX1_shorten 5 = .ok (.getfield 38, 3) := by decide +kernel
theorem dX1_shorten_8 : decode cX1_shorten 8 = .ok (.iload_n 1, 1) := by decide +kernel
theorem dX1_shorten_9 : decode cX1_shorten 9 = .ok (.irem, 1) := by decide +kernel
theorem dX1_shorten_10 : decode cX1_shorten 10 = .ok (.ifCond .ne 32, 3) := by decide +kernel
theorem dX1_shorten_13 : decode cX1_shorten 13 = .ok (.aload_n 0, 1) := by decide +kernel
theorem dX1_shorten_14 : decode cX1_shorten 14 = .ok (.getfield 45, 3) := by decide +kernel
theorem dX1_shorten_17 : decode cX1_shorten 17 = .ok (.iload_n 1, 1) := by decide +kernel
theorem dX1_shorten_18 : decode cX1_shorten 18 = .ok (.irem, 1) := by decide +kernel
theorem dX1_shorten_19 : decode cX1_shorten 19 = .ok (.ifCond .ne 23, 3) := by decide +kernel
theorem dX1_shorten_22 : decode cX1_shorten 22 = .ok (.aload_n 0, 1) := by decide +kernel
theorem dX1_shorten_23 : decode cX1_shorten 23 = .ok (.dup, 1) := by decide +kernel
theorem dX1_shorten_24 : decode cX1_shorten 24 = .ok (.getfield 38, 3) := by decide +kernel
theorem dX1_shorten_27 : decode cX1_shorten 27 = .ok (.iload_n 1, 1) := by decide +kernel
theorem dX1_shorten_28 : decode cX1_shorten 28 = .ok (.idiv, 1) := by decide +kernel
theorem dX1_shorten_29 : decode cX1_shorten 29 = .ok (.putfield 38, 3) := by decide +kernel
theorem dX1_shorten_32 : decode cX1_shorten 32 = .ok (.aload_n 0, 1) := by decide +kernel
theorem dX1_shorten_33 : decode cX1_shorten 33 = .ok (.dup, 1) := by decide +kernel
theorem dX1_shorten_34 : decode cX1_shorten 34 = .ok (.getfield 45, 3) := by decide +kernel
theorem dX1_shorten_37 : decode cX1_shorten 37 = .ok (.iload_n 1, 1) := by decide +kernel
theorem dX1_shorten_38 : decode cX1_shorten 38 = .ok (.idiv, 1) := by decide +kernel
theorem dX1_shorten_39 : decode cX1_shorten 39 = .ok (.putfield 45, 3) := by decide +kernel
theorem dX1_shorten_42 : decode cX1_shorten 42 = .ok (.return_, 1) := by decide +kernel
theorem dX1_oddsOf_0 : decode cX1_oddsOf 0 = .ok (.iload_n 0, 1) := by decide +kernel
theorem dX1_oddsOf_1 : decode cX1_oddsOf 1 = .ok (.iload_n 1, 1) := by decide +kernel
theorem dX1_oddsOf_2 : decode cX1_oddsOf 2 = .ok (.iload_n 2, 1) := by decide +kernel
theorem dX1_oddsOf_3 : decode cX1_oddsOf 3 = .ok (.imul, 1) := by decide +kernel
theorem dX1_oddsOf_4 : decode cX1_oddsOf 4 = .ok (.iadd, 1) := by decide +kernel
theorem dX1_oddsOf_5 : decode cX1_oddsOf 5 = .ok (.ireturn, 1) := by decide +kernel
theorem dX1_fit_0 : decode cX1_fit 0 = .ok (.iconst (-1), 1) := by decide +kernel
theorem dX1_fit_1 : decode cX1_fit 1 = .ok (.istore_n 1, 1) := by decide +kernel
theorem dX1_fit_2 : decode cX1_fit 2 = .ok (.iconst 0, 1) := by decide +kernel
theorem dX1_fit_3 : decode cX1_fit 3 = .ok (.istore_n 2, 1) := by decide +kernel
theorem dX1_fit_4 : decode cX1_fit 4 = .ok (.iload_n 2, 1) := by decide +kernel
theorem dX1_fit_5 : decode cX1_fit 5 = .ok (.bipush 100, 2) := by decide +kernel
theorem dX1_fit_7 : decode cX1_fit 7 = .ok (.if_icmp .ge 59, 3) := by decide +kernel
theorem dX1_fit_10 : decode cX1_fit 10 = .ok (.aload_n 0, 1) := by decide +kernel
theorem dX1_fit_11 : decode cX1_fit 11 = .ok (.iload_n 2, 1) := by decide +kernel
theorem dX1_fit_12 : decode cX1_fit 12 = .ok (.bipush 10, 2) := by decide +kernel
theorem dX1_fit_14 : decode cX1_fit 14 = .ok (.idiv, 1) := by decide +kernel
theorem dX1_fit_15 : decode cX1_fit 15 = .ok (.iload_n 2, 1) := by decide +kernel
theorem dX1_fit_16 : decode cX1_fit 16 = .ok (.bipush 10, 2) := by decide +kernel
theorem dX1_fit_18 : decode cX1_fit 18 = .ok (.irem, 1) := by decide +kernel
theorem dX1_fit_19 : decode cX1_fit 19 = .ok (.invokevirtual 78, 3) := by decide +kernel
theorem dX1_fit_22 : decode cX1_fit 22 = .ok (.ifCond .ne 6, 3) := by decide +kernel
theorem dX1_fit_25 : decode cX1_fit 25 = .ok (.goto 35, 3) := by decide +kernel
theorem dX1_fit_28 : decode cX1_fit 28 = .ok (.iload_n 1, 1) := by decide +kernel
theorem dX1_fit_29 : decode cX1_fit 29 = .ok (.iconst (-1), 1) := by decide +kernel
theorem dX1_fit_30 : decode cX1_fit 30 = .ok (.if_icmp .eq 17, 3) := by decide +kernel
theorem dX1_fit_33 : decode cX1_fit 33 = .ok (.aload_n 0, 1) := by decide +kernel
theorem dX1_fit_34 : decode cX1_fit 34 = .ok (.getfield 21, 3) := by decide +kernel
theorem dX1_fit_37 : decode cX1_fit 37 = .ok (.aload_n 0, 1) := by decide +kernel
theorem dX1_fit_38 : decode cX1_fit 38 = .ok (.getfield 24, 3) := by decide +kernel
theorem dX1_fit_41 : decode cX1_fit 41 = .ok (.invokevirtual 48, 3) := by decide +kernel
theorem dX1_fit_44 : decode cX1_fit 44 = .ok (.ifCond .eq 16, 3) := by decide +kernel
theorem dX1_fit_47 : decode cX1_fit 47 = .ok (.iload_n 2, 1) := by decide +kernel
theorem dX1_fit_48 : decode cX1_fit 48 = .ok (.istore_n 1, 1) := by decide +kernel
theorem dX1_fit_49 : decode cX1_fit 49 = .ok (.aload_n 0, 1) := by decide +kernel
theorem dX1_fit_50 : decode cX1_fit 50 = .ok (.getfield 24, 3) := by decide +kernel
theorem dX1_fit_53 : decode cX1_fit 53 = .ok (.aload_n 0, 1) := by decide +kernel
theorem dX1_fit_54 : decode cX1_fit 54 = .ok (.getfield 21, 3) := by decide +kernel
theorem dX1_fit_57 : decode cX1_fit 57 = .ok (.invokevirtual 82, 3) := by decide +kernel
theorem dX1_fit_60 : decode cX1_fit 60 = .ok (.iinc 2 1, 3) := by decide +kernel
theorem dX1_fit_63 : decode cX1_fit 63 = .ok (.goto (-59), 3) := by decide +kernel
theorem dX1_fit_66 : decode cX1_fit 66 = .ok (.iload_n 1, 1) := by decide +kernel
theorem dX1_fit_67 : decode cX1_fit 67 = .ok (.ireturn, 1) := by decide +kernel
theorem dX1_weigh_0 : decode cX1_weigh 0 = .ok (.aload_n 0, 1) := by decide +kernel
theorem dX1_weigh_1 : decode cX1_weigh 1 = .ok (.getfield 21, 3) := by decide +kernel
theorem dX1_weigh_4 : decode cX1_weigh 4 = .ok (.iconst 1, 1) := by decide +kernel
theorem dX1_weigh_5 : decode cX1_weigh 5 = .ok (.invokevirtual 31, 3) := by decide +kernel
theorem dX1_weigh_8 : decode cX1_weigh 8 = .ok (.iconst 1, 1) := by decide +kernel
theorem dX1_weigh_9 : decode cX1_weigh 9 = .ok (.istore_n 3, 1) := by decide +kernel
theorem dX1_weigh_10 : decode cX1_weigh 10 = .ok (.iconst 0, 1) := by decide +kernel
theorem dX1_weigh_11 : decode cX1_weigh 11 = .ok (.istore 4, 2) := by decide +kernel
theorem dX1_weigh_13 : decode cX1_weigh 13 = .ok (.iload 4, 2) := by decide +kernel
theorem dX1_weigh_15 : decode cX1_weigh 15 = .ok (.aload_n 0, 1) := by decide +kernel
theorem dX1_weigh_16 : decode cX1_weigh 16 = .ok (.getfield 27, 3) := by decide +kernel
theorem dX1_weigh_19 : decode cX1_weigh 19 = .ok (.getfield 86, 3) := by decide +kernel
theorem dX1_weigh_22 : decode cX1_weigh 22 = .ok (.invokevirtual 89, 3) := by decide +kernel
theorem dX1_weigh_25 : decode cX1_weigh 25 = .ok (.if_icmp .ge 90, 3) := by decide +kernel
theorem dX1_weigh_28 : decode cX1_weigh 28 = .ok (.iload_n 1, 1) := by decide +kernel
theorem dX1_weigh_29 : decode cX1_weigh 29 = .ok (.iload_n 2, 1) := by decide +kernel
theorem dX1_weigh_30 : decode cX1_weigh 30 = .ok (.aload_n 0, 1) := by decide +kernel
theorem dX1_weigh_31 : decode cX1_weigh 31 = .ok (.getfield 27, 3) := by decide +kernel
theorem dX1_weigh_34 : decode cX1_weigh 34 = .ok (.getfield 86, 3) := by decide +kernel
theorem dX1_weigh_37 : decode cX1_weigh 37 = .ok (.iload 4, 2) := by decide +kernel
theorem dX1_weigh_39 : decode cX1_weigh 39 = .ok (.iconst 0, 1) := by decide +kernel
theorem dX1_weigh_40 : decode cX1_weigh 40 = .ok (.invokevirtual 57, 3) := by decide +kernel
theorem dX1_weigh_43 : decode cX1_weigh 43 = .ok (.invokestatic 66, 3) := by decide +kernel
theorem dX1_weigh_46 : decode cX1_weigh 46 = .ok (.istore 5, 2) := by decide +kernel
theorem dX1_weigh_48 : decode cX1_weigh 48 = .ok (.iload 5, 2) := by decide +kernel
theorem dX1_weigh_50 : decode cX1_weigh 50 = .ok (.iconst 1, 1) := by decide +kernel
theorem dX1_weigh_51 : decode cX1_weigh 51 = .ok (.sipush 999, 3) := by decide +kernel
theorem dX1_weigh_54 : decode cX1_weigh 54 = .ok (.invokestatic 93, 3) := by decide +kernel
theorem dX1_weigh_57 : decode cX1_weigh 57 = .ok (.ifCond .ne 5, 3) := by decide +kernel
theorem dX1_weigh_60 : decode cX1_weigh 60 = .ok (.iconst 0, 1) := by decide +kernel
theorem dX1_weigh_61 : decode cX1_weigh 61 = .ok (.ireturn, 1) := by decide +kernel
theorem dX1_weigh_62 : decode cX1_weigh 62 = .ok (.iload_n 3, 1) := by decide +kernel
theorem dX1_weigh_63 : decode cX1_weigh 63 = .ok (.aload_n 0, 1) := by decide +kernel
theorem dX1_weigh_64 : decode cX1_weigh 64 = .ok (.getfield 27, 3) := by decide +kernel
theorem dX1_weigh_67 : decode cX1_weigh 67 = .ok (.getfield 86, 3) := by decide +kernel
theorem dX1_weigh_70 : decode cX1_weigh 70 = .ok (.iload 4, 2) := by decide +kernel
theorem dX1_weigh_72 : decode cX1_weigh 72 = .ok (.iconst 1, 1) := by decide +kernel
theorem dX1_weigh_73 : decode cX1_weigh 73 = .ok (.invokevirtual 57, 3) := by decide +kernel
theorem dX1_weigh_76 : decode cX1_weigh 76 = .ok (.iconst 1, 1) := by decide +kernel
theorem dX1_weigh_77 : decode cX1_weigh 77 = .ok (.if_icmp .ne 8, 3) := by decide +kernel
theorem dX1_weigh_80 : decode cX1_weigh 80 = .ok (.iload 5, 2) := by decide +kernel
theorem dX1_weigh_82 : decode cX1_weigh 82 = .ok (.goto 9, 3) := by decide +kernel
theorem dX1_weigh_85 : decode cX1_weigh 85 = .ok (.sipush 1000, 3) := by decide +kernel
theorem dX1_weigh_88 : decode cX1_weigh 88 = .ok (.iload 5, 2) := by decide +kernel
theorem dX1_weigh_90 : decode cX1_weigh 90 = .ok (.isub, 1) := by decide +kernel
theorem dX1_weigh_91 : decode cX1_weigh 91 = .ok (.imul, 1) := by decide +kernel
theorem dX1_weigh_92 : decode cX1_weigh 92 = .ok (.istore_n 3, 1) := by decide +kernel
theorem dX1_weigh_93 : decode cX1_weigh 93 = .ok (.iload_n 3, 1) := by decide +kernel
theorem dX1_weigh_94 : decode cX1_weigh 94 = .ok (.ldc 97, 2) := by decide +kernel
theorem dX1_weigh_96 : decode cX1_weigh 96 = .ok (.if_icmp .lt 13, 3) := by decide +kernel
theorem dX1_weigh_99 : decode cX1_weigh 99 = .ok (.aload_n 0, 1) := by decide +kernel
theorem dX1_weigh_100 : decode cX1_weigh 100 = .ok (.getfield 21, 3) := by decide +kernel
theorem dX1_weigh_103 : decode cX1_weigh 103 = .ok (.iload_n 3, 1) := by decide +kernel
theorem dX1_weigh_104 : decode cX1_weigh 104 = .ok (.invokevirtual 42, 3) := by decide +kernel
theorem dX1_weigh_107 : decode cX1_weigh 107 = .ok (.iconst 1, 1) := by decide +kernel
theorem dX1_weigh_108 : decode cX1_weigh 108 = .ok (.istore_n 3, 1) := by decide +kernel
theorem dX1_weigh_109 : decode cX1_weigh 109 = .ok (.iinc 4 1, 3) := by decide +kernel
theorem dX1_weigh_112 : decode cX1_weigh 112 = .ok (.goto (-99), 3) := by decide +kernel
theorem dX1_weigh_115 : decode cX1_weigh 115 = .ok (.aload_n 0, 1) := by decide +kernel
theorem dX1_weigh_116 : decode cX1_weigh 116 = .ok (.getfield 21, 3) := by decide +kernel
theorem dX1_weigh_119 : decode cX1_weigh 119 = .ok (.iload_n 3, 1) := by decide +kernel
theorem dX1_weigh_120 : decode cX1_weigh 120 = .ok (.invokevirtual 42, 3) := by decide +kernel
theorem dX1_weigh_123 : decode cX1_weigh 123 = .ok (.iconst 1, 1) := by decide +kernel
theorem dX1_weigh_124 : decode cX1_weigh 124 = .ok (.ireturn, 1) := by decide +kernel
theorem dX1_reached_0 : decode cX1_reached 0 = .ok (.aload_n 0, 1) := by decide +kernel
theorem dX1_reached_1 : decode cX1_reached 1 = .ok (.getfield 27, 3) := by decide +kernel
theorem dX1_reached_4 : decode cX1_reached 4 = .ok (.getfield 63, 3) := by decide +kernel
theorem dX1_reached_7 : decode cX1_reached 7 = .ok (.iload_n 1, 1) := by decide +kernel
theorem dX1_reached_8 : decode cX1_reached 8 = .ok (.iconst 4, 1) := by decide +kernel
theorem dX1_reached_9 : decode cX1_reached 9 = .ok (.invokevirtual 57, 3) := by decide +kernel
theorem dX1_reached_12 : decode cX1_reached 12 = .ok (.istore_n 2, 1) := by decide +kernel
theorem dX1_reached_13 : decode cX1_reached 13 = .ok (.iconst 0, 1) := by decide +kernel
theorem dX1_reached_14 : decode cX1_reached 14 = .ok (.istore_n 3, 1) := by decide +kernel
theorem dX1_reached_15 : decode cX1_reached 15 = .ok (.iconst 0, 1) := by decide +kernel
theorem dX1_reached_16 : decode cX1_reached 16 = .ok (.istore 4, 2) := by decide +kernel
theorem dX1_reached_18 : decode cX1_reached 18 = .ok (.iload 4, 2) := by decide +kernel
theorem dX1_reached_20 : decode cX1_reached 20 = .ok (.aload_n 0, 1) := by decide +kernel
theorem dX1_reached_21 : decode cX1_reached 21 = .ok (.getfield 27, 3) := by decide +kernel
theorem dX1_reached_24 : decode cX1_reached 24 = .ok (.getfield 63, 3) := by decide +kernel
theorem dX1_reached_27 : decode cX1_reached 27 = .ok (.invokevirtual 89, 3) := by decide +kernel
theorem dX1_reached_30 : decode cX1_reached 30 = .ok (.if_icmp .ge 66, 3) := by decide +kernel
theorem dX1_reached_33 : decode cX1_reached 33 = .ok (.iload_n 2, 1) := by decide +kernel
theorem dX1_reached_34 : decode cX1_reached 34 = .ok (.iload_n 3, 1) := by decide +kernel
theorem dX1_reached_35 : decode cX1_reached 35 = .ok (.if_icmp .eq 61, 3) := by decide +kernel
theorem dX1_reached_38 : decode cX1_reached 38 = .ok (.iload_n 2, 1) := by decide +kernel
theorem dX1_reached_39 : decode cX1_reached 39 = .ok (.istore_n 3, 1) := by decide +kernel
theorem dX1_reached_40 : decode cX1_reached 40 = .ok (.iconst 0, 1) := by decide +kernel
theorem dX1_reached_41 : decode cX1_reached 41 = .ok (.istore 5, 2) := by decide +kernel
theorem dX1_reached_43 : decode cX1_reached 43 = .ok (.iload 5, 2) := by decide +kernel
theorem dX1_reached_45 : decode cX1_reached 45 = .ok (.aload_n 0, 1) := by decide +kernel
theorem dX1_reached_46 : decode cX1_reached 46 = .ok (.getfield 27, 3) := by decide +kernel
theorem dX1_reached_49 : decode cX1_reached 49 = .ok (.getfield 63, 3) := by decide +kernel
theorem dX1_reached_52 : decode cX1_reached 52 = .ok (.invokevirtual 89, 3) := by decide +kernel
theorem dX1_reached_55 : decode cX1_reached 55 = .ok (.if_icmp .ge 35, 3) := by decide +kernel
theorem dX1_reached_58 : decode cX1_reached 58 = .ok (.iload_n 2, 1) := by decide +kernel
theorem dX1_reached_59 : decode cX1_reached 59 = .ok (.iload 5, 2) := by decide +kernel
theorem dX1_reached_61 : decode cX1_reached 61 = .ok (.ishr, 1) := by decide +kernel
theorem dX1_reached_62 : decode cX1_reached 62 = .ok (.iconst 1, 1) := by decide +kernel
theorem dX1_reached_63 : decode cX1_reached 63 = .ok (.iand, 1) := by decide +kernel
theorem dX1_reached_64 : decode cX1_reached 64 = .ok (.iconst 1, 1) := by decide +kernel
theorem dX1_reached_65 : decode cX1_reached 65 = .ok (.if_icmp .ne 19, 3) := by decide +kernel
theorem dX1_reached_68 : decode cX1_reached 68 = .ok (.iload_n 2, 1) := by decide +kernel
theorem dX1_reached_69 : decode cX1_reached 69 = .ok (.aload_n 0, 1) := by decide +kernel
theorem dX1_reached_70 : decode cX1_reached 70 = .ok (.getfield 27, 3) := by decide +kernel
theorem dX1_reached_73 : decode cX1_reached 73 = .ok (.getfield 63, 3) := by decide +kernel
theorem dX1_reached_76 : decode cX1_reached 76 = .ok (.iload 5, 2) := by decide +kernel
theorem dX1_reached_78 : decode cX1_reached 78 = .ok (.iconst 4, 1) := by decide +kernel
theorem dX1_reached_79 : decode cX1_reached 79 = .ok (.invokevirtual 57, 3) := by decide +kernel
theorem dX1_reached_82 : decode cX1_reached 82 = .ok (.ior, 1) := by decide +kernel
theorem dX1_reached_83 : decode cX1_reached 83 = .ok (.istore_n 2, 1) := by decide +kernel
theorem dX1_reached_84 : decode cX1_reached 84 = .ok (.iinc 5 1, 3) := by decide +kernel
theorem dX1_reached_87 : decode cX1_reached 87 = .ok (.goto (-44), 3) := by decide +kernel
theorem dX1_reached_90 : decode cX1_reached 90 = .ok (.iinc 4 1, 3) := by decide +kernel
theorem dX1_reached_93 : decode cX1_reached 93 = .ok (.goto (-75), 3) := by decide +kernel
theorem dX1_reached_96 : decode cX1_reached 96 = .ok (.iload_n 2, 1) := by decide +kernel
theorem dX1_reached_97 : decode cX1_reached 97 = .ok (.ireturn, 1) := by decide +kernel
theorem dX2_init_0 : decode cX2_init 0 = .ok (.aload_n 0, 1) := by decide +kernel
theorem dX2_init_1 : decode cX2_init 1 = .ok (.invokespecial 1, 3) := by decide +kernel
theorem dX2_init_4 : decode cX2_init 4 = .ok (.aload_n 0, 1) := by decide +kernel
theorem dX2_init_5 : decode cX2_init 5 = .ok (.bipush 6, 2) := by decide +kernel
theorem dX2_init_7 : decode cX2_init 7 = .ok (.newarray .int, 2) := by decide +kernel
theorem dX2_init_9 : decode cX2_init 9 = .ok (.putfield 9, 3) := by decide +kernel
theorem dX2_init_12 : decode cX2_init 12 = .ok (.aload_n 0, 1) := by decide +kernel
theorem dX2_init_13 : decode cX2_init 13 = .ok (.bipush 6, 2) := by decide +kernel
theorem dX2_init_15 : decode cX2_init 15 = .ok (.newarray .int, 2) := by decide +kernel
theorem dX2_init_17 : decode cX2_init 17 = .ok (.putfield 15, 3) := by decide +kernel
theorem dX2_init_20 : decode cX2_init 20 = .ok (.aload_n 0, 1) := by decide +kernel
theorem dX2_init_21 : decode cX2_init 21 = .ok (.bipush 6, 2) := by decide +kernel
theorem dX2_init_23 : decode cX2_init 23 = .ok (.newarray .int, 2) := by decide +kernel
theorem dX2_init_25 : decode cX2_init 25 = .ok (.putfield 18, 3) := by decide +kernel
theorem dX2_init_28 : decode cX2_init 28 = .ok (.aload_n 0, 1) := by decide +kernel
theorem dX2_init_29 : decode cX2_init 29 = .ok (.aload_n 1, 1) := by decide +kernel
theorem dX2_init_30 : decode cX2_init 30 = .ok (.putfield 21, 3) := by decide +kernel
theorem dX2_init_33 : decode cX2_init 33 = .ok (.aload_n 0, 1) := by decide +kernel
theorem dX2_init_34 : decode cX2_init 34 = .ok (.aload_n 2, 1) := by decide +kernel
theorem dX2_init_35 : decode cX2_init 35 = .ok (.putfield 25, 3) := by decide +kernel
theorem dX2_init_38 : decode cX2_init 38 = .ok (.aload_n 0, 1) := by decide +kernel
theorem dX2_init_39 : decode cX2_init 39 = .ok (.aload_n 3, 1) := by decide +kernel
theorem dX2_init_40 : decode cX2_init 40 = .ok (.putfield 29, 3) := by decide +kernel
theorem dX2_init_43 : decode cX2_init 43 = .ok (.return_, 1) := by decide +kernel
theorem dX2_take_0 : decode cX2_take 0 = .ok (.aload_n 0, 1) := by decide +kernel
theorem dX2_take_1 : decode cX2_take 1 = .ok (.iload_n 1, 1) := by decide +kernel
theorem dX2_take_2 : decode cX2_take 2 = .ok (.putfield 33, 3) := by decide +kernel
theorem dX2_take_5 : decode cX2_take 5 = .ok (.aload_n 0, 1) := by decide +kernel
theorem dX2_take_6 : decode cX2_take 6 = .ok (.iconst 1, 1) := by decide +kernel
theorem dX2_take_7 : decode cX2_take 7 = .ok (.putfield 37, 3) := by decide +kernel
theorem dX2_take_10 : decode cX2_take 10 = .ok (.aload_n 0, 1) := by decide +kernel
theorem dX2_take_11 : decode cX2_take 11 = .ok (.getfield 21, 3) := by decide +kernel
theorem dX2_take_14 : decode cX2_take 14 = .ok (.getfield 41, 3) := by decide +kernel
theorem dX2_take_17 : decode cX2_take 17 = .ok (.aload_n 0, 1) := by decide +kernel
theorem dX2_take_18 : decode cX2_take 18 = .ok (.getfield 33, 3) := by decide +kernel
theorem dX2_take_21 : decode cX2_take 21 = .ok (.iconst 2, 1) := by decide +kernel
theorem dX2_take_22 : decode cX2_take 22 = .ok (.invokevirtual 45, 3) := by decide +kernel
theorem dX2_take_25 : decode cX2_take 25 = .ok (.istore 4, 2) := by decide +kernel
theorem dX2_take_27 : decode cX2_take 27 = .ok (.iconst 0, 1) := by decide +kernel
theorem dX2_take_28 : decode cX2_take 28 = .ok (.istore 5, 2) := by decide +kernel
theorem dX2_take_30 : decode cX2_take 30 = .ok (.iload 5, 2) := by decide +kernel
theorem dX2_take_32 : decode cX2_take 32 = .ok (.iload 4, 2) := by decide +kernel
theorem dX2_take_34 : decode cX2_take 34 = .ok (.if_icmp .ge 114, 3) := by decide +kernel
theorem dX2_take_37 : decode cX2_take 37 = .ok (.iload 5, 2) := by decide +kernel
theorem dX2_take_39 : decode cX2_take 39 = .ok (.bipush 6, 2) := by decide +kernel
theorem dX2_take_41 : decode cX2_take 41 = .ok (.if_icmp .ge 107, 3) := by decide +kernel
theorem dX2_take_44 : decode cX2_take 44 = .ok (.aload_n 0, 1) := by decide +kernel
theorem dX2_take_45 : decode cX2_take 45 = .ok (.getfield 21, 3) := by decide +kernel
theorem dX2_take_48 : decode cX2_take 48 = .ok (.getfield 41, 3) := by decide +kernel
theorem dX2_take_51 : decode cX2_take 51 = .ok (.aload_n 0, 1) := by decide +kernel
theorem dX2_take_52 : decode cX2_take 52 = .ok (.getfield 33, 3) := by decide +kernel
theorem dX2_take_55 : decode cX2_take 55 = .ok (.iconst 3, 1) := by decide +kernel
theorem dX2_take_56 : decode cX2_take 56 = .ok (.iconst 2, 1) := by decide +kernel
theorem dX2_take_57 : decode cX2_take 57 = .ok (.iload 5, 2) := by decide +kernel
theorem dX2_take_59 : decode cX2_take 59 = .ok (.imul, 1) := by decide +kernel
theorem dX2_take_60 : decode cX2_take 60 = .ok (.iadd, 1) := by decide +kernel
theorem dX2_take_61 : decode cX2_take 61 = .ok (.invokevirtual 45, 3) := by decide +kernel
theorem dX2_take_64 : decode cX2_take 64 = .ok (.istore 6, 2) := by decide +kernel
theorem dX2_take_66 : decode cX2_take 66 = .ok (.aload_n 0, 1) := by decide +kernel
theorem dX2_take_67 : decode cX2_take 67 = .ok (.getfield 9, 3) := by decide +kernel
theorem dX2_take_70 : decode cX2_take 70 = .ok (.iload 5, 2) := by decide +kernel
theorem dX2_take_72 : decode cX2_take 72 = .ok (.iload 6, 2) := by decide +kernel
theorem dX2_take_74 : decode cX2_take 74 = .ok (.iload_n 2, 1) := by decide +kernel
theorem dX2_take_75 : decode cX2_take 75 = .ok (.if_icmp .ne 7, 3) := by decide +kernel
theorem dX2_take_78 : decode cX2_take 78 = .ok (.iload_n 3, 1) := by decide +kernel
theorem dX2_take_79 : decode cX2_take 79 = .ok (.goto 5, 3) := by decide +kernel
theorem dX2_take_82 : decode cX2_take 82 = .ok (.iload 6, 2) := by decide +kernel
theorem dX2_take_84 : decode cX2_take 84 = .ok (.iastore, 1) := by decide +kernel
theorem dX2_take_85 : decode cX2_take 85 = .ok (.aload_n 0, 1) := by decide +kernel
theorem dX2_take_86 : decode cX2_take 86 = .ok (.getfield 29, 3) := by decide +kernel
theorem dX2_take_89 : decode cX2_take 89 = .ok (.aload_n 0, 1) := by decide +kernel
theorem dX2_take_90 : decode cX2_take 90 = .ok (.getfield 9, 3) := by decide +kernel
theorem dX2_take_93 : decode cX2_take 93 = .ok (.iload 5, 2) := by decide +kernel
theorem dX2_take_95 : decode cX2_take 95 = .ok (.iaload, 1) := by decide +kernel
theorem dX2_take_96 : decode cX2_take 96 = .ok (.invokevirtual 51, 3) := by decide +kernel
theorem dX2_take_99 : decode cX2_take 99 = .ok (.aload_n 0, 1) := by decide +kernel
theorem dX2_take_100 : decode cX2_take 100 = .ok (.getfield 29, 3) := by decide +kernel
theorem dX2_take_103 : decode cX2_take 103 = .ok (.getfield 57, 3) := by decide +kernel
theorem dX2_take_106 : decode cX2_take 106 = .ok (.ifCond .ne 8, 3) := by decide +kernel
theorem dX2_take_109 : decode cX2_take 109 = .ok (.aload_n 0, 1) := by decide +kernel
theorem dX2_take_110 : decode cX2_take 110 = .ok (.iconst 0, 1) := by decide +kernel
theorem dX2_take_111 : decode cX2_take 111 = .ok (.putfield 37, 3) := by decide +kernel
theorem dX2_take_114 : decode cX2_take 114 = .ok (.aload_n 0, 1) := by decide +kernel
theorem dX2_take_115 : decode cX2_take 115 = .ok (.getfield 15, 3) := by decide +kernel
theorem dX2_take_118 : decode cX2_take 118 = .ok (.iload 5, 2) := by decide +kernel
theorem dX2_take_120 : decode cX2_take 120 = .ok (.aload_n 0, 1) := by decide +kernel
theorem dX2_take_121 : decode cX2_take 121 = .ok (.getfield 29, 3) := by decide +kernel
theorem dX2_take_124 : decode cX2_take 124 = .ok (.getfield 60, 3) := by decide +kernel
theorem dX2_take_127 : decode cX2_take 127 = .ok (.iastore, 1) := by decide +kernel
theorem dX2_take_128 : decode cX2_take 128 = .ok (.aload_n 0, 1) := by decide +kernel
theorem dX2_take_129 : decode cX2_take 129 = .ok (.getfield 18, 3) := by decide +kernel
theorem dX2_take_132 : decode cX2_take 132 = .ok (.iload 5, 2) := by decide +kernel
theorem dX2_take_134 : decode cX2_take 134 = .ok (.aload_n 0, 1) := by decide +kernel
theorem dX2_take_135 : decode cX2_take 135 = .ok (.getfield 29, 3) := by decide +kernel
theorem dX2_take_138 : decode cX2_take 138 = .ok (.getfield 63, 3) := by decide +kernel
theorem dX2_take_141 : decode cX2_take 141 = .ok (.iastore, 1) := by decide +kernel
theorem dX2_take_142 : decode cX2_take 142 = .ok (.iinc 5 1, 3) := by decide +kernel
theorem dX2_take_145 : decode cX2_take 145 = .ok (.goto (-115), 3) := by decide +kernel
theorem dX2_take_148 : decode cX2_take 148 = .ok (.return_, 1) := by decide +kernel
theorem dX2_addUp_0 : decode cX2_addUp 0 = .ok (.aload_n 0, 1) := by decide +kernel
theorem dX2_addUp_1 : decode cX2_addUp 1 = .ok (.iconst 0, 1) := by decide +kernel
theorem dX2_addUp_2 : decode cX2_addUp 2 = .ok (.putfield 66, 3) := by decide +kernel
theorem dX2_addUp_5 : decode cX2_addUp 5 = .ok (.aload_n 0, 1) := by decide +kernel
theorem dX2_addUp_6 : decode cX2_addUp 6 = .ok (.iconst 0, 1) := by decide +kernel
theorem dX2_addUp_7 : decode cX2_addUp 7 = .ok (.putfield 67, 3) := by decide +kernel
theorem dX2_addUp_10 : decode cX2_addUp 10 = .ok (.aload_n 0, 1) := by decide +kernel
theorem dX2_addUp_11 : decode cX2_addUp 11 = .ok (.getfield 21, 3) := by decide +kernel
theorem dX2_addUp_14 : decode cX2_addUp 14 = .ok (.getfield 41, 3) := by decide +kernel
theorem dX2_addUp_17 : decode cX2_addUp 17 = .ok (.aload_n 0, 1) := by decide +kernel
theorem dX2_addUp_18 : decode cX2_addUp 18 = .ok (.getfield 33, 3) := by decide +kernel
theorem dX2_addUp_21 : decode cX2_addUp 21 = .ok (.iconst 2, 1) := by decide +kernel
theorem dX2_addUp_22 : decode cX2_addUp 22 = .ok (.invokevirtual 45, 3) := by decide +kernel
theorem dX2_addUp_25 : decode cX2_addUp 25 = .ok (.istore_n 2, 1) := by decide +kernel
theorem dX2_addUp_26 : decode cX2_addUp 26 = .ok (.iconst 0, 1) := by decide +kernel
theorem dX2_addUp_27 : decode cX2_addUp 27 = .ok (.istore_n 3, 1) := by decide +kernel
theorem dX2_addUp_28 : decode cX2_addUp 28 = .ok (.iload_n 3, 1) := by decide +kernel
theorem dX2_addUp_29 : decode cX2_addUp 29 = .ok (.iload_n 2, 1) := by decide +kernel
theorem dX2_addUp_30 : decode cX2_addUp 30 = .ok (.if_icmp .ge 133, 3) := by decide +kernel
theorem dX2_addUp_33 : decode cX2_addUp 33 = .ok (.iload_n 3, 1) := by decide +kernel
theorem dX2_addUp_34 : decode cX2_addUp 34 = .ok (.bipush 6, 2) := by decide +kernel
theorem dX2_addUp_36 : decode cX2_addUp 36 = .ok (.if_icmp .ge 127, 3) := by decide +kernel
theorem dX2_addUp_39 : decode cX2_addUp 39 = .ok (.aload_n 0, 1) := by decide +kernel
theorem dX2_addUp_40 : decode cX2_addUp 40 = .ok (.getfield 25, 3) := by decide +kernel
theorem dX2_addUp_43 : decode cX2_addUp 43 = .ok (.aload_n 0, 1) := by decide +kernel
theorem dX2_addUp_44 : decode cX2_addUp 44 = .ok (.getfield 9, 3) := by decide +kernel
theorem dX2_addUp_47 : decode cX2_addUp 47 = .ok (.iload_n 3, 1) := by decide +kernel
theorem dX2_addUp_48 : decode cX2_addUp 48 = .ok (.iaload, 1) := by decide +kernel
theorem dX2_addUp_49 : decode cX2_addUp 49 = .ok (.iload_n 1, 1) := by decide +kernel
theorem dX2_addUp_50 : decode cX2_addUp 50 = .ok (.invokevirtual 68, 3) := by decide +kernel
theorem dX2_addUp_53 : decode cX2_addUp 53 = .ok (.istore 4, 2) := by decide +kernel
theorem dX2_addUp_55 : decode cX2_addUp 55 = .ok (.aload_n 0, 1) := by decide +kernel
theorem dX2_addUp_56 : decode cX2_addUp 56 = .ok (.getfield 21, 3) := by decide +kernel
theorem dX2_addUp_59 : decode cX2_addUp 59 = .ok (.getfield 41, 3) := by decide +kernel
theorem dX2_addUp_62 : decode cX2_addUp 62 = .ok (.aload_n 0, 1) := by decide +kernel
theorem dX2_addUp_63 : decode cX2_addUp 63 = .ok (.getfield 33, 3) := by decide +kernel
theorem dX2_addUp_66 : decode cX2_addUp 66 = .ok (.iconst 3, 1) := by decide +kernel
theorem dX2_addUp_67 : decode cX2_addUp 67 = .ok (.iconst 2, 1) := by decide +kernel
theorem dX2_addUp_68 : decode cX2_addUp 68 = .ok (.iload_n 3, 1) := by decide +kernel
theorem dX2_addUp_69 : decode cX2_addUp 69 = .ok (.imul, 1) := by decide +kernel
theorem dX2_addUp_70 : decode cX2_addUp 70 = .ok (.iadd, 1) := by decide +kernel
theorem dX2_addUp_71 : decode cX2_addUp 71 = .ok (.iconst 1, 1) := by decide +kernel
theorem dX2_addUp_72 : decode cX2_addUp 72 = .ok (.iadd, 1) := by decide +kernel
theorem dX2_addUp_73 : decode cX2_addUp 73 = .ok (.invokevirtual 45, 3) := by decide +kernel
theorem dX2_addUp_76 : decode cX2_addUp 76 = .ok (.iconst 1, 1) := by decide +kernel
theorem dX2_addUp_77 : decode cX2_addUp 77 = .ok (.if_icmp .ne 7, 3) := by decide +kernel
theorem dX2_addUp_80 : decode cX2_addUp 80 = .ok (.iconst 1, 1) := by decide +kernel
theorem dX2_addUp_81 : decode cX2_addUp 81 = .ok (.goto 4, 3) := by decide +kernel
theorem dX2_addUp_84 : decode cX2_addUp 84 = .ok (.iconst 0, 1) := by decide +kernel
theorem dX2_addUp_85 : decode cX2_addUp 85 = .ok (.istore 5, 2) := by decide +kernel
theorem dX2_addUp_87 : decode cX2_addUp 87 = .ok (.aload_n 0, 1) := by decide +kernel
theorem dX2_addUp_88 : decode cX2_addUp 88 = .ok (.dup, 1) := by decide +kernel
theorem dX2_addUp_89 : decode cX2_addUp 89 = .ok (.getfield 66, 3) := by decide +kernel
theorem dX2_addUp_92 : decode cX2_addUp 92 = .ok (.iload 5, 2) := by decide +kernel
theorem dX2_addUp_94 : decode cX2_addUp 94 = .ok (.ifCond .eq 15, 3) := by decide +kernel
theorem dX2_addUp_97 : decode cX2_addUp 97 = .ok (.iload 4, 2) := by decide +kernel
theorem dX2_addUp_99 : decode cX2_addUp 99 = .ok (.aload_n 0, 1) := by decide +kernel
theorem dX2_addUp_100 : decode cX2_addUp 100 = .ok (.getfield 18, 3) := by decide +kernel
theorem dX2_addUp_103 : decode cX2_addUp 103 = .ok (.iload_n 3, 1) := by decide +kernel
theorem dX2_addUp_104 : decode cX2_addUp 104 = .ok (.iaload, 1) := by decide +kernel
theorem dX2_addUp_105 : decode cX2_addUp 105 = .ok (.isub, 1) := by decide +kernel
theorem dX2_addUp_106 : decode cX2_addUp 106 = .ok (.goto 12, 3) := by decide +kernel
theorem dX2_addUp_109 : decode cX2_addUp 109 = .ok (.aload_n 0, 1) := by decide +kernel
theorem dX2_addUp_110 : decode cX2_addUp 110 = .ok (.getfield 15, 3) := by decide +kernel
theorem dX2_addUp_113 : decode cX2_addUp 113 = .ok (.iload_n 3, 1) := by decide +kernel
theorem dX2_addUp_114 : decode cX2_addUp 114 = .ok (.iaload, 1) := by decide +kernel
theorem dX2_addUp_115 : decode cX2_addUp 115 = .ok (.iload 4, 2) := by decide +kernel
theorem dX2_addUp_117 : decode cX2_addUp 117 = .ok (.isub, 1) := by decide +kernel
theorem dX2_addUp_118 : decode cX2_addUp 118 = .ok (.iadd, 1) := by decide +kernel
theorem dX2_addUp_119 : decode cX2_addUp 119 = .ok (.putfield 66, 3) := by decide +kernel
theorem dX2_addUp_122 : decode cX2_addUp 122 = .ok (.aload_n 0, 1) := by decide +kernel
theorem dX2_addUp_123 : decode cX2_addUp 123 = .ok (.dup, 1) := by decide +kernel
theorem dX2_addUp_124 : decode cX2_addUp 124 = .ok (.getfield 67, 3) := by decide +kernel
theorem dX2_addUp_127 : decode cX2_addUp 127 = .ok (.iload 5, 2) := by decide +kernel
theorem dX2_addUp_129 : decode cX2_addUp 129 = .ok (.ifCond .eq 15, 3) := by decide +kernel
theorem dX2_addUp_132 : decode cX2_addUp 132 = .ok (.iload 4, 2) := by decide +kernel
theorem dX2_addUp_134 : decode cX2_addUp 134 = .ok (.aload_n 0, 1) := by decide +kernel
theorem dX2_addUp_135 : decode cX2_addUp 135 = .ok (.getfield 15, 3) := by decide +kernel
theorem dX2_addUp_138 : decode cX2_addUp 138 = .ok (.iload_n 3, 1) := by decide +kernel
theorem dX2_addUp_139 : decode cX2_addUp 139 = .ok (.iaload, 1) := by decide +kernel
theorem dX2_addUp_140 : decode cX2_addUp 140 = .ok (.isub, 1) := by decide +kernel
theorem dX2_addUp_141 : decode cX2_addUp 141 = .ok (.goto 12, 3) := by decide +kernel
theorem dX2_addUp_144 : decode cX2_addUp 144 = .ok (.aload_n 0, 1) := by decide +kernel
theorem dX2_addUp_145 : decode cX2_addUp 145 = .ok (.getfield 18, 3) := by decide +kernel
theorem dX2_addUp_148 : decode cX2_addUp 148 = .ok (.iload_n 3, 1) := by decide +kernel
theorem dX2_addUp_149 : decode cX2_addUp 149 = .ok (.iaload, 1) := by decide +kernel
theorem dX2_addUp_150 : decode cX2_addUp 150 = .ok (.iload 4, 2) := by decide +kernel
theorem dX2_addUp_152 : decode cX2_addUp 152 = .ok (.isub, 1) := by decide +kernel
theorem dX2_addUp_153 : decode cX2_addUp 153 = .ok (.iadd, 1) := by decide +kernel
theorem dX2_addUp_154 : decode cX2_addUp 154 = .ok (.putfield 67, 3) := by decide +kernel
theorem dX2_addUp_157 : decode cX2_addUp 157 = .ok (.iinc 3 1, 3) := by decide +kernel
theorem dX2_addUp_160 : decode cX2_addUp 160 = .ok (.goto (-132), 3) := by decide +kernel
theorem dX2_addUp_163 : decode cX2_addUp 163 = .ok (.return_, 1) := by decide +kernel
theorem dX2_holdIn_0 : decode cX2_holdIn 0 = .ok (.aload_n 0, 1) := by decide +kernel
theorem dX2_holdIn_1 : decode cX2_holdIn 1 = .ok (.getfield 37, 3) := by decide +kernel
theorem dX2_holdIn_4 : decode cX2_holdIn 4 = .ok (.ifCond .ne 5, 3) := by decide +kernel
theorem dX2_holdIn_7 : decode cX2_holdIn 7 = .ok (.iconst 0, 1) := by decide +kernel
theorem dX2_holdIn_8 : decode cX2_holdIn 8 = .ok (.ireturn, 1) := by decide +kernel
theorem dX2_holdIn_9 : decode cX2_holdIn 9 = .ok (.aload_n 0, 1) := by decide +kernel
theorem dX2_holdIn_10 : decode cX2_holdIn 10 = .ok (.iload_n 1, 1) := by decide +kernel
theorem dX2_holdIn_11 : decode cX2_holdIn 11 = .ok (.invokevirtual 73, 3) := by decide +kernel
theorem dX2_holdIn_14 : decode cX2_holdIn 14 = .ok (.aload_n 0, 1) := by decide +kernel
theorem dX2_holdIn_15 : decode cX2_holdIn 15 = .ok (.getfield 21, 3) := by decide +kernel
theorem dX2_holdIn_18 : decode cX2_holdIn 18 = .ok (.getfield 41, 3) := by decide +kernel
theorem dX2_holdIn_21 : decode cX2_holdIn 21 = .ok (.aload_n 0, 1) := by decide +kernel
theorem dX2_holdIn_22 : decode cX2_holdIn 22 = .ok (.getfield 33, 3) := by decide +kernel
theorem dX2_holdIn_25 : decode cX2_holdIn 25 = .ok (.iconst 0, 1) := by decide +kernel
theorem dX2_holdIn_26 : decode cX2_holdIn 26 = .ok (.invokevirtual 45, 3) := by decide +kernel
theorem dX2_holdIn_29 : decode cX2_holdIn 29 = .ok (.aload_n 0, 1) := by decide +kernel
theorem dX2_holdIn_30 : decode cX2_holdIn 30 = .ok (.getfield 66, 3) := by decide +kernel
theorem dX2_holdIn_33 : decode cX2_holdIn 33 = .ok (.if_icmp .gt 29, 3) := by decide +kernel
theorem dX2_holdIn_36 : decode cX2_holdIn 36 = .ok (.aload_n 0, 1) := by decide +kernel
theorem dX2_holdIn_37 : decode cX2_holdIn 37 = .ok (.getfield 67, 3) := by decide +kernel
theorem dX2_holdIn_40 : decode cX2_holdIn 40 = .ok (.aload_n 0, 1) := by decide +kernel
theorem dX2_holdIn_41 : decode cX2_holdIn 41 = .ok (.getfield 21, 3) := by decide +kernel
theorem dX2_holdIn_44 : decode cX2_holdIn 44 = .ok (.getfield 41, 3) := by decide +kernel
theorem dX2_holdIn_47 : decode cX2_holdIn 47 = .ok (.aload_n 0, 1) := by decide +kernel
theorem dX2_holdIn_48 : decode cX2_holdIn 48 = .ok (.getfield 33, 3) := by decide +kernel
theorem dX2_holdIn_51 : decode cX2_holdIn 51 = .ok (.iconst 1, 1) := by decide +kernel
theorem dX2_holdIn_52 : decode cX2_holdIn 52 = .ok (.invokevirtual 45, 3) := by decide +kernel
theorem dX2_holdIn_55 : decode cX2_holdIn 55 = .ok (.if_icmp .gt 7, 3) := by decide +kernel
theorem dX2_holdIn_58 : decode cX2_holdIn 58 = .ok (.iconst 1, 1) := by decide +kernel
theorem dX2_holdIn_59 : decode cX2_holdIn 59 = .ok (.goto 4, 3) := by decide +kernel
theorem dX2_holdIn_62 : decode cX2_holdIn 62 = .ok (.iconst 0, 1) := by decide +kernel
theorem dX2_holdIn_63 : decode cX2_holdIn 63 = .ok (.ireturn, 1) := by decide +kernel
theorem dX3_init_0 : decode cX3_init 0 = .ok (.aload_n 0, 1) := by decide +kernel
theorem dX3_init_1 : decode cX3_init 1 = .ok (.invokespecial 5, 3) := by decide +kernel
theorem dX3_init_4 : decode cX3_init 4 = .ok (.aload_n 0, 1) := by decide +kernel
theorem dX3_init_5 : decode cX3_init 5 = .ok (.bipush 7, 2) := by decide +kernel
theorem dX3_init_7 : decode cX3_init 7 = .ok (.sipush 512, 3) := by decide +kernel
theorem dX3_init_10 : decode cX3_init 10 = .ok (.multianewarray 11 2, 4) := by decide +kernel
theorem dX3_init_14 : decode cX3_init 14 = .ok (.putfield 13, 3) := by decide +kernel
theorem dX3_init_17 : decode cX3_init 17 = .ok (.aload_n 0, 1) := by decide +kernel
theorem dX3_init_18 : decode cX3_init 18 = .ok (.sipush 512, 3) := by decide +kernel
theorem dX3_init_21 : decode cX3_init 21 = .ok (.newarray .int, 2) := by decide +kernel
theorem dX3_init_23 : decode cX3_init 23 = .ok (.putfield 16, 3) := by decide +kernel
theorem dX3_init_26 : decode cX3_init 26 = .ok (.aload_n 0, 1) := by decide +kernel
theorem dX3_init_27 : decode cX3_init 27 = .ok (.iconst 4, 1) := by decide +kernel
theorem dX3_init_28 : decode cX3_init 28 = .ok (.newarray .int, 2) := by decide +kernel
theorem dX3_init_30 : decode cX3_init 30 = .ok (.putfield 20, 3) := by decide +kernel
theorem dX3_init_33 : decode cX3_init 33 = .ok (.aload_n 0, 1) := by decide +kernel
theorem dX3_init_34 : decode cX3_init 34 = .ok (.iconst 4, 1) := by decide +kernel
theorem dX3_init_35 : decode cX3_init 35 = .ok (.newarray .int, 2) := by decide +kernel
theorem dX3_init_37 : decode cX3_init 37 = .ok (.putfield 23, 3) := by decide +kernel
theorem dX3_init_40 : decode cX3_init 40 = .ok (.aload_n 0, 1) := by decide +kernel
theorem dX3_init_41 : decode cX3_init 41 = .ok (.aload_n 1, 1) := by decide +kernel
theorem dX3_init_42 : decode cX3_init 42 = .ok (.putfield 26, 3) := by decide +kernel
theorem dX3_init_45 : decode cX3_init 45 = .ok (.return_, 1) := by decide +kernel
theorem dX3_find_0 : decode cX3_find 0 = .ok (.aload_n 0, 1) := by decide +kernel
theorem dX3_find_1 : decode cX3_find 1 = .ok (.invokevirtual 30, 3) := by decide +kernel
theorem dX3_find_4 : decode cX3_find 4 = .ok (.bipush 6, 2) := by decide +kernel
theorem dX3_find_6 : decode cX3_find 6 = .ok (.aload_n 0, 1) := by decide +kernel
theorem dX3_find_7 : decode cX3_find 7 = .ok (.getfield 26, 3) := by decide +kernel
theorem dX3_find_10 : decode cX3_find 10 = .ok (.getfield 33, 3) := by decide +kernel
theorem dX3_find_13 : decode cX3_find 13 = .ok (.invokevirtual 39, 3) := by decide +kernel
theorem dX3_find_16 : decode cX3_find 16 = .ok (.invokestatic 45, 3) := by decide +kernel
theorem dX3_find_19 : decode cX3_find 19 = .ok (.istore_n 1, 1) := by decide +kernel
theorem dX3_find_20 : decode cX3_find 20 = .ok (.iconst 1, 1) := by decide +kernel
theorem dX3_find_21 : decode cX3_find 21 = .ok (.aload_n 0, 1) := by decide +kernel
theorem dX3_find_22 : decode cX3_find 22 = .ok (.getfield 51, 3) := by decide +kernel
theorem dX3_find_25 : decode cX3_find 25 = .ok (.ishl, 1) := by decide +kernel
theorem dX3_find_26 : decode cX3_find 26 = .ok (.istore_n 2, 1) := by decide +kernel
theorem dX3_find_27 : decode cX3_find 27 = .ok (.iconst 0, 1) := by decide +kernel
theorem dX3_find_28 : decode cX3_find 28 = .ok (.istore_n 3, 1) := by decide +kernel
theorem dX3_find_29 : decode cX3_find 29 = .ok (.iload_n 3, 1) := by decide +kernel
theorem dX3_find_30 : decode cX3_find 30 = .ok (.iload_n 2, 1) := by decide +kernel
theorem dX3_find_31 : decode cX3_find 31 = .ok (.if_icmp .ge 43, 3) := by decide +kernel
theorem dX3_find_34 : decode cX3_find 34 = .ok (.iload_n 3, 1) := by decide +kernel
theorem dX3_find_35 : decode cX3_find 35 = .ok (.invokestatic 55, 3) := by decide +kernel
theorem dX3_find_38 : decode cX3_find 38 = .ok (.iload_n 1, 1) := by decide +kernel
theorem dX3_find_39 : decode cX3_find 39 = .ok (.if_icmp .gt 29, 3) := by decide +kernel
theorem dX3_find_42 : decode cX3_find 42 = .ok (.aload_n 0, 1) := by decide +kernel
theorem dX3_find_43 : decode cX3_find 43 = .ok (.getfield 13, 3) := by decide +kernel
theorem dX3_find_46 : decode cX3_find 46 = .ok (.iload_n 1, 1) := by decide +kernel
theorem dX3_find_47 : decode cX3_find 47 = .ok (.aaload, 1) := by decide +kernel
theorem dX3_find_48 : decode cX3_find 48 = .ok (.iload_n 3, 1) := by decide +kernel
theorem dX3_find_49 : decode cX3_find 49 = .ok (.aload_n 0, 1) := by decide +kernel
theorem dX3_find_50 : decode cX3_find 50 = .ok (.iload_n 3, 1) := by decide +kernel
theorem dX3_find_51 : decode cX3_find 51 = .ok (.invokevirtual 61, 3) := by decide +kernel
theorem dX3_find_54 : decode cX3_find 54 = .ok (.ifCond .eq 7, 3) := by decide +kernel
theorem dX3_find_57 : decode cX3_find 57 = .ok (.iconst (-1), 1) := by decide +kernel
theorem dX3_find_58 : decode cX3_find 58 = .ok (.goto 9, 3) := by decide +kernel
theorem dX3_find_61 : decode cX3_find 61 = .ok (.aload_n 0, 1) := by decide +kernel
theorem dX3_find_62 : decode cX3_find 62 = .ok (.getfield 16, 3) := by decide +kernel
theorem dX3_find_65 : decode cX3_find 65 = .ok (.iload_n 3, 1) := by decide +kernel
theorem dX3_find_66 : decode cX3_find 66 = .ok (.iaload, 1) := by decide +kernel
theorem dX3_find_67 : decode cX3_find 67 = .ok (.iastore, 1) := by decide +kernel
theorem dX3_find_68 : decode cX3_find 68 = .ok (.iinc 3 1, 3) := by decide +kernel
theorem dX3_find_71 : decode cX3_find 71 = .ok (.goto (-42), 3) := by decide +kernel
theorem dX3_find_74 : decode cX3_find 74 = .ok (.iload_n 1, 1) := by decide +kernel
theorem dX3_find_75 : decode cX3_find 75 = .ok (.iconst 1, 1) := by decide +kernel
theorem dX3_find_76 : decode cX3_find 76 = .ok (.isub, 1) := by decide +kernel
theorem dX3_find_77 : decode cX3_find 77 = .ok (.istore_n 3, 1) := by decide +kernel
theorem dX3_find_78 : decode cX3_find 78 = .ok (.iload_n 3, 1) := by decide +kernel
theorem dX3_find_79 : decode cX3_find 79 = .ok (.ifCond .lt 49, 3) := by decide +kernel
theorem dX3_find_82 : decode cX3_find 82 = .ok (.iconst 0, 1) := by decide +kernel
theorem dX3_find_83 : decode cX3_find 83 = .ok (.istore 4, 2) := by decide +kernel
theorem dX3_find_85 : decode cX3_find 85 = .ok (.iload 4, 2) := by decide +kernel
theorem dX3_find_87 : decode cX3_find 87 = .ok (.iload_n 2, 1) := by decide +kernel
theorem dX3_find_88 : decode cX3_find 88 = .ok (.if_icmp .ge 34, 3) := by decide +kernel
theorem dX3_find_91 : decode cX3_find 91 = .ok (.iload 4, 2) := by decide +kernel
theorem dX3_find_93 : decode cX3_find 93 = .ok (.invokestatic 55, 3) := by decide +kernel
theorem dX3_find_96 : decode cX3_find 96 = .ok (.iload_n 3, 1) := by decide +kernel
theorem dX3_find_97 : decode cX3_find 97 = .ok (.if_icmp .gt 19, 3) := by decide +kernel
theorem dX3_find_100 : decode cX3_find 100 = .ok (.aload_n 0, 1) := by decide +kernel
theorem dX3_find_101 : decode cX3_find 101 = .ok (.getfield 13, 3) := by decide +kernel
theorem dX3_find_104 : decode cX3_find 104 = .ok (.iload_n 3, 1) := by decide +kernel
theorem dX3_find_105 : decode cX3_find 105 = .ok (.aaload, 1) := by decide +kernel
theorem dX3_find_106 : decode cX3_find 106 = .ok (.iload 4, 2) := by decide +kernel
theorem dX3_find_108 : decode cX3_find 108 = .ok (.aload_n 0, 1) := by decide +kernel
theorem dX3_find_109 : decode cX3_find 109 = .ok (.iload_n 3, 1) := by decide +kernel
theorem dX3_find_110 : decode cX3_find 110 = .ok (.iload 4, 2) := by decide +kernel
theorem dX3_find_112 : decode cX3_find 112 = .ok (.invokevirtual 65, 3) := by decide +kernel
theorem dX3_find_115 : decode cX3_find 115 = .ok (.iastore, 1) := by decide +kernel
theorem dX3_find_116 : decode cX3_find 116 = .ok (.iinc 4 1, 3) := by decide +kernel
theorem dX3_find_119 : decode cX3_find 119 = .ok (.goto (-34), 3) := by decide +kernel
theorem dX3_find_122 : decode cX3_find 122 = .ok (.iinc 3 (-1), 3) := by decide +kernel
theorem dX3_find_125 : decode cX3_find 125 = .ok (.goto (-47), 3) := by decide +kernel
theorem dX3_find_128 : decode cX3_find 128 = .ok (.return_, 1) := by decide +kernel
theorem dX3_gatherSpares_0 : decode cX3_gatherSpares 0 = .ok (.aload_n 0, 1) := by decide +kernel
theorem dX3_gatherSpares_1 : decode cX3_gatherSpares 1 = .ok (.bipush 9, 2) := by decide +kernel
theorem dX3_gatherSpares_3 : decode cX3_gatherSpares 3 = .ok (.aload_n 0, 1) := by decide +kernel
theorem dX3_gatherSpares_4 : decode cX3_gatherSpares 4 = .ok (.getfield 26, 3) := by decide +kernel
theorem dX3_gatherSpares_7 : decode cX3_gatherSpares 7 = .ok (.getfield 68, 3) := by decide +kernel
theorem dX3_gatherSpares_10 : decode cX3_gatherSpares 10 = .ok (.invokevirtual 39, 3) := by decide +kernel
theorem dX3_gatherSpares_13 : decode cX3_gatherSpares 13 = .ok (.invokestatic 45, 3) := by decide +kernel
theorem dX3_gatherSpares_16 : decode cX3_gatherSpares 16 = .ok (.putfield 51, 3) := by decide +kernel
theorem dX3_gatherSpares_19 : decode cX3_gatherSpares 19 = .ok (.aload_n 0, 1) := by decide +kernel
theorem dX3_gatherSpares_20 : decode cX3_gatherSpares 20 = .ok (.getfield 20, 3) := by decide +kernel
theorem dX3_gatherSpares_23 : decode cX3_gatherSpares 23 = .ok (.iconst 0, 1) := by decide +kernel
theorem dX3_gatherSpares_24 : decode cX3_gatherSpares 24 = .ok (.invokestatic 70, 3) := by decide +kernel
theorem dX3_gatherSpares_27 : decode cX3_gatherSpares 27 = .ok (.aload_n 0, 1) := by decide +kernel
theorem dX3_gatherSpares_28 : decode cX3_gatherSpares 28 = .ok (.getfield 23, 3) := by decide +kernel
theorem dX3_gatherSpares_31 : decode cX3_gatherSpares 31 = .ok (.iconst 0, 1) := by decide +kernel
theorem dX3_gatherSpares_32 : decode cX3_gatherSpares 32 = .ok (.invokestatic 70, 3) := by decide +kernel
theorem dX3_gatherSpares_35 : decode cX3_gatherSpares 35 = .ok (.aload_n 0, 1) := by decide +kernel
theorem dX3_gatherSpares_36 : decode cX3_gatherSpares 36 = .ok (.getfield 16, 3) := by decide +kernel
theorem dX3_gatherSpares_39 : decode cX3_gatherSpares 39 = .ok (.iconst 0, 1) := by decide +kernel
theorem dX3_gatherSpares_40 : decode cX3_gatherSpares 40 = .ok (.iconst 0, 1) := by decide +kernel
theorem dX3_gatherSpares_41 : decode cX3_gatherSpares 41 = .ok (.iastore, 1) := by decide +kernel
theorem dX3_gatherSpares_42 : decode cX3_gatherSpares 42 = .ok (.iconst 0, 1) := by decide +kernel
theorem dX3_gatherSpares_43 : decode cX3_gatherSpares 43 = .ok (.istore_n 1, 1) := by decide +kernel
theorem dX3_gatherSpares_44 : decode cX3_gatherSpares 44 = .ok (.iload_n 1, 1) := by decide +kernel
theorem dX3_gatherSpares_45 : decode cX3_gatherSpares 45 = .ok (.aload_n 0, 1) := by decide +kernel
theorem dX3_gatherSpares_46 : decode cX3_gatherSpares 46 = .ok (.getfield 51, 3) := by decide +kernel
theorem dX3_gatherSpares_49 : decode cX3_gatherSpares 49 = .ok (.if_icmp .ge 140, 3) := by decide +kernel
theorem dX3_gatherSpares_52 : decode cX3_gatherSpares 52 = .ok (.iconst 1, 1) := by decide +kernel
theorem dX3_gatherSpares_53 : decode cX3_gatherSpares 53 = .ok (.iload_n 1, 1) := by decide +kernel
theorem dX3_gatherSpares_54 : decode cX3_gatherSpares 54 = .ok (.ishl, 1) := by decide +kernel
theorem dX3_gatherSpares_55 : decode cX3_gatherSpares 55 = .ok (.istore_n 2, 1) := by decide +kernel
theorem dX3_gatherSpares_56 : decode cX3_gatherSpares 56 = .ok (.aload_n 0, 1) := by decide +kernel
theorem dX3_gatherSpares_57 : decode cX3_gatherSpares 57 = .ok (.getfield 26, 3) := by decide +kernel
theorem dX3_gatherSpares_60 : decode cX3_gatherSpares 60 = .ok (.getfield 68, 3) := by decide +kernel
theorem dX3_gatherSpares_63 : decode cX3_gatherSpares 63 = .ok (.iload_n 1, 1) := by decide +kernel
theorem dX3_gatherSpares_64 : decode cX3_gatherSpares 64 = .ok (.iconst 0, 1) := by decide +kernel
theorem dX3_gatherSpares_65 : decode cX3_gatherSpares 65 = .ok (.invokevirtual 76, 3) := by decide +kernel
theorem dX3_gatherSpares_68 : decode cX3_gatherSpares 68 = .ok (.istore_n 3, 1) := by decide +kernel
theorem dX3_gatherSpares_69 : decode cX3_gatherSpares 69 = .ok (.aload_n 0, 1) := by decide +kernel
theorem dX3_gatherSpares_70 : decode cX3_gatherSpares 70 = .ok (.getfield 26, 3) := by decide +kernel
theorem dX3_gatherSpares_73 : decode cX3_gatherSpares 73 = .ok (.getfield 68, 3) := by decide +kernel
theorem dX3_gatherSpares_76 : decode cX3_gatherSpares 76 = .ok (.iload_n 1, 1) := by decide +kernel
theorem dX3_gatherSpares_77 : decode cX3_gatherSpares 77 = .ok (.iconst 2, 1) := by decide +kernel
theorem dX3_gatherSpares_78 : decode cX3_gatherSpares 78 = .ok (.invokevirtual 76, 3) := by decide +kernel
theorem dX3_gatherSpares_81 : decode cX3_gatherSpares 81 = .ok (.istore 4, 2) := by decide +kernel
theorem dX3_gatherSpares_83 : decode cX3_gatherSpares 83 = .ok (.iload_n 3, 1) := by decide +kernel
theorem dX3_gatherSpares_84 : decode cX3_gatherSpares 84 = .ok (.iconst 0, 1) := by decide +kernel
theorem dX3_gatherSpares_85 : decode cX3_gatherSpares 85 = .ok (.aload_n 0, 1) := by decide +kernel
theorem dX3_gatherSpares_86 : decode cX3_gatherSpares 86 = .ok (.getfield 20, 3) := by decide +kernel
theorem dX3_gatherSpares_89 : decode cX3_gatherSpares 89 = .ok (.arraylength, 1) := by decide +kernel
theorem dX3_gatherSpares_90 : decode cX3_gatherSpares 90 = .ok (.iconst 1, 1) := by decide +kernel
theorem dX3_gatherSpares_91 : decode cX3_gatherSpares 91 = .ok (.isub, 1) := by decide +kernel
theorem dX3_gatherSpares_92 : decode cX3_gatherSpares 92 = .ok (.invokestatic 79, 3) := by decide +kernel
theorem dX3_gatherSpares_95 : decode cX3_gatherSpares 95 = .ok (.ifCond .eq 13, 3) := by decide +kernel
theorem dX3_gatherSpares_98 : decode cX3_gatherSpares 98 = .ok (.aload_n 0, 1) := by decide +kernel
theorem dX3_gatherSpares_99 : decode cX3_gatherSpares 99 = .ok (.getfield 20, 3) := by decide +kernel
theorem dX3_gatherSpares_102 : decode cX3_gatherSpares 102 = .ok (.iload_n 3, 1) := by decide +kernel
theorem dX3_gatherSpares_103 : decode cX3_gatherSpares 103 = .ok (.dup2, 1) := by decide +kernel
theorem dX3_gatherSpares_104 : decode cX3_gatherSpares 104 = .ok (.iaload, 1) := by decide +kernel
theorem dX3_gatherSpares_105 : decode cX3_gatherSpares 105 = .ok (.iload_n 2, 1) := by decide +kernel
theorem dX3_gatherSpares_106 : decode cX3_gatherSpares 106 = .ok (.ior, 1) := by decide +kernel
theorem dX3_gatherSpares_107 : decode cX3_gatherSpares 107 = .ok (.iastore, 1) := by decide +kernel
theorem dX3_gatherSpares_108 : decode cX3_gatherSpares 108 = .ok (.iload 4, 2) := by decide +kernel
theorem dX3_gatherSpares_110 : decode cX3_gatherSpares 110 = .ok (.iconst 0, 1) := by decide +kernel
theorem dX3_gatherSpares_111 : decode cX3_gatherSpares 111 = .ok (.aload_n 0, 1) := by decide +kernel
theorem dX3_gatherSpares_112 : decode cX3_gatherSpares 112 = .ok (.getfield 23, 3) := by decide +kernel
theorem dX3_gatherSpares_115 : decode cX3_gatherSpares 115 = .ok (.arraylength, 1) := by decide +kernel
theorem dX3_gatherSpares_116 : decode cX3_gatherSpares 116 = .ok (.iconst 1, 1) := by decide +kernel
theorem dX3_gatherSpares_117 : decode cX3_gatherSpares 117 = .ok (.isub, 1) := by decide +kernel
theorem dX3_gatherSpares_118 : decode cX3_gatherSpares 118 = .ok (.invokestatic 79, 3) := by decide +kernel
theorem dX3_gatherSpares_121 : decode cX3_gatherSpares 121 = .ok (.ifCond .eq 14, 3) := by decide +kernel
theorem dX3_gatherSpares_124 : decode cX3_gatherSpares 124 = .ok (.aload_n 0, 1) := by decide +kernel
theorem dX3_gatherSpares_125 : decode cX3_gatherSpares 125 = .ok (.getfield 23, 3) := by decide +kernel
theorem dX3_gatherSpares_128 : decode cX3_gatherSpares 128 = .ok (.iload 4, 2) := by decide +kernel
theorem dX3_gatherSpares_130 : decode cX3_gatherSpares 130 = .ok (.dup2, 1) := by decide +kernel
theorem dX3_gatherSpares_131 : decode cX3_gatherSpares 131 = .ok (.iaload, 1) := by decide +kernel
theorem dX3_gatherSpares_132 : decode cX3_gatherSpares 132 = .ok (.iload_n 2, 1) := by decide +kernel
theorem dX3_gatherSpares_133 : decode cX3_gatherSpares 133 = .ok (.ior, 1) := by decide +kernel
theorem dX3_gatherSpares_134 : decode cX3_gatherSpares 134 = .ok (.iastore, 1) := by decide +kernel
theorem dX3_gatherSpares_135 : decode cX3_gatherSpares 135 = .ok (.aload_n 0, 1) := by decide +kernel
theorem dX3_gatherSpares_136 : decode cX3_gatherSpares 136 = .ok (.getfield 26, 3) := by decide +kernel
theorem dX3_gatherSpares_139 : decode cX3_gatherSpares 139 = .ok (.getfield 68, 3) := by decide +kernel
theorem dX3_gatherSpares_142 : decode cX3_gatherSpares 142 = .ok (.iload_n 1, 1) := by decide +kernel
theorem dX3_gatherSpares_143 : decode cX3_gatherSpares 143 = .ok (.iconst 1, 1) := by decide +kernel
theorem dX3_gatherSpares_144 : decode cX3_gatherSpares 144 = .ok (.invokevirtual 76, 3) := by decide +kernel
theorem dX3_gatherSpares_147 : decode cX3_gatherSpares 147 = .ok (.istore 5, 2) := by decide +kernel
theorem dX3_gatherSpares_149 : decode cX3_gatherSpares 149 = .ok (.iconst 0, 1) := by decide +kernel
theorem dX3_gatherSpares_150 : decode cX3_gatherSpares 150 = .ok (.istore 6, 2) := by decide +kernel
theorem dX3_gatherSpares_152 : decode cX3_gatherSpares 152 = .ok (.iload 6, 2) := by decide +kernel
theorem dX3_gatherSpares_154 : decode cX3_gatherSpares 154 = .ok (.iload_n 2, 1) := by decide +kernel
theorem dX3_gatherSpares_155 : decode cX3_gatherSpares 155 = .ok (.if_icmp .ge 28, 3) := by decide +kernel
theorem dX3_gatherSpares_158 : decode cX3_gatherSpares 158 = .ok (.aload_n 0, 1) := by decide +kernel
theorem dX3_gatherSpares_159 : decode cX3_gatherSpares 159 = .ok (.getfield 16, 3) := by decide +kernel
theorem dX3_gatherSpares_162 : decode cX3_gatherSpares 162 = .ok (.iload 6, 2) := by decide +kernel
theorem dX3_gatherSpares_164 : decode cX3_gatherSpares 164 = .ok (.iload_n 2, 1) := by decide +kernel
theorem dX3_gatherSpares_165 : decode cX3_gatherSpares 165 = .ok (.ior, 1) := by decide +kernel
theorem dX3_gatherSpares_166 : decode cX3_gatherSpares 166 = .ok (.aload_n 0, 1) := by decide +kernel
theorem dX3_gatherSpares_167 : decode cX3_gatherSpares 167 = .ok (.getfield 16, 3) := by decide +kernel
theorem dX3_gatherSpares_170 : decode cX3_gatherSpares 170 = .ok (.iload 6, 2) := by decide +kernel
theorem dX3_gatherSpares_172 : decode cX3_gatherSpares 172 = .ok (.iaload, 1) := by decide +kernel
theorem dX3_gatherSpares_173 : decode cX3_gatherSpares 173 = .ok (.iload 5, 2) := by decide +kernel
theorem dX3_gatherSpares_175 : decode cX3_gatherSpares 175 = .ok (.iadd, 1) := by decide +kernel
theorem dX3_gatherSpares_176 : decode cX3_gatherSpares 176 = .ok (.iastore, 1) := by decide +kernel
theorem dX3_gatherSpares_177 : decode cX3_gatherSpares 177 = .ok (.iinc 6 1, 3) := by decide +kernel
theorem dX3_gatherSpares_180 : decode cX3_gatherSpares 180 = .ok (.goto (-28), 3) := by decide +kernel
theorem dX3_gatherSpares_183 : decode cX3_gatherSpares 183 = .ok (.iinc 1 1, 3) := by decide +kernel
theorem dX3_gatherSpares_186 : decode cX3_gatherSpares 186 = .ok (.goto (-142), 3) := by decide +kernel
theorem dX3_gatherSpares_189 : decode cX3_gatherSpares 189 = .ok (.return_, 1) := by decide +kernel
theorem dX3_parts_0 : decode cX3_parts 0 = .ok (.aload_n 0, 1) := by decide +kernel
theorem dX3_parts_1 : decode cX3_parts 1 = .ok (.getfield 23, 3) := by decide +kernel
theorem dX3_parts_4 : decode cX3_parts 4 = .ok (.astore_n 2, 1) := by decide +kernel
theorem dX3_parts_5 : decode cX3_parts 5 = .ok (.aload_n 2, 1) := by decide +kernel
theorem dX3_parts_6 : decode cX3_parts 6 = .ok (.arraylength, 1) := by decide +kernel
theorem dX3_parts_7 : decode cX3_parts 7 = .ok (.istore_n 3, 1) := by decide +kernel
theorem dX3_parts_8 : decode cX3_parts 8 = .ok (.iconst 0, 1) := by decide +kernel
theorem dX3_parts_9 : decode cX3_parts 9 = .ok (.istore 4, 2) := by decide +kernel
theorem dX3_parts_11 : decode cX3_parts 11 = .ok (.iload 4, 2) := by decide +kernel
theorem dX3_parts_13 : decode cX3_parts 13 = .ok (.iload_n 3, 1) := by decide +kernel
theorem dX3_parts_14 : decode cX3_parts 14 = .ok (.if_icmp .ge 33, 3) := by decide +kernel
theorem dX3_parts_17 : decode cX3_parts 17 = .ok (.aload_n 2, 1) := by decide +kernel
theorem dX3_parts_18 : decode cX3_parts 18 = .ok (.iload 4, 2) := by decide +kernel
theorem dX3_parts_20 : decode cX3_parts 20 = .ok (.iaload, 1) := by decide +kernel
theorem dX3_parts_21 : decode cX3_parts 21 = .ok (.istore 5, 2) := by decide +kernel
theorem dX3_parts_23 : decode cX3_parts 23 = .ok (.iload_n 1, 1) := by decide +kernel
theorem dX3_parts_24 : decode cX3_parts 24 = .ok (.iload 5, 2) := by decide +kernel
theorem dX3_parts_26 : decode cX3_parts 26 = .ok (.iand, 1) := by decide +kernel
theorem dX3_parts_27 : decode cX3_parts 27 = .ok (.ifCond .eq 14, 3) := by decide +kernel
theorem dX3_parts_30 : decode cX3_parts 30 = .ok (.iload_n 1, 1) := by decide +kernel
theorem dX3_parts_31 : decode cX3_parts 31 = .ok (.iload 5, 2) := by decide +kernel
theorem dX3_parts_33 : decode cX3_parts 33 = .ok (.iand, 1) := by decide +kernel
theorem dX3_parts_34 : decode cX3_parts 34 = .ok (.iload 5, 2) := by decide +kernel
theorem dX3_parts_36 : decode cX3_parts 36 = .ok (.if_icmp .eq 5, 3) := by decide +kernel
theorem dX3_parts_39 : decode cX3_parts 39 = .ok (.iconst 1, 1) := by decide +kernel
theorem dX3_parts_40 : decode cX3_parts 40 = .ok (.ireturn, 1) := by decide +kernel
theorem dX3_parts_41 : decode cX3_parts 41 = .ok (.iinc 4 1, 3) := by decide +kernel
theorem dX3_parts_44 : decode cX3_parts 44 = .ok (.goto (-33), 3) := by decide +kernel
theorem dX3_parts_47 : decode cX3_parts 47 = .ok (.iconst 0, 1) := by decide +kernel
theorem dX3_parts_48 : decode cX3_parts 48 = .ok (.ireturn, 1) := by decide +kernel
theorem dX3_open_0 : decode cX3_open 0 = .ok (.aload_n 0, 1) := by decide +kernel
theorem dX3_open_1 : decode cX3_open 1 = .ok (.getfield 26, 3) := by decide +kernel
theorem dX3_open_4 : decode cX3_open 4 = .ok (.getfield 33, 3) := by decide +kernel
theorem dX3_open_7 : decode cX3_open 7 = .ok (.iload_n 1, 1) := by decide +kernel
theorem dX3_open_8 : decode cX3_open 8 = .ok (.iconst 0, 1) := by decide +kernel
theorem dX3_open_9 : decode cX3_open 9 = .ok (.invokevirtual 76, 3) := by decide +kernel
theorem dX3_open_12 : decode cX3_open 12 = .ok (.istore_n 3, 1) := by decide +kernel
theorem dX3_open_13 : decode cX3_open 13 = .ok (.iload_n 3, 1) := by decide +kernel
theorem dX3_open_14 : decode cX3_open 14 = .ok (.iconst 0, 1) := by decide +kernel
theorem dX3_open_15 : decode cX3_open 15 = .ok (.aload_n 0, 1) := by decide +kernel
theorem dX3_open_16 : decode cX3_open 16 = .ok (.getfield 20, 3) := by decide +kernel
theorem dX3_open_19 : decode cX3_open 19 = .ok (.arraylength, 1) := by decide +kernel
theorem dX3_open_20 : decode cX3_open 20 = .ok (.iconst 1, 1) := by decide +kernel
theorem dX3_open_21 : decode cX3_open 21 = .ok (.isub, 1) := by decide +kernel
theorem dX3_open_22 : decode cX3_open 22 = .ok (.invokestatic 79, 3) := by decide +kernel
theorem dX3_open_25 : decode cX3_open 25 = .ok (.ifCond .eq 16, 3) := by decide +kernel
theorem dX3_open_28 : decode cX3_open 28 = .ok (.aload_n 0, 1) := by decide +kernel
theorem dX3_open_29 : decode cX3_open 29 = .ok (.getfield 20, 3) := by decide +kernel
theorem dX3_open_32 : decode cX3_open 32 = .ok (.iload_n 3, 1) := by decide +kernel
theorem dX3_open_33 : decode cX3_open 33 = .ok (.iaload, 1) := by decide +kernel
theorem dX3_open_34 : decode cX3_open 34 = .ok (.iload_n 2, 1) := by decide +kernel
theorem dX3_open_35 : decode cX3_open 35 = .ok (.iconst (-1), 1) := by decide +kernel
theorem dX3_open_36 : decode cX3_open 36 = .ok (.ixor, 1) := by decide +kernel
theorem dX3_open_37 : decode cX3_open 37 = .ok (.iand, 1) := by decide +kernel
theorem dX3_open_38 : decode cX3_open 38 = .ok (.goto 4, 3) := by decide +kernel
theorem dX3_open_41 : decode cX3_open 41 = .ok (.iconst 0, 1) := by decide +kernel
theorem dX3_open_42 : decode cX3_open 42 = .ok (.ireturn, 1) := by decide +kernel
theorem dX3_mostOf_0 : decode cX3_mostOf 0 = .ok (.aload_n 0, 1) := by decide +kernel
theorem dX3_mostOf_1 : decode cX3_mostOf 1 = .ok (.iload_n 1, 1) := by decide +kernel
theorem dX3_mostOf_2 : decode cX3_mostOf 2 = .ok (.iload_n 2, 1) := by decide +kernel
theorem dX3_mostOf_3 : decode cX3_mostOf 3 = .ok (.invokevirtual 83, 3) := by decide +kernel
theorem dX3_mostOf_6 : decode cX3_mostOf 6 = .ok (.istore_n 3, 1) := by decide +kernel
theorem dX3_mostOf_7 : decode cX3_mostOf 7 = .ok (.aload_n 0, 1) := by decide +kernel
theorem dX3_mostOf_8 : decode cX3_mostOf 8 = .ok (.iload_n 1, 1) := by decide +kernel
theorem dX3_mostOf_9 : decode cX3_mostOf 9 = .ok (.iload_n 2, 1) := by decide +kernel
theorem dX3_mostOf_10 : decode cX3_mostOf 10 = .ok (.invokevirtual 86, 3) := by decide +kernel
theorem dX3_mostOf_13 : decode cX3_mostOf 13 = .ok (.istore 4, 2) := by decide +kernel
theorem dX3_mostOf_15 : decode cX3_mostOf 15 = .ok (.iconst 0, 1) := by decide +kernel
theorem dX3_mostOf_16 : decode cX3_mostOf 16 = .ok (.istore 5, 2) := by decide +kernel
theorem dX3_mostOf_18 : decode cX3_mostOf 18 = .ok (.iload 5, 2) := by decide +kernel
theorem dX3_mostOf_20 : decode cX3_mostOf 20 = .ok (.aload_n 0, 1) := by decide +kernel
theorem dX3_mostOf_21 : decode cX3_mostOf 21 = .ok (.getfield 51, 3) := by decide +kernel
theorem dX3_mostOf_24 : decode cX3_mostOf 24 = .ok (.if_icmp .ge 36, 3) := by decide +kernel
theorem dX3_mostOf_27 : decode cX3_mostOf 27 = .ok (.iload 4, 2) := by decide +kernel
theorem dX3_mostOf_29 : decode cX3_mostOf 29 = .ok (.iload 5, 2) := by decide +kernel
theorem dX3_mostOf_31 : decode cX3_mostOf 31 = .ok (.ishr, 1) := by decide +kernel
