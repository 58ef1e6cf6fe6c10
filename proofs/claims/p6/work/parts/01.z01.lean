theorem dX3_mostOf_32 : decode cX3_mostOf 32 = .ok (.iconst 1, 1) := by decide +kernel
theorem dX3_mostOf_33 : decode cX3_mostOf 33 = .ok (.iand, 1) := by decide +kernel
theorem dX3_mostOf_34 : decode cX3_mostOf 34 = .ok (.iconst 1, 1) := by decide +kernel
theorem dX3_mostOf_35 : decode cX3_mostOf 35 = .ok (.if_icmp .ne 19, 3) := by decide +kernel
theorem dX3_mostOf_38 : decode cX3_mostOf 38 = .ok (.iload_n 3, 1) := by decide +kernel
theorem dX3_mostOf_39 : decode cX3_mostOf 39 = .ok (.aload_n 0, 1) := by decide +kernel
theorem dX3_mostOf_40 : decode cX3_mostOf 40 = .ok (.iload_n 1, 1) := by decide +kernel
theorem dX3_mostOf_41 : decode cX3_mostOf 41 = .ok (.iload_n 2, 1) := by decide +kernel
theorem dX3_mostOf_42 : decode cX3_mostOf 42 = .ok (.iconst 1, 1) := by decide +kernel
theorem dX3_mostOf_43 : decode cX3_mostOf 43 = .ok (.iload 5, 2) := by decide +kernel
theorem dX3_mostOf_45 : decode cX3_mostOf 45 = .ok (.ishl, 1) := by decide +kernel
theorem dX3_mostOf_46 : decode cX3_mostOf 46 = .ok (.ior, 1) := by decide +kernel
theorem dX3_mostOf_47 : decode cX3_mostOf 47 = .ok (.invokevirtual 83, 3) := by decide +kernel
theorem dX3_mostOf_50 : decode cX3_mostOf 50 = .ok (.invokestatic 89, 3) := by decide +kernel
theorem dX3_mostOf_53 : decode cX3_mostOf 53 = .ok (.istore_n 3, 1) := by decide +kernel
theorem dX3_mostOf_54 : decode cX3_mostOf 54 = .ok (.iinc 5 1, 3) := by decide +kernel
theorem dX3_mostOf_57 : decode cX3_mostOf 57 = .ok (.goto (-39), 3) := by decide +kernel
theorem dX3_mostOf_60 : decode cX3_mostOf 60 = .ok (.iload_n 3, 1) := by decide +kernel
theorem dX3_mostOf_61 : decode cX3_mostOf 61 = .ok (.ireturn, 1) := by decide +kernel
theorem dX3_after_0 : decode cX3_after 0 = .ok (.iload_n 1, 1) := by decide +kernel
theorem dX3_after_1 : decode cX3_after 1 = .ok (.iconst 0, 1) := by decide +kernel
theorem dX3_after_2 : decode cX3_after 2 = .ok (.iconst 5, 1) := by decide +kernel
theorem dX3_after_3 : decode cX3_after 3 = .ok (.invokestatic 79, 3) := by decide +kernel
theorem dX3_after_6 : decode cX3_after 6 = .ok (.ifCond .eq 14, 3) := by decide +kernel
theorem dX3_after_9 : decode cX3_after 9 = .ok (.iload_n 2, 1) := by decide +kernel
theorem dX3_after_10 : decode cX3_after 10 = .ok (.iconst 0, 1) := by decide +kernel
theorem dX3_after_11 : decode cX3_after 11 = .ok (.sipush 511, 3) := by decide +kernel
theorem dX3_after_14 : decode cX3_after 14 = .ok (.invokestatic 79, 3) := by decide +kernel
theorem dX3_after_17 : decode cX3_after 17 = .ok (.ifCond .ne 5, 3) := by decide +kernel
theorem dX3_after_20 : decode cX3_after 20 = .ok (.iconst (-1), 1) := by decide +kernel
theorem dX3_after_21 : decode cX3_after 21 = .ok (.ireturn, 1) := by decide +kernel
theorem dX3_after_22 : decode cX3_after 22 = .ok (.aload_n 0, 1) := by decide +kernel
theorem dX3_after_23 : decode cX3_after 23 = .ok (.getfield 13, 3) := by decide +kernel
theorem dX3_after_26 : decode cX3_after 26 = .ok (.iload_n 1, 1) := by decide +kernel
theorem dX3_after_27 : decode cX3_after 27 = .ok (.iconst 1, 1) := by decide +kernel
theorem dX3_after_28 : decode cX3_after 28 = .ok (.iadd, 1) := by decide +kernel
theorem dX3_after_29 : decode cX3_after 29 = .ok (.aaload, 1) := by decide +kernel
theorem dX3_after_30 : decode cX3_after 30 = .ok (.iload_n 2, 1) := by decide +kernel
theorem dX3_after_31 : decode cX3_after 31 = .ok (.iaload, 1) := by decide +kernel
theorem dX3_after_32 : decode cX3_after 32 = .ok (.ireturn, 1) := by decide +kernel
theorem dX3_mostYears_0 : decode cX3_mostYears 0 = .ok (.aload_n 0, 1) := by decide +kernel
theorem dX3_mostYears_1 : decode cX3_mostYears 1 = .ok (.getfield 13, 3) := by decide +kernel
theorem dX3_mostYears_4 : decode cX3_mostYears 4 = .ok (.iconst 0, 1) := by decide +kernel
theorem dX3_mostYears_5 : decode cX3_mostYears 5 = .ok (.aaload, 1) := by decide +kernel
theorem dX3_mostYears_6 : decode cX3_mostYears 6 = .ok (.iconst 0, 1) := by decide +kernel
theorem dX3_mostYears_7 : decode cX3_mostYears 7 = .ok (.iaload, 1) := by decide +kernel
theorem dX3_mostYears_8 : decode cX3_mostYears 8 = .ok (.ireturn, 1) := by decide +kernel
theorem dX3_spareOf_0 : decode cX3_spareOf 0 = .ok (.iconst 0, 1) := by decide +kernel
theorem dX3_spareOf_1 : decode cX3_spareOf 1 = .ok (.istore_n 2, 1) := by decide +kernel
theorem dX3_spareOf_2 : decode cX3_spareOf 2 = .ok (.iconst 0, 1) := by decide +kernel
theorem dX3_spareOf_3 : decode cX3_spareOf 3 = .ok (.istore_n 3, 1) := by decide +kernel
theorem dX3_spareOf_4 : decode cX3_spareOf 4 = .ok (.iload_n 3, 1) := by decide +kernel
theorem dX3_spareOf_5 : decode cX3_spareOf 5 = .ok (.aload_n 0, 1) := by decide +kernel
theorem dX3_spareOf_6 : decode cX3_spareOf 6 = .ok (.getfield 26, 3) := by decide +kernel
theorem dX3_spareOf_9 : decode cX3_spareOf 9 = .ok (.getfield 33, 3) := by decide +kernel
theorem dX3_spareOf_12 : decode cX3_spareOf 12 = .ok (.invokevirtual 39, 3) := by decide +kernel
theorem dX3_spareOf_15 : decode cX3_spareOf 15 = .ok (.if_icmp .ge 38, 3) := by decide +kernel
theorem dX3_spareOf_18 : decode cX3_spareOf 18 = .ok (.aload_n 0, 1) := by decide +kernel
theorem dX3_spareOf_19 : decode cX3_spareOf 19 = .ok (.iload_n 3, 1) := by decide +kernel
theorem dX3_spareOf_20 : decode cX3_spareOf 20 = .ok (.iload_n 2, 1) := by decide +kernel
theorem dX3_spareOf_21 : decode cX3_spareOf 21 = .ok (.invokevirtual 92, 3) := by decide +kernel
theorem dX3_spareOf_24 : decode cX3_spareOf 24 = .ok (.istore 4, 2) := by decide +kernel
theorem dX3_spareOf_26 : decode cX3_spareOf 26 = .ok (.iload_n 3, 1) := by decide +kernel
theorem dX3_spareOf_27 : decode cX3_spareOf 27 = .ok (.iload_n 1, 1) := by decide +kernel
theorem dX3_spareOf_28 : decode cX3_spareOf 28 = .ok (.if_icmp .ne 6, 3) := by decide +kernel
theorem dX3_spareOf_31 : decode cX3_spareOf 31 = .ok (.iload 4, 2) := by decide +kernel
theorem dX3_spareOf_33 : decode cX3_spareOf 33 = .ok (.ireturn, 1) := by decide +kernel
theorem dX3_spareOf_34 : decode cX3_spareOf 34 = .ok (.iload 4, 2) := by decide +kernel
theorem dX3_spareOf_36 : decode cX3_spareOf 36 = .ok (.iconst (-1), 1) := by decide +kernel
theorem dX3_spareOf_37 : decode cX3_spareOf 37 = .ok (.if_icmp .eq 10, 3) := by decide +kernel
theorem dX3_spareOf_40 : decode cX3_spareOf 40 = .ok (.iload_n 2, 1) := by decide +kernel
theorem dX3_spareOf_41 : decode cX3_spareOf 41 = .ok (.iconst 1, 1) := by decide +kernel
theorem dX3_spareOf_42 : decode cX3_spareOf 42 = .ok (.iload 4, 2) := by decide +kernel
theorem dX3_spareOf_44 : decode cX3_spareOf 44 = .ok (.ishl, 1) := by decide +kernel
theorem dX3_spareOf_45 : decode cX3_spareOf 45 = .ok (.ior, 1) := by decide +kernel
theorem dX3_spareOf_46 : decode cX3_spareOf 46 = .ok (.istore_n 2, 1) := by decide +kernel
theorem dX3_spareOf_47 : decode cX3_spareOf 47 = .ok (.iinc 3 1, 3) := by decide +kernel
theorem dX3_spareOf_50 : decode cX3_spareOf 50 = .ok (.goto (-46), 3) := by decide +kernel
theorem dX3_spareOf_53 : decode cX3_spareOf 53 = .ok (.iconst (-1), 1) := by decide +kernel
theorem dX3_spareOf_54 : decode cX3_spareOf 54 = .ok (.ireturn, 1) := by decide +kernel
theorem dX3_givenTo_0 : decode cX3_givenTo 0 = .ok (.aload_n 0, 1) := by decide +kernel
theorem dX3_givenTo_1 : decode cX3_givenTo 1 = .ok (.iload_n 1, 1) := by decide +kernel
theorem dX3_givenTo_2 : decode cX3_givenTo 2 = .ok (.iload_n 2, 1) := by decide +kernel
theorem dX3_givenTo_3 : decode cX3_givenTo 3 = .ok (.invokevirtual 83, 3) := by decide +kernel
theorem dX3_givenTo_6 : decode cX3_givenTo 6 = .ok (.aload_n 0, 1) := by decide +kernel
theorem dX3_givenTo_7 : decode cX3_givenTo 7 = .ok (.invokevirtual 95, 3) := by decide +kernel
theorem dX3_givenTo_10 : decode cX3_givenTo 10 = .ok (.if_icmp .ne 5, 3) := by decide +kernel
theorem dX3_givenTo_13 : decode cX3_givenTo 13 = .ok (.iconst (-1), 1) := by decide +kernel
theorem dX3_givenTo_14 : decode cX3_givenTo 14 = .ok (.ireturn, 1) := by decide +kernel
theorem dX3_givenTo_15 : decode cX3_givenTo 15 = .ok (.aload_n 0, 1) := by decide +kernel
theorem dX3_givenTo_16 : decode cX3_givenTo 16 = .ok (.iload_n 1, 1) := by decide +kernel
theorem dX3_givenTo_17 : decode cX3_givenTo 17 = .ok (.iload_n 2, 1) := by decide +kernel
theorem dX3_givenTo_18 : decode cX3_givenTo 18 = .ok (.invokevirtual 86, 3) := by decide +kernel
theorem dX3_givenTo_21 : decode cX3_givenTo 21 = .ok (.istore_n 3, 1) := by decide +kernel
theorem dX3_givenTo_22 : decode cX3_givenTo 22 = .ok (.iconst 0, 1) := by decide +kernel
theorem dX3_givenTo_23 : decode cX3_givenTo 23 = .ok (.istore 4, 2) := by decide +kernel
theorem dX3_givenTo_25 : decode cX3_givenTo 25 = .ok (.iload 4, 2) := by decide +kernel
theorem dX3_givenTo_27 : decode cX3_givenTo 27 = .ok (.aload_n 0, 1) := by decide +kernel
theorem dX3_givenTo_28 : decode cX3_givenTo 28 = .ok (.getfield 51, 3) := by decide +kernel
theorem dX3_givenTo_31 : decode cX3_givenTo 31 = .ok (.if_icmp .ge 40, 3) := by decide +kernel
theorem dX3_givenTo_34 : decode cX3_givenTo 34 = .ok (.iload_n 3, 1) := by decide +kernel
theorem dX3_givenTo_35 : decode cX3_givenTo 35 = .ok (.iload 4, 2) := by decide +kernel
theorem dX3_givenTo_37 : decode cX3_givenTo 37 = .ok (.ishr, 1) := by decide +kernel
theorem dX3_givenTo_38 : decode cX3_givenTo 38 = .ok (.iconst 1, 1) := by decide +kernel
theorem dX3_givenTo_39 : decode cX3_givenTo 39 = .ok (.iand, 1) := by decide +kernel
theorem dX3_givenTo_40 : decode cX3_givenTo 40 = .ok (.iconst 1, 1) := by decide +kernel
theorem dX3_givenTo_41 : decode cX3_givenTo 41 = .ok (.if_icmp .ne 24, 3) := by decide +kernel
theorem dX3_givenTo_44 : decode cX3_givenTo 44 = .ok (.aload_n 0, 1) := by decide +kernel
theorem dX3_givenTo_45 : decode cX3_givenTo 45 = .ok (.iload_n 1, 1) := by decide +kernel
theorem dX3_givenTo_46 : decode cX3_givenTo 46 = .ok (.iload_n 2, 1) := by decide +kernel
theorem dX3_givenTo_47 : decode cX3_givenTo 47 = .ok (.iconst 1, 1) := by decide +kernel
theorem dX3_givenTo_48 : decode cX3_givenTo 48 = .ok (.iload 4, 2) := by decide +kernel
theorem dX3_givenTo_50 : decode cX3_givenTo 50 = .ok (.ishl, 1) := by decide +kernel
theorem dX3_givenTo_51 : decode cX3_givenTo 51 = .ok (.ior, 1) := by decide +kernel
theorem dX3_givenTo_52 : decode cX3_givenTo 52 = .ok (.invokevirtual 83, 3) := by decide +kernel
theorem dX3_givenTo_55 : decode cX3_givenTo 55 = .ok (.aload_n 0, 1) := by decide +kernel
theorem dX3_givenTo_56 : decode cX3_givenTo 56 = .ok (.invokevirtual 95, 3) := by decide +kernel
theorem dX3_givenTo_59 : decode cX3_givenTo 59 = .ok (.if_icmp .ne 6, 3) := by decide +kernel
theorem dX3_givenTo_62 : decode cX3_givenTo 62 = .ok (.iload 4, 2) := by decide +kernel
theorem dX3_givenTo_64 : decode cX3_givenTo 64 = .ok (.ireturn, 1) := by decide +kernel
theorem dX3_givenTo_65 : decode cX3_givenTo 65 = .ok (.iinc 4 1, 3) := by decide +kernel
theorem dX3_givenTo_68 : decode cX3_givenTo 68 = .ok (.goto (-43), 3) := by decide +kernel
theorem dX3_givenTo_71 : decode cX3_givenTo 71 = .ok (.iconst (-1), 1) := by decide +kernel
theorem dX3_givenTo_72 : decode cX3_givenTo 72 = .ok (.ireturn, 1) := by decide +kernel
theorem dX4_init_0 : decode cX4_init 0 = .ok (.aload_n 0, 1) := by decide +kernel
theorem dX4_init_1 : decode cX4_init 1 = .ok (.invokespecial 3, 3) := by decide +kernel
theorem dX4_init_4 : decode cX4_init 4 = .ok (.aload_n 0, 1) := by decide +kernel
theorem dX4_init_5 : decode cX4_init 5 = .ok (.bipush 60, 2) := by decide +kernel
theorem dX4_init_7 : decode cX4_init 7 = .ok (.newarray .int, 2) := by decide +kernel
theorem dX4_init_9 : decode cX4_init 9 = .ok (.putfield 11, 3) := by decide +kernel
theorem dX4_init_12 : decode cX4_init 12 = .ok (.aload_n 0, 1) := by decide +kernel
theorem dX4_init_13 : decode cX4_init 13 = .ok (.bipush 60, 2) := by decide +kernel
theorem dX4_init_15 : decode cX4_init 15 = .ok (.newarray .int, 2) := by decide +kernel
theorem dX4_init_17 : decode cX4_init 17 = .ok (.putfield 15, 3) := by decide +kernel
theorem dX4_init_20 : decode cX4_init 20 = .ok (.aload_n 0, 1) := by decide +kernel
theorem dX4_init_21 : decode cX4_init 21 = .ok (.bipush 60, 2) := by decide +kernel
theorem dX4_init_23 : decode cX4_init 23 = .ok (.newarray .long, 2) := by decide +kernel
theorem dX4_init_25 : decode cX4_init 25 = .ok (.putfield 18, 3) := by decide +kernel
theorem dX4_init_28 : decode cX4_init 28 = .ok (.aload_n 0, 1) := by decide +kernel
theorem dX4_init_29 : decode cX4_init 29 = .ok (.aload_n 1, 1) := by decide +kernel
theorem dX4_init_30 : decode cX4_init 30 = .ok (.putfield 22, 3) := by decide +kernel
theorem dX4_init_33 : decode cX4_init 33 = .ok (.aload_n 0, 1) := by decide +kernel
theorem dX4_init_34 : decode cX4_init 34 = .ok (.iconst 1, 1) := by decide +kernel
theorem dX4_init_35 : decode cX4_init 35 = .ok (.putfield 26, 3) := by decide +kernel
theorem dX4_init_38 : decode cX4_init 38 = .ok (.return_, 1) := by decide +kernel
theorem dX4_flaw_0 : decode cX4_flaw 0 = .ok (.aload_n 0, 1) := by decide +kernel
theorem dX4_flaw_1 : decode cX4_flaw 1 = .ok (.getfield 26, 3) := by decide +kernel
theorem dX4_flaw_4 : decode cX4_flaw 4 = .ok (.ireturn, 1) := by decide +kernel
theorem dX4_read_0 : decode cX4_read 0 = .ok (.aload_n 0, 1) := by decide +kernel
theorem dX4_read_1 : decode cX4_read 1 = .ok (.iconst 0, 1) := by decide +kernel
theorem dX4_read_2 : decode cX4_read 2 = .ok (.putfield 30, 3) := by decide +kernel
theorem dX4_read_5 : decode cX4_read 5 = .ok (.aload_n 0, 1) := by decide +kernel
theorem dX4_read_6 : decode cX4_read 6 = .ok (.iconst 0, 1) := by decide +kernel
theorem dX4_read_7 : decode cX4_read 7 = .ok (.putfield 33, 3) := by decide +kernel
theorem dX4_read_10 : decode cX4_read 10 = .ok (.aload_n 0, 1) := by decide +kernel
theorem dX4_read_11 : decode cX4_read 11 = .ok (.iconst 0, 1) := by decide +kernel
theorem dX4_read_12 : decode cX4_read 12 = .ok (.putfield 36, 3) := by decide +kernel
theorem dX4_read_15 : decode cX4_read 15 = .ok (.aload_n 0, 1) := by decide +kernel
theorem dX4_read_16 : decode cX4_read 16 = .ok (.iconst 0, 1) := by decide +kernel
theorem dX4_read_17 : decode cX4_read 17 = .ok (.putfield 39, 3) := by decide +kernel
theorem dX4_read_20 : decode cX4_read 20 = .ok (.aload_n 0, 1) := by decide +kernel
theorem dX4_read_21 : decode cX4_read 21 = .ok (.iconst 1, 1) := by decide +kernel
theorem dX4_read_22 : decode cX4_read 22 = .ok (.putfield 42, 3) := by decide +kernel
theorem dX4_read_25 : decode cX4_read 25 = .ok (.aload_n 0, 1) := by decide +kernel
theorem dX4_read_26 : decode cX4_read 26 = .ok (.iconst (-1), 1) := by decide +kernel
theorem dX4_read_27 : decode cX4_read 27 = .ok (.putfield 26, 3) := by decide +kernel
theorem dX4_read_30 : decode cX4_read 30 = .ok (.aload_n 0, 1) := by decide +kernel
theorem dX4_read_31 : decode cX4_read 31 = .ok (.getfield 22, 3) := by decide +kernel
theorem dX4_read_34 : decode cX4_read 34 = .ok (.getfield 46, 3) := by decide +kernel
theorem dX4_read_37 : decode cX4_read 37 = .ok (.invokevirtual 52, 3) := by decide +kernel
theorem dX4_read_40 : decode cX4_read 40 = .ok (.istore_n 1, 1) := by decide +kernel
theorem dX4_read_41 : decode cX4_read 41 = .ok (.iconst 0, 1) := by decide +kernel
theorem dX4_read_42 : decode cX4_read 42 = .ok (.istore_n 2, 1) := by decide +kernel
theorem dX4_read_43 : decode cX4_read 43 = .ok (.iload_n 2, 1) := by decide +kernel
theorem dX4_read_44 : decode cX4_read 44 = .ok (.iload_n 1, 1) := by decide +kernel
theorem dX4_read_45 : decode cX4_read 45 = .ok (.if_icmp .ge 71, 3) := by decide +kernel
theorem dX4_read_48 : decode cX4_read 48 = .ok (.aload_n 0, 1) := by decide +kernel
theorem dX4_read_49 : decode cX4_read 49 = .ok (.getfield 26, 3) := by decide +kernel
theorem dX4_read_52 : decode cX4_read 52 = .ok (.iconst (-1), 1) := by decide +kernel
theorem dX4_read_53 : decode cX4_read 53 = .ok (.if_icmp .ne 63, 3) := by decide +kernel
theorem dX4_read_56 : decode cX4_read 56 = .ok (.aload_n 0, 1) := by decide +kernel
theorem dX4_read_57 : decode cX4_read 57 = .ok (.getfield 22, 3) := by decide +kernel
theorem dX4_read_60 : decode cX4_read 60 = .ok (.getfield 46, 3) := by decide +kernel
theorem dX4_read_63 : decode cX4_read 63 = .ok (.iload_n 2, 1) := by decide +kernel
theorem dX4_read_64 : decode cX4_read 64 = .ok (.iconst 0, 1) := by decide +kernel
theorem dX4_read_65 : decode cX4_read 65 = .ok (.invokevirtual 58, 3) := by decide +kernel
theorem dX4_read_68 : decode cX4_read 68 = .ok (.istore_n 3, 1) := by decide +kernel
theorem dX4_read_69 : decode cX4_read 69 = .ok (.bipush 48, 2) := by decide +kernel
theorem dX4_read_71 : decode cX4_read 71 = .ok (.iload_n 3, 1) := by decide +kernel
theorem dX4_read_72 : decode cX4_read 72 = .ok (.if_icmp .gt 21, 3) := by decide +kernel
theorem dX4_read_75 : decode cX4_read 75 = .ok (.iload_n 3, 1) := by decide +kernel
theorem dX4_read_76 : decode cX4_read 76 = .ok (.bipush 57, 2) := by decide +kernel
theorem dX4_read_78 : decode cX4_read 78 = .ok (.if_icmp .gt 15, 3) := by decide +kernel
theorem dX4_read_81 : decode cX4_read 81 = .ok (.aload_n 0, 1) := by decide +kernel
theorem dX4_read_82 : decode cX4_read 82 = .ok (.iload_n 3, 1) := by decide +kernel
theorem dX4_read_83 : decode cX4_read 83 = .ok (.bipush 48, 2) := by decide +kernel
theorem dX4_read_85 : decode cX4_read 85 = .ok (.isub, 1) := by decide +kernel
theorem dX4_read_86 : decode cX4_read 86 = .ok (.iload_n 2, 1) := by decide +kernel
theorem dX4_read_87 : decode cX4_read 87 = .ok (.invokevirtual 62, 3) := by decide +kernel
theorem dX4_read_90 : decode cX4_read 90 = .ok (.goto 20, 3) := by decide +kernel
theorem dX4_read_93 : decode cX4_read 93 = .ok (.aload_n 0, 1) := by decide +kernel
theorem dX4_read_94 : decode cX4_read 94 = .ok (.iconst 0, 1) := by decide +kernel
theorem dX4_read_95 : decode cX4_read 95 = .ok (.putfield 39, 3) := by decide +kernel
theorem dX4_read_98 : decode cX4_read 98 = .ok (.iload_n 3, 1) := by decide +kernel
theorem dX4_read_99 : decode cX4_read 99 = .ok (.bipush 32, 2) := by decide +kernel
theorem dX4_read_101 : decode cX4_read 101 = .ok (.if_icmp .eq 9, 3) := by decide +kernel
theorem dX4_read_104 : decode cX4_read 104 = .ok (.aload_n 0, 1) := by decide +kernel
theorem dX4_read_105 : decode cX4_read 105 = .ok (.iload_n 3, 1) := by decide +kernel
theorem dX4_read_106 : decode cX4_read 106 = .ok (.iload_n 2, 1) := by decide +kernel
theorem dX4_read_107 : decode cX4_read 107 = .ok (.invokevirtual 66, 3) := by decide +kernel
theorem dX4_read_110 : decode cX4_read 110 = .ok (.iinc 2 1, 3) := by decide +kernel
theorem dX4_read_113 : decode cX4_read 113 = .ok (.goto (-70), 3) := by decide +kernel
theorem dX4_read_116 : decode cX4_read 116 = .ok (.aload_n 0, 1) := by decide +kernel
theorem dX4_read_117 : decode cX4_read 117 = .ok (.getfield 26, 3) := by decide +kernel
theorem dX4_read_120 : decode cX4_read 120 = .ok (.iconst (-1), 1) := by decide +kernel
theorem dX4_read_121 : decode cX4_read 121 = .ok (.if_icmp .ne 27, 3) := by decide +kernel
theorem dX4_read_124 : decode cX4_read 124 = .ok (.aload_n 0, 1) := by decide +kernel
theorem dX4_read_125 : decode cX4_read 125 = .ok (.getfield 42, 3) := by decide +kernel
theorem dX4_read_128 : decode cX4_read 128 = .ok (.ifCond .ne 10, 3) := by decide +kernel
theorem dX4_read_131 : decode cX4_read 131 = .ok (.aload_n 0, 1) := by decide +kernel
theorem dX4_read_132 : decode cX4_read 132 = .ok (.getfield 36, 3) := by decide +kernel
theorem dX4_read_135 : decode cX4_read 135 = .ok (.ifCond .le 13, 3) := by decide +kernel
theorem dX4_read_138 : decode cX4_read 138 = .ok (.aload_n 0, 1) := by decide +kernel
theorem dX4_read_139 : decode cX4_read 139 = .ok (.bipush 10, 2) := by decide +kernel
theorem dX4_read_141 : decode cX4_read 141 = .ok (.iload_n 1, 1) := by decide +kernel
theorem dX4_read_142 : decode cX4_read 142 = .ok (.imul, 1) := by decide +kernel
theorem dX4_read_143 : decode cX4_read 143 = .ok (.iconst 1, 1) := by decide +kernel
theorem dX4_read_144 : decode cX4_read 144 = .ok (.iadd, 1) := by decide +kernel
theorem dX4_read_145 : decode cX4_read 145 = .ok (.putfield 26, 3) := by decide +kernel
theorem dX4_read_148 : decode cX4_read 148 = .ok (.aload_n 0, 1) := by decide +kernel
theorem dX4_read_149 : decode cX4_read 149 = .ok (.getfield 26, 3) := by decide +kernel
theorem dX4_read_152 : decode cX4_read 152 = .ok (.iconst (-1), 1) := by decide +kernel
theorem dX4_read_153 : decode cX4_read 153 = .ok (.if_icmp .ne 8, 3) := by decide +kernel
theorem dX4_read_156 : decode cX4_read 156 = .ok (.aload_n 0, 1) := by decide +kernel
theorem dX4_read_157 : decode cX4_read 157 = .ok (.iconst 1, 1) := by decide +kernel
theorem dX4_read_158 : decode cX4_read 158 = .ok (.invokevirtual 69, 3) := by decide +kernel
theorem dX4_read_161 : decode cX4_read 161 = .ok (.return_, 1) := by decide +kernel
theorem dX4_readDigit_0 : decode cX4_readDigit 0 = .ok (.aload_n 0, 1) := by decide +kernel
theorem dX4_readDigit_1 : decode cX4_readDigit 1 = .ok (.getfield 39, 3) := by decide +kernel
theorem dX4_readDigit_4 : decode cX4_readDigit 4 = .ok (.ifCond .ne 23, 3) := by decide +kernel
theorem dX4_readDigit_7 : decode cX4_readDigit 7 = .ok (.aload_n 0, 1) := by decide +kernel
theorem dX4_readDigit_8 : decode cX4_readDigit 8 = .ok (.getfield 42, 3) := by decide +kernel
theorem dX4_readDigit_11 : decode cX4_readDigit 11 = .ok (.ifCond .ne 16, 3) := by decide +kernel
theorem dX4_readDigit_14 : decode cX4_readDigit 14 = .ok (.aload_n 0, 1) := by decide +kernel
theorem dX4_readDigit_15 : decode cX4_readDigit 15 = .ok (.bipush 10, 2) := by decide +kernel
theorem dX4_readDigit_17 : decode cX4_readDigit 17 = .ok (.iload_n 2, 1) := by decide +kernel
theorem dX4_readDigit_18 : decode cX4_readDigit 18 = .ok (.imul, 1) := by decide +kernel
theorem dX4_readDigit_19 : decode cX4_readDigit 19 = .ok (.iconst 1, 1) := by decide +kernel
theorem dX4_readDigit_20 : decode cX4_readDigit 20 = .ok (.iadd, 1) := by decide +kernel
theorem dX4_readDigit_21 : decode cX4_readDigit 21 = .ok (.putfield 26, 3) := by decide +kernel
theorem dX4_readDigit_24 : decode cX4_readDigit 24 = .ok (.goto 103, 3) := by decide +kernel
theorem dX4_readDigit_27 : decode cX4_readDigit 27 = .ok (.aload_n 0, 1) := by decide +kernel
theorem dX4_readDigit_28 : decode cX4_readDigit 28 = .ok (.getfield 39, 3) := by decide +kernel
theorem dX4_readDigit_31 : decode cX4_readDigit 31 = .ok (.bipush 6, 2) := by decide +kernel
theorem dX4_readDigit_33 : decode cX4_readDigit 33 = .ok (.if_icmp .lt 21, 3) := by decide +kernel
theorem dX4_readDigit_36 : decode cX4_readDigit 36 = .ok (.aload_n 0, 1) := by decide +kernel
theorem dX4_readDigit_37 : decode cX4_readDigit 37 = .ok (.bipush 10, 2) := by decide +kernel
theorem dX4_readDigit_39 : decode cX4_readDigit 39 = .ok (.iload_n 2, 1) := by decide +kernel
theorem dX4_readDigit_40 : decode cX4_readDigit 40 = .ok (.aload_n 0, 1) := by decide +kernel
theorem dX4_readDigit_41 : decode cX4_readDigit 41 = .ok (.getfield 39, 3) := by decide +kernel
theorem dX4_readDigit_44 : decode cX4_readDigit 44 = .ok (.isub, 1) := by decide +kernel
theorem dX4_readDigit_45 : decode cX4_readDigit 45 = .ok (.imul, 1) := by decide +kernel
theorem dX4_readDigit_46 : decode cX4_readDigit 46 = .ok (.iconst 2, 1) := by decide +kernel
theorem dX4_readDigit_47 : decode cX4_readDigit 47 = .ok (.iadd, 1) := by decide +kernel
theorem dX4_readDigit_48 : decode cX4_readDigit 48 = .ok (.putfield 26, 3) := by decide +kernel
theorem dX4_readDigit_51 : decode cX4_readDigit 51 = .ok (.goto 76, 3) := by decide +kernel
theorem dX4_readDigit_54 : decode cX4_readDigit 54 = .ok (.iconst 0, 1) := by decide +kernel
theorem dX4_readDigit_55 : decode cX4_readDigit 55 = .ok (.istore_n 3, 1) := by decide +kernel
theorem dX4_readDigit_56 : decode cX4_readDigit 56 = .ok (.aload_n 0, 1) := by decide +kernel
theorem dX4_readDigit_57 : decode cX4_readDigit 57 = .ok (.getfield 39, 3) := by decide +kernel
theorem dX4_readDigit_60 : decode cX4_readDigit 60 = .ok (.ifCond .le 42, 3) := by decide +kernel
theorem dX4_readDigit_63 : decode cX4_readDigit 63 = .ok (.aload_n 0, 1) := by decide +kernel
theorem dX4_readDigit_64 : decode cX4_readDigit 64 = .ok (.getfield 30, 3) := by decide +kernel
theorem dX4_readDigit_67 : decode cX4_readDigit 67 = .ok (.ifCond .le 35, 3) := by decide +kernel
theorem dX4_readDigit_70 : decode cX4_readDigit 70 = .ok (.aload_n 0, 1) := by decide +kernel
theorem dX4_readDigit_71 : decode cX4_readDigit 71 = .ok (.getfield 30, 3) := by decide +kernel
theorem dX4_readDigit_74 : decode cX4_readDigit 74 = .ok (.aload_n 0, 1) := by decide +kernel
theorem dX4_readDigit_75 : decode cX4_readDigit 75 = .ok (.getfield 11, 3) := by decide +kernel
theorem dX4_readDigit_78 : decode cX4_readDigit 78 = .ok (.arraylength, 1) := by decide +kernel
theorem dX4_readDigit_79 : decode cX4_readDigit 79 = .ok (.if_icmp .gt 23, 3) := by decide +kernel
theorem dX4_readDigit_82 : decode cX4_readDigit 82 = .ok (.aload_n 0, 1) := by decide +kernel
theorem dX4_readDigit_83 : decode cX4_readDigit 83 = .ok (.dup, 1) := by decide +kernel
theorem dX4_readDigit_84 : decode cX4_readDigit 84 = .ok (.getfield 30, 3) := by decide +kernel
theorem dX4_readDigit_87 : decode cX4_readDigit 87 = .ok (.iconst 1, 1) := by decide +kernel
theorem dX4_readDigit_88 : decode cX4_readDigit 88 = .ok (.isub, 1) := by decide +kernel
theorem dX4_readDigit_89 : decode cX4_readDigit 89 = .ok (.putfield 30, 3) := by decide +kernel
theorem dX4_readDigit_92 : decode cX4_readDigit 92 = .ok (.aload_n 0, 1) := by decide +kernel
theorem dX4_readDigit_93 : decode cX4_readDigit 93 = .ok (.getfield 11, 3) := by decide +kernel
theorem dX4_readDigit_96 : decode cX4_readDigit 96 = .ok (.aload_n 0, 1) := by decide +kernel
theorem dX4_readDigit_97 : decode cX4_readDigit 97 = .ok (.getfield 30, 3) := by decide +kernel
theorem dX4_readDigit_100 : decode cX4_readDigit 100 = .ok (.iaload, 1) := by decide +kernel
theorem dX4_readDigit_101 : decode cX4_readDigit 101 = .ok (.istore_n 3, 1) := by decide +kernel
theorem dX4_readDigit_102 : decode cX4_readDigit 102 = .ok (.aload_n 0, 1) := by decide +kernel
theorem dX4_readDigit_103 : decode cX4_readDigit 103 = .ok (.bipush 10, 2) := by decide +kernel
theorem dX4_readDigit_105 : decode cX4_readDigit 105 = .ok (.iload_n 3, 1) := by decide +kernel
theorem dX4_readDigit_106 : decode cX4_readDigit 106 = .ok (.imul, 1) := by decide +kernel
theorem dX4_readDigit_107 : decode cX4_readDigit 107 = .ok (.iload_n 1, 1) := by decide +kernel
theorem dX4_readDigit_108 : decode cX4_readDigit 108 = .ok (.iadd, 1) := by decide +kernel
theorem dX4_readDigit_109 : decode cX4_readDigit 109 = .ok (.invokevirtual 73, 3) := by decide +kernel
theorem dX4_readDigit_112 : decode cX4_readDigit 112 = .ok (.aload_n 0, 1) := by decide +kernel
theorem dX4_readDigit_113 : decode cX4_readDigit 113 = .ok (.dup, 1) := by decide +kernel
theorem dX4_readDigit_114 : decode cX4_readDigit 114 = .ok (.getfield 39, 3) := by decide +kernel
theorem dX4_readDigit_117 : decode cX4_readDigit 117 = .ok (.iconst 1, 1) := by decide +kernel
theorem dX4_readDigit_118 : decode cX4_readDigit 118 = .ok (.iadd, 1) := by decide +kernel
theorem dX4_readDigit_119 : decode cX4_readDigit 119 = .ok (.putfield 39, 3) := by decide +kernel
theorem dX4_readDigit_122 : decode cX4_readDigit 122 = .ok (.aload_n 0, 1) := by decide +kernel
theorem dX4_readDigit_123 : decode cX4_readDigit 123 = .ok (.iconst 0, 1) := by decide +kernel
theorem dX4_readDigit_124 : decode cX4_readDigit 124 = .ok (.putfield 42, 3) := by decide +kernel
theorem dX4_readDigit_127 : decode cX4_readDigit 127 = .ok (.return_, 1) := by decide +kernel
theorem dX4_readSign_0 : decode cX4_readSign 0 = .ok (.aload_n 0, 1) := by decide +kernel
theorem dX4_readSign_1 : decode cX4_readSign 1 = .ok (.getfield 42, 3) := by decide +kernel
theorem dX4_readSign_4 : decode cX4_readSign 4 = .ok (.ifCond .eq 31, 3) := by decide +kernel
theorem dX4_readSign_7 : decode cX4_readSign 7 = .ok (.iload_n 1, 1) := by decide +kernel
theorem dX4_readSign_8 : decode cX4_readSign 8 = .ok (.bipush 40, 2) := by decide +kernel
theorem dX4_readSign_10 : decode cX4_readSign 10 = .ok (.if_icmp .ne 25, 3) := by decide +kernel
theorem dX4_readSign_13 : decode cX4_readSign 13 = .ok (.aload_n 0, 1) := by decide +kernel
theorem dX4_readSign_14 : decode cX4_readSign 14 = .ok (.getfield 36, 3) := by decide +kernel
theorem dX4_readSign_17 : decode cX4_readSign 17 = .ok (.bipush 8, 2) := by decide +kernel
theorem dX4_readSign_19 : decode cX4_readSign 19 = .ok (.if_icmp .lt 16, 3) := by decide +kernel
theorem dX4_readSign_22 : decode cX4_readSign 22 = .ok (.aload_n 0, 1) := by decide +kernel
theorem dX4_readSign_23 : decode cX4_readSign 23 = .ok (.bipush 10, 2) := by decide +kernel
theorem dX4_readSign_25 : decode cX4_readSign 25 = .ok (.iload_n 2, 1) := by decide +kernel
theorem dX4_readSign_26 : decode cX4_readSign 26 = .ok (.imul, 1) := by decide +kernel
theorem dX4_readSign_27 : decode cX4_readSign 27 = .ok (.iconst 3, 1) := by decide +kernel
theorem dX4_readSign_28 : decode cX4_readSign 28 = .ok (.iadd, 1) := by decide +kernel
theorem dX4_readSign_29 : decode cX4_readSign 29 = .ok (.putfield 26, 3) := by decide +kernel
theorem dX4_readSign_32 : decode cX4_readSign 32 = .ok (.goto 39, 3) := by decide +kernel
theorem dX4_readSign_35 : decode cX4_readSign 35 = .ok (.aload_n 0, 1) := by decide +kernel
theorem dX4_readSign_36 : decode cX4_readSign 36 = .ok (.getfield 42, 3) := by decide +kernel
theorem dX4_readSign_39 : decode cX4_readSign 39 = .ok (.ifCond .eq 14, 3) := by decide +kernel
theorem dX4_readSign_42 : decode cX4_readSign 42 = .ok (.aload_n 0, 1) := by decide +kernel
theorem dX4_readSign_43 : decode cX4_readSign 43 = .ok (.iload_n 1, 1) := by decide +kernel
theorem dX4_readSign_44 : decode cX4_readSign 44 = .ok (.invokevirtual 76, 3) := by decide +kernel
theorem dX4_readSign_47 : decode cX4_readSign 47 = .ok (.ifCond .ne 24, 3) := by decide +kernel
theorem dX4_readSign_50 : decode cX4_readSign 50 = .ok (.goto 11, 3) := by decide +kernel
theorem dX4_readSign_53 : decode cX4_readSign 53 = .ok (.aload_n 0, 1) := by decide +kernel
theorem dX4_readSign_54 : decode cX4_readSign 54 = .ok (.iload_n 1, 1) := by decide +kernel
theorem dX4_readSign_55 : decode cX4_readSign 55 = .ok (.invokevirtual 80, 3) := by decide +kernel
theorem dX4_readSign_58 : decode cX4_readSign 58 = .ok (.ifCond .ne 13, 3) := by decide +kernel
theorem dX4_readSign_61 : decode cX4_readSign 61 = .ok (.aload_n 0, 1) := by decide +kernel
theorem dX4_readSign_62 : decode cX4_readSign 62 = .ok (.bipush 10, 2) := by decide +kernel
theorem dX4_readSign_64 : decode cX4_readSign 64 = .ok (.iload_n 2, 1) := by decide +kernel
theorem dX4_readSign_65 : decode cX4_readSign 65 = .ok (.imul, 1) := by decide +kernel
theorem dX4_readSign_66 : decode cX4_readSign 66 = .ok (.iconst 1, 1) := by decide +kernel
theorem dX4_readSign_67 : decode cX4_readSign 67 = .ok (.iadd, 1) := by decide +kernel
theorem dX4_readSign_68 : decode cX4_readSign 68 = .ok (.putfield 26, 3) := by decide +kernel
theorem dX4_readSign_71 : decode cX4_readSign 71 = .ok (.return_, 1) := by decide +kernel
theorem dX4_startsUnit_0 : decode cX4_startsUnit 0 = .ok (.iload_n 1, 1) := by decide +kernel
theorem dX4_startsUnit_1 : decode cX4_startsUnit 1 = .ok (.bipush 121, 2) := by decide +kernel
theorem dX4_startsUnit_3 : decode cX4_startsUnit 3 = .ok (.if_icmp .eq 15, 3) := by decide +kernel
theorem dX4_startsUnit_6 : decode cX4_startsUnit 6 = .ok (.iload_n 1, 1) := by decide +kernel
theorem dX4_startsUnit_7 : decode cX4_startsUnit 7 = .ok (.bipush 108, 2) := by decide +kernel
theorem dX4_startsUnit_9 : decode cX4_startsUnit 9 = .ok (.if_icmp .eq 9, 3) := by decide +kernel
theorem dX4_startsUnit_12 : decode cX4_startsUnit 12 = .ok (.iload_n 1, 1) := by decide +kernel
theorem dX4_startsUnit_13 : decode cX4_startsUnit 13 = .ok (.bipush 104, 2) := by decide +kernel
theorem dX4_startsUnit_15 : decode cX4_startsUnit 15 = .ok (.if_icmp .ne 16, 3) := by decide +kernel
theorem dX4_startsUnit_18 : decode cX4_startsUnit 18 = .ok (.aload_n 0, 1) := by decide +kernel
theorem dX4_startsUnit_19 : decode cX4_startsUnit 19 = .ok (.iload_n 1, 1) := by decide +kernel
theorem dX4_startsUnit_20 : decode cX4_startsUnit 20 = .ok (.ineg, 1) := by decide +kernel
theorem dX4_startsUnit_21 : decode cX4_startsUnit 21 = .ok (.invokevirtual 73, 3) := by decide +kernel
theorem dX4_startsUnit_24 : decode cX4_startsUnit 24 = .ok (.aload_n 0, 1) := by decide +kernel
theorem dX4_startsUnit_25 : decode cX4_startsUnit 25 = .ok (.iconst 0, 1) := by decide +kernel
theorem dX4_startsUnit_26 : decode cX4_startsUnit 26 = .ok (.putfield 42, 3) := by decide +kernel
theorem dX4_startsUnit_29 : decode cX4_startsUnit 29 = .ok (.iconst 1, 1) := by decide +kernel
theorem dX4_startsUnit_30 : decode cX4_startsUnit 30 = .ok (.ireturn, 1) := by decide +kernel
theorem dX4_startsUnit_31 : decode cX4_startsUnit 31 = .ok (.iload_n 1, 1) := by decide +kernel
theorem dX4_startsUnit_32 : decode cX4_startsUnit 32 = .ok (.bipush 40, 2) := by decide +kernel
theorem dX4_startsUnit_34 : decode cX4_startsUnit 34 = .ok (.if_icmp .ne 16, 3) := by decide +kernel
theorem dX4_startsUnit_37 : decode cX4_startsUnit 37 = .ok (.aload_n 0, 1) := by decide +kernel
theorem dX4_startsUnit_38 : decode cX4_startsUnit 38 = .ok (.dup, 1) := by decide +kernel
theorem dX4_startsUnit_39 : decode cX4_startsUnit 39 = .ok (.getfield 36, 3) := by decide +kernel
theorem dX4_startsUnit_42 : decode cX4_startsUnit 42 = .ok (.iconst 1, 1) := by decide +kernel
theorem dX4_startsUnit_43 : decode cX4_startsUnit 43 = .ok (.iadd, 1) := by decide +kernel
theorem dX4_startsUnit_44 : decode cX4_startsUnit 44 = .ok (.putfield 36, 3) := by decide +kernel
theorem dX4_startsUnit_47 : decode cX4_startsUnit 47 = .ok (.goto 17, 3) := by decide +kernel
theorem dX4_startsUnit_50 : decode cX4_startsUnit 50 = .ok (.iload_n 1, 1) := by decide +kernel
theorem dX4_startsUnit_51 : decode cX4_startsUnit 51 = .ok (.bipush 33, 2) := by decide +kernel
theorem dX4_startsUnit_53 : decode cX4_startsUnit 53 = .ok (.if_icmp .eq 11, 3) := by decide +kernel
theorem dX4_startsUnit_56 : decode cX4_startsUnit 56 = .ok (.iload_n 1, 1) := by decide +kernel
theorem dX4_startsUnit_57 : decode cX4_startsUnit 57 = .ok (.bipush 45, 2) := by decide +kernel
theorem dX4_startsUnit_59 : decode cX4_startsUnit 59 = .ok (.if_icmp .eq 5, 3) := by decide +kernel
theorem dX4_startsUnit_62 : decode cX4_startsUnit 62 = .ok (.iconst 0, 1) := by decide +kernel
theorem dX4_startsUnit_63 : decode cX4_startsUnit 63 = .ok (.ireturn, 1) := by decide +kernel
theorem dX4_startsUnit_64 : decode cX4_startsUnit 64 = .ok (.aload_n 0, 1) := by decide +kernel
theorem dX4_startsUnit_65 : decode cX4_startsUnit 65 = .ok (.iload_n 1, 1) := by decide +kernel
theorem dX4_startsUnit_66 : decode cX4_startsUnit 66 = .ok (.bipush 45, 2) := by decide +kernel
theorem dX4_startsUnit_68 : decode cX4_startsUnit 68 = .ok (.if_icmp .ne 8, 3) := by decide +kernel
theorem dX4_startsUnit_71 : decode cX4_startsUnit 71 = .ok (.bipush 126, 2) := by decide +kernel
theorem dX4_startsUnit_73 : decode cX4_startsUnit 73 = .ok (.goto 4, 3) := by decide +kernel
theorem dX4_startsUnit_76 : decode cX4_startsUnit 76 = .ok (.iload_n 1, 1) := by decide +kernel
theorem dX4_startsUnit_77 : decode cX4_startsUnit 77 = .ok (.invokevirtual 83, 3) := by decide +kernel
theorem dX4_startsUnit_80 : decode cX4_startsUnit 80 = .ok (.iconst 1, 1) := by decide +kernel
theorem dX4_startsUnit_81 : decode cX4_startsUnit 81 = .ok (.ireturn, 1) := by decide +kernel
theorem dX4_followsUnit_0 : decode cX4_followsUnit 0 = .ok (.iload_n 1, 1) := by decide +kernel
theorem dX4_followsUnit_1 : decode cX4_followsUnit 1 = .ok (.bipush 41, 2) := by decide +kernel
theorem dX4_followsUnit_3 : decode cX4_followsUnit 3 = .ok (.if_icmp .ne 39, 3) := by decide +kernel
theorem dX4_followsUnit_6 : decode cX4_followsUnit 6 = .ok (.aload_n 0, 1) := by decide +kernel
theorem dX4_followsUnit_7 : decode cX4_followsUnit 7 = .ok (.getfield 36, 3) := by decide +kernel
theorem dX4_followsUnit_10 : decode cX4_followsUnit 10 = .ok (.ifCond .ne 5, 3) := by decide +kernel
theorem dX4_followsUnit_13 : decode cX4_followsUnit 13 = .ok (.iconst 0, 1) := by decide +kernel
theorem dX4_followsUnit_14 : decode cX4_followsUnit 14 = .ok (.ireturn, 1) := by decide +kernel
theorem dX4_followsUnit_15 : decode cX4_followsUnit 15 = .ok (.aload_n 0, 1) := by decide +kernel
theorem dX4_followsUnit_16 : decode cX4_followsUnit 16 = .ok (.iconst 1, 1) := by decide +kernel
theorem dX4_followsUnit_17 : decode cX4_followsUnit 17 = .ok (.invokevirtual 69, 3) := by decide +kernel
theorem dX4_followsUnit_20 : decode cX4_followsUnit 20 = .ok (.aload_n 0, 1) := by decide +kernel
theorem dX4_followsUnit_21 : decode cX4_followsUnit 21 = .ok (.dup, 1) := by decide +kernel
theorem dX4_followsUnit_22 : decode cX4_followsUnit 22 = .ok (.getfield 33, 3) := by decide +kernel
theorem dX4_followsUnit_25 : decode cX4_followsUnit 25 = .ok (.iconst 1, 1) := by decide +kernel
theorem dX4_followsUnit_26 : decode cX4_followsUnit 26 = .ok (.isub, 1) := by decide +kernel
theorem dX4_followsUnit_27 : decode cX4_followsUnit 27 = .ok (.putfield 33, 3) := by decide +kernel
theorem dX4_followsUnit_30 : decode cX4_followsUnit 30 = .ok (.aload_n 0, 1) := by decide +kernel
theorem dX4_followsUnit_31 : decode cX4_followsUnit 31 = .ok (.dup, 1) := by decide +kernel
theorem dX4_followsUnit_32 : decode cX4_followsUnit 32 = .ok (.getfield 36, 3) := by decide +kernel
theorem dX4_followsUnit_35 : decode cX4_followsUnit 35 = .ok (.iconst 1, 1) := by decide +kernel
theorem dX4_followsUnit_36 : decode cX4_followsUnit 36 = .ok (.isub, 1) := by decide +kernel
theorem dX4_followsUnit_37 : decode cX4_followsUnit 37 = .ok (.putfield 36, 3) := by decide +kernel
theorem dX4_followsUnit_40 : decode cX4_followsUnit 40 = .ok (.iconst 1, 1) := by decide +kernel
theorem dX4_followsUnit_41 : decode cX4_followsUnit 41 = .ok (.ireturn, 1) := by decide +kernel
theorem dX4_followsUnit_42 : decode cX4_followsUnit 42 = .ok (.iload_n 1, 1) := by decide +kernel
theorem dX4_followsUnit_43 : decode cX4_followsUnit 43 = .ok (.invokestatic 86, 3) := by decide +kernel
theorem dX4_followsUnit_46 : decode cX4_followsUnit 46 = .ok (.istore_n 2, 1) := by decide +kernel
theorem dX4_followsUnit_47 : decode cX4_followsUnit 47 = .ok (.iload_n 2, 1) := by decide +kernel
theorem dX4_followsUnit_48 : decode cX4_followsUnit 48 = .ok (.iconst 1, 1) := by decide +kernel
theorem dX4_followsUnit_49 : decode cX4_followsUnit 49 = .ok (.if_icmp .lt 9, 3) := by decide +kernel
theorem dX4_followsUnit_52 : decode cX4_followsUnit 52 = .ok (.iload_n 2, 1) := by decide +kernel
theorem dX4_followsUnit_53 : decode cX4_followsUnit 53 = .ok (.bipush 6, 2) := by decide +kernel
theorem dX4_followsUnit_55 : decode cX4_followsUnit 55 = .ok (.if_icmp .lt 5, 3) := by decide +kernel
theorem dX4_followsUnit_58 : decode cX4_followsUnit 58 = .ok (.iconst 0, 1) := by decide +kernel
theorem dX4_followsUnit_59 : decode cX4_followsUnit 59 = .ok (.ireturn, 1) := by decide +kernel
theorem dX4_followsUnit_60 : decode cX4_followsUnit 60 = .ok (.aload_n 0, 1) := by decide +kernel
theorem dX4_followsUnit_61 : decode cX4_followsUnit 61 = .ok (.iload_n 2, 1) := by decide +kernel
theorem dX4_followsUnit_62 : decode cX4_followsUnit 62 = .ok (.iconst 3, 1) := by decide +kernel
theorem dX4_followsUnit_63 : decode cX4_followsUnit 63 = .ok (.if_icmp .ne 9, 3) := by decide +kernel
theorem dX4_followsUnit_66 : decode cX4_followsUnit 66 = .ok (.iload_n 2, 1) := by decide +kernel
theorem dX4_followsUnit_67 : decode cX4_followsUnit 67 = .ok (.iconst 1, 1) := by decide +kernel
theorem dX4_followsUnit_68 : decode cX4_followsUnit 68 = .ok (.iadd, 1) := by decide +kernel
theorem dX4_followsUnit_69 : decode cX4_followsUnit 69 = .ok (.goto 4, 3) := by decide +kernel
theorem dX4_followsUnit_72 : decode cX4_followsUnit 72 = .ok (.iload_n 2, 1) := by decide +kernel
theorem dX4_followsUnit_73 : decode cX4_followsUnit 73 = .ok (.invokevirtual 69, 3) := by decide +kernel
theorem dX4_followsUnit_76 : decode cX4_followsUnit 76 = .ok (.iload_n 2, 1) := by decide +kernel
theorem dX4_followsUnit_77 : decode cX4_followsUnit 77 = .ok (.iconst 3, 1) := by decide +kernel
theorem dX4_followsUnit_78 : decode cX4_followsUnit 78 = .ok (.if_icmp .ne 13, 3) := by decide +kernel
theorem dX4_followsUnit_81 : decode cX4_followsUnit 81 = .ok (.aload_n 0, 1) := by decide +kernel
theorem dX4_followsUnit_82 : decode cX4_followsUnit 82 = .ok (.invokevirtual 90, 3) := by decide +kernel
theorem dX4_followsUnit_85 : decode cX4_followsUnit 85 = .ok (.iconst 3, 1) := by decide +kernel
theorem dX4_followsUnit_86 : decode cX4_followsUnit 86 = .ok (.if_icmp .ne 5, 3) := by decide +kernel
theorem dX4_followsUnit_89 : decode cX4_followsUnit 89 = .ok (.iconst 0, 1) := by decide +kernel
theorem dX4_followsUnit_90 : decode cX4_followsUnit 90 = .ok (.ireturn, 1) := by decide +kernel
theorem dX4_followsUnit_91 : decode cX4_followsUnit 91 = .ok (.aload_n 0, 1) := by decide +kernel
theorem dX4_followsUnit_92 : decode cX4_followsUnit 92 = .ok (.iload_n 1, 1) := by decide +kernel
theorem dX4_followsUnit_93 : decode cX4_followsUnit 93 = .ok (.invokevirtual 83, 3) := by decide +kernel
theorem dX4_followsUnit_96 : decode cX4_followsUnit 96 = .ok (.aload_n 0, 1) := by decide +kernel
theorem dX4_followsUnit_97 : decode cX4_followsUnit 97 = .ok (.iconst 1, 1) := by decide +kernel
theorem dX4_followsUnit_98 : decode cX4_followsUnit 98 = .ok (.putfield 42, 3) := by decide +kernel
theorem dX4_followsUnit_101 : decode cX4_followsUnit 101 = .ok (.iconst 1, 1) := by decide +kernel
theorem dX4_followsUnit_102 : decode cX4_followsUnit 102 = .ok (.ireturn, 1) := by decide +kernel
theorem dX4_rank_0 : decode cX4_rank 0 = .ok (.iload_n 0, 1) := by decide +kernel
theorem dX4_rank_1 : decode cX4_rank 1 = .ok (.lookupswitch 112 #[(33, 109), (38, 101), (42, 107), (43, 105), (45, 105), (47, 107), (60, 103), (61, 103), (62, 103), (124, 99), (126, 109)], 99) := by decide +kernel
theorem dX4_rank_100 : decode cX4_rank 100 = .ok (.iconst 1, 1) := by decide +kernel
theorem dX4_rank_101 : decode cX4_rank 101 = .ok (.ireturn, 1) := by decide +kernel
theorem dX4_rank_102 : decode cX4_rank 102 = .ok (.iconst 2, 1) := by decide +kernel
theorem dX4_rank_103 : decode cX4_rank 103 = .ok (.ireturn, 1) := by decide +kernel
theorem dX4_rank_104 : decode cX4_rank 104 = .ok (.iconst 3, 1) := by decide +kernel
theorem dX4_rank_105 : decode cX4_rank 105 = .ok (.ireturn, 1) := by decide +kernel
theorem dX4_rank_106 : decode cX4_rank 106 = .ok (.iconst 4, 1) := by decide +kernel
theorem dX4_rank_107 : decode cX4_rank 107 = .ok (.ireturn, 1) := by decide +kernel
theorem dX4_rank_108 : decode cX4_rank 108 = .ok (.iconst 5, 1) := by decide +kernel
theorem dX4_rank_109 : decode cX4_rank 109 = .ok (.ireturn, 1) := by decide +kernel
theorem dX4_rank_110 : decode cX4_rank 110 = .ok (.bipush 6, 2) := by decide +kernel
theorem dX4_rank_112 : decode cX4_rank 112 = .ok (.ireturn, 1) := by decide +kernel
theorem dX4_rank_113 : decode cX4_rank 113 = .ok (.iconst 0, 1) := by decide +kernel
theorem dX4_rank_114 : decode cX4_rank 114 = .ok (.ireturn, 1) := by decide +kernel
theorem dX4_lastRank_0 : decode cX4_lastRank 0 = .ok (.aload_n 0, 1) := by decide +kernel
theorem dX4_lastRank_1 : decode cX4_lastRank 1 = .ok (.getfield 33, 3) := by decide +kernel
theorem dX4_lastRank_4 : decode cX4_lastRank 4 = .ok (.ifCond .le 32, 3) := by decide +kernel
theorem dX4_lastRank_7 : decode cX4_lastRank 7 = .ok (.aload_n 0, 1) := by decide +kernel
theorem dX4_lastRank_8 : decode cX4_lastRank 8 = .ok (.getfield 33, 3) := by decide +kernel
theorem dX4_lastRank_11 : decode cX4_lastRank 11 = .ok (.aload_n 0, 1) := by decide +kernel
theorem dX4_lastRank_12 : decode cX4_lastRank 12 = .ok (.getfield 15, 3) := by decide +kernel
theorem dX4_lastRank_15 : decode cX4_lastRank 15 = .ok (.arraylength, 1) := by decide +kernel
theorem dX4_lastRank_16 : decode cX4_lastRank 16 = .ok (.if_icmp .gt 20, 3) := by decide +kernel
theorem dX4_lastRank_19 : decode cX4_lastRank 19 = .ok (.aload_n 0, 1) := by decide +kernel
theorem dX4_lastRank_20 : decode cX4_lastRank 20 = .ok (.getfield 15, 3) := by decide +kernel
theorem dX4_lastRank_23 : decode cX4_lastRank 23 = .ok (.aload_n 0, 1) := by decide +kernel
theorem dX4_lastRank_24 : decode cX4_lastRank 24 = .ok (.getfield 33, 3) := by decide +kernel
theorem dX4_lastRank_27 : decode cX4_lastRank 27 = .ok (.iconst 1, 1) := by decide +kernel
theorem dX4_lastRank_28 : decode cX4_lastRank 28 = .ok (.isub, 1) := by decide +kernel
theorem dX4_lastRank_29 : decode cX4_lastRank 29 = .ok (.iaload, 1) := by decide +kernel
theorem dX4_lastRank_30 : decode cX4_lastRank 30 = .ok (.invokestatic 86, 3) := by decide +kernel
theorem dX4_lastRank_33 : decode cX4_lastRank 33 = .ok (.goto 4, 3) := by decide +kernel
theorem dX4_lastRank_36 : decode cX4_lastRank 36 = .ok (.iconst 0, 1) := by decide +kernel
theorem dX4_lastRank_37 : decode cX4_lastRank 37 = .ok (.ireturn, 1) := by decide +kernel
theorem dX4_settle_0 : decode cX4_settle 0 = .ok (.aload_n 0, 1) := by decide +kernel
theorem dX4_settle_1 : decode cX4_settle 1 = .ok (.getfield 33, 3) := by decide +kernel
theorem dX4_settle_4 : decode cX4_settle 4 = .ok (.iconst 1, 1) := by decide +kernel
theorem dX4_settle_5 : decode cX4_settle 5 = .ok (.isub, 1) := by decide +kernel
theorem dX4_settle_6 : decode cX4_settle 6 = .ok (.istore_n 2, 1) := by decide +kernel
theorem dX4_settle_7 : decode cX4_settle 7 = .ok (.iload_n 2, 1) := by decide +kernel
theorem dX4_settle_8 : decode cX4_settle 8 = .ok (.ifCond .lt 47, 3) := by decide +kernel
theorem dX4_settle_11 : decode cX4_settle 11 = .ok (.iload_n 2, 1) := by decide +kernel
theorem dX4_settle_12 : decode cX4_settle 12 = .ok (.aload_n 0, 1) := by decide +kernel
theorem dX4_settle_13 : decode cX4_settle 13 = .ok (.getfield 15, 3) := by decide +kernel
theorem dX4_settle_16 : decode cX4_settle 16 = .ok (.arraylength, 1) := by decide +kernel
theorem dX4_settle_17 : decode cX4_settle 17 = .ok (.if_icmp .ge 38, 3) := by decide +kernel
theorem dX4_settle_20 : decode cX4_settle 20 = .ok (.aload_n 0, 1) := by decide +kernel
theorem dX4_settle_21 : decode cX4_settle 21 = .ok (.getfield 15, 3) := by decide +kernel
theorem dX4_settle_24 : decode cX4_settle 24 = .ok (.iload_n 2, 1) := by decide +kernel
theorem dX4_settle_25 : decode cX4_settle 25 = .ok (.iaload, 1) := by decide +kernel
theorem dX4_settle_26 : decode cX4_settle 26 = .ok (.invokestatic 86, 3) := by decide +kernel
theorem dX4_settle_29 : decode cX4_settle 29 = .ok (.iload_n 1, 1) := by decide +kernel
theorem dX4_settle_30 : decode cX4_settle 30 = .ok (.if_icmp .lt 25, 3) := by decide +kernel
theorem dX4_settle_33 : decode cX4_settle 33 = .ok (.aload_n 0, 1) := by decide +kernel
theorem dX4_settle_34 : decode cX4_settle 34 = .ok (.aload_n 0, 1) := by decide +kernel
theorem dX4_settle_35 : decode cX4_settle 35 = .ok (.getfield 15, 3) := by decide +kernel
theorem dX4_settle_38 : decode cX4_settle 38 = .ok (.iload_n 2, 1) := by decide +kernel
theorem dX4_settle_39 : decode cX4_settle 39 = .ok (.iaload, 1) := by decide +kernel
theorem dX4_settle_40 : decode cX4_settle 40 = .ok (.ineg, 1) := by decide +kernel
theorem dX4_settle_41 : decode cX4_settle 41 = .ok (.invokevirtual 73, 3) := by decide +kernel
theorem dX4_settle_44 : decode cX4_settle 44 = .ok (.aload_n 0, 1) := by decide +kernel
theorem dX4_settle_45 : decode cX4_settle 45 = .ok (.iload_n 2, 1) := by decide +kernel
theorem dX4_settle_46 : decode cX4_settle 46 = .ok (.putfield 33, 3) := by decide +kernel
theorem dX4_settle_49 : decode cX4_settle 49 = .ok (.iinc 2 (-1), 3) := by decide +kernel
theorem dX4_settle_52 : decode cX4_settle 52 = .ok (.goto (-45), 3) := by decide +kernel
theorem dX4_settle_55 : decode cX4_settle 55 = .ok (.return_, 1) := by decide +kernel
theorem dX4_put_0 : decode cX4_put 0 = .ok (.aload_n 0, 1) := by decide +kernel
theorem dX4_put_1 : decode cX4_put 1 = .ok (.getfield 30, 3) := by decide +kernel
theorem dX4_put_4 : decode cX4_put 4 = .ok (.ifCond .lt 35, 3) := by decide +kernel
theorem dX4_put_7 : decode cX4_put 7 = .ok (.aload_n 0, 1) := by decide +kernel
theorem dX4_put_8 : decode cX4_put 8 = .ok (.getfield 30, 3) := by decide +kernel
theorem dX4_put_11 : decode cX4_put 11 = .ok (.aload_n 0, 1) := by decide +kernel
theorem dX4_put_12 : decode cX4_put 12 = .ok (.getfield 11, 3) := by decide +kernel
theorem dX4_put_15 : decode cX4_put 15 = .ok (.arraylength, 1) := by decide +kernel
theorem dX4_put_16 : decode cX4_put 16 = .ok (.if_icmp .ge 23, 3) := by decide +kernel
theorem dX4_put_19 : decode cX4_put 19 = .ok (.aload_n 0, 1) := by decide +kernel
theorem dX4_put_20 : decode cX4_put 20 = .ok (.getfield 11, 3) := by decide +kernel
theorem dX4_put_23 : decode cX4_put 23 = .ok (.aload_n 0, 1) := by decide +kernel
theorem dX4_put_24 : decode cX4_put 24 = .ok (.getfield 30, 3) := by decide +kernel
theorem dX4_put_27 : decode cX4_put 27 = .ok (.iload_n 1, 1) := by decide +kernel
theorem dX4_put_28 : decode cX4_put 28 = .ok (.iastore, 1) := by decide +kernel
theorem dX4_put_29 : decode cX4_put 29 = .ok (.aload_n 0, 1) := by decide +kernel
theorem dX4_put_30 : decode cX4_put 30 = .ok (.dup, 1) := by decide +kernel
theorem dX4_put_31 : decode cX4_put 31 = .ok (.getfield 30, 3) := by decide +kernel
theorem dX4_put_34 : decode cX4_put 34 = .ok (.iconst 1, 1) := by decide +kernel
theorem dX4_put_35 : decode cX4_put 35 = .ok (.iadd, 1) := by decide +kernel
theorem dX4_put_36 : decode cX4_put 36 = .ok (.putfield 30, 3) := by decide +kernel
theorem dX4_put_39 : decode cX4_put 39 = .ok (.return_, 1) := by decide +kernel
theorem dX4_await_0 : decode cX4_await 0 = .ok (.aload_n 0, 1) := by decide +kernel
theorem dX4_await_1 : decode cX4_await 1 = .ok (.getfield 33, 3) := by decide +kernel
theorem dX4_await_4 : decode cX4_await 4 = .ok (.ifCond .lt 35, 3) := by decide +kernel
theorem dX4_await_7 : decode cX4_await 7 = .ok (.aload_n 0, 1) := by decide +kernel
theorem dX4_await_8 : decode cX4_await 8 = .ok (.getfield 33, 3) := by decide +kernel
theorem dX4_await_11 : decode cX4_await 11 = .ok (.aload_n 0, 1) := by decide +kernel
theorem dX4_await_12 : decode cX4_await 12 = .ok (.getfield 15, 3) := by decide +kernel
theorem dX4_await_15 : decode cX4_await 15 = .ok (.arraylength, 1) := by decide +kernel
theorem dX4_await_16 : decode cX4_await 16 = .ok (.if_icmp .ge 23, 3) := by decide +kernel
theorem dX4_await_19 : decode cX4_await 19 = .ok (.aload_n 0, 1) := by decide +kernel
theorem dX4_await_20 : decode cX4_await 20 = .ok (.getfield 15, 3) := by decide +kernel
theorem dX4_await_23 : decode cX4_await 23 = .ok (.aload_n 0, 1) := by decide +kernel
theorem dX4_await_24 : decode cX4_await 24 = .ok (.getfield 33, 3) := by decide +kernel
theorem dX4_await_27 : decode cX4_await 27 = .ok (.iload_n 1, 1) := by decide +kernel
theorem dX4_await_28 : decode cX4_await 28 = .ok (.iastore, 1) := by decide +kernel
theorem dX4_await_29 : decode cX4_await 29 = .ok (.aload_n 0, 1) := by decide +kernel
theorem dX4_await_30 : decode cX4_await 30 = .ok (.dup, 1) := by decide +kernel
theorem dX4_await_31 : decode cX4_await 31 = .ok (.getfield 33, 3) := by decide +kernel
theorem dX4_await_34 : decode cX4_await 34 = .ok (.iconst 1, 1) := by decide +kernel
theorem dX4_await_35 : decode cX4_await 35 = .ok (.iadd, 1) := by decide +kernel
theorem dX4_await_36 : decode cX4_await 36 = .ok (.putfield 33, 3) := by decide +kernel
theorem dX4_await_39 : decode cX4_await 39 = .ok (.return_, 1) := by decide +kernel
theorem dX4_wornOf_0 : decode cX4_wornOf 0 = .ok (.iconst 0, 1) := by decide +kernel
theorem dX4_wornOf_1 : decode cX4_wornOf 1 = .ok (.iload_n 2, 1) := by decide +kernel
theorem dX4_wornOf_2 : decode cX4_wornOf 2 = .ok (.aload_n 0, 1) := by decide +kernel
theorem dX4_wornOf_3 : decode cX4_wornOf 3 = .ok (.getfield 22, 3) := by decide +kernel
theorem dX4_wornOf_6 : decode cX4_wornOf 6 = .ok (.getfield 93, 3) := by decide +kernel
theorem dX4_wornOf_9 : decode cX4_wornOf 9 = .ok (.iload_n 1, 1) := by decide +kernel
theorem dX4_wornOf_10 : decode cX4_wornOf 10 = .ok (.iconst 2, 1) := by decide +kernel
theorem dX4_wornOf_11 : decode cX4_wornOf 11 = .ok (.invokevirtual 58, 3) := by decide +kernel
theorem dX4_wornOf_14 : decode cX4_wornOf 14 = .ok (.isub, 1) := by decide +kernel
theorem dX4_wornOf_15 : decode cX4_wornOf 15 = .ok (.invokestatic 96, 3) := by decide +kernel
theorem dX4_wornOf_18 : decode cX4_wornOf 18 = .ok (.istore_n 3, 1) := by decide +kernel
theorem dX4_wornOf_19 : decode cX4_wornOf 19 = .ok (.aload_n 0, 1) := by decide +kernel
theorem dX4_wornOf_20 : decode cX4_wornOf 20 = .ok (.getfield 26, 3) := by decide +kernel
theorem dX4_wornOf_23 : decode cX4_wornOf 23 = .ok (.iconst (-1), 1) := by decide +kernel
theorem dX4_wornOf_24 : decode cX4_wornOf 24 = .ok (.if_icmp .eq 5, 3) := by decide +kernel
theorem dX4_wornOf_27 : decode cX4_wornOf 27 = .ok (.iload_n 3, 1) := by decide +kernel
theorem dX4_wornOf_28 : decode cX4_wornOf 28 = .ok (.ireturn, 1) := by decide +kernel
theorem dX4_wornOf_29 : decode cX4_wornOf 29 = .ok (.aload_n 0, 1) := by decide +kernel
theorem dX4_wornOf_30 : decode cX4_wornOf 30 = .ok (.iload_n 3, 1) := by decide +kernel
theorem dX4_wornOf_31 : decode cX4_wornOf 31 = .ok (.aload_n 0, 1) := by decide +kernel
theorem dX4_wornOf_32 : decode cX4_wornOf 32 = .ok (.getfield 22, 3) := by decide +kernel
theorem dX4_wornOf_35 : decode cX4_wornOf 35 = .ok (.getfield 93, 3) := by decide +kernel
theorem dX4_wornOf_38 : decode cX4_wornOf 38 = .ok (.iload_n 1, 1) := by decide +kernel
theorem dX4_wornOf_39 : decode cX4_wornOf 39 = .ok (.iconst 0, 1) := by decide +kernel
theorem dX4_wornOf_40 : decode cX4_wornOf 40 = .ok (.invokevirtual 58, 3) := by decide +kernel
theorem dX4_wornOf_43 : decode cX4_wornOf 43 = .ok (.aload_n 0, 1) := by decide +kernel
theorem dX4_wornOf_44 : decode cX4_wornOf 44 = .ok (.getfield 22, 3) := by decide +kernel
theorem dX4_wornOf_47 : decode cX4_wornOf 47 = .ok (.getfield 93, 3) := by decide +kernel
theorem dX4_wornOf_50 : decode cX4_wornOf 50 = .ok (.iload_n 1, 1) := by decide +kernel
theorem dX4_wornOf_51 : decode cX4_wornOf 51 = .ok (.iconst 1, 1) := by decide +kernel
theorem dX4_wornOf_52 : decode cX4_wornOf 52 = .ok (.invokevirtual 58, 3) := by decide +kernel
theorem dX4_wornOf_55 : decode cX4_wornOf 55 = .ok (.invokevirtual 101, 3) := by decide +kernel
theorem dX4_wornOf_58 : decode cX4_wornOf 58 = .ok (.lstore 4, 2) := by decide +kernel
theorem dX4_wornOf_60 : decode cX4_wornOf 60 = .ok (.lconst 0, 1) := by decide +kernel
theorem dX4_wornOf_61 : decode cX4_wornOf 61 = .ok (.ldc2_w 105, 3) := by decide +kernel
theorem dX4_wornOf_64 : decode cX4_wornOf 64 = .ok (.lload 4, 2) := by decide +kernel
theorem dX4_wornOf_66 : decode cX4_wornOf 66 = .ok (.invokestatic 107, 3) := by decide +kernel
theorem dX4_wornOf_69 : decode cX4_wornOf 69 = .ok (.invokestatic 111, 3) := by decide +kernel
theorem dX4_wornOf_72 : decode cX4_wornOf 72 = .ok (.l2i, 1) := by decide +kernel
theorem dX4_wornOf_73 : decode cX4_wornOf 73 = .ok (.ireturn, 1) := by decide +kernel
theorem dX4_tells_0 : decode cX4_tells 0 = .ok (.iconst 0, 1) := by decide +kernel
theorem dX4_tells_1 : decode cX4_tells 1 = .ok (.istore 4, 2) := by decide +kernel
theorem dX4_tells_3 : decode cX4_tells 3 = .ok (.iconst 0, 1) := by decide +kernel
theorem dX4_tells_4 : decode cX4_tells 4 = .ok (.istore 5, 2) := by decide +kernel
theorem dX4_tells_6 : decode cX4_tells 6 = .ok (.iload 5, 2) := by decide +kernel
theorem dX4_tells_8 : decode cX4_tells 8 = .ok (.aload_n 0, 1) := by decide +kernel
theorem dX4_tells_9 : decode cX4_tells 9 = .ok (.getfield 30, 3) := by decide +kernel
theorem dX4_tells_12 : decode cX4_tells 12 = .ok (.if_icmp .ge 231, 3) := by decide +kernel
theorem dX4_tells_15 : decode cX4_tells 15 = .ok (.iload 5, 2) := by decide +kernel
theorem dX4_tells_17 : decode cX4_tells 17 = .ok (.aload_n 0, 1) := by decide +kernel
theorem dX4_tells_18 : decode cX4_tells 18 = .ok (.getfield 11, 3) := by decide +kernel
theorem dX4_tells_21 : decode cX4_tells 21 = .ok (.arraylength, 1) := by decide +kernel
theorem dX4_tells_22 : decode cX4_tells 22 = .ok (.if_icmp .ge 221, 3) := by decide +kernel
theorem dX4_tells_25 : decode cX4_tells 25 = .ok (.aload_n 0, 1) := by decide +kernel
theorem dX4_tells_26 : decode cX4_tells 26 = .ok (.getfield 11, 3) := by decide +kernel
theorem dX4_tells_29 : decode cX4_tells 29 = .ok (.iload 5, 2) := by decide +kernel
theorem dX4_tells_31 : decode cX4_tells 31 = .ok (.iaload, 1) := by decide +kernel
theorem dX4_tells_32 : decode cX4_tells 32 = .ok (.istore 6, 2) := by decide +kernel
theorem dX4_tells_34 : decode cX4_tells 34 = .ok (.iload 6, 2) := by decide +kernel
theorem dX4_tells_36 : decode cX4_tells 36 = .ok (.ifCond .ge 24, 3) := by decide +kernel
theorem dX4_tells_39 : decode cX4_tells 39 = .ok (.iload 6, 2) := by decide +kernel
theorem dX4_tells_41 : decode cX4_tells 41 = .ok (.bipush (-121), 2) := by decide +kernel
theorem dX4_tells_43 : decode cX4_tells 43 = .ok (.if_icmp .eq 17, 3) := by decide +kernel
theorem dX4_tells_46 : decode cX4_tells 46 = .ok (.iload 6, 2) := by decide +kernel
theorem dX4_tells_48 : decode cX4_tells 48 = .ok (.bipush (-108), 2) := by decide +kernel
theorem dX4_tells_50 : decode cX4_tells 50 = .ok (.if_icmp .eq 10, 3) := by decide +kernel
theorem dX4_tells_53 : decode cX4_tells 53 = .ok (.iload 6, 2) := by decide +kernel
theorem dX4_tells_55 : decode cX4_tells 55 = .ok (.bipush (-104), 2) := by decide +kernel
theorem dX4_tells_57 : decode cX4_tells 57 = .ok (.if_icmp .ne 65, 3) := by decide +kernel
theorem dX4_tells_60 : decode cX4_tells 60 = .ok (.iload 4, 2) := by decide +kernel
theorem dX4_tells_62 : decode cX4_tells 62 = .ok (.aload_n 0, 1) := by decide +kernel
theorem dX4_tells_63 : decode cX4_tells 63 = .ok (.getfield 18, 3) := by decide +kernel
theorem dX4_tells_66 : decode cX4_tells 66 = .ok (.arraylength, 1) := by decide +kernel
theorem dX4_tells_67 : decode cX4_tells 67 = .ok (.if_icmp .lt 5, 3) := by decide +kernel
theorem dX4_tells_70 : decode cX4_tells 70 = .ok (.lconst 0, 1) := by decide +kernel
theorem dX4_tells_71 : decode cX4_tells 71 = .ok (.lreturn, 1) := by decide +kernel
theorem dX4_tells_72 : decode cX4_tells 72 = .ok (.aload_n 0, 1) := by decide +kernel
theorem dX4_tells_73 : decode cX4_tells 73 = .ok (.getfield 18, 3) := by decide +kernel
theorem dX4_tells_76 : decode cX4_tells 76 = .ok (.iload 4, 2) := by decide +kernel
theorem dX4_tells_78 : decode cX4_tells 78 = .ok (.iload 6, 2) := by decide +kernel
theorem dX4_tells_80 : decode cX4_tells 80 = .ok (.ifCond .lt 9, 3) := by decide +kernel
theorem dX4_tells_83 : decode cX4_tells 83 = .ok (.iload 6, 2) := by decide +kernel
theorem dX4_tells_85 : decode cX4_tells 85 = .ok (.i2l, 1) := by decide +kernel
theorem dX4_tells_86 : decode cX4_tells 86 = .ok (.goto 29, 3) := by decide +kernel
theorem dX4_tells_89 : decode cX4_tells 89 = .ok (.iload 6, 2) := by decide +kernel
theorem dX4_tells_91 : decode cX4_tells 91 = .ok (.bipush (-121), 2) := by decide +kernel
theorem dX4_tells_93 : decode cX4_tells 93 = .ok (.if_icmp .ne 8, 3) := by decide +kernel
theorem dX4_tells_96 : decode cX4_tells 96 = .ok (.iload_n 1, 1) := by decide +kernel
theorem dX4_tells_97 : decode cX4_tells 97 = .ok (.i2l, 1) := by decide +kernel
theorem dX4_tells_98 : decode cX4_tells 98 = .ok (.goto 17, 3) := by decide +kernel
theorem dX4_tells_101 : decode cX4_tells 101 = .ok (.iload 6, 2) := by decide +kernel
theorem dX4_tells_103 : decode cX4_tells 103 = .ok (.bipush (-108), 2) := by decide +kernel
theorem dX4_tells_105 : decode cX4_tells 105 = .ok (.if_icmp .ne 8, 3) := by decide +kernel
theorem dX4_tells_108 : decode cX4_tells 108 = .ok (.iload_n 2, 1) := by decide +kernel
theorem dX4_tells_109 : decode cX4_tells 109 = .ok (.i2l, 1) := by decide +kernel
theorem dX4_tells_110 : decode cX4_tells 110 = .ok (.goto 5, 3) := by decide +kernel
theorem dX4_tells_113 : decode cX4_tells 113 = .ok (.iload_n 3, 1) := by decide +kernel
theorem dX4_tells_114 : decode cX4_tells 114 = .ok (.i2l, 1) := by decide +kernel
theorem dX4_tells_115 : decode cX4_tells 115 = .ok (.lastore, 1) := by decide +kernel
theorem dX4_tells_116 : decode cX4_tells 116 = .ok (.iinc 4 1, 3) := by decide +kernel
theorem dX4_tells_119 : decode cX4_tells 119 = .ok (.goto 118, 3) := by decide +kernel
theorem dX4_tells_122 : decode cX4_tells 122 = .ok (.iload 6, 2) := by decide +kernel
theorem dX4_tells_124 : decode cX4_tells 124 = .ok (.bipush (-33), 2) := by decide +kernel
theorem dX4_tells_126 : decode cX4_tells 126 = .ok (.if_icmp .eq 10, 3) := by decide +kernel
theorem dX4_tells_129 : decode cX4_tells 129 = .ok (.iload 6, 2) := by decide +kernel
theorem dX4_tells_131 : decode cX4_tells 131 = .ok (.bipush (-126), 2) := by decide +kernel
theorem dX4_tells_133 : decode cX4_tells 133 = .ok (.if_icmp .ne 62, 3) := by decide +kernel
theorem dX4_tells_136 : decode cX4_tells 136 = .ok (.iload 4, 2) := by decide +kernel
theorem dX4_tells_138 : decode cX4_tells 138 = .ok (.iconst 1, 1) := by decide +kernel
theorem dX4_tells_139 : decode cX4_tells 139 = .ok (.if_icmp .ge 5, 3) := by decide +kernel
theorem dX4_tells_142 : decode cX4_tells 142 = .ok (.lconst 0, 1) := by decide +kernel
theorem dX4_tells_143 : decode cX4_tells 143 = .ok (.lreturn, 1) := by decide +kernel
theorem dX4_tells_144 : decode cX4_tells 144 = .ok (.aload_n 0, 1) := by decide +kernel
theorem dX4_tells_145 : decode cX4_tells 145 = .ok (.getfield 18, 3) := by decide +kernel
theorem dX4_tells_148 : decode cX4_tells 148 = .ok (.iload 4, 2) := by decide +kernel
theorem dX4_tells_150 : decode cX4_tells 150 = .ok (.iconst 1, 1) := by decide +kernel
theorem dX4_tells_151 : decode cX4_tells 151 = .ok (.isub, 1) := by decide +kernel
theorem dX4_tells_152 : decode cX4_tells 152 = .ok (.iload 6, 2) := by decide +kernel
theorem dX4_tells_154 : decode cX4_tells 154 = .ok (.bipush (-126), 2) := by decide +kernel
theorem dX4_tells_156 : decode cX4_tells 156 = .ok (.if_icmp .ne 16, 3) := by decide +kernel
theorem dX4_tells_159 : decode cX4_tells 159 = .ok (.aload_n 0, 1) := by decide +kernel
theorem dX4_tells_160 : decode cX4_tells 160 = .ok (.getfield 18, 3) := by decide +kernel
theorem dX4_tells_163 : decode cX4_tells 163 = .ok (.iload 4, 2) := by decide +kernel
theorem dX4_tells_165 : decode cX4_tells 165 = .ok (.iconst 1, 1) := by decide +kernel
theorem dX4_tells_166 : decode cX4_tells 166 = .ok (.isub, 1) := by decide +kernel
theorem dX4_tells_167 : decode cX4_tells 167 = .ok (.laload, 1) := by decide +kernel
theorem dX4_tells_168 : decode cX4_tells 168 = .ok (.lneg, 1) := by decide +kernel
theorem dX4_tells_169 : decode cX4_tells 169 = .ok (.goto 22, 3) := by decide +kernel
theorem dX4_tells_172 : decode cX4_tells 172 = .ok (.aload_n 0, 1) := by decide +kernel
theorem dX4_tells_173 : decode cX4_tells 173 = .ok (.getfield 18, 3) := by decide +kernel
theorem dX4_tells_176 : decode cX4_tells 176 = .ok (.iload 4, 2) := by decide +kernel
theorem dX4_tells_178 : decode cX4_tells 178 = .ok (.iconst 1, 1) := by decide +kernel
theorem dX4_tells_179 : decode cX4_tells 179 = .ok (.isub, 1) := by decide +kernel
theorem dX4_tells_180 : decode cX4_tells 180 = .ok (.laload, 1) := by decide +kernel
theorem dX4_tells_181 : decode cX4_tells 181 = .ok (.lconst 0, 1) := by decide +kernel
theorem dX4_tells_182 : decode cX4_tells 182 = .ok (.lcmp, 1) := by decide +kernel
theorem dX4_tells_183 : decode cX4_tells 183 = .ok (.ifCond .ne 7, 3) := by decide +kernel
theorem dX4_tells_186 : decode cX4_tells 186 = .ok (.lconst 1, 1) := by decide +kernel
theorem dX4_tells_187 : decode cX4_tells 187 = .ok (.goto 4, 3) := by decide +kernel
theorem dX4_tells_190 : decode cX4_tells 190 = .ok (.lconst 0, 1) := by decide +kernel
theorem dX4_tells_191 : decode cX4_tells 191 = .ok (.lastore, 1) := by decide +kernel
theorem dX4_tells_192 : decode cX4_tells 192 = .ok (.goto 45, 3) := by decide +kernel
theorem dX4_tells_195 : decode cX4_tells 195 = .ok (.iload 4, 2) := by decide +kernel
theorem dX4_tells_197 : decode cX4_tells 197 = .ok (.iconst 2, 1) := by decide +kernel
theorem dX4_tells_198 : decode cX4_tells 198 = .ok (.if_icmp .ge 5, 3) := by decide +kernel
theorem dX4_tells_201 : decode cX4_tells 201 = .ok (.lconst 0, 1) := by decide +kernel
theorem dX4_tells_202 : decode cX4_tells 202 = .ok (.lreturn, 1) := by decide +kernel
theorem dX4_tells_203 : decode cX4_tells 203 = .ok (.iinc 4 (-1), 3) := by decide +kernel
theorem dX4_tells_206 : decode cX4_tells 206 = .ok (.aload_n 0, 1) := by decide +kernel
theorem dX4_tells_207 : decode cX4_tells 207 = .ok (.getfield 18, 3) := by decide +kernel
theorem dX4_tells_210 : decode cX4_tells 210 = .ok (.iload 4, 2) := by decide +kernel
theorem dX4_tells_212 : decode cX4_tells 212 = .ok (.iconst 1, 1) := by decide +kernel
theorem dX4_tells_213 : decode cX4_tells 213 = .ok (.isub, 1) := by decide +kernel
theorem dX4_tells_214 : decode cX4_tells 214 = .ok (.iload 6, 2) := by decide +kernel
theorem dX4_tells_216 : decode cX4_tells 216 = .ok (.ineg, 1) := by decide +kernel
theorem dX4_tells_217 : decode cX4_tells 217 = .ok (.aload_n 0, 1) := by decide +kernel
theorem dX4_tells_218 : decode cX4_tells 218 = .ok (.getfield 18, 3) := by decide +kernel
theorem dX4_tells_221 : decode cX4_tells 221 = .ok (.iload 4, 2) := by decide +kernel
theorem dX4_tells_223 : decode cX4_tells 223 = .ok (.iconst 1, 1) := by decide +kernel
theorem dX4_tells_224 : decode cX4_tells 224 = .ok (.isub, 1) := by decide +kernel
theorem dX4_tells_225 : decode cX4_tells 225 = .ok (.laload, 1) := by decide +kernel
theorem dX4_tells_226 : decode cX4_tells 226 = .ok (.aload_n 0, 1) := by decide +kernel
theorem dX4_tells_227 : decode cX4_tells 227 = .ok (.getfield 18, 3) := by decide +kernel
theorem dX4_tells_230 : decode cX4_tells 230 = .ok (.iload 4, 2) := by decide +kernel
theorem dX4_tells_232 : decode cX4_tells 232 = .ok (.laload, 1) := by decide +kernel
theorem dX4_tells_233 : decode cX4_tells 233 = .ok (.invokestatic 113, 3) := by decide +kernel
theorem dX4_tells_236 : decode cX4_tells 236 = .ok (.lastore, 1) := by decide +kernel
theorem dX4_tells_237 : decode cX4_tells 237 = .ok (.iinc 5 1, 3) := by decide +kernel
theorem dX4_tells_240 : decode cX4_tells 240 = .ok (.goto (-234), 3) := by decide +kernel
theorem dX4_tells_243 : decode cX4_tells 243 = .ok (.iload 4, 2) := by decide +kernel
theorem dX4_tells_245 : decode cX4_tells 245 = .ok (.ifCond .le 15, 3) := by decide +kernel
theorem dX4_tells_248 : decode cX4_tells 248 = .ok (.aload_n 0, 1) := by decide +kernel
theorem dX4_tells_249 : decode cX4_tells 249 = .ok (.getfield 18, 3) := by decide +kernel
theorem dX4_tells_252 : decode cX4_tells 252 = .ok (.iload 4, 2) := by decide +kernel
theorem dX4_tells_254 : decode cX4_tells 254 = .ok (.iconst 1, 1) := by decide +kernel
theorem dX4_tells_255 : decode cX4_tells 255 = .ok (.isub, 1) := by decide +kernel
theorem dX4_tells_256 : decode cX4_tells 256 = .ok (.laload, 1) := by decide +kernel
theorem dX4_tells_257 : decode cX4_tells 257 = .ok (.goto 4, 3) := by decide +kernel
theorem dX4_tells_260 : decode cX4_tells 260 = .ok (.lconst 0, 1) := by decide +kernel
theorem dX4_tells_261 : decode cX4_tells 261 = .ok (.lreturn, 1) := by decide +kernel
theorem dX4_joined_0 : decode cX4_joined 0 = .ok (.iload_n 0, 1) := by decide +kernel
theorem dX4_joined_1 : decode cX4_joined 1 = .ok (.lookupswitch 181 #[(38, 101), (42, 163), (43, 155), (45, 159), (47, 167), (60, 119), (61, 143), (62, 131), (124, 83)], 83) := by decide +kernel
theorem dX4_joined_84 : decode cX4_joined 84 = .ok (.lload_n 1, 1) := by decide +kernel
theorem dX4_joined_85 : decode cX4_joined 85 = .ok (.lconst 0, 1) := by decide +kernel
theorem dX4_joined_86 : decode cX4_joined 86 = .ok (.lcmp, 1) := by decide +kernel
theorem dX4_joined_87 : decode cX4_joined 87 = .ok (.ifCond .ne 9, 3) := by decide +kernel
theorem dX4_joined_90 : decode cX4_joined 90 = .ok (.lload_n 3, 1) := by decide +kernel
theorem dX4_joined_91 : decode cX4_joined 91 = .ok (.lconst 0, 1) := by decide +kernel
theorem dX4_joined_92 : decode cX4_joined 92 = .ok (.lcmp, 1) := by decide +kernel
theorem dX4_joined_93 : decode cX4_joined 93 = .ok (.ifCond .eq 7, 3) := by decide +kernel
theorem dX4_joined_96 : decode cX4_joined 96 = .ok (.lconst 1, 1) := by decide +kernel
theorem dX4_joined_97 : decode cX4_joined 97 = .ok (.goto 4, 3) := by decide +kernel
theorem dX4_joined_100 : decode cX4_joined 100 = .ok (.lconst 0, 1) := by decide +kernel
theorem dX4_joined_101 : decode cX4_joined 101 = .ok (.lreturn, 1) := by decide +kernel
theorem dX4_joined_102 : decode cX4_joined 102 = .ok (.lload_n 1, 1) := by decide +kernel
theorem dX4_joined_103 : decode cX4_joined 103 = .ok (.lconst 0, 1) := by decide +kernel
theorem dX4_joined_104 : decode cX4_joined 104 = .ok (.lcmp, 1) := by decide +kernel
theorem dX4_joined_105 : decode cX4_joined 105 = .ok (.ifCond .eq 13, 3) := by decide +kernel
theorem dX4_joined_108 : decode cX4_joined 108 = .ok (.lload_n 3, 1) := by decide +kernel
theorem dX4_joined_109 : decode cX4_joined 109 = .ok (.lconst 0, 1) := by decide +kernel
theorem dX4_joined_110 : decode cX4_joined 110 = .ok (.lcmp, 1) := by decide +kernel
theorem dX4_joined_111 : decode cX4_joined 111 = .ok (.ifCond .eq 7, 3) := by decide +kernel
theorem dX4_joined_114 : decode cX4_joined 114 = .ok (.lconst 1, 1) := by decide +kernel
theorem dX4_joined_115 : decode cX4_joined 115 = .ok (.goto 4, 3) := by decide +kernel
theorem dX4_joined_118 : decode cX4_joined 118 = .ok (.lconst 0, 1) := by decide +kernel
theorem dX4_joined_119 : decode cX4_joined 119 = .ok (.lreturn, 1) := by decide +kernel
theorem dX4_joined_120 : decode cX4_joined 120 = .ok (.lload_n 1, 1) := by decide +kernel
theorem dX4_joined_121 : decode cX4_joined 121 = .ok (.lload_n 3, 1) := by decide +kernel
theorem dX4_joined_122 : decode cX4_joined 122 = .ok (.lcmp, 1) := by decide +kernel
theorem dX4_joined_123 : decode cX4_joined 123 = .ok (.ifCond .ge 7, 3) := by decide +kernel
theorem dX4_joined_126 : decode cX4_joined 126 = .ok (.lconst 1, 1) := by decide +kernel
theorem dX4_joined_127 : decode cX4_joined 127 = .ok (.goto 4, 3) := by decide +kernel
theorem dX4_joined_130 : decode cX4_joined 130 = .ok (.lconst 0, 1) := by decide +kernel
theorem dX4_joined_131 : decode cX4_joined 131 = .ok (.lreturn, 1) := by decide +kernel
theorem dX4_joined_132 : decode cX4_joined 132 = .ok (.lload_n 1, 1) := by decide +kernel
theorem dX4_joined_133 : decode cX4_joined 133 = .ok (.lload_n 3, 1) := by decide +kernel
theorem dX4_joined_134 : decode cX4_joined 134 = .ok (.lcmp, 1) := by decide +kernel
theorem dX4_joined_135 : decode cX4_joined 135 = .ok (.ifCond .le 7, 3) := by decide +kernel
theorem dX4_joined_138 : decode cX4_joined 138 = .ok (.lconst 1, 1) := by decide +kernel
theorem dX4_joined_139 : decode cX4_joined 139 = .ok (.goto 4, 3) := by decide +kernel
theorem dX4_joined_142 : decode cX4_joined 142 = .ok (.lconst 0, 1) := by decide +kernel
theorem dX4_joined_143 : decode cX4_joined 143 = .ok (.lreturn, 1) := by decide +kernel
theorem dX4_joined_144 : decode cX4_joined 144 = .ok (.lload_n 1, 1) := by decide +kernel
theorem dX4_joined_145 : decode cX4_joined 145 = .ok (.lload_n 3, 1) := by decide +kernel
theorem dX4_joined_146 : decode cX4_joined 146 = .ok (.lcmp, 1) := by decide +kernel
theorem dX4_joined_147 : decode cX4_joined 147 = .ok (.ifCond .ne 7, 3) := by decide +kernel
theorem dX4_joined_150 : decode cX4_joined 150 = .ok (.lconst 1, 1) := by decide +kernel
theorem dX4_joined_151 : decode cX4_joined 151 = .ok (.goto 4, 3) := by decide +kernel
theorem dX4_joined_154 : decode cX4_joined 154 = .ok (.lconst 0, 1) := by decide +kernel
theorem dX4_joined_155 : decode cX4_joined 155 = .ok (.lreturn, 1) := by decide +kernel
theorem dX4_joined_156 : decode cX4_joined 156 = .ok (.lload_n 1, 1) := by decide +kernel
theorem dX4_joined_157 : decode cX4_joined 157 = .ok (.lload_n 3, 1) := by decide +kernel
theorem dX4_joined_158 : decode cX4_joined 158 = .ok (.ladd, 1) := by decide +kernel
theorem dX4_joined_159 : decode cX4_joined 159 = .ok (.lreturn, 1) := by decide +kernel
theorem dX4_joined_160 : decode cX4_joined 160 = .ok (.lload_n 1, 1) := by decide +kernel
theorem dX4_joined_161 : decode cX4_joined 161 = .ok (.lload_n 3, 1) := by decide +kernel
theorem dX4_joined_162 : decode cX4_joined 162 = .ok (.lsub, 1) := by decide +kernel
theorem dX4_joined_163 : decode cX4_joined 163 = .ok (.lreturn, 1) := by decide +kernel
theorem dX4_joined_164 : decode cX4_joined 164 = .ok (.lload_n 1, 1) := by decide +kernel
theorem dX4_joined_165 : decode cX4_joined 165 = .ok (.lload_n 3, 1) := by decide +kernel
theorem dX4_joined_166 : decode cX4_joined 166 = .ok (.lmul, 1) := by decide +kernel
theorem dX4_joined_167 : decode cX4_joined 167 = .ok (.lreturn, 1) := by decide +kernel
theorem dX4_joined_168 : decode cX4_joined 168 = .ok (.lload_n 3, 1) := by decide +kernel
theorem dX4_joined_169 : decode cX4_joined 169 = .ok (.lconst 0, 1) := by decide +kernel
theorem dX4_joined_170 : decode cX4_joined 170 = .ok (.lcmp, 1) := by decide +kernel
theorem dX4_joined_171 : decode cX4_joined 171 = .ok (.ifCond .ne 7, 3) := by decide +kernel
theorem dX4_joined_174 : decode cX4_joined 174 = .ok (.lconst 0, 1) := by decide +kernel
theorem dX4_joined_175 : decode cX4_joined 175 = .ok (.goto 6, 3) := by decide +kernel
theorem dX4_joined_178 : decode cX4_joined 178 = .ok (.lload_n 1, 1) := by decide +kernel
theorem dX4_joined_179 : decode cX4_joined 179 = .ok (.lload_n 3, 1) := by decide +kernel
theorem dX4_joined_180 : decode cX4_joined 180 = .ok (.ldiv, 1) := by decide +kernel
theorem dX4_joined_181 : decode cX4_joined 181 = .ok (.lreturn, 1) := by decide +kernel
theorem dX4_joined_182 : decode cX4_joined 182 = .ok (.lconst 0, 1) := by decide +kernel
theorem dX4_joined_183 : decode cX4_joined 183 = .ok (.lreturn, 1) := by decide +kernel
theorem dX5_init_0 : decode cX5_init 0 = .ok (.aload_n 0, 1) := by decide +kernel
theorem dX5_init_1 : decode cX5_init 1 = .ok (.invokespecial 5, 3) := by decide +kernel
theorem dX5_init_4 : decode cX5_init 4 = .ok (.aload_n 0, 1) := by decide +kernel
theorem dX5_init_5 : decode cX5_init 5 = .ok (.bipush 16, 2) := by decide +kernel
theorem dX5_init_7 : decode cX5_init 7 = .ok (.newarray .int, 2) := by decide +kernel
theorem dX5_init_9 : decode cX5_init 9 = .ok (.putfield 11, 3) := by decide +kernel
theorem dX5_init_12 : decode cX5_init 12 = .ok (.aload_n 0, 1) := by decide +kernel
theorem dX5_init_13 : decode cX5_init 13 = .ok (.bipush 16, 2) := by decide +kernel
theorem dX5_init_15 : decode cX5_init 15 = .ok (.newarray .int, 2) := by decide +kernel
theorem dX5_init_17 : decode cX5_init 17 = .ok (.putfield 15, 3) := by decide +kernel
theorem dX5_init_20 : decode cX5_init 20 = .ok (.aload_n 0, 1) := by decide +kernel
theorem dX5_init_21 : decode cX5_init 21 = .ok (.bipush 12, 2) := by decide +kernel
theorem dX5_init_23 : decode cX5_init 23 = .ok (.newarray .int, 2) := by decide +kernel
theorem dX5_init_25 : decode cX5_init 25 = .ok (.putfield 18, 3) := by decide +kernel
theorem dX5_init_28 : decode cX5_init 28 = .ok (.aload_n 0, 1) := by decide +kernel
theorem dX5_init_29 : decode cX5_init 29 = .ok (.sipush 256, 3) := by decide +kernel
theorem dX5_init_32 : decode cX5_init 32 = .ok (.newarray .int, 2) := by decide +kernel
theorem dX5_init_34 : decode cX5_init 34 = .ok (.putfield 21, 3) := by decide +kernel
theorem dX5_init_37 : decode cX5_init 37 = .ok (.aload_n 0, 1) := by decide +kernel
theorem dX5_init_38 : decode cX5_init 38 = .ok (.bipush 16, 2) := by decide +kernel
theorem dX5_init_40 : decode cX5_init 40 = .ok (.newarray .int, 2) := by decide +kernel
theorem dX5_init_42 : decode cX5_init 42 = .ok (.putfield 24, 3) := by decide +kernel
theorem dX5_init_45 : decode cX5_init 45 = .ok (.aload_n 0, 1) := by decide +kernel
theorem dX5_init_46 : decode cX5_init 46 = .ok (.bipush 8, 2) := by decide +kernel
theorem dX5_init_48 : decode cX5_init 48 = .ok (.newarray .int, 2) := by decide +kernel
theorem dX5_init_50 : decode cX5_init 50 = .ok (.putfield 27, 3) := by decide +kernel
theorem dX5_init_53 : decode cX5_init 53 = .ok (.aload_n 0, 1) := by decide +kernel
theorem dX5_init_54 : decode cX5_init 54 = .ok (.bipush 9, 2) := by decide +kernel
theorem dX5_init_56 : decode cX5_init 56 = .ok (.sipush 256, 3) := by decide +kernel
theorem dX5_init_59 : decode cX5_init 59 = .ok (.multianewarray 30 2, 4) := by decide +kernel
theorem dX5_init_63 : decode cX5_init 63 = .ok (.putfield 32, 3) := by decide +kernel
theorem dX5_init_66 : decode cX5_init 66 = .ok (.aload_n 0, 1) := by decide +kernel
theorem dX5_init_67 : decode cX5_init 67 = .ok (.aload_n 1, 1) := by decide +kernel
theorem dX5_init_68 : decode cX5_init 68 = .ok (.putfield 35, 3) := by decide +kernel
theorem dX5_init_71 : decode cX5_init 71 = .ok (.return_, 1) := by decide +kernel
theorem dX5_find_0 : decode cX5_find 0 = .ok (.aload_n 0, 1) := by decide +kernel
theorem dX5_find_1 : decode cX5_find 1 = .ok (.iconst 0, 1) := by decide +kernel
theorem dX5_find_2 : decode cX5_find 2 = .ok (.iload_n 1, 1) := by decide +kernel
theorem dX5_find_3 : decode cX5_find 3 = .ok (.bipush 8, 2) := by decide +kernel
theorem dX5_find_5 : decode cX5_find 5 = .ok (.invokestatic 39, 3) := by decide +kernel
theorem dX5_find_8 : decode cX5_find 8 = .ok (.invokestatic 45, 3) := by decide +kernel
theorem dX5_find_11 : decode cX5_find 11 = .ok (.putfield 48, 3) := by decide +kernel
theorem dX5_find_14 : decode cX5_find 14 = .ok (.aload_n 0, 1) := by decide +kernel
theorem dX5_find_15 : decode cX5_find 15 = .ok (.invokevirtual 52, 3) := by decide +kernel
theorem dX5_find_18 : decode cX5_find 18 = .ok (.aload_n 0, 1) := by decide +kernel
theorem dX5_find_19 : decode cX5_find 19 = .ok (.invokevirtual 55, 3) := by decide +kernel
theorem dX5_find_22 : decode cX5_find 22 = .ok (.aload_n 0, 1) := by decide +kernel
theorem dX5_find_23 : decode cX5_find 23 = .ok (.invokevirtual 58, 3) := by decide +kernel
theorem dX5_find_26 : decode cX5_find 26 = .ok (.aload_n 0, 1) := by decide +kernel
theorem dX5_find_27 : decode cX5_find 27 = .ok (.invokevirtual 61, 3) := by decide +kernel
theorem dX5_find_30 : decode cX5_find 30 = .ok (.iconst 1, 1) := by decide +kernel
theorem dX5_find_31 : decode cX5_find 31 = .ok (.iconst 0, 1) := by decide +kernel
theorem dX5_find_32 : decode cX5_find 32 = .ok (.bipush 8, 2) := by decide +kernel
theorem dX5_find_34 : decode cX5_find 34 = .ok (.aload_n 0, 1) := by decide +kernel
theorem dX5_find_35 : decode cX5_find 35 = .ok (.getfield 64, 3) := by decide +kernel
theorem dX5_find_38 : decode cX5_find 38 = .ok (.invokestatic 39, 3) := by decide +kernel
theorem dX5_find_41 : decode cX5_find 41 = .ok (.invokestatic 45, 3) := by decide +kernel
theorem dX5_find_44 : decode cX5_find 44 = .ok (.ishl, 1) := by decide +kernel
theorem dX5_find_45 : decode cX5_find 45 = .ok (.istore_n 2, 1) := by decide +kernel
theorem dX5_find_46 : decode cX5_find 46 = .ok (.iconst 0, 1) := by decide +kernel
theorem dX5_find_47 : decode cX5_find 47 = .ok (.istore_n 3, 1) := by decide +kernel
theorem dX5_find_48 : decode cX5_find 48 = .ok (.iload_n 3, 1) := by decide +kernel
theorem dX5_find_49 : decode cX5_find 49 = .ok (.iload_n 2, 1) := by decide +kernel
theorem dX5_find_50 : decode cX5_find 50 = .ok (.if_icmp .ge 21, 3) := by decide +kernel
theorem dX5_find_53 : decode cX5_find 53 = .ok (.aload_n 0, 1) := by decide +kernel
theorem dX5_find_54 : decode cX5_find 54 = .ok (.getfield 32, 3) := by decide +kernel
theorem dX5_find_57 : decode cX5_find 57 = .ok (.aload_n 0, 1) := by decide +kernel
theorem dX5_find_58 : decode cX5_find 58 = .ok (.getfield 48, 3) := by decide +kernel
theorem dX5_find_61 : decode cX5_find 61 = .ok (.aaload, 1) := by decide +kernel
theorem dX5_find_62 : decode cX5_find 62 = .ok (.iload_n 3, 1) := by decide +kernel
theorem dX5_find_63 : decode cX5_find 63 = .ok (.iconst 0, 1) := by decide +kernel
theorem dX5_find_64 : decode cX5_find 64 = .ok (.iastore, 1) := by decide +kernel
theorem dX5_find_65 : decode cX5_find 65 = .ok (.iinc 3 1, 3) := by decide +kernel
theorem dX5_find_68 : decode cX5_find 68 = .ok (.goto (-20), 3) := by decide +kernel
theorem dX5_find_71 : decode cX5_find 71 = .ok (.aload_n 0, 1) := by decide +kernel
theorem dX5_find_72 : decode cX5_find 72 = .ok (.getfield 48, 3) := by decide +kernel
theorem dX5_find_75 : decode cX5_find 75 = .ok (.iconst 1, 1) := by decide +kernel
theorem dX5_find_76 : decode cX5_find 76 = .ok (.isub, 1) := by decide +kernel
theorem dX5_find_77 : decode cX5_find 77 = .ok (.istore_n 3, 1) := by decide +kernel
theorem dX5_find_78 : decode cX5_find 78 = .ok (.iload_n 3, 1) := by decide +kernel
theorem dX5_find_79 : decode cX5_find 79 = .ok (.ifCond .lt 49, 3) := by decide +kernel
theorem dX5_find_82 : decode cX5_find 82 = .ok (.iconst 0, 1) := by decide +kernel
theorem dX5_find_83 : decode cX5_find 83 = .ok (.istore 4, 2) := by decide +kernel
theorem dX5_find_85 : decode cX5_find 85 = .ok (.iload 4, 2) := by decide +kernel
theorem dX5_find_87 : decode cX5_find 87 = .ok (.iload_n 2, 1) := by decide +kernel
theorem dX5_find_88 : decode cX5_find 88 = .ok (.if_icmp .ge 34, 3) := by decide +kernel
theorem dX5_find_91 : decode cX5_find 91 = .ok (.iload 4, 2) := by decide +kernel
theorem dX5_find_93 : decode cX5_find 93 = .ok (.invokestatic 67, 3) := by decide +kernel
theorem dX5_find_96 : decode cX5_find 96 = .ok (.iload_n 3, 1) := by decide +kernel
theorem dX5_find_97 : decode cX5_find 97 = .ok (.if_icmp .gt 19, 3) := by decide +kernel
theorem dX5_find_100 : decode cX5_find 100 = .ok (.aload_n 0, 1) := by decide +kernel
theorem dX5_find_101 : decode cX5_find 101 = .ok (.getfield 32, 3) := by decide +kernel
theorem dX5_find_104 : decode cX5_find 104 = .ok (.iload_n 3, 1) := by decide +kernel
theorem dX5_find_105 : decode cX5_find 105 = .ok (.aaload, 1) := by decide +kernel
theorem dX5_find_106 : decode cX5_find 106 = .ok (.iload 4, 2) := by decide +kernel
theorem dX5_find_108 : decode cX5_find 108 = .ok (.aload_n 0, 1) := by decide +kernel
theorem dX5_find_109 : decode cX5_find 109 = .ok (.iload_n 3, 1) := by decide +kernel
theorem dX5_find_110 : decode cX5_find 110 = .ok (.iload 4, 2) := by decide +kernel
theorem dX5_find_112 : decode cX5_find 112 = .ok (.invokevirtual 73, 3) := by decide +kernel
theorem dX5_find_115 : decode cX5_find 115 = .ok (.iastore, 1) := by decide +kernel
theorem dX5_find_116 : decode cX5_find 116 = .ok (.iinc 4 1, 3) := by decide +kernel
theorem dX5_find_119 : decode cX5_find 119 = .ok (.goto (-34), 3) := by decide +kernel
theorem dX5_find_122 : decode cX5_find 122 = .ok (.iinc 3 (-1), 3) := by decide +kernel
theorem dX5_find_125 : decode cX5_find 125 = .ok (.goto (-47), 3) := by decide +kernel
theorem dX5_find_128 : decode cX5_find 128 = .ok (.return_, 1) := by decide +kernel
theorem dX5_knows_0 : decode cX5_knows 0 = .ok (.iload_n 0, 1) := by decide +kernel
theorem dX5_knows_1 : decode cX5_knows 1 = .ok (.iconst 4, 1) := by decide +kernel
theorem dX5_knows_2 : decode cX5_knows 2 = .ok (.iload_n 1, 1) := by decide +kernel
theorem dX5_knows_3 : decode cX5_knows 3 = .ok (.imul, 1) := by decide +kernel
theorem dX5_knows_4 : decode cX5_knows 4 = .ok (.iload_n 2, 1) := by decide +kernel
theorem dX5_knows_5 : decode cX5_knows 5 = .ok (.iadd, 1) := by decide +kernel
theorem dX5_knows_6 : decode cX5_knows 6 = .ok (.ishr, 1) := by decide +kernel
theorem dX5_knows_7 : decode cX5_knows 7 = .ok (.iconst 1, 1) := by decide +kernel
theorem dX5_knows_8 : decode cX5_knows 8 = .ok (.iand, 1) := by decide +kernel
theorem dX5_knows_9 : decode cX5_knows 9 = .ok (.iconst 1, 1) := by decide +kernel
theorem dX5_knows_10 : decode cX5_knows 10 = .ok (.if_icmp .ne 7, 3) := by decide +kernel
theorem dX5_knows_13 : decode cX5_knows 13 = .ok (.iconst 1, 1) := by decide +kernel
theorem dX5_knows_14 : decode cX5_knows 14 = .ok (.goto 4, 3) := by decide +kernel
theorem dX5_knows_17 : decode cX5_knows 17 = .ok (.iconst 0, 1) := by decide +kernel
theorem dX5_knows_18 : decode cX5_knows 18 = .ok (.ireturn, 1) := by decide +kernel
theorem dX5_chooseBits_0 : decode cX5_chooseBits 0 = .ok (.iconst 0, 1) := by decide +kernel
theorem dX5_chooseBits_1 : decode cX5_chooseBits 1 = .ok (.istore_n 1, 1) := by decide +kernel
theorem dX5_chooseBits_2 : decode cX5_chooseBits 2 = .ok (.iconst 0, 1) := by decide +kernel
theorem dX5_chooseBits_3 : decode cX5_chooseBits 3 = .ok (.istore_n 2, 1) := by decide +kernel
theorem dX5_chooseBits_4 : decode cX5_chooseBits 4 = .ok (.iconst 0, 1) := by decide +kernel
theorem dX5_chooseBits_5 : decode cX5_chooseBits 5 = .ok (.istore_n 3, 1) := by decide +kernel
theorem dX5_chooseBits_6 : decode cX5_chooseBits 6 = .ok (.iload_n 3, 1) := by decide +kernel
theorem dX5_chooseBits_7 : decode cX5_chooseBits 7 = .ok (.aload_n 0, 1) := by decide +kernel
theorem dX5_chooseBits_8 : decode cX5_chooseBits 8 = .ok (.getfield 35, 3) := by decide +kernel
theorem dX5_chooseBits_11 : decode cX5_chooseBits 11 = .ok (.getfield 76, 3) := by decide +kernel
theorem dX5_chooseBits_14 : decode cX5_chooseBits 14 = .ok (.invokevirtual 82, 3) := by decide +kernel
theorem dX5_chooseBits_17 : decode cX5_chooseBits 17 = .ok (.if_icmp .ge 43, 3) := by decide +kernel
theorem dX5_chooseBits_20 : decode cX5_chooseBits 20 = .ok (.iload_n 1, 1) := by decide +kernel
theorem dX5_chooseBits_21 : decode cX5_chooseBits 21 = .ok (.aload_n 0, 1) := by decide +kernel
theorem dX5_chooseBits_22 : decode cX5_chooseBits 22 = .ok (.getfield 35, 3) := by decide +kernel
theorem dX5_chooseBits_25 : decode cX5_chooseBits 25 = .ok (.getfield 76, 3) := by decide +kernel
theorem dX5_chooseBits_28 : decode cX5_chooseBits 28 = .ok (.iload_n 3, 1) := by decide +kernel
theorem dX5_chooseBits_29 : decode cX5_chooseBits 29 = .ok (.iconst 0, 1) := by decide +kernel
theorem dX5_chooseBits_30 : decode cX5_chooseBits 30 = .ok (.invokevirtual 88, 3) := by decide +kernel
theorem dX5_chooseBits_33 : decode cX5_chooseBits 33 = .ok (.iconst 4, 1) := by decide +kernel
theorem dX5_chooseBits_34 : decode cX5_chooseBits 34 = .ok (.iload_n 3, 1) := by decide +kernel
theorem dX5_chooseBits_35 : decode cX5_chooseBits 35 = .ok (.imul, 1) := by decide +kernel
theorem dX5_chooseBits_36 : decode cX5_chooseBits 36 = .ok (.ishl, 1) := by decide +kernel
theorem dX5_chooseBits_37 : decode cX5_chooseBits 37 = .ok (.ior, 1) := by decide +kernel
theorem dX5_chooseBits_38 : decode cX5_chooseBits 38 = .ok (.istore_n 1, 1) := by decide +kernel
theorem dX5_chooseBits_39 : decode cX5_chooseBits 39 = .ok (.iload_n 2, 1) := by decide +kernel
theorem dX5_chooseBits_40 : decode cX5_chooseBits 40 = .ok (.aload_n 0, 1) := by decide +kernel
theorem dX5_chooseBits_41 : decode cX5_chooseBits 41 = .ok (.getfield 35, 3) := by decide +kernel
theorem dX5_chooseBits_44 : decode cX5_chooseBits 44 = .ok (.getfield 76, 3) := by decide +kernel
theorem dX5_chooseBits_47 : decode cX5_chooseBits 47 = .ok (.iload_n 3, 1) := by decide +kernel
theorem dX5_chooseBits_48 : decode cX5_chooseBits 48 = .ok (.iconst 0, 1) := by decide +kernel
theorem dX5_chooseBits_49 : decode cX5_chooseBits 49 = .ok (.invokevirtual 88, 3) := by decide +kernel
theorem dX5_chooseBits_52 : decode cX5_chooseBits 52 = .ok (.ior, 1) := by decide +kernel
theorem dX5_chooseBits_53 : decode cX5_chooseBits 53 = .ok (.istore_n 2, 1) := by decide +kernel
theorem dX5_chooseBits_54 : decode cX5_chooseBits 54 = .ok (.iinc 3 1, 3) := by decide +kernel
theorem dX5_chooseBits_57 : decode cX5_chooseBits 57 = .ok (.goto (-51), 3) := by decide +kernel
theorem dX5_chooseBits_60 : decode cX5_chooseBits 60 = .ok (.aload_n 0, 1) := by decide +kernel
theorem dX5_chooseBits_61 : decode cX5_chooseBits 61 = .ok (.iconst 0, 1) := by decide +kernel
theorem dX5_chooseBits_62 : decode cX5_chooseBits 62 = .ok (.putfield 64, 3) := by decide +kernel
theorem dX5_chooseBits_65 : decode cX5_chooseBits 65 = .ok (.aload_n 0, 1) := by decide +kernel
theorem dX5_chooseBits_66 : decode cX5_chooseBits 66 = .ok (.getfield 21, 3) := by decide +kernel
theorem dX5_chooseBits_69 : decode cX5_chooseBits 69 = .ok (.iconst 0, 1) := by decide +kernel
theorem dX5_chooseBits_70 : decode cX5_chooseBits 70 = .ok (.iload_n 1, 1) := by decide +kernel
theorem dX5_chooseBits_71 : decode cX5_chooseBits 71 = .ok (.iastore, 1) := by decide +kernel
theorem dX5_chooseBits_72 : decode cX5_chooseBits 72 = .ok (.iconst 0, 1) := by decide +kernel
theorem dX5_chooseBits_73 : decode cX5_chooseBits 73 = .ok (.istore_n 3, 1) := by decide +kernel
theorem dX5_chooseBits_74 : decode cX5_chooseBits 74 = .ok (.iload_n 3, 1) := by decide +kernel
theorem dX5_chooseBits_75 : decode cX5_chooseBits 75 = .ok (.aload_n 0, 1) := by decide +kernel
theorem dX5_chooseBits_76 : decode cX5_chooseBits 76 = .ok (.getfield 18, 3) := by decide +kernel
theorem dX5_chooseBits_79 : decode cX5_chooseBits 79 = .ok (.arraylength, 1) := by decide +kernel
theorem dX5_chooseBits_80 : decode cX5_chooseBits 80 = .ok (.if_icmp .ge 185, 3) := by decide +kernel
theorem dX5_chooseBits_83 : decode cX5_chooseBits 83 = .ok (.iload_n 3, 1) := by decide +kernel
theorem dX5_chooseBits_84 : decode cX5_chooseBits 84 = .ok (.iconst 4, 1) := by decide +kernel
theorem dX5_chooseBits_85 : decode cX5_chooseBits 85 = .ok (.idiv, 1) := by decide +kernel
theorem dX5_chooseBits_86 : decode cX5_chooseBits 86 = .ok (.istore 4, 2) := by decide +kernel
theorem dX5_chooseBits_88 : decode cX5_chooseBits 88 = .ok (.iload_n 3, 1) := by decide +kernel
theorem dX5_chooseBits_89 : decode cX5_chooseBits 89 = .ok (.iconst 4, 1) := by decide +kernel
theorem dX5_chooseBits_90 : decode cX5_chooseBits 90 = .ok (.irem, 1) := by decide +kernel
