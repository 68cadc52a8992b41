theorem dX10_init_0 : decode cX10_init 0 = .ok (.aload_n 0, 1) := by decide +kernel
theorem dX10_init_1 : decode cX10_init 1 = .ok (.invokespecial 1, 3) := by decide +kernel
theorem dX10_init_4 : decode cX10_init 4 = .ok (.aload_n 0, 1) := by decide +kernel
theorem dX10_init_5 : decode cX10_init 5 = .ok (.iconst 4, 1) := by decide +kernel
theorem dX10_init_6 : decode cX10_init 6 = .ok (.newarray .int, 2) := by decide +kernel
theorem dX10_init_8 : decode cX10_init 8 = .ok (.putfield 7, 3) := by decide +kernel
theorem dX10_init_11 : decode cX10_init 11 = .ok (.aload_n 0, 1) := by decide +kernel
theorem dX10_init_12 : decode cX10_init 12 = .ok (.bipush 6, 2) := by decide +kernel
theorem dX10_init_14 : decode cX10_init 14 = .ok (.newarray .int, 2) := by decide +kernel
theorem dX10_init_16 : decode cX10_init 16 = .ok (.putfield 13, 3) := by decide +kernel
theorem dX10_init_19 : decode cX10_init 19 = .ok (.aload_n 0, 1) := by decide +kernel
theorem dX10_init_20 : decode cX10_init 20 = .ok (.bipush 25, 2) := by decide +kernel
theorem dX10_init_22 : decode cX10_init 22 = .ok (.newarray .int, 2) := by decide +kernel
theorem dX10_init_24 : decode cX10_init 24 = .ok (.putfield 16, 3) := by decide +kernel
theorem dX10_init_27 : decode cX10_init 27 = .ok (.aload_n 0, 1) := by decide +kernel
theorem dX10_init_28 : decode cX10_init 28 = .ok (.bipush 25, 2) := by decide +kernel
theorem dX10_init_30 : decode cX10_init 30 = .ok (.newarray .int, 2) := by decide +kernel
theorem dX10_init_32 : decode cX10_init 32 = .ok (.putfield 19, 3) := by decide +kernel
theorem dX10_init_35 : decode cX10_init 35 = .ok (.aload_n 0, 1) := by decide +kernel
theorem dX10_init_36 : decode cX10_init 36 = .ok (.bipush 25, 2) := by decide +kernel
theorem dX10_init_38 : decode cX10_init 38 = .ok (.newarray .int, 2) := by decide +kernel
theorem dX10_init_40 : decode cX10_init 40 = .ok (.putfield 22, 3) := by decide +kernel
theorem dX10_init_43 : decode cX10_init 43 = .ok (.aload_n 0, 1) := by decide +kernel
theorem dX10_init_44 : decode cX10_init 44 = .ok (.bipush 25, 2) := by decide +kernel
theorem dX10_init_46 : decode cX10_init 46 = .ok (.newarray .int, 2) := by decide +kernel
theorem dX10_init_48 : decode cX10_init 48 = .ok (.putfield 25, 3) := by decide +kernel
theorem dX10_init_51 : decode cX10_init 51 = .ok (.aload_n 0, 1) := by decide +kernel
theorem dX10_init_52 : decode cX10_init 52 = .ok (.bipush 25, 2) := by decide +kernel
theorem dX10_init_54 : decode cX10_init 54 = .ok (.newarray .int, 2) := by decide +kernel
theorem dX10_init_56 : decode cX10_init 56 = .ok (.putfield 28, 3) := by decide +kernel
theorem dX10_init_59 : decode cX10_init 59 = .ok (.aload_n 0, 1) := by decide +kernel
theorem dX10_init_60 : decode cX10_init 60 = .ok (.bipush 17, 2) := by decide +kernel
theorem dX10_init_62 : decode cX10_init 62 = .ok (.newarray .int, 2) := by decide +kernel
theorem dX10_init_64 : decode cX10_init 64 = .ok (.putfield 31, 3) := by decide +kernel
theorem dX10_init_67 : decode cX10_init 67 = .ok (.aload_n 0, 1) := by decide +kernel
theorem dX10_init_68 : decode cX10_init 68 = .ok (.bipush 17, 2) := by decide +kernel
theorem dX10_init_70 : decode cX10_init 70 = .ok (.newarray .int, 2) := by decide +kernel
theorem dX10_init_72 : decode cX10_init 72 = .ok (.putfield 34, 3) := by decide +kernel
theorem dX10_init_75 : decode cX10_init 75 = .ok (.aload_n 0, 1) := by decide +kernel
theorem dX10_init_76 : decode cX10_init 76 = .ok (.bipush 17, 2) := by decide +kernel
theorem dX10_init_78 : decode cX10_init 78 = .ok (.newarray .int, 2) := by decide +kernel
theorem dX10_init_80 : decode cX10_init 80 = .ok (.putfield 37, 3) := by decide +kernel
theorem dX10_init_83 : decode cX10_init 83 = .ok (.return_, 1) := by decide +kernel
theorem dX10_size_0 : decode cX10_size 0 = .ok (.bipush 31, 2) := by decide +kernel
theorem dX10_size_2 : decode cX10_size 2 = .ok (.iload_n 0, 1) := by decide +kernel
theorem dX10_size_3 : decode cX10_size 3 = .ok (.invokestatic 40, 3) := by decide +kernel
theorem dX10_size_6 : decode cX10_size 6 = .ok (.isub, 1) := by decide +kernel
theorem dX10_size_7 : decode cX10_size 7 = .ok (.ireturn, 1) := by decide +kernel
theorem dX10_part_0 : decode cX10_part 0 = .ok (.iconst 1, 1) := by decide +kernel
theorem dX10_part_1 : decode cX10_part 1 = .ok (.iload_n 2, 1) := by decide +kernel
theorem dX10_part_2 : decode cX10_part 2 = .ok (.iload_n 1, 1) := by decide +kernel
theorem dX10_part_3 : decode cX10_part 3 = .ok (.isub, 1) := by decide +kernel
theorem dX10_part_4 : decode cX10_part 4 = .ok (.ishl, 1) := by decide +kernel
theorem dX10_part_5 : decode cX10_part 5 = .ok (.iload_n 0, 1) := by decide +kernel
theorem dX10_part_6 : decode cX10_part 6 = .ok (.iload_n 0, 1) := by decide +kernel
theorem dX10_part_7 : decode cX10_part 7 = .ok (.invokestatic 46, 3) := by decide +kernel
theorem dX10_part_10 : decode cX10_part 10 = .ok (.iload_n 2, 1) := by decide +kernel
theorem dX10_part_11 : decode cX10_part 11 = .ok (.isub, 1) := by decide +kernel
theorem dX10_part_12 : decode cX10_part 12 = .ok (.ishr, 1) := by decide +kernel
theorem dX10_part_13 : decode cX10_part 13 = .ok (.iconst 1, 1) := by decide +kernel
theorem dX10_part_14 : decode cX10_part 14 = .ok (.iload_n 2, 1) := by decide +kernel
theorem dX10_part_15 : decode cX10_part 15 = .ok (.iload_n 1, 1) := by decide +kernel
theorem dX10_part_16 : decode cX10_part 16 = .ok (.isub, 1) := by decide +kernel
theorem dX10_part_17 : decode cX10_part 17 = .ok (.ishl, 1) := by decide +kernel
theorem dX10_part_18 : decode cX10_part 18 = .ok (.iconst 1, 1) := by decide +kernel
theorem dX10_part_19 : decode cX10_part 19 = .ok (.isub, 1) := by decide +kernel
theorem dX10_part_20 : decode cX10_part 20 = .ok (.iand, 1) := by decide +kernel
theorem dX10_part_21 : decode cX10_part 21 = .ok (.ior, 1) := by decide +kernel
theorem dX10_part_22 : decode cX10_part 22 = .ok (.ireturn, 1) := by decide +kernel
theorem dX10_find_0 : decode cX10_find 0 = .ok (.iconst 0, 1) := by decide +kernel
theorem dX10_find_1 : decode cX10_find 1 = .ok (.istore_n 2, 1) := by decide +kernel
theorem dX10_find_2 : decode cX10_find 2 = .ok (.iload_n 2, 1) := by decide +kernel
theorem dX10_find_3 : decode cX10_find 3 = .ok (.aload_n 0, 1) := by decide +kernel
theorem dX10_find_4 : decode cX10_find 4 = .ok (.getfield 49, 3) := by decide +kernel
theorem dX10_find_7 : decode cX10_find 7 = .ok (.if_icmp .ge 21, 3) := by decide +kernel
theorem dX10_find_10 : decode cX10_find 10 = .ok (.aload_n 0, 1) := by decide +kernel
theorem dX10_find_11 : decode cX10_find 11 = .ok (.getfield 16, 3) := by decide +kernel
theorem dX10_find_14 : decode cX10_find 14 = .ok (.iload_n 2, 1) := by decide +kernel
theorem dX10_find_15 : decode cX10_find 15 = .ok (.iaload, 1) := by decide +kernel
theorem dX10_find_16 : decode cX10_find 16 = .ok (.iload_n 1, 1) := by decide +kernel
theorem dX10_find_17 : decode cX10_find 17 = .ok (.if_icmp .ne 5, 3) := by decide +kernel
theorem dX10_find_20 : decode cX10_find 20 = .ok (.iload_n 2, 1) := by decide +kernel
theorem dX10_find_21 : decode cX10_find 21 = .ok (.ireturn, 1) := by decide +kernel
theorem dX10_find_22 : decode cX10_find 22 = .ok (.iinc 2 1, 3) := by decide +kernel
theorem dX10_find_25 : decode cX10_find 25 = .ok (.goto (-23), 3) := by decide +kernel
theorem dX10_find_28 : decode cX10_find 28 = .ok (.iconst (-1), 1) := by decide +kernel
theorem dX10_find_29 : decode cX10_find 29 = .ok (.ireturn, 1) := by decide +kernel
theorem dX10_priceOf_0 : decode cX10_priceOf 0 = .ok (.aload_n 0, 1) := by decide +kernel
theorem dX10_priceOf_1 : decode cX10_priceOf 1 = .ok (.getfield 53, 3) := by decide +kernel
theorem dX10_priceOf_4 : decode cX10_priceOf 4 = .ok (.aload_n 0, 1) := by decide +kernel
theorem dX10_priceOf_5 : decode cX10_priceOf 5 = .ok (.getfield 56, 3) := by decide +kernel
theorem dX10_priceOf_8 : decode cX10_priceOf 8 = .ok (.iload_n 1, 1) := by decide +kernel
theorem dX10_priceOf_9 : decode cX10_priceOf 9 = .ok (.invokestatic 46, 3) := by decide +kernel
theorem dX10_priceOf_12 : decode cX10_priceOf 12 = .ok (.imul, 1) := by decide +kernel
theorem dX10_priceOf_13 : decode cX10_priceOf 13 = .ok (.iadd, 1) := by decide +kernel
theorem dX10_priceOf_14 : decode cX10_priceOf 14 = .ok (.ireturn, 1) := by decide +kernel
theorem dX10_costOf_0 : decode cX10_costOf 0 = .ok (.iconst 0, 1) := by decide +kernel
theorem dX10_costOf_1 : decode cX10_costOf 1 = .ok (.istore 5, 2) := by decide +kernel
theorem dX10_costOf_3 : decode cX10_costOf 3 = .ok (.iconst 0, 1) := by decide +kernel
theorem dX10_costOf_4 : decode cX10_costOf 4 = .ok (.istore 6, 2) := by decide +kernel
theorem dX10_costOf_6 : decode cX10_costOf 6 = .ok (.iconst 1, 1) := by decide +kernel
theorem dX10_costOf_7 : decode cX10_costOf 7 = .ok (.istore 7, 2) := by decide +kernel
theorem dX10_costOf_9 : decode cX10_costOf 9 = .ok (.iload 7, 2) := by decide +kernel
theorem dX10_costOf_11 : decode cX10_costOf 11 = .ok (.iload_n 1, 1) := by decide +kernel
theorem dX10_costOf_12 : decode cX10_costOf 12 = .ok (.invokestatic 46, 3) := by decide +kernel
theorem dX10_costOf_15 : decode cX10_costOf 15 = .ok (.if_icmp .gt 113, 3) := by decide +kernel
theorem dX10_costOf_18 : decode cX10_costOf 18 = .ok (.iload 7, 2) := by decide +kernel
theorem dX10_costOf_20 : decode cX10_costOf 20 = .ok (.iload_n 1, 1) := by decide +kernel
theorem dX10_costOf_21 : decode cX10_costOf 21 = .ok (.invokestatic 46, 3) := by decide +kernel
theorem dX10_costOf_24 : decode cX10_costOf 24 = .ok (.if_icmp .ge 15, 3) := by decide +kernel
theorem dX10_costOf_27 : decode cX10_costOf 27 = .ok (.iload_n 2, 1) := by decide +kernel
theorem dX10_costOf_28 : decode cX10_costOf 28 = .ok (.iload 7, 2) := by decide +kernel
theorem dX10_costOf_30 : decode cX10_costOf 30 = .ok (.ishr, 1) := by decide +kernel
theorem dX10_costOf_31 : decode cX10_costOf 31 = .ok (.iconst 1, 1) := by decide +kernel
theorem dX10_costOf_32 : decode cX10_costOf 32 = .ok (.iand, 1) := by decide +kernel
theorem dX10_costOf_33 : decode cX10_costOf 33 = .ok (.ifCond .ne 6, 3) := by decide +kernel
theorem dX10_costOf_36 : decode cX10_costOf 36 = .ok (.goto 86, 3) := by decide +kernel
theorem dX10_costOf_39 : decode cX10_costOf 39 = .ok (.iload_n 1, 1) := by decide +kernel
theorem dX10_costOf_40 : decode cX10_costOf 40 = .ok (.iload 5, 2) := by decide +kernel
theorem dX10_costOf_42 : decode cX10_costOf 42 = .ok (.iload 7, 2) := by decide +kernel
theorem dX10_costOf_44 : decode cX10_costOf 44 = .ok (.invokestatic 59, 3) := by decide +kernel
theorem dX10_costOf_47 : decode cX10_costOf 47 = .ok (.istore 8, 2) := by decide +kernel
theorem dX10_costOf_49 : decode cX10_costOf 49 = .ok (.iload 8, 2) := by decide +kernel
theorem dX10_costOf_51 : decode cX10_costOf 51 = .ok (.iload 4, 2) := by decide +kernel
theorem dX10_costOf_53 : decode cX10_costOf 53 = .ok (.if_icmp .eq 12, 3) := by decide +kernel
theorem dX10_costOf_56 : decode cX10_costOf 56 = .ok (.aload_n 0, 1) := by decide +kernel
theorem dX10_costOf_57 : decode cX10_costOf 57 = .ok (.iload 8, 2) := by decide +kernel
theorem dX10_costOf_59 : decode cX10_costOf 59 = .ok (.invokevirtual 63, 3) := by decide +kernel
theorem dX10_costOf_62 : decode cX10_costOf 62 = .ok (.ifCond .lt 7, 3) := by decide +kernel
theorem dX10_costOf_65 : decode cX10_costOf 65 = .ok (.iconst 1, 1) := by decide +kernel
theorem dX10_costOf_66 : decode cX10_costOf 66 = .ok (.goto 4, 3) := by decide +kernel
theorem dX10_costOf_69 : decode cX10_costOf 69 = .ok (.iconst 0, 1) := by decide +kernel
theorem dX10_costOf_70 : decode cX10_costOf 70 = .ok (.istore 9, 2) := by decide +kernel
theorem dX10_costOf_72 : decode cX10_costOf 72 = .ok (.iload 7, 2) := by decide +kernel
theorem dX10_costOf_74 : decode cX10_costOf 74 = .ok (.iload 5, 2) := by decide +kernel
theorem dX10_costOf_76 : decode cX10_costOf 76 = .ok (.isub, 1) := by decide +kernel
theorem dX10_costOf_77 : decode cX10_costOf 77 = .ok (.bipush 6, 2) := by decide +kernel
theorem dX10_costOf_79 : decode cX10_costOf 79 = .ok (.if_icmp .gt 12, 3) := by decide +kernel
theorem dX10_costOf_82 : decode cX10_costOf 82 = .ok (.iload_n 3, 1) := by decide +kernel
theorem dX10_costOf_83 : decode cX10_costOf 83 = .ok (.ifCond .ne 10, 3) := by decide +kernel
theorem dX10_costOf_86 : decode cX10_costOf 86 = .ok (.iload 9, 2) := by decide +kernel
theorem dX10_costOf_88 : decode cX10_costOf 88 = .ok (.ifCond .ne 5, 3) := by decide +kernel
theorem dX10_costOf_91 : decode cX10_costOf 91 = .ok (.iconst (-1), 1) := by decide +kernel
theorem dX10_costOf_92 : decode cX10_costOf 92 = .ok (.ireturn, 1) := by decide +kernel
theorem dX10_costOf_93 : decode cX10_costOf 93 = .ok (.iload 6, 2) := by decide +kernel
theorem dX10_costOf_95 : decode cX10_costOf 95 = .ok (.aload_n 0, 1) := by decide +kernel
theorem dX10_costOf_96 : decode cX10_costOf 96 = .ok (.getfield 66, 3) := by decide +kernel
theorem dX10_costOf_99 : decode cX10_costOf 99 = .ok (.iload 9, 2) := by decide +kernel
theorem dX10_costOf_101 : decode cX10_costOf 101 = .ok (.ifCond .eq 7, 3) := by decide +kernel
theorem dX10_costOf_104 : decode cX10_costOf 104 = .ok (.iconst 0, 1) := by decide +kernel
theorem dX10_costOf_105 : decode cX10_costOf 105 = .ok (.goto 9, 3) := by decide +kernel
theorem dX10_costOf_108 : decode cX10_costOf 108 = .ok (.aload_n 0, 1) := by decide +kernel
theorem dX10_costOf_109 : decode cX10_costOf 109 = .ok (.iload 8, 2) := by decide +kernel
theorem dX10_costOf_111 : decode cX10_costOf 111 = .ok (.invokevirtual 69, 3) := by decide +kernel
theorem dX10_costOf_114 : decode cX10_costOf 114 = .ok (.iadd, 1) := by decide +kernel
theorem dX10_costOf_115 : decode cX10_costOf 115 = .ok (.iadd, 1) := by decide +kernel
theorem dX10_costOf_116 : decode cX10_costOf 116 = .ok (.istore 6, 2) := by decide +kernel
theorem dX10_costOf_118 : decode cX10_costOf 118 = .ok (.iload 7, 2) := by decide +kernel
theorem dX10_costOf_120 : decode cX10_costOf 120 = .ok (.istore 5, 2) := by decide +kernel
theorem dX10_costOf_122 : decode cX10_costOf 122 = .ok (.iinc 7 1, 3) := by decide +kernel
theorem dX10_costOf_125 : decode cX10_costOf 125 = .ok (.goto (-116), 3) := by decide +kernel
theorem dX10_costOf_128 : decode cX10_costOf 128 = .ok (.iload 6, 2) := by decide +kernel
theorem dX10_costOf_130 : decode cX10_costOf 130 = .ok (.ireturn, 1) := by decide +kernel
theorem dX10_best_0 : decode cX10_best 0 = .ok (.iconst (-1), 1) := by decide +kernel
theorem dX10_best_1 : decode cX10_best 1 = .ok (.istore 4, 2) := by decide +kernel
theorem dX10_best_3 : decode cX10_best 3 = .ok (.iconst 0, 1) := by decide +kernel
theorem dX10_best_4 : decode cX10_best 4 = .ok (.istore 5, 2) := by decide +kernel
theorem dX10_best_6 : decode cX10_best 6 = .ok (.iconst 0, 1) := by decide +kernel
theorem dX10_best_7 : decode cX10_best 7 = .ok (.istore 6, 2) := by decide +kernel
theorem dX10_best_9 : decode cX10_best 9 = .ok (.iload 6, 2) := by decide +kernel
theorem dX10_best_11 : decode cX10_best 11 = .ok (.iconst 1, 1) := by decide +kernel
theorem dX10_best_12 : decode cX10_best 12 = .ok (.iload_n 1, 1) := by decide +kernel
theorem dX10_best_13 : decode cX10_best 13 = .ok (.invokestatic 46, 3) := by decide +kernel
theorem dX10_best_16 : decode cX10_best 16 = .ok (.ishl, 1) := by decide +kernel
theorem dX10_best_17 : decode cX10_best 17 = .ok (.if_icmp .ge 104, 3) := by decide +kernel
theorem dX10_best_20 : decode cX10_best 20 = .ok (.aload_n 0, 1) := by decide +kernel
theorem dX10_best_21 : decode cX10_best 21 = .ok (.iload_n 1, 1) := by decide +kernel
theorem dX10_best_22 : decode cX10_best 22 = .ok (.iload 6, 2) := by decide +kernel
theorem dX10_best_24 : decode cX10_best 24 = .ok (.iload_n 2, 1) := by decide +kernel
theorem dX10_best_25 : decode cX10_best 25 = .ok (.iload_n 3, 1) := by decide +kernel
theorem dX10_best_26 : decode cX10_best 26 = .ok (.invokevirtual 72, 3) := by decide +kernel
theorem dX10_best_29 : decode cX10_best 29 = .ok (.istore 7, 2) := by decide +kernel
theorem dX10_best_31 : decode cX10_best 31 = .ok (.iload 7, 2) := by decide +kernel
theorem dX10_best_33 : decode cX10_best 33 = .ok (.ifCond .ge 6, 3) := by decide +kernel
theorem dX10_best_36 : decode cX10_best 36 = .ok (.goto 79, 3) := by decide +kernel
theorem dX10_best_39 : decode cX10_best 39 = .ok (.iload 4, 2) := by decide +kernel
theorem dX10_best_41 : decode cX10_best 41 = .ok (.ifCond .ge 7, 3) := by decide +kernel
theorem dX10_best_44 : decode cX10_best 44 = .ok (.iconst (-1), 1) := by decide +kernel
theorem dX10_best_45 : decode cX10_best 45 = .ok (.goto 8, 3) := by decide +kernel
theorem dX10_best_48 : decode cX10_best 48 = .ok (.iload 7, 2) := by decide +kernel
theorem dX10_best_50 : decode cX10_best 50 = .ok (.iload 5, 2) := by decide +kernel
theorem dX10_best_52 : decode cX10_best 52 = .ok (.isub, 1) := by decide +kernel
theorem dX10_best_53 : decode cX10_best 53 = .ok (.istore 8, 2) := by decide +kernel
theorem dX10_best_55 : decode cX10_best 55 = .ok (.iload 8, 2) := by decide +kernel
theorem dX10_best_57 : decode cX10_best 57 = .ok (.ifCond .ne 16, 3) := by decide +kernel
theorem dX10_best_60 : decode cX10_best 60 = .ok (.iload 6, 2) := by decide +kernel
theorem dX10_best_62 : decode cX10_best 62 = .ok (.invokestatic 76, 3) := by decide +kernel
theorem dX10_best_65 : decode cX10_best 65 = .ok (.iload 4, 2) := by decide +kernel
theorem dX10_best_67 : decode cX10_best 67 = .ok (.invokestatic 76, 3) := by decide +kernel
theorem dX10_best_70 : decode cX10_best 70 = .ok (.isub, 1) := by decide +kernel
theorem dX10_best_71 : decode cX10_best 71 = .ok (.istore 8, 2) := by decide +kernel
theorem dX10_best_73 : decode cX10_best 73 = .ok (.iload 8, 2) := by decide +kernel
theorem dX10_best_75 : decode cX10_best 75 = .ok (.ifCond .ne 24, 3) := by decide +kernel
theorem dX10_best_78 : decode cX10_best 78 = .ok (.iload 6, 2) := by decide +kernel
theorem dX10_best_80 : decode cX10_best 80 = .ok (.iload 6, 2) := by decide +kernel
theorem dX10_best_82 : decode cX10_best 82 = .ok (.iload 4, 2) := by decide +kernel
theorem dX10_best_84 : decode cX10_best 84 = .ok (.ixor, 1) := by decide +kernel
theorem dX10_best_85 : decode cX10_best 85 = .ok (.invokestatic 79, 3) := by decide +kernel
theorem dX10_best_88 : decode cX10_best 88 = .ok (.iand, 1) := by decide +kernel
theorem dX10_best_89 : decode cX10_best 89 = .ok (.ifCond .eq 7, 3) := by decide +kernel
theorem dX10_best_92 : decode cX10_best 92 = .ok (.iconst 1, 1) := by decide +kernel
theorem dX10_best_93 : decode cX10_best 93 = .ok (.goto 4, 3) := by decide +kernel
theorem dX10_best_96 : decode cX10_best 96 = .ok (.iconst (-1), 1) := by decide +kernel
theorem dX10_best_97 : decode cX10_best 97 = .ok (.istore 8, 2) := by decide +kernel
theorem dX10_best_99 : decode cX10_best 99 = .ok (.iload 8, 2) := by decide +kernel
theorem dX10_best_101 : decode cX10_best 101 = .ok (.ifCond .lt 6, 3) := by decide +kernel
theorem dX10_best_104 : decode cX10_best 104 = .ok (.goto 11, 3) := by decide +kernel
theorem dX10_best_107 : decode cX10_best 107 = .ok (.iload 6, 2) := by decide +kernel
theorem dX10_best_109 : decode cX10_best 109 = .ok (.istore 4, 2) := by decide +kernel
theorem dX10_best_111 : decode cX10_best 111 = .ok (.iload 7, 2) := by decide +kernel
theorem dX10_best_113 : decode cX10_best 113 = .ok (.istore 5, 2) := by decide +kernel
theorem dX10_best_115 : decode cX10_best 115 = .ok (.iinc 6 2, 3) := by decide +kernel
theorem dX10_best_118 : decode cX10_best 118 = .ok (.goto (-109), 3) := by decide +kernel
theorem dX10_best_121 : decode cX10_best 121 = .ok (.iload 4, 2) := by decide +kernel
theorem dX10_best_123 : decode cX10_best 123 = .ok (.ireturn, 1) := by decide +kernel
theorem dX10_ways_0 : decode cX10_ways 0 = .ok (.iconst 0, 1) := by decide +kernel
theorem dX10_ways_1 : decode cX10_ways 1 = .ok (.istore_n 2, 1) := by decide +kernel
theorem dX10_ways_2 : decode cX10_ways 2 = .ok (.iconst 0, 1) := by decide +kernel
theorem dX10_ways_3 : decode cX10_ways 3 = .ok (.istore_n 3, 1) := by decide +kernel
theorem dX10_ways_4 : decode cX10_ways 4 = .ok (.iload_n 3, 1) := by decide +kernel
theorem dX10_ways_5 : decode cX10_ways 5 = .ok (.iconst 1, 1) := by decide +kernel
theorem dX10_ways_6 : decode cX10_ways 6 = .ok (.iload_n 1, 1) := by decide +kernel
theorem dX10_ways_7 : decode cX10_ways 7 = .ok (.invokestatic 46, 3) := by decide +kernel
theorem dX10_ways_10 : decode cX10_ways 10 = .ok (.ishl, 1) := by decide +kernel
theorem dX10_ways_11 : decode cX10_ways 11 = .ok (.if_icmp .ge 23, 3) := by decide +kernel
theorem dX10_ways_14 : decode cX10_ways 14 = .ok (.aload_n 0, 1) := by decide +kernel
theorem dX10_ways_15 : decode cX10_ways 15 = .ok (.iload_n 1, 1) := by decide +kernel
theorem dX10_ways_16 : decode cX10_ways 16 = .ok (.iload_n 3, 1) := by decide +kernel
theorem dX10_ways_17 : decode cX10_ways 17 = .ok (.iconst 0, 1) := by decide +kernel
theorem dX10_ways_18 : decode cX10_ways 18 = .ok (.iconst 0, 1) := by decide +kernel
theorem dX10_ways_19 : decode cX10_ways 19 = .ok (.invokevirtual 72, 3) := by decide +kernel
theorem dX10_ways_22 : decode cX10_ways 22 = .ok (.ifCond .lt 6, 3) := by decide +kernel
theorem dX10_ways_25 : decode cX10_ways 25 = .ok (.iinc 2 1, 3) := by decide +kernel
theorem dX10_ways_28 : decode cX10_ways 28 = .ok (.iinc 3 2, 3) := by decide +kernel
theorem dX10_ways_31 : decode cX10_ways 31 = .ok (.goto (-27), 3) := by decide +kernel
theorem dX10_ways_34 : decode cX10_ways 34 = .ok (.iload_n 2, 1) := by decide +kernel
theorem dX10_ways_35 : decode cX10_ways 35 = .ok (.ireturn, 1) := by decide +kernel
theorem dX10_fewest_0 : decode cX10_fewest 0 = .ok (.aload_n 0, 1) := by decide +kernel
theorem dX10_fewest_1 : decode cX10_fewest 1 = .ok (.aload_n 0, 1) := by decide +kernel
theorem dX10_fewest_2 : decode cX10_fewest 2 = .ok (.getfield 34, 3) := by decide +kernel
theorem dX10_fewest_5 : decode cX10_fewest 5 = .ok (.iload_n 1, 1) := by decide +kernel
theorem dX10_fewest_6 : decode cX10_fewest 6 = .ok (.iaload, 1) := by decide +kernel
theorem dX10_fewest_7 : decode cX10_fewest 7 = .ok (.iconst 0, 1) := by decide +kernel
theorem dX10_fewest_8 : decode cX10_fewest 8 = .ok (.iload_n 2, 1) := by decide +kernel
theorem dX10_fewest_9 : decode cX10_fewest 9 = .ok (.invokevirtual 82, 3) := by decide +kernel
theorem dX10_fewest_12 : decode cX10_fewest 12 = .ok (.invokestatic 76, 3) := by decide +kernel
theorem dX10_fewest_15 : decode cX10_fewest 15 = .ok (.iconst 1, 1) := by decide +kernel
theorem dX10_fewest_16 : decode cX10_fewest 16 = .ok (.iadd, 1) := by decide +kernel
theorem dX10_fewest_17 : decode cX10_fewest 17 = .ok (.ireturn, 1) := by decide +kernel
theorem dX10_piece_0 : decode cX10_piece 0 = .ok (.iconst 0, 1) := by decide +kernel
theorem dX10_piece_1 : decode cX10_piece 1 = .ok (.istore 4, 2) := by decide +kernel
theorem dX10_piece_3 : decode cX10_piece 3 = .ok (.iconst 0, 1) := by decide +kernel
theorem dX10_piece_4 : decode cX10_piece 4 = .ok (.istore 5, 2) := by decide +kernel
theorem dX10_piece_6 : decode cX10_piece 6 = .ok (.iconst 1, 1) := by decide +kernel
theorem dX10_piece_7 : decode cX10_piece 7 = .ok (.istore 6, 2) := by decide +kernel
theorem dX10_piece_9 : decode cX10_piece 9 = .ok (.iload 6, 2) := by decide +kernel
theorem dX10_piece_11 : decode cX10_piece 11 = .ok (.iload_n 1, 1) := by decide +kernel
theorem dX10_piece_12 : decode cX10_piece 12 = .ok (.invokestatic 46, 3) := by decide +kernel
theorem dX10_piece_15 : decode cX10_piece 15 = .ok (.if_icmp .gt 52, 3) := by decide +kernel
theorem dX10_piece_18 : decode cX10_piece 18 = .ok (.iload 6, 2) := by decide +kernel
theorem dX10_piece_20 : decode cX10_piece 20 = .ok (.iload_n 1, 1) := by decide +kernel
theorem dX10_piece_21 : decode cX10_piece 21 = .ok (.invokestatic 46, 3) := by decide +kernel
theorem dX10_piece_24 : decode cX10_piece 24 = .ok (.if_icmp .ge 15, 3) := by decide +kernel
theorem dX10_piece_27 : decode cX10_piece 27 = .ok (.iload_n 2, 1) := by decide +kernel
theorem dX10_piece_28 : decode cX10_piece 28 = .ok (.iload 6, 2) := by decide +kernel
theorem dX10_piece_30 : decode cX10_piece 30 = .ok (.ishr, 1) := by decide +kernel
theorem dX10_piece_31 : decode cX10_piece 31 = .ok (.iconst 1, 1) := by decide +kernel
theorem dX10_piece_32 : decode cX10_piece 32 = .ok (.iand, 1) := by decide +kernel
theorem dX10_piece_33 : decode cX10_piece 33 = .ok (.ifCond .ne 6, 3) := by decide +kernel
theorem dX10_piece_36 : decode cX10_piece 36 = .ok (.goto 25, 3) := by decide +kernel
theorem dX10_piece_39 : decode cX10_piece 39 = .ok (.iload 5, 2) := by decide +kernel
theorem dX10_piece_41 : decode cX10_piece 41 = .ok (.iload_n 3, 1) := by decide +kernel
theorem dX10_piece_42 : decode cX10_piece 42 = .ok (.if_icmp .ne 12, 3) := by decide +kernel
theorem dX10_piece_45 : decode cX10_piece 45 = .ok (.iload_n 1, 1) := by decide +kernel
theorem dX10_piece_46 : decode cX10_piece 46 = .ok (.iload 4, 2) := by decide +kernel
theorem dX10_piece_48 : decode cX10_piece 48 = .ok (.iload 6, 2) := by decide +kernel
theorem dX10_piece_50 : decode cX10_piece 50 = .ok (.invokestatic 59, 3) := by decide +kernel
theorem dX10_piece_53 : decode cX10_piece 53 = .ok (.ireturn, 1) := by decide +kernel
theorem dX10_piece_54 : decode cX10_piece 54 = .ok (.iinc 5 1, 3) := by decide +kernel
theorem dX10_piece_57 : decode cX10_piece 57 = .ok (.iload 6, 2) := by decide +kernel
theorem dX10_piece_59 : decode cX10_piece 59 = .ok (.istore 4, 2) := by decide +kernel
theorem dX10_piece_61 : decode cX10_piece 61 = .ok (.iinc 6 1, 3) := by decide +kernel
theorem dX10_piece_64 : decode cX10_piece 64 = .ok (.goto (-55), 3) := by decide +kernel
theorem dX10_piece_67 : decode cX10_piece 67 = .ok (.iconst 0, 1) := by decide +kernel
theorem dX10_piece_68 : decode cX10_piece 68 = .ok (.ireturn, 1) := by decide +kernel
theorem dX10_isFresh_0 : decode cX10_isFresh 0 = .ok (.aload_n 0, 1) := by decide +kernel
theorem dX10_isFresh_1 : decode cX10_isFresh 1 = .ok (.iload_n 1, 1) := by decide +kernel
theorem dX10_isFresh_2 : decode cX10_isFresh 2 = .ok (.iload_n 2, 1) := by decide +kernel
theorem dX10_isFresh_3 : decode cX10_isFresh 3 = .ok (.iload_n 3, 1) := by decide +kernel
theorem dX10_isFresh_4 : decode cX10_isFresh 4 = .ok (.invokevirtual 86, 3) := by decide +kernel
theorem dX10_isFresh_7 : decode cX10_isFresh 7 = .ok (.istore 4, 2) := by decide +kernel
theorem dX10_isFresh_9 : decode cX10_isFresh 9 = .ok (.iconst 0, 1) := by decide +kernel
theorem dX10_isFresh_10 : decode cX10_isFresh 10 = .ok (.istore 5, 2) := by decide +kernel
theorem dX10_isFresh_12 : decode cX10_isFresh 12 = .ok (.iload 5, 2) := by decide +kernel
theorem dX10_isFresh_14 : decode cX10_isFresh 14 = .ok (.iload_n 3, 1) := by decide +kernel
theorem dX10_isFresh_15 : decode cX10_isFresh 15 = .ok (.if_icmp .ge 24, 3) := by decide +kernel
theorem dX10_isFresh_18 : decode cX10_isFresh 18 = .ok (.aload_n 0, 1) := by decide +kernel
theorem dX10_isFresh_19 : decode cX10_isFresh 19 = .ok (.iload_n 1, 1) := by decide +kernel
theorem dX10_isFresh_20 : decode cX10_isFresh 20 = .ok (.iload_n 2, 1) := by decide +kernel
theorem dX10_isFresh_21 : decode cX10_isFresh 21 = .ok (.iload 5, 2) := by decide +kernel
theorem dX10_isFresh_23 : decode cX10_isFresh 23 = .ok (.invokevirtual 86, 3) := by decide +kernel
theorem dX10_isFresh_26 : decode cX10_isFresh 26 = .ok (.iload 4, 2) := by decide +kernel
theorem dX10_isFresh_28 : decode cX10_isFresh 28 = .ok (.if_icmp .ne 5, 3) := by decide +kernel
theorem dX10_isFresh_31 : decode cX10_isFresh 31 = .ok (.iconst 0, 1) := by decide +kernel
theorem dX10_isFresh_32 : decode cX10_isFresh 32 = .ok (.ireturn, 1) := by decide +kernel
theorem dX10_isFresh_33 : decode cX10_isFresh 33 = .ok (.iinc 5 1, 3) := by decide +kernel
theorem dX10_isFresh_36 : decode cX10_isFresh 36 = .ok (.goto (-24), 3) := by decide +kernel
theorem dX10_isFresh_39 : decode cX10_isFresh 39 = .ok (.aload_n 0, 1) := by decide +kernel
theorem dX10_isFresh_40 : decode cX10_isFresh 40 = .ok (.iload 4, 2) := by decide +kernel
theorem dX10_isFresh_42 : decode cX10_isFresh 42 = .ok (.invokevirtual 63, 3) := by decide +kernel
theorem dX10_isFresh_45 : decode cX10_isFresh 45 = .ok (.ifCond .ge 7, 3) := by decide +kernel
theorem dX10_isFresh_48 : decode cX10_isFresh 48 = .ok (.iconst 1, 1) := by decide +kernel
theorem dX10_isFresh_49 : decode cX10_isFresh 49 = .ok (.goto 4, 3) := by decide +kernel
theorem dX10_isFresh_52 : decode cX10_isFresh 52 = .ok (.iconst 0, 1) := by decide +kernel
theorem dX10_isFresh_53 : decode cX10_isFresh 53 = .ok (.ireturn, 1) := by decide +kernel
theorem dX10_fresh_0 : decode cX10_fresh 0 = .ok (.iconst 0, 1) := by decide +kernel
theorem dX10_fresh_1 : decode cX10_fresh 1 = .ok (.istore 4, 2) := by decide +kernel
theorem dX10_fresh_3 : decode cX10_fresh 3 = .ok (.iconst 0, 1) := by decide +kernel
theorem dX10_fresh_4 : decode cX10_fresh 4 = .ok (.istore 5, 2) := by decide +kernel
theorem dX10_fresh_6 : decode cX10_fresh 6 = .ok (.iload 5, 2) := by decide +kernel
theorem dX10_fresh_8 : decode cX10_fresh 8 = .ok (.iload_n 2, 1) := by decide +kernel
theorem dX10_fresh_9 : decode cX10_fresh 9 = .ok (.invokestatic 76, 3) := by decide +kernel
theorem dX10_fresh_12 : decode cX10_fresh 12 = .ok (.if_icmp .gt 45, 3) := by decide +kernel
theorem dX10_fresh_15 : decode cX10_fresh 15 = .ok (.aload_n 0, 1) := by decide +kernel
theorem dX10_fresh_16 : decode cX10_fresh 16 = .ok (.iload_n 1, 1) := by decide +kernel
theorem dX10_fresh_17 : decode cX10_fresh 17 = .ok (.iload_n 2, 1) := by decide +kernel
theorem dX10_fresh_18 : decode cX10_fresh 18 = .ok (.iload 5, 2) := by decide +kernel
theorem dX10_fresh_20 : decode cX10_fresh 20 = .ok (.invokevirtual 89, 3) := by decide +kernel
theorem dX10_fresh_23 : decode cX10_fresh 23 = .ok (.ifCond .eq 28, 3) := by decide +kernel
theorem dX10_fresh_26 : decode cX10_fresh 26 = .ok (.iload 4, 2) := by decide +kernel
theorem dX10_fresh_28 : decode cX10_fresh 28 = .ok (.iload_n 3, 1) := by decide +kernel
theorem dX10_fresh_29 : decode cX10_fresh 29 = .ok (.ifCond .eq 18, 3) := by decide +kernel
theorem dX10_fresh_32 : decode cX10_fresh 32 = .ok (.aload_n 0, 1) := by decide +kernel
theorem dX10_fresh_33 : decode cX10_fresh 33 = .ok (.aload_n 0, 1) := by decide +kernel
theorem dX10_fresh_34 : decode cX10_fresh 34 = .ok (.iload_n 1, 1) := by decide +kernel
theorem dX10_fresh_35 : decode cX10_fresh 35 = .ok (.iload_n 2, 1) := by decide +kernel
theorem dX10_fresh_36 : decode cX10_fresh 36 = .ok (.iload 5, 2) := by decide +kernel
theorem dX10_fresh_38 : decode cX10_fresh 38 = .ok (.invokevirtual 86, 3) := by decide +kernel
theorem dX10_fresh_41 : decode cX10_fresh 41 = .ok (.invokevirtual 69, 3) := by decide +kernel
theorem dX10_fresh_44 : decode cX10_fresh 44 = .ok (.goto 4, 3) := by decide +kernel
theorem dX10_fresh_47 : decode cX10_fresh 47 = .ok (.iconst 1, 1) := by decide +kernel
theorem dX10_fresh_48 : decode cX10_fresh 48 = .ok (.iadd, 1) := by decide +kernel
theorem dX10_fresh_49 : decode cX10_fresh 49 = .ok (.istore 4, 2) := by decide +kernel
theorem dX10_fresh_51 : decode cX10_fresh 51 = .ok (.iinc 5 1, 3) := by decide +kernel
theorem dX10_fresh_54 : decode cX10_fresh 54 = .ok (.goto (-48), 3) := by decide +kernel
theorem dX10_fresh_57 : decode cX10_fresh 57 = .ok (.iload 4, 2) := by decide +kernel
theorem dX10_fresh_59 : decode cX10_fresh 59 = .ok (.ireturn, 1) := by decide +kernel
theorem dX10_why_0 : decode cX10_why 0 = .ok (.aload_n 0, 1) := by decide +kernel
theorem dX10_why_1 : decode cX10_why 1 = .ok (.getfield 93, 3) := by decide +kernel
theorem dX10_why_4 : decode cX10_why 4 = .ok (.bipush 16, 2) := by decide +kernel
theorem dX10_why_6 : decode cX10_why 6 = .ok (.if_icmp .ne 5, 3) := by decide +kernel
theorem dX10_why_9 : decode cX10_why 9 = .ok (.iconst 2, 1) := by decide +kernel
theorem dX10_why_10 : decode cX10_why 10 = .ok (.ireturn, 1) := by decide +kernel
theorem dX10_why_11 : decode cX10_why 11 = .ok (.aload_n 0, 1) := by decide +kernel
theorem dX10_why_12 : decode cX10_why 12 = .ok (.getfield 49, 3) := by decide +kernel
theorem dX10_why_15 : decode cX10_why 15 = .ok (.aload_n 0, 1) := by decide +kernel
theorem dX10_why_16 : decode cX10_why 16 = .ok (.iload_n 2, 1) := by decide +kernel
theorem dX10_why_17 : decode cX10_why 17 = .ok (.iload_n 3, 1) := by decide +kernel
theorem dX10_why_18 : decode cX10_why 18 = .ok (.iconst 0, 1) := by decide +kernel
theorem dX10_why_19 : decode cX10_why 19 = .ok (.invokevirtual 96, 3) := by decide +kernel
theorem dX10_why_22 : decode cX10_why 22 = .ok (.iadd, 1) := by decide +kernel
theorem dX10_why_23 : decode cX10_why 23 = .ok (.bipush 24, 2) := by decide +kernel
theorem dX10_why_25 : decode cX10_why 25 = .ok (.if_icmp .le 5, 3) := by decide +kernel
theorem dX10_why_28 : decode cX10_why 28 = .ok (.iconst 3, 1) := by decide +kernel
theorem dX10_why_29 : decode cX10_why 29 = .ok (.ireturn, 1) := by decide +kernel
theorem dX10_why_30 : decode cX10_why 30 = .ok (.aload_n 0, 1) := by decide +kernel
theorem dX10_why_31 : decode cX10_why 31 = .ok (.getfield 7, 3) := by decide +kernel
theorem dX10_why_34 : decode cX10_why 34 = .ok (.iload_n 1, 1) := by decide +kernel
theorem dX10_why_35 : decode cX10_why 35 = .ok (.iaload, 1) := by decide +kernel
theorem dX10_why_36 : decode cX10_why 36 = .ok (.aload_n 0, 1) := by decide +kernel
theorem dX10_why_37 : decode cX10_why 37 = .ok (.iload_n 2, 1) := by decide +kernel
theorem dX10_why_38 : decode cX10_why 38 = .ok (.iload_n 3, 1) := by decide +kernel
theorem dX10_why_39 : decode cX10_why 39 = .ok (.iconst 1, 1) := by decide +kernel
theorem dX10_why_40 : decode cX10_why 40 = .ok (.invokevirtual 96, 3) := by decide +kernel
theorem dX10_why_43 : decode cX10_why 43 = .ok (.aload_n 0, 1) := by decide +kernel
theorem dX10_why_44 : decode cX10_why 44 = .ok (.getfield 66, 3) := by decide +kernel
theorem dX10_why_47 : decode cX10_why 47 = .ok (.iload_n 3, 1) := by decide +kernel
theorem dX10_why_48 : decode cX10_why 48 = .ok (.invokestatic 76, 3) := by decide +kernel
theorem dX10_why_51 : decode cX10_why 51 = .ok (.iconst 1, 1) := by decide +kernel
theorem dX10_why_52 : decode cX10_why 52 = .ok (.iadd, 1) := by decide +kernel
theorem dX10_why_53 : decode cX10_why 53 = .ok (.imul, 1) := by decide +kernel
theorem dX10_why_54 : decode cX10_why 54 = .ok (.iadd, 1) := by decide +kernel
theorem dX10_why_55 : decode cX10_why 55 = .ok (.if_icmp .ge 7, 3) := by decide +kernel
theorem dX10_why_58 : decode cX10_why 58 = .ok (.iconst 4, 1) := by decide +kernel
theorem dX10_why_59 : decode cX10_why 59 = .ok (.goto 4, 3) := by decide +kernel
theorem dX10_why_62 : decode cX10_why 62 = .ok (.iconst 0, 1) := by decide +kernel
theorem dX10_why_63 : decode cX10_why 63 = .ok (.ireturn, 1) := by decide +kernel
theorem dX10_comes_0 : decode cX10_comes 0 = .ok (.aload_n 0, 1) := by decide +kernel
theorem dX10_comes_1 : decode cX10_comes 1 = .ok (.getfield 16, 3) := by decide +kernel
theorem dX10_comes_4 : decode cX10_comes 4 = .ok (.aload_n 0, 1) := by decide +kernel
theorem dX10_comes_5 : decode cX10_comes 5 = .ok (.getfield 49, 3) := by decide +kernel
theorem dX10_comes_8 : decode cX10_comes 8 = .ok (.iload_n 1, 1) := by decide +kernel
theorem dX10_comes_9 : decode cX10_comes 9 = .ok (.iastore, 1) := by decide +kernel
theorem dX10_comes_10 : decode cX10_comes 10 = .ok (.aload_n 0, 1) := by decide +kernel
theorem dX10_comes_11 : decode cX10_comes 11 = .ok (.getfield 19, 3) := by decide +kernel
theorem dX10_comes_14 : decode cX10_comes 14 = .ok (.aload_n 0, 1) := by decide +kernel
theorem dX10_comes_15 : decode cX10_comes 15 = .ok (.getfield 49, 3) := by decide +kernel
theorem dX10_comes_18 : decode cX10_comes 18 = .ok (.iload_n 2, 1) := by decide +kernel
theorem dX10_comes_19 : decode cX10_comes 19 = .ok (.iastore, 1) := by decide +kernel
theorem dX10_comes_20 : decode cX10_comes 20 = .ok (.aload_n 0, 1) := by decide +kernel
theorem dX10_comes_21 : decode cX10_comes 21 = .ok (.getfield 22, 3) := by decide +kernel
theorem dX10_comes_24 : decode cX10_comes 24 = .ok (.aload_n 0, 1) := by decide +kernel
theorem dX10_comes_25 : decode cX10_comes 25 = .ok (.getfield 49, 3) := by decide +kernel
theorem dX10_comes_28 : decode cX10_comes 28 = .ok (.iload_n 3, 1) := by decide +kernel
theorem dX10_comes_29 : decode cX10_comes 29 = .ok (.iastore, 1) := by decide +kernel
theorem dX10_comes_30 : decode cX10_comes 30 = .ok (.aload_n 0, 1) := by decide +kernel
theorem dX10_comes_31 : decode cX10_comes 31 = .ok (.getfield 25, 3) := by decide +kernel
theorem dX10_comes_34 : decode cX10_comes 34 = .ok (.aload_n 0, 1) := by decide +kernel
theorem dX10_comes_35 : decode cX10_comes 35 = .ok (.getfield 49, 3) := by decide +kernel
theorem dX10_comes_38 : decode cX10_comes 38 = .ok (.iconst 0, 1) := by decide +kernel
theorem dX10_comes_39 : decode cX10_comes 39 = .ok (.iastore, 1) := by decide +kernel
theorem dX10_comes_40 : decode cX10_comes 40 = .ok (.aload_n 0, 1) := by decide +kernel
theorem dX10_comes_41 : decode cX10_comes 41 = .ok (.getfield 28, 3) := by decide +kernel
theorem dX10_comes_44 : decode cX10_comes 44 = .ok (.aload_n 0, 1) := by decide +kernel
theorem dX10_comes_45 : decode cX10_comes 45 = .ok (.getfield 49, 3) := by decide +kernel
theorem dX10_comes_48 : decode cX10_comes 48 = .ok (.aload_n 0, 1) := by decide +kernel
theorem dX10_comes_49 : decode cX10_comes 49 = .ok (.getfield 100, 3) := by decide +kernel
theorem dX10_comes_52 : decode cX10_comes 52 = .ok (.iastore, 1) := by decide +kernel
theorem dX10_comes_53 : decode cX10_comes 53 = .ok (.aload_n 0, 1) := by decide +kernel
theorem dX10_comes_54 : decode cX10_comes 54 = .ok (.dup, 1) := by decide +kernel
theorem dX10_comes_55 : decode cX10_comes 55 = .ok (.getfield 49, 3) := by decide +kernel
theorem dX10_comes_58 : decode cX10_comes 58 = .ok (.iconst 1, 1) := by decide +kernel
theorem dX10_comes_59 : decode cX10_comes 59 = .ok (.iadd, 1) := by decide +kernel
theorem dX10_comes_60 : decode cX10_comes 60 = .ok (.putfield 49, 3) := by decide +kernel
theorem dX10_comes_63 : decode cX10_comes 63 = .ok (.return_, 1) := by decide +kernel
theorem dX10_buys_0 : decode cX10_buys 0 = .ok (.aload_n 0, 1) := by decide +kernel
theorem dX10_buys_1 : decode cX10_buys 1 = .ok (.iload_n 1, 1) := by decide +kernel
theorem dX10_buys_2 : decode cX10_buys 2 = .ok (.invokevirtual 69, 3) := by decide +kernel
theorem dX10_buys_5 : decode cX10_buys 5 = .ok (.istore_n 3, 1) := by decide +kernel
theorem dX10_buys_6 : decode cX10_buys 6 = .ok (.aload_n 0, 1) := by decide +kernel
theorem dX10_buys_7 : decode cX10_buys 7 = .ok (.getfield 7, 3) := by decide +kernel
theorem dX10_buys_10 : decode cX10_buys 10 = .ok (.iload_n 2, 1) := by decide +kernel
theorem dX10_buys_11 : decode cX10_buys 11 = .ok (.dup2, 1) := by decide +kernel
theorem dX10_buys_12 : decode cX10_buys 12 = .ok (.iaload, 1) := by decide +kernel
theorem dX10_buys_13 : decode cX10_buys 13 = .ok (.iload_n 3, 1) := by decide +kernel
theorem dX10_buys_14 : decode cX10_buys 14 = .ok (.isub, 1) := by decide +kernel
theorem dX10_buys_15 : decode cX10_buys 15 = .ok (.iastore, 1) := by decide +kernel
theorem dX10_buys_16 : decode cX10_buys 16 = .ok (.aload_n 0, 1) := by decide +kernel
theorem dX10_buys_17 : decode cX10_buys 17 = .ok (.dup, 1) := by decide +kernel
theorem dX10_buys_18 : decode cX10_buys 18 = .ok (.getfield 103, 3) := by decide +kernel
theorem dX10_buys_21 : decode cX10_buys 21 = .ok (.iload_n 3, 1) := by decide +kernel
theorem dX10_buys_22 : decode cX10_buys 22 = .ok (.iadd, 1) := by decide +kernel
theorem dX10_buys_23 : decode cX10_buys 23 = .ok (.putfield 103, 3) := by decide +kernel
theorem dX10_buys_26 : decode cX10_buys 26 = .ok (.aload_n 0, 1) := by decide +kernel
theorem dX10_buys_27 : decode cX10_buys 27 = .ok (.getfield 13, 3) := by decide +kernel
theorem dX10_buys_30 : decode cX10_buys 30 = .ok (.iconst 0, 1) := by decide +kernel
theorem dX10_buys_31 : decode cX10_buys 31 = .ok (.dup2, 1) := by decide +kernel
theorem dX10_buys_32 : decode cX10_buys 32 = .ok (.iaload, 1) := by decide +kernel
theorem dX10_buys_33 : decode cX10_buys 33 = .ok (.iload_n 3, 1) := by decide +kernel
theorem dX10_buys_34 : decode cX10_buys 34 = .ok (.iadd, 1) := by decide +kernel
theorem dX10_buys_35 : decode cX10_buys 35 = .ok (.iastore, 1) := by decide +kernel
theorem dX10_buys_36 : decode cX10_buys 36 = .ok (.aload_n 0, 1) := by decide +kernel
theorem dX10_buys_37 : decode cX10_buys 37 = .ok (.getfield 13, 3) := by decide +kernel
theorem dX10_buys_40 : decode cX10_buys 40 = .ok (.iconst 4, 1) := by decide +kernel
theorem dX10_buys_41 : decode cX10_buys 41 = .ok (.dup2, 1) := by decide +kernel
theorem dX10_buys_42 : decode cX10_buys 42 = .ok (.iaload, 1) := by decide +kernel
theorem dX10_buys_43 : decode cX10_buys 43 = .ok (.iconst 1, 1) := by decide +kernel
theorem dX10_buys_44 : decode cX10_buys 44 = .ok (.iadd, 1) := by decide +kernel
theorem dX10_buys_45 : decode cX10_buys 45 = .ok (.iastore, 1) := by decide +kernel
theorem dX10_buys_46 : decode cX10_buys 46 = .ok (.aload_n 0, 1) := by decide +kernel
theorem dX10_buys_47 : decode cX10_buys 47 = .ok (.iload_n 1, 1) := by decide +kernel
theorem dX10_buys_48 : decode cX10_buys 48 = .ok (.iload_n 3, 1) := by decide +kernel
theorem dX10_buys_49 : decode cX10_buys 49 = .ok (.iload_n 2, 1) := by decide +kernel
theorem dX10_buys_50 : decode cX10_buys 50 = .ok (.invokevirtual 106, 3) := by decide +kernel
theorem dX10_buys_53 : decode cX10_buys 53 = .ok (.return_, 1) := by decide +kernel
theorem dX10_uses_0 : decode cX10_uses 0 = .ok (.iconst 0, 1) := by decide +kernel
theorem dX10_uses_1 : decode cX10_uses 1 = .ok (.istore 4, 2) := by decide +kernel
theorem dX10_uses_3 : decode cX10_uses 3 = .ok (.iload 4, 2) := by decide +kernel
theorem dX10_uses_5 : decode cX10_uses 5 = .ok (.iload_n 2, 1) := by decide +kernel
theorem dX10_uses_6 : decode cX10_uses 6 = .ok (.invokestatic 76, 3) := by decide +kernel
theorem dX10_uses_9 : decode cX10_uses 9 = .ok (.if_icmp .gt 55, 3) := by decide +kernel
theorem dX10_uses_12 : decode cX10_uses 12 = .ok (.aload_n 0, 1) := by decide +kernel
theorem dX10_uses_13 : decode cX10_uses 13 = .ok (.aload_n 0, 1) := by decide +kernel
theorem dX10_uses_14 : decode cX10_uses 14 = .ok (.iload_n 1, 1) := by decide +kernel
theorem dX10_uses_15 : decode cX10_uses 15 = .ok (.iload_n 2, 1) := by decide +kernel
theorem dX10_uses_16 : decode cX10_uses 16 = .ok (.iload 4, 2) := by decide +kernel
theorem dX10_uses_18 : decode cX10_uses 18 = .ok (.invokevirtual 86, 3) := by decide +kernel
theorem dX10_uses_21 : decode cX10_uses 21 = .ok (.invokevirtual 63, 3) := by decide +kernel
theorem dX10_uses_24 : decode cX10_uses 24 = .ok (.istore 5, 2) := by decide +kernel
theorem dX10_uses_26 : decode cX10_uses 26 = .ok (.aload_n 0, 1) := by decide +kernel
theorem dX10_uses_27 : decode cX10_uses 27 = .ok (.getfield 25, 3) := by decide +kernel
theorem dX10_uses_30 : decode cX10_uses 30 = .ok (.iload 5, 2) := by decide +kernel
theorem dX10_uses_32 : decode cX10_uses 32 = .ok (.dup2, 1) := by decide +kernel
theorem dX10_uses_33 : decode cX10_uses 33 = .ok (.iaload, 1) := by decide +kernel
theorem dX10_uses_34 : decode cX10_uses 34 = .ok (.iload_n 3, 1) := by decide +kernel
theorem dX10_uses_35 : decode cX10_uses 35 = .ok (.iadd, 1) := by decide +kernel
theorem dX10_uses_36 : decode cX10_uses 36 = .ok (.iastore, 1) := by decide +kernel
theorem dX10_uses_37 : decode cX10_uses 37 = .ok (.aload_n 0, 1) := by decide +kernel
theorem dX10_uses_38 : decode cX10_uses 38 = .ok (.getfield 25, 3) := by decide +kernel
theorem dX10_uses_41 : decode cX10_uses 41 = .ok (.iload 5, 2) := by decide +kernel
theorem dX10_uses_43 : decode cX10_uses 43 = .ok (.iaload, 1) := by decide +kernel
theorem dX10_uses_44 : decode cX10_uses 44 = .ok (.ifCond .ne 14, 3) := by decide +kernel
theorem dX10_uses_47 : decode cX10_uses 47 = .ok (.aload_n 0, 1) := by decide +kernel
theorem dX10_uses_48 : decode cX10_uses 48 = .ok (.getfield 28, 3) := by decide +kernel
theorem dX10_uses_51 : decode cX10_uses 51 = .ok (.iload 5, 2) := by decide +kernel
theorem dX10_uses_53 : decode cX10_uses 53 = .ok (.aload_n 0, 1) := by decide +kernel
theorem dX10_uses_54 : decode cX10_uses 54 = .ok (.getfield 100, 3) := by decide +kernel
theorem dX10_uses_57 : decode cX10_uses 57 = .ok (.iastore, 1) := by decide +kernel
theorem dX10_uses_58 : decode cX10_uses 58 = .ok (.iinc 4 1, 3) := by decide +kernel
theorem dX10_uses_61 : decode cX10_uses 61 = .ok (.goto (-58), 3) := by decide +kernel
theorem dX10_uses_64 : decode cX10_uses 64 = .ok (.return_, 1) := by decide +kernel
theorem dX10_store_0 : decode cX10_store 0 = .ok (.aload_n 0, 1) := by decide +kernel
theorem dX10_store_1 : decode cX10_store 1 = .ok (.iload_n 2, 1) := by decide +kernel
theorem dX10_store_2 : decode cX10_store 2 = .ok (.iconst 1, 1) := by decide +kernel
theorem dX10_store_3 : decode cX10_store 3 = .ok (.iconst 0, 1) := by decide +kernel
theorem dX10_store_4 : decode cX10_store 4 = .ok (.invokevirtual 82, 3) := by decide +kernel
theorem dX10_store_7 : decode cX10_store 7 = .ok (.istore_n 3, 1) := by decide +kernel
theorem dX10_store_8 : decode cX10_store 8 = .ok (.iconst 0, 1) := by decide +kernel
theorem dX10_store_9 : decode cX10_store 9 = .ok (.istore 4, 2) := by decide +kernel
theorem dX10_store_11 : decode cX10_store 11 = .ok (.iload 4, 2) := by decide +kernel
theorem dX10_store_13 : decode cX10_store 13 = .ok (.iload_n 3, 1) := by decide +kernel
theorem dX10_store_14 : decode cX10_store 14 = .ok (.invokestatic 76, 3) := by decide +kernel
theorem dX10_store_17 : decode cX10_store 17 = .ok (.if_icmp .gt 37, 3) := by decide +kernel
theorem dX10_store_20 : decode cX10_store 20 = .ok (.aload_n 0, 1) := by decide +kernel
theorem dX10_store_21 : decode cX10_store 21 = .ok (.aload_n 0, 1) := by decide +kernel
theorem dX10_store_22 : decode cX10_store 22 = .ok (.iload_n 2, 1) := by decide +kernel
theorem dX10_store_23 : decode cX10_store 23 = .ok (.iload_n 3, 1) := by decide +kernel
theorem dX10_store_24 : decode cX10_store 24 = .ok (.iload 4, 2) := by decide +kernel
theorem dX10_store_26 : decode cX10_store 26 = .ok (.invokevirtual 86, 3) := by decide +kernel
theorem dX10_store_29 : decode cX10_store 29 = .ok (.invokevirtual 63, 3) := by decide +kernel
theorem dX10_store_32 : decode cX10_store 32 = .ok (.ifCond .ge 16, 3) := by decide +kernel
theorem dX10_store_35 : decode cX10_store 35 = .ok (.aload_n 0, 1) := by decide +kernel
theorem dX10_store_36 : decode cX10_store 36 = .ok (.aload_n 0, 1) := by decide +kernel
theorem dX10_store_37 : decode cX10_store 37 = .ok (.iload_n 2, 1) := by decide +kernel
theorem dX10_store_38 : decode cX10_store 38 = .ok (.iload_n 3, 1) := by decide +kernel
theorem dX10_store_39 : decode cX10_store 39 = .ok (.iload 4, 2) := by decide +kernel
theorem dX10_store_41 : decode cX10_store 41 = .ok (.invokevirtual 86, 3) := by decide +kernel
theorem dX10_store_44 : decode cX10_store 44 = .ok (.iload_n 1, 1) := by decide +kernel
theorem dX10_store_45 : decode cX10_store 45 = .ok (.invokevirtual 110, 3) := by decide +kernel
theorem dX10_store_48 : decode cX10_store 48 = .ok (.iinc 4 1, 3) := by decide +kernel
theorem dX10_store_51 : decode cX10_store 51 = .ok (.goto (-40), 3) := by decide +kernel
theorem dX10_store_54 : decode cX10_store 54 = .ok (.aload_n 0, 1) := by decide +kernel
theorem dX10_store_55 : decode cX10_store 55 = .ok (.iload_n 2, 1) := by decide +kernel
theorem dX10_store_56 : decode cX10_store 56 = .ok (.iload_n 3, 1) := by decide +kernel
theorem dX10_store_57 : decode cX10_store 57 = .ok (.iconst 1, 1) := by decide +kernel
theorem dX10_store_58 : decode cX10_store 58 = .ok (.invokevirtual 114, 3) := by decide +kernel
theorem dX10_store_61 : decode cX10_store 61 = .ok (.aload_n 0, 1) := by decide +kernel
theorem dX10_store_62 : decode cX10_store 62 = .ok (.getfield 66, 3) := by decide +kernel
theorem dX10_store_65 : decode cX10_store 65 = .ok (.iload_n 3, 1) := by decide +kernel
theorem dX10_store_66 : decode cX10_store 66 = .ok (.invokestatic 76, 3) := by decide +kernel
theorem dX10_store_69 : decode cX10_store 69 = .ok (.iconst 1, 1) := by decide +kernel
theorem dX10_store_70 : decode cX10_store 70 = .ok (.iadd, 1) := by decide +kernel
theorem dX10_store_71 : decode cX10_store 71 = .ok (.imul, 1) := by decide +kernel
theorem dX10_store_72 : decode cX10_store 72 = .ok (.istore 4, 2) := by decide +kernel
theorem dX10_store_74 : decode cX10_store 74 = .ok (.aload_n 0, 1) := by decide +kernel
theorem dX10_store_75 : decode cX10_store 75 = .ok (.getfield 7, 3) := by decide +kernel
theorem dX10_store_78 : decode cX10_store 78 = .ok (.iload_n 1, 1) := by decide +kernel
theorem dX10_store_79 : decode cX10_store 79 = .ok (.dup2, 1) := by decide +kernel
theorem dX10_store_80 : decode cX10_store 80 = .ok (.iaload, 1) := by decide +kernel
theorem dX10_store_81 : decode cX10_store 81 = .ok (.iload 4, 2) := by decide +kernel
theorem dX10_store_83 : decode cX10_store 83 = .ok (.isub, 1) := by decide +kernel
theorem dX10_store_84 : decode cX10_store 84 = .ok (.iastore, 1) := by decide +kernel
theorem dX10_store_85 : decode cX10_store 85 = .ok (.aload_n 0, 1) := by decide +kernel
theorem dX10_store_86 : decode cX10_store 86 = .ok (.dup, 1) := by decide +kernel
theorem dX10_store_87 : decode cX10_store 87 = .ok (.getfield 116, 3) := by decide +kernel
theorem dX10_store_90 : decode cX10_store 90 = .ok (.iload 4, 2) := by decide +kernel
theorem dX10_store_92 : decode cX10_store 92 = .ok (.iadd, 1) := by decide +kernel
theorem dX10_store_93 : decode cX10_store 93 = .ok (.putfield 116, 3) := by decide +kernel
theorem dX10_store_96 : decode cX10_store 96 = .ok (.aload_n 0, 1) := by decide +kernel
theorem dX10_store_97 : decode cX10_store 97 = .ok (.getfield 13, 3) := by decide +kernel
theorem dX10_store_100 : decode cX10_store 100 = .ok (.iconst 2, 1) := by decide +kernel
theorem dX10_store_101 : decode cX10_store 101 = .ok (.dup2, 1) := by decide +kernel
theorem dX10_store_102 : decode cX10_store 102 = .ok (.iaload, 1) := by decide +kernel
theorem dX10_store_103 : decode cX10_store 103 = .ok (.iload 4, 2) := by decide +kernel
theorem dX10_store_105 : decode cX10_store 105 = .ok (.iadd, 1) := by decide +kernel
theorem dX10_store_106 : decode cX10_store 106 = .ok (.iastore, 1) := by decide +kernel
theorem dX10_store_107 : decode cX10_store 107 = .ok (.aload_n 0, 1) := by decide +kernel
theorem dX10_store_108 : decode cX10_store 108 = .ok (.getfield 31, 3) := by decide +kernel
theorem dX10_store_111 : decode cX10_store 111 = .ok (.aload_n 0, 1) := by decide +kernel
theorem dX10_store_112 : decode cX10_store 112 = .ok (.getfield 93, 3) := by decide +kernel
theorem dX10_store_115 : decode cX10_store 115 = .ok (.iload_n 1, 1) := by decide +kernel
theorem dX10_store_116 : decode cX10_store 116 = .ok (.iastore, 1) := by decide +kernel
theorem dX10_store_117 : decode cX10_store 117 = .ok (.aload_n 0, 1) := by decide +kernel
theorem dX10_store_118 : decode cX10_store 118 = .ok (.getfield 34, 3) := by decide +kernel
theorem dX10_store_121 : decode cX10_store 121 = .ok (.aload_n 0, 1) := by decide +kernel
theorem dX10_store_122 : decode cX10_store 122 = .ok (.getfield 93, 3) := by decide +kernel
theorem dX10_store_125 : decode cX10_store 125 = .ok (.iload_n 2, 1) := by decide +kernel
theorem dX10_store_126 : decode cX10_store 126 = .ok (.iastore, 1) := by decide +kernel
theorem dX10_store_127 : decode cX10_store 127 = .ok (.aload_n 0, 1) := by decide +kernel
theorem dX10_store_128 : decode cX10_store 128 = .ok (.getfield 37, 3) := by decide +kernel
theorem dX10_store_131 : decode cX10_store 131 = .ok (.aload_n 0, 1) := by decide +kernel
theorem dX10_store_132 : decode cX10_store 132 = .ok (.getfield 93, 3) := by decide +kernel
theorem dX10_store_135 : decode cX10_store 135 = .ok (.iload_n 3, 1) := by decide +kernel
theorem dX10_store_136 : decode cX10_store 136 = .ok (.iastore, 1) := by decide +kernel
theorem dX10_store_137 : decode cX10_store 137 = .ok (.aload_n 0, 1) := by decide +kernel
theorem dX10_store_138 : decode cX10_store 138 = .ok (.dup, 1) := by decide +kernel
theorem dX10_store_139 : decode cX10_store 139 = .ok (.getfield 93, 3) := by decide +kernel
theorem dX10_store_142 : decode cX10_store 142 = .ok (.iconst 1, 1) := by decide +kernel
theorem dX10_store_143 : decode cX10_store 143 = .ok (.iadd, 1) := by decide +kernel
theorem dX10_store_144 : decode cX10_store 144 = .ok (.putfield 93, 3) := by decide +kernel
theorem dX10_store_147 : decode cX10_store 147 = .ok (.return_, 1) := by decide +kernel
theorem dX10_back_0 : decode cX10_back 0 = .ok (.aload_n 0, 1) := by decide +kernel
theorem dX10_back_1 : decode cX10_back 1 = .ok (.getfield 7, 3) := by decide +kernel
theorem dX10_back_4 : decode cX10_back 4 = .ok (.iload_n 1, 1) := by decide +kernel
theorem dX10_back_5 : decode cX10_back 5 = .ok (.dup2, 1) := by decide +kernel
theorem dX10_back_6 : decode cX10_back 6 = .ok (.iaload, 1) := by decide +kernel
theorem dX10_back_7 : decode cX10_back 7 = .ok (.iload_n 2, 1) := by decide +kernel
theorem dX10_back_8 : decode cX10_back 8 = .ok (.iadd, 1) := by decide +kernel
theorem dX10_back_9 : decode cX10_back 9 = .ok (.iastore, 1) := by decide +kernel
theorem dX10_back_10 : decode cX10_back 10 = .ok (.aload_n 0, 1) := by decide +kernel
theorem dX10_back_11 : decode cX10_back 11 = .ok (.dup, 1) := by decide +kernel
theorem dX10_back_12 : decode cX10_back 12 = .ok (.getfield 116, 3) := by decide +kernel
theorem dX10_back_15 : decode cX10_back 15 = .ok (.iload_n 2, 1) := by decide +kernel
theorem dX10_back_16 : decode cX10_back 16 = .ok (.isub, 1) := by decide +kernel
theorem dX10_back_17 : decode cX10_back 17 = .ok (.putfield 116, 3) := by decide +kernel
theorem dX10_back_20 : decode cX10_back 20 = .ok (.aload_n 0, 1) := by decide +kernel
theorem dX10_back_21 : decode cX10_back 21 = .ok (.getfield 13, 3) := by decide +kernel
theorem dX10_back_24 : decode cX10_back 24 = .ok (.iconst 3, 1) := by decide +kernel
theorem dX10_back_25 : decode cX10_back 25 = .ok (.dup2, 1) := by decide +kernel
theorem dX10_back_26 : decode cX10_back 26 = .ok (.iaload, 1) := by decide +kernel
theorem dX10_back_27 : decode cX10_back 27 = .ok (.iload_n 2, 1) := by decide +kernel
theorem dX10_back_28 : decode cX10_back 28 = .ok (.iadd, 1) := by decide +kernel
theorem dX10_back_29 : decode cX10_back 29 = .ok (.iastore, 1) := by decide +kernel
theorem dX10_back_30 : decode cX10_back 30 = .ok (.return_, 1) := by decide +kernel
theorem dX10_recut_0 : decode cX10_recut 0 = .ok (.aload_n 0, 1) := by decide +kernel
theorem dX10_recut_1 : decode cX10_recut 1 = .ok (.aload_n 0, 1) := by decide +kernel
theorem dX10_recut_2 : decode cX10_recut 2 = .ok (.getfield 34, 3) := by decide +kernel
theorem dX10_recut_5 : decode cX10_recut 5 = .ok (.iload_n 1, 1) := by decide +kernel
theorem dX10_recut_6 : decode cX10_recut 6 = .ok (.iaload, 1) := by decide +kernel
theorem dX10_recut_7 : decode cX10_recut 7 = .ok (.iconst 0, 1) := by decide +kernel
theorem dX10_recut_8 : decode cX10_recut 8 = .ok (.iconst 0, 1) := by decide +kernel
theorem dX10_recut_9 : decode cX10_recut 9 = .ok (.invokevirtual 82, 3) := by decide +kernel
theorem dX10_recut_12 : decode cX10_recut 12 = .ok (.istore_n 2, 1) := by decide +kernel
theorem dX10_recut_13 : decode cX10_recut 13 = .ok (.aload_n 0, 1) := by decide +kernel
theorem dX10_recut_14 : decode cX10_recut 14 = .ok (.aload_n 0, 1) := by decide +kernel
theorem dX10_recut_15 : decode cX10_recut 15 = .ok (.getfield 34, 3) := by decide +kernel
theorem dX10_recut_18 : decode cX10_recut 18 = .ok (.iload_n 1, 1) := by decide +kernel
theorem dX10_recut_19 : decode cX10_recut 19 = .ok (.iaload, 1) := by decide +kernel
theorem dX10_recut_20 : decode cX10_recut 20 = .ok (.iload_n 2, 1) := by decide +kernel
theorem dX10_recut_21 : decode cX10_recut 21 = .ok (.iconst 1, 1) := by decide +kernel
theorem dX10_recut_22 : decode cX10_recut 22 = .ok (.invokevirtual 114, 3) := by decide +kernel
theorem dX10_recut_25 : decode cX10_recut 25 = .ok (.aload_n 0, 1) := by decide +kernel
theorem dX10_recut_26 : decode cX10_recut 26 = .ok (.aload_n 0, 1) := by decide +kernel
theorem dX10_recut_27 : decode cX10_recut 27 = .ok (.getfield 34, 3) := by decide +kernel
theorem dX10_recut_30 : decode cX10_recut 30 = .ok (.iload_n 1, 1) := by decide +kernel
theorem dX10_recut_31 : decode cX10_recut 31 = .ok (.iaload, 1) := by decide +kernel
theorem dX10_recut_32 : decode cX10_recut 32 = .ok (.aload_n 0, 1) := by decide +kernel
theorem dX10_recut_33 : decode cX10_recut 33 = .ok (.getfield 37, 3) := by decide +kernel
theorem dX10_recut_36 : decode cX10_recut 36 = .ok (.iload_n 1, 1) := by decide +kernel
theorem dX10_recut_37 : decode cX10_recut 37 = .ok (.iaload, 1) := by decide +kernel
theorem dX10_recut_38 : decode cX10_recut 38 = .ok (.iconst (-1), 1) := by decide +kernel
theorem dX10_recut_39 : decode cX10_recut 39 = .ok (.invokevirtual 114, 3) := by decide +kernel
theorem dX10_recut_42 : decode cX10_recut 42 = .ok (.aload_n 0, 1) := by decide +kernel
theorem dX10_recut_43 : decode cX10_recut 43 = .ok (.getfield 66, 3) := by decide +kernel
theorem dX10_recut_46 : decode cX10_recut 46 = .ok (.aload_n 0, 1) := by decide +kernel
theorem dX10_recut_47 : decode cX10_recut 47 = .ok (.getfield 37, 3) := by decide +kernel
theorem dX10_recut_50 : decode cX10_recut 50 = .ok (.iload_n 1, 1) := by decide +kernel
theorem dX10_recut_51 : decode cX10_recut 51 = .ok (.iaload, 1) := by decide +kernel
theorem dX10_recut_52 : decode cX10_recut 52 = .ok (.invokestatic 76, 3) := by decide +kernel
theorem dX10_recut_55 : decode cX10_recut 55 = .ok (.iload_n 2, 1) := by decide +kernel
theorem dX10_recut_56 : decode cX10_recut 56 = .ok (.invokestatic 76, 3) := by decide +kernel
theorem dX10_recut_59 : decode cX10_recut 59 = .ok (.isub, 1) := by decide +kernel
theorem dX10_recut_60 : decode cX10_recut 60 = .ok (.imul, 1) := by decide +kernel
theorem dX10_recut_61 : decode cX10_recut 61 = .ok (.istore_n 3, 1) := by decide +kernel
theorem dX10_recut_62 : decode cX10_recut 62 = .ok (.aload_n 0, 1) := by decide +kernel
theorem dX10_recut_63 : decode cX10_recut 63 = .ok (.getfield 37, 3) := by decide +kernel
theorem dX10_recut_66 : decode cX10_recut 66 = .ok (.iload_n 1, 1) := by decide +kernel
theorem dX10_recut_67 : decode cX10_recut 67 = .ok (.iload_n 2, 1) := by decide +kernel
theorem dX10_recut_68 : decode cX10_recut 68 = .ok (.iastore, 1) := by decide +kernel
theorem dX10_recut_69 : decode cX10_recut 69 = .ok (.aload_n 0, 1) := by decide +kernel
theorem dX10_recut_70 : decode cX10_recut 70 = .ok (.aload_n 0, 1) := by decide +kernel
theorem dX10_recut_71 : decode cX10_recut 71 = .ok (.getfield 31, 3) := by decide +kernel
theorem dX10_recut_74 : decode cX10_recut 74 = .ok (.iload_n 1, 1) := by decide +kernel
theorem dX10_recut_75 : decode cX10_recut 75 = .ok (.iaload, 1) := by decide +kernel
theorem dX10_recut_76 : decode cX10_recut 76 = .ok (.iload_n 3, 1) := by decide +kernel
theorem dX10_recut_77 : decode cX10_recut 77 = .ok (.invokevirtual 119, 3) := by decide +kernel
theorem dX10_recut_80 : decode cX10_recut 80 = .ok (.iload_n 3, 1) := by decide +kernel
theorem dX10_recut_81 : decode cX10_recut 81 = .ok (.ireturn, 1) := by decide +kernel
theorem dX10_remove_0 : decode cX10_remove 0 = .ok (.aload_n 0, 1) := by decide +kernel
theorem dX10_remove_1 : decode cX10_remove 1 = .ok (.aload_n 0, 1) := by decide +kernel
theorem dX10_remove_2 : decode cX10_remove 2 = .ok (.getfield 34, 3) := by decide +kernel
theorem dX10_remove_5 : decode cX10_remove 5 = .ok (.iload_n 1, 1) := by decide +kernel
theorem dX10_remove_6 : decode cX10_remove 6 = .ok (.iaload, 1) := by decide +kernel
theorem dX10_remove_7 : decode cX10_remove 7 = .ok (.aload_n 0, 1) := by decide +kernel
theorem dX10_remove_8 : decode cX10_remove 8 = .ok (.getfield 37, 3) := by decide +kernel
theorem dX10_remove_11 : decode cX10_remove 11 = .ok (.iload_n 1, 1) := by decide +kernel
theorem dX10_remove_12 : decode cX10_remove 12 = .ok (.iaload, 1) := by decide +kernel
theorem dX10_remove_13 : decode cX10_remove 13 = .ok (.iconst (-1), 1) := by decide +kernel
theorem dX10_remove_14 : decode cX10_remove 14 = .ok (.invokevirtual 114, 3) := by decide +kernel
theorem dX10_remove_17 : decode cX10_remove 17 = .ok (.aload_n 0, 1) := by decide +kernel
theorem dX10_remove_18 : decode cX10_remove 18 = .ok (.getfield 31, 3) := by decide +kernel
theorem dX10_remove_21 : decode cX10_remove 21 = .ok (.iload_n 1, 1) := by decide +kernel
theorem dX10_remove_22 : decode cX10_remove 22 = .ok (.iaload, 1) := by decide +kernel
theorem dX10_remove_23 : decode cX10_remove 23 = .ok (.istore_n 2, 1) := by decide +kernel
theorem dX10_remove_24 : decode cX10_remove 24 = .ok (.aload_n 0, 1) := by decide +kernel
theorem dX10_remove_25 : decode cX10_remove 25 = .ok (.iload_n 2, 1) := by decide +kernel
theorem dX10_remove_26 : decode cX10_remove 26 = .ok (.aload_n 0, 1) := by decide +kernel
theorem dX10_remove_27 : decode cX10_remove 27 = .ok (.getfield 66, 3) := by decide +kernel
theorem dX10_remove_30 : decode cX10_remove 30 = .ok (.aload_n 0, 1) := by decide +kernel
theorem dX10_remove_31 : decode cX10_remove 31 = .ok (.getfield 37, 3) := by decide +kernel
theorem dX10_remove_34 : decode cX10_remove 34 = .ok (.iload_n 1, 1) := by decide +kernel
theorem dX10_remove_35 : decode cX10_remove 35 = .ok (.iaload, 1) := by decide +kernel
theorem dX10_remove_36 : decode cX10_remove 36 = .ok (.invokestatic 76, 3) := by decide +kernel
theorem dX10_remove_39 : decode cX10_remove 39 = .ok (.iconst 1, 1) := by decide +kernel
theorem dX10_remove_40 : decode cX10_remove 40 = .ok (.iadd, 1) := by decide +kernel
theorem dX10_remove_41 : decode cX10_remove 41 = .ok (.imul, 1) := by decide +kernel
theorem dX10_remove_42 : decode cX10_remove 42 = .ok (.invokevirtual 119, 3) := by decide +kernel
theorem dX10_remove_45 : decode cX10_remove 45 = .ok (.aload_n 0, 1) := by decide +kernel
theorem dX10_remove_46 : decode cX10_remove 46 = .ok (.dup, 1) := by decide +kernel
theorem dX10_remove_47 : decode cX10_remove 47 = .ok (.getfield 93, 3) := by decide +kernel
theorem dX10_remove_50 : decode cX10_remove 50 = .ok (.iconst 1, 1) := by decide +kernel
theorem dX10_remove_51 : decode cX10_remove 51 = .ok (.isub, 1) := by decide +kernel
theorem dX10_remove_52 : decode cX10_remove 52 = .ok (.putfield 93, 3) := by decide +kernel
theorem dX10_remove_55 : decode cX10_remove 55 = .ok (.iload_n 1, 1) := by decide +kernel
theorem dX10_remove_56 : decode cX10_remove 56 = .ok (.istore_n 3, 1) := by decide +kernel
theorem dX10_remove_57 : decode cX10_remove 57 = .ok (.iload_n 3, 1) := by decide +kernel
theorem dX10_remove_58 : decode cX10_remove 58 = .ok (.aload_n 0, 1) := by decide +kernel
theorem dX10_remove_59 : decode cX10_remove 59 = .ok (.getfield 93, 3) := by decide +kernel
theorem dX10_remove_62 : decode cX10_remove 62 = .ok (.if_icmp .ge 51, 3) := by decide +kernel
theorem dX10_remove_65 : decode cX10_remove 65 = .ok (.aload_n 0, 1) := by decide +kernel
theorem dX10_remove_66 : decode cX10_remove 66 = .ok (.getfield 31, 3) := by decide +kernel
theorem dX10_remove_69 : decode cX10_remove 69 = .ok (.iload_n 3, 1) := by decide +kernel
theorem dX10_remove_70 : decode cX10_remove 70 = .ok (.aload_n 0, 1) := by decide +kernel
theorem dX10_remove_71 : decode cX10_remove 71 = .ok (.getfield 31, 3) := by decide +kernel
theorem dX10_remove_74 : decode cX10_remove 74 = .ok (.iload_n 3, 1) := by decide +kernel
theorem dX10_remove_75 : decode cX10_remove 75 = .ok (.iconst 1, 1) := by decide +kernel
theorem dX10_remove_76 : decode cX10_remove 76 = .ok (.iadd, 1) := by decide +kernel
theorem dX10_remove_77 : decode cX10_remove 77 = .ok (.iaload, 1) := by decide +kernel
theorem dX10_remove_78 : decode cX10_remove 78 = .ok (.iastore, 1) := by decide +kernel
theorem dX10_remove_79 : decode cX10_remove 79 = .ok (.aload_n 0, 1) := by decide +kernel
theorem dX10_remove_80 : decode cX10_remove 80 = .ok (.getfield 34, 3) := by decide +kernel
theorem dX10_remove_83 : decode cX10_remove 83 = .ok (.iload_n 3, 1) := by decide +kernel
theorem dX10_remove_84 : decode cX10_remove 84 = .ok (.aload_n 0, 1) := by decide +kernel
theorem dX10_remove_85 : decode cX10_remove 85 = .ok (.getfield 34, 3) := by decide +kernel
theorem dX10_remove_88 : decode cX10_remove 88 = .ok (.iload_n 3, 1) := by decide +kernel
theorem dX10_remove_89 : decode cX10_remove 89 = .ok (.iconst 1, 1) := by decide +kernel
theorem dX10_remove_90 : decode cX10_remove 90 = .ok (.iadd, 1) := by decide +kernel
theorem dX10_remove_91 : decode cX10_remove 91 = .ok (.iaload, 1) := by decide +kernel
theorem dX10_remove_92 : decode cX10_remove 92 = .ok (.iastore, 1) := by decide +kernel
theorem dX10_remove_93 : decode cX10_remove 93 = .ok (.aload_n 0, 1) := by decide +kernel
theorem dX10_remove_94 : decode cX10_remove 94 = .ok (.getfield 37, 3) := by decide +kernel
theorem dX10_remove_97 : decode cX10_remove 97 = .ok (.iload_n 3, 1) := by decide +kernel
theorem dX10_remove_98 : decode cX10_remove 98 = .ok (.aload_n 0, 1) := by decide +kernel
theorem dX10_remove_99 : decode cX10_remove 99 = .ok (.getfield 37, 3) := by decide +kernel
theorem dX10_remove_102 : decode cX10_remove 102 = .ok (.iload_n 3, 1) := by decide +kernel
theorem dX10_remove_103 : decode cX10_remove 103 = .ok (.iconst 1, 1) := by decide +kernel
theorem dX10_remove_104 : decode cX10_remove 104 = .ok (.iadd, 1) := by decide +kernel
theorem dX10_remove_105 : decode cX10_remove 105 = .ok (.iaload, 1) := by decide +kernel
theorem dX10_remove_106 : decode cX10_remove 106 = .ok (.iastore, 1) := by decide +kernel
theorem dX10_remove_107 : decode cX10_remove 107 = .ok (.iinc 3 1, 3) := by decide +kernel
theorem dX10_remove_110 : decode cX10_remove 110 = .ok (.goto (-53), 3) := by decide +kernel
theorem dX10_remove_113 : decode cX10_remove 113 = .ok (.aload_n 0, 1) := by decide +kernel
theorem dX10_remove_114 : decode cX10_remove 114 = .ok (.getfield 7, 3) := by decide +kernel
theorem dX10_remove_117 : decode cX10_remove 117 = .ok (.iload_n 2, 1) := by decide +kernel
theorem dX10_remove_118 : decode cX10_remove 118 = .ok (.iaload, 1) := by decide +kernel
theorem dX10_remove_119 : decode cX10_remove 119 = .ok (.ireturn, 1) := by decide +kernel
theorem dX10_tick_0 : decode cX10_tick 0 = .ok (.aload_n 0, 1) := by decide +kernel
theorem dX10_tick_1 : decode cX10_tick 1 = .ok (.dup, 1) := by decide +kernel
theorem dX10_tick_2 : decode cX10_tick 2 = .ok (.getfield 100, 3) := by decide +kernel
theorem dX10_tick_5 : decode cX10_tick 5 = .ok (.iconst 1, 1) := by decide +kernel
theorem dX10_tick_6 : decode cX10_tick 6 = .ok (.iadd, 1) := by decide +kernel
theorem dX10_tick_7 : decode cX10_tick 7 = .ok (.putfield 100, 3) := by decide +kernel
theorem dX10_tick_10 : decode cX10_tick 10 = .ok (.iconst 0, 1) := by decide +kernel
theorem dX10_tick_11 : decode cX10_tick 11 = .ok (.istore_n 1, 1) := by decide +kernel
theorem dX10_tick_12 : decode cX10_tick 12 = .ok (.iconst 0, 1) := by decide +kernel
theorem dX10_tick_13 : decode cX10_tick 13 = .ok (.istore_n 2, 1) := by decide +kernel
theorem dX10_tick_14 : decode cX10_tick 14 = .ok (.iconst 0, 1) := by decide +kernel
theorem dX10_tick_15 : decode cX10_tick 15 = .ok (.istore_n 3, 1) := by decide +kernel
theorem dX10_tick_16 : decode cX10_tick 16 = .ok (.iload_n 3, 1) := by decide +kernel
theorem dX10_tick_17 : decode cX10_tick 17 = .ok (.aload_n 0, 1) := by decide +kernel
theorem dX10_tick_18 : decode cX10_tick 18 = .ok (.getfield 49, 3) := by decide +kernel
theorem dX10_tick_21 : decode cX10_tick 21 = .ok (.if_icmp .ge 178, 3) := by decide +kernel
theorem dX10_tick_24 : decode cX10_tick 24 = .ok (.aload_n 0, 1) := by decide +kernel
theorem dX10_tick_25 : decode cX10_tick 25 = .ok (.getfield 22, 3) := by decide +kernel
theorem dX10_tick_28 : decode cX10_tick 28 = .ok (.iload_n 3, 1) := by decide +kernel
theorem dX10_tick_29 : decode cX10_tick 29 = .ok (.iaload, 1) := by decide +kernel
theorem dX10_tick_30 : decode cX10_tick 30 = .ok (.ifCond .lt 100, 3) := by decide +kernel
theorem dX10_tick_33 : decode cX10_tick 33 = .ok (.aload_n 0, 1) := by decide +kernel
theorem dX10_tick_34 : decode cX10_tick 34 = .ok (.getfield 25, 3) := by decide +kernel
theorem dX10_tick_37 : decode cX10_tick 37 = .ok (.iload_n 3, 1) := by decide +kernel
theorem dX10_tick_38 : decode cX10_tick 38 = .ok (.iaload, 1) := by decide +kernel
theorem dX10_tick_39 : decode cX10_tick 39 = .ok (.ifCond .ne 91, 3) := by decide +kernel
theorem dX10_tick_42 : decode cX10_tick 42 = .ok (.aload_n 0, 1) := by decide +kernel
theorem dX10_tick_43 : decode cX10_tick 43 = .ok (.getfield 100, 3) := by decide +kernel
theorem dX10_tick_46 : decode cX10_tick 46 = .ok (.aload_n 0, 1) := by decide +kernel
theorem dX10_tick_47 : decode cX10_tick 47 = .ok (.getfield 28, 3) := by decide +kernel
theorem dX10_tick_50 : decode cX10_tick 50 = .ok (.iload_n 3, 1) := by decide +kernel
theorem dX10_tick_51 : decode cX10_tick 51 = .ok (.iaload, 1) := by decide +kernel
theorem dX10_tick_52 : decode cX10_tick 52 = .ok (.isub, 1) := by decide +kernel
theorem dX10_tick_53 : decode cX10_tick 53 = .ok (.aload_n 0, 1) := by decide +kernel
theorem dX10_tick_54 : decode cX10_tick 54 = .ok (.getfield 122, 3) := by decide +kernel
theorem dX10_tick_57 : decode cX10_tick 57 = .ok (.if_icmp .le 73, 3) := by decide +kernel
theorem dX10_tick_60 : decode cX10_tick 60 = .ok (.aload_n 0, 1) := by decide +kernel
theorem dX10_tick_61 : decode cX10_tick 61 = .ok (.getfield 19, 3) := by decide +kernel
theorem dX10_tick_64 : decode cX10_tick 64 = .ok (.iload_n 3, 1) := by decide +kernel
theorem dX10_tick_65 : decode cX10_tick 65 = .ok (.iaload, 1) := by decide +kernel
theorem dX10_tick_66 : decode cX10_tick 66 = .ok (.aload_n 0, 1) := by decide +kernel
theorem dX10_tick_67 : decode cX10_tick 67 = .ok (.getfield 125, 3) := by decide +kernel
theorem dX10_tick_70 : decode cX10_tick 70 = .ok (.imul, 1) := by decide +kernel
theorem dX10_tick_71 : decode cX10_tick 71 = .ok (.bipush 100, 2) := by decide +kernel
theorem dX10_tick_73 : decode cX10_tick 73 = .ok (.idiv, 1) := by decide +kernel
theorem dX10_tick_74 : decode cX10_tick 74 = .ok (.istore 4, 2) := by decide +kernel
theorem dX10_tick_76 : decode cX10_tick 76 = .ok (.aload_n 0, 1) := by decide +kernel
theorem dX10_tick_77 : decode cX10_tick 77 = .ok (.dup, 1) := by decide +kernel
theorem dX10_tick_78 : decode cX10_tick 78 = .ok (.getfield 103, 3) := by decide +kernel
theorem dX10_tick_81 : decode cX10_tick 81 = .ok (.iload 4, 2) := by decide +kernel
theorem dX10_tick_83 : decode cX10_tick 83 = .ok (.isub, 1) := by decide +kernel
theorem dX10_tick_84 : decode cX10_tick 84 = .ok (.putfield 103, 3) := by decide +kernel
theorem dX10_tick_87 : decode cX10_tick 87 = .ok (.aload_n 0, 1) := by decide +kernel
theorem dX10_tick_88 : decode cX10_tick 88 = .ok (.getfield 7, 3) := by decide +kernel
theorem dX10_tick_91 : decode cX10_tick 91 = .ok (.aload_n 0, 1) := by decide +kernel
theorem dX10_tick_92 : decode cX10_tick 92 = .ok (.getfield 22, 3) := by decide +kernel
theorem dX10_tick_95 : decode cX10_tick 95 = .ok (.iload_n 3, 1) := by decide +kernel
theorem dX10_tick_96 : decode cX10_tick 96 = .ok (.iaload, 1) := by decide +kernel
theorem dX10_tick_97 : decode cX10_tick 97 = .ok (.dup2, 1) := by decide +kernel
theorem dX10_tick_98 : decode cX10_tick 98 = .ok (.iaload, 1) := by decide +kernel
theorem dX10_tick_99 : decode cX10_tick 99 = .ok (.iload 4, 2) := by decide +kernel
theorem dX10_tick_101 : decode cX10_tick 101 = .ok (.iadd, 1) := by decide +kernel
theorem dX10_tick_102 : decode cX10_tick 102 = .ok (.iastore, 1) := by decide +kernel
theorem dX10_tick_103 : decode cX10_tick 103 = .ok (.aload_n 0, 1) := by decide +kernel
theorem dX10_tick_104 : decode cX10_tick 104 = .ok (.getfield 13, 3) := by decide +kernel
theorem dX10_tick_107 : decode cX10_tick 107 = .ok (.iconst 1, 1) := by decide +kernel
theorem dX10_tick_108 : decode cX10_tick 108 = .ok (.dup2, 1) := by decide +kernel
theorem dX10_tick_109 : decode cX10_tick 109 = .ok (.iaload, 1) := by decide +kernel
theorem dX10_tick_110 : decode cX10_tick 110 = .ok (.iload 4, 2) := by decide +kernel
theorem dX10_tick_112 : decode cX10_tick 112 = .ok (.iadd, 1) := by decide +kernel
theorem dX10_tick_113 : decode cX10_tick 113 = .ok (.iastore, 1) := by decide +kernel
theorem dX10_tick_114 : decode cX10_tick 114 = .ok (.aload_n 0, 1) := by decide +kernel
theorem dX10_tick_115 : decode cX10_tick 115 = .ok (.getfield 13, 3) := by decide +kernel
theorem dX10_tick_118 : decode cX10_tick 118 = .ok (.iconst 5, 1) := by decide +kernel
theorem dX10_tick_119 : decode cX10_tick 119 = .ok (.dup2, 1) := by decide +kernel
theorem dX10_tick_120 : decode cX10_tick 120 = .ok (.iaload, 1) := by decide +kernel
theorem dX10_tick_121 : decode cX10_tick 121 = .ok (.iconst 1, 1) := by decide +kernel
theorem dX10_tick_122 : decode cX10_tick 122 = .ok (.iadd, 1) := by decide +kernel
theorem dX10_tick_123 : decode cX10_tick 123 = .ok (.iastore, 1) := by decide +kernel
theorem dX10_tick_124 : decode cX10_tick 124 = .ok (.iinc 2 1, 3) := by decide +kernel
theorem dX10_tick_127 : decode cX10_tick 127 = .ok (.goto 66, 3) := by decide +kernel
theorem dX10_tick_130 : decode cX10_tick 130 = .ok (.aload_n 0, 1) := by decide +kernel
theorem dX10_tick_131 : decode cX10_tick 131 = .ok (.getfield 16, 3) := by decide +kernel
theorem dX10_tick_134 : decode cX10_tick 134 = .ok (.iload_n 1, 1) := by decide +kernel
theorem dX10_tick_135 : decode cX10_tick 135 = .ok (.aload_n 0, 1) := by decide +kernel
theorem dX10_tick_136 : decode cX10_tick 136 = .ok (.getfield 16, 3) := by decide +kernel
theorem dX10_tick_139 : decode cX10_tick 139 = .ok (.iload_n 3, 1) := by decide +kernel
theorem dX10_tick_140 : decode cX10_tick 140 = .ok (.iaload, 1) := by decide +kernel
theorem dX10_tick_141 : decode cX10_tick 141 = .ok (.iastore, 1) := by decide +kernel
theorem dX10_tick_142 : decode cX10_tick 142 = .ok (.aload_n 0, 1) := by decide +kernel
theorem dX10_tick_143 : decode cX10_tick 143 = .ok (.getfield 19, 3) := by decide +kernel
theorem dX10_tick_146 : decode cX10_tick 146 = .ok (.iload_n 1, 1) := by decide +kernel
theorem dX10_tick_147 : decode cX10_tick 147 = .ok (.aload_n 0, 1) := by decide +kernel
theorem dX10_tick_148 : decode cX10_tick 148 = .ok (.getfield 19, 3) := by decide +kernel
theorem dX10_tick_151 : decode cX10_tick 151 = .ok (.iload_n 3, 1) := by decide +kernel
theorem dX10_tick_152 : decode cX10_tick 152 = .ok (.iaload, 1) := by decide +kernel
theorem dX10_tick_153 : decode cX10_tick 153 = .ok (.iastore, 1) := by decide +kernel
theorem dX10_tick_154 : decode cX10_tick 154 = .ok (.aload_n 0, 1) := by decide +kernel
theorem dX10_tick_155 : decode cX10_tick 155 = .ok (.getfield 22, 3) := by decide +kernel
theorem dX10_tick_158 : decode cX10_tick 158 = .ok (.iload_n 1, 1) := by decide +kernel
theorem dX10_tick_159 : decode cX10_tick 159 = .ok (.aload_n 0, 1) := by decide +kernel
theorem dX10_tick_160 : decode cX10_tick 160 = .ok (.getfield 22, 3) := by decide +kernel
theorem dX10_tick_163 : decode cX10_tick 163 = .ok (.iload_n 3, 1) := by decide +kernel
theorem dX10_tick_164 : decode cX10_tick 164 = .ok (.iaload, 1) := by decide +kernel
theorem dX10_tick_165 : decode cX10_tick 165 = .ok (.iastore, 1) := by decide +kernel
theorem dX10_tick_166 : decode cX10_tick 166 = .ok (.aload_n 0, 1) := by decide +kernel
theorem dX10_tick_167 : decode cX10_tick 167 = .ok (.getfield 25, 3) := by decide +kernel
theorem dX10_tick_170 : decode cX10_tick 170 = .ok (.iload_n 1, 1) := by decide +kernel
theorem dX10_tick_171 : decode cX10_tick 171 = .ok (.aload_n 0, 1) := by decide +kernel
theorem dX10_tick_172 : decode cX10_tick 172 = .ok (.getfield 25, 3) := by decide +kernel
theorem dX10_tick_175 : decode cX10_tick 175 = .ok (.iload_n 3, 1) := by decide +kernel
theorem dX10_tick_176 : decode cX10_tick 176 = .ok (.iaload, 1) := by decide +kernel
theorem dX10_tick_177 : decode cX10_tick 177 = .ok (.iastore, 1) := by decide +kernel
theorem dX10_tick_178 : decode cX10_tick 178 = .ok (.aload_n 0, 1) := by decide +kernel
theorem dX10_tick_179 : decode cX10_tick 179 = .ok (.getfield 28, 3) := by decide +kernel
theorem dX10_tick_182 : decode cX10_tick 182 = .ok (.iload_n 1, 1) := by decide +kernel
theorem dX10_tick_183 : decode cX10_tick 183 = .ok (.iinc 1 1, 3) := by decide +kernel
theorem dX10_tick_186 : decode cX10_tick 186 = .ok (.aload_n 0, 1) := by decide +kernel
theorem dX10_tick_187 : decode cX10_tick 187 = .ok (.getfield 28, 3) := by decide +kernel
theorem dX10_tick_190 : decode cX10_tick 190 = .ok (.iload_n 3, 1) := by decide +kernel
theorem dX10_tick_191 : decode cX10_tick 191 = .ok (.iaload, 1) := by decide +kernel
theorem dX10_tick_192 : decode cX10_tick 192 = .ok (.iastore, 1) := by decide +kernel
theorem dX10_tick_193 : decode cX10_tick 193 = .ok (.iinc 3 1, 3) := by decide +kernel
theorem dX10_tick_196 : decode cX10_tick 196 = .ok (.goto (-180), 3) := by decide +kernel
theorem dX10_tick_199 : decode cX10_tick 199 = .ok (.aload_n 0, 1) := by decide +kernel
theorem dX10_tick_200 : decode cX10_tick 200 = .ok (.iload_n 1, 1) := by decide +kernel
theorem dX10_tick_201 : decode cX10_tick 201 = .ok (.putfield 49, 3) := by decide +kernel
theorem dX10_tick_204 : decode cX10_tick 204 = .ok (.iload_n 2, 1) := by decide +kernel
theorem dX10_tick_205 : decode cX10_tick 205 = .ok (.ireturn, 1) := by decide +kernel
