theorem dL_feeds_0 : decode cL_feeds 0 = .ok (.iconst 0, 1) := by decide +kernel
theorem dL_feeds_1 : decode cL_feeds 1 = .ok (.istore_n 2, 1) := by decide +kernel
theorem dL_feeds_2 : decode cL_feeds 2 = .ok (.iconst 0, 1) := by decide +kernel
theorem dL_feeds_3 : decode cL_feeds 3 = .ok (.istore_n 3, 1) := by decide +kernel
theorem dL_feeds_4 : decode cL_feeds 4 = .ok (.iload_n 3, 1) := by decide +kernel
theorem dL_feeds_5 : decode cL_feeds 5 = .ok (.aload_n 1, 1) := by decide +kernel
theorem dL_feeds_6 : decode cL_feeds 6 = .ok (.invokevirtual 7, 3) := by decide +kernel
theorem dL_feeds_9 : decode cL_feeds 9 = .ok (.if_icmp .ge 105, 3) := by decide +kernel
theorem dL_feeds_12 : decode cL_feeds 12 = .ok (.iconst 5, 1) := by decide +kernel
theorem dL_feeds_13 : decode cL_feeds 13 = .ok (.newarray .int, 2) := by decide +kernel
theorem dL_feeds_15 : decode cL_feeds 15 = .ok (.astore 4, 2) := by decide +kernel
theorem dL_feeds_17 : decode cL_feeds 17 = .ok (.iconst 0, 1) := by decide +kernel
theorem dL_feeds_18 : decode cL_feeds 18 = .ok (.istore 5, 2) := by decide +kernel
theorem dL_feeds_20 : decode cL_feeds 20 = .ok (.iload 5, 2) := by decide +kernel
theorem dL_feeds_22 : decode cL_feeds 22 = .ok (.bipush 20, 2) := by decide +kernel
theorem dL_feeds_24 : decode cL_feeds 24 = .ok (.if_icmp .ge 51, 3) := by decide +kernel
theorem dL_feeds_27 : decode cL_feeds 27 = .ok (.aload 4, 2) := by decide +kernel
theorem dL_feeds_29 : decode cL_feeds 29 = .ok (.iload 5, 2) := by decide +kernel
theorem dL_feeds_31 : decode cL_feeds 31 = .ok (.iconst 4, 1) := by decide +kernel
theorem dL_feeds_32 : decode cL_feeds 32 = .ok (.idiv, 1) := by decide +kernel
theorem dL_feeds_33 : decode cL_feeds 33 = .ok (.aload 4, 2) := by decide +kernel
theorem dL_feeds_35 : decode cL_feeds 35 = .ok (.iload 5, 2) := by decide +kernel
theorem dL_feeds_37 : decode cL_feeds 37 = .ok (.iconst 4, 1) := by decide +kernel
theorem dL_feeds_38 : decode cL_feeds 38 = .ok (.idiv, 1) := by decide +kernel
theorem dL_feeds_39 : decode cL_feeds 39 = .ok (.iaload, 1) := by decide +kernel
theorem dL_feeds_40 : decode cL_feeds 40 = .ok (.bipush 8, 2) := by decide +kernel
theorem dL_feeds_42 : decode cL_feeds 42 = .ok (.ishl, 1) := by decide +kernel
theorem dL_feeds_43 : decode cL_feeds 43 = .ok (.iload_n 3, 1) := by decide +kernel
theorem dL_feeds_44 : decode cL_feeds 44 = .ok (.iload 5, 2) := by decide +kernel
theorem dL_feeds_46 : decode cL_feeds 46 = .ok (.iadd, 1) := by decide +kernel
theorem dL_feeds_47 : decode cL_feeds 47 = .ok (.aload_n 1, 1) := by decide +kernel
theorem dL_feeds_48 : decode cL_feeds 48 = .ok (.invokevirtual 7, 3) := by decide +kernel
theorem dL_feeds_51 : decode cL_feeds 51 = .ok (.if_icmp .ge 14, 3) := by decide +kernel
theorem dL_feeds_54 : decode cL_feeds 54 = .ok (.aload_n 1, 1) := by decide +kernel
theorem dL_feeds_55 : decode cL_feeds 55 = .ok (.iload_n 3, 1) := by decide +kernel
theorem dL_feeds_56 : decode cL_feeds 56 = .ok (.iload 5, 2) := by decide +kernel
theorem dL_feeds_58 : decode cL_feeds 58 = .ok (.iadd, 1) := by decide +kernel
theorem dL_feeds_59 : decode cL_feeds 59 = .ok (.invokevirtual 13, 3) := by decide +kernel
theorem dL_feeds_62 : decode cL_feeds 62 = .ok (.goto 5, 3) := by decide +kernel
theorem dL_feeds_65 : decode cL_feeds 65 = .ok (.bipush 32, 2) := by decide +kernel
theorem dL_feeds_67 : decode cL_feeds 67 = .ok (.ior, 1) := by decide +kernel
theorem dL_feeds_68 : decode cL_feeds 68 = .ok (.iastore, 1) := by decide +kernel
theorem dL_feeds_69 : decode cL_feeds 69 = .ok (.iinc 5 1, 3) := by decide +kernel
theorem dL_feeds_72 : decode cL_feeds 72 = .ok (.goto (-52), 3) := by decide +kernel
theorem dL_feeds_75 : decode cL_feeds 75 = .ok (.iinc 2 20, 3) := by decide +kernel
theorem dL_feeds_78 : decode cL_feeds 78 = .ok (.aload_n 0, 1) := by decide +kernel
theorem dL_feeds_79 : decode cL_feeds 79 = .ok (.aload 4, 2) := by decide +kernel
theorem dL_feeds_81 : decode cL_feeds 81 = .ok (.iconst 0, 1) := by decide +kernel
theorem dL_feeds_82 : decode cL_feeds 82 = .ok (.iaload, 1) := by decide +kernel
theorem dL_feeds_83 : decode cL_feeds 83 = .ok (.aload 4, 2) := by decide +kernel
theorem dL_feeds_85 : decode cL_feeds 85 = .ok (.iconst 1, 1) := by decide +kernel
theorem dL_feeds_86 : decode cL_feeds 86 = .ok (.iaload, 1) := by decide +kernel
theorem dL_feeds_87 : decode cL_feeds 87 = .ok (.aload 4, 2) := by decide +kernel
theorem dL_feeds_89 : decode cL_feeds 89 = .ok (.iconst 2, 1) := by decide +kernel
theorem dL_feeds_90 : decode cL_feeds 90 = .ok (.iaload, 1) := by decide +kernel
theorem dL_feeds_91 : decode cL_feeds 91 = .ok (.aload 4, 2) := by decide +kernel
theorem dL_feeds_93 : decode cL_feeds 93 = .ok (.iconst 3, 1) := by decide +kernel
theorem dL_feeds_94 : decode cL_feeds 94 = .ok (.iaload, 1) := by decide +kernel
theorem dL_feeds_95 : decode cL_feeds 95 = .ok (.aload 4, 2) := by decide +kernel
theorem dL_feeds_97 : decode cL_feeds 97 = .ok (.iconst 4, 1) := by decide +kernel
theorem dL_feeds_98 : decode cL_feeds 98 = .ok (.iaload, 1) := by decide +kernel
theorem dL_feeds_99 : decode cL_feeds 99 = .ok (.invokevirtual 17, 3) := by decide +kernel
theorem dL_feeds_102 : decode cL_feeds 102 = .ok (.iload_n 2, 1) := by decide +kernel
theorem dL_feeds_103 : decode cL_feeds 103 = .ok (.if_icmp .eq 5, 3) := by decide +kernel
theorem dL_feeds_106 : decode cL_feeds 106 = .ok (.iconst 0, 1) := by decide +kernel
theorem dL_feeds_107 : decode cL_feeds 107 = .ok (.ireturn, 1) := by decide +kernel
theorem dL_feeds_108 : decode cL_feeds 108 = .ok (.iinc 3 20, 3) := by decide +kernel
theorem dL_feeds_111 : decode cL_feeds 111 = .ok (.goto (-107), 3) := by decide +kernel
theorem dL_feeds_114 : decode cL_feeds 114 = .ok (.iconst 1, 1) := by decide +kernel
theorem dL_feeds_115 : decode cL_feeds 115 = .ok (.ireturn, 1) := by decide +kernel
theorem dL_draw_0 : decode cL_draw 0 = .ok (.aload_n 0, 1) := by decide +kernel
theorem dL_draw_1 : decode cL_draw 1 = .ok (.iconst 0, 1) := by decide +kernel
theorem dL_draw_2 : decode cL_draw 2 = .ok (.aload_n 0, 1) := by decide +kernel
theorem dL_draw_3 : decode cL_draw 3 = .ok (.iconst 0, 1) := by decide +kernel
theorem dL_draw_4 : decode cL_draw 4 = .ok (.iaload, 1) := by decide +kernel
theorem dL_draw_5 : decode cL_draw 5 = .ok (.ldc 23, 2) := by decide +kernel
theorem dL_draw_7 : decode cL_draw 7 = .ok (.imul, 1) := by decide +kernel
theorem dL_draw_8 : decode cL_draw 8 = .ok (.ldc 24, 2) := by decide +kernel
theorem dL_draw_10 : decode cL_draw 10 = .ok (.iadd, 1) := by decide +kernel
theorem dL_draw_11 : decode cL_draw 11 = .ok (.iastore, 1) := by decide +kernel
theorem dL_draw_12 : decode cL_draw 12 = .ok (.aload_n 0, 1) := by decide +kernel
theorem dL_draw_13 : decode cL_draw 13 = .ok (.iconst 0, 1) := by decide +kernel
theorem dL_draw_14 : decode cL_draw 14 = .ok (.iaload, 1) := by decide +kernel
theorem dL_draw_15 : decode cL_draw 15 = .ok (.bipush 8, 2) := by decide +kernel
theorem dL_draw_17 : decode cL_draw 17 = .ok (.iushr, 1) := by decide +kernel
theorem dL_draw_18 : decode cL_draw 18 = .ok (.iload_n 1, 1) := by decide +kernel
theorem dL_draw_19 : decode cL_draw 19 = .ok (.irem, 1) := by decide +kernel
theorem dL_draw_20 : decode cL_draw 20 = .ok (.ireturn, 1) := by decide +kernel
theorem dL_law_0 : decode cL_law 0 = .ok (.new 18, 3) := by decide +kernel
theorem dL_law_3 : decode cL_law 3 = .ok (.dup, 1) := by decide +kernel
theorem dL_law_4 : decode cL_law 4 = .ok (.invokespecial 25, 3) := by decide +kernel
theorem dL_law_7 : decode cL_law 7 = .ok (.astore_n 1, 1) := by decide +kernel
theorem dL_law_8 : decode cL_law 8 = .ok (.aload_n 0, 1) := by decide +kernel
theorem dL_law_9 : decode cL_law 9 = .ok (.arraylength, 1) := by decide +kernel
theorem dL_law_10 : decode cL_law 10 = .ok (.istore_n 2, 1) := by decide +kernel
theorem dL_law_11 : decode cL_law 11 = .ok (.iconst 0, 1) := by decide +kernel
theorem dL_law_12 : decode cL_law 12 = .ok (.istore_n 3, 1) := by decide +kernel
theorem dL_law_13 : decode cL_law 13 = .ok (.iload_n 3, 1) := by decide +kernel
theorem dL_law_14 : decode cL_law 14 = .ok (.iload_n 2, 1) := by decide +kernel
theorem dL_law_15 : decode cL_law 15 = .ok (.if_icmp .ge 32, 3) := by decide +kernel
theorem dL_law_18 : decode cL_law 18 = .ok (.iload_n 3, 1) := by decide +kernel
theorem dL_law_19 : decode cL_law 19 = .ok (.iconst 3, 1) := by decide +kernel
theorem dL_law_20 : decode cL_law 20 = .ok (.if_icmp .ge 27, 3) := by decide +kernel
theorem dL_law_23 : decode cL_law 23 = .ok (.aload_n 1, 1) := by decide +kernel
theorem dL_law_24 : decode cL_law 24 = .ok (.iconst 1, 1) := by decide +kernel
theorem dL_law_25 : decode cL_law 25 = .ok (.newarray .int, 2) := by decide +kernel
theorem dL_law_27 : decode cL_law 27 = .ok (.dup, 1) := by decide +kernel
theorem dL_law_28 : decode cL_law 28 = .ok (.iconst 0, 1) := by decide +kernel
theorem dL_law_29 : decode cL_law 29 = .ok (.aload_n 0, 1) := by decide +kernel
theorem dL_law_30 : decode cL_law 30 = .ok (.iload_n 3, 1) := by decide +kernel
theorem dL_law_31 : decode cL_law 31 = .ok (.iaload, 1) := by decide +kernel
theorem dL_law_32 : decode cL_law 32 = .ok (.iastore, 1) := by decide +kernel
theorem dL_law_33 : decode cL_law 33 = .ok (.invokestatic 26, 3) := by decide +kernel
theorem dL_law_36 : decode cL_law 36 = .ok (.ifCond .ne 5, 3) := by decide +kernel
theorem dL_law_39 : decode cL_law 39 = .ok (.iconst 0, 1) := by decide +kernel
theorem dL_law_40 : decode cL_law 40 = .ok (.ireturn, 1) := by decide +kernel
theorem dL_law_41 : decode cL_law 41 = .ok (.iinc 3 1, 3) := by decide +kernel
theorem dL_law_44 : decode cL_law 44 = .ok (.goto (-31), 3) := by decide +kernel
theorem dL_law_47 : decode cL_law 47 = .ok (.iconst 1, 1) := by decide +kernel
theorem dL_law_48 : decode cL_law 48 = .ok (.ireturn, 1) := by decide +kernel
theorem dL_letters_0 : decode cL_letters 0 = .ok (.iconst 1, 1) := by decide +kernel
theorem dL_letters_1 : decode cL_letters 1 = .ok (.aload_n 0, 1) := by decide +kernel
theorem dL_letters_2 : decode cL_letters 2 = .ok (.iload_n 1, 1) := by decide +kernel
theorem dL_letters_3 : decode cL_letters 3 = .ok (.invokestatic 32, 3) := by decide +kernel
theorem dL_letters_6 : decode cL_letters 6 = .ok (.iadd, 1) := by decide +kernel
theorem dL_letters_7 : decode cL_letters 7 = .ok (.istore_n 2, 1) := by decide +kernel
theorem dL_letters_8 : decode cL_letters 8 = .ok (.iconst 1, 1) := by decide +kernel
theorem dL_letters_9 : decode cL_letters 9 = .ok (.iload_n 2, 1) := by decide +kernel
theorem dL_letters_10 : decode cL_letters 10 = .ok (.ishl, 1) := by decide +kernel
theorem dL_letters_11 : decode cL_letters 11 = .ok (.aload_n 0, 1) := by decide +kernel
theorem dL_letters_12 : decode cL_letters 12 = .ok (.iconst 1, 1) := by decide +kernel
theorem dL_letters_13 : decode cL_letters 13 = .ok (.iload_n 2, 1) := by decide +kernel
theorem dL_letters_14 : decode cL_letters 14 = .ok (.ishl, 1) := by decide +kernel
theorem dL_letters_15 : decode cL_letters 15 = .ok (.invokestatic 32, 3) := by decide +kernel
theorem dL_letters_18 : decode cL_letters 18 = .ok (.ior, 1) := by decide +kernel
theorem dL_letters_19 : decode cL_letters 19 = .ok (.ireturn, 1) := by decide +kernel
theorem dL_add_0 : decode cL_add 0 = .ok (.iload_n 1, 1) := by decide +kernel
theorem dL_add_1 : decode cL_add 1 = .ok (.invokestatic 36, 3) := by decide +kernel
theorem dL_add_4 : decode cL_add 4 = .ok (.iconst 1, 1) := by decide +kernel
theorem dL_add_5 : decode cL_add 5 = .ok (.isub, 1) := by decide +kernel
theorem dL_add_6 : decode cL_add 6 = .ok (.istore_n 2, 1) := by decide +kernel
theorem dL_add_7 : decode cL_add 7 = .ok (.iload_n 2, 1) := by decide +kernel
theorem dL_add_8 : decode cL_add 8 = .ok (.ifCond .lt 29, 3) := by decide +kernel
theorem dL_add_11 : decode cL_add 11 = .ok (.aload_n 0, 1) := by decide +kernel
theorem dL_add_12 : decode cL_add 12 = .ok (.iload_n 1, 1) := by decide +kernel
theorem dL_add_13 : decode cL_add 13 = .ok (.iload_n 2, 1) := by decide +kernel
theorem dL_add_14 : decode cL_add 14 = .ok (.ishr, 1) := by decide +kernel
theorem dL_add_15 : decode cL_add 15 = .ok (.iconst 1, 1) := by decide +kernel
theorem dL_add_16 : decode cL_add 16 = .ok (.iand, 1) := by decide +kernel
theorem dL_add_17 : decode cL_add 17 = .ok (.ifCond .ne 8, 3) := by decide +kernel
theorem dL_add_20 : decode cL_add 20 = .ok (.bipush 97, 2) := by decide +kernel
theorem dL_add_22 : decode cL_add 22 = .ok (.goto 5, 3) := by decide +kernel
theorem dL_add_25 : decode cL_add 25 = .ok (.bipush 98, 2) := by decide +kernel
theorem dL_add_27 : decode cL_add 27 = .ok (.invokevirtual 42, 3) := by decide +kernel
theorem dL_add_30 : decode cL_add 30 = .ok (.pop, 1) := by decide +kernel
theorem dL_add_31 : decode cL_add 31 = .ok (.iinc 2 (-1), 3) := by decide +kernel
theorem dL_add_34 : decode cL_add 34 = .ok (.goto (-27), 3) := by decide +kernel
theorem dL_add_37 : decode cL_add 37 = .ok (.return_, 1) := by decide +kernel
theorem dL_feedsCode_0 : decode cL_feedsCode 0 = .ok (.new 43, 3) := by decide +kernel
theorem dL_feedsCode_3 : decode cL_feedsCode 3 = .ok (.dup, 1) := by decide +kernel
theorem dL_feedsCode_4 : decode cL_feedsCode 4 = .ok (.invokespecial 47, 3) := by decide +kernel
theorem dL_feedsCode_7 : decode cL_feedsCode 7 = .ok (.astore_n 2, 1) := by decide +kernel
theorem dL_feedsCode_8 : decode cL_feedsCode 8 = .ok (.aload_n 2, 1) := by decide +kernel
theorem dL_feedsCode_9 : decode cL_feedsCode 9 = .ok (.iload_n 1, 1) := by decide +kernel
theorem dL_feedsCode_10 : decode cL_feedsCode 10 = .ok (.invokestatic 48, 3) := by decide +kernel
theorem dL_feedsCode_13 : decode cL_feedsCode 13 = .ok (.aload_n 0, 1) := by decide +kernel
theorem dL_feedsCode_14 : decode cL_feedsCode 14 = .ok (.aload_n 2, 1) := by decide +kernel
theorem dL_feedsCode_15 : decode cL_feedsCode 15 = .ok (.invokevirtual 52, 3) := by decide +kernel
theorem dL_feedsCode_18 : decode cL_feedsCode 18 = .ok (.invokestatic 56, 3) := by decide +kernel
theorem dL_feedsCode_21 : decode cL_feedsCode 21 = .ok (.ireturn, 1) := by decide +kernel
theorem dL_book_0 : decode cL_book 0 = .ok (.new 37, 3) := by decide +kernel
theorem dL_book_3 : decode cL_book 3 = .ok (.dup, 1) := by decide +kernel
theorem dL_book_4 : decode cL_book 4 = .ok (.invokespecial 60, 3) := by decide +kernel
theorem dL_book_7 : decode cL_book 7 = .ok (.astore_n 2, 1) := by decide +kernel
theorem dL_book_8 : decode cL_book 8 = .ok (.aload_n 2, 1) := by decide +kernel
theorem dL_book_9 : decode cL_book 9 = .ok (.aload_n 1, 1) := by decide +kernel
theorem dL_book_10 : decode cL_book 10 = .ok (.bipush 12, 2) := by decide +kernel
theorem dL_book_12 : decode cL_book 12 = .ok (.invokestatic 32, 3) := by decide +kernel
theorem dL_book_15 : decode cL_book 15 = .ok (.putfield 61, 3) := by decide +kernel
theorem dL_book_18 : decode cL_book 18 = .ok (.aload_n 2, 1) := by decide +kernel
theorem dL_book_19 : decode cL_book 19 = .ok (.aload_n 1, 1) := by decide +kernel
theorem dL_book_20 : decode cL_book 20 = .ok (.iconst 4, 1) := by decide +kernel
theorem dL_book_21 : decode cL_book 21 = .ok (.invokestatic 32, 3) := by decide +kernel
theorem dL_book_24 : decode cL_book 24 = .ok (.putfield 65, 3) := by decide +kernel
theorem dL_book_27 : decode cL_book 27 = .ok (.aload_n 2, 1) := by decide +kernel
theorem dL_book_28 : decode cL_book 28 = .ok (.iconst 1, 1) := by decide +kernel
theorem dL_book_29 : decode cL_book 29 = .ok (.aload_n 1, 1) := by decide +kernel
theorem dL_book_30 : decode cL_book 30 = .ok (.bipush 9, 2) := by decide +kernel
theorem dL_book_32 : decode cL_book 32 = .ok (.invokestatic 32, 3) := by decide +kernel
theorem dL_book_35 : decode cL_book 35 = .ok (.iadd, 1) := by decide +kernel
theorem dL_book_36 : decode cL_book 36 = .ok (.putfield 68, 3) := by decide +kernel
theorem dL_book_39 : decode cL_book 39 = .ok (.aload_n 2, 1) := by decide +kernel
theorem dL_book_40 : decode cL_book 40 = .ok (.aload_n 1, 1) := by decide +kernel
theorem dL_book_41 : decode cL_book 41 = .ok (.bipush 6, 2) := by decide +kernel
theorem dL_book_43 : decode cL_book 43 = .ok (.invokestatic 32, 3) := by decide +kernel
theorem dL_book_46 : decode cL_book 46 = .ok (.putfield 71, 3) := by decide +kernel
theorem dL_book_49 : decode cL_book 49 = .ok (.aload_n 2, 1) := by decide +kernel
theorem dL_book_50 : decode cL_book 50 = .ok (.aload_n 1, 1) := by decide +kernel
theorem dL_book_51 : decode cL_book 51 = .ok (.bipush 101, 2) := by decide +kernel
theorem dL_book_53 : decode cL_book 53 = .ok (.invokestatic 32, 3) := by decide +kernel
theorem dL_book_56 : decode cL_book 56 = .ok (.putfield 74, 3) := by decide +kernel
theorem dL_book_59 : decode cL_book 59 = .ok (.aload_n 0, 1) := by decide +kernel
theorem dL_book_60 : decode cL_book 60 = .ok (.ldc 77, 2) := by decide +kernel
theorem dL_book_62 : decode cL_book 62 = .ok (.invokevirtual 79, 3) := by decide +kernel
theorem dL_book_65 : decode cL_book 65 = .ok (.aload_n 2, 1) := by decide +kernel
theorem dL_book_66 : decode cL_book 66 = .ok (.getfield 61, 3) := by decide +kernel
theorem dL_book_69 : decode cL_book 69 = .ok (.invokevirtual 82, 3) := by decide +kernel
theorem dL_book_72 : decode cL_book 72 = .ok (.bipush 32, 2) := by decide +kernel
theorem dL_book_74 : decode cL_book 74 = .ok (.invokevirtual 42, 3) := by decide +kernel
theorem dL_book_77 : decode cL_book 77 = .ok (.aload_n 2, 1) := by decide +kernel
theorem dL_book_78 : decode cL_book 78 = .ok (.getfield 65, 3) := by decide +kernel
theorem dL_book_81 : decode cL_book 81 = .ok (.invokevirtual 82, 3) := by decide +kernel
theorem dL_book_84 : decode cL_book 84 = .ok (.bipush 32, 2) := by decide +kernel
theorem dL_book_86 : decode cL_book 86 = .ok (.invokevirtual 42, 3) := by decide +kernel
theorem dL_book_89 : decode cL_book 89 = .ok (.aload_n 2, 1) := by decide +kernel
theorem dL_book_90 : decode cL_book 90 = .ok (.getfield 68, 3) := by decide +kernel
theorem dL_book_93 : decode cL_book 93 = .ok (.invokevirtual 82, 3) := by decide +kernel
theorem dL_book_96 : decode cL_book 96 = .ok (.bipush 32, 2) := by decide +kernel
theorem dL_book_98 : decode cL_book 98 = .ok (.invokevirtual 42, 3) := by decide +kernel
theorem dL_book_101 : decode cL_book 101 = .ok (.aload_n 2, 1) := by decide +kernel
theorem dL_book_102 : decode cL_book 102 = .ok (.getfield 71, 3) := by decide +kernel
theorem dL_book_105 : decode cL_book 105 = .ok (.invokevirtual 82, 3) := by decide +kernel
theorem dL_book_108 : decode cL_book 108 = .ok (.bipush 32, 2) := by decide +kernel
theorem dL_book_110 : decode cL_book 110 = .ok (.invokevirtual 42, 3) := by decide +kernel
theorem dL_book_113 : decode cL_book 113 = .ok (.aload_n 2, 1) := by decide +kernel
theorem dL_book_114 : decode cL_book 114 = .ok (.getfield 74, 3) := by decide +kernel
theorem dL_book_117 : decode cL_book 117 = .ok (.invokevirtual 82, 3) := by decide +kernel
theorem dL_book_120 : decode cL_book 120 = .ok (.bipush 59, 2) := by decide +kernel
theorem dL_book_122 : decode cL_book 122 = .ok (.invokevirtual 42, 3) := by decide +kernel
theorem dL_book_125 : decode cL_book 125 = .ok (.pop, 1) := by decide +kernel
theorem dL_book_126 : decode cL_book 126 = .ok (.aload_n 2, 1) := by decide +kernel
theorem dL_book_127 : decode cL_book 127 = .ok (.iconst 1, 1) := by decide +kernel
theorem dL_book_128 : decode cL_book 128 = .ok (.aload_n 1, 1) := by decide +kernel
theorem dL_book_129 : decode cL_book 129 = .ok (.iconst 3, 1) := by decide +kernel
theorem dL_book_130 : decode cL_book 130 = .ok (.invokestatic 32, 3) := by decide +kernel
theorem dL_book_133 : decode cL_book 133 = .ok (.iadd, 1) := by decide +kernel
theorem dL_book_134 : decode cL_book 134 = .ok (.putfield 85, 3) := by decide +kernel
theorem dL_book_137 : decode cL_book 137 = .ok (.iconst 0, 1) := by decide +kernel
theorem dL_book_138 : decode cL_book 138 = .ok (.istore_n 3, 1) := by decide +kernel
theorem dL_book_139 : decode cL_book 139 = .ok (.iload_n 3, 1) := by decide +kernel
theorem dL_book_140 : decode cL_book 140 = .ok (.aload_n 2, 1) := by decide +kernel
theorem dL_book_141 : decode cL_book 141 = .ok (.getfield 85, 3) := by decide +kernel
theorem dL_book_144 : decode cL_book 144 = .ok (.if_icmp .ge 59, 3) := by decide +kernel
theorem dL_book_147 : decode cL_book 147 = .ok (.aload_n 2, 1) := by decide +kernel
theorem dL_book_148 : decode cL_book 148 = .ok (.getfield 88, 3) := by decide +kernel
theorem dL_book_151 : decode cL_book 151 = .ok (.iload_n 3, 1) := by decide +kernel
theorem dL_book_152 : decode cL_book 152 = .ok (.bipush 50, 2) := by decide +kernel
theorem dL_book_154 : decode cL_book 154 = .ok (.aload_n 1, 1) := by decide +kernel
theorem dL_book_155 : decode cL_book 155 = .ok (.sipush 500, 3) := by decide +kernel
theorem dL_book_158 : decode cL_book 158 = .ok (.invokestatic 32, 3) := by decide +kernel
theorem dL_book_161 : decode cL_book 161 = .ok (.iadd, 1) := by decide +kernel
theorem dL_book_162 : decode cL_book 162 = .ok (.iastore, 1) := by decide +kernel
theorem dL_book_163 : decode cL_book 163 = .ok (.aload_n 0, 1) := by decide +kernel
theorem dL_book_164 : decode cL_book 164 = .ok (.ldc 92, 2) := by decide +kernel
theorem dL_book_166 : decode cL_book 166 = .ok (.invokevirtual 79, 3) := by decide +kernel
theorem dL_book_169 : decode cL_book 169 = .ok (.bipush 97, 2) := by decide +kernel
theorem dL_book_171 : decode cL_book 171 = .ok (.iload_n 3, 1) := by decide +kernel
theorem dL_book_172 : decode cL_book 172 = .ok (.iadd, 1) := by decide +kernel
theorem dL_book_173 : decode cL_book 173 = .ok (.i2c, 1) := by decide +kernel
theorem dL_book_174 : decode cL_book 174 = .ok (.invokevirtual 42, 3) := by decide +kernel
theorem dL_book_177 : decode cL_book 177 = .ok (.bipush 32, 2) := by decide +kernel
theorem dL_book_179 : decode cL_book 179 = .ok (.invokevirtual 42, 3) := by decide +kernel
theorem dL_book_182 : decode cL_book 182 = .ok (.aload_n 2, 1) := by decide +kernel
theorem dL_book_183 : decode cL_book 183 = .ok (.getfield 88, 3) := by decide +kernel
theorem dL_book_186 : decode cL_book 186 = .ok (.iload_n 3, 1) := by decide +kernel
theorem dL_book_187 : decode cL_book 187 = .ok (.iaload, 1) := by decide +kernel
theorem dL_book_188 : decode cL_book 188 = .ok (.invokevirtual 82, 3) := by decide +kernel
theorem dL_book_191 : decode cL_book 191 = .ok (.bipush 59, 2) := by decide +kernel
theorem dL_book_193 : decode cL_book 193 = .ok (.invokevirtual 42, 3) := by decide +kernel
theorem dL_book_196 : decode cL_book 196 = .ok (.pop, 1) := by decide +kernel
theorem dL_book_197 : decode cL_book 197 = .ok (.iinc 3 1, 3) := by decide +kernel
theorem dL_book_200 : decode cL_book 200 = .ok (.goto (-61), 3) := by decide +kernel
theorem dL_book_203 : decode cL_book 203 = .ok (.aload_n 1, 1) := by decide +kernel
theorem dL_book_204 : decode cL_book 204 = .ok (.bipush 6, 2) := by decide +kernel
theorem dL_book_206 : decode cL_book 206 = .ok (.invokestatic 32, 3) := by decide +kernel
theorem dL_book_209 : decode cL_book 209 = .ok (.istore_n 3, 1) := by decide +kernel
theorem dL_book_210 : decode cL_book 210 = .ok (.iload_n 3, 1) := by decide +kernel
theorem dL_book_211 : decode cL_book 211 = .ok (.ifCond .le 56, 3) := by decide +kernel
theorem dL_book_214 : decode cL_book 214 = .ok (.aload_n 1, 1) := by decide +kernel
theorem dL_book_215 : decode cL_book 215 = .ok (.iconst 4, 1) := by decide +kernel
theorem dL_book_216 : decode cL_book 216 = .ok (.invokestatic 94, 3) := by decide +kernel
theorem dL_book_219 : decode cL_book 219 = .ok (.istore 4, 2) := by decide +kernel
theorem dL_book_221 : decode cL_book 221 = .ok (.aload_n 2, 1) := by decide +kernel
theorem dL_book_222 : decode cL_book 222 = .ok (.iload 4, 2) := by decide +kernel
theorem dL_book_224 : decode cL_book 224 = .ok (.invokevirtual 97, 3) := by decide +kernel
theorem dL_book_227 : decode cL_book 227 = .ok (.ifCond .lt 6, 3) := by decide +kernel
theorem dL_book_230 : decode cL_book 230 = .ok (.goto 31, 3) := by decide +kernel
theorem dL_book_233 : decode cL_book 233 = .ok (.aload_n 2, 1) := by decide +kernel
theorem dL_book_234 : decode cL_book 234 = .ok (.iload 4, 2) := by decide +kernel
theorem dL_book_236 : decode cL_book 236 = .ok (.iconst 0, 1) := by decide +kernel
theorem dL_book_237 : decode cL_book 237 = .ok (.iconst (-1), 1) := by decide +kernel
theorem dL_book_238 : decode cL_book 238 = .ok (.invokevirtual 100, 3) := by decide +kernel
theorem dL_book_241 : decode cL_book 241 = .ok (.aload_n 0, 1) := by decide +kernel
theorem dL_book_242 : decode cL_book 242 = .ok (.ldc 104, 2) := by decide +kernel
theorem dL_book_244 : decode cL_book 244 = .ok (.invokevirtual 79, 3) := by decide +kernel
theorem dL_book_247 : decode cL_book 247 = .ok (.pop, 1) := by decide +kernel
theorem dL_book_248 : decode cL_book 248 = .ok (.aload_n 0, 1) := by decide +kernel
theorem dL_book_249 : decode cL_book 249 = .ok (.iload 4, 2) := by decide +kernel
theorem dL_book_251 : decode cL_book 251 = .ok (.invokestatic 48, 3) := by decide +kernel
theorem dL_book_254 : decode cL_book 254 = .ok (.aload_n 0, 1) := by decide +kernel
theorem dL_book_255 : decode cL_book 255 = .ok (.bipush 59, 2) := by decide +kernel
theorem dL_book_257 : decode cL_book 257 = .ok (.invokevirtual 42, 3) := by decide +kernel
theorem dL_book_260 : decode cL_book 260 = .ok (.pop, 1) := by decide +kernel
theorem dL_book_261 : decode cL_book 261 = .ok (.iinc 3 (-1), 3) := by decide +kernel
theorem dL_book_264 : decode cL_book 264 = .ok (.goto (-54), 3) := by decide +kernel
theorem dL_book_267 : decode cL_book 267 = .ok (.aload_n 1, 1) := by decide +kernel
theorem dL_book_268 : decode cL_book 268 = .ok (.iconst 3, 1) := by decide +kernel
theorem dL_book_269 : decode cL_book 269 = .ok (.invokestatic 32, 3) := by decide +kernel
theorem dL_book_272 : decode cL_book 272 = .ok (.istore_n 3, 1) := by decide +kernel
theorem dL_book_273 : decode cL_book 273 = .ok (.iload_n 3, 1) := by decide +kernel
theorem dL_book_274 : decode cL_book 274 = .ok (.ifCond .le 91, 3) := by decide +kernel
theorem dL_book_277 : decode cL_book 277 = .ok (.aload_n 1, 1) := by decide +kernel
theorem dL_book_278 : decode cL_book 278 = .ok (.aload_n 2, 1) := by decide +kernel
theorem dL_book_279 : decode cL_book 279 = .ok (.getfield 85, 3) := by decide +kernel
theorem dL_book_282 : decode cL_book 282 = .ok (.invokestatic 32, 3) := by decide +kernel
theorem dL_book_285 : decode cL_book 285 = .ok (.istore 4, 2) := by decide +kernel
theorem dL_book_287 : decode cL_book 287 = .ok (.aload_n 1, 1) := by decide +kernel
theorem dL_book_288 : decode cL_book 288 = .ok (.bipush 8, 2) := by decide +kernel
theorem dL_book_290 : decode cL_book 290 = .ok (.invokestatic 94, 3) := by decide +kernel
theorem dL_book_293 : decode cL_book 293 = .ok (.istore 5, 2) := by decide +kernel
theorem dL_book_295 : decode cL_book 295 = .ok (.aload_n 2, 1) := by decide +kernel
theorem dL_book_296 : decode cL_book 296 = .ok (.iload 4, 2) := by decide +kernel
theorem dL_book_298 : decode cL_book 298 = .ok (.iload 5, 2) := by decide +kernel
theorem dL_book_300 : decode cL_book 300 = .ok (.aload_n 2, 1) := by decide +kernel
theorem dL_book_301 : decode cL_book 301 = .ok (.iload 5, 2) := by decide +kernel
theorem dL_book_303 : decode cL_book 303 = .ok (.iconst 1, 1) := by decide +kernel
theorem dL_book_304 : decode cL_book 304 = .ok (.iconst 0, 1) := by decide +kernel
theorem dL_book_305 : decode cL_book 305 = .ok (.invokevirtual 106, 3) := by decide +kernel
theorem dL_book_308 : decode cL_book 308 = .ok (.invokevirtual 110, 3) := by decide +kernel
theorem dL_book_311 : decode cL_book 311 = .ok (.ifCond .eq 6, 3) := by decide +kernel
theorem dL_book_314 : decode cL_book 314 = .ok (.goto 45, 3) := by decide +kernel
theorem dL_book_317 : decode cL_book 317 = .ok (.aload_n 2, 1) := by decide +kernel
theorem dL_book_318 : decode cL_book 318 = .ok (.iload 4, 2) := by decide +kernel
theorem dL_book_320 : decode cL_book 320 = .ok (.iload 5, 2) := by decide +kernel
theorem dL_book_322 : decode cL_book 322 = .ok (.invokevirtual 114, 3) := by decide +kernel
theorem dL_book_325 : decode cL_book 325 = .ok (.aload_n 0, 1) := by decide +kernel
theorem dL_book_326 : decode cL_book 326 = .ok (.ldc 118, 2) := by decide +kernel
theorem dL_book_328 : decode cL_book 328 = .ok (.invokevirtual 79, 3) := by decide +kernel
theorem dL_book_331 : decode cL_book 331 = .ok (.bipush 97, 2) := by decide +kernel
theorem dL_book_333 : decode cL_book 333 = .ok (.iload 4, 2) := by decide +kernel
theorem dL_book_335 : decode cL_book 335 = .ok (.iadd, 1) := by decide +kernel
theorem dL_book_336 : decode cL_book 336 = .ok (.i2c, 1) := by decide +kernel
theorem dL_book_337 : decode cL_book 337 = .ok (.invokevirtual 42, 3) := by decide +kernel
theorem dL_book_340 : decode cL_book 340 = .ok (.bipush 32, 2) := by decide +kernel
theorem dL_book_342 : decode cL_book 342 = .ok (.invokevirtual 42, 3) := by decide +kernel
theorem dL_book_345 : decode cL_book 345 = .ok (.pop, 1) := by decide +kernel
theorem dL_book_346 : decode cL_book 346 = .ok (.aload_n 0, 1) := by decide +kernel
theorem dL_book_347 : decode cL_book 347 = .ok (.iload 5, 2) := by decide +kernel
theorem dL_book_349 : decode cL_book 349 = .ok (.invokestatic 48, 3) := by decide +kernel
theorem dL_book_352 : decode cL_book 352 = .ok (.aload_n 0, 1) := by decide +kernel
theorem dL_book_353 : decode cL_book 353 = .ok (.bipush 59, 2) := by decide +kernel
theorem dL_book_355 : decode cL_book 355 = .ok (.invokevirtual 42, 3) := by decide +kernel
theorem dL_book_358 : decode cL_book 358 = .ok (.pop, 1) := by decide +kernel
theorem dL_book_359 : decode cL_book 359 = .ok (.iinc 3 (-1), 3) := by decide +kernel
theorem dL_book_362 : decode cL_book 362 = .ok (.goto (-89), 3) := by decide +kernel
theorem dL_book_365 : decode cL_book 365 = .ok (.aload_n 2, 1) := by decide +kernel
theorem dL_book_366 : decode cL_book 366 = .ok (.areturn, 1) := by decide +kernel
theorem dL_plays_0 : decode cL_plays 0 = .ok (.new 43, 3) := by decide +kernel
theorem dL_plays_3 : decode cL_plays 3 = .ok (.dup, 1) := by decide +kernel
theorem dL_plays_4 : decode cL_plays 4 = .ok (.invokespecial 47, 3) := by decide +kernel
theorem dL_plays_7 : decode cL_plays 7 = .ok (.astore_n 2, 1) := by decide +kernel
theorem dL_plays_8 : decode cL_plays 8 = .ok (.aload_n 2, 1) := by decide +kernel
theorem dL_plays_9 : decode cL_plays 9 = .ok (.aload_n 1, 1) := by decide +kernel
theorem dL_plays_10 : decode cL_plays 10 = .ok (.invokestatic 120, 3) := by decide +kernel
theorem dL_plays_13 : decode cL_plays 13 = .ok (.astore_n 3, 1) := by decide +kernel
theorem dL_plays_14 : decode cL_plays 14 = .ok (.aload_n 0, 1) := by decide +kernel
theorem dL_plays_15 : decode cL_plays 15 = .ok (.aload_n 2, 1) := by decide +kernel
theorem dL_plays_16 : decode cL_plays 16 = .ok (.invokevirtual 52, 3) := by decide +kernel
theorem dL_plays_19 : decode cL_plays 19 = .ok (.invokestatic 56, 3) := by decide +kernel
theorem dL_plays_22 : decode cL_plays 22 = .ok (.ifCond .eq 14, 3) := by decide +kernel
theorem dL_plays_25 : decode cL_plays 25 = .ok (.aload_n 0, 1) := by decide +kernel
theorem dL_plays_26 : decode cL_plays 26 = .ok (.aload_n 2, 1) := by decide +kernel
theorem dL_plays_27 : decode cL_plays 27 = .ok (.invokevirtual 124, 3) := by decide +kernel
theorem dL_plays_30 : decode cL_plays 30 = .ok (.invokevirtual 125, 3) := by decide +kernel
theorem dL_plays_33 : decode cL_plays 33 = .ok (.ifCond .eq 5, 3) := by decide +kernel
theorem dL_plays_36 : decode cL_plays 36 = .ok (.iconst 0, 1) := by decide +kernel
theorem dL_plays_37 : decode cL_plays 37 = .ok (.ireturn, 1) := by decide +kernel
theorem dL_plays_38 : decode cL_plays 38 = .ok (.iconst 0, 1) := by decide +kernel
theorem dL_plays_39 : decode cL_plays 39 = .ok (.istore 4, 2) := by decide +kernel
theorem dL_plays_41 : decode cL_plays 41 = .ok (.iload 4, 2) := by decide +kernel
theorem dL_plays_43 : decode cL_plays 43 = .ok (.bipush 18, 2) := by decide +kernel
theorem dL_plays_45 : decode cL_plays 45 = .ok (.if_icmp .ge 37, 3) := by decide +kernel
theorem dL_plays_48 : decode cL_plays 48 = .ok (.aload_n 0, 1) := by decide +kernel
theorem dL_plays_49 : decode cL_plays 49 = .ok (.aload_n 3, 1) := by decide +kernel
theorem dL_plays_50 : decode cL_plays 50 = .ok (.aload_n 1, 1) := by decide +kernel
theorem dL_plays_51 : decode cL_plays 51 = .ok (.invokestatic 128, 3) := by decide +kernel
theorem dL_plays_54 : decode cL_plays 54 = .ok (.ifCond .eq 20, 3) := by decide +kernel
theorem dL_plays_57 : decode cL_plays 57 = .ok (.aload_n 0, 1) := by decide +kernel
theorem dL_plays_58 : decode cL_plays 58 = .ok (.aload_n 3, 1) := by decide +kernel
theorem dL_plays_59 : decode cL_plays 59 = .ok (.invokestatic 132, 3) := by decide +kernel
theorem dL_plays_62 : decode cL_plays 62 = .ok (.ifCond .eq 12, 3) := by decide +kernel
theorem dL_plays_65 : decode cL_plays 65 = .ok (.aload_n 0, 1) := by decide +kernel
theorem dL_plays_66 : decode cL_plays 66 = .ok (.aload_n 3, 1) := by decide +kernel
theorem dL_plays_67 : decode cL_plays 67 = .ok (.aload_n 1, 1) := by decide +kernel
theorem dL_plays_68 : decode cL_plays 68 = .ok (.invokestatic 136, 3) := by decide +kernel
theorem dL_plays_71 : decode cL_plays 71 = .ok (.ifCond .ne 5, 3) := by decide +kernel
theorem dL_plays_74 : decode cL_plays 74 = .ok (.iconst 0, 1) := by decide +kernel
theorem dL_plays_75 : decode cL_plays 75 = .ok (.ireturn, 1) := by decide +kernel
theorem dL_plays_76 : decode cL_plays 76 = .ok (.iinc 4 1, 3) := by decide +kernel
theorem dL_plays_79 : decode cL_plays 79 = .ok (.goto (-38), 3) := by decide +kernel
theorem dL_plays_82 : decode cL_plays 82 = .ok (.iconst 1, 1) := by decide +kernel
theorem dL_plays_83 : decode cL_plays 83 = .ok (.ireturn, 1) := by decide +kernel
theorem dL_state_0 : decode cL_state 0 = .ok (.bipush 11, 2) := by decide +kernel
theorem dL_state_2 : decode cL_state 2 = .ok (.newarray .int, 2) := by decide +kernel
theorem dL_state_4 : decode cL_state 4 = .ok (.dup, 1) := by decide +kernel
theorem dL_state_5 : decode cL_state 5 = .ok (.iconst 0, 1) := by decide +kernel
theorem dL_state_6 : decode cL_state 6 = .ok (.aload_n 1, 1) := by decide +kernel
theorem dL_state_7 : decode cL_state 7 = .ok (.getfield 85, 3) := by decide +kernel
theorem dL_state_10 : decode cL_state 10 = .ok (.iastore, 1) := by decide +kernel
theorem dL_state_11 : decode cL_state 11 = .ok (.dup, 1) := by decide +kernel
theorem dL_state_12 : decode cL_state 12 = .ok (.iconst 1, 1) := by decide +kernel
theorem dL_state_13 : decode cL_state 13 = .ok (.aload_n 1, 1) := by decide +kernel
theorem dL_state_14 : decode cL_state 14 = .ok (.getfield 139, 3) := by decide +kernel
theorem dL_state_17 : decode cL_state 17 = .ok (.iastore, 1) := by decide +kernel
theorem dL_state_18 : decode cL_state 18 = .ok (.dup, 1) := by decide +kernel
theorem dL_state_19 : decode cL_state 19 = .ok (.iconst 2, 1) := by decide +kernel
theorem dL_state_20 : decode cL_state 20 = .ok (.aload_n 1, 1) := by decide +kernel
theorem dL_state_21 : decode cL_state 21 = .ok (.getfield 142, 3) := by decide +kernel
theorem dL_state_24 : decode cL_state 24 = .ok (.iastore, 1) := by decide +kernel
theorem dL_state_25 : decode cL_state 25 = .ok (.dup, 1) := by decide +kernel
theorem dL_state_26 : decode cL_state 26 = .ok (.iconst 3, 1) := by decide +kernel
theorem dL_state_27 : decode cL_state 27 = .ok (.aload_n 1, 1) := by decide +kernel
theorem dL_state_28 : decode cL_state 28 = .ok (.getfield 145, 3) := by decide +kernel
theorem dL_state_31 : decode cL_state 31 = .ok (.iastore, 1) := by decide +kernel
theorem dL_state_32 : decode cL_state 32 = .ok (.dup, 1) := by decide +kernel
theorem dL_state_33 : decode cL_state 33 = .ok (.iconst 4, 1) := by decide +kernel
theorem dL_state_34 : decode cL_state 34 = .ok (.aload_n 1, 1) := by decide +kernel
theorem dL_state_35 : decode cL_state 35 = .ok (.getfield 148, 3) := by decide +kernel
theorem dL_state_38 : decode cL_state 38 = .ok (.iastore, 1) := by decide +kernel
theorem dL_state_39 : decode cL_state 39 = .ok (.dup, 1) := by decide +kernel
theorem dL_state_40 : decode cL_state 40 = .ok (.iconst 5, 1) := by decide +kernel
theorem dL_state_41 : decode cL_state 41 = .ok (.aload_n 1, 1) := by decide +kernel
theorem dL_state_42 : decode cL_state 42 = .ok (.getfield 151, 3) := by decide +kernel
theorem dL_state_45 : decode cL_state 45 = .ok (.iastore, 1) := by decide +kernel
theorem dL_state_46 : decode cL_state 46 = .ok (.dup, 1) := by decide +kernel
theorem dL_state_47 : decode cL_state 47 = .ok (.bipush 6, 2) := by decide +kernel
theorem dL_state_49 : decode cL_state 49 = .ok (.aload_n 1, 1) := by decide +kernel
theorem dL_state_50 : decode cL_state 50 = .ok (.getfield 61, 3) := by decide +kernel
theorem dL_state_53 : decode cL_state 53 = .ok (.iastore, 1) := by decide +kernel
theorem dL_state_54 : decode cL_state 54 = .ok (.dup, 1) := by decide +kernel
theorem dL_state_55 : decode cL_state 55 = .ok (.bipush 7, 2) := by decide +kernel
theorem dL_state_57 : decode cL_state 57 = .ok (.aload_n 1, 1) := by decide +kernel
theorem dL_state_58 : decode cL_state 58 = .ok (.getfield 65, 3) := by decide +kernel
theorem dL_state_61 : decode cL_state 61 = .ok (.iastore, 1) := by decide +kernel
theorem dL_state_62 : decode cL_state 62 = .ok (.dup, 1) := by decide +kernel
theorem dL_state_63 : decode cL_state 63 = .ok (.bipush 8, 2) := by decide +kernel
theorem dL_state_65 : decode cL_state 65 = .ok (.aload_n 1, 1) := by decide +kernel
theorem dL_state_66 : decode cL_state 66 = .ok (.getfield 68, 3) := by decide +kernel
theorem dL_state_69 : decode cL_state 69 = .ok (.iastore, 1) := by decide +kernel
theorem dL_state_70 : decode cL_state 70 = .ok (.dup, 1) := by decide +kernel
theorem dL_state_71 : decode cL_state 71 = .ok (.bipush 9, 2) := by decide +kernel
theorem dL_state_73 : decode cL_state 73 = .ok (.aload_n 1, 1) := by decide +kernel
theorem dL_state_74 : decode cL_state 74 = .ok (.getfield 71, 3) := by decide +kernel
theorem dL_state_77 : decode cL_state 77 = .ok (.iastore, 1) := by decide +kernel
theorem dL_state_78 : decode cL_state 78 = .ok (.dup, 1) := by decide +kernel
theorem dL_state_79 : decode cL_state 79 = .ok (.bipush 10, 2) := by decide +kernel
theorem dL_state_81 : decode cL_state 81 = .ok (.aload_n 1, 1) := by decide +kernel
theorem dL_state_82 : decode cL_state 82 = .ok (.getfield 74, 3) := by decide +kernel
theorem dL_state_85 : decode cL_state 85 = .ok (.iastore, 1) := by decide +kernel
theorem dL_state_86 : decode cL_state 86 = .ok (.astore_n 2, 1) := by decide +kernel
theorem dL_state_87 : decode cL_state 87 = .ok (.iconst 0, 1) := by decide +kernel
theorem dL_state_88 : decode cL_state 88 = .ok (.istore_n 3, 1) := by decide +kernel
theorem dL_state_89 : decode cL_state 89 = .ok (.iload_n 3, 1) := by decide +kernel
theorem dL_state_90 : decode cL_state 90 = .ok (.bipush 11, 2) := by decide +kernel
theorem dL_state_92 : decode cL_state 92 = .ok (.if_icmp .ge 22, 3) := by decide +kernel
theorem dL_state_95 : decode cL_state 95 = .ok (.aload_n 0, 1) := by decide +kernel
theorem dL_state_96 : decode cL_state 96 = .ok (.iload_n 3, 1) := by decide +kernel
theorem dL_state_97 : decode cL_state 97 = .ok (.invokevirtual 154, 3) := by decide +kernel
theorem dL_state_100 : decode cL_state 100 = .ok (.aload_n 2, 1) := by decide +kernel
theorem dL_state_101 : decode cL_state 101 = .ok (.iload_n 3, 1) := by decide +kernel
theorem dL_state_102 : decode cL_state 102 = .ok (.iaload, 1) := by decide +kernel
theorem dL_state_103 : decode cL_state 103 = .ok (.if_icmp .eq 5, 3) := by decide +kernel
theorem dL_state_106 : decode cL_state 106 = .ok (.iconst 0, 1) := by decide +kernel
theorem dL_state_107 : decode cL_state 107 = .ok (.ireturn, 1) := by decide +kernel
theorem dL_state_108 : decode cL_state 108 = .ok (.iinc 3 1, 3) := by decide +kernel
theorem dL_state_111 : decode cL_state 111 = .ok (.goto (-22), 3) := by decide +kernel
theorem dL_state_114 : decode cL_state 114 = .ok (.iconst 4, 1) := by decide +kernel
theorem dL_state_115 : decode cL_state 115 = .ok (.iconst 5, 1) := by decide +kernel
theorem dL_state_116 : decode cL_state 116 = .ok (.multianewarray 155 2, 4) := by decide +kernel
theorem dL_state_120 : decode cL_state 120 = .ok (.astore_n 3, 1) := by decide +kernel
theorem dL_state_121 : decode cL_state 121 = .ok (.iconst 0, 1) := by decide +kernel
theorem dL_state_122 : decode cL_state 122 = .ok (.istore 4, 2) := by decide +kernel
theorem dL_state_124 : decode cL_state 124 = .ok (.iload 4, 2) := by decide +kernel
theorem dL_state_126 : decode cL_state 126 = .ok (.aload_n 1, 1) := by decide +kernel
theorem dL_state_127 : decode cL_state 127 = .ok (.getfield 85, 3) := by decide +kernel
theorem dL_state_130 : decode cL_state 130 = .ok (.if_icmp .ge 22, 3) := by decide +kernel
theorem dL_state_133 : decode cL_state 133 = .ok (.aload_n 3, 1) := by decide +kernel
theorem dL_state_134 : decode cL_state 134 = .ok (.iload 4, 2) := by decide +kernel
theorem dL_state_136 : decode cL_state 136 = .ok (.aaload, 1) := by decide +kernel
theorem dL_state_137 : decode cL_state 137 = .ok (.iconst 0, 1) := by decide +kernel
theorem dL_state_138 : decode cL_state 138 = .ok (.aload_n 1, 1) := by decide +kernel
theorem dL_state_139 : decode cL_state 139 = .ok (.getfield 88, 3) := by decide +kernel
theorem dL_state_142 : decode cL_state 142 = .ok (.iload 4, 2) := by decide +kernel
theorem dL_state_144 : decode cL_state 144 = .ok (.iaload, 1) := by decide +kernel
theorem dL_state_145 : decode cL_state 145 = .ok (.iastore, 1) := by decide +kernel
theorem dL_state_146 : decode cL_state 146 = .ok (.iinc 4 1, 3) := by decide +kernel
theorem dL_state_149 : decode cL_state 149 = .ok (.goto (-25), 3) := by decide +kernel
theorem dL_state_152 : decode cL_state 152 = .ok (.iconst (-1), 1) := by decide +kernel
theorem dL_state_153 : decode cL_state 153 = .ok (.istore 4, 2) := by decide +kernel
theorem dL_state_155 : decode cL_state 155 = .ok (.iconst 0, 1) := by decide +kernel
theorem dL_state_156 : decode cL_state 156 = .ok (.istore 5, 2) := by decide +kernel
theorem dL_state_158 : decode cL_state 158 = .ok (.iload 5, 2) := by decide +kernel
theorem dL_state_160 : decode cL_state 160 = .ok (.aload_n 1, 1) := by decide +kernel
theorem dL_state_161 : decode cL_state 161 = .ok (.getfield 139, 3) := by decide +kernel
theorem dL_state_164 : decode cL_state 164 = .ok (.if_icmp .ge 246, 3) := by decide +kernel
theorem dL_state_167 : decode cL_state 167 = .ok (.aload_n 1, 1) := by decide +kernel
theorem dL_state_168 : decode cL_state 168 = .ok (.getfield 157, 3) := by decide +kernel
theorem dL_state_171 : decode cL_state 171 = .ok (.iload 5, 2) := by decide +kernel
theorem dL_state_173 : decode cL_state 173 = .ok (.iaload, 1) := by decide +kernel
theorem dL_state_174 : decode cL_state 174 = .ok (.invokestatic 36, 3) := by decide +kernel
theorem dL_state_177 : decode cL_state 177 = .ok (.istore 6, 2) := by decide +kernel
theorem dL_state_179 : decode cL_state 179 = .ok (.aload_n 0, 1) := by decide +kernel
theorem dL_state_180 : decode cL_state 180 = .ok (.iload 5, 2) := by decide +kernel
theorem dL_state_182 : decode cL_state 182 = .ok (.iconst 0, 1) := by decide +kernel
theorem dL_state_183 : decode cL_state 183 = .ok (.invokevirtual 160, 3) := by decide +kernel
theorem dL_state_186 : decode cL_state 186 = .ok (.iload 6, 2) := by decide +kernel
theorem dL_state_188 : decode cL_state 188 = .ok (.if_icmp .ne 85, 3) := by decide +kernel
theorem dL_state_191 : decode cL_state 191 = .ok (.aload_n 0, 1) := by decide +kernel
theorem dL_state_192 : decode cL_state 192 = .ok (.iload 5, 2) := by decide +kernel
theorem dL_state_194 : decode cL_state 194 = .ok (.iconst 1, 1) := by decide +kernel
theorem dL_state_195 : decode cL_state 195 = .ok (.invokevirtual 160, 3) := by decide +kernel
theorem dL_state_198 : decode cL_state 198 = .ok (.aload_n 1, 1) := by decide +kernel
theorem dL_state_199 : decode cL_state 199 = .ok (.getfield 164, 3) := by decide +kernel
theorem dL_state_202 : decode cL_state 202 = .ok (.iload 5, 2) := by decide +kernel
theorem dL_state_204 : decode cL_state 204 = .ok (.iaload, 1) := by decide +kernel
theorem dL_state_205 : decode cL_state 205 = .ok (.if_icmp .ne 68, 3) := by decide +kernel
theorem dL_state_208 : decode cL_state 208 = .ok (.aload_n 0, 1) := by decide +kernel
theorem dL_state_209 : decode cL_state 209 = .ok (.iload 5, 2) := by decide +kernel
theorem dL_state_211 : decode cL_state 211 = .ok (.iconst 2, 1) := by decide +kernel
theorem dL_state_212 : decode cL_state 212 = .ok (.invokevirtual 160, 3) := by decide +kernel
theorem dL_state_215 : decode cL_state 215 = .ok (.aload_n 1, 1) := by decide +kernel
theorem dL_state_216 : decode cL_state 216 = .ok (.getfield 167, 3) := by decide +kernel
theorem dL_state_219 : decode cL_state 219 = .ok (.iload 5, 2) := by decide +kernel
theorem dL_state_221 : decode cL_state 221 = .ok (.iaload, 1) := by decide +kernel
theorem dL_state_222 : decode cL_state 222 = .ok (.if_icmp .ne 51, 3) := by decide +kernel
theorem dL_state_225 : decode cL_state 225 = .ok (.aload_n 0, 1) := by decide +kernel
theorem dL_state_226 : decode cL_state 226 = .ok (.iload 5, 2) := by decide +kernel
theorem dL_state_228 : decode cL_state 228 = .ok (.iconst 3, 1) := by decide +kernel
theorem dL_state_229 : decode cL_state 229 = .ok (.invokevirtual 160, 3) := by decide +kernel
theorem dL_state_232 : decode cL_state 232 = .ok (.aload_n 1, 1) := by decide +kernel
theorem dL_state_233 : decode cL_state 233 = .ok (.getfield 170, 3) := by decide +kernel
theorem dL_state_236 : decode cL_state 236 = .ok (.iload 5, 2) := by decide +kernel
theorem dL_state_238 : decode cL_state 238 = .ok (.iaload, 1) := by decide +kernel
theorem dL_state_239 : decode cL_state 239 = .ok (.if_icmp .ne 34, 3) := by decide +kernel
theorem dL_state_242 : decode cL_state 242 = .ok (.aload_n 0, 1) := by decide +kernel
theorem dL_state_243 : decode cL_state 243 = .ok (.iload 5, 2) := by decide +kernel
theorem dL_state_245 : decode cL_state 245 = .ok (.iconst 4, 1) := by decide +kernel
theorem dL_state_246 : decode cL_state 246 = .ok (.invokevirtual 160, 3) := by decide +kernel
theorem dL_state_249 : decode cL_state 249 = .ok (.aload_n 1, 1) := by decide +kernel
theorem dL_state_250 : decode cL_state 250 = .ok (.getfield 170, 3) := by decide +kernel
theorem dL_state_253 : decode cL_state 253 = .ok (.iload 5, 2) := by decide +kernel
theorem dL_state_255 : decode cL_state 255 = .ok (.iaload, 1) := by decide +kernel
theorem dL_state_256 : decode cL_state 256 = .ok (.ifCond .le 7, 3) := by decide +kernel
theorem dL_state_259 : decode cL_state 259 = .ok (.iconst (-1), 1) := by decide +kernel
theorem dL_state_260 : decode cL_state 260 = .ok (.goto 10, 3) := by decide +kernel
theorem dL_state_263 : decode cL_state 263 = .ok (.aload_n 1, 1) := by decide +kernel
theorem dL_state_264 : decode cL_state 264 = .ok (.getfield 173, 3) := by decide +kernel
theorem dL_state_267 : decode cL_state 267 = .ok (.iload 5, 2) := by decide +kernel
theorem dL_state_269 : decode cL_state 269 = .ok (.iaload, 1) := by decide +kernel
theorem dL_state_270 : decode cL_state 270 = .ok (.if_icmp .eq 5, 3) := by decide +kernel
theorem dL_state_273 : decode cL_state 273 = .ok (.iconst 0, 1) := by decide +kernel
theorem dL_state_274 : decode cL_state 274 = .ok (.ireturn, 1) := by decide +kernel
theorem dL_state_275 : decode cL_state 275 = .ok (.iconst 0, 1) := by decide +kernel
theorem dL_state_276 : decode cL_state 276 = .ok (.istore 7, 2) := by decide +kernel
theorem dL_state_278 : decode cL_state 278 = .ok (.iload 7, 2) := by decide +kernel
theorem dL_state_280 : decode cL_state 280 = .ok (.bipush 7, 2) := by decide +kernel
theorem dL_state_282 : decode cL_state 282 = .ok (.if_icmp .ge 50, 3) := by decide +kernel
theorem dL_state_285 : decode cL_state 285 = .ok (.aload_n 0, 1) := by decide +kernel
theorem dL_state_286 : decode cL_state 286 = .ok (.iload 5, 2) := by decide +kernel
theorem dL_state_288 : decode cL_state 288 = .ok (.iload 7, 2) := by decide +kernel
theorem dL_state_290 : decode cL_state 290 = .ok (.invokevirtual 176, 3) := by decide +kernel
theorem dL_state_293 : decode cL_state 293 = .ok (.iload 7, 2) := by decide +kernel
theorem dL_state_295 : decode cL_state 295 = .ok (.iload 6, 2) := by decide +kernel
theorem dL_state_297 : decode cL_state 297 = .ok (.if_icmp .ge 23, 3) := by decide +kernel
theorem dL_state_300 : decode cL_state 300 = .ok (.aload_n 1, 1) := by decide +kernel
theorem dL_state_301 : decode cL_state 301 = .ok (.getfield 157, 3) := by decide +kernel
theorem dL_state_304 : decode cL_state 304 = .ok (.iload 5, 2) := by decide +kernel
theorem dL_state_306 : decode cL_state 306 = .ok (.iaload, 1) := by decide +kernel
theorem dL_state_307 : decode cL_state 307 = .ok (.iload 6, 2) := by decide +kernel
theorem dL_state_309 : decode cL_state 309 = .ok (.iconst 1, 1) := by decide +kernel
theorem dL_state_310 : decode cL_state 310 = .ok (.isub, 1) := by decide +kernel
theorem dL_state_311 : decode cL_state 311 = .ok (.iload 7, 2) := by decide +kernel
theorem dL_state_313 : decode cL_state 313 = .ok (.isub, 1) := by decide +kernel
theorem dL_state_314 : decode cL_state 314 = .ok (.ishr, 1) := by decide +kernel
theorem dL_state_315 : decode cL_state 315 = .ok (.iconst 1, 1) := by decide +kernel
theorem dL_state_316 : decode cL_state 316 = .ok (.iand, 1) := by decide +kernel
theorem dL_state_317 : decode cL_state 317 = .ok (.goto 4, 3) := by decide +kernel
theorem dL_state_320 : decode cL_state 320 = .ok (.iconst (-1), 1) := by decide +kernel
theorem dL_state_321 : decode cL_state 321 = .ok (.if_icmp .eq 5, 3) := by decide +kernel
theorem dL_state_324 : decode cL_state 324 = .ok (.iconst 0, 1) := by decide +kernel
theorem dL_state_325 : decode cL_state 325 = .ok (.ireturn, 1) := by decide +kernel
theorem dL_state_326 : decode cL_state 326 = .ok (.iinc 7 1, 3) := by decide +kernel
theorem dL_state_329 : decode cL_state 329 = .ok (.goto (-51), 3) := by decide +kernel
theorem dL_state_332 : decode cL_state 332 = .ok (.aload_n 1, 1) := by decide +kernel
theorem dL_state_333 : decode cL_state 333 = .ok (.getfield 167, 3) := by decide +kernel
theorem dL_state_336 : decode cL_state 336 = .ok (.iload 5, 2) := by decide +kernel
theorem dL_state_338 : decode cL_state 338 = .ok (.iaload, 1) := by decide +kernel
theorem dL_state_339 : decode cL_state 339 = .ok (.ifCond .lt 39, 3) := by decide +kernel
theorem dL_state_342 : decode cL_state 342 = .ok (.aload_n 3, 1) := by decide +kernel
theorem dL_state_343 : decode cL_state 343 = .ok (.aload_n 1, 1) := by decide +kernel
theorem dL_state_344 : decode cL_state 344 = .ok (.getfield 167, 3) := by decide +kernel
theorem dL_state_347 : decode cL_state 347 = .ok (.iload 5, 2) := by decide +kernel
theorem dL_state_349 : decode cL_state 349 = .ok (.iaload, 1) := by decide +kernel
theorem dL_state_350 : decode cL_state 350 = .ok (.aaload, 1) := by decide +kernel
theorem dL_state_351 : decode cL_state 351 = .ok (.iconst 3, 1) := by decide +kernel
theorem dL_state_352 : decode cL_state 352 = .ok (.dup2, 1) := by decide +kernel
theorem dL_state_353 : decode cL_state 353 = .ok (.iaload, 1) := by decide +kernel
theorem dL_state_354 : decode cL_state 354 = .ok (.iconst 1, 1) := by decide +kernel
theorem dL_state_355 : decode cL_state 355 = .ok (.iadd, 1) := by decide +kernel
theorem dL_state_356 : decode cL_state 356 = .ok (.iastore, 1) := by decide +kernel
theorem dL_state_357 : decode cL_state 357 = .ok (.aload_n 3, 1) := by decide +kernel
theorem dL_state_358 : decode cL_state 358 = .ok (.aload_n 1, 1) := by decide +kernel
theorem dL_state_359 : decode cL_state 359 = .ok (.getfield 167, 3) := by decide +kernel
theorem dL_state_362 : decode cL_state 362 = .ok (.iload 5, 2) := by decide +kernel
theorem dL_state_364 : decode cL_state 364 = .ok (.iaload, 1) := by decide +kernel
theorem dL_state_365 : decode cL_state 365 = .ok (.aaload, 1) := by decide +kernel
theorem dL_state_366 : decode cL_state 366 = .ok (.iconst 4, 1) := by decide +kernel
theorem dL_state_367 : decode cL_state 367 = .ok (.dup2, 1) := by decide +kernel
theorem dL_state_368 : decode cL_state 368 = .ok (.iaload, 1) := by decide +kernel
theorem dL_state_369 : decode cL_state 369 = .ok (.aload_n 1, 1) := by decide +kernel
theorem dL_state_370 : decode cL_state 370 = .ok (.getfield 164, 3) := by decide +kernel
theorem dL_state_373 : decode cL_state 373 = .ok (.iload 5, 2) := by decide +kernel
theorem dL_state_375 : decode cL_state 375 = .ok (.iaload, 1) := by decide +kernel
theorem dL_state_376 : decode cL_state 376 = .ok (.iadd, 1) := by decide +kernel
theorem dL_state_377 : decode cL_state 377 = .ok (.iastore, 1) := by decide +kernel
theorem dL_state_378 : decode cL_state 378 = .ok (.iload 4, 2) := by decide +kernel
theorem dL_state_380 : decode cL_state 380 = .ok (.ifCond .lt 20, 3) := by decide +kernel
theorem dL_state_383 : decode cL_state 383 = .ok (.aload_n 1, 1) := by decide +kernel
theorem dL_state_384 : decode cL_state 384 = .ok (.getfield 170, 3) := by decide +kernel
theorem dL_state_387 : decode cL_state 387 = .ok (.iload 5, 2) := by decide +kernel
theorem dL_state_389 : decode cL_state 389 = .ok (.iaload, 1) := by decide +kernel
theorem dL_state_390 : decode cL_state 390 = .ok (.aload_n 1, 1) := by decide +kernel
theorem dL_state_391 : decode cL_state 391 = .ok (.getfield 170, 3) := by decide +kernel
theorem dL_state_394 : decode cL_state 394 = .ok (.iload 4, 2) := by decide +kernel
theorem dL_state_396 : decode cL_state 396 = .ok (.iaload, 1) := by decide +kernel
theorem dL_state_397 : decode cL_state 397 = .ok (.if_icmp .le 7, 3) := by decide +kernel
theorem dL_state_400 : decode cL_state 400 = .ok (.iload 5, 2) := by decide +kernel
theorem dL_state_402 : decode cL_state 402 = .ok (.istore 4, 2) := by decide +kernel
theorem dL_state_404 : decode cL_state 404 = .ok (.iinc 5 1, 3) := by decide +kernel
theorem dL_state_407 : decode cL_state 407 = .ok (.goto (-249), 3) := by decide +kernel
theorem dL_state_410 : decode cL_state 410 = .ok (.iconst 0, 1) := by decide +kernel
theorem dL_state_411 : decode cL_state 411 = .ok (.istore 5, 2) := by decide +kernel
theorem dL_state_413 : decode cL_state 413 = .ok (.iload 5, 2) := by decide +kernel
theorem dL_state_415 : decode cL_state 415 = .ok (.aload_n 1, 1) := by decide +kernel
theorem dL_state_416 : decode cL_state 416 = .ok (.getfield 142, 3) := by decide +kernel
theorem dL_state_419 : decode cL_state 419 = .ok (.if_icmp .ge 234, 3) := by decide +kernel
theorem dL_state_422 : decode cL_state 422 = .ok (.aload_n 1, 1) := by decide +kernel
theorem dL_state_423 : decode cL_state 423 = .ok (.getfield 179, 3) := by decide +kernel
theorem dL_state_426 : decode cL_state 426 = .ok (.iload 5, 2) := by decide +kernel
theorem dL_state_428 : decode cL_state 428 = .ok (.iaload, 1) := by decide +kernel
theorem dL_state_429 : decode cL_state 429 = .ok (.invokestatic 36, 3) := by decide +kernel
theorem dL_state_432 : decode cL_state 432 = .ok (.istore 6, 2) := by decide +kernel
theorem dL_state_434 : decode cL_state 434 = .ok (.aload_n 1, 1) := by decide +kernel
theorem dL_state_435 : decode cL_state 435 = .ok (.getfield 182, 3) := by decide +kernel
theorem dL_state_438 : decode cL_state 438 = .ok (.iload 5, 2) := by decide +kernel
theorem dL_state_440 : decode cL_state 440 = .ok (.iaload, 1) := by decide +kernel
theorem dL_state_441 : decode cL_state 441 = .ok (.invokestatic 185, 3) := by decide +kernel
theorem dL_state_444 : decode cL_state 444 = .ok (.iconst 1, 1) := by decide +kernel
theorem dL_state_445 : decode cL_state 445 = .ok (.iadd, 1) := by decide +kernel
theorem dL_state_446 : decode cL_state 446 = .ok (.istore 7, 2) := by decide +kernel
theorem dL_state_448 : decode cL_state 448 = .ok (.aload_n 0, 1) := by decide +kernel
theorem dL_state_449 : decode cL_state 449 = .ok (.iload 5, 2) := by decide +kernel
theorem dL_state_451 : decode cL_state 451 = .ok (.iconst 0, 1) := by decide +kernel
theorem dL_state_452 : decode cL_state 452 = .ok (.invokevirtual 190, 3) := by decide +kernel
theorem dL_state_455 : decode cL_state 455 = .ok (.aload_n 1, 1) := by decide +kernel
theorem dL_state_456 : decode cL_state 456 = .ok (.getfield 192, 3) := by decide +kernel
theorem dL_state_459 : decode cL_state 459 = .ok (.iload 5, 2) := by decide +kernel
theorem dL_state_461 : decode cL_state 461 = .ok (.iaload, 1) := by decide +kernel
theorem dL_state_462 : decode cL_state 462 = .ok (.if_icmp .ne 44, 3) := by decide +kernel
theorem dL_state_465 : decode cL_state 465 = .ok (.aload_n 0, 1) := by decide +kernel
theorem dL_state_466 : decode cL_state 466 = .ok (.iload 5, 2) := by decide +kernel
theorem dL_state_468 : decode cL_state 468 = .ok (.iconst 1, 1) := by decide +kernel
theorem dL_state_469 : decode cL_state 469 = .ok (.invokevirtual 190, 3) := by decide +kernel
theorem dL_state_472 : decode cL_state 472 = .ok (.iload 6, 2) := by decide +kernel
theorem dL_state_474 : decode cL_state 474 = .ok (.if_icmp .ne 32, 3) := by decide +kernel
theorem dL_state_477 : decode cL_state 477 = .ok (.aload_n 0, 1) := by decide +kernel
theorem dL_state_478 : decode cL_state 478 = .ok (.iload 5, 2) := by decide +kernel
theorem dL_state_480 : decode cL_state 480 = .ok (.iconst 2, 1) := by decide +kernel
theorem dL_state_481 : decode cL_state 481 = .ok (.invokevirtual 190, 3) := by decide +kernel
theorem dL_state_484 : decode cL_state 484 = .ok (.iload 7, 2) := by decide +kernel
theorem dL_state_486 : decode cL_state 486 = .ok (.if_icmp .ne 20, 3) := by decide +kernel
theorem dL_state_489 : decode cL_state 489 = .ok (.aload_n 0, 1) := by decide +kernel
theorem dL_state_490 : decode cL_state 490 = .ok (.iload 5, 2) := by decide +kernel
theorem dL_state_492 : decode cL_state 492 = .ok (.iconst 3, 1) := by decide +kernel
theorem dL_state_493 : decode cL_state 493 = .ok (.invokevirtual 190, 3) := by decide +kernel
theorem dL_state_496 : decode cL_state 496 = .ok (.aload_n 1, 1) := by decide +kernel
theorem dL_state_497 : decode cL_state 497 = .ok (.getfield 68, 3) := by decide +kernel
theorem dL_state_500 : decode cL_state 500 = .ok (.iload 7, 2) := by decide +kernel
theorem dL_state_502 : decode cL_state 502 = .ok (.imul, 1) := by decide +kernel
theorem dL_state_503 : decode cL_state 503 = .ok (.if_icmp .eq 5, 3) := by decide +kernel
theorem dL_state_506 : decode cL_state 506 = .ok (.iconst 0, 1) := by decide +kernel
theorem dL_state_507 : decode cL_state 507 = .ok (.ireturn, 1) := by decide +kernel
theorem dL_state_508 : decode cL_state 508 = .ok (.iconst 0, 1) := by decide +kernel
theorem dL_state_509 : decode cL_state 509 = .ok (.istore 8, 2) := by decide +kernel
theorem dL_state_511 : decode cL_state 511 = .ok (.iload 8, 2) := by decide +kernel
theorem dL_state_513 : decode cL_state 513 = .ok (.bipush 13, 2) := by decide +kernel
theorem dL_state_515 : decode cL_state 515 = .ok (.if_icmp .ge 96, 3) := by decide +kernel
theorem dL_state_518 : decode cL_state 518 = .ok (.aload_n 0, 1) := by decide +kernel
theorem dL_state_519 : decode cL_state 519 = .ok (.iload 5, 2) := by decide +kernel
theorem dL_state_521 : decode cL_state 521 = .ok (.iload 8, 2) := by decide +kernel
theorem dL_state_523 : decode cL_state 523 = .ok (.invokevirtual 195, 3) := by decide +kernel
theorem dL_state_526 : decode cL_state 526 = .ok (.iload 8, 2) := by decide +kernel
theorem dL_state_528 : decode cL_state 528 = .ok (.iload 6, 2) := by decide +kernel
theorem dL_state_530 : decode cL_state 530 = .ok (.if_icmp .ge 23, 3) := by decide +kernel
theorem dL_state_533 : decode cL_state 533 = .ok (.aload_n 1, 1) := by decide +kernel
theorem dL_state_534 : decode cL_state 534 = .ok (.getfield 179, 3) := by decide +kernel
theorem dL_state_537 : decode cL_state 537 = .ok (.iload 5, 2) := by decide +kernel
theorem dL_state_539 : decode cL_state 539 = .ok (.iaload, 1) := by decide +kernel
theorem dL_state_540 : decode cL_state 540 = .ok (.iload 6, 2) := by decide +kernel
theorem dL_state_542 : decode cL_state 542 = .ok (.iconst 1, 1) := by decide +kernel
theorem dL_state_543 : decode cL_state 543 = .ok (.isub, 1) := by decide +kernel
theorem dL_state_544 : decode cL_state 544 = .ok (.iload 8, 2) := by decide +kernel
theorem dL_state_546 : decode cL_state 546 = .ok (.isub, 1) := by decide +kernel
theorem dL_state_547 : decode cL_state 547 = .ok (.ishr, 1) := by decide +kernel
theorem dL_state_548 : decode cL_state 548 = .ok (.iconst 1, 1) := by decide +kernel
theorem dL_state_549 : decode cL_state 549 = .ok (.iand, 1) := by decide +kernel
theorem dL_state_550 : decode cL_state 550 = .ok (.goto 4, 3) := by decide +kernel
theorem dL_state_553 : decode cL_state 553 = .ok (.iconst (-1), 1) := by decide +kernel
theorem dL_state_554 : decode cL_state 554 = .ok (.if_icmp .ne 49, 3) := by decide +kernel
theorem dL_state_557 : decode cL_state 557 = .ok (.aload_n 0, 1) := by decide +kernel
theorem dL_state_558 : decode cL_state 558 = .ok (.iload 5, 2) := by decide +kernel
theorem dL_state_560 : decode cL_state 560 = .ok (.iload 8, 2) := by decide +kernel
theorem dL_state_562 : decode cL_state 562 = .ok (.invokevirtual 198, 3) := by decide +kernel
theorem dL_state_565 : decode cL_state 565 = .ok (.iload 8, 2) := by decide +kernel
theorem dL_state_567 : decode cL_state 567 = .ok (.iload 7, 2) := by decide +kernel
theorem dL_state_569 : decode cL_state 569 = .ok (.if_icmp .ge 30, 3) := by decide +kernel
theorem dL_state_572 : decode cL_state 572 = .ok (.aload_n 1, 1) := by decide +kernel
theorem dL_state_573 : decode cL_state 573 = .ok (.aload_n 1, 1) := by decide +kernel
theorem dL_state_574 : decode cL_state 574 = .ok (.aload_n 1, 1) := by decide +kernel
theorem dL_state_575 : decode cL_state 575 = .ok (.getfield 179, 3) := by decide +kernel
theorem dL_state_578 : decode cL_state 578 = .ok (.iload 5, 2) := by decide +kernel
theorem dL_state_580 : decode cL_state 580 = .ok (.iaload, 1) := by decide +kernel
theorem dL_state_581 : decode cL_state 581 = .ok (.aload_n 1, 1) := by decide +kernel
theorem dL_state_582 : decode cL_state 582 = .ok (.getfield 182, 3) := by decide +kernel
theorem dL_state_585 : decode cL_state 585 = .ok (.iload 5, 2) := by decide +kernel
theorem dL_state_587 : decode cL_state 587 = .ok (.iaload, 1) := by decide +kernel
theorem dL_state_588 : decode cL_state 588 = .ok (.iload 8, 2) := by decide +kernel
theorem dL_state_590 : decode cL_state 590 = .ok (.invokevirtual 201, 3) := by decide +kernel
theorem dL_state_593 : decode cL_state 593 = .ok (.invokevirtual 97, 3) := by decide +kernel
theorem dL_state_596 : decode cL_state 596 = .ok (.goto 4, 3) := by decide +kernel
theorem dL_state_599 : decode cL_state 599 = .ok (.iconst (-1), 1) := by decide +kernel
theorem dL_state_600 : decode cL_state 600 = .ok (.if_icmp .eq 5, 3) := by decide +kernel
theorem dL_state_603 : decode cL_state 603 = .ok (.iconst 0, 1) := by decide +kernel
theorem dL_state_604 : decode cL_state 604 = .ok (.ireturn, 1) := by decide +kernel
theorem dL_state_605 : decode cL_state 605 = .ok (.iinc 8 1, 3) := by decide +kernel
