theorem dX10_init_0 : decode cX10_init 0 = .ok (.aload_n 0, 1) := by decide +kernel
theorem dX10_init_1 : decode cX10_init 1 = .ok (.invokespecial 1, 3) := by decide +kernel
theorem dX10_init_4 : decode cX10_init 4 = .ok (.aload_n 0, 1) := by decide +kernel
theorem dX10_init_5 : decode cX10_init 5 = .ok (.sipush 365, 3) := by decide +kernel
theorem dX10_init_8 : decode cX10_init 8 = .ok (.newarray .int, 2) := by decide +kernel
theorem dX10_init_10 : decode cX10_init 10 = .ok (.putfield 7, 3) := by decide +kernel
theorem dX10_init_13 : decode cX10_init 13 = .ok (.aload_n 0, 1) := by decide +kernel
theorem dX10_init_14 : decode cX10_init 14 = .ok (.sipush 365, 3) := by decide +kernel
theorem dX10_init_17 : decode cX10_init 17 = .ok (.newarray .int, 2) := by decide +kernel
theorem dX10_init_19 : decode cX10_init 19 = .ok (.putfield 13, 3) := by decide +kernel
theorem dX10_init_22 : decode cX10_init 22 = .ok (.aload_n 0, 1) := by decide +kernel
theorem dX10_init_23 : decode cX10_init 23 = .ok (.iconst 4, 1) := by decide +kernel
theorem dX10_init_24 : decode cX10_init 24 = .ok (.newarray .long, 2) := by decide +kernel
theorem dX10_init_26 : decode cX10_init 26 = .ok (.putfield 16, 3) := by decide +kernel
theorem dX10_init_29 : decode cX10_init 29 = .ok (.aload_n 0, 1) := by decide +kernel
theorem dX10_init_30 : decode cX10_init 30 = .ok (.iconst 4, 1) := by decide +kernel
theorem dX10_init_31 : decode cX10_init 31 = .ok (.newarray .long, 2) := by decide +kernel
theorem dX10_init_33 : decode cX10_init 33 = .ok (.putfield 20, 3) := by decide +kernel
theorem dX10_init_36 : decode cX10_init 36 = .ok (.aload_n 0, 1) := by decide +kernel
theorem dX10_init_37 : decode cX10_init 37 = .ok (.sipush 600, 3) := by decide +kernel
theorem dX10_init_40 : decode cX10_init 40 = .ok (.newarray .byte, 2) := by decide +kernel
theorem dX10_init_42 : decode cX10_init 42 = .ok (.putfield 23, 3) := by decide +kernel
theorem dX10_init_45 : decode cX10_init 45 = .ok (.aload_n 0, 1) := by decide +kernel
theorem dX10_init_46 : decode cX10_init 46 = .ok (.iconst (-1), 1) := by decide +kernel
theorem dX10_init_47 : decode cX10_init 47 = .ok (.putfield 27, 3) := by decide +kernel
theorem dX10_init_50 : decode cX10_init 50 = .ok (.aload_n 0, 1) := by decide +kernel
theorem dX10_init_51 : decode cX10_init 51 = .ok (.bipush 12, 2) := by decide +kernel
theorem dX10_init_53 : decode cX10_init 53 = .ok (.newarray .int, 2) := by decide +kernel
theorem dX10_init_55 : decode cX10_init 55 = .ok (.putfield 31, 3) := by decide +kernel
theorem dX10_init_58 : decode cX10_init 58 = .ok (.aload_n 0, 1) := by decide +kernel
theorem dX10_init_59 : decode cX10_init 59 = .ok (.bipush 13, 2) := by decide +kernel
theorem dX10_init_61 : decode cX10_init 61 = .ok (.newarray .int, 2) := by decide +kernel
theorem dX10_init_63 : decode cX10_init 63 = .ok (.putfield 34, 3) := by decide +kernel
theorem dX10_init_66 : decode cX10_init 66 = .ok (.aload_n 0, 1) := by decide +kernel
theorem dX10_init_67 : decode cX10_init 67 = .ok (.bipush 13, 2) := by decide +kernel
theorem dX10_init_69 : decode cX10_init 69 = .ok (.newarray .int, 2) := by decide +kernel
theorem dX10_init_71 : decode cX10_init 71 = .ok (.putfield 37, 3) := by decide +kernel
theorem dX10_init_74 : decode cX10_init 74 = .ok (.aload_n 0, 1) := by decide +kernel
theorem dX10_init_75 : decode cX10_init 75 = .ok (.bipush 13, 2) := by decide +kernel
theorem dX10_init_77 : decode cX10_init 77 = .ok (.newarray .int, 2) := by decide +kernel
theorem dX10_init_79 : decode cX10_init 79 = .ok (.putfield 40, 3) := by decide +kernel
theorem dX10_init_82 : decode cX10_init 82 = .ok (.aload_n 0, 1) := by decide +kernel
theorem dX10_init_83 : decode cX10_init 83 = .ok (.bipush 12, 2) := by decide +kernel
theorem dX10_init_85 : decode cX10_init 85 = .ok (.newarray .int, 2) := by decide +kernel
theorem dX10_init_87 : decode cX10_init 87 = .ok (.putfield 43, 3) := by decide +kernel
theorem dX10_init_90 : decode cX10_init 90 = .ok (.aload_n 0, 1) := by decide +kernel
theorem dX10_init_91 : decode cX10_init 91 = .ok (.bipush 13, 2) := by decide +kernel
theorem dX10_init_93 : decode cX10_init 93 = .ok (.newarray .int, 2) := by decide +kernel
theorem dX10_init_95 : decode cX10_init 95 = .ok (.putfield 46, 3) := by decide +kernel
theorem dX10_init_98 : decode cX10_init 98 = .ok (.aload_n 0, 1) := by decide +kernel
theorem dX10_init_99 : decode cX10_init 99 = .ok (.sipush 3650, 3) := by decide +kernel
theorem dX10_init_102 : decode cX10_init 102 = .ok (.newarray .int, 2) := by decide +kernel
theorem dX10_init_104 : decode cX10_init 104 = .ok (.putfield 49, 3) := by decide +kernel
theorem dX10_init_107 : decode cX10_init 107 = .ok (.aload_n 0, 1) := by decide +kernel
theorem dX10_init_108 : decode cX10_init 108 = .ok (.sipush 730, 3) := by decide +kernel
theorem dX10_init_111 : decode cX10_init 111 = .ok (.newarray .int, 2) := by decide +kernel
theorem dX10_init_113 : decode cX10_init 113 = .ok (.putfield 52, 3) := by decide +kernel
theorem dX10_init_116 : decode cX10_init 116 = .ok (.aload_n 0, 1) := by decide +kernel
theorem dX10_init_117 : decode cX10_init 117 = .ok (.iconst 2, 1) := by decide +kernel
theorem dX10_init_118 : decode cX10_init 118 = .ok (.newarray .boolean, 2) := by decide +kernel
theorem dX10_init_120 : decode cX10_init 120 = .ok (.putfield 55, 3) := by decide +kernel
theorem dX10_init_123 : decode cX10_init 123 = .ok (.aload_n 0, 1) := by decide +kernel
theorem dX10_init_124 : decode cX10_init 124 = .ok (.getfield 7, 3) := by decide +kernel
theorem dX10_init_127 : decode cX10_init 127 = .ok (.iconst 2, 1) := by decide +kernel
theorem dX10_init_128 : decode cX10_init 128 = .ok (.iconst 1, 1) := by decide +kernel
theorem dX10_init_129 : decode cX10_init 129 = .ok (.iastore, 1) := by decide +kernel
theorem dX10_init_130 : decode cX10_init 130 = .ok (.return_, 1) := by decide +kernel
theorem dX10_thrown_0 : decode cX10_thrown 0 = .ok (.aload_n 0, 1) := by decide +kernel
theorem dX10_thrown_1 : decode cX10_thrown 1 = .ok (.getfield 59, 3) := by decide +kernel
theorem dX10_thrown_4 : decode cX10_thrown 4 = .ok (.ireturn, 1) := by decide +kernel
theorem dX10_within_0 : decode cX10_within 0 = .ok (.iload_n 0, 1) := by decide +kernel
theorem dX10_within_1 : decode cX10_within 1 = .ok (.iload_n 1, 1) := by decide +kernel
theorem dX10_within_2 : decode cX10_within 2 = .ok (.if_icmp .lt 12, 3) := by decide +kernel
theorem dX10_within_5 : decode cX10_within 5 = .ok (.iload_n 0, 1) := by decide +kernel
theorem dX10_within_6 : decode cX10_within 6 = .ok (.iload_n 2, 1) := by decide +kernel
theorem dX10_within_7 : decode cX10_within 7 = .ok (.if_icmp .gt 7, 3) := by decide +kernel
theorem dX10_within_10 : decode cX10_within 10 = .ok (.iconst 1, 1) := by decide +kernel
theorem dX10_within_11 : decode cX10_within 11 = .ok (.goto 4, 3) := by decide +kernel
theorem dX10_within_14 : decode cX10_within 14 = .ok (.iconst 0, 1) := by decide +kernel
theorem dX10_within_15 : decode cX10_within 15 = .ok (.ireturn, 1) := by decide +kernel
theorem dX10_throwsIf_0 : decode cX10_throwsIf 0 = .ok (.aload_n 0, 1) := by decide +kernel
theorem dX10_throwsIf_1 : decode cX10_throwsIf 1 = .ok (.getfield 59, 3) := by decide +kernel
theorem dX10_throwsIf_4 : decode cX10_throwsIf 4 = .ok (.ifCond .ne 12, 3) := by decide +kernel
theorem dX10_throwsIf_7 : decode cX10_throwsIf 7 = .ok (.iload_n 1, 1) := by decide +kernel
theorem dX10_throwsIf_8 : decode cX10_throwsIf 8 = .ok (.ifCond .eq 8, 3) := by decide +kernel
theorem dX10_throwsIf_11 : decode cX10_throwsIf 11 = .ok (.aload_n 0, 1) := by decide +kernel
theorem dX10_throwsIf_12 : decode cX10_throwsIf 12 = .ok (.iload_n 2, 1) := by decide +kernel
theorem dX10_throwsIf_13 : decode cX10_throwsIf 13 = .ok (.putfield 59, 3) := by decide +kernel
theorem dX10_throwsIf_16 : decode cX10_throwsIf 16 = .ok (.aload_n 0, 1) := by decide +kernel
theorem dX10_throwsIf_17 : decode cX10_throwsIf 17 = .ok (.getfield 59, 3) := by decide +kernel
theorem dX10_throwsIf_20 : decode cX10_throwsIf 20 = .ok (.ifCond .le 7, 3) := by decide +kernel
theorem dX10_throwsIf_23 : decode cX10_throwsIf 23 = .ok (.iconst 1, 1) := by decide +kernel
theorem dX10_throwsIf_24 : decode cX10_throwsIf 24 = .ok (.goto 4, 3) := by decide +kernel
theorem dX10_throwsIf_27 : decode cX10_throwsIf 27 = .ok (.iconst 0, 1) := by decide +kernel
theorem dX10_throwsIf_28 : decode cX10_throwsIf 28 = .ok (.ireturn, 1) := by decide +kernel
theorem dX10_puts_0 : decode cX10_puts 0 = .ok (.iconst 0, 1) := by decide +kernel
theorem dX10_puts_1 : decode cX10_puts 1 = .ok (.istore_n 2, 1) := by decide +kernel
theorem dX10_puts_2 : decode cX10_puts 2 = .ok (.iload_n 2, 1) := by decide +kernel
theorem dX10_puts_3 : decode cX10_puts 3 = .ok (.sipush 365, 3) := by decide +kernel
theorem dX10_puts_6 : decode cX10_puts 6 = .ok (.if_icmp .ge 15, 3) := by decide +kernel
theorem dX10_puts_9 : decode cX10_puts 9 = .ok (.aload_n 1, 1) := by decide +kernel
theorem dX10_puts_10 : decode cX10_puts 10 = .ok (.iload_n 2, 1) := by decide +kernel
theorem dX10_puts_11 : decode cX10_puts 11 = .ok (.aload_n 0, 1) := by decide +kernel
theorem dX10_puts_12 : decode cX10_puts 12 = .ok (.iload_n 2, 1) := by decide +kernel
theorem dX10_puts_13 : decode cX10_puts 13 = .ok (.iaload, 1) := by decide +kernel
theorem dX10_puts_14 : decode cX10_puts 14 = .ok (.iastore, 1) := by decide +kernel
theorem dX10_puts_15 : decode cX10_puts 15 = .ok (.iinc 2 1, 3) := by decide +kernel
theorem dX10_puts_18 : decode cX10_puts 18 = .ok (.goto (-16), 3) := by decide +kernel
theorem dX10_puts_21 : decode cX10_puts 21 = .ok (.return_, 1) := by decide +kernel
theorem dX10_append_0 : decode cX10_append 0 = .ok (.aload_n 0, 1) := by decide +kernel
theorem dX10_append_1 : decode cX10_append 1 = .ok (.iconst 0, 1) := by decide +kernel
theorem dX10_append_2 : decode cX10_append 2 = .ok (.putfield 59, 3) := by decide +kernel
theorem dX10_append_5 : decode cX10_append 5 = .ok (.aload_n 0, 1) := by decide +kernel
theorem dX10_append_6 : decode cX10_append 6 = .ok (.getfield 62, 3) := by decide +kernel
theorem dX10_append_9 : decode cX10_append 9 = .ok (.bipush 20, 2) := by decide +kernel
theorem dX10_append_11 : decode cX10_append 11 = .ok (.iadd, 1) := by decide +kernel
theorem dX10_append_12 : decode cX10_append 12 = .ok (.sipush 600, 3) := by decide +kernel
theorem dX10_append_15 : decode cX10_append 15 = .ok (.if_icmp .le 5, 3) := by decide +kernel
theorem dX10_append_18 : decode cX10_append 18 = .ok (.iconst (-1), 1) := by decide +kernel
theorem dX10_append_19 : decode cX10_append 19 = .ok (.ireturn, 1) := by decide +kernel
theorem dX10_append_20 : decode cX10_append 20 = .ok (.aload_n 0, 1) := by decide +kernel
theorem dX10_append_21 : decode cX10_append 21 = .ok (.iload_n 1, 1) := by decide +kernel
theorem dX10_append_22 : decode cX10_append 22 = .ok (.invokevirtual 65, 3) := by decide +kernel
theorem dX10_append_25 : decode cX10_append 25 = .ok (.aload_n 0, 1) := by decide +kernel
theorem dX10_append_26 : decode cX10_append 26 = .ok (.iload_n 2, 1) := by decide +kernel
theorem dX10_append_27 : decode cX10_append 27 = .ok (.invokevirtual 65, 3) := by decide +kernel
theorem dX10_append_30 : decode cX10_append 30 = .ok (.aload_n 0, 1) := by decide +kernel
theorem dX10_append_31 : decode cX10_append 31 = .ok (.iload_n 3, 1) := by decide +kernel
theorem dX10_append_32 : decode cX10_append 32 = .ok (.invokevirtual 65, 3) := by decide +kernel
theorem dX10_append_35 : decode cX10_append 35 = .ok (.aload_n 0, 1) := by decide +kernel
theorem dX10_append_36 : decode cX10_append 36 = .ok (.iload 4, 2) := by decide +kernel
theorem dX10_append_38 : decode cX10_append 38 = .ok (.invokevirtual 65, 3) := by decide +kernel
theorem dX10_append_41 : decode cX10_append 41 = .ok (.aload_n 0, 1) := by decide +kernel
theorem dX10_append_42 : decode cX10_append 42 = .ok (.iload 5, 2) := by decide +kernel
theorem dX10_append_44 : decode cX10_append 44 = .ok (.invokevirtual 65, 3) := by decide +kernel
theorem dX10_append_47 : decode cX10_append 47 = .ok (.aload_n 0, 1) := by decide +kernel
theorem dX10_append_48 : decode cX10_append 48 = .ok (.getfield 62, 3) := by decide +kernel
theorem dX10_append_51 : decode cX10_append 51 = .ok (.ireturn, 1) := by decide +kernel
theorem dX10_bytesOf_0 : decode cX10_bytesOf 0 = .ok (.bipush 24, 2) := by decide +kernel
theorem dX10_bytesOf_2 : decode cX10_bytesOf 2 = .ok (.istore_n 2, 1) := by decide +kernel
theorem dX10_bytesOf_3 : decode cX10_bytesOf 3 = .ok (.iload_n 2, 1) := by decide +kernel
theorem dX10_bytesOf_4 : decode cX10_bytesOf 4 = .ok (.ifCond .lt 32, 3) := by decide +kernel
theorem dX10_bytesOf_7 : decode cX10_bytesOf 7 = .ok (.aload_n 0, 1) := by decide +kernel
theorem dX10_bytesOf_8 : decode cX10_bytesOf 8 = .ok (.getfield 23, 3) := by decide +kernel
theorem dX10_bytesOf_11 : decode cX10_bytesOf 11 = .ok (.aload_n 0, 1) := by decide +kernel
theorem dX10_bytesOf_12 : decode cX10_bytesOf 12 = .ok (.getfield 62, 3) := by decide +kernel
theorem dX10_bytesOf_15 : decode cX10_bytesOf 15 = .ok (.iload_n 1, 1) := by decide +kernel
theorem dX10_bytesOf_16 : decode cX10_bytesOf 16 = .ok (.iload_n 2, 1) := by decide +kernel
theorem dX10_bytesOf_17 : decode cX10_bytesOf 17 = .ok (.ishr, 1) := by decide +kernel
theorem dX10_bytesOf_18 : decode cX10_bytesOf 18 = .ok (.i2b, 1) := by decide +kernel
theorem dX10_bytesOf_19 : decode cX10_bytesOf 19 = .ok (.bastore, 1) := by decide +kernel
theorem dX10_bytesOf_20 : decode cX10_bytesOf 20 = .ok (.aload_n 0, 1) := by decide +kernel
theorem dX10_bytesOf_21 : decode cX10_bytesOf 21 = .ok (.dup, 1) := by decide +kernel
theorem dX10_bytesOf_22 : decode cX10_bytesOf 22 = .ok (.getfield 62, 3) := by decide +kernel
theorem dX10_bytesOf_25 : decode cX10_bytesOf 25 = .ok (.iconst 1, 1) := by decide +kernel
theorem dX10_bytesOf_26 : decode cX10_bytesOf 26 = .ok (.iadd, 1) := by decide +kernel
theorem dX10_bytesOf_27 : decode cX10_bytesOf 27 = .ok (.putfield 62, 3) := by decide +kernel
theorem dX10_bytesOf_30 : decode cX10_bytesOf 30 = .ok (.iinc 2 (-8), 3) := by decide +kernel
theorem dX10_bytesOf_33 : decode cX10_bytesOf 33 = .ok (.goto (-30), 3) := by decide +kernel
theorem dX10_bytesOf_36 : decode cX10_bytesOf 36 = .ok (.return_, 1) := by decide +kernel
theorem dX10_byteAt_0 : decode cX10_byteAt 0 = .ok (.iload_n 1, 1) := by decide +kernel
theorem dX10_byteAt_1 : decode cX10_byteAt 1 = .ok (.aload_n 0, 1) := by decide +kernel
theorem dX10_byteAt_2 : decode cX10_byteAt 2 = .ok (.getfield 69, 3) := by decide +kernel
theorem dX10_byteAt_5 : decode cX10_byteAt 5 = .ok (.if_icmp .ge 16, 3) := by decide +kernel
theorem dX10_byteAt_8 : decode cX10_byteAt 8 = .ok (.aload_n 0, 1) := by decide +kernel
theorem dX10_byteAt_9 : decode cX10_byteAt 9 = .ok (.getfield 23, 3) := by decide +kernel
theorem dX10_byteAt_12 : decode cX10_byteAt 12 = .ok (.iload_n 1, 1) := by decide +kernel
theorem dX10_byteAt_13 : decode cX10_byteAt 13 = .ok (.baload, 1) := by decide +kernel
theorem dX10_byteAt_14 : decode cX10_byteAt 14 = .ok (.sipush 255, 3) := by decide +kernel
theorem dX10_byteAt_17 : decode cX10_byteAt 17 = .ok (.iand, 1) := by decide +kernel
theorem dX10_byteAt_18 : decode cX10_byteAt 18 = .ok (.goto 4, 3) := by decide +kernel
theorem dX10_byteAt_21 : decode cX10_byteAt 21 = .ok (.iconst (-1), 1) := by decide +kernel
theorem dX10_byteAt_22 : decode cX10_byteAt 22 = .ok (.ireturn, 1) := by decide +kernel
theorem dX10_advance_0 : decode cX10_advance 0 = .ok (.aload_n 0, 1) := by decide +kernel
theorem dX10_advance_1 : decode cX10_advance 1 = .ok (.aload_n 0, 1) := by decide +kernel
theorem dX10_advance_2 : decode cX10_advance 2 = .ok (.getfield 72, 3) := by decide +kernel
theorem dX10_advance_5 : decode cX10_advance 5 = .ok (.invokevirtual 75, 3) := by decide +kernel
theorem dX10_advance_8 : decode cX10_advance 8 = .ok (.bipush 32, 2) := by decide +kernel
theorem dX10_advance_10 : decode cX10_advance 10 = .ok (.if_icmp .eq 16, 3) := by decide +kernel
theorem dX10_advance_13 : decode cX10_advance 13 = .ok (.aload_n 0, 1) := by decide +kernel
theorem dX10_advance_14 : decode cX10_advance 14 = .ok (.aload_n 0, 1) := by decide +kernel
theorem dX10_advance_15 : decode cX10_advance 15 = .ok (.getfield 72, 3) := by decide +kernel
theorem dX10_advance_18 : decode cX10_advance 18 = .ok (.invokevirtual 75, 3) := by decide +kernel
theorem dX10_advance_21 : decode cX10_advance 21 = .ok (.bipush 10, 2) := by decide +kernel
theorem dX10_advance_23 : decode cX10_advance 23 = .ok (.if_icmp .ne 16, 3) := by decide +kernel
theorem dX10_advance_26 : decode cX10_advance 26 = .ok (.aload_n 0, 1) := by decide +kernel
theorem dX10_advance_27 : decode cX10_advance 27 = .ok (.dup, 1) := by decide +kernel
theorem dX10_advance_28 : decode cX10_advance 28 = .ok (.getfield 72, 3) := by decide +kernel
theorem dX10_advance_31 : decode cX10_advance 31 = .ok (.iconst 1, 1) := by decide +kernel
theorem dX10_advance_32 : decode cX10_advance 32 = .ok (.iadd, 1) := by decide +kernel
theorem dX10_advance_33 : decode cX10_advance 33 = .ok (.putfield 72, 3) := by decide +kernel
theorem dX10_advance_36 : decode cX10_advance 36 = .ok (.goto (-36), 3) := by decide +kernel
theorem dX10_advance_39 : decode cX10_advance 39 = .ok (.aload_n 0, 1) := by decide +kernel
theorem dX10_advance_40 : decode cX10_advance 40 = .ok (.aload_n 0, 1) := by decide +kernel
theorem dX10_advance_41 : decode cX10_advance 41 = .ok (.getfield 72, 3) := by decide +kernel
theorem dX10_advance_44 : decode cX10_advance 44 = .ok (.putfield 79, 3) := by decide +kernel
theorem dX10_advance_47 : decode cX10_advance 47 = .ok (.aload_n 0, 1) := by decide +kernel
theorem dX10_advance_48 : decode cX10_advance 48 = .ok (.iconst 0, 1) := by decide +kernel
theorem dX10_advance_49 : decode cX10_advance 49 = .ok (.putfield 82, 3) := by decide +kernel
theorem dX10_advance_52 : decode cX10_advance 52 = .ok (.aload_n 0, 1) := by decide +kernel
theorem dX10_advance_53 : decode cX10_advance 53 = .ok (.aload_n 0, 1) := by decide +kernel
theorem dX10_advance_54 : decode cX10_advance 54 = .ok (.getfield 72, 3) := by decide +kernel
theorem dX10_advance_57 : decode cX10_advance 57 = .ok (.invokevirtual 75, 3) := by decide +kernel
theorem dX10_advance_60 : decode cX10_advance 60 = .ok (.istore_n 1, 1) := by decide +kernel
theorem dX10_advance_61 : decode cX10_advance 61 = .ok (.iload_n 1, 1) := by decide +kernel
theorem dX10_advance_62 : decode cX10_advance 62 = .ok (.iconst (-1), 1) := by decide +kernel
theorem dX10_advance_63 : decode cX10_advance 63 = .ok (.if_icmp .ne 11, 3) := by decide +kernel
theorem dX10_advance_66 : decode cX10_advance 66 = .ok (.aload_n 0, 1) := by decide +kernel
theorem dX10_advance_67 : decode cX10_advance 67 = .ok (.iconst 0, 1) := by decide +kernel
theorem dX10_advance_68 : decode cX10_advance 68 = .ok (.putfield 85, 3) := by decide +kernel
theorem dX10_advance_71 : decode cX10_advance 71 = .ok (.goto 206, 3) := by decide +kernel
theorem dX10_advance_74 : decode cX10_advance 74 = .ok (.iload_n 1, 1) := by decide +kernel
theorem dX10_advance_75 : decode cX10_advance 75 = .ok (.bipush 97, 2) := by decide +kernel
theorem dX10_advance_77 : decode cX10_advance 77 = .ok (.bipush 122, 2) := by decide +kernel
theorem dX10_advance_79 : decode cX10_advance 79 = .ok (.invokestatic 88, 3) := by decide +kernel
theorem dX10_advance_82 : decode cX10_advance 82 = .ok (.ifCond .eq 60, 3) := by decide +kernel
theorem dX10_advance_85 : decode cX10_advance 85 = .ok (.aload_n 0, 1) := by decide +kernel
theorem dX10_advance_86 : decode cX10_advance 86 = .ok (.aload_n 0, 1) := by decide +kernel
theorem dX10_advance_87 : decode cX10_advance 87 = .ok (.getfield 72, 3) := by decide +kernel
theorem dX10_advance_90 : decode cX10_advance 90 = .ok (.invokevirtual 75, 3) := by decide +kernel
theorem dX10_advance_93 : decode cX10_advance 93 = .ok (.bipush 97, 2) := by decide +kernel
theorem dX10_advance_95 : decode cX10_advance 95 = .ok (.bipush 122, 2) := by decide +kernel
theorem dX10_advance_97 : decode cX10_advance 97 = .ok (.invokestatic 88, 3) := by decide +kernel
theorem dX10_advance_100 : decode cX10_advance 100 = .ok (.ifCond .eq 16, 3) := by decide +kernel
theorem dX10_advance_103 : decode cX10_advance 103 = .ok (.aload_n 0, 1) := by decide +kernel
theorem dX10_advance_104 : decode cX10_advance 104 = .ok (.dup, 1) := by decide +kernel
theorem dX10_advance_105 : decode cX10_advance 105 = .ok (.getfield 72, 3) := by decide +kernel
theorem dX10_advance_108 : decode cX10_advance 108 = .ok (.iconst 1, 1) := by decide +kernel
theorem dX10_advance_109 : decode cX10_advance 109 = .ok (.iadd, 1) := by decide +kernel
theorem dX10_advance_110 : decode cX10_advance 110 = .ok (.putfield 72, 3) := by decide +kernel
theorem dX10_advance_113 : decode cX10_advance 113 = .ok (.goto (-28), 3) := by decide +kernel
theorem dX10_advance_116 : decode cX10_advance 116 = .ok (.aload_n 0, 1) := by decide +kernel
theorem dX10_advance_117 : decode cX10_advance 117 = .ok (.aload_n 0, 1) := by decide +kernel
theorem dX10_advance_118 : decode cX10_advance 118 = .ok (.getfield 72, 3) := by decide +kernel
theorem dX10_advance_121 : decode cX10_advance 121 = .ok (.aload_n 0, 1) := by decide +kernel
theorem dX10_advance_122 : decode cX10_advance 122 = .ok (.getfield 79, 3) := by decide +kernel
theorem dX10_advance_125 : decode cX10_advance 125 = .ok (.isub, 1) := by decide +kernel
theorem dX10_advance_126 : decode cX10_advance 126 = .ok (.bipush 12, 2) := by decide +kernel
theorem dX10_advance_128 : decode cX10_advance 128 = .ok (.if_icmp .le 7, 3) := by decide +kernel
theorem dX10_advance_131 : decode cX10_advance 131 = .ok (.iconst 4, 1) := by decide +kernel
theorem dX10_advance_132 : decode cX10_advance 132 = .ok (.goto 4, 3) := by decide +kernel
theorem dX10_advance_135 : decode cX10_advance 135 = .ok (.iconst 1, 1) := by decide +kernel
theorem dX10_advance_136 : decode cX10_advance 136 = .ok (.putfield 85, 3) := by decide +kernel
theorem dX10_advance_139 : decode cX10_advance 139 = .ok (.goto 138, 3) := by decide +kernel
theorem dX10_advance_142 : decode cX10_advance 142 = .ok (.iload_n 1, 1) := by decide +kernel
theorem dX10_advance_143 : decode cX10_advance 143 = .ok (.bipush 48, 2) := by decide +kernel
theorem dX10_advance_145 : decode cX10_advance 145 = .ok (.bipush 57, 2) := by decide +kernel
theorem dX10_advance_147 : decode cX10_advance 147 = .ok (.invokestatic 88, 3) := by decide +kernel
theorem dX10_advance_150 : decode cX10_advance 150 = .ok (.ifCond .eq 102, 3) := by decide +kernel
theorem dX10_advance_153 : decode cX10_advance 153 = .ok (.aload_n 0, 1) := by decide +kernel
theorem dX10_advance_154 : decode cX10_advance 154 = .ok (.aload_n 0, 1) := by decide +kernel
theorem dX10_advance_155 : decode cX10_advance 155 = .ok (.getfield 72, 3) := by decide +kernel
theorem dX10_advance_158 : decode cX10_advance 158 = .ok (.invokevirtual 75, 3) := by decide +kernel
theorem dX10_advance_161 : decode cX10_advance 161 = .ok (.bipush 48, 2) := by decide +kernel
theorem dX10_advance_163 : decode cX10_advance 163 = .ok (.bipush 57, 2) := by decide +kernel
theorem dX10_advance_165 : decode cX10_advance 165 = .ok (.invokestatic 88, 3) := by decide +kernel
theorem dX10_advance_168 : decode cX10_advance 168 = .ok (.ifCond .eq 59, 3) := by decide +kernel
theorem dX10_advance_171 : decode cX10_advance 171 = .ok (.aload_n 0, 1) := by decide +kernel
theorem dX10_advance_172 : decode cX10_advance 172 = .ok (.aload_n 0, 1) := by decide +kernel
theorem dX10_advance_173 : decode cX10_advance 173 = .ok (.getfield 72, 3) := by decide +kernel
theorem dX10_advance_176 : decode cX10_advance 176 = .ok (.aload_n 0, 1) := by decide +kernel
theorem dX10_advance_177 : decode cX10_advance 177 = .ok (.getfield 79, 3) := by decide +kernel
theorem dX10_advance_180 : decode cX10_advance 180 = .ok (.isub, 1) := by decide +kernel
theorem dX10_advance_181 : decode cX10_advance 181 = .ok (.iconst 4, 1) := by decide +kernel
theorem dX10_advance_182 : decode cX10_advance 182 = .ok (.if_icmp .ge 25, 3) := by decide +kernel
theorem dX10_advance_185 : decode cX10_advance 185 = .ok (.bipush 10, 2) := by decide +kernel
theorem dX10_advance_187 : decode cX10_advance 187 = .ok (.aload_n 0, 1) := by decide +kernel
theorem dX10_advance_188 : decode cX10_advance 188 = .ok (.getfield 82, 3) := by decide +kernel
theorem dX10_advance_191 : decode cX10_advance 191 = .ok (.imul, 1) := by decide +kernel
theorem dX10_advance_192 : decode cX10_advance 192 = .ok (.aload_n 0, 1) := by decide +kernel
theorem dX10_advance_193 : decode cX10_advance 193 = .ok (.aload_n 0, 1) := by decide +kernel
theorem dX10_advance_194 : decode cX10_advance 194 = .ok (.getfield 72, 3) := by decide +kernel
theorem dX10_advance_197 : decode cX10_advance 197 = .ok (.invokevirtual 75, 3) := by decide +kernel
theorem dX10_advance_200 : decode cX10_advance 200 = .ok (.iadd, 1) := by decide +kernel
theorem dX10_advance_201 : decode cX10_advance 201 = .ok (.bipush 48, 2) := by decide +kernel
theorem dX10_advance_203 : decode cX10_advance 203 = .ok (.isub, 1) := by decide +kernel
theorem dX10_advance_204 : decode cX10_advance 204 = .ok (.goto 7, 3) := by decide +kernel
theorem dX10_advance_207 : decode cX10_advance 207 = .ok (.aload_n 0, 1) := by decide +kernel
theorem dX10_advance_208 : decode cX10_advance 208 = .ok (.getfield 82, 3) := by decide +kernel
theorem dX10_advance_211 : decode cX10_advance 211 = .ok (.putfield 82, 3) := by decide +kernel
theorem dX10_advance_214 : decode cX10_advance 214 = .ok (.aload_n 0, 1) := by decide +kernel
theorem dX10_advance_215 : decode cX10_advance 215 = .ok (.dup, 1) := by decide +kernel
theorem dX10_advance_216 : decode cX10_advance 216 = .ok (.getfield 72, 3) := by decide +kernel
theorem dX10_advance_219 : decode cX10_advance 219 = .ok (.iconst 1, 1) := by decide +kernel
theorem dX10_advance_220 : decode cX10_advance 220 = .ok (.iadd, 1) := by decide +kernel
theorem dX10_advance_221 : decode cX10_advance 221 = .ok (.putfield 72, 3) := by decide +kernel
theorem dX10_advance_224 : decode cX10_advance 224 = .ok (.goto (-71), 3) := by decide +kernel
theorem dX10_advance_227 : decode cX10_advance 227 = .ok (.aload_n 0, 1) := by decide +kernel
theorem dX10_advance_228 : decode cX10_advance 228 = .ok (.aload_n 0, 1) := by decide +kernel
theorem dX10_advance_229 : decode cX10_advance 229 = .ok (.getfield 72, 3) := by decide +kernel
theorem dX10_advance_232 : decode cX10_advance 232 = .ok (.aload_n 0, 1) := by decide +kernel
theorem dX10_advance_233 : decode cX10_advance 233 = .ok (.getfield 79, 3) := by decide +kernel
theorem dX10_advance_236 : decode cX10_advance 236 = .ok (.isub, 1) := by decide +kernel
theorem dX10_advance_237 : decode cX10_advance 237 = .ok (.iconst 4, 1) := by decide +kernel
theorem dX10_advance_238 : decode cX10_advance 238 = .ok (.if_icmp .le 7, 3) := by decide +kernel
theorem dX10_advance_241 : decode cX10_advance 241 = .ok (.iconst 4, 1) := by decide +kernel
theorem dX10_advance_242 : decode cX10_advance 242 = .ok (.goto 4, 3) := by decide +kernel
theorem dX10_advance_245 : decode cX10_advance 245 = .ok (.iconst 2, 1) := by decide +kernel
theorem dX10_advance_246 : decode cX10_advance 246 = .ok (.putfield 85, 3) := by decide +kernel
theorem dX10_advance_249 : decode cX10_advance 249 = .ok (.goto 28, 3) := by decide +kernel
theorem dX10_advance_252 : decode cX10_advance 252 = .ok (.aload_n 0, 1) := by decide +kernel
theorem dX10_advance_253 : decode cX10_advance 253 = .ok (.dup, 1) := by decide +kernel
theorem dX10_advance_254 : decode cX10_advance 254 = .ok (.getfield 72, 3) := by decide +kernel
theorem dX10_advance_257 : decode cX10_advance 257 = .ok (.iconst 1, 1) := by decide +kernel
theorem dX10_advance_258 : decode cX10_advance 258 = .ok (.iadd, 1) := by decide +kernel
theorem dX10_advance_259 : decode cX10_advance 259 = .ok (.putfield 72, 3) := by decide +kernel
theorem dX10_advance_262 : decode cX10_advance 262 = .ok (.aload_n 0, 1) := by decide +kernel
theorem dX10_advance_263 : decode cX10_advance 263 = .ok (.iload_n 1, 1) := by decide +kernel
theorem dX10_advance_264 : decode cX10_advance 264 = .ok (.bipush 59, 2) := by decide +kernel
theorem dX10_advance_266 : decode cX10_advance 266 = .ok (.if_icmp .ne 7, 3) := by decide +kernel
theorem dX10_advance_269 : decode cX10_advance 269 = .ok (.iconst 3, 1) := by decide +kernel
theorem dX10_advance_270 : decode cX10_advance 270 = .ok (.goto 4, 3) := by decide +kernel
theorem dX10_advance_273 : decode cX10_advance 273 = .ok (.iconst 4, 1) := by decide +kernel
theorem dX10_advance_274 : decode cX10_advance 274 = .ok (.putfield 85, 3) := by decide +kernel
theorem dX10_advance_277 : decode cX10_advance 277 = .ok (.return_, 1) := by decide +kernel
theorem dX10_isWord_0 : decode cX10_isWord 0 = .ok (.aload_n 0, 1) := by decide +kernel
theorem dX10_isWord_1 : decode cX10_isWord 1 = .ok (.getfield 85, 3) := by decide +kernel
theorem dX10_isWord_4 : decode cX10_isWord 4 = .ok (.iconst 1, 1) := by decide +kernel
theorem dX10_isWord_5 : decode cX10_isWord 5 = .ok (.if_icmp .ne 23, 3) := by decide +kernel
theorem dX10_isWord_8 : decode cX10_isWord 8 = .ok (.aload_n 0, 1) := by decide +kernel
theorem dX10_isWord_9 : decode cX10_isWord 9 = .ok (.getfield 72, 3) := by decide +kernel
theorem dX10_isWord_12 : decode cX10_isWord 12 = .ok (.aload_n 0, 1) := by decide +kernel
theorem dX10_isWord_13 : decode cX10_isWord 13 = .ok (.getfield 79, 3) := by decide +kernel
theorem dX10_isWord_16 : decode cX10_isWord 16 = .ok (.isub, 1) := by decide +kernel
theorem dX10_isWord_17 : decode cX10_isWord 17 = .ok (.aload_n 1, 1) := by decide +kernel
theorem dX10_isWord_18 : decode cX10_isWord 18 = .ok (.invokevirtual 92, 3) := by decide +kernel
theorem dX10_isWord_21 : decode cX10_isWord 21 = .ok (.if_icmp .ne 7, 3) := by decide +kernel
theorem dX10_isWord_24 : decode cX10_isWord 24 = .ok (.iconst 1, 1) := by decide +kernel
theorem dX10_isWord_25 : decode cX10_isWord 25 = .ok (.goto 4, 3) := by decide +kernel
theorem dX10_isWord_28 : decode cX10_isWord 28 = .ok (.iconst 0, 1) := by decide +kernel
theorem dX10_isWord_29 : decode cX10_isWord 29 = .ok (.istore_n 2, 1) := by decide +kernel
theorem dX10_isWord_30 : decode cX10_isWord 30 = .ok (.iconst 0, 1) := by decide +kernel
theorem dX10_isWord_31 : decode cX10_isWord 31 = .ok (.istore_n 3, 1) := by decide +kernel
theorem dX10_isWord_32 : decode cX10_isWord 32 = .ok (.iload_n 3, 1) := by decide +kernel
theorem dX10_isWord_33 : decode cX10_isWord 33 = .ok (.aload_n 1, 1) := by decide +kernel
theorem dX10_isWord_34 : decode cX10_isWord 34 = .ok (.invokevirtual 92, 3) := by decide +kernel
theorem dX10_isWord_37 : decode cX10_isWord 37 = .ok (.if_icmp .ge 38, 3) := by decide +kernel
theorem dX10_isWord_40 : decode cX10_isWord 40 = .ok (.iload_n 2, 1) := by decide +kernel
theorem dX10_isWord_41 : decode cX10_isWord 41 = .ok (.ifCond .eq 34, 3) := by decide +kernel
theorem dX10_isWord_44 : decode cX10_isWord 44 = .ok (.aload_n 0, 1) := by decide +kernel
theorem dX10_isWord_45 : decode cX10_isWord 45 = .ok (.getfield 23, 3) := by decide +kernel
theorem dX10_isWord_48 : decode cX10_isWord 48 = .ok (.aload_n 0, 1) := by decide +kernel
theorem dX10_isWord_49 : decode cX10_isWord 49 = .ok (.getfield 79, 3) := by decide +kernel
theorem dX10_isWord_52 : decode cX10_isWord 52 = .ok (.iload_n 3, 1) := by decide +kernel
theorem dX10_isWord_53 : decode cX10_isWord 53 = .ok (.iadd, 1) := by decide +kernel
theorem dX10_isWord_54 : decode cX10_isWord 54 = .ok (.baload, 1) := by decide +kernel
theorem dX10_isWord_55 : decode cX10_isWord 55 = .ok (.aload_n 1, 1) := by decide +kernel
theorem dX10_isWord_56 : decode cX10_isWord 56 = .ok (.iload_n 3, 1) := by decide +kernel
theorem dX10_isWord_57 : decode cX10_isWord 57 = .ok (.invokevirtual 97, 3) := by decide +kernel
theorem dX10_isWord_60 : decode cX10_isWord 60 = .ok (.if_icmp .ne 7, 3) := by decide +kernel
theorem dX10_isWord_63 : decode cX10_isWord 63 = .ok (.iconst 1, 1) := by decide +kernel
theorem dX10_isWord_64 : decode cX10_isWord 64 = .ok (.goto 4, 3) := by decide +kernel
theorem dX10_isWord_67 : decode cX10_isWord 67 = .ok (.iconst 0, 1) := by decide +kernel
theorem dX10_isWord_68 : decode cX10_isWord 68 = .ok (.istore_n 2, 1) := by decide +kernel
theorem dX10_isWord_69 : decode cX10_isWord 69 = .ok (.iinc 3 1, 3) := by decide +kernel
theorem dX10_isWord_72 : decode cX10_isWord 72 = .ok (.goto (-40), 3) := by decide +kernel
theorem dX10_isWord_75 : decode cX10_isWord 75 = .ok (.iload_n 2, 1) := by decide +kernel
theorem dX10_isWord_76 : decode cX10_isWord 76 = .ok (.ireturn, 1) := by decide +kernel
theorem dX10_fails_0 : decode cX10_fails 0 = .ok (.aload_n 0, 1) := by decide +kernel
theorem dX10_fails_1 : decode cX10_fails 1 = .ok (.getfield 101, 3) := by decide +kernel
theorem dX10_fails_4 : decode cX10_fails 4 = .ok (.ifCond .ne 16, 3) := by decide +kernel
theorem dX10_fails_7 : decode cX10_fails 7 = .ok (.aload_n 0, 1) := by decide +kernel
theorem dX10_fails_8 : decode cX10_fails 8 = .ok (.iload_n 1, 1) := by decide +kernel
theorem dX10_fails_9 : decode cX10_fails 9 = .ok (.putfield 101, 3) := by decide +kernel
theorem dX10_fails_12 : decode cX10_fails 12 = .ok (.aload_n 0, 1) := by decide +kernel
theorem dX10_fails_13 : decode cX10_fails 13 = .ok (.aload_n 0, 1) := by decide +kernel
theorem dX10_fails_14 : decode cX10_fails 14 = .ok (.getfield 79, 3) := by decide +kernel
theorem dX10_fails_17 : decode cX10_fails 17 = .ok (.putfield 27, 3) := by decide +kernel
theorem dX10_fails_20 : decode cX10_fails 20 = .ok (.iconst 0, 1) := by decide +kernel
theorem dX10_fails_21 : decode cX10_fails 21 = .ok (.ireturn, 1) := by decide +kernel
theorem dX10_starts_0 : decode cX10_starts 0 = .ok (.iload_n 2, 1) := by decide +kernel
theorem dX10_starts_1 : decode cX10_starts 1 = .ok (.ifCond .ne 9, 3) := by decide +kernel
theorem dX10_starts_4 : decode cX10_starts 4 = .ok (.aload_n 0, 1) := by decide +kernel
theorem dX10_starts_5 : decode cX10_starts 5 = .ok (.iload_n 1, 1) := by decide +kernel
theorem dX10_starts_6 : decode cX10_starts 6 = .ok (.invokevirtual 104, 3) := by decide +kernel
theorem dX10_starts_9 : decode cX10_starts 9 = .ok (.ireturn, 1) := by decide +kernel
theorem dX10_starts_10 : decode cX10_starts 10 = .ok (.aload_n 0, 1) := by decide +kernel
theorem dX10_starts_11 : decode cX10_starts 11 = .ok (.invokevirtual 108, 3) := by decide +kernel
theorem dX10_starts_14 : decode cX10_starts 14 = .ok (.iconst 1, 1) := by decide +kernel
theorem dX10_starts_15 : decode cX10_starts 15 = .ok (.ireturn, 1) := by decide +kernel
theorem dX10_takes_0 : decode cX10_takes 0 = .ok (.aload_n 0, 1) := by decide +kernel
theorem dX10_takes_1 : decode cX10_takes 1 = .ok (.getfield 85, 3) := by decide +kernel
theorem dX10_takes_4 : decode cX10_takes 4 = .ok (.iconst 2, 1) := by decide +kernel
theorem dX10_takes_5 : decode cX10_takes 5 = .ok (.if_icmp .eq 9, 3) := by decide +kernel
theorem dX10_takes_8 : decode cX10_takes 8 = .ok (.aload_n 0, 1) := by decide +kernel
theorem dX10_takes_9 : decode cX10_takes 9 = .ok (.iconst 1, 1) := by decide +kernel
theorem dX10_takes_10 : decode cX10_takes 10 = .ok (.invokevirtual 104, 3) := by decide +kernel
theorem dX10_takes_13 : decode cX10_takes 13 = .ok (.ireturn, 1) := by decide +kernel
theorem dX10_takes_14 : decode cX10_takes 14 = .ok (.aload_n 0, 1) := by decide +kernel
theorem dX10_takes_15 : decode cX10_takes 15 = .ok (.getfield 82, 3) := by decide +kernel
theorem dX10_takes_18 : decode cX10_takes 18 = .ok (.iload_n 1, 1) := by decide +kernel
theorem dX10_takes_19 : decode cX10_takes 19 = .ok (.iload_n 2, 1) := by decide +kernel
theorem dX10_takes_20 : decode cX10_takes 20 = .ok (.invokestatic 88, 3) := by decide +kernel
theorem dX10_takes_23 : decode cX10_takes 23 = .ok (.ifCond .ne 9, 3) := by decide +kernel
theorem dX10_takes_26 : decode cX10_takes 26 = .ok (.aload_n 0, 1) := by decide +kernel
theorem dX10_takes_27 : decode cX10_takes 27 = .ok (.iconst 3, 1) := by decide +kernel
theorem dX10_takes_28 : decode cX10_takes 28 = .ok (.invokevirtual 104, 3) := by decide +kernel
theorem dX10_takes_31 : decode cX10_takes 31 = .ok (.ireturn, 1) := by decide +kernel
theorem dX10_takes_32 : decode cX10_takes 32 = .ok (.aload_n 0, 1) := by decide +kernel
theorem dX10_takes_33 : decode cX10_takes 33 = .ok (.aload_n 0, 1) := by decide +kernel
theorem dX10_takes_34 : decode cX10_takes 34 = .ok (.getfield 82, 3) := by decide +kernel
theorem dX10_takes_37 : decode cX10_takes 37 = .ok (.putfield 111, 3) := by decide +kernel
theorem dX10_takes_40 : decode cX10_takes 40 = .ok (.aload_n 0, 1) := by decide +kernel
theorem dX10_takes_41 : decode cX10_takes 41 = .ok (.invokevirtual 108, 3) := by decide +kernel
theorem dX10_takes_44 : decode cX10_takes 44 = .ok (.iconst 1, 1) := by decide +kernel
theorem dX10_takes_45 : decode cX10_takes 45 = .ok (.ireturn, 1) := by decide +kernel
theorem dX10_lays_0 : decode cX10_lays 0 = .ok (.aload_n 0, 1) := by decide +kernel
theorem dX10_lays_1 : decode cX10_lays 1 = .ok (.iload_n 2, 1) := by decide +kernel
theorem dX10_lays_2 : decode cX10_lays 2 = .ok (.iload_n 3, 1) := by decide +kernel
theorem dX10_lays_3 : decode cX10_lays 3 = .ok (.invokevirtual 114, 3) := by decide +kernel
theorem dX10_lays_6 : decode cX10_lays 6 = .ok (.ifCond .ne 5, 3) := by decide +kernel
theorem dX10_lays_9 : decode cX10_lays 9 = .ok (.iconst 0, 1) := by decide +kernel
theorem dX10_lays_10 : decode cX10_lays 10 = .ok (.ireturn, 1) := by decide +kernel
theorem dX10_lays_11 : decode cX10_lays 11 = .ok (.aload_n 0, 1) := by decide +kernel
theorem dX10_lays_12 : decode cX10_lays 12 = .ok (.getfield 7, 3) := by decide +kernel
theorem dX10_lays_15 : decode cX10_lays 15 = .ok (.iload_n 1, 1) := by decide +kernel
theorem dX10_lays_16 : decode cX10_lays 16 = .ok (.aload_n 0, 1) := by decide +kernel
theorem dX10_lays_17 : decode cX10_lays 17 = .ok (.getfield 111, 3) := by decide +kernel
theorem dX10_lays_20 : decode cX10_lays 20 = .ok (.iastore, 1) := by decide +kernel
theorem dX10_lays_21 : decode cX10_lays 21 = .ok (.iconst 1, 1) := by decide +kernel
theorem dX10_lays_22 : decode cX10_lays 22 = .ok (.ireturn, 1) := by decide +kernel
theorem dX10_closes_0 : decode cX10_closes 0 = .ok (.aload_n 0, 1) := by decide +kernel
theorem dX10_closes_1 : decode cX10_closes 1 = .ok (.iconst 1, 1) := by decide +kernel
theorem dX10_closes_2 : decode cX10_closes 2 = .ok (.aload_n 0, 1) := by decide +kernel
theorem dX10_closes_3 : decode cX10_closes 3 = .ok (.getfield 85, 3) := by decide +kernel
theorem dX10_closes_6 : decode cX10_closes 6 = .ok (.iconst 3, 1) := by decide +kernel
theorem dX10_closes_7 : decode cX10_closes 7 = .ok (.if_icmp .ne 7, 3) := by decide +kernel
theorem dX10_closes_10 : decode cX10_closes 10 = .ok (.iconst 1, 1) := by decide +kernel
theorem dX10_closes_11 : decode cX10_closes 11 = .ok (.goto 4, 3) := by decide +kernel
theorem dX10_closes_14 : decode cX10_closes 14 = .ok (.iconst 0, 1) := by decide +kernel
theorem dX10_closes_15 : decode cX10_closes 15 = .ok (.invokevirtual 118, 3) := by decide +kernel
theorem dX10_closes_18 : decode cX10_closes 18 = .ok (.ireturn, 1) := by decide +kernel
theorem dX10_spellsToken_0 : decode cX10_spellsToken 0 = .ok (.aload_n 0, 1) := by decide +kernel
theorem dX10_spellsToken_1 : decode cX10_spellsToken 1 = .ok (.aload_n 0, 1) := by decide +kernel
theorem dX10_spellsToken_2 : decode cX10_spellsToken 2 = .ok (.getfield 72, 3) := by decide +kernel
theorem dX10_spellsToken_5 : decode cX10_spellsToken 5 = .ok (.aload_n 0, 1) := by decide +kernel
theorem dX10_spellsToken_6 : decode cX10_spellsToken 6 = .ok (.getfield 79, 3) := by decide +kernel
theorem dX10_spellsToken_9 : decode cX10_spellsToken 9 = .ok (.isub, 1) := by decide +kernel
theorem dX10_spellsToken_10 : decode cX10_spellsToken 10 = .ok (.putfield 122, 3) := by decide +kernel
theorem dX10_spellsToken_13 : decode cX10_spellsToken 13 = .ok (.iconst 0, 1) := by decide +kernel
theorem dX10_spellsToken_14 : decode cX10_spellsToken 14 = .ok (.istore_n 1, 1) := by decide +kernel
theorem dX10_spellsToken_15 : decode cX10_spellsToken 15 = .ok (.iload_n 1, 1) := by decide +kernel
theorem dX10_spellsToken_16 : decode cX10_spellsToken 16 = .ok (.aload_n 0, 1) := by decide +kernel
theorem dX10_spellsToken_17 : decode cX10_spellsToken 17 = .ok (.getfield 122, 3) := by decide +kernel
theorem dX10_spellsToken_20 : decode cX10_spellsToken 20 = .ok (.if_icmp .ge 29, 3) := by decide +kernel
theorem dX10_spellsToken_23 : decode cX10_spellsToken 23 = .ok (.aload_n 0, 1) := by decide +kernel
theorem dX10_spellsToken_24 : decode cX10_spellsToken 24 = .ok (.getfield 31, 3) := by decide +kernel
theorem dX10_spellsToken_27 : decode cX10_spellsToken 27 = .ok (.iload_n 1, 1) := by decide +kernel
theorem dX10_spellsToken_28 : decode cX10_spellsToken 28 = .ok (.aload_n 0, 1) := by decide +kernel
theorem dX10_spellsToken_29 : decode cX10_spellsToken 29 = .ok (.getfield 23, 3) := by decide +kernel
theorem dX10_spellsToken_32 : decode cX10_spellsToken 32 = .ok (.aload_n 0, 1) := by decide +kernel
theorem dX10_spellsToken_33 : decode cX10_spellsToken 33 = .ok (.getfield 79, 3) := by decide +kernel
theorem dX10_spellsToken_36 : decode cX10_spellsToken 36 = .ok (.iload_n 1, 1) := by decide +kernel
theorem dX10_spellsToken_37 : decode cX10_spellsToken 37 = .ok (.iadd, 1) := by decide +kernel
theorem dX10_spellsToken_38 : decode cX10_spellsToken 38 = .ok (.baload, 1) := by decide +kernel
theorem dX10_spellsToken_39 : decode cX10_spellsToken 39 = .ok (.bipush 96, 2) := by decide +kernel
theorem dX10_spellsToken_41 : decode cX10_spellsToken 41 = .ok (.isub, 1) := by decide +kernel
theorem dX10_spellsToken_42 : decode cX10_spellsToken 42 = .ok (.iastore, 1) := by decide +kernel
theorem dX10_spellsToken_43 : decode cX10_spellsToken 43 = .ok (.iinc 1 1, 3) := by decide +kernel
theorem dX10_spellsToken_46 : decode cX10_spellsToken 46 = .ok (.goto (-31), 3) := by decide +kernel
theorem dX10_spellsToken_49 : decode cX10_spellsToken 49 = .ok (.return_, 1) := by decide +kernel
theorem dX10_name_0 : decode cX10_name 0 = .ok (.lconst 0, 1) := by decide +kernel
theorem dX10_name_1 : decode cX10_name 1 = .ok (.lstore_n 1, 1) := by decide +kernel
theorem dX10_name_2 : decode cX10_name 2 = .ok (.iconst 0, 1) := by decide +kernel
theorem dX10_name_3 : decode cX10_name 3 = .ok (.istore_n 3, 1) := by decide +kernel
theorem dX10_name_4 : decode cX10_name 4 = .ok (.iload_n 3, 1) := by decide +kernel
theorem dX10_name_5 : decode cX10_name 5 = .ok (.aload_n 0, 1) := by decide +kernel
theorem dX10_name_6 : decode cX10_name 6 = .ok (.getfield 122, 3) := by decide +kernel
theorem dX10_name_9 : decode cX10_name 9 = .ok (.if_icmp .ge 21, 3) := by decide +kernel
theorem dX10_name_12 : decode cX10_name 12 = .ok (.lload_n 1, 1) := by decide +kernel
theorem dX10_name_13 : decode cX10_name 13 = .ok (.iconst 5, 1) := by decide +kernel
theorem dX10_name_14 : decode cX10_name 14 = .ok (.lshl, 1) := by decide +kernel
theorem dX10_name_15 : decode cX10_name 15 = .ok (.aload_n 0, 1) := by decide +kernel
theorem dX10_name_16 : decode cX10_name 16 = .ok (.getfield 31, 3) := by decide +kernel
theorem dX10_name_19 : decode cX10_name 19 = .ok (.iload_n 3, 1) := by decide +kernel
theorem dX10_name_20 : decode cX10_name 20 = .ok (.iaload, 1) := by decide +kernel
theorem dX10_name_21 : decode cX10_name 21 = .ok (.i2l, 1) := by decide +kernel
theorem dX10_name_22 : decode cX10_name 22 = .ok (.lor, 1) := by decide +kernel
theorem dX10_name_23 : decode cX10_name 23 = .ok (.lstore_n 1, 1) := by decide +kernel
theorem dX10_name_24 : decode cX10_name 24 = .ok (.iinc 3 1, 3) := by decide +kernel
theorem dX10_name_27 : decode cX10_name 27 = .ok (.goto (-23), 3) := by decide +kernel
theorem dX10_name_30 : decode cX10_name 30 = .ok (.lload_n 1, 1) := by decide +kernel
theorem dX10_name_31 : decode cX10_name 31 = .ok (.lreturn, 1) := by decide +kernel
theorem dX10_userNamed_0 : decode cX10_userNamed 0 = .ok (.aload_n 0, 1) := by decide +kernel
theorem dX10_userNamed_1 : decode cX10_userNamed 1 = .ok (.invokevirtual 125, 3) := by decide +kernel
theorem dX10_userNamed_4 : decode cX10_userNamed 4 = .ok (.lstore_n 1, 1) := by decide +kernel
theorem dX10_userNamed_5 : decode cX10_userNamed 5 = .ok (.iconst 0, 1) := by decide +kernel
theorem dX10_userNamed_6 : decode cX10_userNamed 6 = .ok (.istore_n 3, 1) := by decide +kernel
theorem dX10_userNamed_7 : decode cX10_userNamed 7 = .ok (.iload_n 3, 1) := by decide +kernel
theorem dX10_userNamed_8 : decode cX10_userNamed 8 = .ok (.aload_n 0, 1) := by decide +kernel
theorem dX10_userNamed_9 : decode cX10_userNamed 9 = .ok (.getfield 7, 3) := by decide +kernel
theorem dX10_userNamed_12 : decode cX10_userNamed 12 = .ok (.iconst 5, 1) := by decide +kernel
theorem dX10_userNamed_13 : decode cX10_userNamed 13 = .ok (.iaload, 1) := by decide +kernel
theorem dX10_userNamed_14 : decode cX10_userNamed 14 = .ok (.if_icmp .ge 22, 3) := by decide +kernel
theorem dX10_userNamed_17 : decode cX10_userNamed 17 = .ok (.aload_n 0, 1) := by decide +kernel
theorem dX10_userNamed_18 : decode cX10_userNamed 18 = .ok (.getfield 16, 3) := by decide +kernel
theorem dX10_userNamed_21 : decode cX10_userNamed 21 = .ok (.iload_n 3, 1) := by decide +kernel
theorem dX10_userNamed_22 : decode cX10_userNamed 22 = .ok (.laload, 1) := by decide +kernel
theorem dX10_userNamed_23 : decode cX10_userNamed 23 = .ok (.lload_n 1, 1) := by decide +kernel
theorem dX10_userNamed_24 : decode cX10_userNamed 24 = .ok (.lcmp, 1) := by decide +kernel
theorem dX10_userNamed_25 : decode cX10_userNamed 25 = .ok (.ifCond .ne 5, 3) := by decide +kernel
theorem dX10_userNamed_28 : decode cX10_userNamed 28 = .ok (.iload_n 3, 1) := by decide +kernel
theorem dX10_userNamed_29 : decode cX10_userNamed 29 = .ok (.ireturn, 1) := by decide +kernel
theorem dX10_userNamed_30 : decode cX10_userNamed 30 = .ok (.iinc 3 1, 3) := by decide +kernel
theorem dX10_userNamed_33 : decode cX10_userNamed 33 = .ok (.goto (-26), 3) := by decide +kernel
theorem dX10_userNamed_36 : decode cX10_userNamed 36 = .ok (.iconst (-1), 1) := by decide +kernel
theorem dX10_userNamed_37 : decode cX10_userNamed 37 = .ok (.ireturn, 1) := by decide +kernel
theorem dX10_spells_0 : decode cX10_spells 0 = .ok (.aload_n 0, 1) := by decide +kernel
theorem dX10_spells_1 : decode cX10_spells 1 = .ok (.getfield 85, 3) := by decide +kernel
theorem dX10_spells_4 : decode cX10_spells 4 = .ok (.iconst 1, 1) := by decide +kernel
theorem dX10_spells_5 : decode cX10_spells 5 = .ok (.if_icmp .eq 9, 3) := by decide +kernel
theorem dX10_spells_8 : decode cX10_spells 8 = .ok (.aload_n 0, 1) := by decide +kernel
theorem dX10_spells_9 : decode cX10_spells 9 = .ok (.iconst 1, 1) := by decide +kernel
theorem dX10_spells_10 : decode cX10_spells 10 = .ok (.invokevirtual 104, 3) := by decide +kernel
theorem dX10_spells_13 : decode cX10_spells 13 = .ok (.ireturn, 1) := by decide +kernel
theorem dX10_spells_14 : decode cX10_spells 14 = .ok (.aload_n 0, 1) := by decide +kernel
theorem dX10_spells_15 : decode cX10_spells 15 = .ok (.invokevirtual 129, 3) := by decide +kernel
theorem dX10_spells_18 : decode cX10_spells 18 = .ok (.iconst 1, 1) := by decide +kernel
theorem dX10_spells_19 : decode cX10_spells 19 = .ok (.ireturn, 1) := by decide +kernel
theorem dX10_userLine_0 : decode cX10_userLine 0 = .ok (.aload_n 0, 1) := by decide +kernel
theorem dX10_userLine_1 : decode cX10_userLine 1 = .ok (.getfield 7, 3) := by decide +kernel
theorem dX10_userLine_4 : decode cX10_userLine 4 = .ok (.iconst 5, 1) := by decide +kernel
theorem dX10_userLine_5 : decode cX10_userLine 5 = .ok (.iaload, 1) := by decide +kernel
theorem dX10_userLine_6 : decode cX10_userLine 6 = .ok (.istore_n 1, 1) := by decide +kernel
theorem dX10_userLine_7 : decode cX10_userLine 7 = .ok (.aload_n 0, 1) := by decide +kernel
theorem dX10_userLine_8 : decode cX10_userLine 8 = .ok (.iconst 5, 1) := by decide +kernel
theorem dX10_userLine_9 : decode cX10_userLine 9 = .ok (.iload_n 1, 1) := by decide +kernel
theorem dX10_userLine_10 : decode cX10_userLine 10 = .ok (.iconst 4, 1) := by decide +kernel
theorem dX10_userLine_11 : decode cX10_userLine 11 = .ok (.if_icmp .ge 7, 3) := by decide +kernel
theorem dX10_userLine_14 : decode cX10_userLine 14 = .ok (.iconst 1, 1) := by decide +kernel
theorem dX10_userLine_15 : decode cX10_userLine 15 = .ok (.goto 4, 3) := by decide +kernel
theorem dX10_userLine_18 : decode cX10_userLine 18 = .ok (.iconst 0, 1) := by decide +kernel
theorem dX10_userLine_19 : decode cX10_userLine 19 = .ok (.invokevirtual 118, 3) := by decide +kernel
theorem dX10_userLine_22 : decode cX10_userLine 22 = .ok (.ifCond .eq 10, 3) := by decide +kernel
theorem dX10_userLine_25 : decode cX10_userLine 25 = .ok (.aload_n 0, 1) := by decide +kernel
theorem dX10_userLine_26 : decode cX10_userLine 26 = .ok (.invokevirtual 132, 3) := by decide +kernel
theorem dX10_userLine_29 : decode cX10_userLine 29 = .ok (.ifCond .ne 5, 3) := by decide +kernel
theorem dX10_userLine_32 : decode cX10_userLine 32 = .ok (.iconst 0, 1) := by decide +kernel
theorem dX10_userLine_33 : decode cX10_userLine 33 = .ok (.ireturn, 1) := by decide +kernel
theorem dX10_userLine_34 : decode cX10_userLine 34 = .ok (.aload_n 0, 1) := by decide +kernel
theorem dX10_userLine_35 : decode cX10_userLine 35 = .ok (.invokevirtual 125, 3) := by decide +kernel
theorem dX10_userLine_38 : decode cX10_userLine 38 = .ok (.lstore_n 2, 1) := by decide +kernel
theorem dX10_userLine_39 : decode cX10_userLine 39 = .ok (.aload_n 0, 1) := by decide +kernel
theorem dX10_userLine_40 : decode cX10_userLine 40 = .ok (.iconst 2, 1) := by decide +kernel
theorem dX10_userLine_41 : decode cX10_userLine 41 = .ok (.aload_n 0, 1) := by decide +kernel
theorem dX10_userLine_42 : decode cX10_userLine 42 = .ok (.invokevirtual 136, 3) := by decide +kernel
theorem dX10_userLine_45 : decode cX10_userLine 45 = .ok (.iconst (-1), 1) := by decide +kernel
theorem dX10_userLine_46 : decode cX10_userLine 46 = .ok (.if_icmp .ne 7, 3) := by decide +kernel
theorem dX10_userLine_49 : decode cX10_userLine 49 = .ok (.iconst 1, 1) := by decide +kernel
theorem dX10_userLine_50 : decode cX10_userLine 50 = .ok (.goto 4, 3) := by decide +kernel
theorem dX10_userLine_53 : decode cX10_userLine 53 = .ok (.iconst 0, 1) := by decide +kernel
theorem dX10_userLine_54 : decode cX10_userLine 54 = .ok (.invokevirtual 118, 3) := by decide +kernel
theorem dX10_userLine_57 : decode cX10_userLine 57 = .ok (.ifCond .eq 18, 3) := by decide +kernel
theorem dX10_userLine_60 : decode cX10_userLine 60 = .ok (.aload_n 0, 1) := by decide +kernel
theorem dX10_userLine_61 : decode cX10_userLine 61 = .ok (.bipush 17, 2) := by decide +kernel
theorem dX10_userLine_63 : decode cX10_userLine 63 = .ok (.iload_n 1, 1) := by decide +kernel
theorem dX10_userLine_64 : decode cX10_userLine 64 = .ok (.iadd, 1) := by decide +kernel
theorem dX10_userLine_65 : decode cX10_userLine 65 = .ok (.iconst 0, 1) := by decide +kernel
theorem dX10_userLine_66 : decode cX10_userLine 66 = .ok (.sipush 9999, 3) := by decide +kernel
theorem dX10_userLine_69 : decode cX10_userLine 69 = .ok (.invokevirtual 139, 3) := by decide +kernel
theorem dX10_userLine_72 : decode cX10_userLine 72 = .ok (.ifCond .ne 5, 3) := by decide +kernel
theorem dX10_userLine_75 : decode cX10_userLine 75 = .ok (.iconst 0, 1) := by decide +kernel
theorem dX10_userLine_76 : decode cX10_userLine 76 = .ok (.ireturn, 1) := by decide +kernel
theorem dX10_userLine_77 : decode cX10_userLine 77 = .ok (.aload_n 0, 1) := by decide +kernel
theorem dX10_userLine_78 : decode cX10_userLine 78 = .ok (.getfield 16, 3) := by decide +kernel
theorem dX10_userLine_81 : decode cX10_userLine 81 = .ok (.iload_n 1, 1) := by decide +kernel
theorem dX10_userLine_82 : decode cX10_userLine 82 = .ok (.lload_n 2, 1) := by decide +kernel
theorem dX10_userLine_83 : decode cX10_userLine 83 = .ok (.lastore, 1) := by decide +kernel
theorem dX10_userLine_84 : decode cX10_userLine 84 = .ok (.aload_n 0, 1) := by decide +kernel
theorem dX10_userLine_85 : decode cX10_userLine 85 = .ok (.getfield 7, 3) := by decide +kernel
theorem dX10_userLine_88 : decode cX10_userLine 88 = .ok (.iconst 5, 1) := by decide +kernel
theorem dX10_userLine_89 : decode cX10_userLine 89 = .ok (.dup2, 1) := by decide +kernel
theorem dX10_userLine_90 : decode cX10_userLine 90 = .ok (.iaload, 1) := by decide +kernel
theorem dX10_userLine_91 : decode cX10_userLine 91 = .ok (.iconst 1, 1) := by decide +kernel
theorem dX10_userLine_92 : decode cX10_userLine 92 = .ok (.iadd, 1) := by decide +kernel
theorem dX10_userLine_93 : decode cX10_userLine 93 = .ok (.iastore, 1) := by decide +kernel
theorem dX10_userLine_94 : decode cX10_userLine 94 = .ok (.iconst 1, 1) := by decide +kernel
theorem dX10_userLine_95 : decode cX10_userLine 95 = .ok (.ireturn, 1) := by decide +kernel
theorem dX10_pieceLine_0 : decode cX10_pieceLine 0 = .ok (.aload_n 0, 1) := by decide +kernel
theorem dX10_pieceLine_1 : decode cX10_pieceLine 1 = .ok (.iconst 5, 1) := by decide +kernel
theorem dX10_pieceLine_2 : decode cX10_pieceLine 2 = .ok (.aload_n 0, 1) := by decide +kernel
theorem dX10_pieceLine_3 : decode cX10_pieceLine 3 = .ok (.getfield 7, 3) := by decide +kernel
theorem dX10_pieceLine_6 : decode cX10_pieceLine 6 = .ok (.bipush 9, 2) := by decide +kernel
theorem dX10_pieceLine_8 : decode cX10_pieceLine 8 = .ok (.iaload, 1) := by decide +kernel
theorem dX10_pieceLine_9 : decode cX10_pieceLine 9 = .ok (.bipush 24, 2) := by decide +kernel
theorem dX10_pieceLine_11 : decode cX10_pieceLine 11 = .ok (.if_icmp .ge 7, 3) := by decide +kernel
theorem dX10_pieceLine_14 : decode cX10_pieceLine 14 = .ok (.iconst 1, 1) := by decide +kernel
theorem dX10_pieceLine_15 : decode cX10_pieceLine 15 = .ok (.goto 4, 3) := by decide +kernel
theorem dX10_pieceLine_18 : decode cX10_pieceLine 18 = .ok (.iconst 0, 1) := by decide +kernel
theorem dX10_pieceLine_19 : decode cX10_pieceLine 19 = .ok (.invokevirtual 118, 3) := by decide +kernel
theorem dX10_pieceLine_22 : decode cX10_pieceLine 22 = .ok (.ifCond .eq 10, 3) := by decide +kernel
theorem dX10_pieceLine_25 : decode cX10_pieceLine 25 = .ok (.aload_n 0, 1) := by decide +kernel
theorem dX10_pieceLine_26 : decode cX10_pieceLine 26 = .ok (.invokevirtual 132, 3) := by decide +kernel
theorem dX10_pieceLine_29 : decode cX10_pieceLine 29 = .ok (.ifCond .ne 5, 3) := by decide +kernel
theorem dX10_pieceLine_32 : decode cX10_pieceLine 32 = .ok (.iconst 0, 1) := by decide +kernel
theorem dX10_pieceLine_33 : decode cX10_pieceLine 33 = .ok (.ireturn, 1) := by decide +kernel
theorem dX10_pieceLine_34 : decode cX10_pieceLine 34 = .ok (.aload_n 0, 1) := by decide +kernel
theorem dX10_pieceLine_35 : decode cX10_pieceLine 35 = .ok (.getfield 122, 3) := by decide +kernel
theorem dX10_pieceLine_38 : decode cX10_pieceLine 38 = .ok (.bipush 6, 2) := by decide +kernel
theorem dX10_pieceLine_40 : decode cX10_pieceLine 40 = .ok (.if_icmp .le 9, 3) := by decide +kernel
theorem dX10_pieceLine_43 : decode cX10_pieceLine 43 = .ok (.aload_n 0, 1) := by decide +kernel
theorem dX10_pieceLine_44 : decode cX10_pieceLine 44 = .ok (.iconst 3, 1) := by decide +kernel
theorem dX10_pieceLine_45 : decode cX10_pieceLine 45 = .ok (.invokevirtual 104, 3) := by decide +kernel
theorem dX10_pieceLine_48 : decode cX10_pieceLine 48 = .ok (.ireturn, 1) := by decide +kernel
theorem dX10_pieceLine_49 : decode cX10_pieceLine 49 = .ok (.aload_n 0, 1) := by decide +kernel
theorem dX10_pieceLine_50 : decode cX10_pieceLine 50 = .ok (.iconst 0, 1) := by decide +kernel
theorem dX10_pieceLine_51 : decode cX10_pieceLine 51 = .ok (.aload_n 0, 1) := by decide +kernel
theorem dX10_pieceLine_52 : decode cX10_pieceLine 52 = .ok (.getfield 122, 3) := by decide +kernel
theorem dX10_pieceLine_55 : decode cX10_pieceLine 55 = .ok (.invokevirtual 142, 3) := by decide +kernel
theorem dX10_pieceLine_58 : decode cX10_pieceLine 58 = .ok (.istore_n 1, 1) := by decide +kernel
theorem dX10_pieceLine_59 : decode cX10_pieceLine 59 = .ok (.aload_n 0, 1) := by decide +kernel
theorem dX10_pieceLine_60 : decode cX10_pieceLine 60 = .ok (.iconst 2, 1) := by decide +kernel
theorem dX10_pieceLine_61 : decode cX10_pieceLine 61 = .ok (.aload_n 0, 1) := by decide +kernel
theorem dX10_pieceLine_62 : decode cX10_pieceLine 62 = .ok (.iload_n 1, 1) := by decide +kernel
theorem dX10_pieceLine_63 : decode cX10_pieceLine 63 = .ok (.invokevirtual 146, 3) := by decide +kernel
theorem dX10_pieceLine_66 : decode cX10_pieceLine 66 = .ok (.iconst (-1), 1) := by decide +kernel
theorem dX10_pieceLine_67 : decode cX10_pieceLine 67 = .ok (.if_icmp .ne 7, 3) := by decide +kernel
theorem dX10_pieceLine_70 : decode cX10_pieceLine 70 = .ok (.iconst 1, 1) := by decide +kernel
theorem dX10_pieceLine_71 : decode cX10_pieceLine 71 = .ok (.goto 4, 3) := by decide +kernel
theorem dX10_pieceLine_74 : decode cX10_pieceLine 74 = .ok (.iconst 0, 1) := by decide +kernel
theorem dX10_pieceLine_75 : decode cX10_pieceLine 75 = .ok (.invokevirtual 118, 3) := by decide +kernel
theorem dX10_pieceLine_78 : decode cX10_pieceLine 78 = .ok (.ifCond .ne 5, 3) := by decide +kernel
theorem dX10_pieceLine_81 : decode cX10_pieceLine 81 = .ok (.iconst 0, 1) := by decide +kernel
theorem dX10_pieceLine_82 : decode cX10_pieceLine 82 = .ok (.ireturn, 1) := by decide +kernel
theorem dX10_pieceLine_83 : decode cX10_pieceLine 83 = .ok (.aload_n 0, 1) := by decide +kernel
theorem dX10_pieceLine_84 : decode cX10_pieceLine 84 = .ok (.iload_n 1, 1) := by decide +kernel
theorem dX10_pieceLine_85 : decode cX10_pieceLine 85 = .ok (.iconst 0, 1) := by decide +kernel
theorem dX10_pieceLine_86 : decode cX10_pieceLine 86 = .ok (.iconst (-1), 1) := by decide +kernel
theorem dX10_pieceLine_87 : decode cX10_pieceLine 87 = .ok (.invokevirtual 149, 3) := by decide +kernel
theorem dX10_pieceLine_90 : decode cX10_pieceLine 90 = .ok (.pop, 1) := by decide +kernel
theorem dX10_pieceLine_91 : decode cX10_pieceLine 91 = .ok (.iconst 1, 1) := by decide +kernel
theorem dX10_pieceLine_92 : decode cX10_pieceLine 92 = .ok (.ireturn, 1) := by decide +kernel
theorem dX10_wordLine_0 : decode cX10_wordLine 0 = .ok (.aload_n 0, 1) := by decide +kernel
theorem dX10_wordLine_1 : decode cX10_wordLine 1 = .ok (.iconst 5, 1) := by decide +kernel
theorem dX10_wordLine_2 : decode cX10_wordLine 2 = .ok (.aload_n 0, 1) := by decide +kernel
theorem dX10_wordLine_3 : decode cX10_wordLine 3 = .ok (.getfield 7, 3) := by decide +kernel
theorem dX10_wordLine_6 : decode cX10_wordLine 6 = .ok (.bipush 10, 2) := by decide +kernel
theorem dX10_wordLine_8 : decode cX10_wordLine 8 = .ok (.iaload, 1) := by decide +kernel
theorem dX10_wordLine_9 : decode cX10_wordLine 9 = .ok (.bipush 16, 2) := by decide +kernel
theorem dX10_wordLine_11 : decode cX10_wordLine 11 = .ok (.if_icmp .ge 7, 3) := by decide +kernel
theorem dX10_wordLine_14 : decode cX10_wordLine 14 = .ok (.iconst 1, 1) := by decide +kernel
theorem dX10_wordLine_15 : decode cX10_wordLine 15 = .ok (.goto 4, 3) := by decide +kernel
theorem dX10_wordLine_18 : decode cX10_wordLine 18 = .ok (.iconst 0, 1) := by decide +kernel
theorem dX10_wordLine_19 : decode cX10_wordLine 19 = .ok (.invokevirtual 118, 3) := by decide +kernel
theorem dX10_wordLine_22 : decode cX10_wordLine 22 = .ok (.ifCond .eq 10, 3) := by decide +kernel
theorem dX10_wordLine_25 : decode cX10_wordLine 25 = .ok (.aload_n 0, 1) := by decide +kernel
theorem dX10_wordLine_26 : decode cX10_wordLine 26 = .ok (.invokevirtual 132, 3) := by decide +kernel
theorem dX10_wordLine_29 : decode cX10_wordLine 29 = .ok (.ifCond .ne 5, 3) := by decide +kernel
theorem dX10_wordLine_32 : decode cX10_wordLine 32 = .ok (.iconst 0, 1) := by decide +kernel
theorem dX10_wordLine_33 : decode cX10_wordLine 33 = .ok (.ireturn, 1) := by decide +kernel
theorem dX10_wordLine_34 : decode cX10_wordLine 34 = .ok (.aload_n 0, 1) := by decide +kernel
theorem dX10_wordLine_35 : decode cX10_wordLine 35 = .ok (.invokevirtual 136, 3) := by decide +kernel
theorem dX10_wordLine_38 : decode cX10_wordLine 38 = .ok (.istore_n 1, 1) := by decide +kernel
theorem dX10_wordLine_39 : decode cX10_wordLine 39 = .ok (.aload_n 0, 1) := by decide +kernel
theorem dX10_wordLine_40 : decode cX10_wordLine 40 = .ok (.iconst 4, 1) := by decide +kernel
theorem dX10_wordLine_41 : decode cX10_wordLine 41 = .ok (.iload_n 1, 1) := by decide +kernel
theorem dX10_wordLine_42 : decode cX10_wordLine 42 = .ok (.iconst (-1), 1) := by decide +kernel
theorem dX10_wordLine_43 : decode cX10_wordLine 43 = .ok (.if_icmp .eq 7, 3) := by decide +kernel
theorem dX10_wordLine_46 : decode cX10_wordLine 46 = .ok (.iconst 1, 1) := by decide +kernel
theorem dX10_wordLine_47 : decode cX10_wordLine 47 = .ok (.goto 4, 3) := by decide +kernel
theorem dX10_wordLine_50 : decode cX10_wordLine 50 = .ok (.iconst 0, 1) := by decide +kernel
theorem dX10_wordLine_51 : decode cX10_wordLine 51 = .ok (.invokevirtual 118, 3) := by decide +kernel
theorem dX10_wordLine_54 : decode cX10_wordLine 54 = .ok (.ifCond .eq 10, 3) := by decide +kernel
theorem dX10_wordLine_57 : decode cX10_wordLine 57 = .ok (.aload_n 0, 1) := by decide +kernel
theorem dX10_wordLine_58 : decode cX10_wordLine 58 = .ok (.invokevirtual 132, 3) := by decide +kernel
theorem dX10_wordLine_61 : decode cX10_wordLine 61 = .ok (.ifCond .ne 5, 3) := by decide +kernel
theorem dX10_wordLine_64 : decode cX10_wordLine 64 = .ok (.iconst 0, 1) := by decide +kernel
theorem dX10_wordLine_65 : decode cX10_wordLine 65 = .ok (.ireturn, 1) := by decide +kernel
theorem dX10_wordLine_66 : decode cX10_wordLine 66 = .ok (.aload_n 0, 1) := by decide +kernel
theorem dX10_wordLine_67 : decode cX10_wordLine 67 = .ok (.invokevirtual 153, 3) := by decide +kernel
theorem dX10_wordLine_70 : decode cX10_wordLine 70 = .ok (.aload_n 0, 1) := by decide +kernel
theorem dX10_wordLine_71 : decode cX10_wordLine 71 = .ok (.bipush 6, 2) := by decide +kernel
theorem dX10_wordLine_73 : decode cX10_wordLine 73 = .ok (.aload_n 0, 1) := by decide +kernel
theorem dX10_wordLine_74 : decode cX10_wordLine 74 = .ok (.iload_n 1, 1) := by decide +kernel
theorem dX10_wordLine_75 : decode cX10_wordLine 75 = .ok (.invokevirtual 156, 3) := by decide +kernel
theorem dX10_wordLine_78 : decode cX10_wordLine 78 = .ok (.ifCond .ne 7, 3) := by decide +kernel
theorem dX10_wordLine_81 : decode cX10_wordLine 81 = .ok (.iconst 1, 1) := by decide +kernel
theorem dX10_wordLine_82 : decode cX10_wordLine 82 = .ok (.goto 4, 3) := by decide +kernel
theorem dX10_wordLine_85 : decode cX10_wordLine 85 = .ok (.iconst 0, 1) := by decide +kernel
theorem dX10_wordLine_86 : decode cX10_wordLine 86 = .ok (.invokevirtual 118, 3) := by decide +kernel
theorem dX10_wordLine_89 : decode cX10_wordLine 89 = .ok (.ifCond .ne 5, 3) := by decide +kernel
theorem dX10_wordLine_92 : decode cX10_wordLine 92 = .ok (.iconst 0, 1) := by decide +kernel
theorem dX10_wordLine_93 : decode cX10_wordLine 93 = .ok (.ireturn, 1) := by decide +kernel
theorem dX10_wordLine_94 : decode cX10_wordLine 94 = .ok (.aload_n 0, 1) := by decide +kernel
theorem dX10_wordLine_95 : decode cX10_wordLine 95 = .ok (.iload_n 1, 1) := by decide +kernel
theorem dX10_wordLine_96 : decode cX10_wordLine 96 = .ok (.invokevirtual 159, 3) := by decide +kernel
theorem dX10_wordLine_99 : decode cX10_wordLine 99 = .ok (.pop, 1) := by decide +kernel
theorem dX10_wordLine_100 : decode cX10_wordLine 100 = .ok (.iconst 1, 1) := by decide +kernel
theorem dX10_wordLine_101 : decode cX10_wordLine 101 = .ok (.ireturn, 1) := by decide +kernel
theorem dX10_statement_0 : decode cX10_statement 0 = .ok (.aload_n 0, 1) := by decide +kernel
theorem dX10_statement_1 : decode cX10_statement 1 = .ok (.ldc 162, 2) := by decide +kernel
theorem dX10_statement_3 : decode cX10_statement 3 = .ok (.invokevirtual 164, 3) := by decide +kernel
theorem dX10_statement_6 : decode cX10_statement 6 = .ok (.ifCond .eq 8, 3) := by decide +kernel
theorem dX10_statement_9 : decode cX10_statement 9 = .ok (.aload_n 0, 1) := by decide +kernel
theorem dX10_statement_10 : decode cX10_statement 10 = .ok (.invokevirtual 168, 3) := by decide +kernel
theorem dX10_statement_13 : decode cX10_statement 13 = .ok (.ireturn, 1) := by decide +kernel
theorem dX10_statement_14 : decode cX10_statement 14 = .ok (.aload_n 0, 1) := by decide +kernel
theorem dX10_statement_15 : decode cX10_statement 15 = .ok (.ldc 171, 2) := by decide +kernel
theorem dX10_statement_17 : decode cX10_statement 17 = .ok (.invokevirtual 164, 3) := by decide +kernel
theorem dX10_statement_20 : decode cX10_statement 20 = .ok (.ifCond .eq 8, 3) := by decide +kernel
theorem dX10_statement_23 : decode cX10_statement 23 = .ok (.aload_n 0, 1) := by decide +kernel
theorem dX10_statement_24 : decode cX10_statement 24 = .ok (.invokevirtual 173, 3) := by decide +kernel
theorem dX10_statement_27 : decode cX10_statement 27 = .ok (.ireturn, 1) := by decide +kernel
theorem dX10_statement_28 : decode cX10_statement 28 = .ok (.aload_n 0, 1) := by decide +kernel
theorem dX10_statement_29 : decode cX10_statement 29 = .ok (.ldc 176, 2) := by decide +kernel
theorem dX10_statement_31 : decode cX10_statement 31 = .ok (.invokevirtual 164, 3) := by decide +kernel
theorem dX10_statement_34 : decode cX10_statement 34 = .ok (.ifCond .eq 10, 3) := by decide +kernel
theorem dX10_statement_37 : decode cX10_statement 37 = .ok (.aload_n 0, 1) := by decide +kernel
theorem dX10_statement_38 : decode cX10_statement 38 = .ok (.invokevirtual 178, 3) := by decide +kernel
theorem dX10_statement_41 : decode cX10_statement 41 = .ok (.goto 8, 3) := by decide +kernel
theorem dX10_statement_44 : decode cX10_statement 44 = .ok (.aload_n 0, 1) := by decide +kernel
theorem dX10_statement_45 : decode cX10_statement 45 = .ok (.iconst 1, 1) := by decide +kernel
theorem dX10_statement_46 : decode cX10_statement 46 = .ok (.invokevirtual 104, 3) := by decide +kernel
theorem dX10_statement_49 : decode cX10_statement 49 = .ok (.ireturn, 1) := by decide +kernel
theorem dX10_head_0 : decode cX10_head 0 = .ok (.aload_n 0, 1) := by decide +kernel
theorem dX10_head_1 : decode cX10_head 1 = .ok (.iconst 1, 1) := by decide +kernel
theorem dX10_head_2 : decode cX10_head 2 = .ok (.aload_n 0, 1) := by decide +kernel
theorem dX10_head_3 : decode cX10_head 3 = .ok (.ldc 181, 2) := by decide +kernel
theorem dX10_head_5 : decode cX10_head 5 = .ok (.invokevirtual 164, 3) := by decide +kernel
theorem dX10_head_8 : decode cX10_head 8 = .ok (.invokevirtual 118, 3) := by decide +kernel
theorem dX10_head_11 : decode cX10_head 11 = .ok (.ifCond .eq 69, 3) := by decide +kernel
theorem dX10_head_14 : decode cX10_head 14 = .ok (.aload_n 0, 1) := by decide +kernel
theorem dX10_head_15 : decode cX10_head 15 = .ok (.iconst 0, 1) := by decide +kernel
theorem dX10_head_16 : decode cX10_head 16 = .ok (.iconst 0, 1) := by decide +kernel
theorem dX10_head_17 : decode cX10_head 17 = .ok (.bipush 99, 2) := by decide +kernel
theorem dX10_head_19 : decode cX10_head 19 = .ok (.invokevirtual 139, 3) := by decide +kernel
theorem dX10_head_22 : decode cX10_head 22 = .ok (.ifCond .eq 58, 3) := by decide +kernel
theorem dX10_head_25 : decode cX10_head 25 = .ok (.aload_n 0, 1) := by decide +kernel
theorem dX10_head_26 : decode cX10_head 26 = .ok (.iconst 1, 1) := by decide +kernel
theorem dX10_head_27 : decode cX10_head 27 = .ok (.iconst 0, 1) := by decide +kernel
theorem dX10_head_28 : decode cX10_head 28 = .ok (.bipush 9, 2) := by decide +kernel
theorem dX10_head_30 : decode cX10_head 30 = .ok (.invokevirtual 139, 3) := by decide +kernel
theorem dX10_head_33 : decode cX10_head 33 = .ok (.ifCond .eq 47, 3) := by decide +kernel
theorem dX10_head_36 : decode cX10_head 36 = .ok (.aload_n 0, 1) := by decide +kernel
theorem dX10_head_37 : decode cX10_head 37 = .ok (.iconst 2, 1) := by decide +kernel
theorem dX10_head_38 : decode cX10_head 38 = .ok (.iconst 1, 1) := by decide +kernel
theorem dX10_head_39 : decode cX10_head 39 = .ok (.bipush 9, 2) := by decide +kernel
theorem dX10_head_41 : decode cX10_head 41 = .ok (.invokevirtual 139, 3) := by decide +kernel
theorem dX10_head_44 : decode cX10_head 44 = .ok (.ifCond .eq 36, 3) := by decide +kernel
theorem dX10_head_47 : decode cX10_head 47 = .ok (.aload_n 0, 1) := by decide +kernel
theorem dX10_head_48 : decode cX10_head 48 = .ok (.iconst 3, 1) := by decide +kernel
theorem dX10_head_49 : decode cX10_head 49 = .ok (.iconst 0, 1) := by decide +kernel
theorem dX10_head_50 : decode cX10_head 50 = .ok (.bipush 20, 2) := by decide +kernel
theorem dX10_head_52 : decode cX10_head 52 = .ok (.invokevirtual 139, 3) := by decide +kernel
theorem dX10_head_55 : decode cX10_head 55 = .ok (.ifCond .eq 25, 3) := by decide +kernel
theorem dX10_head_58 : decode cX10_head 58 = .ok (.aload_n 0, 1) := by decide +kernel
theorem dX10_head_59 : decode cX10_head 59 = .ok (.iconst 4, 1) := by decide +kernel
theorem dX10_head_60 : decode cX10_head 60 = .ok (.iconst 0, 1) := by decide +kernel
theorem dX10_head_61 : decode cX10_head 61 = .ok (.bipush 100, 2) := by decide +kernel
theorem dX10_head_63 : decode cX10_head 63 = .ok (.invokevirtual 139, 3) := by decide +kernel
theorem dX10_head_66 : decode cX10_head 66 = .ok (.ifCond .eq 14, 3) := by decide +kernel
theorem dX10_head_69 : decode cX10_head 69 = .ok (.aload_n 0, 1) := by decide +kernel
theorem dX10_head_70 : decode cX10_head 70 = .ok (.invokevirtual 183, 3) := by decide +kernel
theorem dX10_head_73 : decode cX10_head 73 = .ok (.ifCond .eq 7, 3) := by decide +kernel
theorem dX10_head_76 : decode cX10_head 76 = .ok (.iconst 1, 1) := by decide +kernel
theorem dX10_head_77 : decode cX10_head 77 = .ok (.goto 4, 3) := by decide +kernel
theorem dX10_head_80 : decode cX10_head 80 = .ok (.iconst 0, 1) := by decide +kernel
theorem dX10_head_81 : decode cX10_head 81 = .ok (.ireturn, 1) := by decide +kernel
theorem dX10_parse_0 : decode cX10_parse 0 = .ok (.aload_n 0, 1) := by decide +kernel
theorem dX10_parse_1 : decode cX10_parse 1 = .ok (.iconst 0, 1) := by decide +kernel
theorem dX10_parse_2 : decode cX10_parse 2 = .ok (.putfield 59, 3) := by decide +kernel
theorem dX10_parse_5 : decode cX10_parse 5 = .ok (.aload_n 0, 1) := by decide +kernel
theorem dX10_parse_6 : decode cX10_parse 6 = .ok (.iload_n 1, 1) := by decide +kernel
theorem dX10_parse_7 : decode cX10_parse 7 = .ok (.iconst 0, 1) := by decide +kernel
theorem dX10_parse_8 : decode cX10_parse 8 = .ok (.aload_n 0, 1) := by decide +kernel
theorem dX10_parse_9 : decode cX10_parse 9 = .ok (.getfield 62, 3) := by decide +kernel
theorem dX10_parse_12 : decode cX10_parse 12 = .ok (.invokestatic 88, 3) := by decide +kernel
theorem dX10_parse_15 : decode cX10_parse 15 = .ok (.ifCond .ne 7, 3) := by decide +kernel
theorem dX10_parse_18 : decode cX10_parse 18 = .ok (.iconst 1, 1) := by decide +kernel
theorem dX10_parse_19 : decode cX10_parse 19 = .ok (.goto 4, 3) := by decide +kernel
theorem dX10_parse_22 : decode cX10_parse 22 = .ok (.iconst 0, 1) := by decide +kernel
theorem dX10_parse_23 : decode cX10_parse 23 = .ok (.iconst 1, 1) := by decide +kernel
theorem dX10_parse_24 : decode cX10_parse 24 = .ok (.invokevirtual 186, 3) := by decide +kernel
theorem dX10_parse_27 : decode cX10_parse 27 = .ok (.ifCond .eq 5, 3) := by decide +kernel
theorem dX10_parse_30 : decode cX10_parse 30 = .ok (.iconst 0, 1) := by decide +kernel
theorem dX10_parse_31 : decode cX10_parse 31 = .ok (.ireturn, 1) := by decide +kernel
theorem dX10_parse_32 : decode cX10_parse 32 = .ok (.aload_n 0, 1) := by decide +kernel
theorem dX10_parse_33 : decode cX10_parse 33 = .ok (.iload_n 1, 1) := by decide +kernel
theorem dX10_parse_34 : decode cX10_parse 34 = .ok (.putfield 69, 3) := by decide +kernel
theorem dX10_parse_37 : decode cX10_parse 37 = .ok (.aload_n 0, 1) := by decide +kernel
theorem dX10_parse_38 : decode cX10_parse 38 = .ok (.iconst 0, 1) := by decide +kernel
theorem dX10_parse_39 : decode cX10_parse 39 = .ok (.putfield 62, 3) := by decide +kernel
theorem dX10_parse_42 : decode cX10_parse 42 = .ok (.aload_n 0, 1) := by decide +kernel
theorem dX10_parse_43 : decode cX10_parse 43 = .ok (.iconst 0, 1) := by decide +kernel
theorem dX10_parse_44 : decode cX10_parse 44 = .ok (.putfield 72, 3) := by decide +kernel
theorem dX10_parse_47 : decode cX10_parse 47 = .ok (.aload_n 0, 1) := by decide +kernel
theorem dX10_parse_48 : decode cX10_parse 48 = .ok (.iconst 0, 1) := by decide +kernel
theorem dX10_parse_49 : decode cX10_parse 49 = .ok (.putfield 101, 3) := by decide +kernel
theorem dX10_parse_52 : decode cX10_parse 52 = .ok (.aload_n 0, 1) := by decide +kernel
theorem dX10_parse_53 : decode cX10_parse 53 = .ok (.iconst (-1), 1) := by decide +kernel
theorem dX10_parse_54 : decode cX10_parse 54 = .ok (.putfield 27, 3) := by decide +kernel
theorem dX10_parse_57 : decode cX10_parse 57 = .ok (.aload_n 0, 1) := by decide +kernel
theorem dX10_parse_58 : decode cX10_parse 58 = .ok (.getfield 7, 3) := by decide +kernel
theorem dX10_parse_61 : decode cX10_parse 61 = .ok (.aload_n 0, 1) := by decide +kernel
theorem dX10_parse_62 : decode cX10_parse 62 = .ok (.getfield 13, 3) := by decide +kernel
theorem dX10_parse_65 : decode cX10_parse 65 = .ok (.invokestatic 190, 3) := by decide +kernel
theorem dX10_parse_68 : decode cX10_parse 68 = .ok (.iconst 0, 1) := by decide +kernel
theorem dX10_parse_69 : decode cX10_parse 69 = .ok (.istore_n 2, 1) := by decide +kernel
theorem dX10_parse_70 : decode cX10_parse 70 = .ok (.iload_n 2, 1) := by decide +kernel
theorem dX10_parse_71 : decode cX10_parse 71 = .ok (.iconst 4, 1) := by decide +kernel
theorem dX10_parse_72 : decode cX10_parse 72 = .ok (.if_icmp .ge 21, 3) := by decide +kernel
theorem dX10_parse_75 : decode cX10_parse 75 = .ok (.aload_n 0, 1) := by decide +kernel
theorem dX10_parse_76 : decode cX10_parse 76 = .ok (.getfield 20, 3) := by decide +kernel
theorem dX10_parse_79 : decode cX10_parse 79 = .ok (.iload_n 2, 1) := by decide +kernel
theorem dX10_parse_80 : decode cX10_parse 80 = .ok (.aload_n 0, 1) := by decide +kernel
theorem dX10_parse_81 : decode cX10_parse 81 = .ok (.getfield 16, 3) := by decide +kernel
theorem dX10_parse_84 : decode cX10_parse 84 = .ok (.iload_n 2, 1) := by decide +kernel
theorem dX10_parse_85 : decode cX10_parse 85 = .ok (.laload, 1) := by decide +kernel
theorem dX10_parse_86 : decode cX10_parse 86 = .ok (.lastore, 1) := by decide +kernel
theorem dX10_parse_87 : decode cX10_parse 87 = .ok (.iinc 2 1, 3) := by decide +kernel
theorem dX10_parse_90 : decode cX10_parse 90 = .ok (.goto (-20), 3) := by decide +kernel
theorem dX10_parse_93 : decode cX10_parse 93 = .ok (.iconst 0, 1) := by decide +kernel
theorem dX10_parse_94 : decode cX10_parse 94 = .ok (.istore_n 2, 1) := by decide +kernel
theorem dX10_parse_95 : decode cX10_parse 95 = .ok (.iload_n 2, 1) := by decide +kernel
theorem dX10_parse_96 : decode cX10_parse 96 = .ok (.sipush 365, 3) := by decide +kernel
theorem dX10_parse_99 : decode cX10_parse 99 = .ok (.if_icmp .ge 16, 3) := by decide +kernel
theorem dX10_parse_102 : decode cX10_parse 102 = .ok (.aload_n 0, 1) := by decide +kernel
theorem dX10_parse_103 : decode cX10_parse 103 = .ok (.getfield 7, 3) := by decide +kernel
theorem dX10_parse_106 : decode cX10_parse 106 = .ok (.iload_n 2, 1) := by decide +kernel
theorem dX10_parse_107 : decode cX10_parse 107 = .ok (.iconst 0, 1) := by decide +kernel
theorem dX10_parse_108 : decode cX10_parse 108 = .ok (.iastore, 1) := by decide +kernel
theorem dX10_parse_109 : decode cX10_parse 109 = .ok (.iinc 2 1, 3) := by decide +kernel
theorem dX10_parse_112 : decode cX10_parse 112 = .ok (.goto (-17), 3) := by decide +kernel
theorem dX10_parse_115 : decode cX10_parse 115 = .ok (.aload_n 0, 1) := by decide +kernel
theorem dX10_parse_116 : decode cX10_parse 116 = .ok (.invokevirtual 108, 3) := by decide +kernel
theorem dX10_parse_119 : decode cX10_parse 119 = .ok (.aload_n 0, 1) := by decide +kernel
theorem dX10_parse_120 : decode cX10_parse 120 = .ok (.invokevirtual 194, 3) := by decide +kernel
theorem dX10_parse_123 : decode cX10_parse 123 = .ok (.istore_n 2, 1) := by decide +kernel
theorem dX10_parse_124 : decode cX10_parse 124 = .ok (.iload_n 2, 1) := by decide +kernel
theorem dX10_parse_125 : decode cX10_parse 125 = .ok (.ifCond .eq 33, 3) := by decide +kernel
theorem dX10_parse_128 : decode cX10_parse 128 = .ok (.aload_n 0, 1) := by decide +kernel
theorem dX10_parse_129 : decode cX10_parse 129 = .ok (.getfield 85, 3) := by decide +kernel
theorem dX10_parse_132 : decode cX10_parse 132 = .ok (.ifCond .eq 26, 3) := by decide +kernel
theorem dX10_parse_135 : decode cX10_parse 135 = .ok (.aload_n 0, 1) := by decide +kernel
theorem dX10_parse_136 : decode cX10_parse 136 = .ok (.invokevirtual 197, 3) := by decide +kernel
theorem dX10_parse_139 : decode cX10_parse 139 = .ok (.ifCond .eq 14, 3) := by decide +kernel
theorem dX10_parse_142 : decode cX10_parse 142 = .ok (.aload_n 0, 1) := by decide +kernel
theorem dX10_parse_143 : decode cX10_parse 143 = .ok (.invokevirtual 183, 3) := by decide +kernel
theorem dX10_parse_146 : decode cX10_parse 146 = .ok (.ifCond .eq 7, 3) := by decide +kernel
theorem dX10_parse_149 : decode cX10_parse 149 = .ok (.iconst 1, 1) := by decide +kernel
theorem dX10_parse_150 : decode cX10_parse 150 = .ok (.goto 4, 3) := by decide +kernel
theorem dX10_parse_153 : decode cX10_parse 153 = .ok (.iconst 0, 1) := by decide +kernel
theorem dX10_parse_154 : decode cX10_parse 154 = .ok (.istore_n 2, 1) := by decide +kernel
theorem dX10_parse_155 : decode cX10_parse 155 = .ok (.goto (-31), 3) := by decide +kernel
theorem dX10_parse_158 : decode cX10_parse 158 = .ok (.iload_n 2, 1) := by decide +kernel
theorem dX10_parse_159 : decode cX10_parse 159 = .ok (.ifCond .ne 44, 3) := by decide +kernel
theorem dX10_parse_162 : decode cX10_parse 162 = .ok (.aload_n 0, 1) := by decide +kernel
theorem dX10_parse_163 : decode cX10_parse 163 = .ok (.getfield 13, 3) := by decide +kernel
theorem dX10_parse_166 : decode cX10_parse 166 = .ok (.aload_n 0, 1) := by decide +kernel
theorem dX10_parse_167 : decode cX10_parse 167 = .ok (.getfield 7, 3) := by decide +kernel
theorem dX10_parse_170 : decode cX10_parse 170 = .ok (.invokestatic 190, 3) := by decide +kernel
theorem dX10_parse_173 : decode cX10_parse 173 = .ok (.iconst 0, 1) := by decide +kernel
theorem dX10_parse_174 : decode cX10_parse 174 = .ok (.istore_n 3, 1) := by decide +kernel
theorem dX10_parse_175 : decode cX10_parse 175 = .ok (.iload_n 3, 1) := by decide +kernel
theorem dX10_parse_176 : decode cX10_parse 176 = .ok (.iconst 4, 1) := by decide +kernel
theorem dX10_parse_177 : decode cX10_parse 177 = .ok (.if_icmp .ge 21, 3) := by decide +kernel
theorem dX10_parse_180 : decode cX10_parse 180 = .ok (.aload_n 0, 1) := by decide +kernel
theorem dX10_parse_181 : decode cX10_parse 181 = .ok (.getfield 16, 3) := by decide +kernel
theorem dX10_parse_184 : decode cX10_parse 184 = .ok (.iload_n 3, 1) := by decide +kernel
theorem dX10_parse_185 : decode cX10_parse 185 = .ok (.aload_n 0, 1) := by decide +kernel
theorem dX10_parse_186 : decode cX10_parse 186 = .ok (.getfield 20, 3) := by decide +kernel
theorem dX10_parse_189 : decode cX10_parse 189 = .ok (.iload_n 3, 1) := by decide +kernel
theorem dX10_parse_190 : decode cX10_parse 190 = .ok (.laload, 1) := by decide +kernel
theorem dX10_parse_191 : decode cX10_parse 191 = .ok (.lastore, 1) := by decide +kernel
theorem dX10_parse_192 : decode cX10_parse 192 = .ok (.iinc 3 1, 3) := by decide +kernel
theorem dX10_parse_195 : decode cX10_parse 195 = .ok (.goto (-20), 3) := by decide +kernel
theorem dX10_parse_198 : decode cX10_parse 198 = .ok (.aload_n 0, 1) := by decide +kernel
theorem dX10_parse_199 : decode cX10_parse 199 = .ok (.getfield 101, 3) := by decide +kernel
theorem dX10_parse_202 : decode cX10_parse 202 = .ok (.ireturn, 1) := by decide +kernel
theorem dX10_parse_203 : decode cX10_parse 203 = .ok (.aload_n 0, 1) := by decide +kernel
theorem dX10_parse_204 : decode cX10_parse 204 = .ok (.iconst 0, 1) := by decide +kernel
theorem dX10_parse_205 : decode cX10_parse 205 = .ok (.putfield 200, 3) := by decide +kernel
theorem dX10_parse_208 : decode cX10_parse 208 = .ok (.aload_n 0, 1) := by decide +kernel
theorem dX10_parse_209 : decode cX10_parse 209 = .ok (.getfield 55, 3) := by decide +kernel
theorem dX10_parse_212 : decode cX10_parse 212 = .ok (.iconst 0, 1) := by decide +kernel
theorem dX10_parse_213 : decode cX10_parse 213 = .ok (.iconst 0, 1) := by decide +kernel
theorem dX10_parse_214 : decode cX10_parse 214 = .ok (.bastore, 1) := by decide +kernel
theorem dX10_parse_215 : decode cX10_parse 215 = .ok (.aload_n 0, 1) := by decide +kernel
theorem dX10_parse_216 : decode cX10_parse 216 = .ok (.getfield 55, 3) := by decide +kernel
theorem dX10_parse_219 : decode cX10_parse 219 = .ok (.iconst 1, 1) := by decide +kernel
theorem dX10_parse_220 : decode cX10_parse 220 = .ok (.iconst 0, 1) := by decide +kernel
theorem dX10_parse_221 : decode cX10_parse 221 = .ok (.bastore, 1) := by decide +kernel
theorem dX10_parse_222 : decode cX10_parse 222 = .ok (.iconst 0, 1) := by decide +kernel
theorem dX10_parse_223 : decode cX10_parse 223 = .ok (.ireturn, 1) := by decide +kernel
theorem dX10_errorPosition_0 : decode cX10_errorPosition 0 = .ok (.aload_n 0, 1) := by decide +kernel
theorem dX10_errorPosition_1 : decode cX10_errorPosition 1 = .ok (.iconst 0, 1) := by decide +kernel
theorem dX10_errorPosition_2 : decode cX10_errorPosition 2 = .ok (.putfield 59, 3) := by decide +kernel
theorem dX10_errorPosition_5 : decode cX10_errorPosition 5 = .ok (.aload_n 0, 1) := by decide +kernel
theorem dX10_errorPosition_6 : decode cX10_errorPosition 6 = .ok (.getfield 27, 3) := by decide +kernel
theorem dX10_errorPosition_9 : decode cX10_errorPosition 9 = .ok (.ireturn, 1) := by decide +kernel
theorem dX10_reads_0 : decode cX10_reads 0 = .ok (.aload_n 0, 1) := by decide +kernel
theorem dX10_reads_1 : decode cX10_reads 1 = .ok (.aload_n 0, 1) := by decide +kernel
theorem dX10_reads_2 : decode cX10_reads 2 = .ok (.getfield 62, 3) := by decide +kernel
theorem dX10_reads_5 : decode cX10_reads 5 = .ok (.putfield 69, 3) := by decide +kernel
theorem dX10_reads_8 : decode cX10_reads 8 = .ok (.aload_n 0, 1) := by decide +kernel
theorem dX10_reads_9 : decode cX10_reads 9 = .ok (.iconst 0, 1) := by decide +kernel
theorem dX10_reads_10 : decode cX10_reads 10 = .ok (.putfield 62, 3) := by decide +kernel
theorem dX10_reads_13 : decode cX10_reads 13 = .ok (.aload_n 0, 1) := by decide +kernel
theorem dX10_reads_14 : decode cX10_reads 14 = .ok (.iconst 0, 1) := by decide +kernel
theorem dX10_reads_15 : decode cX10_reads 15 = .ok (.putfield 79, 3) := by decide +kernel
theorem dX10_reads_18 : decode cX10_reads 18 = .ok (.aload_n 0, 1) := by decide +kernel
theorem dX10_reads_19 : decode cX10_reads 19 = .ok (.iconst 0, 1) := by decide +kernel
theorem dX10_reads_20 : decode cX10_reads 20 = .ok (.putfield 72, 3) := by decide +kernel
theorem dX10_reads_23 : decode cX10_reads 23 = .ok (.aload_n 0, 1) := by decide +kernel
theorem dX10_reads_24 : decode cX10_reads 24 = .ok (.aload_n 0, 1) := by decide +kernel
theorem dX10_reads_25 : decode cX10_reads 25 = .ok (.getfield 72, 3) := by decide +kernel
theorem dX10_reads_28 : decode cX10_reads 28 = .ok (.invokevirtual 75, 3) := by decide +kernel
theorem dX10_reads_31 : decode cX10_reads 31 = .ok (.bipush 97, 2) := by decide +kernel
theorem dX10_reads_33 : decode cX10_reads 33 = .ok (.bipush 122, 2) := by decide +kernel
theorem dX10_reads_35 : decode cX10_reads 35 = .ok (.invokestatic 88, 3) := by decide +kernel
theorem dX10_reads_38 : decode cX10_reads 38 = .ok (.ifCond .eq 16, 3) := by decide +kernel
theorem dX10_reads_41 : decode cX10_reads 41 = .ok (.aload_n 0, 1) := by decide +kernel
theorem dX10_reads_42 : decode cX10_reads 42 = .ok (.dup, 1) := by decide +kernel
theorem dX10_reads_43 : decode cX10_reads 43 = .ok (.getfield 72, 3) := by decide +kernel
theorem dX10_reads_46 : decode cX10_reads 46 = .ok (.iconst 1, 1) := by decide +kernel
theorem dX10_reads_47 : decode cX10_reads 47 = .ok (.iadd, 1) := by decide +kernel
theorem dX10_reads_48 : decode cX10_reads 48 = .ok (.putfield 72, 3) := by decide +kernel
theorem dX10_reads_51 : decode cX10_reads 51 = .ok (.goto (-28), 3) := by decide +kernel
theorem dX10_reads_54 : decode cX10_reads 54 = .ok (.aload_n 0, 1) := by decide +kernel
theorem dX10_reads_55 : decode cX10_reads 55 = .ok (.getfield 72, 3) := by decide +kernel
theorem dX10_reads_58 : decode cX10_reads 58 = .ok (.istore_n 1, 1) := by decide +kernel
theorem dX10_reads_59 : decode cX10_reads 59 = .ok (.aload_n 0, 1) := by decide +kernel
theorem dX10_reads_60 : decode cX10_reads 60 = .ok (.aload_n 0, 1) := by decide +kernel
theorem dX10_reads_61 : decode cX10_reads 61 = .ok (.getfield 72, 3) := by decide +kernel
theorem dX10_reads_64 : decode cX10_reads 64 = .ok (.invokevirtual 75, 3) := by decide +kernel
theorem dX10_reads_67 : decode cX10_reads 67 = .ok (.bipush 32, 2) := by decide +kernel
theorem dX10_reads_69 : decode cX10_reads 69 = .ok (.if_icmp .ne 16, 3) := by decide +kernel
theorem dX10_reads_72 : decode cX10_reads 72 = .ok (.aload_n 0, 1) := by decide +kernel
theorem dX10_reads_73 : decode cX10_reads 73 = .ok (.dup, 1) := by decide +kernel
theorem dX10_reads_74 : decode cX10_reads 74 = .ok (.getfield 72, 3) := by decide +kernel
theorem dX10_reads_77 : decode cX10_reads 77 = .ok (.iconst 1, 1) := by decide +kernel
theorem dX10_reads_78 : decode cX10_reads 78 = .ok (.iadd, 1) := by decide +kernel
theorem dX10_reads_79 : decode cX10_reads 79 = .ok (.putfield 72, 3) := by decide +kernel
theorem dX10_reads_82 : decode cX10_reads 82 = .ok (.goto (-23), 3) := by decide +kernel
theorem dX10_reads_85 : decode cX10_reads 85 = .ok (.iload_n 1, 1) := by decide +kernel
theorem dX10_reads_86 : decode cX10_reads 86 = .ok (.iconst 1, 1) := by decide +kernel
theorem dX10_reads_87 : decode cX10_reads 87 = .ok (.bipush 12, 2) := by decide +kernel
theorem dX10_reads_89 : decode cX10_reads 89 = .ok (.invokestatic 88, 3) := by decide +kernel
theorem dX10_reads_92 : decode cX10_reads 92 = .ok (.ifCond .eq 18, 3) := by decide +kernel
theorem dX10_reads_95 : decode cX10_reads 95 = .ok (.aload_n 0, 1) := by decide +kernel
theorem dX10_reads_96 : decode cX10_reads 96 = .ok (.getfield 72, 3) := by decide +kernel
theorem dX10_reads_99 : decode cX10_reads 99 = .ok (.aload_n 0, 1) := by decide +kernel
theorem dX10_reads_100 : decode cX10_reads 100 = .ok (.getfield 69, 3) := by decide +kernel
theorem dX10_reads_103 : decode cX10_reads 103 = .ok (.if_icmp .ne 7, 3) := by decide +kernel
theorem dX10_reads_106 : decode cX10_reads 106 = .ok (.iconst 1, 1) := by decide +kernel
theorem dX10_reads_107 : decode cX10_reads 107 = .ok (.goto 4, 3) := by decide +kernel
theorem dX10_reads_110 : decode cX10_reads 110 = .ok (.iconst 0, 1) := by decide +kernel
theorem dX10_reads_111 : decode cX10_reads 111 = .ok (.istore_n 2, 1) := by decide +kernel
theorem dX10_reads_112 : decode cX10_reads 112 = .ok (.aload_n 0, 1) := by decide +kernel
theorem dX10_reads_113 : decode cX10_reads 113 = .ok (.iload_n 1, 1) := by decide +kernel
theorem dX10_reads_114 : decode cX10_reads 114 = .ok (.putfield 72, 3) := by decide +kernel
theorem dX10_reads_117 : decode cX10_reads 117 = .ok (.aload_n 0, 1) := by decide +kernel
theorem dX10_reads_118 : decode cX10_reads 118 = .ok (.iconst 0, 1) := by decide +kernel
theorem dX10_reads_119 : decode cX10_reads 119 = .ok (.putfield 122, 3) := by decide +kernel
theorem dX10_reads_122 : decode cX10_reads 122 = .ok (.iload_n 2, 1) := by decide +kernel
theorem dX10_reads_123 : decode cX10_reads 123 = .ok (.ifCond .eq 7, 3) := by decide +kernel
theorem dX10_reads_126 : decode cX10_reads 126 = .ok (.aload_n 0, 1) := by decide +kernel
theorem dX10_reads_127 : decode cX10_reads 127 = .ok (.invokevirtual 129, 3) := by decide +kernel
theorem dX10_reads_130 : decode cX10_reads 130 = .ok (.iload_n 2, 1) := by decide +kernel
theorem dX10_reads_131 : decode cX10_reads 131 = .ok (.ireturn, 1) := by decide +kernel
theorem dX10_ofPiece_0 : decode cX10_ofPiece 0 = .ok (.aload_n 0, 1) := by decide +kernel
theorem dX10_ofPiece_1 : decode cX10_ofPiece 1 = .ok (.getfield 7, 3) := by decide +kernel
theorem dX10_ofPiece_4 : decode cX10_ofPiece 4 = .ok (.bipush 21, 2) := by decide +kernel
theorem dX10_ofPiece_6 : decode cX10_ofPiece 6 = .ok (.iconst 5, 1) := by decide +kernel
theorem dX10_ofPiece_7 : decode cX10_ofPiece 7 = .ok (.iload_n 1, 1) := by decide +kernel
theorem dX10_ofPiece_8 : decode cX10_ofPiece 8 = .ok (.imul, 1) := by decide +kernel
theorem dX10_ofPiece_9 : decode cX10_ofPiece 9 = .ok (.iadd, 1) := by decide +kernel
theorem dX10_ofPiece_10 : decode cX10_ofPiece 10 = .ok (.iload_n 2, 1) := by decide +kernel
theorem dX10_ofPiece_11 : decode cX10_ofPiece 11 = .ok (.iadd, 1) := by decide +kernel
theorem dX10_ofPiece_12 : decode cX10_ofPiece 12 = .ok (.iaload, 1) := by decide +kernel
theorem dX10_ofPiece_13 : decode cX10_ofPiece 13 = .ok (.ireturn, 1) := by decide +kernel
theorem dX10_ofWord_0 : decode cX10_ofWord 0 = .ok (.aload_n 0, 1) := by decide +kernel
theorem dX10_ofWord_1 : decode cX10_ofWord 1 = .ok (.getfield 7, 3) := by decide +kernel
theorem dX10_ofWord_4 : decode cX10_ofWord 4 = .ok (.sipush 141, 3) := by decide +kernel
theorem dX10_ofWord_7 : decode cX10_ofWord 7 = .ok (.bipush 14, 2) := by decide +kernel
theorem dX10_ofWord_9 : decode cX10_ofWord 9 = .ok (.iload_n 1, 1) := by decide +kernel
theorem dX10_ofWord_10 : decode cX10_ofWord 10 = .ok (.imul, 1) := by decide +kernel
theorem dX10_ofWord_11 : decode cX10_ofWord 11 = .ok (.iadd, 1) := by decide +kernel
theorem dX10_ofWord_12 : decode cX10_ofWord 12 = .ok (.iload_n 2, 1) := by decide +kernel
theorem dX10_ofWord_13 : decode cX10_ofWord 13 = .ok (.iadd, 1) := by decide +kernel
theorem dX10_ofWord_14 : decode cX10_ofWord 14 = .ok (.iaload, 1) := by decide +kernel
theorem dX10_ofWord_15 : decode cX10_ofWord 15 = .ok (.ireturn, 1) := by decide +kernel
theorem dX10_code_0 : decode cX10_code 0 = .ok (.iconst 0, 1) := by decide +kernel
theorem dX10_code_1 : decode cX10_code 1 = .ok (.istore_n 3, 1) := by decide +kernel
theorem dX10_code_2 : decode cX10_code 2 = .ok (.iconst 0, 1) := by decide +kernel
theorem dX10_code_3 : decode cX10_code 3 = .ok (.istore 4, 2) := by decide +kernel
theorem dX10_code_5 : decode cX10_code 5 = .ok (.iload 4, 2) := by decide +kernel
theorem dX10_code_7 : decode cX10_code 7 = .ok (.iload_n 2, 1) := by decide +kernel
theorem dX10_code_8 : decode cX10_code 8 = .ok (.if_icmp .ge 23, 3) := by decide +kernel
theorem dX10_code_11 : decode cX10_code 11 = .ok (.iload_n 3, 1) := by decide +kernel
theorem dX10_code_12 : decode cX10_code 12 = .ok (.iconst 5, 1) := by decide +kernel
theorem dX10_code_13 : decode cX10_code 13 = .ok (.ishl, 1) := by decide +kernel
theorem dX10_code_14 : decode cX10_code 14 = .ok (.aload_n 0, 1) := by decide +kernel
theorem dX10_code_15 : decode cX10_code 15 = .ok (.getfield 31, 3) := by decide +kernel
theorem dX10_code_18 : decode cX10_code 18 = .ok (.iload_n 1, 1) := by decide +kernel
theorem dX10_code_19 : decode cX10_code 19 = .ok (.iload 4, 2) := by decide +kernel
theorem dX10_code_21 : decode cX10_code 21 = .ok (.iadd, 1) := by decide +kernel
theorem dX10_code_22 : decode cX10_code 22 = .ok (.iaload, 1) := by decide +kernel
theorem dX10_code_23 : decode cX10_code 23 = .ok (.ior, 1) := by decide +kernel
theorem dX10_code_24 : decode cX10_code 24 = .ok (.istore_n 3, 1) := by decide +kernel
theorem dX10_code_25 : decode cX10_code 25 = .ok (.iinc 4 1, 3) := by decide +kernel
theorem dX10_code_28 : decode cX10_code 28 = .ok (.goto (-23), 3) := by decide +kernel
theorem dX10_code_31 : decode cX10_code 31 = .ok (.iload_n 3, 1) := by decide +kernel
theorem dX10_code_32 : decode cX10_code 32 = .ok (.ireturn, 1) := by decide +kernel
theorem dX10_lettersOf_0 : decode cX10_lettersOf 0 = .ok (.iconst 0, 1) := by decide +kernel
theorem dX10_lettersOf_1 : decode cX10_lettersOf 1 = .ok (.istore_n 1, 1) := by decide +kernel
theorem dX10_lettersOf_2 : decode cX10_lettersOf 2 = .ok (.iload_n 0, 1) := by decide +kernel
theorem dX10_lettersOf_3 : decode cX10_lettersOf 3 = .ok (.istore_n 2, 1) := by decide +kernel
theorem dX10_lettersOf_4 : decode cX10_lettersOf 4 = .ok (.iload_n 2, 1) := by decide +kernel
theorem dX10_lettersOf_5 : decode cX10_lettersOf 5 = .ok (.ifCond .le 13, 3) := by decide +kernel
theorem dX10_lettersOf_8 : decode cX10_lettersOf 8 = .ok (.iinc 1 1, 3) := by decide +kernel
theorem dX10_lettersOf_11 : decode cX10_lettersOf 11 = .ok (.iload_n 2, 1) := by decide +kernel
theorem dX10_lettersOf_12 : decode cX10_lettersOf 12 = .ok (.iconst 5, 1) := by decide +kernel
theorem dX10_lettersOf_13 : decode cX10_lettersOf 13 = .ok (.ishr, 1) := by decide +kernel
theorem dX10_lettersOf_14 : decode cX10_lettersOf 14 = .ok (.istore_n 2, 1) := by decide +kernel
theorem dX10_lettersOf_15 : decode cX10_lettersOf 15 = .ok (.goto (-11), 3) := by decide +kernel
theorem dX10_lettersOf_18 : decode cX10_lettersOf 18 = .ok (.iload_n 1, 1) := by decide +kernel
theorem dX10_lettersOf_19 : decode cX10_lettersOf 19 = .ok (.ireturn, 1) := by decide +kernel
theorem dX10_pieceOf_0 : decode cX10_pieceOf 0 = .ok (.iconst 0, 1) := by decide +kernel
theorem dX10_pieceOf_1 : decode cX10_pieceOf 1 = .ok (.istore_n 2, 1) := by decide +kernel
theorem dX10_pieceOf_2 : decode cX10_pieceOf 2 = .ok (.iload_n 2, 1) := by decide +kernel
theorem dX10_pieceOf_3 : decode cX10_pieceOf 3 = .ok (.aload_n 0, 1) := by decide +kernel
theorem dX10_pieceOf_4 : decode cX10_pieceOf 4 = .ok (.getfield 7, 3) := by decide +kernel
theorem dX10_pieceOf_7 : decode cX10_pieceOf 7 = .ok (.bipush 9, 2) := by decide +kernel
theorem dX10_pieceOf_9 : decode cX10_pieceOf 9 = .ok (.iaload, 1) := by decide +kernel
theorem dX10_pieceOf_10 : decode cX10_pieceOf 10 = .ok (.if_icmp .ge 21, 3) := by decide +kernel
theorem dX10_pieceOf_13 : decode cX10_pieceOf 13 = .ok (.aload_n 0, 1) := by decide +kernel
theorem dX10_pieceOf_14 : decode cX10_pieceOf 14 = .ok (.iload_n 2, 1) := by decide +kernel
theorem dX10_pieceOf_15 : decode cX10_pieceOf 15 = .ok (.iconst 0, 1) := by decide +kernel
theorem dX10_pieceOf_16 : decode cX10_pieceOf 16 = .ok (.invokevirtual 203, 3) := by decide +kernel
theorem dX10_pieceOf_19 : decode cX10_pieceOf 19 = .ok (.iload_n 1, 1) := by decide +kernel
theorem dX10_pieceOf_20 : decode cX10_pieceOf 20 = .ok (.if_icmp .ne 5, 3) := by decide +kernel
theorem dX10_pieceOf_23 : decode cX10_pieceOf 23 = .ok (.iload_n 2, 1) := by decide +kernel
theorem dX10_pieceOf_24 : decode cX10_pieceOf 24 = .ok (.ireturn, 1) := by decide +kernel
theorem dX10_pieceOf_25 : decode cX10_pieceOf 25 = .ok (.iinc 2 1, 3) := by decide +kernel
theorem dX10_pieceOf_28 : decode cX10_pieceOf 28 = .ok (.goto (-26), 3) := by decide +kernel
theorem dX10_pieceOf_31 : decode cX10_pieceOf 31 = .ok (.iconst (-1), 1) := by decide +kernel
theorem dX10_pieceOf_32 : decode cX10_pieceOf 32 = .ok (.ireturn, 1) := by decide +kernel
theorem dX10_priceOf_0 : decode cX10_priceOf 0 = .ok (.aload_n 0, 1) := by decide +kernel
theorem dX10_priceOf_1 : decode cX10_priceOf 1 = .ok (.getfield 7, 3) := by decide +kernel
theorem dX10_priceOf_4 : decode cX10_priceOf 4 = .ok (.iconst 0, 1) := by decide +kernel
theorem dX10_priceOf_5 : decode cX10_priceOf 5 = .ok (.iaload, 1) := by decide +kernel
theorem dX10_priceOf_6 : decode cX10_priceOf 6 = .ok (.aload_n 0, 1) := by decide +kernel
theorem dX10_priceOf_7 : decode cX10_priceOf 7 = .ok (.getfield 7, 3) := by decide +kernel
theorem dX10_priceOf_10 : decode cX10_priceOf 10 = .ok (.iconst 1, 1) := by decide +kernel
theorem dX10_priceOf_11 : decode cX10_priceOf 11 = .ok (.iaload, 1) := by decide +kernel
theorem dX10_priceOf_12 : decode cX10_priceOf 12 = .ok (.iload_n 1, 1) := by decide +kernel
theorem dX10_priceOf_13 : decode cX10_priceOf 13 = .ok (.invokestatic 206, 3) := by decide +kernel
theorem dX10_priceOf_16 : decode cX10_priceOf 16 = .ok (.imul, 1) := by decide +kernel
theorem dX10_priceOf_17 : decode cX10_priceOf 17 = .ok (.iadd, 1) := by decide +kernel
theorem dX10_priceOf_18 : decode cX10_priceOf 18 = .ok (.ireturn, 1) := by decide +kernel
theorem dX10_comes_0 : decode cX10_comes 0 = .ok (.aload_n 0, 1) := by decide +kernel
theorem dX10_comes_1 : decode cX10_comes 1 = .ok (.getfield 7, 3) := by decide +kernel
theorem dX10_comes_4 : decode cX10_comes 4 = .ok (.bipush 9, 2) := by decide +kernel
theorem dX10_comes_6 : decode cX10_comes 6 = .ok (.iaload, 1) := by decide +kernel
theorem dX10_comes_7 : decode cX10_comes 7 = .ok (.istore 4, 2) := by decide +kernel
theorem dX10_comes_9 : decode cX10_comes 9 = .ok (.bipush 21, 2) := by decide +kernel
theorem dX10_comes_11 : decode cX10_comes 11 = .ok (.iconst 5, 1) := by decide +kernel
theorem dX10_comes_12 : decode cX10_comes 12 = .ok (.iload 4, 2) := by decide +kernel
theorem dX10_comes_14 : decode cX10_comes 14 = .ok (.imul, 1) := by decide +kernel
theorem dX10_comes_15 : decode cX10_comes 15 = .ok (.iadd, 1) := by decide +kernel
theorem dX10_comes_16 : decode cX10_comes 16 = .ok (.istore 5, 2) := by decide +kernel
theorem dX10_comes_18 : decode cX10_comes 18 = .ok (.aload_n 0, 1) := by decide +kernel
theorem dX10_comes_19 : decode cX10_comes 19 = .ok (.getfield 7, 3) := by decide +kernel
theorem dX10_comes_22 : decode cX10_comes 22 = .ok (.iload 5, 2) := by decide +kernel
theorem dX10_comes_24 : decode cX10_comes 24 = .ok (.iconst 0, 1) := by decide +kernel
theorem dX10_comes_25 : decode cX10_comes 25 = .ok (.iadd, 1) := by decide +kernel
theorem dX10_comes_26 : decode cX10_comes 26 = .ok (.iload_n 1, 1) := by decide +kernel
theorem dX10_comes_27 : decode cX10_comes 27 = .ok (.iastore, 1) := by decide +kernel
theorem dX10_comes_28 : decode cX10_comes 28 = .ok (.aload_n 0, 1) := by decide +kernel
theorem dX10_comes_29 : decode cX10_comes 29 = .ok (.getfield 7, 3) := by decide +kernel
theorem dX10_comes_32 : decode cX10_comes 32 = .ok (.iload 5, 2) := by decide +kernel
theorem dX10_comes_34 : decode cX10_comes 34 = .ok (.iconst 1, 1) := by decide +kernel
theorem dX10_comes_35 : decode cX10_comes 35 = .ok (.iadd, 1) := by decide +kernel
theorem dX10_comes_36 : decode cX10_comes 36 = .ok (.iload_n 2, 1) := by decide +kernel
theorem dX10_comes_37 : decode cX10_comes 37 = .ok (.iastore, 1) := by decide +kernel
theorem dX10_comes_38 : decode cX10_comes 38 = .ok (.aload_n 0, 1) := by decide +kernel
theorem dX10_comes_39 : decode cX10_comes 39 = .ok (.getfield 7, 3) := by decide +kernel
theorem dX10_comes_42 : decode cX10_comes 42 = .ok (.iload 5, 2) := by decide +kernel
theorem dX10_comes_44 : decode cX10_comes 44 = .ok (.iconst 2, 1) := by decide +kernel
theorem dX10_comes_45 : decode cX10_comes 45 = .ok (.iadd, 1) := by decide +kernel
theorem dX10_comes_46 : decode cX10_comes 46 = .ok (.iload_n 3, 1) := by decide +kernel
theorem dX10_comes_47 : decode cX10_comes 47 = .ok (.iastore, 1) := by decide +kernel
theorem dX10_comes_48 : decode cX10_comes 48 = .ok (.aload_n 0, 1) := by decide +kernel
theorem dX10_comes_49 : decode cX10_comes 49 = .ok (.getfield 7, 3) := by decide +kernel
theorem dX10_comes_52 : decode cX10_comes 52 = .ok (.iload 5, 2) := by decide +kernel
theorem dX10_comes_54 : decode cX10_comes 54 = .ok (.iconst 3, 1) := by decide +kernel
theorem dX10_comes_55 : decode cX10_comes 55 = .ok (.iadd, 1) := by decide +kernel
theorem dX10_comes_56 : decode cX10_comes 56 = .ok (.iconst 0, 1) := by decide +kernel
theorem dX10_comes_57 : decode cX10_comes 57 = .ok (.iastore, 1) := by decide +kernel
theorem dX10_comes_58 : decode cX10_comes 58 = .ok (.aload_n 0, 1) := by decide +kernel
theorem dX10_comes_59 : decode cX10_comes 59 = .ok (.getfield 7, 3) := by decide +kernel
theorem dX10_comes_62 : decode cX10_comes 62 = .ok (.iload 5, 2) := by decide +kernel
theorem dX10_comes_64 : decode cX10_comes 64 = .ok (.iconst 4, 1) := by decide +kernel
theorem dX10_comes_65 : decode cX10_comes 65 = .ok (.iadd, 1) := by decide +kernel
theorem dX10_comes_66 : decode cX10_comes 66 = .ok (.aload_n 0, 1) := by decide +kernel
theorem dX10_comes_67 : decode cX10_comes 67 = .ok (.getfield 7, 3) := by decide +kernel
theorem dX10_comes_70 : decode cX10_comes 70 = .ok (.bipush 6, 2) := by decide +kernel
theorem dX10_comes_72 : decode cX10_comes 72 = .ok (.iaload, 1) := by decide +kernel
theorem dX10_comes_73 : decode cX10_comes 73 = .ok (.iastore, 1) := by decide +kernel
theorem dX10_comes_74 : decode cX10_comes 74 = .ok (.aload_n 0, 1) := by decide +kernel
theorem dX10_comes_75 : decode cX10_comes 75 = .ok (.getfield 7, 3) := by decide +kernel
theorem dX10_comes_78 : decode cX10_comes 78 = .ok (.bipush 9, 2) := by decide +kernel
theorem dX10_comes_80 : decode cX10_comes 80 = .ok (.dup2, 1) := by decide +kernel
theorem dX10_comes_81 : decode cX10_comes 81 = .ok (.iaload, 1) := by decide +kernel
theorem dX10_comes_82 : decode cX10_comes 82 = .ok (.iconst 1, 1) := by decide +kernel
theorem dX10_comes_83 : decode cX10_comes 83 = .ok (.iadd, 1) := by decide +kernel
theorem dX10_comes_84 : decode cX10_comes 84 = .ok (.iastore, 1) := by decide +kernel
theorem dX10_comes_85 : decode cX10_comes 85 = .ok (.iload 4, 2) := by decide +kernel
theorem dX10_comes_87 : decode cX10_comes 87 = .ok (.ireturn, 1) := by decide +kernel
theorem dX10_pays_0 : decode cX10_pays 0 = .ok (.aload_n 0, 1) := by decide +kernel
theorem dX10_pays_1 : decode cX10_pays 1 = .ok (.getfield 7, 3) := by decide +kernel
theorem dX10_pays_4 : decode cX10_pays 4 = .ok (.bipush 17, 2) := by decide +kernel
theorem dX10_pays_6 : decode cX10_pays 6 = .ok (.iload_n 1, 1) := by decide +kernel
theorem dX10_pays_7 : decode cX10_pays 7 = .ok (.iadd, 1) := by decide +kernel
theorem dX10_pays_8 : decode cX10_pays 8 = .ok (.dup2, 1) := by decide +kernel
theorem dX10_pays_9 : decode cX10_pays 9 = .ok (.iaload, 1) := by decide +kernel
theorem dX10_pays_10 : decode cX10_pays 10 = .ok (.iload_n 2, 1) := by decide +kernel
theorem dX10_pays_11 : decode cX10_pays 11 = .ok (.isub, 1) := by decide +kernel
theorem dX10_pays_12 : decode cX10_pays 12 = .ok (.iastore, 1) := by decide +kernel
theorem dX10_pays_13 : decode cX10_pays 13 = .ok (.aload_n 0, 1) := by decide +kernel
theorem dX10_pays_14 : decode cX10_pays 14 = .ok (.getfield 7, 3) := by decide +kernel
theorem dX10_pays_17 : decode cX10_pays 17 = .ok (.iload_n 3, 1) := by decide +kernel
theorem dX10_pays_18 : decode cX10_pays 18 = .ok (.dup2, 1) := by decide +kernel
theorem dX10_pays_19 : decode cX10_pays 19 = .ok (.iaload, 1) := by decide +kernel
theorem dX10_pays_20 : decode cX10_pays 20 = .ok (.iload_n 2, 1) := by decide +kernel
theorem dX10_pays_21 : decode cX10_pays 21 = .ok (.iadd, 1) := by decide +kernel
theorem dX10_pays_22 : decode cX10_pays 22 = .ok (.iastore, 1) := by decide +kernel
theorem dX10_pays_23 : decode cX10_pays 23 = .ok (.aload_n 0, 1) := by decide +kernel
theorem dX10_pays_24 : decode cX10_pays 24 = .ok (.getfield 7, 3) := by decide +kernel
theorem dX10_pays_27 : decode cX10_pays 27 = .ok (.bipush 11, 2) := by decide +kernel
theorem dX10_pays_29 : decode cX10_pays 29 = .ok (.iload 4, 2) := by decide +kernel
theorem dX10_pays_31 : decode cX10_pays 31 = .ok (.iadd, 1) := by decide +kernel
theorem dX10_pays_32 : decode cX10_pays 32 = .ok (.dup2, 1) := by decide +kernel
theorem dX10_pays_33 : decode cX10_pays 33 = .ok (.iaload, 1) := by decide +kernel
theorem dX10_pays_34 : decode cX10_pays 34 = .ok (.iload_n 2, 1) := by decide +kernel
theorem dX10_pays_35 : decode cX10_pays 35 = .ok (.iadd, 1) := by decide +kernel
theorem dX10_pays_36 : decode cX10_pays 36 = .ok (.iastore, 1) := by decide +kernel
theorem dX10_pays_37 : decode cX10_pays 37 = .ok (.return_, 1) := by decide +kernel
theorem dX10_buys_0 : decode cX10_buys 0 = .ok (.aload_n 0, 1) := by decide +kernel
theorem dX10_buys_1 : decode cX10_buys 1 = .ok (.iload_n 1, 1) := by decide +kernel
theorem dX10_buys_2 : decode cX10_buys 2 = .ok (.invokevirtual 209, 3) := by decide +kernel
theorem dX10_buys_5 : decode cX10_buys 5 = .ok (.istore_n 3, 1) := by decide +kernel
theorem dX10_buys_6 : decode cX10_buys 6 = .ok (.aload_n 0, 1) := by decide +kernel
theorem dX10_buys_7 : decode cX10_buys 7 = .ok (.iload_n 2, 1) := by decide +kernel
theorem dX10_buys_8 : decode cX10_buys 8 = .ok (.iload_n 3, 1) := by decide +kernel
theorem dX10_buys_9 : decode cX10_buys 9 = .ok (.bipush 7, 2) := by decide +kernel
theorem dX10_buys_11 : decode cX10_buys 11 = .ok (.iconst 0, 1) := by decide +kernel
theorem dX10_buys_12 : decode cX10_buys 12 = .ok (.invokevirtual 212, 3) := by decide +kernel
theorem dX10_buys_15 : decode cX10_buys 15 = .ok (.aload_n 0, 1) := by decide +kernel
theorem dX10_buys_16 : decode cX10_buys 16 = .ok (.getfield 7, 3) := by decide +kernel
theorem dX10_buys_19 : decode cX10_buys 19 = .ok (.bipush 15, 2) := by decide +kernel
theorem dX10_buys_21 : decode cX10_buys 21 = .ok (.dup2, 1) := by decide +kernel
theorem dX10_buys_22 : decode cX10_buys 22 = .ok (.iaload, 1) := by decide +kernel
theorem dX10_buys_23 : decode cX10_buys 23 = .ok (.iconst 1, 1) := by decide +kernel
theorem dX10_buys_24 : decode cX10_buys 24 = .ok (.iadd, 1) := by decide +kernel
theorem dX10_buys_25 : decode cX10_buys 25 = .ok (.iastore, 1) := by decide +kernel
theorem dX10_buys_26 : decode cX10_buys 26 = .ok (.aload_n 0, 1) := by decide +kernel
theorem dX10_buys_27 : decode cX10_buys 27 = .ok (.iload_n 1, 1) := by decide +kernel
theorem dX10_buys_28 : decode cX10_buys 28 = .ok (.iload_n 3, 1) := by decide +kernel
theorem dX10_buys_29 : decode cX10_buys 29 = .ok (.iload_n 2, 1) := by decide +kernel
theorem dX10_buys_30 : decode cX10_buys 30 = .ok (.invokevirtual 149, 3) := by decide +kernel
theorem dX10_buys_33 : decode cX10_buys 33 = .ok (.ireturn, 1) := by decide +kernel
theorem dX10_uses_0 : decode cX10_uses 0 = .ok (.aload_n 0, 1) := by decide +kernel
theorem dX10_uses_1 : decode cX10_uses 1 = .ok (.getfield 7, 3) := by decide +kernel
theorem dX10_uses_4 : decode cX10_uses 4 = .ok (.bipush 21, 2) := by decide +kernel
theorem dX10_uses_6 : decode cX10_uses 6 = .ok (.iconst 5, 1) := by decide +kernel
theorem dX10_uses_7 : decode cX10_uses 7 = .ok (.iload_n 1, 1) := by decide +kernel
theorem dX10_uses_8 : decode cX10_uses 8 = .ok (.imul, 1) := by decide +kernel
theorem dX10_uses_9 : decode cX10_uses 9 = .ok (.iadd, 1) := by decide +kernel
theorem dX10_uses_10 : decode cX10_uses 10 = .ok (.iconst 3, 1) := by decide +kernel
theorem dX10_uses_11 : decode cX10_uses 11 = .ok (.iadd, 1) := by decide +kernel
theorem dX10_uses_12 : decode cX10_uses 12 = .ok (.dup2, 1) := by decide +kernel
theorem dX10_uses_13 : decode cX10_uses 13 = .ok (.iaload, 1) := by decide +kernel
theorem dX10_uses_14 : decode cX10_uses 14 = .ok (.iload_n 2, 1) := by decide +kernel
theorem dX10_uses_15 : decode cX10_uses 15 = .ok (.iadd, 1) := by decide +kernel
theorem dX10_uses_16 : decode cX10_uses 16 = .ok (.iastore, 1) := by decide +kernel
theorem dX10_uses_17 : decode cX10_uses 17 = .ok (.aload_n 0, 1) := by decide +kernel
theorem dX10_uses_18 : decode cX10_uses 18 = .ok (.iload_n 1, 1) := by decide +kernel
theorem dX10_uses_19 : decode cX10_uses 19 = .ok (.iconst 3, 1) := by decide +kernel
theorem dX10_uses_20 : decode cX10_uses 20 = .ok (.invokevirtual 203, 3) := by decide +kernel
theorem dX10_uses_23 : decode cX10_uses 23 = .ok (.ifCond .ne 23, 3) := by decide +kernel
theorem dX10_uses_26 : decode cX10_uses 26 = .ok (.aload_n 0, 1) := by decide +kernel
theorem dX10_uses_27 : decode cX10_uses 27 = .ok (.getfield 7, 3) := by decide +kernel
theorem dX10_uses_30 : decode cX10_uses 30 = .ok (.bipush 21, 2) := by decide +kernel
theorem dX10_uses_32 : decode cX10_uses 32 = .ok (.iconst 5, 1) := by decide +kernel
theorem dX10_uses_33 : decode cX10_uses 33 = .ok (.iload_n 1, 1) := by decide +kernel
theorem dX10_uses_34 : decode cX10_uses 34 = .ok (.imul, 1) := by decide +kernel
theorem dX10_uses_35 : decode cX10_uses 35 = .ok (.iadd, 1) := by decide +kernel
theorem dX10_uses_36 : decode cX10_uses 36 = .ok (.iconst 4, 1) := by decide +kernel
theorem dX10_uses_37 : decode cX10_uses 37 = .ok (.iadd, 1) := by decide +kernel
theorem dX10_uses_38 : decode cX10_uses 38 = .ok (.aload_n 0, 1) := by decide +kernel
theorem dX10_uses_39 : decode cX10_uses 39 = .ok (.getfield 7, 3) := by decide +kernel
theorem dX10_uses_42 : decode cX10_uses 42 = .ok (.bipush 6, 2) := by decide +kernel
theorem dX10_uses_44 : decode cX10_uses 44 = .ok (.iaload, 1) := by decide +kernel
theorem dX10_uses_45 : decode cX10_uses 45 = .ok (.iastore, 1) := by decide +kernel
theorem dX10_uses_46 : decode cX10_uses 46 = .ok (.return_, 1) := by decide +kernel
theorem dX10_cuts_0 : decode cX10_cuts 0 = .ok (.aload_n 0, 1) := by decide +kernel
theorem dX10_cuts_1 : decode cX10_cuts 1 = .ok (.getfield 34, 3) := by decide +kernel
theorem dX10_cuts_4 : decode cX10_cuts 4 = .ok (.aload_n 0, 1) := by decide +kernel
theorem dX10_cuts_5 : decode cX10_cuts 5 = .ok (.getfield 122, 3) := by decide +kernel
theorem dX10_cuts_8 : decode cX10_cuts 8 = .ok (.iconst 0, 1) := by decide +kernel
theorem dX10_cuts_9 : decode cX10_cuts 9 = .ok (.iastore, 1) := by decide +kernel
theorem dX10_cuts_10 : decode cX10_cuts 10 = .ok (.aload_n 0, 1) := by decide +kernel
theorem dX10_cuts_11 : decode cX10_cuts 11 = .ok (.getfield 37, 3) := by decide +kernel
theorem dX10_cuts_14 : decode cX10_cuts 14 = .ok (.aload_n 0, 1) := by decide +kernel
theorem dX10_cuts_15 : decode cX10_cuts 15 = .ok (.getfield 122, 3) := by decide +kernel
theorem dX10_cuts_18 : decode cX10_cuts 18 = .ok (.iconst 0, 1) := by decide +kernel
theorem dX10_cuts_19 : decode cX10_cuts 19 = .ok (.iastore, 1) := by decide +kernel
theorem dX10_cuts_20 : decode cX10_cuts 20 = .ok (.aload_n 0, 1) := by decide +kernel
theorem dX10_cuts_21 : decode cX10_cuts 21 = .ok (.getfield 122, 3) := by decide +kernel
theorem dX10_cuts_24 : decode cX10_cuts 24 = .ok (.iconst 1, 1) := by decide +kernel
theorem dX10_cuts_25 : decode cX10_cuts 25 = .ok (.isub, 1) := by decide +kernel
theorem dX10_cuts_26 : decode cX10_cuts 26 = .ok (.istore_n 3, 1) := by decide +kernel
theorem dX10_cuts_27 : decode cX10_cuts 27 = .ok (.iload_n 3, 1) := by decide +kernel
theorem dX10_cuts_28 : decode cX10_cuts 28 = .ok (.ifCond .lt 67, 3) := by decide +kernel
theorem dX10_cuts_31 : decode cX10_cuts 31 = .ok (.aload_n 0, 1) := by decide +kernel
theorem dX10_cuts_32 : decode cX10_cuts 32 = .ok (.getfield 34, 3) := by decide +kernel
theorem dX10_cuts_35 : decode cX10_cuts 35 = .ok (.iload_n 3, 1) := by decide +kernel
theorem dX10_cuts_36 : decode cX10_cuts 36 = .ok (.ldc 216, 2) := by decide +kernel
theorem dX10_cuts_38 : decode cX10_cuts 38 = .ok (.iastore, 1) := by decide +kernel
theorem dX10_cuts_39 : decode cX10_cuts 39 = .ok (.aload_n 0, 1) := by decide +kernel
theorem dX10_cuts_40 : decode cX10_cuts 40 = .ok (.getfield 37, 3) := by decide +kernel
theorem dX10_cuts_43 : decode cX10_cuts 43 = .ok (.iload_n 3, 1) := by decide +kernel
theorem dX10_cuts_44 : decode cX10_cuts 44 = .ok (.ldc 216, 2) := by decide +kernel
theorem dX10_cuts_46 : decode cX10_cuts 46 = .ok (.iastore, 1) := by decide +kernel
theorem dX10_cuts_47 : decode cX10_cuts 47 = .ok (.aload_n 0, 1) := by decide +kernel
theorem dX10_cuts_48 : decode cX10_cuts 48 = .ok (.getfield 40, 3) := by decide +kernel
theorem dX10_cuts_51 : decode cX10_cuts 51 = .ok (.iload_n 3, 1) := by decide +kernel
theorem dX10_cuts_52 : decode cX10_cuts 52 = .ok (.iconst 0, 1) := by decide +kernel
theorem dX10_cuts_53 : decode cX10_cuts 53 = .ok (.iastore, 1) := by decide +kernel
theorem dX10_cuts_54 : decode cX10_cuts 54 = .ok (.bipush 6, 2) := by decide +kernel
theorem dX10_cuts_56 : decode cX10_cuts 56 = .ok (.istore 4, 2) := by decide +kernel
theorem dX10_cuts_58 : decode cX10_cuts 58 = .ok (.iload 4, 2) := by decide +kernel
theorem dX10_cuts_60 : decode cX10_cuts 60 = .ok (.ifCond .le 29, 3) := by decide +kernel
theorem dX10_cuts_63 : decode cX10_cuts 63 = .ok (.iload_n 3, 1) := by decide +kernel
theorem dX10_cuts_64 : decode cX10_cuts 64 = .ok (.iload 4, 2) := by decide +kernel
theorem dX10_cuts_66 : decode cX10_cuts 66 = .ok (.iadd, 1) := by decide +kernel
theorem dX10_cuts_67 : decode cX10_cuts 67 = .ok (.aload_n 0, 1) := by decide +kernel
theorem dX10_cuts_68 : decode cX10_cuts 68 = .ok (.getfield 122, 3) := by decide +kernel
theorem dX10_cuts_71 : decode cX10_cuts 71 = .ok (.if_icmp .gt 12, 3) := by decide +kernel
theorem dX10_cuts_74 : decode cX10_cuts 74 = .ok (.aload_n 0, 1) := by decide +kernel
theorem dX10_cuts_75 : decode cX10_cuts 75 = .ok (.iload_n 3, 1) := by decide +kernel
theorem dX10_cuts_76 : decode cX10_cuts 76 = .ok (.iload 4, 2) := by decide +kernel
theorem dX10_cuts_78 : decode cX10_cuts 78 = .ok (.iload_n 1, 1) := by decide +kernel
theorem dX10_cuts_79 : decode cX10_cuts 79 = .ok (.iload_n 2, 1) := by decide +kernel
theorem dX10_cuts_80 : decode cX10_cuts 80 = .ok (.invokevirtual 217, 3) := by decide +kernel
theorem dX10_cuts_83 : decode cX10_cuts 83 = .ok (.iinc 4 (-1), 3) := by decide +kernel
theorem dX10_cuts_86 : decode cX10_cuts 86 = .ok (.goto (-28), 3) := by decide +kernel
theorem dX10_cuts_89 : decode cX10_cuts 89 = .ok (.iinc 3 (-1), 3) := by decide +kernel
theorem dX10_cuts_92 : decode cX10_cuts 92 = .ok (.goto (-65), 3) := by decide +kernel
theorem dX10_cuts_95 : decode cX10_cuts 95 = .ok (.return_, 1) := by decide +kernel
theorem dX10_triesFirst_0 : decode cX10_triesFirst 0 = .ok (.aload_n 0, 1) := by decide +kernel
theorem dX10_triesFirst_1 : decode cX10_triesFirst 1 = .ok (.iload_n 1, 1) := by decide +kernel
theorem dX10_triesFirst_2 : decode cX10_triesFirst 2 = .ok (.iload_n 2, 1) := by decide +kernel
theorem dX10_triesFirst_3 : decode cX10_triesFirst 3 = .ok (.invokevirtual 142, 3) := by decide +kernel
theorem dX10_triesFirst_6 : decode cX10_triesFirst 6 = .ok (.istore 5, 2) := by decide +kernel
theorem dX10_triesFirst_8 : decode cX10_triesFirst 8 = .ok (.iload 5, 2) := by decide +kernel
theorem dX10_triesFirst_10 : decode cX10_triesFirst 10 = .ok (.iload 4, 2) := by decide +kernel
theorem dX10_triesFirst_12 : decode cX10_triesFirst 12 = .ok (.if_icmp .eq 13, 3) := by decide +kernel
theorem dX10_triesFirst_15 : decode cX10_triesFirst 15 = .ok (.aload_n 0, 1) := by decide +kernel
theorem dX10_triesFirst_16 : decode cX10_triesFirst 16 = .ok (.iload 5, 2) := by decide +kernel
theorem dX10_triesFirst_18 : decode cX10_triesFirst 18 = .ok (.invokevirtual 146, 3) := by decide +kernel
theorem dX10_triesFirst_21 : decode cX10_triesFirst 21 = .ok (.iconst (-1), 1) := by decide +kernel
theorem dX10_triesFirst_22 : decode cX10_triesFirst 22 = .ok (.if_icmp .eq 7, 3) := by decide +kernel
theorem dX10_triesFirst_25 : decode cX10_triesFirst 25 = .ok (.iconst 1, 1) := by decide +kernel
theorem dX10_triesFirst_26 : decode cX10_triesFirst 26 = .ok (.goto 4, 3) := by decide +kernel
theorem dX10_triesFirst_29 : decode cX10_triesFirst 29 = .ok (.iconst 0, 1) := by decide +kernel
theorem dX10_triesFirst_30 : decode cX10_triesFirst 30 = .ok (.istore 6, 2) := by decide +kernel
theorem dX10_triesFirst_32 : decode cX10_triesFirst 32 = .ok (.iload 6, 2) := by decide +kernel
theorem dX10_triesFirst_34 : decode cX10_triesFirst 34 = .ok (.ifCond .ne 7, 3) := by decide +kernel
theorem dX10_triesFirst_37 : decode cX10_triesFirst 37 = .ok (.iload_n 3, 1) := by decide +kernel
theorem dX10_triesFirst_38 : decode cX10_triesFirst 38 = .ok (.ifCond .eq 16, 3) := by decide +kernel
theorem dX10_triesFirst_41 : decode cX10_triesFirst 41 = .ok (.aload_n 0, 1) := by decide +kernel
theorem dX10_triesFirst_42 : decode cX10_triesFirst 42 = .ok (.getfield 34, 3) := by decide +kernel
theorem dX10_triesFirst_45 : decode cX10_triesFirst 45 = .ok (.iload_n 1, 1) := by decide +kernel
theorem dX10_triesFirst_46 : decode cX10_triesFirst 46 = .ok (.iload_n 2, 1) := by decide +kernel
theorem dX10_triesFirst_47 : decode cX10_triesFirst 47 = .ok (.iadd, 1) := by decide +kernel
theorem dX10_triesFirst_48 : decode cX10_triesFirst 48 = .ok (.iaload, 1) := by decide +kernel
theorem dX10_triesFirst_49 : decode cX10_triesFirst 49 = .ok (.ldc 216, 2) := by decide +kernel
theorem dX10_triesFirst_51 : decode cX10_triesFirst 51 = .ok (.if_icmp .lt 4, 3) := by decide +kernel
theorem dX10_triesFirst_54 : decode cX10_triesFirst 54 = .ok (.return_, 1) := by decide +kernel
theorem dX10_triesFirst_55 : decode cX10_triesFirst 55 = .ok (.aload_n 0, 1) := by decide +kernel
theorem dX10_triesFirst_56 : decode cX10_triesFirst 56 = .ok (.getfield 34, 3) := by decide +kernel
theorem dX10_triesFirst_59 : decode cX10_triesFirst 59 = .ok (.iload_n 1, 1) := by decide +kernel
theorem dX10_triesFirst_60 : decode cX10_triesFirst 60 = .ok (.iload_n 2, 1) := by decide +kernel
theorem dX10_triesFirst_61 : decode cX10_triesFirst 61 = .ok (.iadd, 1) := by decide +kernel
theorem dX10_triesFirst_62 : decode cX10_triesFirst 62 = .ok (.iaload, 1) := by decide +kernel
theorem dX10_triesFirst_63 : decode cX10_triesFirst 63 = .ok (.aload_n 0, 1) := by decide +kernel
theorem dX10_triesFirst_64 : decode cX10_triesFirst 64 = .ok (.getfield 7, 3) := by decide +kernel
theorem dX10_triesFirst_67 : decode cX10_triesFirst 67 = .ok (.iconst 2, 1) := by decide +kernel
theorem dX10_triesFirst_68 : decode cX10_triesFirst 68 = .ok (.iaload, 1) := by decide +kernel
theorem dX10_triesFirst_69 : decode cX10_triesFirst 69 = .ok (.iadd, 1) := by decide +kernel
theorem dX10_triesFirst_70 : decode cX10_triesFirst 70 = .ok (.iload 6, 2) := by decide +kernel
theorem dX10_triesFirst_72 : decode cX10_triesFirst 72 = .ok (.ifCond .eq 7, 3) := by decide +kernel
theorem dX10_triesFirst_75 : decode cX10_triesFirst 75 = .ok (.iconst 0, 1) := by decide +kernel
theorem dX10_triesFirst_76 : decode cX10_triesFirst 76 = .ok (.goto 9, 3) := by decide +kernel
theorem dX10_triesFirst_79 : decode cX10_triesFirst 79 = .ok (.aload_n 0, 1) := by decide +kernel
theorem dX10_triesFirst_80 : decode cX10_triesFirst 80 = .ok (.iload 5, 2) := by decide +kernel
theorem dX10_triesFirst_82 : decode cX10_triesFirst 82 = .ok (.invokevirtual 209, 3) := by decide +kernel
theorem dX10_triesFirst_85 : decode cX10_triesFirst 85 = .ok (.iadd, 1) := by decide +kernel
theorem dX10_triesFirst_86 : decode cX10_triesFirst 86 = .ok (.istore 7, 2) := by decide +kernel
theorem dX10_triesFirst_88 : decode cX10_triesFirst 88 = .ok (.aload_n 0, 1) := by decide +kernel
theorem dX10_triesFirst_89 : decode cX10_triesFirst 89 = .ok (.getfield 37, 3) := by decide +kernel
theorem dX10_triesFirst_92 : decode cX10_triesFirst 92 = .ok (.iload_n 1, 1) := by decide +kernel
theorem dX10_triesFirst_93 : decode cX10_triesFirst 93 = .ok (.iload_n 2, 1) := by decide +kernel
theorem dX10_triesFirst_94 : decode cX10_triesFirst 94 = .ok (.iadd, 1) := by decide +kernel
theorem dX10_triesFirst_95 : decode cX10_triesFirst 95 = .ok (.iaload, 1) := by decide +kernel
theorem dX10_triesFirst_96 : decode cX10_triesFirst 96 = .ok (.iconst 1, 1) := by decide +kernel
theorem dX10_triesFirst_97 : decode cX10_triesFirst 97 = .ok (.iadd, 1) := by decide +kernel
theorem dX10_triesFirst_98 : decode cX10_triesFirst 98 = .ok (.istore 8, 2) := by decide +kernel
theorem dX10_triesFirst_100 : decode cX10_triesFirst 100 = .ok (.iload 7, 2) := by decide +kernel
theorem dX10_triesFirst_102 : decode cX10_triesFirst 102 = .ok (.aload_n 0, 1) := by decide +kernel
theorem dX10_triesFirst_103 : decode cX10_triesFirst 103 = .ok (.getfield 34, 3) := by decide +kernel
theorem dX10_triesFirst_106 : decode cX10_triesFirst 106 = .ok (.iload_n 1, 1) := by decide +kernel
theorem dX10_triesFirst_107 : decode cX10_triesFirst 107 = .ok (.iaload, 1) := by decide +kernel
theorem dX10_triesFirst_108 : decode cX10_triesFirst 108 = .ok (.if_icmp .lt 25, 3) := by decide +kernel
theorem dX10_triesFirst_111 : decode cX10_triesFirst 111 = .ok (.iload 7, 2) := by decide +kernel
theorem dX10_triesFirst_113 : decode cX10_triesFirst 113 = .ok (.aload_n 0, 1) := by decide +kernel
theorem dX10_triesFirst_114 : decode cX10_triesFirst 114 = .ok (.getfield 34, 3) := by decide +kernel
theorem dX10_triesFirst_117 : decode cX10_triesFirst 117 = .ok (.iload_n 1, 1) := by decide +kernel
theorem dX10_triesFirst_118 : decode cX10_triesFirst 118 = .ok (.iaload, 1) := by decide +kernel
theorem dX10_triesFirst_119 : decode cX10_triesFirst 119 = .ok (.if_icmp .ne 37, 3) := by decide +kernel
theorem dX10_triesFirst_122 : decode cX10_triesFirst 122 = .ok (.iload 8, 2) := by decide +kernel
theorem dX10_triesFirst_124 : decode cX10_triesFirst 124 = .ok (.aload_n 0, 1) := by decide +kernel
theorem dX10_triesFirst_125 : decode cX10_triesFirst 125 = .ok (.getfield 37, 3) := by decide +kernel
theorem dX10_triesFirst_128 : decode cX10_triesFirst 128 = .ok (.iload_n 1, 1) := by decide +kernel
theorem dX10_triesFirst_129 : decode cX10_triesFirst 129 = .ok (.iaload, 1) := by decide +kernel
theorem dX10_triesFirst_130 : decode cX10_triesFirst 130 = .ok (.if_icmp .ge 26, 3) := by decide +kernel
theorem dX10_triesFirst_133 : decode cX10_triesFirst 133 = .ok (.aload_n 0, 1) := by decide +kernel
theorem dX10_triesFirst_134 : decode cX10_triesFirst 134 = .ok (.getfield 34, 3) := by decide +kernel
theorem dX10_triesFirst_137 : decode cX10_triesFirst 137 = .ok (.iload_n 1, 1) := by decide +kernel
theorem dX10_triesFirst_138 : decode cX10_triesFirst 138 = .ok (.iload 7, 2) := by decide +kernel
theorem dX10_triesFirst_140 : decode cX10_triesFirst 140 = .ok (.iastore, 1) := by decide +kernel
theorem dX10_triesFirst_141 : decode cX10_triesFirst 141 = .ok (.aload_n 0, 1) := by decide +kernel
theorem dX10_triesFirst_142 : decode cX10_triesFirst 142 = .ok (.getfield 37, 3) := by decide +kernel
theorem dX10_triesFirst_145 : decode cX10_triesFirst 145 = .ok (.iload_n 1, 1) := by decide +kernel
theorem dX10_triesFirst_146 : decode cX10_triesFirst 146 = .ok (.iload 8, 2) := by decide +kernel
theorem dX10_triesFirst_148 : decode cX10_triesFirst 148 = .ok (.iastore, 1) := by decide +kernel
theorem dX10_triesFirst_149 : decode cX10_triesFirst 149 = .ok (.aload_n 0, 1) := by decide +kernel
theorem dX10_triesFirst_150 : decode cX10_triesFirst 150 = .ok (.getfield 40, 3) := by decide +kernel
theorem dX10_triesFirst_153 : decode cX10_triesFirst 153 = .ok (.iload_n 1, 1) := by decide +kernel
theorem dX10_triesFirst_154 : decode cX10_triesFirst 154 = .ok (.iload_n 2, 1) := by decide +kernel
theorem dX10_triesFirst_155 : decode cX10_triesFirst 155 = .ok (.iastore, 1) := by decide +kernel
theorem dX10_triesFirst_156 : decode cX10_triesFirst 156 = .ok (.return_, 1) := by decide +kernel
theorem dX10_cutsCheapest_0 : decode cX10_cutsCheapest 0 = .ok (.aload_n 0, 1) := by decide +kernel
theorem dX10_cutsCheapest_1 : decode cX10_cutsCheapest 1 = .ok (.iconst 1, 1) := by decide +kernel
theorem dX10_cutsCheapest_2 : decode cX10_cutsCheapest 2 = .ok (.iconst 0, 1) := by decide +kernel
theorem dX10_cutsCheapest_3 : decode cX10_cutsCheapest 3 = .ok (.invokevirtual 221, 3) := by decide +kernel
theorem dX10_cutsCheapest_6 : decode cX10_cutsCheapest 6 = .ok (.return_, 1) := by decide +kernel
theorem dX10_laysFresh_0 : decode cX10_laysFresh 0 = .ok (.aload_n 0, 1) := by decide +kernel
theorem dX10_laysFresh_1 : decode cX10_laysFresh 1 = .ok (.iconst 0, 1) := by decide +kernel
theorem dX10_laysFresh_2 : decode cX10_laysFresh 2 = .ok (.putfield 225, 3) := by decide +kernel
theorem dX10_laysFresh_5 : decode cX10_laysFresh 5 = .ok (.iconst 0, 1) := by decide +kernel
theorem dX10_laysFresh_6 : decode cX10_laysFresh 6 = .ok (.istore_n 1, 1) := by decide +kernel
theorem dX10_laysFresh_7 : decode cX10_laysFresh 7 = .ok (.iload_n 1, 1) := by decide +kernel
theorem dX10_laysFresh_8 : decode cX10_laysFresh 8 = .ok (.aload_n 0, 1) := by decide +kernel
theorem dX10_laysFresh_9 : decode cX10_laysFresh 9 = .ok (.getfield 122, 3) := by decide +kernel
theorem dX10_laysFresh_12 : decode cX10_laysFresh 12 = .ok (.if_icmp .ge 105, 3) := by decide +kernel
theorem dX10_laysFresh_15 : decode cX10_laysFresh 15 = .ok (.aload_n 0, 1) := by decide +kernel
theorem dX10_laysFresh_16 : decode cX10_laysFresh 16 = .ok (.iload_n 1, 1) := by decide +kernel
theorem dX10_laysFresh_17 : decode cX10_laysFresh 17 = .ok (.aload_n 0, 1) := by decide +kernel
theorem dX10_laysFresh_18 : decode cX10_laysFresh 18 = .ok (.getfield 40, 3) := by decide +kernel
theorem dX10_laysFresh_21 : decode cX10_laysFresh 21 = .ok (.iload_n 1, 1) := by decide +kernel
theorem dX10_laysFresh_22 : decode cX10_laysFresh 22 = .ok (.iaload, 1) := by decide +kernel
theorem dX10_laysFresh_23 : decode cX10_laysFresh 23 = .ok (.invokevirtual 142, 3) := by decide +kernel
theorem dX10_laysFresh_26 : decode cX10_laysFresh 26 = .ok (.istore_n 2, 1) := by decide +kernel
theorem dX10_laysFresh_27 : decode cX10_laysFresh 27 = .ok (.aload_n 0, 1) := by decide +kernel
theorem dX10_laysFresh_28 : decode cX10_laysFresh 28 = .ok (.iload_n 2, 1) := by decide +kernel
theorem dX10_laysFresh_29 : decode cX10_laysFresh 29 = .ok (.invokevirtual 146, 3) := by decide +kernel
theorem dX10_laysFresh_32 : decode cX10_laysFresh 32 = .ok (.iconst (-1), 1) := by decide +kernel
theorem dX10_laysFresh_33 : decode cX10_laysFresh 33 = .ok (.if_icmp .ne 7, 3) := by decide +kernel
theorem dX10_laysFresh_36 : decode cX10_laysFresh 36 = .ok (.iconst 1, 1) := by decide +kernel
theorem dX10_laysFresh_37 : decode cX10_laysFresh 37 = .ok (.goto 4, 3) := by decide +kernel
theorem dX10_laysFresh_40 : decode cX10_laysFresh 40 = .ok (.iconst 0, 1) := by decide +kernel
theorem dX10_laysFresh_41 : decode cX10_laysFresh 41 = .ok (.istore_n 3, 1) := by decide +kernel
theorem dX10_laysFresh_42 : decode cX10_laysFresh 42 = .ok (.iconst 0, 1) := by decide +kernel
theorem dX10_laysFresh_43 : decode cX10_laysFresh 43 = .ok (.istore 4, 2) := by decide +kernel
theorem dX10_laysFresh_45 : decode cX10_laysFresh 45 = .ok (.iload 4, 2) := by decide +kernel
theorem dX10_laysFresh_47 : decode cX10_laysFresh 47 = .ok (.aload_n 0, 1) := by decide +kernel
theorem dX10_laysFresh_48 : decode cX10_laysFresh 48 = .ok (.getfield 225, 3) := by decide +kernel
theorem dX10_laysFresh_51 : decode cX10_laysFresh 51 = .ok (.if_icmp .ge 30, 3) := by decide +kernel
theorem dX10_laysFresh_54 : decode cX10_laysFresh 54 = .ok (.iload_n 3, 1) := by decide +kernel
theorem dX10_laysFresh_55 : decode cX10_laysFresh 55 = .ok (.ifCond .eq 18, 3) := by decide +kernel
theorem dX10_laysFresh_58 : decode cX10_laysFresh 58 = .ok (.aload_n 0, 1) := by decide +kernel
theorem dX10_laysFresh_59 : decode cX10_laysFresh 59 = .ok (.getfield 43, 3) := by decide +kernel
theorem dX10_laysFresh_62 : decode cX10_laysFresh 62 = .ok (.iload 4, 2) := by decide +kernel
theorem dX10_laysFresh_64 : decode cX10_laysFresh 64 = .ok (.iaload, 1) := by decide +kernel
theorem dX10_laysFresh_65 : decode cX10_laysFresh 65 = .ok (.iload_n 2, 1) := by decide +kernel
theorem dX10_laysFresh_66 : decode cX10_laysFresh 66 = .ok (.if_icmp .eq 7, 3) := by decide +kernel
theorem dX10_laysFresh_69 : decode cX10_laysFresh 69 = .ok (.iconst 1, 1) := by decide +kernel
theorem dX10_laysFresh_70 : decode cX10_laysFresh 70 = .ok (.goto 4, 3) := by decide +kernel
theorem dX10_laysFresh_73 : decode cX10_laysFresh 73 = .ok (.iconst 0, 1) := by decide +kernel
theorem dX10_laysFresh_74 : decode cX10_laysFresh 74 = .ok (.istore_n 3, 1) := by decide +kernel
theorem dX10_laysFresh_75 : decode cX10_laysFresh 75 = .ok (.iinc 4 1, 3) := by decide +kernel
theorem dX10_laysFresh_78 : decode cX10_laysFresh 78 = .ok (.goto (-33), 3) := by decide +kernel
theorem dX10_laysFresh_81 : decode cX10_laysFresh 81 = .ok (.iload_n 3, 1) := by decide +kernel
theorem dX10_laysFresh_82 : decode cX10_laysFresh 82 = .ok (.ifCond .eq 23, 3) := by decide +kernel
theorem dX10_laysFresh_85 : decode cX10_laysFresh 85 = .ok (.aload_n 0, 1) := by decide +kernel
theorem dX10_laysFresh_86 : decode cX10_laysFresh 86 = .ok (.getfield 43, 3) := by decide +kernel
theorem dX10_laysFresh_89 : decode cX10_laysFresh 89 = .ok (.aload_n 0, 1) := by decide +kernel
theorem dX10_laysFresh_90 : decode cX10_laysFresh 90 = .ok (.getfield 225, 3) := by decide +kernel
theorem dX10_laysFresh_93 : decode cX10_laysFresh 93 = .ok (.iload_n 2, 1) := by decide +kernel
theorem dX10_laysFresh_94 : decode cX10_laysFresh 94 = .ok (.iastore, 1) := by decide +kernel
theorem dX10_laysFresh_95 : decode cX10_laysFresh 95 = .ok (.aload_n 0, 1) := by decide +kernel
theorem dX10_laysFresh_96 : decode cX10_laysFresh 96 = .ok (.dup, 1) := by decide +kernel
theorem dX10_laysFresh_97 : decode cX10_laysFresh 97 = .ok (.getfield 225, 3) := by decide +kernel
theorem dX10_laysFresh_100 : decode cX10_laysFresh 100 = .ok (.iconst 1, 1) := by decide +kernel
theorem dX10_laysFresh_101 : decode cX10_laysFresh 101 = .ok (.iadd, 1) := by decide +kernel
theorem dX10_laysFresh_102 : decode cX10_laysFresh 102 = .ok (.putfield 225, 3) := by decide +kernel
theorem dX10_laysFresh_105 : decode cX10_laysFresh 105 = .ok (.iload_n 1, 1) := by decide +kernel
theorem dX10_laysFresh_106 : decode cX10_laysFresh 106 = .ok (.aload_n 0, 1) := by decide +kernel
theorem dX10_laysFresh_107 : decode cX10_laysFresh 107 = .ok (.getfield 40, 3) := by decide +kernel
theorem dX10_laysFresh_110 : decode cX10_laysFresh 110 = .ok (.iload_n 1, 1) := by decide +kernel
theorem dX10_laysFresh_111 : decode cX10_laysFresh 111 = .ok (.iaload, 1) := by decide +kernel
theorem dX10_laysFresh_112 : decode cX10_laysFresh 112 = .ok (.iadd, 1) := by decide +kernel
theorem dX10_laysFresh_113 : decode cX10_laysFresh 113 = .ok (.istore_n 1, 1) := by decide +kernel
theorem dX10_laysFresh_114 : decode cX10_laysFresh 114 = .ok (.goto (-107), 3) := by decide +kernel
theorem dX10_laysFresh_117 : decode cX10_laysFresh 117 = .ok (.return_, 1) := by decide +kernel
theorem dX10_freshPrice_0 : decode cX10_freshPrice 0 = .ok (.iconst 0, 1) := by decide +kernel
theorem dX10_freshPrice_1 : decode cX10_freshPrice 1 = .ok (.istore_n 1, 1) := by decide +kernel
theorem dX10_freshPrice_2 : decode cX10_freshPrice 2 = .ok (.iconst 0, 1) := by decide +kernel
theorem dX10_freshPrice_3 : decode cX10_freshPrice 3 = .ok (.istore_n 2, 1) := by decide +kernel
theorem dX10_freshPrice_4 : decode cX10_freshPrice 4 = .ok (.iload_n 2, 1) := by decide +kernel
theorem dX10_freshPrice_5 : decode cX10_freshPrice 5 = .ok (.aload_n 0, 1) := by decide +kernel
theorem dX10_freshPrice_6 : decode cX10_freshPrice 6 = .ok (.getfield 225, 3) := by decide +kernel
theorem dX10_freshPrice_9 : decode cX10_freshPrice 9 = .ok (.if_icmp .ge 22, 3) := by decide +kernel
theorem dX10_freshPrice_12 : decode cX10_freshPrice 12 = .ok (.iload_n 1, 1) := by decide +kernel
theorem dX10_freshPrice_13 : decode cX10_freshPrice 13 = .ok (.aload_n 0, 1) := by decide +kernel
theorem dX10_freshPrice_14 : decode cX10_freshPrice 14 = .ok (.aload_n 0, 1) := by decide +kernel
theorem dX10_freshPrice_15 : decode cX10_freshPrice 15 = .ok (.getfield 43, 3) := by decide +kernel
theorem dX10_freshPrice_18 : decode cX10_freshPrice 18 = .ok (.iload_n 2, 1) := by decide +kernel
theorem dX10_freshPrice_19 : decode cX10_freshPrice 19 = .ok (.iaload, 1) := by decide +kernel
theorem dX10_freshPrice_20 : decode cX10_freshPrice 20 = .ok (.invokevirtual 209, 3) := by decide +kernel
theorem dX10_freshPrice_23 : decode cX10_freshPrice 23 = .ok (.iadd, 1) := by decide +kernel
theorem dX10_freshPrice_24 : decode cX10_freshPrice 24 = .ok (.istore_n 1, 1) := by decide +kernel
theorem dX10_freshPrice_25 : decode cX10_freshPrice 25 = .ok (.iinc 2 1, 3) := by decide +kernel
theorem dX10_freshPrice_28 : decode cX10_freshPrice 28 = .ok (.goto (-24), 3) := by decide +kernel
theorem dX10_freshPrice_31 : decode cX10_freshPrice 31 = .ok (.iload_n 1, 1) := by decide +kernel
theorem dX10_freshPrice_32 : decode cX10_freshPrice 32 = .ok (.ireturn, 1) := by decide +kernel
theorem dX10_why_0 : decode cX10_why 0 = .ok (.aload_n 0, 1) := by decide +kernel
theorem dX10_why_1 : decode cX10_why 1 = .ok (.invokevirtual 228, 3) := by decide +kernel
theorem dX10_why_4 : decode cX10_why 4 = .ok (.aload_n 0, 1) := by decide +kernel
theorem dX10_why_5 : decode cX10_why 5 = .ok (.getfield 7, 3) := by decide +kernel
theorem dX10_why_8 : decode cX10_why 8 = .ok (.bipush 10, 2) := by decide +kernel
theorem dX10_why_10 : decode cX10_why 10 = .ok (.iaload, 1) := by decide +kernel
theorem dX10_why_11 : decode cX10_why 11 = .ok (.bipush 16, 2) := by decide +kernel
theorem dX10_why_13 : decode cX10_why 13 = .ok (.if_icmp .ne 5, 3) := by decide +kernel
theorem dX10_why_16 : decode cX10_why 16 = .ok (.iconst 2, 1) := by decide +kernel
theorem dX10_why_17 : decode cX10_why 17 = .ok (.ireturn, 1) := by decide +kernel
theorem dX10_why_18 : decode cX10_why 18 = .ok (.aload_n 0, 1) := by decide +kernel
theorem dX10_why_19 : decode cX10_why 19 = .ok (.getfield 7, 3) := by decide +kernel
theorem dX10_why_22 : decode cX10_why 22 = .ok (.bipush 9, 2) := by decide +kernel
theorem dX10_why_24 : decode cX10_why 24 = .ok (.iaload, 1) := by decide +kernel
theorem dX10_why_25 : decode cX10_why 25 = .ok (.aload_n 0, 1) := by decide +kernel
theorem dX10_why_26 : decode cX10_why 26 = .ok (.getfield 225, 3) := by decide +kernel
theorem dX10_why_29 : decode cX10_why 29 = .ok (.iadd, 1) := by decide +kernel
theorem dX10_why_30 : decode cX10_why 30 = .ok (.bipush 24, 2) := by decide +kernel
theorem dX10_why_32 : decode cX10_why 32 = .ok (.if_icmp .le 5, 3) := by decide +kernel
theorem dX10_why_35 : decode cX10_why 35 = .ok (.iconst 3, 1) := by decide +kernel
theorem dX10_why_36 : decode cX10_why 36 = .ok (.ireturn, 1) := by decide +kernel
theorem dX10_why_37 : decode cX10_why 37 = .ok (.aload_n 0, 1) := by decide +kernel
theorem dX10_why_38 : decode cX10_why 38 = .ok (.getfield 7, 3) := by decide +kernel
theorem dX10_why_41 : decode cX10_why 41 = .ok (.bipush 17, 2) := by decide +kernel
theorem dX10_why_43 : decode cX10_why 43 = .ok (.iload_n 1, 1) := by decide +kernel
theorem dX10_why_44 : decode cX10_why 44 = .ok (.iadd, 1) := by decide +kernel
theorem dX10_why_45 : decode cX10_why 45 = .ok (.iaload, 1) := by decide +kernel
theorem dX10_why_46 : decode cX10_why 46 = .ok (.aload_n 0, 1) := by decide +kernel
theorem dX10_why_47 : decode cX10_why 47 = .ok (.invokevirtual 231, 3) := by decide +kernel
theorem dX10_why_50 : decode cX10_why 50 = .ok (.aload_n 0, 1) := by decide +kernel
theorem dX10_why_51 : decode cX10_why 51 = .ok (.getfield 7, 3) := by decide +kernel
theorem dX10_why_54 : decode cX10_why 54 = .ok (.iconst 2, 1) := by decide +kernel
theorem dX10_why_55 : decode cX10_why 55 = .ok (.iaload, 1) := by decide +kernel
theorem dX10_why_56 : decode cX10_why 56 = .ok (.aload_n 0, 1) := by decide +kernel
theorem dX10_why_57 : decode cX10_why 57 = .ok (.getfield 37, 3) := by decide +kernel
theorem dX10_why_60 : decode cX10_why 60 = .ok (.iconst 0, 1) := by decide +kernel
theorem dX10_why_61 : decode cX10_why 61 = .ok (.iaload, 1) := by decide +kernel
theorem dX10_why_62 : decode cX10_why 62 = .ok (.imul, 1) := by decide +kernel
theorem dX10_why_63 : decode cX10_why 63 = .ok (.iadd, 1) := by decide +kernel
theorem dX10_why_64 : decode cX10_why 64 = .ok (.if_icmp .ge 7, 3) := by decide +kernel
theorem dX10_why_67 : decode cX10_why 67 = .ok (.iconst 4, 1) := by decide +kernel
theorem dX10_why_68 : decode cX10_why 68 = .ok (.goto 4, 3) := by decide +kernel
theorem dX10_why_71 : decode cX10_why 71 = .ok (.iconst 0, 1) := by decide +kernel
theorem dX10_why_72 : decode cX10_why 72 = .ok (.ireturn, 1) := by decide +kernel
theorem dX10_laysParts_0 : decode cX10_laysParts 0 = .ok (.iconst 0, 1) := by decide +kernel
theorem dX10_laysParts_1 : decode cX10_laysParts 1 = .ok (.istore_n 2, 1) := by decide +kernel
theorem dX10_laysParts_2 : decode cX10_laysParts 2 = .ok (.iconst 0, 1) := by decide +kernel
theorem dX10_laysParts_3 : decode cX10_laysParts 3 = .ok (.istore_n 3, 1) := by decide +kernel
theorem dX10_laysParts_4 : decode cX10_laysParts 4 = .ok (.iload_n 3, 1) := by decide +kernel
theorem dX10_laysParts_5 : decode cX10_laysParts 5 = .ok (.aload_n 0, 1) := by decide +kernel
theorem dX10_laysParts_6 : decode cX10_laysParts 6 = .ok (.getfield 122, 3) := by decide +kernel
theorem dX10_laysParts_9 : decode cX10_laysParts 9 = .ok (.if_icmp .ge 43, 3) := by decide +kernel
theorem dX10_laysParts_12 : decode cX10_laysParts 12 = .ok (.aload_n 0, 1) := by decide +kernel
theorem dX10_laysParts_13 : decode cX10_laysParts 13 = .ok (.getfield 7, 3) := by decide +kernel
theorem dX10_laysParts_16 : decode cX10_laysParts 16 = .ok (.iload_n 1, 1) := by decide +kernel
theorem dX10_laysParts_17 : decode cX10_laysParts 17 = .ok (.iconst 2, 1) := by decide +kernel
theorem dX10_laysParts_18 : decode cX10_laysParts 18 = .ok (.iadd, 1) := by decide +kernel
theorem dX10_laysParts_19 : decode cX10_laysParts 19 = .ok (.iload_n 2, 1) := by decide +kernel
theorem dX10_laysParts_20 : decode cX10_laysParts 20 = .ok (.iadd, 1) := by decide +kernel
theorem dX10_laysParts_21 : decode cX10_laysParts 21 = .ok (.aload_n 0, 1) := by decide +kernel
theorem dX10_laysParts_22 : decode cX10_laysParts 22 = .ok (.aload_n 0, 1) := by decide +kernel
theorem dX10_laysParts_23 : decode cX10_laysParts 23 = .ok (.iload_n 3, 1) := by decide +kernel
theorem dX10_laysParts_24 : decode cX10_laysParts 24 = .ok (.aload_n 0, 1) := by decide +kernel
theorem dX10_laysParts_25 : decode cX10_laysParts 25 = .ok (.getfield 40, 3) := by decide +kernel
theorem dX10_laysParts_28 : decode cX10_laysParts 28 = .ok (.iload_n 3, 1) := by decide +kernel
theorem dX10_laysParts_29 : decode cX10_laysParts 29 = .ok (.iaload, 1) := by decide +kernel
theorem dX10_laysParts_30 : decode cX10_laysParts 30 = .ok (.invokevirtual 142, 3) := by decide +kernel
theorem dX10_laysParts_33 : decode cX10_laysParts 33 = .ok (.invokevirtual 146, 3) := by decide +kernel
theorem dX10_laysParts_36 : decode cX10_laysParts 36 = .ok (.iastore, 1) := by decide +kernel
theorem dX10_laysParts_37 : decode cX10_laysParts 37 = .ok (.iinc 2 1, 3) := by decide +kernel
theorem dX10_laysParts_40 : decode cX10_laysParts 40 = .ok (.iload_n 3, 1) := by decide +kernel
theorem dX10_laysParts_41 : decode cX10_laysParts 41 = .ok (.aload_n 0, 1) := by decide +kernel
theorem dX10_laysParts_42 : decode cX10_laysParts 42 = .ok (.getfield 40, 3) := by decide +kernel
theorem dX10_laysParts_45 : decode cX10_laysParts 45 = .ok (.iload_n 3, 1) := by decide +kernel
theorem dX10_laysParts_46 : decode cX10_laysParts 46 = .ok (.iaload, 1) := by decide +kernel
theorem dX10_laysParts_47 : decode cX10_laysParts 47 = .ok (.iadd, 1) := by decide +kernel
theorem dX10_laysParts_48 : decode cX10_laysParts 48 = .ok (.istore_n 3, 1) := by decide +kernel
theorem dX10_laysParts_49 : decode cX10_laysParts 49 = .ok (.goto (-45), 3) := by decide +kernel
theorem dX10_laysParts_52 : decode cX10_laysParts 52 = .ok (.aload_n 0, 1) := by decide +kernel
theorem dX10_laysParts_53 : decode cX10_laysParts 53 = .ok (.getfield 7, 3) := by decide +kernel
theorem dX10_laysParts_56 : decode cX10_laysParts 56 = .ok (.iload_n 1, 1) := by decide +kernel
theorem dX10_laysParts_57 : decode cX10_laysParts 57 = .ok (.iconst 1, 1) := by decide +kernel
theorem dX10_laysParts_58 : decode cX10_laysParts 58 = .ok (.iadd, 1) := by decide +kernel
theorem dX10_laysParts_59 : decode cX10_laysParts 59 = .ok (.iload_n 2, 1) := by decide +kernel
theorem dX10_laysParts_60 : decode cX10_laysParts 60 = .ok (.iastore, 1) := by decide +kernel
theorem dX10_laysParts_61 : decode cX10_laysParts 61 = .ok (.iload_n 2, 1) := by decide +kernel
theorem dX10_laysParts_62 : decode cX10_laysParts 62 = .ok (.ireturn, 1) := by decide +kernel
theorem dX10_stores_0 : decode cX10_stores 0 = .ok (.aload_n 0, 1) := by decide +kernel
theorem dX10_stores_1 : decode cX10_stores 1 = .ok (.invokevirtual 228, 3) := by decide +kernel
theorem dX10_stores_4 : decode cX10_stores 4 = .ok (.iconst 0, 1) := by decide +kernel
theorem dX10_stores_5 : decode cX10_stores 5 = .ok (.istore_n 2, 1) := by decide +kernel
theorem dX10_stores_6 : decode cX10_stores 6 = .ok (.iload_n 2, 1) := by decide +kernel
theorem dX10_stores_7 : decode cX10_stores 7 = .ok (.aload_n 0, 1) := by decide +kernel
theorem dX10_stores_8 : decode cX10_stores 8 = .ok (.getfield 225, 3) := by decide +kernel
theorem dX10_stores_11 : decode cX10_stores 11 = .ok (.if_icmp .ge 21, 3) := by decide +kernel
theorem dX10_stores_14 : decode cX10_stores 14 = .ok (.aload_n 0, 1) := by decide +kernel
theorem dX10_stores_15 : decode cX10_stores 15 = .ok (.aload_n 0, 1) := by decide +kernel
theorem dX10_stores_16 : decode cX10_stores 16 = .ok (.getfield 43, 3) := by decide +kernel
theorem dX10_stores_19 : decode cX10_stores 19 = .ok (.iload_n 2, 1) := by decide +kernel
theorem dX10_stores_20 : decode cX10_stores 20 = .ok (.iaload, 1) := by decide +kernel
theorem dX10_stores_21 : decode cX10_stores 21 = .ok (.iload_n 1, 1) := by decide +kernel
theorem dX10_stores_22 : decode cX10_stores 22 = .ok (.invokevirtual 234, 3) := by decide +kernel
theorem dX10_stores_25 : decode cX10_stores 25 = .ok (.istore_n 3, 1) := by decide +kernel
theorem dX10_stores_26 : decode cX10_stores 26 = .ok (.iinc 2 1, 3) := by decide +kernel
theorem dX10_stores_29 : decode cX10_stores 29 = .ok (.goto (-23), 3) := by decide +kernel
theorem dX10_stores_32 : decode cX10_stores 32 = .ok (.aload_n 0, 1) := by decide +kernel
theorem dX10_stores_33 : decode cX10_stores 33 = .ok (.getfield 7, 3) := by decide +kernel
theorem dX10_stores_36 : decode cX10_stores 36 = .ok (.bipush 10, 2) := by decide +kernel
theorem dX10_stores_38 : decode cX10_stores 38 = .ok (.iaload, 1) := by decide +kernel
theorem dX10_stores_39 : decode cX10_stores 39 = .ok (.istore_n 2, 1) := by decide +kernel
theorem dX10_stores_40 : decode cX10_stores 40 = .ok (.sipush 141, 3) := by decide +kernel
theorem dX10_stores_43 : decode cX10_stores 43 = .ok (.bipush 14, 2) := by decide +kernel
theorem dX10_stores_45 : decode cX10_stores 45 = .ok (.iload_n 2, 1) := by decide +kernel
theorem dX10_stores_46 : decode cX10_stores 46 = .ok (.imul, 1) := by decide +kernel
theorem dX10_stores_47 : decode cX10_stores 47 = .ok (.iadd, 1) := by decide +kernel
theorem dX10_stores_48 : decode cX10_stores 48 = .ok (.istore_n 3, 1) := by decide +kernel
theorem dX10_stores_49 : decode cX10_stores 49 = .ok (.aload_n 0, 1) := by decide +kernel
theorem dX10_stores_50 : decode cX10_stores 50 = .ok (.getfield 7, 3) := by decide +kernel
theorem dX10_stores_53 : decode cX10_stores 53 = .ok (.iload_n 3, 1) := by decide +kernel
theorem dX10_stores_54 : decode cX10_stores 54 = .ok (.iconst 0, 1) := by decide +kernel
theorem dX10_stores_55 : decode cX10_stores 55 = .ok (.iadd, 1) := by decide +kernel
theorem dX10_stores_56 : decode cX10_stores 56 = .ok (.iload_n 1, 1) := by decide +kernel
theorem dX10_stores_57 : decode cX10_stores 57 = .ok (.iastore, 1) := by decide +kernel
theorem dX10_stores_58 : decode cX10_stores 58 = .ok (.aload_n 0, 1) := by decide +kernel
theorem dX10_stores_59 : decode cX10_stores 59 = .ok (.iload_n 3, 1) := by decide +kernel
theorem dX10_stores_60 : decode cX10_stores 60 = .ok (.invokevirtual 237, 3) := by decide +kernel
theorem dX10_stores_63 : decode cX10_stores 63 = .ok (.istore 4, 2) := by decide +kernel
theorem dX10_stores_65 : decode cX10_stores 65 = .ok (.iconst 0, 1) := by decide +kernel
theorem dX10_stores_66 : decode cX10_stores 66 = .ok (.istore 5, 2) := by decide +kernel
theorem dX10_stores_68 : decode cX10_stores 68 = .ok (.iload 5, 2) := by decide +kernel
theorem dX10_stores_70 : decode cX10_stores 70 = .ok (.iload 4, 2) := by decide +kernel
theorem dX10_stores_72 : decode cX10_stores 72 = .ok (.if_icmp .ge 25, 3) := by decide +kernel
theorem dX10_stores_75 : decode cX10_stores 75 = .ok (.aload_n 0, 1) := by decide +kernel
theorem dX10_stores_76 : decode cX10_stores 76 = .ok (.aload_n 0, 1) := by decide +kernel
theorem dX10_stores_77 : decode cX10_stores 77 = .ok (.getfield 7, 3) := by decide +kernel
theorem dX10_stores_80 : decode cX10_stores 80 = .ok (.iload_n 3, 1) := by decide +kernel
theorem dX10_stores_81 : decode cX10_stores 81 = .ok (.iconst 2, 1) := by decide +kernel
theorem dX10_stores_82 : decode cX10_stores 82 = .ok (.iadd, 1) := by decide +kernel
theorem dX10_stores_83 : decode cX10_stores 83 = .ok (.iload 5, 2) := by decide +kernel
theorem dX10_stores_85 : decode cX10_stores 85 = .ok (.iadd, 1) := by decide +kernel
theorem dX10_stores_86 : decode cX10_stores 86 = .ok (.iaload, 1) := by decide +kernel
theorem dX10_stores_87 : decode cX10_stores 87 = .ok (.iconst 1, 1) := by decide +kernel
theorem dX10_stores_88 : decode cX10_stores 88 = .ok (.invokevirtual 240, 3) := by decide +kernel
theorem dX10_stores_91 : decode cX10_stores 91 = .ok (.iinc 5 1, 3) := by decide +kernel
theorem dX10_stores_94 : decode cX10_stores 94 = .ok (.goto (-26), 3) := by decide +kernel
theorem dX10_stores_97 : decode cX10_stores 97 = .ok (.aload_n 0, 1) := by decide +kernel
theorem dX10_stores_98 : decode cX10_stores 98 = .ok (.iload_n 1, 1) := by decide +kernel
theorem dX10_stores_99 : decode cX10_stores 99 = .ok (.aload_n 0, 1) := by decide +kernel
theorem dX10_stores_100 : decode cX10_stores 100 = .ok (.getfield 7, 3) := by decide +kernel
theorem dX10_stores_103 : decode cX10_stores 103 = .ok (.iconst 2, 1) := by decide +kernel
theorem dX10_stores_104 : decode cX10_stores 104 = .ok (.iaload, 1) := by decide +kernel
theorem dX10_stores_105 : decode cX10_stores 105 = .ok (.iload 4, 2) := by decide +kernel
theorem dX10_stores_107 : decode cX10_stores 107 = .ok (.imul, 1) := by decide +kernel
theorem dX10_stores_108 : decode cX10_stores 108 = .ok (.bipush 8, 2) := by decide +kernel
theorem dX10_stores_110 : decode cX10_stores 110 = .ok (.iconst 2, 1) := by decide +kernel
theorem dX10_stores_111 : decode cX10_stores 111 = .ok (.invokevirtual 212, 3) := by decide +kernel
theorem dX10_stores_114 : decode cX10_stores 114 = .ok (.aload_n 0, 1) := by decide +kernel
theorem dX10_stores_115 : decode cX10_stores 115 = .ok (.getfield 7, 3) := by decide +kernel
theorem dX10_stores_118 : decode cX10_stores 118 = .ok (.bipush 10, 2) := by decide +kernel
theorem dX10_stores_120 : decode cX10_stores 120 = .ok (.dup2, 1) := by decide +kernel
theorem dX10_stores_121 : decode cX10_stores 121 = .ok (.iaload, 1) := by decide +kernel
theorem dX10_stores_122 : decode cX10_stores 122 = .ok (.iconst 1, 1) := by decide +kernel
theorem dX10_stores_123 : decode cX10_stores 123 = .ok (.iadd, 1) := by decide +kernel
theorem dX10_stores_124 : decode cX10_stores 124 = .ok (.iastore, 1) := by decide +kernel
theorem dX10_stores_125 : decode cX10_stores 125 = .ok (.iload_n 2, 1) := by decide +kernel
theorem dX10_stores_126 : decode cX10_stores 126 = .ok (.ireturn, 1) := by decide +kernel
theorem dX10_spellsWord_0 : decode cX10_spellsWord 0 = .ok (.aload_n 0, 1) := by decide +kernel
theorem dX10_spellsWord_1 : decode cX10_spellsWord 1 = .ok (.iconst 0, 1) := by decide +kernel
theorem dX10_spellsWord_2 : decode cX10_spellsWord 2 = .ok (.putfield 122, 3) := by decide +kernel
theorem dX10_spellsWord_5 : decode cX10_spellsWord 5 = .ok (.iconst 0, 1) := by decide +kernel
theorem dX10_spellsWord_6 : decode cX10_spellsWord 6 = .ok (.istore_n 2, 1) := by decide +kernel
theorem dX10_spellsWord_7 : decode cX10_spellsWord 7 = .ok (.iload_n 2, 1) := by decide +kernel
theorem dX10_spellsWord_8 : decode cX10_spellsWord 8 = .ok (.aload_n 0, 1) := by decide +kernel
theorem dX10_spellsWord_9 : decode cX10_spellsWord 9 = .ok (.iload_n 1, 1) := by decide +kernel
theorem dX10_spellsWord_10 : decode cX10_spellsWord 10 = .ok (.iconst 1, 1) := by decide +kernel
theorem dX10_spellsWord_11 : decode cX10_spellsWord 11 = .ok (.invokevirtual 244, 3) := by decide +kernel
theorem dX10_spellsWord_14 : decode cX10_spellsWord 14 = .ok (.if_icmp .ge 74, 3) := by decide +kernel
theorem dX10_spellsWord_17 : decode cX10_spellsWord 17 = .ok (.aload_n 0, 1) := by decide +kernel
theorem dX10_spellsWord_18 : decode cX10_spellsWord 18 = .ok (.aload_n 0, 1) := by decide +kernel
theorem dX10_spellsWord_19 : decode cX10_spellsWord 19 = .ok (.iload_n 1, 1) := by decide +kernel
theorem dX10_spellsWord_20 : decode cX10_spellsWord 20 = .ok (.iconst 2, 1) := by decide +kernel
theorem dX10_spellsWord_21 : decode cX10_spellsWord 21 = .ok (.iload_n 2, 1) := by decide +kernel
theorem dX10_spellsWord_22 : decode cX10_spellsWord 22 = .ok (.iadd, 1) := by decide +kernel
theorem dX10_spellsWord_23 : decode cX10_spellsWord 23 = .ok (.invokevirtual 244, 3) := by decide +kernel
theorem dX10_spellsWord_26 : decode cX10_spellsWord 26 = .ok (.iconst 0, 1) := by decide +kernel
theorem dX10_spellsWord_27 : decode cX10_spellsWord 27 = .ok (.invokevirtual 203, 3) := by decide +kernel
theorem dX10_spellsWord_30 : decode cX10_spellsWord 30 = .ok (.istore_n 3, 1) := by decide +kernel
theorem dX10_spellsWord_31 : decode cX10_spellsWord 31 = .ok (.iload_n 3, 1) := by decide +kernel
theorem dX10_spellsWord_32 : decode cX10_spellsWord 32 = .ok (.invokestatic 206, 3) := by decide +kernel
theorem dX10_spellsWord_35 : decode cX10_spellsWord 35 = .ok (.istore 4, 2) := by decide +kernel
theorem dX10_spellsWord_37 : decode cX10_spellsWord 37 = .ok (.iload 4, 2) := by decide +kernel
theorem dX10_spellsWord_39 : decode cX10_spellsWord 39 = .ok (.iconst 1, 1) := by decide +kernel
theorem dX10_spellsWord_40 : decode cX10_spellsWord 40 = .ok (.isub, 1) := by decide +kernel
theorem dX10_spellsWord_41 : decode cX10_spellsWord 41 = .ok (.istore 5, 2) := by decide +kernel
theorem dX10_spellsWord_43 : decode cX10_spellsWord 43 = .ok (.iload 5, 2) := by decide +kernel
theorem dX10_spellsWord_45 : decode cX10_spellsWord 45 = .ok (.ifCond .lt 37, 3) := by decide +kernel
theorem dX10_spellsWord_48 : decode cX10_spellsWord 48 = .ok (.aload_n 0, 1) := by decide +kernel
theorem dX10_spellsWord_49 : decode cX10_spellsWord 49 = .ok (.getfield 31, 3) := by decide +kernel
theorem dX10_spellsWord_52 : decode cX10_spellsWord 52 = .ok (.aload_n 0, 1) := by decide +kernel
theorem dX10_spellsWord_53 : decode cX10_spellsWord 53 = .ok (.getfield 122, 3) := by decide +kernel
theorem dX10_spellsWord_56 : decode cX10_spellsWord 56 = .ok (.iload_n 3, 1) := by decide +kernel
theorem dX10_spellsWord_57 : decode cX10_spellsWord 57 = .ok (.iconst 5, 1) := by decide +kernel
theorem dX10_spellsWord_58 : decode cX10_spellsWord 58 = .ok (.iload 5, 2) := by decide +kernel
theorem dX10_spellsWord_60 : decode cX10_spellsWord 60 = .ok (.imul, 1) := by decide +kernel
theorem dX10_spellsWord_61 : decode cX10_spellsWord 61 = .ok (.ishr, 1) := by decide +kernel
theorem dX10_spellsWord_62 : decode cX10_spellsWord 62 = .ok (.bipush 31, 2) := by decide +kernel
theorem dX10_spellsWord_64 : decode cX10_spellsWord 64 = .ok (.iand, 1) := by decide +kernel
theorem dX10_spellsWord_65 : decode cX10_spellsWord 65 = .ok (.iastore, 1) := by decide +kernel
theorem dX10_spellsWord_66 : decode cX10_spellsWord 66 = .ok (.aload_n 0, 1) := by decide +kernel
theorem dX10_spellsWord_67 : decode cX10_spellsWord 67 = .ok (.dup, 1) := by decide +kernel
theorem dX10_spellsWord_68 : decode cX10_spellsWord 68 = .ok (.getfield 122, 3) := by decide +kernel
theorem dX10_spellsWord_71 : decode cX10_spellsWord 71 = .ok (.iconst 1, 1) := by decide +kernel
theorem dX10_spellsWord_72 : decode cX10_spellsWord 72 = .ok (.iadd, 1) := by decide +kernel
theorem dX10_spellsWord_73 : decode cX10_spellsWord 73 = .ok (.putfield 122, 3) := by decide +kernel
theorem dX10_spellsWord_76 : decode cX10_spellsWord 76 = .ok (.iinc 5 (-1), 3) := by decide +kernel
theorem dX10_spellsWord_79 : decode cX10_spellsWord 79 = .ok (.goto (-36), 3) := by decide +kernel
theorem dX10_spellsWord_82 : decode cX10_spellsWord 82 = .ok (.iinc 2 1, 3) := by decide +kernel
theorem dX10_spellsWord_85 : decode cX10_spellsWord 85 = .ok (.goto (-78), 3) := by decide +kernel
theorem dX10_spellsWord_88 : decode cX10_spellsWord 88 = .ok (.return_, 1) := by decide +kernel
theorem dX10_fewestOf_0 : decode cX10_fewestOf 0 = .ok (.aload_n 0, 1) := by decide +kernel
theorem dX10_fewestOf_1 : decode cX10_fewestOf 1 = .ok (.iload_n 1, 1) := by decide +kernel
theorem dX10_fewestOf_2 : decode cX10_fewestOf 2 = .ok (.invokevirtual 247, 3) := by decide +kernel
theorem dX10_fewestOf_5 : decode cX10_fewestOf 5 = .ok (.aload_n 0, 1) := by decide +kernel
theorem dX10_fewestOf_6 : decode cX10_fewestOf 6 = .ok (.iconst 0, 1) := by decide +kernel
theorem dX10_fewestOf_7 : decode cX10_fewestOf 7 = .ok (.iload_n 2, 1) := by decide +kernel
theorem dX10_fewestOf_8 : decode cX10_fewestOf 8 = .ok (.invokevirtual 221, 3) := by decide +kernel
theorem dX10_fewestOf_11 : decode cX10_fewestOf 11 = .ok (.aload_n 0, 1) := by decide +kernel
theorem dX10_fewestOf_12 : decode cX10_fewestOf 12 = .ok (.getfield 37, 3) := by decide +kernel
theorem dX10_fewestOf_15 : decode cX10_fewestOf 15 = .ok (.iconst 0, 1) := by decide +kernel
theorem dX10_fewestOf_16 : decode cX10_fewestOf 16 = .ok (.iaload, 1) := by decide +kernel
theorem dX10_fewestOf_17 : decode cX10_fewestOf 17 = .ok (.ireturn, 1) := by decide +kernel
theorem dX10_recuts_0 : decode cX10_recuts 0 = .ok (.aload_n 0, 1) := by decide +kernel
theorem dX10_recuts_1 : decode cX10_recuts 1 = .ok (.iload_n 1, 1) := by decide +kernel
theorem dX10_recuts_2 : decode cX10_recuts 2 = .ok (.invokevirtual 247, 3) := by decide +kernel
theorem dX10_recuts_5 : decode cX10_recuts 5 = .ok (.aload_n 0, 1) := by decide +kernel
theorem dX10_recuts_6 : decode cX10_recuts 6 = .ok (.iconst 0, 1) := by decide +kernel
theorem dX10_recuts_7 : decode cX10_recuts 7 = .ok (.iconst 0, 1) := by decide +kernel
theorem dX10_recuts_8 : decode cX10_recuts 8 = .ok (.invokevirtual 221, 3) := by decide +kernel
theorem dX10_recuts_11 : decode cX10_recuts 11 = .ok (.sipush 141, 3) := by decide +kernel
theorem dX10_recuts_14 : decode cX10_recuts 14 = .ok (.bipush 14, 2) := by decide +kernel
theorem dX10_recuts_16 : decode cX10_recuts 16 = .ok (.iload_n 1, 1) := by decide +kernel
theorem dX10_recuts_17 : decode cX10_recuts 17 = .ok (.imul, 1) := by decide +kernel
theorem dX10_recuts_18 : decode cX10_recuts 18 = .ok (.iadd, 1) := by decide +kernel
theorem dX10_recuts_19 : decode cX10_recuts 19 = .ok (.istore_n 2, 1) := by decide +kernel
theorem dX10_recuts_20 : decode cX10_recuts 20 = .ok (.iconst 0, 1) := by decide +kernel
theorem dX10_recuts_21 : decode cX10_recuts 21 = .ok (.istore_n 3, 1) := by decide +kernel
theorem dX10_recuts_22 : decode cX10_recuts 22 = .ok (.iload_n 3, 1) := by decide +kernel
theorem dX10_recuts_23 : decode cX10_recuts 23 = .ok (.aload_n 0, 1) := by decide +kernel
theorem dX10_recuts_24 : decode cX10_recuts 24 = .ok (.getfield 122, 3) := by decide +kernel
theorem dX10_recuts_27 : decode cX10_recuts 27 = .ok (.if_icmp .ge 35, 3) := by decide +kernel
theorem dX10_recuts_30 : decode cX10_recuts 30 = .ok (.aload_n 0, 1) := by decide +kernel
theorem dX10_recuts_31 : decode cX10_recuts 31 = .ok (.aload_n 0, 1) := by decide +kernel
theorem dX10_recuts_32 : decode cX10_recuts 32 = .ok (.aload_n 0, 1) := by decide +kernel
theorem dX10_recuts_33 : decode cX10_recuts 33 = .ok (.iload_n 3, 1) := by decide +kernel
theorem dX10_recuts_34 : decode cX10_recuts 34 = .ok (.aload_n 0, 1) := by decide +kernel
theorem dX10_recuts_35 : decode cX10_recuts 35 = .ok (.getfield 40, 3) := by decide +kernel
theorem dX10_recuts_38 : decode cX10_recuts 38 = .ok (.iload_n 3, 1) := by decide +kernel
theorem dX10_recuts_39 : decode cX10_recuts 39 = .ok (.iaload, 1) := by decide +kernel
theorem dX10_recuts_40 : decode cX10_recuts 40 = .ok (.invokevirtual 142, 3) := by decide +kernel
theorem dX10_recuts_43 : decode cX10_recuts 43 = .ok (.invokevirtual 146, 3) := by decide +kernel
theorem dX10_recuts_46 : decode cX10_recuts 46 = .ok (.iconst 1, 1) := by decide +kernel
theorem dX10_recuts_47 : decode cX10_recuts 47 = .ok (.invokevirtual 240, 3) := by decide +kernel
theorem dX10_recuts_50 : decode cX10_recuts 50 = .ok (.iload_n 3, 1) := by decide +kernel
theorem dX10_recuts_51 : decode cX10_recuts 51 = .ok (.aload_n 0, 1) := by decide +kernel
theorem dX10_recuts_52 : decode cX10_recuts 52 = .ok (.getfield 40, 3) := by decide +kernel
theorem dX10_recuts_55 : decode cX10_recuts 55 = .ok (.iload_n 3, 1) := by decide +kernel
theorem dX10_recuts_56 : decode cX10_recuts 56 = .ok (.iaload, 1) := by decide +kernel
theorem dX10_recuts_57 : decode cX10_recuts 57 = .ok (.iadd, 1) := by decide +kernel
theorem dX10_recuts_58 : decode cX10_recuts 58 = .ok (.istore_n 3, 1) := by decide +kernel
theorem dX10_recuts_59 : decode cX10_recuts 59 = .ok (.goto (-37), 3) := by decide +kernel
theorem dX10_recuts_62 : decode cX10_recuts 62 = .ok (.aload_n 0, 1) := by decide +kernel
theorem dX10_recuts_63 : decode cX10_recuts 63 = .ok (.getfield 7, 3) := by decide +kernel
theorem dX10_recuts_66 : decode cX10_recuts 66 = .ok (.iload_n 2, 1) := by decide +kernel
theorem dX10_recuts_67 : decode cX10_recuts 67 = .ok (.iconst 1, 1) := by decide +kernel
theorem dX10_recuts_68 : decode cX10_recuts 68 = .ok (.iadd, 1) := by decide +kernel
theorem dX10_recuts_69 : decode cX10_recuts 69 = .ok (.iaload, 1) := by decide +kernel
theorem dX10_recuts_70 : decode cX10_recuts 70 = .ok (.istore_n 3, 1) := by decide +kernel
theorem dX10_recuts_71 : decode cX10_recuts 71 = .ok (.iconst 0, 1) := by decide +kernel
theorem dX10_recuts_72 : decode cX10_recuts 72 = .ok (.istore 4, 2) := by decide +kernel
theorem dX10_recuts_74 : decode cX10_recuts 74 = .ok (.iload 4, 2) := by decide +kernel
theorem dX10_recuts_76 : decode cX10_recuts 76 = .ok (.iload_n 3, 1) := by decide +kernel
theorem dX10_recuts_77 : decode cX10_recuts 77 = .ok (.if_icmp .ge 25, 3) := by decide +kernel
theorem dX10_recuts_80 : decode cX10_recuts 80 = .ok (.aload_n 0, 1) := by decide +kernel
theorem dX10_recuts_81 : decode cX10_recuts 81 = .ok (.aload_n 0, 1) := by decide +kernel
theorem dX10_recuts_82 : decode cX10_recuts 82 = .ok (.getfield 7, 3) := by decide +kernel
theorem dX10_recuts_85 : decode cX10_recuts 85 = .ok (.iload_n 2, 1) := by decide +kernel
theorem dX10_recuts_86 : decode cX10_recuts 86 = .ok (.iconst 2, 1) := by decide +kernel
theorem dX10_recuts_87 : decode cX10_recuts 87 = .ok (.iadd, 1) := by decide +kernel
theorem dX10_recuts_88 : decode cX10_recuts 88 = .ok (.iload 4, 2) := by decide +kernel
theorem dX10_recuts_90 : decode cX10_recuts 90 = .ok (.iadd, 1) := by decide +kernel
theorem dX10_recuts_91 : decode cX10_recuts 91 = .ok (.iaload, 1) := by decide +kernel
theorem dX10_recuts_92 : decode cX10_recuts 92 = .ok (.iconst (-1), 1) := by decide +kernel
theorem dX10_recuts_93 : decode cX10_recuts 93 = .ok (.invokevirtual 240, 3) := by decide +kernel
theorem dX10_recuts_96 : decode cX10_recuts 96 = .ok (.iinc 4 1, 3) := by decide +kernel
theorem dX10_recuts_99 : decode cX10_recuts 99 = .ok (.goto (-25), 3) := by decide +kernel
theorem dX10_recuts_102 : decode cX10_recuts 102 = .ok (.aload_n 0, 1) := by decide +kernel
theorem dX10_recuts_103 : decode cX10_recuts 103 = .ok (.getfield 7, 3) := by decide +kernel
theorem dX10_recuts_106 : decode cX10_recuts 106 = .ok (.iconst 2, 1) := by decide +kernel
theorem dX10_recuts_107 : decode cX10_recuts 107 = .ok (.iaload, 1) := by decide +kernel
theorem dX10_recuts_108 : decode cX10_recuts 108 = .ok (.iload_n 3, 1) := by decide +kernel
theorem dX10_recuts_109 : decode cX10_recuts 109 = .ok (.aload_n 0, 1) := by decide +kernel
theorem dX10_recuts_110 : decode cX10_recuts 110 = .ok (.iload_n 2, 1) := by decide +kernel
theorem dX10_recuts_111 : decode cX10_recuts 111 = .ok (.invokevirtual 237, 3) := by decide +kernel
theorem dX10_recuts_114 : decode cX10_recuts 114 = .ok (.isub, 1) := by decide +kernel
theorem dX10_recuts_115 : decode cX10_recuts 115 = .ok (.imul, 1) := by decide +kernel
theorem dX10_recuts_116 : decode cX10_recuts 116 = .ok (.istore 4, 2) := by decide +kernel
theorem dX10_recuts_118 : decode cX10_recuts 118 = .ok (.aload_n 0, 1) := by decide +kernel
theorem dX10_recuts_119 : decode cX10_recuts 119 = .ok (.aload_n 0, 1) := by decide +kernel
theorem dX10_recuts_120 : decode cX10_recuts 120 = .ok (.getfield 7, 3) := by decide +kernel
theorem dX10_recuts_123 : decode cX10_recuts 123 = .ok (.iload_n 2, 1) := by decide +kernel
theorem dX10_recuts_124 : decode cX10_recuts 124 = .ok (.iconst 0, 1) := by decide +kernel
theorem dX10_recuts_125 : decode cX10_recuts 125 = .ok (.iadd, 1) := by decide +kernel
theorem dX10_recuts_126 : decode cX10_recuts 126 = .ok (.iaload, 1) := by decide +kernel
theorem dX10_recuts_127 : decode cX10_recuts 127 = .ok (.iload 4, 2) := by decide +kernel
theorem dX10_recuts_129 : decode cX10_recuts 129 = .ok (.ineg, 1) := by decide +kernel
theorem dX10_recuts_130 : decode cX10_recuts 130 = .ok (.bipush 8, 2) := by decide +kernel
theorem dX10_recuts_132 : decode cX10_recuts 132 = .ok (.iconst 2, 1) := by decide +kernel
theorem dX10_recuts_133 : decode cX10_recuts 133 = .ok (.invokevirtual 212, 3) := by decide +kernel
theorem dX10_recuts_136 : decode cX10_recuts 136 = .ok (.aload_n 0, 1) := by decide +kernel
theorem dX10_recuts_137 : decode cX10_recuts 137 = .ok (.getfield 7, 3) := by decide +kernel
theorem dX10_recuts_140 : decode cX10_recuts 140 = .ok (.bipush 13, 2) := by decide +kernel
theorem dX10_recuts_142 : decode cX10_recuts 142 = .ok (.dup2, 1) := by decide +kernel
theorem dX10_recuts_143 : decode cX10_recuts 143 = .ok (.iaload, 1) := by decide +kernel
theorem dX10_recuts_144 : decode cX10_recuts 144 = .ok (.iload 4, 2) := by decide +kernel
theorem dX10_recuts_146 : decode cX10_recuts 146 = .ok (.iadd, 1) := by decide +kernel
theorem dX10_recuts_147 : decode cX10_recuts 147 = .ok (.iastore, 1) := by decide +kernel
theorem dX10_recuts_148 : decode cX10_recuts 148 = .ok (.aload_n 0, 1) := by decide +kernel
theorem dX10_recuts_149 : decode cX10_recuts 149 = .ok (.getfield 7, 3) := by decide +kernel
theorem dX10_recuts_152 : decode cX10_recuts 152 = .ok (.bipush 14, 2) := by decide +kernel
theorem dX10_recuts_154 : decode cX10_recuts 154 = .ok (.dup2, 1) := by decide +kernel
theorem dX10_recuts_155 : decode cX10_recuts 155 = .ok (.iaload, 1) := by decide +kernel
theorem dX10_recuts_156 : decode cX10_recuts 156 = .ok (.iload 4, 2) := by decide +kernel
theorem dX10_recuts_158 : decode cX10_recuts 158 = .ok (.iadd, 1) := by decide +kernel
theorem dX10_recuts_159 : decode cX10_recuts 159 = .ok (.iastore, 1) := by decide +kernel
theorem dX10_recuts_160 : decode cX10_recuts 160 = .ok (.iload 4, 2) := by decide +kernel
theorem dX10_recuts_162 : decode cX10_recuts 162 = .ok (.ireturn, 1) := by decide +kernel
theorem dX10_goesBack_0 : decode cX10_goesBack 0 = .ok (.aload_n 0, 1) := by decide +kernel
theorem dX10_goesBack_1 : decode cX10_goesBack 1 = .ok (.iload_n 1, 1) := by decide +kernel
theorem dX10_goesBack_2 : decode cX10_goesBack 2 = .ok (.iconst 2, 1) := by decide +kernel
theorem dX10_goesBack_3 : decode cX10_goesBack 3 = .ok (.invokevirtual 203, 3) := by decide +kernel
theorem dX10_goesBack_6 : decode cX10_goesBack 6 = .ok (.istore_n 2, 1) := by decide +kernel
theorem dX10_goesBack_7 : decode cX10_goesBack 7 = .ok (.aload_n 0, 1) := by decide +kernel
theorem dX10_goesBack_8 : decode cX10_goesBack 8 = .ok (.iload_n 1, 1) := by decide +kernel
theorem dX10_goesBack_9 : decode cX10_goesBack 9 = .ok (.iconst 1, 1) := by decide +kernel
theorem dX10_goesBack_10 : decode cX10_goesBack 10 = .ok (.invokevirtual 203, 3) := by decide +kernel
theorem dX10_goesBack_13 : decode cX10_goesBack 13 = .ok (.aload_n 0, 1) := by decide +kernel
theorem dX10_goesBack_14 : decode cX10_goesBack 14 = .ok (.getfield 7, 3) := by decide +kernel
theorem dX10_goesBack_17 : decode cX10_goesBack 17 = .ok (.iconst 4, 1) := by decide +kernel
theorem dX10_goesBack_18 : decode cX10_goesBack 18 = .ok (.iaload, 1) := by decide +kernel
theorem dX10_goesBack_19 : decode cX10_goesBack 19 = .ok (.imul, 1) := by decide +kernel
theorem dX10_goesBack_20 : decode cX10_goesBack 20 = .ok (.bipush 100, 2) := by decide +kernel
theorem dX10_goesBack_22 : decode cX10_goesBack 22 = .ok (.idiv, 1) := by decide +kernel
theorem dX10_goesBack_23 : decode cX10_goesBack 23 = .ok (.istore_n 3, 1) := by decide +kernel
theorem dX10_goesBack_24 : decode cX10_goesBack 24 = .ok (.aload_n 0, 1) := by decide +kernel
theorem dX10_goesBack_25 : decode cX10_goesBack 25 = .ok (.getfield 7, 3) := by decide +kernel
theorem dX10_goesBack_28 : decode cX10_goesBack 28 = .ok (.bipush 7, 2) := by decide +kernel
theorem dX10_goesBack_30 : decode cX10_goesBack 30 = .ok (.dup2, 1) := by decide +kernel
theorem dX10_goesBack_31 : decode cX10_goesBack 31 = .ok (.iaload, 1) := by decide +kernel
theorem dX10_goesBack_32 : decode cX10_goesBack 32 = .ok (.iload_n 3, 1) := by decide +kernel
theorem dX10_goesBack_33 : decode cX10_goesBack 33 = .ok (.isub, 1) := by decide +kernel
theorem dX10_goesBack_34 : decode cX10_goesBack 34 = .ok (.iastore, 1) := by decide +kernel
theorem dX10_goesBack_35 : decode cX10_goesBack 35 = .ok (.aload_n 0, 1) := by decide +kernel
theorem dX10_goesBack_36 : decode cX10_goesBack 36 = .ok (.getfield 7, 3) := by decide +kernel
theorem dX10_goesBack_39 : decode cX10_goesBack 39 = .ok (.bipush 17, 2) := by decide +kernel
theorem dX10_goesBack_41 : decode cX10_goesBack 41 = .ok (.iload_n 2, 1) := by decide +kernel
theorem dX10_goesBack_42 : decode cX10_goesBack 42 = .ok (.iadd, 1) := by decide +kernel
theorem dX10_goesBack_43 : decode cX10_goesBack 43 = .ok (.dup2, 1) := by decide +kernel
theorem dX10_goesBack_44 : decode cX10_goesBack 44 = .ok (.iaload, 1) := by decide +kernel
theorem dX10_goesBack_45 : decode cX10_goesBack 45 = .ok (.iload_n 3, 1) := by decide +kernel
theorem dX10_goesBack_46 : decode cX10_goesBack 46 = .ok (.iadd, 1) := by decide +kernel
theorem dX10_goesBack_47 : decode cX10_goesBack 47 = .ok (.iastore, 1) := by decide +kernel
theorem dX10_goesBack_48 : decode cX10_goesBack 48 = .ok (.aload_n 0, 1) := by decide +kernel
theorem dX10_goesBack_49 : decode cX10_goesBack 49 = .ok (.getfield 7, 3) := by decide +kernel
theorem dX10_goesBack_52 : decode cX10_goesBack 52 = .ok (.bipush 12, 2) := by decide +kernel
theorem dX10_goesBack_54 : decode cX10_goesBack 54 = .ok (.dup2, 1) := by decide +kernel
theorem dX10_goesBack_55 : decode cX10_goesBack 55 = .ok (.iaload, 1) := by decide +kernel
theorem dX10_goesBack_56 : decode cX10_goesBack 56 = .ok (.iload_n 3, 1) := by decide +kernel
theorem dX10_goesBack_57 : decode cX10_goesBack 57 = .ok (.iadd, 1) := by decide +kernel
theorem dX10_goesBack_58 : decode cX10_goesBack 58 = .ok (.iastore, 1) := by decide +kernel
theorem dX10_goesBack_59 : decode cX10_goesBack 59 = .ok (.aload_n 0, 1) := by decide +kernel
theorem dX10_goesBack_60 : decode cX10_goesBack 60 = .ok (.getfield 7, 3) := by decide +kernel
theorem dX10_goesBack_63 : decode cX10_goesBack 63 = .ok (.bipush 16, 2) := by decide +kernel
theorem dX10_goesBack_65 : decode cX10_goesBack 65 = .ok (.dup2, 1) := by decide +kernel
theorem dX10_goesBack_66 : decode cX10_goesBack 66 = .ok (.iaload, 1) := by decide +kernel
theorem dX10_goesBack_67 : decode cX10_goesBack 67 = .ok (.iconst 1, 1) := by decide +kernel
theorem dX10_goesBack_68 : decode cX10_goesBack 68 = .ok (.iadd, 1) := by decide +kernel
theorem dX10_goesBack_69 : decode cX10_goesBack 69 = .ok (.iastore, 1) := by decide +kernel
theorem dX10_goesBack_70 : decode cX10_goesBack 70 = .ok (.aload_n 0, 1) := by decide +kernel
theorem dX10_goesBack_71 : decode cX10_goesBack 71 = .ok (.getfield 7, 3) := by decide +kernel
theorem dX10_goesBack_74 : decode cX10_goesBack 74 = .ok (.bipush 9, 2) := by decide +kernel
theorem dX10_goesBack_76 : decode cX10_goesBack 76 = .ok (.dup2, 1) := by decide +kernel
theorem dX10_goesBack_77 : decode cX10_goesBack 77 = .ok (.iaload, 1) := by decide +kernel
theorem dX10_goesBack_78 : decode cX10_goesBack 78 = .ok (.iconst 1, 1) := by decide +kernel
theorem dX10_goesBack_79 : decode cX10_goesBack 79 = .ok (.isub, 1) := by decide +kernel
theorem dX10_goesBack_80 : decode cX10_goesBack 80 = .ok (.iastore, 1) := by decide +kernel
theorem dX10_goesBack_81 : decode cX10_goesBack 81 = .ok (.bipush 21, 2) := by decide +kernel
theorem dX10_goesBack_83 : decode cX10_goesBack 83 = .ok (.iconst 5, 1) := by decide +kernel
theorem dX10_goesBack_84 : decode cX10_goesBack 84 = .ok (.iload_n 1, 1) := by decide +kernel
theorem dX10_goesBack_85 : decode cX10_goesBack 85 = .ok (.imul, 1) := by decide +kernel
theorem dX10_goesBack_86 : decode cX10_goesBack 86 = .ok (.iadd, 1) := by decide +kernel
theorem dX10_goesBack_87 : decode cX10_goesBack 87 = .ok (.istore 4, 2) := by decide +kernel
theorem dX10_goesBack_89 : decode cX10_goesBack 89 = .ok (.iload 4, 2) := by decide +kernel
theorem dX10_goesBack_91 : decode cX10_goesBack 91 = .ok (.bipush 21, 2) := by decide +kernel
theorem dX10_goesBack_93 : decode cX10_goesBack 93 = .ok (.iconst 5, 1) := by decide +kernel
theorem dX10_goesBack_94 : decode cX10_goesBack 94 = .ok (.aload_n 0, 1) := by decide +kernel
theorem dX10_goesBack_95 : decode cX10_goesBack 95 = .ok (.getfield 7, 3) := by decide +kernel
theorem dX10_goesBack_98 : decode cX10_goesBack 98 = .ok (.bipush 9, 2) := by decide +kernel
theorem dX10_goesBack_100 : decode cX10_goesBack 100 = .ok (.iaload, 1) := by decide +kernel
theorem dX10_goesBack_101 : decode cX10_goesBack 101 = .ok (.imul, 1) := by decide +kernel
theorem dX10_goesBack_102 : decode cX10_goesBack 102 = .ok (.iadd, 1) := by decide +kernel
theorem dX10_goesBack_103 : decode cX10_goesBack 103 = .ok (.if_icmp .ge 25, 3) := by decide +kernel
theorem dX10_goesBack_106 : decode cX10_goesBack 106 = .ok (.aload_n 0, 1) := by decide +kernel
theorem dX10_goesBack_107 : decode cX10_goesBack 107 = .ok (.getfield 7, 3) := by decide +kernel
theorem dX10_goesBack_110 : decode cX10_goesBack 110 = .ok (.iload 4, 2) := by decide +kernel
theorem dX10_goesBack_112 : decode cX10_goesBack 112 = .ok (.aload_n 0, 1) := by decide +kernel
theorem dX10_goesBack_113 : decode cX10_goesBack 113 = .ok (.getfield 7, 3) := by decide +kernel
theorem dX10_goesBack_116 : decode cX10_goesBack 116 = .ok (.iload 4, 2) := by decide +kernel
theorem dX10_goesBack_118 : decode cX10_goesBack 118 = .ok (.iconst 5, 1) := by decide +kernel
theorem dX10_goesBack_119 : decode cX10_goesBack 119 = .ok (.iadd, 1) := by decide +kernel
theorem dX10_goesBack_120 : decode cX10_goesBack 120 = .ok (.iaload, 1) := by decide +kernel
theorem dX10_goesBack_121 : decode cX10_goesBack 121 = .ok (.iastore, 1) := by decide +kernel
theorem dX10_goesBack_122 : decode cX10_goesBack 122 = .ok (.iinc 4 1, 3) := by decide +kernel
theorem dX10_goesBack_125 : decode cX10_goesBack 125 = .ok (.goto (-36), 3) := by decide +kernel
theorem dX10_goesBack_128 : decode cX10_goesBack 128 = .ok (.iconst 0, 1) := by decide +kernel
theorem dX10_goesBack_129 : decode cX10_goesBack 129 = .ok (.istore 4, 2) := by decide +kernel
theorem dX10_goesBack_131 : decode cX10_goesBack 131 = .ok (.iload 4, 2) := by decide +kernel
theorem dX10_goesBack_133 : decode cX10_goesBack 133 = .ok (.aload_n 0, 1) := by decide +kernel
theorem dX10_goesBack_134 : decode cX10_goesBack 134 = .ok (.getfield 7, 3) := by decide +kernel
theorem dX10_goesBack_137 : decode cX10_goesBack 137 = .ok (.bipush 10, 2) := by decide +kernel
theorem dX10_goesBack_139 : decode cX10_goesBack 139 = .ok (.iaload, 1) := by decide +kernel
theorem dX10_goesBack_140 : decode cX10_goesBack 140 = .ok (.if_icmp .ge 71, 3) := by decide +kernel
theorem dX10_goesBack_143 : decode cX10_goesBack 143 = .ok (.iconst 0, 1) := by decide +kernel
theorem dX10_goesBack_144 : decode cX10_goesBack 144 = .ok (.istore 5, 2) := by decide +kernel
theorem dX10_goesBack_146 : decode cX10_goesBack 146 = .ok (.iload 5, 2) := by decide +kernel
theorem dX10_goesBack_148 : decode cX10_goesBack 148 = .ok (.aload_n 0, 1) := by decide +kernel
theorem dX10_goesBack_149 : decode cX10_goesBack 149 = .ok (.iload 4, 2) := by decide +kernel
theorem dX10_goesBack_151 : decode cX10_goesBack 151 = .ok (.iconst 1, 1) := by decide +kernel
theorem dX10_goesBack_152 : decode cX10_goesBack 152 = .ok (.invokevirtual 244, 3) := by decide +kernel
theorem dX10_goesBack_155 : decode cX10_goesBack 155 = .ok (.if_icmp .ge 50, 3) := by decide +kernel
theorem dX10_goesBack_158 : decode cX10_goesBack 158 = .ok (.aload_n 0, 1) := by decide +kernel
theorem dX10_goesBack_159 : decode cX10_goesBack 159 = .ok (.getfield 7, 3) := by decide +kernel
theorem dX10_goesBack_162 : decode cX10_goesBack 162 = .ok (.sipush 141, 3) := by decide +kernel
theorem dX10_goesBack_165 : decode cX10_goesBack 165 = .ok (.bipush 14, 2) := by decide +kernel
theorem dX10_goesBack_167 : decode cX10_goesBack 167 = .ok (.iload 4, 2) := by decide +kernel
theorem dX10_goesBack_169 : decode cX10_goesBack 169 = .ok (.imul, 1) := by decide +kernel
theorem dX10_goesBack_170 : decode cX10_goesBack 170 = .ok (.iadd, 1) := by decide +kernel
theorem dX10_goesBack_171 : decode cX10_goesBack 171 = .ok (.iconst 2, 1) := by decide +kernel
theorem dX10_goesBack_172 : decode cX10_goesBack 172 = .ok (.iadd, 1) := by decide +kernel
theorem dX10_goesBack_173 : decode cX10_goesBack 173 = .ok (.iload 5, 2) := by decide +kernel
theorem dX10_goesBack_175 : decode cX10_goesBack 175 = .ok (.iadd, 1) := by decide +kernel
theorem dX10_goesBack_176 : decode cX10_goesBack 176 = .ok (.dup2, 1) := by decide +kernel
theorem dX10_goesBack_177 : decode cX10_goesBack 177 = .ok (.iaload, 1) := by decide +kernel
theorem dX10_goesBack_178 : decode cX10_goesBack 178 = .ok (.aload_n 0, 1) := by decide +kernel
theorem dX10_goesBack_179 : decode cX10_goesBack 179 = .ok (.iload 4, 2) := by decide +kernel
theorem dX10_goesBack_181 : decode cX10_goesBack 181 = .ok (.iconst 2, 1) := by decide +kernel
theorem dX10_goesBack_182 : decode cX10_goesBack 182 = .ok (.iload 5, 2) := by decide +kernel
theorem dX10_goesBack_184 : decode cX10_goesBack 184 = .ok (.iadd, 1) := by decide +kernel
theorem dX10_goesBack_185 : decode cX10_goesBack 185 = .ok (.invokevirtual 244, 3) := by decide +kernel
theorem dX10_goesBack_188 : decode cX10_goesBack 188 = .ok (.iload_n 1, 1) := by decide +kernel
theorem dX10_goesBack_189 : decode cX10_goesBack 189 = .ok (.if_icmp .le 7, 3) := by decide +kernel
theorem dX10_goesBack_192 : decode cX10_goesBack 192 = .ok (.iconst 1, 1) := by decide +kernel
theorem dX10_goesBack_193 : decode cX10_goesBack 193 = .ok (.goto 4, 3) := by decide +kernel
theorem dX10_goesBack_196 : decode cX10_goesBack 196 = .ok (.iconst 0, 1) := by decide +kernel
theorem dX10_goesBack_197 : decode cX10_goesBack 197 = .ok (.isub, 1) := by decide +kernel
theorem dX10_goesBack_198 : decode cX10_goesBack 198 = .ok (.iastore, 1) := by decide +kernel
theorem dX10_goesBack_199 : decode cX10_goesBack 199 = .ok (.iinc 5 1, 3) := by decide +kernel
theorem dX10_goesBack_202 : decode cX10_goesBack 202 = .ok (.goto (-56), 3) := by decide +kernel
theorem dX10_goesBack_205 : decode cX10_goesBack 205 = .ok (.iinc 4 1, 3) := by decide +kernel
theorem dX10_goesBack_208 : decode cX10_goesBack 208 = .ok (.goto (-77), 3) := by decide +kernel
theorem dX10_goesBack_211 : decode cX10_goesBack 211 = .ok (.return_, 1) := by decide +kernel
theorem dX10_ticks_0 : decode cX10_ticks 0 = .ok (.aload_n 0, 1) := by decide +kernel
theorem dX10_ticks_1 : decode cX10_ticks 1 = .ok (.getfield 7, 3) := by decide +kernel
theorem dX10_ticks_4 : decode cX10_ticks 4 = .ok (.bipush 6, 2) := by decide +kernel
theorem dX10_ticks_6 : decode cX10_ticks 6 = .ok (.dup2, 1) := by decide +kernel
theorem dX10_ticks_7 : decode cX10_ticks 7 = .ok (.iaload, 1) := by decide +kernel
theorem dX10_ticks_8 : decode cX10_ticks 8 = .ok (.iconst 1, 1) := by decide +kernel
theorem dX10_ticks_9 : decode cX10_ticks 9 = .ok (.iadd, 1) := by decide +kernel
theorem dX10_ticks_10 : decode cX10_ticks 10 = .ok (.iastore, 1) := by decide +kernel
theorem dX10_ticks_11 : decode cX10_ticks 11 = .ok (.iconst 0, 1) := by decide +kernel
theorem dX10_ticks_12 : decode cX10_ticks 12 = .ok (.istore_n 1, 1) := by decide +kernel
theorem dX10_ticks_13 : decode cX10_ticks 13 = .ok (.iconst 0, 1) := by decide +kernel
theorem dX10_ticks_14 : decode cX10_ticks 14 = .ok (.istore_n 2, 1) := by decide +kernel
theorem dX10_ticks_15 : decode cX10_ticks 15 = .ok (.iload_n 2, 1) := by decide +kernel
theorem dX10_ticks_16 : decode cX10_ticks 16 = .ok (.aload_n 0, 1) := by decide +kernel
theorem dX10_ticks_17 : decode cX10_ticks 17 = .ok (.getfield 7, 3) := by decide +kernel
theorem dX10_ticks_20 : decode cX10_ticks 20 = .ok (.bipush 9, 2) := by decide +kernel
theorem dX10_ticks_22 : decode cX10_ticks 22 = .ok (.iaload, 1) := by decide +kernel
theorem dX10_ticks_23 : decode cX10_ticks 23 = .ok (.if_icmp .ge 72, 3) := by decide +kernel
theorem dX10_ticks_26 : decode cX10_ticks 26 = .ok (.aload_n 0, 1) := by decide +kernel
theorem dX10_ticks_27 : decode cX10_ticks 27 = .ok (.iload_n 2, 1) := by decide +kernel
theorem dX10_ticks_28 : decode cX10_ticks 28 = .ok (.iconst 2, 1) := by decide +kernel
theorem dX10_ticks_29 : decode cX10_ticks 29 = .ok (.invokevirtual 203, 3) := by decide +kernel
theorem dX10_ticks_32 : decode cX10_ticks 32 = .ok (.iconst (-1), 1) := by decide +kernel
theorem dX10_ticks_33 : decode cX10_ticks 33 = .ok (.if_icmp .eq 39, 3) := by decide +kernel
theorem dX10_ticks_36 : decode cX10_ticks 36 = .ok (.aload_n 0, 1) := by decide +kernel
theorem dX10_ticks_37 : decode cX10_ticks 37 = .ok (.iload_n 2, 1) := by decide +kernel
theorem dX10_ticks_38 : decode cX10_ticks 38 = .ok (.iconst 3, 1) := by decide +kernel
theorem dX10_ticks_39 : decode cX10_ticks 39 = .ok (.invokevirtual 203, 3) := by decide +kernel
theorem dX10_ticks_42 : decode cX10_ticks 42 = .ok (.ifCond .ne 30, 3) := by decide +kernel
theorem dX10_ticks_45 : decode cX10_ticks 45 = .ok (.aload_n 0, 1) := by decide +kernel
theorem dX10_ticks_46 : decode cX10_ticks 46 = .ok (.getfield 7, 3) := by decide +kernel
theorem dX10_ticks_49 : decode cX10_ticks 49 = .ok (.bipush 6, 2) := by decide +kernel
theorem dX10_ticks_51 : decode cX10_ticks 51 = .ok (.iaload, 1) := by decide +kernel
theorem dX10_ticks_52 : decode cX10_ticks 52 = .ok (.aload_n 0, 1) := by decide +kernel
theorem dX10_ticks_53 : decode cX10_ticks 53 = .ok (.iload_n 2, 1) := by decide +kernel
theorem dX10_ticks_54 : decode cX10_ticks 54 = .ok (.iconst 4, 1) := by decide +kernel
theorem dX10_ticks_55 : decode cX10_ticks 55 = .ok (.invokevirtual 203, 3) := by decide +kernel
theorem dX10_ticks_58 : decode cX10_ticks 58 = .ok (.isub, 1) := by decide +kernel
theorem dX10_ticks_59 : decode cX10_ticks 59 = .ok (.aload_n 0, 1) := by decide +kernel
theorem dX10_ticks_60 : decode cX10_ticks 60 = .ok (.getfield 7, 3) := by decide +kernel
theorem dX10_ticks_63 : decode cX10_ticks 63 = .ok (.iconst 3, 1) := by decide +kernel
theorem dX10_ticks_64 : decode cX10_ticks 64 = .ok (.iaload, 1) := by decide +kernel
theorem dX10_ticks_65 : decode cX10_ticks 65 = .ok (.if_icmp .le 7, 3) := by decide +kernel
theorem dX10_ticks_68 : decode cX10_ticks 68 = .ok (.iconst 1, 1) := by decide +kernel
theorem dX10_ticks_69 : decode cX10_ticks 69 = .ok (.goto 4, 3) := by decide +kernel
theorem dX10_ticks_72 : decode cX10_ticks 72 = .ok (.iconst 0, 1) := by decide +kernel
theorem dX10_ticks_73 : decode cX10_ticks 73 = .ok (.istore_n 3, 1) := by decide +kernel
theorem dX10_ticks_74 : decode cX10_ticks 74 = .ok (.iload_n 3, 1) := by decide +kernel
theorem dX10_ticks_75 : decode cX10_ticks 75 = .ok (.ifCond .eq 14, 3) := by decide +kernel
theorem dX10_ticks_78 : decode cX10_ticks 78 = .ok (.aload_n 0, 1) := by decide +kernel
theorem dX10_ticks_79 : decode cX10_ticks 79 = .ok (.iload_n 2, 1) := by decide +kernel
theorem dX10_ticks_80 : decode cX10_ticks 80 = .ok (.invokevirtual 250, 3) := by decide +kernel
theorem dX10_ticks_83 : decode cX10_ticks 83 = .ok (.iinc 1 1, 3) := by decide +kernel
theorem dX10_ticks_86 : decode cX10_ticks 86 = .ok (.goto 6, 3) := by decide +kernel
theorem dX10_ticks_89 : decode cX10_ticks 89 = .ok (.iinc 2 1, 3) := by decide +kernel
theorem dX10_ticks_92 : decode cX10_ticks 92 = .ok (.goto (-77), 3) := by decide +kernel
theorem dX10_ticks_95 : decode cX10_ticks 95 = .ok (.iload_n 1, 1) := by decide +kernel
theorem dX10_ticks_96 : decode cX10_ticks 96 = .ok (.ireturn, 1) := by decide +kernel
theorem dX10_size_0 : decode cX10_size 0 = .ok (.aload_n 0, 1) := by decide +kernel
theorem dX10_size_1 : decode cX10_size 1 = .ok (.iconst 0, 1) := by decide +kernel
theorem dX10_size_2 : decode cX10_size 2 = .ok (.putfield 59, 3) := by decide +kernel
theorem dX10_size_5 : decode cX10_size 5 = .ok (.aload_n 0, 1) := by decide +kernel
theorem dX10_size_6 : decode cX10_size 6 = .ok (.iload_n 1, 1) := by decide +kernel
theorem dX10_size_7 : decode cX10_size 7 = .ok (.iconst 0, 1) := by decide +kernel
theorem dX10_size_8 : decode cX10_size 8 = .ok (.bipush 11, 2) := by decide +kernel
theorem dX10_size_10 : decode cX10_size 10 = .ok (.invokestatic 88, 3) := by decide +kernel
theorem dX10_size_13 : decode cX10_size 13 = .ok (.ifCond .ne 7, 3) := by decide +kernel
theorem dX10_size_16 : decode cX10_size 16 = .ok (.iconst 1, 1) := by decide +kernel
theorem dX10_size_17 : decode cX10_size 17 = .ok (.goto 4, 3) := by decide +kernel
theorem dX10_size_20 : decode cX10_size 20 = .ok (.iconst 0, 1) := by decide +kernel
theorem dX10_size_21 : decode cX10_size 21 = .ok (.iconst 1, 1) := by decide +kernel
theorem dX10_size_22 : decode cX10_size 22 = .ok (.invokevirtual 186, 3) := by decide +kernel
theorem dX10_size_25 : decode cX10_size 25 = .ok (.ifCond .eq 5, 3) := by decide +kernel
theorem dX10_size_28 : decode cX10_size 28 = .ok (.iconst 0, 1) := by decide +kernel
theorem dX10_size_29 : decode cX10_size 29 = .ok (.ireturn, 1) := by decide +kernel
theorem dX10_size_30 : decode cX10_size 30 = .ok (.iload_n 1, 1) := by decide +kernel
theorem dX10_size_31 : decode cX10_size 31 = .ok (.tableswitch 113 0 11 #[61, 68, 76, 84, 92, 100, 113, 113, 113, 113, 113, 108], 61) := by decide +kernel
theorem dX10_size_92 : decode cX10_size 92 = .ok (.aload_n 0, 1) := by decide +kernel
theorem dX10_size_93 : decode cX10_size 93 = .ok (.getfield 7, 3) := by decide +kernel
theorem dX10_size_96 : decode cX10_size 96 = .ok (.iconst 5, 1) := by decide +kernel
theorem dX10_size_97 : decode cX10_size 97 = .ok (.iaload, 1) := by decide +kernel
theorem dX10_size_98 : decode cX10_size 98 = .ok (.ireturn, 1) := by decide +kernel
theorem dX10_size_99 : decode cX10_size 99 = .ok (.aload_n 0, 1) := by decide +kernel
theorem dX10_size_100 : decode cX10_size 100 = .ok (.getfield 7, 3) := by decide +kernel
theorem dX10_size_103 : decode cX10_size 103 = .ok (.bipush 9, 2) := by decide +kernel
theorem dX10_size_105 : decode cX10_size 105 = .ok (.iaload, 1) := by decide +kernel
theorem dX10_size_106 : decode cX10_size 106 = .ok (.ireturn, 1) := by decide +kernel
theorem dX10_size_107 : decode cX10_size 107 = .ok (.aload_n 0, 1) := by decide +kernel
theorem dX10_size_108 : decode cX10_size 108 = .ok (.getfield 7, 3) := by decide +kernel
theorem dX10_size_111 : decode cX10_size 111 = .ok (.bipush 10, 2) := by decide +kernel
theorem dX10_size_113 : decode cX10_size 113 = .ok (.iaload, 1) := by decide +kernel
theorem dX10_size_114 : decode cX10_size 114 = .ok (.ireturn, 1) := by decide +kernel
theorem dX10_size_115 : decode cX10_size 115 = .ok (.aload_n 0, 1) := by decide +kernel
theorem dX10_size_116 : decode cX10_size 116 = .ok (.getfield 7, 3) := by decide +kernel
theorem dX10_size_119 : decode cX10_size 119 = .ok (.bipush 6, 2) := by decide +kernel
theorem dX10_size_121 : decode cX10_size 121 = .ok (.iaload, 1) := by decide +kernel
theorem dX10_size_122 : decode cX10_size 122 = .ok (.ireturn, 1) := by decide +kernel
theorem dX10_size_123 : decode cX10_size 123 = .ok (.aload_n 0, 1) := by decide +kernel
theorem dX10_size_124 : decode cX10_size 124 = .ok (.getfield 7, 3) := by decide +kernel
theorem dX10_size_127 : decode cX10_size 127 = .ok (.bipush 7, 2) := by decide +kernel
theorem dX10_size_129 : decode cX10_size 129 = .ok (.iaload, 1) := by decide +kernel
theorem dX10_size_130 : decode cX10_size 130 = .ok (.ireturn, 1) := by decide +kernel
theorem dX10_size_131 : decode cX10_size 131 = .ok (.aload_n 0, 1) := by decide +kernel
theorem dX10_size_132 : decode cX10_size 132 = .ok (.getfield 7, 3) := by decide +kernel
theorem dX10_size_135 : decode cX10_size 135 = .ok (.bipush 8, 2) := by decide +kernel
theorem dX10_size_137 : decode cX10_size 137 = .ok (.iaload, 1) := by decide +kernel
theorem dX10_size_138 : decode cX10_size 138 = .ok (.ireturn, 1) := by decide +kernel
theorem dX10_size_139 : decode cX10_size 139 = .ok (.aload_n 0, 1) := by decide +kernel
theorem dX10_size_140 : decode cX10_size 140 = .ok (.getfield 200, 3) := by decide +kernel
theorem dX10_size_143 : decode cX10_size 143 = .ok (.ireturn, 1) := by decide +kernel
theorem dX10_size_144 : decode cX10_size 144 = .ok (.aload_n 0, 1) := by decide +kernel
theorem dX10_size_145 : decode cX10_size 145 = .ok (.getfield 7, 3) := by decide +kernel
theorem dX10_size_148 : decode cX10_size 148 = .ok (.iload_n 1, 1) := by decide +kernel
theorem dX10_size_149 : decode cX10_size 149 = .ok (.bipush 6, 2) := by decide +kernel
theorem dX10_size_151 : decode cX10_size 151 = .ok (.isub, 1) := by decide +kernel
theorem dX10_size_152 : decode cX10_size 152 = .ok (.iaload, 1) := by decide +kernel
theorem dX10_size_153 : decode cX10_size 153 = .ok (.ireturn, 1) := by decide +kernel
theorem dX10_firstWord_0 : decode cX10_firstWord 0 = .ok (.aload_n 0, 1) := by decide +kernel
theorem dX10_firstWord_1 : decode cX10_firstWord 1 = .ok (.invokevirtual 125, 3) := by decide +kernel
theorem dX10_firstWord_4 : decode cX10_firstWord 4 = .ok (.lstore_n 1, 1) := by decide +kernel
theorem dX10_firstWord_5 : decode cX10_firstWord 5 = .ok (.iconst 0, 1) := by decide +kernel
theorem dX10_firstWord_6 : decode cX10_firstWord 6 = .ok (.istore_n 3, 1) := by decide +kernel
theorem dX10_firstWord_7 : decode cX10_firstWord 7 = .ok (.iload_n 3, 1) := by decide +kernel
theorem dX10_firstWord_8 : decode cX10_firstWord 8 = .ok (.aload_n 0, 1) := by decide +kernel
theorem dX10_firstWord_9 : decode cX10_firstWord 9 = .ok (.getfield 7, 3) := by decide +kernel
theorem dX10_firstWord_12 : decode cX10_firstWord 12 = .ok (.bipush 10, 2) := by decide +kernel
theorem dX10_firstWord_14 : decode cX10_firstWord 14 = .ok (.iaload, 1) := by decide +kernel
theorem dX10_firstWord_15 : decode cX10_firstWord 15 = .ok (.if_icmp .ge 25, 3) := by decide +kernel
theorem dX10_firstWord_18 : decode cX10_firstWord 18 = .ok (.aload_n 0, 1) := by decide +kernel
theorem dX10_firstWord_19 : decode cX10_firstWord 19 = .ok (.iload_n 3, 1) := by decide +kernel
theorem dX10_firstWord_20 : decode cX10_firstWord 20 = .ok (.invokevirtual 247, 3) := by decide +kernel
theorem dX10_firstWord_23 : decode cX10_firstWord 23 = .ok (.aload_n 0, 1) := by decide +kernel
theorem dX10_firstWord_24 : decode cX10_firstWord 24 = .ok (.invokevirtual 125, 3) := by decide +kernel
theorem dX10_firstWord_27 : decode cX10_firstWord 27 = .ok (.lload_n 1, 1) := by decide +kernel
theorem dX10_firstWord_28 : decode cX10_firstWord 28 = .ok (.lcmp, 1) := by decide +kernel
theorem dX10_firstWord_29 : decode cX10_firstWord 29 = .ok (.ifCond .ne 5, 3) := by decide +kernel
theorem dX10_firstWord_32 : decode cX10_firstWord 32 = .ok (.iload_n 3, 1) := by decide +kernel
theorem dX10_firstWord_33 : decode cX10_firstWord 33 = .ok (.ireturn, 1) := by decide +kernel
theorem dX10_firstWord_34 : decode cX10_firstWord 34 = .ok (.iinc 3 1, 3) := by decide +kernel
theorem dX10_firstWord_37 : decode cX10_firstWord 37 = .ok (.goto (-30), 3) := by decide +kernel
theorem dX10_firstWord_40 : decode cX10_firstWord 40 = .ok (.iconst (-1), 1) := by decide +kernel
theorem dX10_firstWord_41 : decode cX10_firstWord 41 = .ok (.ireturn, 1) := by decide +kernel
theorem dX10_find_0 : decode cX10_find 0 = .ok (.aload_n 0, 1) := by decide +kernel
theorem dX10_find_1 : decode cX10_find 1 = .ok (.iconst 0, 1) := by decide +kernel
theorem dX10_find_2 : decode cX10_find 2 = .ok (.putfield 59, 3) := by decide +kernel
theorem dX10_find_5 : decode cX10_find 5 = .ok (.aload_n 0, 1) := by decide +kernel
theorem dX10_find_6 : decode cX10_find 6 = .ok (.invokevirtual 253, 3) := by decide +kernel
theorem dX10_find_9 : decode cX10_find 9 = .ok (.istore_n 2, 1) := by decide +kernel
theorem dX10_find_10 : decode cX10_find 10 = .ok (.aload_n 0, 1) := by decide +kernel
theorem dX10_find_11 : decode cX10_find 11 = .ok (.iload_n 1, 1) := by decide +kernel
theorem dX10_find_12 : decode cX10_find 12 = .ok (.iconst 0, 1) := by decide +kernel
theorem dX10_find_13 : decode cX10_find 13 = .ok (.iconst 2, 1) := by decide +kernel
theorem dX10_find_14 : decode cX10_find 14 = .ok (.invokestatic 88, 3) := by decide +kernel
theorem dX10_find_17 : decode cX10_find 17 = .ok (.ifCond .ne 7, 3) := by decide +kernel
theorem dX10_find_20 : decode cX10_find 20 = .ok (.iconst 1, 1) := by decide +kernel
theorem dX10_find_21 : decode cX10_find 21 = .ok (.goto 4, 3) := by decide +kernel
theorem dX10_find_24 : decode cX10_find 24 = .ok (.iconst 0, 1) := by decide +kernel
theorem dX10_find_25 : decode cX10_find 25 = .ok (.iconst 1, 1) := by decide +kernel
theorem dX10_find_26 : decode cX10_find 26 = .ok (.invokevirtual 186, 3) := by decide +kernel
theorem dX10_find_29 : decode cX10_find 29 = .ok (.ifCond .eq 5, 3) := by decide +kernel
theorem dX10_find_32 : decode cX10_find 32 = .ok (.iconst 0, 1) := by decide +kernel
theorem dX10_find_33 : decode cX10_find 33 = .ok (.ireturn, 1) := by decide +kernel
theorem dX10_find_34 : decode cX10_find 34 = .ok (.iload_n 2, 1) := by decide +kernel
theorem dX10_find_35 : decode cX10_find 35 = .ok (.ifCond .ne 5, 3) := by decide +kernel
theorem dX10_find_38 : decode cX10_find 38 = .ok (.iconst (-1), 1) := by decide +kernel
theorem dX10_find_39 : decode cX10_find 39 = .ok (.ireturn, 1) := by decide +kernel
theorem dX10_find_40 : decode cX10_find 40 = .ok (.iload_n 1, 1) := by decide +kernel
theorem dX10_find_41 : decode cX10_find 41 = .ok (.ifCond .ne 10, 3) := by decide +kernel
theorem dX10_find_44 : decode cX10_find 44 = .ok (.aload_n 0, 1) := by decide +kernel
theorem dX10_find_45 : decode cX10_find 45 = .ok (.invokevirtual 136, 3) := by decide +kernel
theorem dX10_find_48 : decode cX10_find 48 = .ok (.goto 41, 3) := by decide +kernel
theorem dX10_find_51 : decode cX10_find 51 = .ok (.iload_n 1, 1) := by decide +kernel
theorem dX10_find_52 : decode cX10_find 52 = .ok (.iconst 2, 1) := by decide +kernel
theorem dX10_find_53 : decode cX10_find 53 = .ok (.if_icmp .ne 10, 3) := by decide +kernel
theorem dX10_find_56 : decode cX10_find 56 = .ok (.aload_n 0, 1) := by decide +kernel
theorem dX10_find_57 : decode cX10_find 57 = .ok (.invokevirtual 256, 3) := by decide +kernel
theorem dX10_find_60 : decode cX10_find 60 = .ok (.goto 29, 3) := by decide +kernel
theorem dX10_find_63 : decode cX10_find 63 = .ok (.aload_n 0, 1) := by decide +kernel
theorem dX10_find_64 : decode cX10_find 64 = .ok (.getfield 122, 3) := by decide +kernel
theorem dX10_find_67 : decode cX10_find 67 = .ok (.bipush 6, 2) := by decide +kernel
theorem dX10_find_69 : decode cX10_find 69 = .ok (.if_icmp .le 7, 3) := by decide +kernel
theorem dX10_find_72 : decode cX10_find 72 = .ok (.iconst (-1), 1) := by decide +kernel
theorem dX10_find_73 : decode cX10_find 73 = .ok (.goto 16, 3) := by decide +kernel
theorem dX10_find_76 : decode cX10_find 76 = .ok (.aload_n 0, 1) := by decide +kernel
theorem dX10_find_77 : decode cX10_find 77 = .ok (.aload_n 0, 1) := by decide +kernel
theorem dX10_find_78 : decode cX10_find 78 = .ok (.iconst 0, 1) := by decide +kernel
theorem dX10_find_79 : decode cX10_find 79 = .ok (.aload_n 0, 1) := by decide +kernel
theorem dX10_find_80 : decode cX10_find 80 = .ok (.getfield 122, 3) := by decide +kernel
theorem dX10_find_83 : decode cX10_find 83 = .ok (.invokevirtual 142, 3) := by decide +kernel
theorem dX10_find_86 : decode cX10_find 86 = .ok (.invokevirtual 146, 3) := by decide +kernel
theorem dX10_find_89 : decode cX10_find 89 = .ok (.ireturn, 1) := by decide +kernel
theorem dX10_no_0 : decode cX10_no 0 = .ok (.aload_n 0, 1) := by decide +kernel
theorem dX10_no_1 : decode cX10_no 1 = .ok (.iload_n 1, 1) := by decide +kernel
theorem dX10_no_2 : decode cX10_no 2 = .ok (.iconst 0, 1) := by decide +kernel
theorem dX10_no_3 : decode cX10_no 3 = .ok (.iload_n 2, 1) := by decide +kernel
theorem dX10_no_4 : decode cX10_no 4 = .ok (.iconst 1, 1) := by decide +kernel
theorem dX10_no_5 : decode cX10_no 5 = .ok (.isub, 1) := by decide +kernel
theorem dX10_no_6 : decode cX10_no 6 = .ok (.invokestatic 88, 3) := by decide +kernel
theorem dX10_no_9 : decode cX10_no 9 = .ok (.ifCond .ne 7, 3) := by decide +kernel
theorem dX10_no_12 : decode cX10_no 12 = .ok (.iconst 1, 1) := by decide +kernel
theorem dX10_no_13 : decode cX10_no 13 = .ok (.goto 4, 3) := by decide +kernel
theorem dX10_no_16 : decode cX10_no 16 = .ok (.iconst 0, 1) := by decide +kernel
theorem dX10_no_17 : decode cX10_no 17 = .ok (.iconst 1, 1) := by decide +kernel
theorem dX10_no_18 : decode cX10_no 18 = .ok (.invokevirtual 186, 3) := by decide +kernel
theorem dX10_no_21 : decode cX10_no 21 = .ok (.ireturn, 1) := by decide +kernel
theorem dX10_noUser_0 : decode cX10_noUser 0 = .ok (.aload_n 0, 1) := by decide +kernel
theorem dX10_noUser_1 : decode cX10_noUser 1 = .ok (.iconst 0, 1) := by decide +kernel
theorem dX10_noUser_2 : decode cX10_noUser 2 = .ok (.putfield 59, 3) := by decide +kernel
theorem dX10_noUser_5 : decode cX10_noUser 5 = .ok (.aload_n 0, 1) := by decide +kernel
theorem dX10_noUser_6 : decode cX10_noUser 6 = .ok (.iload_n 1, 1) := by decide +kernel
theorem dX10_noUser_7 : decode cX10_noUser 7 = .ok (.aload_n 0, 1) := by decide +kernel
theorem dX10_noUser_8 : decode cX10_noUser 8 = .ok (.getfield 7, 3) := by decide +kernel
theorem dX10_noUser_11 : decode cX10_noUser 11 = .ok (.iconst 5, 1) := by decide +kernel
theorem dX10_noUser_12 : decode cX10_noUser 12 = .ok (.iaload, 1) := by decide +kernel
theorem dX10_noUser_13 : decode cX10_noUser 13 = .ok (.invokevirtual 259, 3) := by decide +kernel
theorem dX10_noUser_16 : decode cX10_noUser 16 = .ok (.ireturn, 1) := by decide +kernel
theorem dX10_noPiece_0 : decode cX10_noPiece 0 = .ok (.aload_n 0, 1) := by decide +kernel
theorem dX10_noPiece_1 : decode cX10_noPiece 1 = .ok (.iconst 0, 1) := by decide +kernel
theorem dX10_noPiece_2 : decode cX10_noPiece 2 = .ok (.putfield 59, 3) := by decide +kernel
theorem dX10_noPiece_5 : decode cX10_noPiece 5 = .ok (.aload_n 0, 1) := by decide +kernel
theorem dX10_noPiece_6 : decode cX10_noPiece 6 = .ok (.iload_n 1, 1) := by decide +kernel
theorem dX10_noPiece_7 : decode cX10_noPiece 7 = .ok (.aload_n 0, 1) := by decide +kernel
theorem dX10_noPiece_8 : decode cX10_noPiece 8 = .ok (.getfield 7, 3) := by decide +kernel
theorem dX10_noPiece_11 : decode cX10_noPiece 11 = .ok (.bipush 9, 2) := by decide +kernel
theorem dX10_noPiece_13 : decode cX10_noPiece 13 = .ok (.iaload, 1) := by decide +kernel
theorem dX10_noPiece_14 : decode cX10_noPiece 14 = .ok (.invokevirtual 259, 3) := by decide +kernel
theorem dX10_noPiece_17 : decode cX10_noPiece 17 = .ok (.ireturn, 1) := by decide +kernel
theorem dX10_noWord_0 : decode cX10_noWord 0 = .ok (.aload_n 0, 1) := by decide +kernel
theorem dX10_noWord_1 : decode cX10_noWord 1 = .ok (.iconst 0, 1) := by decide +kernel
theorem dX10_noWord_2 : decode cX10_noWord 2 = .ok (.putfield 59, 3) := by decide +kernel
theorem dX10_noWord_5 : decode cX10_noWord 5 = .ok (.aload_n 0, 1) := by decide +kernel
theorem dX10_noWord_6 : decode cX10_noWord 6 = .ok (.iload_n 1, 1) := by decide +kernel
theorem dX10_noWord_7 : decode cX10_noWord 7 = .ok (.aload_n 0, 1) := by decide +kernel
theorem dX10_noWord_8 : decode cX10_noWord 8 = .ok (.getfield 7, 3) := by decide +kernel
theorem dX10_noWord_11 : decode cX10_noWord 11 = .ok (.bipush 10, 2) := by decide +kernel
theorem dX10_noWord_13 : decode cX10_noWord 13 = .ok (.iaload, 1) := by decide +kernel
theorem dX10_noWord_14 : decode cX10_noWord 14 = .ok (.invokevirtual 259, 3) := by decide +kernel
theorem dX10_noWord_17 : decode cX10_noWord 17 = .ok (.ireturn, 1) := by decide +kernel
theorem dX10_ofUser_0 : decode cX10_ofUser 0 = .ok (.iconst 0, 1) := by decide +kernel
theorem dX10_ofUser_1 : decode cX10_ofUser 1 = .ok (.istore_n 3, 1) := by decide +kernel
theorem dX10_ofUser_2 : decode cX10_ofUser 2 = .ok (.iconst 0, 1) := by decide +kernel
theorem dX10_ofUser_3 : decode cX10_ofUser 3 = .ok (.istore 4, 2) := by decide +kernel
theorem dX10_ofUser_5 : decode cX10_ofUser 5 = .ok (.iload 4, 2) := by decide +kernel
theorem dX10_ofUser_7 : decode cX10_ofUser 7 = .ok (.aload_n 0, 1) := by decide +kernel
theorem dX10_ofUser_8 : decode cX10_ofUser 8 = .ok (.getfield 7, 3) := by decide +kernel
theorem dX10_ofUser_11 : decode cX10_ofUser 11 = .ok (.bipush 10, 2) := by decide +kernel
theorem dX10_ofUser_13 : decode cX10_ofUser 13 = .ok (.iaload, 1) := by decide +kernel
theorem dX10_ofUser_14 : decode cX10_ofUser 14 = .ok (.if_icmp .ge 55, 3) := by decide +kernel
theorem dX10_ofUser_17 : decode cX10_ofUser 17 = .ok (.iload_n 2, 1) := by decide +kernel
theorem dX10_ofUser_18 : decode cX10_ofUser 18 = .ok (.iconst 3, 1) := by decide +kernel
theorem dX10_ofUser_19 : decode cX10_ofUser 19 = .ok (.if_icmp .ge 50, 3) := by decide +kernel
theorem dX10_ofUser_22 : decode cX10_ofUser 22 = .ok (.iload_n 3, 1) := by decide +kernel
theorem dX10_ofUser_23 : decode cX10_ofUser 23 = .ok (.aload_n 0, 1) := by decide +kernel
theorem dX10_ofUser_24 : decode cX10_ofUser 24 = .ok (.iload 4, 2) := by decide +kernel
theorem dX10_ofUser_26 : decode cX10_ofUser 26 = .ok (.iconst 0, 1) := by decide +kernel
theorem dX10_ofUser_27 : decode cX10_ofUser 27 = .ok (.invokevirtual 244, 3) := by decide +kernel
theorem dX10_ofUser_30 : decode cX10_ofUser 30 = .ok (.iload_n 1, 1) := by decide +kernel
theorem dX10_ofUser_31 : decode cX10_ofUser 31 = .ok (.if_icmp .eq 7, 3) := by decide +kernel
theorem dX10_ofUser_34 : decode cX10_ofUser 34 = .ok (.iconst 0, 1) := by decide +kernel
theorem dX10_ofUser_35 : decode cX10_ofUser 35 = .ok (.goto 26, 3) := by decide +kernel
theorem dX10_ofUser_38 : decode cX10_ofUser 38 = .ok (.iload_n 2, 1) := by decide +kernel
theorem dX10_ofUser_39 : decode cX10_ofUser 39 = .ok (.iconst 1, 1) := by decide +kernel
theorem dX10_ofUser_40 : decode cX10_ofUser 40 = .ok (.if_icmp .ne 7, 3) := by decide +kernel
theorem dX10_ofUser_43 : decode cX10_ofUser 43 = .ok (.iconst 1, 1) := by decide +kernel
theorem dX10_ofUser_44 : decode cX10_ofUser 44 = .ok (.goto 17, 3) := by decide +kernel
theorem dX10_ofUser_47 : decode cX10_ofUser 47 = .ok (.aload_n 0, 1) := by decide +kernel
theorem dX10_ofUser_48 : decode cX10_ofUser 48 = .ok (.getfield 7, 3) := by decide +kernel
theorem dX10_ofUser_51 : decode cX10_ofUser 51 = .ok (.iconst 2, 1) := by decide +kernel
theorem dX10_ofUser_52 : decode cX10_ofUser 52 = .ok (.iaload, 1) := by decide +kernel
theorem dX10_ofUser_53 : decode cX10_ofUser 53 = .ok (.aload_n 0, 1) := by decide +kernel
theorem dX10_ofUser_54 : decode cX10_ofUser 54 = .ok (.iload 4, 2) := by decide +kernel
theorem dX10_ofUser_56 : decode cX10_ofUser 56 = .ok (.iconst 1, 1) := by decide +kernel
theorem dX10_ofUser_57 : decode cX10_ofUser 57 = .ok (.invokevirtual 244, 3) := by decide +kernel
theorem dX10_ofUser_60 : decode cX10_ofUser 60 = .ok (.imul, 1) := by decide +kernel
theorem dX10_ofUser_61 : decode cX10_ofUser 61 = .ok (.iadd, 1) := by decide +kernel
theorem dX10_ofUser_62 : decode cX10_ofUser 62 = .ok (.istore_n 3, 1) := by decide +kernel
theorem dX10_ofUser_63 : decode cX10_ofUser 63 = .ok (.iinc 4 1, 3) := by decide +kernel
theorem dX10_ofUser_66 : decode cX10_ofUser 66 = .ok (.goto (-61), 3) := by decide +kernel
theorem dX10_ofUser_69 : decode cX10_ofUser 69 = .ok (.iconst 0, 1) := by decide +kernel
theorem dX10_ofUser_70 : decode cX10_ofUser 70 = .ok (.istore 4, 2) := by decide +kernel
theorem dX10_ofUser_72 : decode cX10_ofUser 72 = .ok (.iload 4, 2) := by decide +kernel
theorem dX10_ofUser_74 : decode cX10_ofUser 74 = .ok (.aload_n 0, 1) := by decide +kernel
theorem dX10_ofUser_75 : decode cX10_ofUser 75 = .ok (.getfield 7, 3) := by decide +kernel
theorem dX10_ofUser_78 : decode cX10_ofUser 78 = .ok (.bipush 9, 2) := by decide +kernel
theorem dX10_ofUser_80 : decode cX10_ofUser 80 = .ok (.iaload, 1) := by decide +kernel
theorem dX10_ofUser_81 : decode cX10_ofUser 81 = .ok (.if_icmp .ge 48, 3) := by decide +kernel
theorem dX10_ofUser_84 : decode cX10_ofUser 84 = .ok (.iload_n 2, 1) := by decide +kernel
theorem dX10_ofUser_85 : decode cX10_ofUser 85 = .ok (.iconst 2, 1) := by decide +kernel
theorem dX10_ofUser_86 : decode cX10_ofUser 86 = .ok (.if_icmp .le 43, 3) := by decide +kernel
theorem dX10_ofUser_89 : decode cX10_ofUser 89 = .ok (.iload_n 3, 1) := by decide +kernel
theorem dX10_ofUser_90 : decode cX10_ofUser 90 = .ok (.aload_n 0, 1) := by decide +kernel
theorem dX10_ofUser_91 : decode cX10_ofUser 91 = .ok (.iload 4, 2) := by decide +kernel
theorem dX10_ofUser_93 : decode cX10_ofUser 93 = .ok (.iconst 2, 1) := by decide +kernel
theorem dX10_ofUser_94 : decode cX10_ofUser 94 = .ok (.invokevirtual 203, 3) := by decide +kernel
theorem dX10_ofUser_97 : decode cX10_ofUser 97 = .ok (.iload_n 1, 1) := by decide +kernel
theorem dX10_ofUser_98 : decode cX10_ofUser 98 = .ok (.if_icmp .eq 7, 3) := by decide +kernel
theorem dX10_ofUser_101 : decode cX10_ofUser 101 = .ok (.iconst 0, 1) := by decide +kernel
theorem dX10_ofUser_102 : decode cX10_ofUser 102 = .ok (.goto 19, 3) := by decide +kernel
theorem dX10_ofUser_105 : decode cX10_ofUser 105 = .ok (.iload_n 2, 1) := by decide +kernel
theorem dX10_ofUser_106 : decode cX10_ofUser 106 = .ok (.iconst 3, 1) := by decide +kernel
theorem dX10_ofUser_107 : decode cX10_ofUser 107 = .ok (.if_icmp .ne 7, 3) := by decide +kernel
theorem dX10_ofUser_110 : decode cX10_ofUser 110 = .ok (.iconst 1, 1) := by decide +kernel
theorem dX10_ofUser_111 : decode cX10_ofUser 111 = .ok (.goto 10, 3) := by decide +kernel
theorem dX10_ofUser_114 : decode cX10_ofUser 114 = .ok (.aload_n 0, 1) := by decide +kernel
theorem dX10_ofUser_115 : decode cX10_ofUser 115 = .ok (.iload 4, 2) := by decide +kernel
theorem dX10_ofUser_117 : decode cX10_ofUser 117 = .ok (.iconst 1, 1) := by decide +kernel
theorem dX10_ofUser_118 : decode cX10_ofUser 118 = .ok (.invokevirtual 203, 3) := by decide +kernel
theorem dX10_ofUser_121 : decode cX10_ofUser 121 = .ok (.iadd, 1) := by decide +kernel
theorem dX10_ofUser_122 : decode cX10_ofUser 122 = .ok (.istore_n 3, 1) := by decide +kernel
theorem dX10_ofUser_123 : decode cX10_ofUser 123 = .ok (.iinc 4 1, 3) := by decide +kernel
theorem dX10_ofUser_126 : decode cX10_ofUser 126 = .ok (.goto (-54), 3) := by decide +kernel
theorem dX10_ofUser_129 : decode cX10_ofUser 129 = .ok (.iload_n 3, 1) := by decide +kernel
theorem dX10_ofUser_130 : decode cX10_ofUser 130 = .ok (.ireturn, 1) := by decide +kernel
theorem dX10_user_0 : decode cX10_user 0 = .ok (.aload_n 0, 1) := by decide +kernel
theorem dX10_user_1 : decode cX10_user 1 = .ok (.iload_n 1, 1) := by decide +kernel
theorem dX10_user_2 : decode cX10_user 2 = .ok (.invokevirtual 262, 3) := by decide +kernel
theorem dX10_user_5 : decode cX10_user 5 = .ok (.ifCond .ne 25, 3) := by decide +kernel
theorem dX10_user_8 : decode cX10_user 8 = .ok (.aload_n 0, 1) := by decide +kernel
theorem dX10_user_9 : decode cX10_user 9 = .ok (.iload_n 2, 1) := by decide +kernel
theorem dX10_user_10 : decode cX10_user 10 = .ok (.iconst 0, 1) := by decide +kernel
theorem dX10_user_11 : decode cX10_user 11 = .ok (.iconst 4, 1) := by decide +kernel
theorem dX10_user_12 : decode cX10_user 12 = .ok (.invokestatic 88, 3) := by decide +kernel
theorem dX10_user_15 : decode cX10_user 15 = .ok (.ifCond .ne 7, 3) := by decide +kernel
theorem dX10_user_18 : decode cX10_user 18 = .ok (.iconst 1, 1) := by decide +kernel
theorem dX10_user_19 : decode cX10_user 19 = .ok (.goto 4, 3) := by decide +kernel
theorem dX10_user_22 : decode cX10_user 22 = .ok (.iconst 0, 1) := by decide +kernel
theorem dX10_user_23 : decode cX10_user 23 = .ok (.iconst 2, 1) := by decide +kernel
theorem dX10_user_24 : decode cX10_user 24 = .ok (.invokevirtual 186, 3) := by decide +kernel
theorem dX10_user_27 : decode cX10_user 27 = .ok (.ifCond .eq 5, 3) := by decide +kernel
theorem dX10_user_30 : decode cX10_user 30 = .ok (.iconst 0, 1) := by decide +kernel
theorem dX10_user_31 : decode cX10_user 31 = .ok (.ireturn, 1) := by decide +kernel
theorem dX10_user_32 : decode cX10_user 32 = .ok (.iload_n 2, 1) := by decide +kernel
theorem dX10_user_33 : decode cX10_user 33 = .ok (.ifCond .ne 15, 3) := by decide +kernel
theorem dX10_user_36 : decode cX10_user 36 = .ok (.aload_n 0, 1) := by decide +kernel
theorem dX10_user_37 : decode cX10_user 37 = .ok (.getfield 7, 3) := by decide +kernel
theorem dX10_user_40 : decode cX10_user 40 = .ok (.bipush 17, 2) := by decide +kernel
theorem dX10_user_42 : decode cX10_user 42 = .ok (.iload_n 1, 1) := by decide +kernel
theorem dX10_user_43 : decode cX10_user 43 = .ok (.iadd, 1) := by decide +kernel
theorem dX10_user_44 : decode cX10_user 44 = .ok (.iaload, 1) := by decide +kernel
theorem dX10_user_45 : decode cX10_user 45 = .ok (.goto 9, 3) := by decide +kernel
theorem dX10_user_48 : decode cX10_user 48 = .ok (.aload_n 0, 1) := by decide +kernel
theorem dX10_user_49 : decode cX10_user 49 = .ok (.iload_n 1, 1) := by decide +kernel
theorem dX10_user_50 : decode cX10_user 50 = .ok (.iload_n 2, 1) := by decide +kernel
theorem dX10_user_51 : decode cX10_user 51 = .ok (.invokevirtual 265, 3) := by decide +kernel
theorem dX10_user_54 : decode cX10_user 54 = .ok (.ireturn, 1) := by decide +kernel
theorem dX10_piece_0 : decode cX10_piece 0 = .ok (.aload_n 0, 1) := by decide +kernel
theorem dX10_piece_1 : decode cX10_piece 1 = .ok (.iload_n 1, 1) := by decide +kernel
theorem dX10_piece_2 : decode cX10_piece 2 = .ok (.invokevirtual 268, 3) := by decide +kernel
theorem dX10_piece_5 : decode cX10_piece 5 = .ok (.ifCond .ne 25, 3) := by decide +kernel
theorem dX10_piece_8 : decode cX10_piece 8 = .ok (.aload_n 0, 1) := by decide +kernel
theorem dX10_piece_9 : decode cX10_piece 9 = .ok (.iload_n 2, 1) := by decide +kernel
theorem dX10_piece_10 : decode cX10_piece 10 = .ok (.iconst 0, 1) := by decide +kernel
theorem dX10_piece_11 : decode cX10_piece 11 = .ok (.iconst 4, 1) := by decide +kernel
theorem dX10_piece_12 : decode cX10_piece 12 = .ok (.invokestatic 88, 3) := by decide +kernel
theorem dX10_piece_15 : decode cX10_piece 15 = .ok (.ifCond .ne 7, 3) := by decide +kernel
theorem dX10_piece_18 : decode cX10_piece 18 = .ok (.iconst 1, 1) := by decide +kernel
theorem dX10_piece_19 : decode cX10_piece 19 = .ok (.goto 4, 3) := by decide +kernel
theorem dX10_piece_22 : decode cX10_piece 22 = .ok (.iconst 0, 1) := by decide +kernel
theorem dX10_piece_23 : decode cX10_piece 23 = .ok (.iconst 2, 1) := by decide +kernel
theorem dX10_piece_24 : decode cX10_piece 24 = .ok (.invokevirtual 186, 3) := by decide +kernel
theorem dX10_piece_27 : decode cX10_piece 27 = .ok (.ifCond .eq 5, 3) := by decide +kernel
theorem dX10_piece_30 : decode cX10_piece 30 = .ok (.iconst 0, 1) := by decide +kernel
theorem dX10_piece_31 : decode cX10_piece 31 = .ok (.ireturn, 1) := by decide +kernel
theorem dX10_piece_32 : decode cX10_piece 32 = .ok (.iload_n 2, 1) := by decide +kernel
theorem dX10_piece_33 : decode cX10_piece 33 = .ok (.ifCond .ne 13, 3) := by decide +kernel
theorem dX10_piece_36 : decode cX10_piece 36 = .ok (.aload_n 0, 1) := by decide +kernel
theorem dX10_piece_37 : decode cX10_piece 37 = .ok (.iload_n 1, 1) := by decide +kernel
theorem dX10_piece_38 : decode cX10_piece 38 = .ok (.iconst 0, 1) := by decide +kernel
theorem dX10_piece_39 : decode cX10_piece 39 = .ok (.invokevirtual 203, 3) := by decide +kernel
theorem dX10_piece_42 : decode cX10_piece 42 = .ok (.invokestatic 206, 3) := by decide +kernel
theorem dX10_piece_45 : decode cX10_piece 45 = .ok (.ireturn, 1) := by decide +kernel
theorem dX10_piece_46 : decode cX10_piece 46 = .ok (.iload_n 2, 1) := by decide +kernel
theorem dX10_piece_47 : decode cX10_piece 47 = .ok (.iconst 4, 1) := by decide +kernel
theorem dX10_piece_48 : decode cX10_piece 48 = .ok (.if_icmp .ne 16, 3) := by decide +kernel
theorem dX10_piece_51 : decode cX10_piece 51 = .ok (.aload_n 0, 1) := by decide +kernel
theorem dX10_piece_52 : decode cX10_piece 52 = .ok (.iload_n 1, 1) := by decide +kernel
theorem dX10_piece_53 : decode cX10_piece 53 = .ok (.iconst 3, 1) := by decide +kernel
theorem dX10_piece_54 : decode cX10_piece 54 = .ok (.invokevirtual 203, 3) := by decide +kernel
theorem dX10_piece_57 : decode cX10_piece 57 = .ok (.ifCond .le 7, 3) := by decide +kernel
theorem dX10_piece_60 : decode cX10_piece 60 = .ok (.iconst (-1), 1) := by decide +kernel
theorem dX10_piece_61 : decode cX10_piece 61 = .ok (.goto 9, 3) := by decide +kernel
theorem dX10_piece_64 : decode cX10_piece 64 = .ok (.aload_n 0, 1) := by decide +kernel
theorem dX10_piece_65 : decode cX10_piece 65 = .ok (.iload_n 1, 1) := by decide +kernel
theorem dX10_piece_66 : decode cX10_piece 66 = .ok (.iload_n 2, 1) := by decide +kernel
theorem dX10_piece_67 : decode cX10_piece 67 = .ok (.invokevirtual 203, 3) := by decide +kernel
theorem dX10_piece_70 : decode cX10_piece 70 = .ok (.ireturn, 1) := by decide +kernel
theorem dX10_pieceLetter_0 : decode cX10_pieceLetter 0 = .ok (.aload_n 0, 1) := by decide +kernel
theorem dX10_pieceLetter_1 : decode cX10_pieceLetter 1 = .ok (.iload_n 1, 1) := by decide +kernel
theorem dX10_pieceLetter_2 : decode cX10_pieceLetter 2 = .ok (.invokevirtual 268, 3) := by decide +kernel
theorem dX10_pieceLetter_5 : decode cX10_pieceLetter 5 = .ok (.ifCond .eq 5, 3) := by decide +kernel
theorem dX10_pieceLetter_8 : decode cX10_pieceLetter 8 = .ok (.iconst 0, 1) := by decide +kernel
theorem dX10_pieceLetter_9 : decode cX10_pieceLetter 9 = .ok (.ireturn, 1) := by decide +kernel
theorem dX10_pieceLetter_10 : decode cX10_pieceLetter 10 = .ok (.aload_n 0, 1) := by decide +kernel
theorem dX10_pieceLetter_11 : decode cX10_pieceLetter 11 = .ok (.iload_n 1, 1) := by decide +kernel
theorem dX10_pieceLetter_12 : decode cX10_pieceLetter 12 = .ok (.iconst 0, 1) := by decide +kernel
theorem dX10_pieceLetter_13 : decode cX10_pieceLetter 13 = .ok (.invokevirtual 203, 3) := by decide +kernel
theorem dX10_pieceLetter_16 : decode cX10_pieceLetter 16 = .ok (.invokestatic 206, 3) := by decide +kernel
theorem dX10_pieceLetter_19 : decode cX10_pieceLetter 19 = .ok (.istore_n 3, 1) := by decide +kernel
theorem dX10_pieceLetter_20 : decode cX10_pieceLetter 20 = .ok (.iload_n 2, 1) := by decide +kernel
theorem dX10_pieceLetter_21 : decode cX10_pieceLetter 21 = .ok (.iconst 0, 1) := by decide +kernel
theorem dX10_pieceLetter_22 : decode cX10_pieceLetter 22 = .ok (.iload_n 3, 1) := by decide +kernel
theorem dX10_pieceLetter_23 : decode cX10_pieceLetter 23 = .ok (.iconst 1, 1) := by decide +kernel
theorem dX10_pieceLetter_24 : decode cX10_pieceLetter 24 = .ok (.isub, 1) := by decide +kernel
theorem dX10_pieceLetter_25 : decode cX10_pieceLetter 25 = .ok (.invokestatic 88, 3) := by decide +kernel
theorem dX10_pieceLetter_28 : decode cX10_pieceLetter 28 = .ok (.ifCond .eq 25, 3) := by decide +kernel
theorem dX10_pieceLetter_31 : decode cX10_pieceLetter 31 = .ok (.aload_n 0, 1) := by decide +kernel
theorem dX10_pieceLetter_32 : decode cX10_pieceLetter 32 = .ok (.iload_n 1, 1) := by decide +kernel
theorem dX10_pieceLetter_33 : decode cX10_pieceLetter 33 = .ok (.iconst 0, 1) := by decide +kernel
theorem dX10_pieceLetter_34 : decode cX10_pieceLetter 34 = .ok (.invokevirtual 203, 3) := by decide +kernel
theorem dX10_pieceLetter_37 : decode cX10_pieceLetter 37 = .ok (.iconst 5, 1) := by decide +kernel
theorem dX10_pieceLetter_38 : decode cX10_pieceLetter 38 = .ok (.iload_n 3, 1) := by decide +kernel
theorem dX10_pieceLetter_39 : decode cX10_pieceLetter 39 = .ok (.iconst 1, 1) := by decide +kernel
theorem dX10_pieceLetter_40 : decode cX10_pieceLetter 40 = .ok (.isub, 1) := by decide +kernel
theorem dX10_pieceLetter_41 : decode cX10_pieceLetter 41 = .ok (.iload_n 2, 1) := by decide +kernel
theorem dX10_pieceLetter_42 : decode cX10_pieceLetter 42 = .ok (.isub, 1) := by decide +kernel
theorem dX10_pieceLetter_43 : decode cX10_pieceLetter 43 = .ok (.imul, 1) := by decide +kernel
theorem dX10_pieceLetter_44 : decode cX10_pieceLetter 44 = .ok (.ishr, 1) := by decide +kernel
theorem dX10_pieceLetter_45 : decode cX10_pieceLetter 45 = .ok (.bipush 31, 2) := by decide +kernel
theorem dX10_pieceLetter_47 : decode cX10_pieceLetter 47 = .ok (.iand, 1) := by decide +kernel
theorem dX10_pieceLetter_48 : decode cX10_pieceLetter 48 = .ok (.iconst 1, 1) := by decide +kernel
theorem dX10_pieceLetter_49 : decode cX10_pieceLetter 49 = .ok (.isub, 1) := by decide +kernel
theorem dX10_pieceLetter_50 : decode cX10_pieceLetter 50 = .ok (.goto 4, 3) := by decide +kernel
theorem dX10_pieceLetter_53 : decode cX10_pieceLetter 53 = .ok (.iconst (-1), 1) := by decide +kernel
theorem dX10_pieceLetter_54 : decode cX10_pieceLetter 54 = .ok (.ireturn, 1) := by decide +kernel
theorem dX10_word_0 : decode cX10_word 0 = .ok (.aload_n 0, 1) := by decide +kernel
theorem dX10_word_1 : decode cX10_word 1 = .ok (.iload_n 1, 1) := by decide +kernel
theorem dX10_word_2 : decode cX10_word 2 = .ok (.invokevirtual 271, 3) := by decide +kernel
theorem dX10_word_5 : decode cX10_word 5 = .ok (.ifCond .ne 25, 3) := by decide +kernel
theorem dX10_word_8 : decode cX10_word 8 = .ok (.aload_n 0, 1) := by decide +kernel
theorem dX10_word_9 : decode cX10_word 9 = .ok (.iload_n 2, 1) := by decide +kernel
theorem dX10_word_10 : decode cX10_word 10 = .ok (.iconst 0, 1) := by decide +kernel
theorem dX10_word_11 : decode cX10_word 11 = .ok (.iconst 3, 1) := by decide +kernel
theorem dX10_word_12 : decode cX10_word 12 = .ok (.invokestatic 88, 3) := by decide +kernel
theorem dX10_word_15 : decode cX10_word 15 = .ok (.ifCond .ne 7, 3) := by decide +kernel
theorem dX10_word_18 : decode cX10_word 18 = .ok (.iconst 1, 1) := by decide +kernel
theorem dX10_word_19 : decode cX10_word 19 = .ok (.goto 4, 3) := by decide +kernel
theorem dX10_word_22 : decode cX10_word 22 = .ok (.iconst 0, 1) := by decide +kernel
theorem dX10_word_23 : decode cX10_word 23 = .ok (.iconst 2, 1) := by decide +kernel
theorem dX10_word_24 : decode cX10_word 24 = .ok (.invokevirtual 186, 3) := by decide +kernel
theorem dX10_word_27 : decode cX10_word 27 = .ok (.ifCond .eq 5, 3) := by decide +kernel
theorem dX10_word_30 : decode cX10_word 30 = .ok (.iconst 0, 1) := by decide +kernel
theorem dX10_word_31 : decode cX10_word 31 = .ok (.ireturn, 1) := by decide +kernel
theorem dX10_word_32 : decode cX10_word 32 = .ok (.aload_n 0, 1) := by decide +kernel
theorem dX10_word_33 : decode cX10_word 33 = .ok (.iload_n 1, 1) := by decide +kernel
theorem dX10_word_34 : decode cX10_word 34 = .ok (.invokevirtual 247, 3) := by decide +kernel
theorem dX10_word_37 : decode cX10_word 37 = .ok (.iload_n 2, 1) := by decide +kernel
theorem dX10_word_38 : decode cX10_word 38 = .ok (.ifCond .ne 12, 3) := by decide +kernel
theorem dX10_word_41 : decode cX10_word 41 = .ok (.aload_n 0, 1) := by decide +kernel
theorem dX10_word_42 : decode cX10_word 42 = .ok (.iload_n 1, 1) := by decide +kernel
theorem dX10_word_43 : decode cX10_word 43 = .ok (.iconst 0, 1) := by decide +kernel
theorem dX10_word_44 : decode cX10_word 44 = .ok (.invokevirtual 244, 3) := by decide +kernel
theorem dX10_word_47 : decode cX10_word 47 = .ok (.goto 42, 3) := by decide +kernel
theorem dX10_word_50 : decode cX10_word 50 = .ok (.iload_n 2, 1) := by decide +kernel
theorem dX10_word_51 : decode cX10_word 51 = .ok (.iconst 1, 1) := by decide +kernel
theorem dX10_word_52 : decode cX10_word 52 = .ok (.if_icmp .ne 10, 3) := by decide +kernel
theorem dX10_word_55 : decode cX10_word 55 = .ok (.aload_n 0, 1) := by decide +kernel
theorem dX10_word_56 : decode cX10_word 56 = .ok (.getfield 122, 3) := by decide +kernel
theorem dX10_word_59 : decode cX10_word 59 = .ok (.goto 30, 3) := by decide +kernel
theorem dX10_word_62 : decode cX10_word 62 = .ok (.iload_n 2, 1) := by decide +kernel
theorem dX10_word_63 : decode cX10_word 63 = .ok (.iconst 2, 1) := by decide +kernel
theorem dX10_word_64 : decode cX10_word 64 = .ok (.if_icmp .ne 12, 3) := by decide +kernel
theorem dX10_word_67 : decode cX10_word 67 = .ok (.aload_n 0, 1) := by decide +kernel
theorem dX10_word_68 : decode cX10_word 68 = .ok (.iload_n 1, 1) := by decide +kernel
theorem dX10_word_69 : decode cX10_word 69 = .ok (.iconst 1, 1) := by decide +kernel
theorem dX10_word_70 : decode cX10_word 70 = .ok (.invokevirtual 244, 3) := by decide +kernel
theorem dX10_word_73 : decode cX10_word 73 = .ok (.goto 16, 3) := by decide +kernel
theorem dX10_word_76 : decode cX10_word 76 = .ok (.aload_n 0, 1) := by decide +kernel
theorem dX10_word_77 : decode cX10_word 77 = .ok (.getfield 7, 3) := by decide +kernel
theorem dX10_word_80 : decode cX10_word 80 = .ok (.iconst 2, 1) := by decide +kernel
theorem dX10_word_81 : decode cX10_word 81 = .ok (.iaload, 1) := by decide +kernel
theorem dX10_word_82 : decode cX10_word 82 = .ok (.aload_n 0, 1) := by decide +kernel
theorem dX10_word_83 : decode cX10_word 83 = .ok (.iload_n 1, 1) := by decide +kernel
theorem dX10_word_84 : decode cX10_word 84 = .ok (.iconst 1, 1) := by decide +kernel
theorem dX10_word_85 : decode cX10_word 85 = .ok (.invokevirtual 244, 3) := by decide +kernel
theorem dX10_word_88 : decode cX10_word 88 = .ok (.imul, 1) := by decide +kernel
theorem dX10_word_89 : decode cX10_word 89 = .ok (.ireturn, 1) := by decide +kernel
theorem dX10_wordLetter_0 : decode cX10_wordLetter 0 = .ok (.aload_n 0, 1) := by decide +kernel
theorem dX10_wordLetter_1 : decode cX10_wordLetter 1 = .ok (.iload_n 1, 1) := by decide +kernel
theorem dX10_wordLetter_2 : decode cX10_wordLetter 2 = .ok (.invokevirtual 271, 3) := by decide +kernel
theorem dX10_wordLetter_5 : decode cX10_wordLetter 5 = .ok (.ifCond .eq 5, 3) := by decide +kernel
theorem dX10_wordLetter_8 : decode cX10_wordLetter 8 = .ok (.iconst 0, 1) := by decide +kernel
theorem dX10_wordLetter_9 : decode cX10_wordLetter 9 = .ok (.ireturn, 1) := by decide +kernel
theorem dX10_wordLetter_10 : decode cX10_wordLetter 10 = .ok (.aload_n 0, 1) := by decide +kernel
theorem dX10_wordLetter_11 : decode cX10_wordLetter 11 = .ok (.iload_n 1, 1) := by decide +kernel
theorem dX10_wordLetter_12 : decode cX10_wordLetter 12 = .ok (.invokevirtual 247, 3) := by decide +kernel
theorem dX10_wordLetter_15 : decode cX10_wordLetter 15 = .ok (.iload_n 2, 1) := by decide +kernel
theorem dX10_wordLetter_16 : decode cX10_wordLetter 16 = .ok (.iconst 0, 1) := by decide +kernel
theorem dX10_wordLetter_17 : decode cX10_wordLetter 17 = .ok (.aload_n 0, 1) := by decide +kernel
theorem dX10_wordLetter_18 : decode cX10_wordLetter 18 = .ok (.getfield 122, 3) := by decide +kernel
theorem dX10_wordLetter_21 : decode cX10_wordLetter 21 = .ok (.iconst 1, 1) := by decide +kernel
theorem dX10_wordLetter_22 : decode cX10_wordLetter 22 = .ok (.isub, 1) := by decide +kernel
theorem dX10_wordLetter_23 : decode cX10_wordLetter 23 = .ok (.invokestatic 88, 3) := by decide +kernel
theorem dX10_wordLetter_26 : decode cX10_wordLetter 26 = .ok (.ifCond .eq 14, 3) := by decide +kernel
theorem dX10_wordLetter_29 : decode cX10_wordLetter 29 = .ok (.aload_n 0, 1) := by decide +kernel
theorem dX10_wordLetter_30 : decode cX10_wordLetter 30 = .ok (.getfield 31, 3) := by decide +kernel
theorem dX10_wordLetter_33 : decode cX10_wordLetter 33 = .ok (.iload_n 2, 1) := by decide +kernel
theorem dX10_wordLetter_34 : decode cX10_wordLetter 34 = .ok (.iaload, 1) := by decide +kernel
theorem dX10_wordLetter_35 : decode cX10_wordLetter 35 = .ok (.iconst 1, 1) := by decide +kernel
theorem dX10_wordLetter_36 : decode cX10_wordLetter 36 = .ok (.isub, 1) := by decide +kernel
theorem dX10_wordLetter_37 : decode cX10_wordLetter 37 = .ok (.goto 4, 3) := by decide +kernel
theorem dX10_wordLetter_40 : decode cX10_wordLetter 40 = .ok (.iconst (-1), 1) := by decide +kernel
theorem dX10_wordLetter_41 : decode cX10_wordLetter 41 = .ok (.ireturn, 1) := by decide +kernel
theorem dX10_part_0 : decode cX10_part 0 = .ok (.aload_n 0, 1) := by decide +kernel
theorem dX10_part_1 : decode cX10_part 1 = .ok (.iload_n 1, 1) := by decide +kernel
theorem dX10_part_2 : decode cX10_part 2 = .ok (.invokevirtual 271, 3) := by decide +kernel
theorem dX10_part_5 : decode cX10_part 5 = .ok (.ifCond .eq 7, 3) := by decide +kernel
theorem dX10_part_8 : decode cX10_part 8 = .ok (.iconst 0, 1) := by decide +kernel
theorem dX10_part_9 : decode cX10_part 9 = .ok (.goto 31, 3) := by decide +kernel
theorem dX10_part_12 : decode cX10_part 12 = .ok (.iload_n 2, 1) := by decide +kernel
theorem dX10_part_13 : decode cX10_part 13 = .ok (.iconst 0, 1) := by decide +kernel
theorem dX10_part_14 : decode cX10_part 14 = .ok (.aload_n 0, 1) := by decide +kernel
theorem dX10_part_15 : decode cX10_part 15 = .ok (.iload_n 1, 1) := by decide +kernel
theorem dX10_part_16 : decode cX10_part 16 = .ok (.iconst 1, 1) := by decide +kernel
theorem dX10_part_17 : decode cX10_part 17 = .ok (.invokevirtual 244, 3) := by decide +kernel
theorem dX10_part_20 : decode cX10_part 20 = .ok (.iconst 1, 1) := by decide +kernel
theorem dX10_part_21 : decode cX10_part 21 = .ok (.isub, 1) := by decide +kernel
theorem dX10_part_22 : decode cX10_part 22 = .ok (.invokestatic 88, 3) := by decide +kernel
theorem dX10_part_25 : decode cX10_part 25 = .ok (.ifCond .eq 14, 3) := by decide +kernel
theorem dX10_part_28 : decode cX10_part 28 = .ok (.aload_n 0, 1) := by decide +kernel
theorem dX10_part_29 : decode cX10_part 29 = .ok (.iload_n 1, 1) := by decide +kernel
theorem dX10_part_30 : decode cX10_part 30 = .ok (.iconst 2, 1) := by decide +kernel
theorem dX10_part_31 : decode cX10_part 31 = .ok (.iload_n 2, 1) := by decide +kernel
theorem dX10_part_32 : decode cX10_part 32 = .ok (.iadd, 1) := by decide +kernel
theorem dX10_part_33 : decode cX10_part 33 = .ok (.invokevirtual 244, 3) := by decide +kernel
theorem dX10_part_36 : decode cX10_part 36 = .ok (.goto 4, 3) := by decide +kernel
theorem dX10_part_39 : decode cX10_part 39 = .ok (.iconst (-1), 1) := by decide +kernel
theorem dX10_part_40 : decode cX10_part 40 = .ok (.ireturn, 1) := by decide +kernel
theorem dX10_quote_0 : decode cX10_quote 0 = .ok (.aload_n 0, 1) := by decide +kernel
theorem dX10_quote_1 : decode cX10_quote 1 = .ok (.iconst 0, 1) := by decide +kernel
theorem dX10_quote_2 : decode cX10_quote 2 = .ok (.putfield 59, 3) := by decide +kernel
theorem dX10_quote_5 : decode cX10_quote 5 = .ok (.aload_n 0, 1) := by decide +kernel
theorem dX10_quote_6 : decode cX10_quote 6 = .ok (.invokevirtual 253, 3) := by decide +kernel
theorem dX10_quote_9 : decode cX10_quote 9 = .ok (.istore_n 2, 1) := by decide +kernel
theorem dX10_quote_10 : decode cX10_quote 10 = .ok (.aload_n 0, 1) := by decide +kernel
theorem dX10_quote_11 : decode cX10_quote 11 = .ok (.iload_n 1, 1) := by decide +kernel
theorem dX10_quote_12 : decode cX10_quote 12 = .ok (.iconst 0, 1) := by decide +kernel
theorem dX10_quote_13 : decode cX10_quote 13 = .ok (.iconst 4, 1) := by decide +kernel
theorem dX10_quote_14 : decode cX10_quote 14 = .ok (.invokestatic 88, 3) := by decide +kernel
theorem dX10_quote_17 : decode cX10_quote 17 = .ok (.ifCond .ne 7, 3) := by decide +kernel
theorem dX10_quote_20 : decode cX10_quote 20 = .ok (.iconst 1, 1) := by decide +kernel
theorem dX10_quote_21 : decode cX10_quote 21 = .ok (.goto 4, 3) := by decide +kernel
theorem dX10_quote_24 : decode cX10_quote 24 = .ok (.iconst 0, 1) := by decide +kernel
theorem dX10_quote_25 : decode cX10_quote 25 = .ok (.iconst 1, 1) := by decide +kernel
theorem dX10_quote_26 : decode cX10_quote 26 = .ok (.invokevirtual 186, 3) := by decide +kernel
theorem dX10_quote_29 : decode cX10_quote 29 = .ok (.ifCond .eq 5, 3) := by decide +kernel
theorem dX10_quote_32 : decode cX10_quote 32 = .ok (.iconst 0, 1) := by decide +kernel
theorem dX10_quote_33 : decode cX10_quote 33 = .ok (.ireturn, 1) := by decide +kernel
theorem dX10_quote_34 : decode cX10_quote 34 = .ok (.iload_n 2, 1) := by decide +kernel
theorem dX10_quote_35 : decode cX10_quote 35 = .ok (.ifCond .ne 5, 3) := by decide +kernel
theorem dX10_quote_38 : decode cX10_quote 38 = .ok (.iconst (-1), 1) := by decide +kernel
theorem dX10_quote_39 : decode cX10_quote 39 = .ok (.ireturn, 1) := by decide +kernel
theorem dX10_quote_40 : decode cX10_quote 40 = .ok (.aload_n 0, 1) := by decide +kernel
theorem dX10_quote_41 : decode cX10_quote 41 = .ok (.invokevirtual 153, 3) := by decide +kernel
theorem dX10_quote_44 : decode cX10_quote 44 = .ok (.aload_n 0, 1) := by decide +kernel
theorem dX10_quote_45 : decode cX10_quote 45 = .ok (.invokevirtual 228, 3) := by decide +kernel
theorem dX10_quote_48 : decode cX10_quote 48 = .ok (.aload_n 0, 1) := by decide +kernel
theorem dX10_quote_49 : decode cX10_quote 49 = .ok (.getfield 7, 3) := by decide +kernel
theorem dX10_quote_52 : decode cX10_quote 52 = .ok (.iconst 2, 1) := by decide +kernel
theorem dX10_quote_53 : decode cX10_quote 53 = .ok (.iaload, 1) := by decide +kernel
theorem dX10_quote_54 : decode cX10_quote 54 = .ok (.aload_n 0, 1) := by decide +kernel
theorem dX10_quote_55 : decode cX10_quote 55 = .ok (.getfield 37, 3) := by decide +kernel
theorem dX10_quote_58 : decode cX10_quote 58 = .ok (.iconst 0, 1) := by decide +kernel
theorem dX10_quote_59 : decode cX10_quote 59 = .ok (.iaload, 1) := by decide +kernel
theorem dX10_quote_60 : decode cX10_quote 60 = .ok (.imul, 1) := by decide +kernel
theorem dX10_quote_61 : decode cX10_quote 61 = .ok (.istore_n 3, 1) := by decide +kernel
theorem dX10_quote_62 : decode cX10_quote 62 = .ok (.iload_n 1, 1) := by decide +kernel
theorem dX10_quote_63 : decode cX10_quote 63 = .ok (.tableswitch 50 0 3 #[29, 36, 38, 43], 29) := by decide +kernel
theorem dX10_quote_92 : decode cX10_quote 92 = .ok (.iload_n 3, 1) := by decide +kernel
theorem dX10_quote_93 : decode cX10_quote 93 = .ok (.aload_n 0, 1) := by decide +kernel
theorem dX10_quote_94 : decode cX10_quote 94 = .ok (.invokevirtual 231, 3) := by decide +kernel
theorem dX10_quote_97 : decode cX10_quote 97 = .ok (.iadd, 1) := by decide +kernel
theorem dX10_quote_98 : decode cX10_quote 98 = .ok (.ireturn, 1) := by decide +kernel
theorem dX10_quote_99 : decode cX10_quote 99 = .ok (.iload_n 3, 1) := by decide +kernel
theorem dX10_quote_100 : decode cX10_quote 100 = .ok (.ireturn, 1) := by decide +kernel
theorem dX10_quote_101 : decode cX10_quote 101 = .ok (.aload_n 0, 1) := by decide +kernel
theorem dX10_quote_102 : decode cX10_quote 102 = .ok (.invokevirtual 231, 3) := by decide +kernel
theorem dX10_quote_105 : decode cX10_quote 105 = .ok (.ireturn, 1) := by decide +kernel
theorem dX10_quote_106 : decode cX10_quote 106 = .ok (.aload_n 0, 1) := by decide +kernel
theorem dX10_quote_107 : decode cX10_quote 107 = .ok (.getfield 37, 3) := by decide +kernel
theorem dX10_quote_110 : decode cX10_quote 110 = .ok (.iconst 0, 1) := by decide +kernel
theorem dX10_quote_111 : decode cX10_quote 111 = .ok (.iaload, 1) := by decide +kernel
theorem dX10_quote_112 : decode cX10_quote 112 = .ok (.ireturn, 1) := by decide +kernel
theorem dX10_quote_113 : decode cX10_quote 113 = .ok (.aload_n 0, 1) := by decide +kernel
theorem dX10_quote_114 : decode cX10_quote 114 = .ok (.getfield 225, 3) := by decide +kernel
theorem dX10_quote_117 : decode cX10_quote 117 = .ok (.ireturn, 1) := by decide +kernel
theorem dX10_whyNotStore_0 : decode cX10_whyNotStore 0 = .ok (.aload_n 0, 1) := by decide +kernel
theorem dX10_whyNotStore_1 : decode cX10_whyNotStore 1 = .ok (.invokevirtual 253, 3) := by decide +kernel
theorem dX10_whyNotStore_4 : decode cX10_whyNotStore 4 = .ok (.istore_n 2, 1) := by decide +kernel
theorem dX10_whyNotStore_5 : decode cX10_whyNotStore 5 = .ok (.aload_n 0, 1) := by decide +kernel
theorem dX10_whyNotStore_6 : decode cX10_whyNotStore 6 = .ok (.iload_n 1, 1) := by decide +kernel
theorem dX10_whyNotStore_7 : decode cX10_whyNotStore 7 = .ok (.invokevirtual 262, 3) := by decide +kernel
theorem dX10_whyNotStore_10 : decode cX10_whyNotStore 10 = .ok (.ifCond .eq 5, 3) := by decide +kernel
theorem dX10_whyNotStore_13 : decode cX10_whyNotStore 13 = .ok (.iconst 0, 1) := by decide +kernel
theorem dX10_whyNotStore_14 : decode cX10_whyNotStore 14 = .ok (.ireturn, 1) := by decide +kernel
theorem dX10_whyNotStore_15 : decode cX10_whyNotStore 15 = .ok (.iload_n 2, 1) := by decide +kernel
theorem dX10_whyNotStore_16 : decode cX10_whyNotStore 16 = .ok (.ifCond .ne 5, 3) := by decide +kernel
theorem dX10_whyNotStore_19 : decode cX10_whyNotStore 19 = .ok (.iconst 1, 1) := by decide +kernel
theorem dX10_whyNotStore_20 : decode cX10_whyNotStore 20 = .ok (.ireturn, 1) := by decide +kernel
theorem dX10_whyNotStore_21 : decode cX10_whyNotStore 21 = .ok (.aload_n 0, 1) := by decide +kernel
theorem dX10_whyNotStore_22 : decode cX10_whyNotStore 22 = .ok (.invokevirtual 153, 3) := by decide +kernel
theorem dX10_whyNotStore_25 : decode cX10_whyNotStore 25 = .ok (.aload_n 0, 1) := by decide +kernel
theorem dX10_whyNotStore_26 : decode cX10_whyNotStore 26 = .ok (.iload_n 1, 1) := by decide +kernel
theorem dX10_whyNotStore_27 : decode cX10_whyNotStore 27 = .ok (.invokevirtual 156, 3) := by decide +kernel
theorem dX10_whyNotStore_30 : decode cX10_whyNotStore 30 = .ok (.ireturn, 1) := by decide +kernel
theorem dX10_ways_0 : decode cX10_ways 0 = .ok (.aload_n 0, 1) := by decide +kernel
theorem dX10_ways_1 : decode cX10_ways 1 = .ok (.iload_n 1, 1) := by decide +kernel
theorem dX10_ways_2 : decode cX10_ways 2 = .ok (.invokevirtual 271, 3) := by decide +kernel
theorem dX10_ways_5 : decode cX10_ways 5 = .ok (.ifCond .eq 5, 3) := by decide +kernel
theorem dX10_ways_8 : decode cX10_ways 8 = .ok (.iconst 0, 1) := by decide +kernel
theorem dX10_ways_9 : decode cX10_ways 9 = .ok (.ireturn, 1) := by decide +kernel
theorem dX10_ways_10 : decode cX10_ways 10 = .ok (.aload_n 0, 1) := by decide +kernel
theorem dX10_ways_11 : decode cX10_ways 11 = .ok (.iload_n 1, 1) := by decide +kernel
theorem dX10_ways_12 : decode cX10_ways 12 = .ok (.invokevirtual 247, 3) := by decide +kernel
theorem dX10_ways_15 : decode cX10_ways 15 = .ok (.aload_n 0, 1) := by decide +kernel
theorem dX10_ways_16 : decode cX10_ways 16 = .ok (.getfield 46, 3) := by decide +kernel
theorem dX10_ways_19 : decode cX10_ways 19 = .ok (.aload_n 0, 1) := by decide +kernel
theorem dX10_ways_20 : decode cX10_ways 20 = .ok (.getfield 122, 3) := by decide +kernel
theorem dX10_ways_23 : decode cX10_ways 23 = .ok (.iconst 1, 1) := by decide +kernel
theorem dX10_ways_24 : decode cX10_ways 24 = .ok (.iastore, 1) := by decide +kernel
theorem dX10_ways_25 : decode cX10_ways 25 = .ok (.aload_n 0, 1) := by decide +kernel
theorem dX10_ways_26 : decode cX10_ways 26 = .ok (.getfield 122, 3) := by decide +kernel
theorem dX10_ways_29 : decode cX10_ways 29 = .ok (.iconst 1, 1) := by decide +kernel
theorem dX10_ways_30 : decode cX10_ways 30 = .ok (.isub, 1) := by decide +kernel
theorem dX10_ways_31 : decode cX10_ways 31 = .ok (.istore_n 2, 1) := by decide +kernel
theorem dX10_ways_32 : decode cX10_ways 32 = .ok (.iload_n 2, 1) := by decide +kernel
theorem dX10_ways_33 : decode cX10_ways 33 = .ok (.ifCond .lt 75, 3) := by decide +kernel
theorem dX10_ways_36 : decode cX10_ways 36 = .ok (.aload_n 0, 1) := by decide +kernel
theorem dX10_ways_37 : decode cX10_ways 37 = .ok (.getfield 46, 3) := by decide +kernel
theorem dX10_ways_40 : decode cX10_ways 40 = .ok (.iload_n 2, 1) := by decide +kernel
theorem dX10_ways_41 : decode cX10_ways 41 = .ok (.iconst 0, 1) := by decide +kernel
theorem dX10_ways_42 : decode cX10_ways 42 = .ok (.iastore, 1) := by decide +kernel
theorem dX10_ways_43 : decode cX10_ways 43 = .ok (.iconst 1, 1) := by decide +kernel
theorem dX10_ways_44 : decode cX10_ways 44 = .ok (.istore_n 3, 1) := by decide +kernel
theorem dX10_ways_45 : decode cX10_ways 45 = .ok (.iload_n 3, 1) := by decide +kernel
theorem dX10_ways_46 : decode cX10_ways 46 = .ok (.bipush 6, 2) := by decide +kernel
theorem dX10_ways_48 : decode cX10_ways 48 = .ok (.if_icmp .gt 54, 3) := by decide +kernel
theorem dX10_ways_51 : decode cX10_ways 51 = .ok (.iload_n 2, 1) := by decide +kernel
theorem dX10_ways_52 : decode cX10_ways 52 = .ok (.iload_n 3, 1) := by decide +kernel
theorem dX10_ways_53 : decode cX10_ways 53 = .ok (.iadd, 1) := by decide +kernel
theorem dX10_ways_54 : decode cX10_ways 54 = .ok (.aload_n 0, 1) := by decide +kernel
theorem dX10_ways_55 : decode cX10_ways 55 = .ok (.getfield 122, 3) := by decide +kernel
theorem dX10_ways_58 : decode cX10_ways 58 = .ok (.if_icmp .gt 44, 3) := by decide +kernel
theorem dX10_ways_61 : decode cX10_ways 61 = .ok (.aload_n 0, 1) := by decide +kernel
theorem dX10_ways_62 : decode cX10_ways 62 = .ok (.getfield 46, 3) := by decide +kernel
theorem dX10_ways_65 : decode cX10_ways 65 = .ok (.iload_n 2, 1) := by decide +kernel
theorem dX10_ways_66 : decode cX10_ways 66 = .ok (.dup2, 1) := by decide +kernel
theorem dX10_ways_67 : decode cX10_ways 67 = .ok (.iaload, 1) := by decide +kernel
theorem dX10_ways_68 : decode cX10_ways 68 = .ok (.aload_n 0, 1) := by decide +kernel
theorem dX10_ways_69 : decode cX10_ways 69 = .ok (.aload_n 0, 1) := by decide +kernel
theorem dX10_ways_70 : decode cX10_ways 70 = .ok (.iload_n 2, 1) := by decide +kernel
theorem dX10_ways_71 : decode cX10_ways 71 = .ok (.iload_n 3, 1) := by decide +kernel
theorem dX10_ways_72 : decode cX10_ways 72 = .ok (.invokevirtual 142, 3) := by decide +kernel
theorem dX10_ways_75 : decode cX10_ways 75 = .ok (.invokevirtual 146, 3) := by decide +kernel
theorem dX10_ways_78 : decode cX10_ways 78 = .ok (.iconst (-1), 1) := by decide +kernel
theorem dX10_ways_79 : decode cX10_ways 79 = .ok (.if_icmp .ne 7, 3) := by decide +kernel
theorem dX10_ways_82 : decode cX10_ways 82 = .ok (.iconst 0, 1) := by decide +kernel
theorem dX10_ways_83 : decode cX10_ways 83 = .ok (.goto 11, 3) := by decide +kernel
theorem dX10_ways_86 : decode cX10_ways 86 = .ok (.aload_n 0, 1) := by decide +kernel
theorem dX10_ways_87 : decode cX10_ways 87 = .ok (.getfield 46, 3) := by decide +kernel
theorem dX10_ways_90 : decode cX10_ways 90 = .ok (.iload_n 2, 1) := by decide +kernel
theorem dX10_ways_91 : decode cX10_ways 91 = .ok (.iload_n 3, 1) := by decide +kernel
theorem dX10_ways_92 : decode cX10_ways 92 = .ok (.iadd, 1) := by decide +kernel
theorem dX10_ways_93 : decode cX10_ways 93 = .ok (.iaload, 1) := by decide +kernel
theorem dX10_ways_94 : decode cX10_ways 94 = .ok (.iadd, 1) := by decide +kernel
theorem dX10_ways_95 : decode cX10_ways 95 = .ok (.iastore, 1) := by decide +kernel
theorem dX10_ways_96 : decode cX10_ways 96 = .ok (.iinc 3 1, 3) := by decide +kernel
theorem dX10_ways_99 : decode cX10_ways 99 = .ok (.goto (-54), 3) := by decide +kernel
theorem dX10_ways_102 : decode cX10_ways 102 = .ok (.iinc 2 (-1), 3) := by decide +kernel
theorem dX10_ways_105 : decode cX10_ways 105 = .ok (.goto (-73), 3) := by decide +kernel
theorem dX10_ways_108 : decode cX10_ways 108 = .ok (.aload_n 0, 1) := by decide +kernel
theorem dX10_ways_109 : decode cX10_ways 109 = .ok (.getfield 46, 3) := by decide +kernel
theorem dX10_ways_112 : decode cX10_ways 112 = .ok (.iconst 0, 1) := by decide +kernel
theorem dX10_ways_113 : decode cX10_ways 113 = .ok (.iaload, 1) := by decide +kernel
theorem dX10_ways_114 : decode cX10_ways 114 = .ok (.ireturn, 1) := by decide +kernel
theorem dX10_fewest_0 : decode cX10_fewest 0 = .ok (.aload_n 0, 1) := by decide +kernel
theorem dX10_fewest_1 : decode cX10_fewest 1 = .ok (.iload_n 1, 1) := by decide +kernel
theorem dX10_fewest_2 : decode cX10_fewest 2 = .ok (.invokevirtual 271, 3) := by decide +kernel
theorem dX10_fewest_5 : decode cX10_fewest 5 = .ok (.ifCond .eq 7, 3) := by decide +kernel
theorem dX10_fewest_8 : decode cX10_fewest 8 = .ok (.iconst 0, 1) := by decide +kernel
theorem dX10_fewest_9 : decode cX10_fewest 9 = .ok (.goto 9, 3) := by decide +kernel
theorem dX10_fewest_12 : decode cX10_fewest 12 = .ok (.aload_n 0, 1) := by decide +kernel
theorem dX10_fewest_13 : decode cX10_fewest 13 = .ok (.iload_n 1, 1) := by decide +kernel
theorem dX10_fewest_14 : decode cX10_fewest 14 = .ok (.iconst 0, 1) := by decide +kernel
theorem dX10_fewest_15 : decode cX10_fewest 15 = .ok (.invokevirtual 274, 3) := by decide +kernel
theorem dX10_fewest_18 : decode cX10_fewest 18 = .ok (.ireturn, 1) := by decide +kernel
theorem dX10_saving_0 : decode cX10_saving 0 = .ok (.aload_n 0, 1) := by decide +kernel
theorem dX10_saving_1 : decode cX10_saving 1 = .ok (.iload_n 1, 1) := by decide +kernel
theorem dX10_saving_2 : decode cX10_saving 2 = .ok (.invokevirtual 271, 3) := by decide +kernel
theorem dX10_saving_5 : decode cX10_saving 5 = .ok (.ifCond .eq 7, 3) := by decide +kernel
theorem dX10_saving_8 : decode cX10_saving 8 = .ok (.iconst 0, 1) := by decide +kernel
theorem dX10_saving_9 : decode cX10_saving 9 = .ok (.goto 23, 3) := by decide +kernel
theorem dX10_saving_12 : decode cX10_saving 12 = .ok (.aload_n 0, 1) := by decide +kernel
theorem dX10_saving_13 : decode cX10_saving 13 = .ok (.getfield 7, 3) := by decide +kernel
theorem dX10_saving_16 : decode cX10_saving 16 = .ok (.iconst 2, 1) := by decide +kernel
theorem dX10_saving_17 : decode cX10_saving 17 = .ok (.iaload, 1) := by decide +kernel
theorem dX10_saving_18 : decode cX10_saving 18 = .ok (.aload_n 0, 1) := by decide +kernel
theorem dX10_saving_19 : decode cX10_saving 19 = .ok (.iload_n 1, 1) := by decide +kernel
theorem dX10_saving_20 : decode cX10_saving 20 = .ok (.iconst 1, 1) := by decide +kernel
theorem dX10_saving_21 : decode cX10_saving 21 = .ok (.invokevirtual 244, 3) := by decide +kernel
theorem dX10_saving_24 : decode cX10_saving 24 = .ok (.aload_n 0, 1) := by decide +kernel
theorem dX10_saving_25 : decode cX10_saving 25 = .ok (.iload_n 1, 1) := by decide +kernel
theorem dX10_saving_26 : decode cX10_saving 26 = .ok (.iconst 0, 1) := by decide +kernel
theorem dX10_saving_27 : decode cX10_saving 27 = .ok (.invokevirtual 274, 3) := by decide +kernel
theorem dX10_saving_30 : decode cX10_saving 30 = .ok (.isub, 1) := by decide +kernel
theorem dX10_saving_31 : decode cX10_saving 31 = .ok (.imul, 1) := by decide +kernel
theorem dX10_saving_32 : decode cX10_saving 32 = .ok (.ireturn, 1) := by decide +kernel
theorem dX10_fewestOfAll_0 : decode cX10_fewestOfAll 0 = .ok (.iconst 0, 1) := by decide +kernel
theorem dX10_fewestOfAll_1 : decode cX10_fewestOfAll 1 = .ok (.istore_n 2, 1) := by decide +kernel
theorem dX10_fewestOfAll_2 : decode cX10_fewestOfAll 2 = .ok (.iconst 0, 1) := by decide +kernel
theorem dX10_fewestOfAll_3 : decode cX10_fewestOfAll 3 = .ok (.istore_n 3, 1) := by decide +kernel
theorem dX10_fewestOfAll_4 : decode cX10_fewestOfAll 4 = .ok (.iload_n 3, 1) := by decide +kernel
theorem dX10_fewestOfAll_5 : decode cX10_fewestOfAll 5 = .ok (.aload_n 0, 1) := by decide +kernel
theorem dX10_fewestOfAll_6 : decode cX10_fewestOfAll 6 = .ok (.getfield 7, 3) := by decide +kernel
theorem dX10_fewestOfAll_9 : decode cX10_fewestOfAll 9 = .ok (.bipush 10, 2) := by decide +kernel
theorem dX10_fewestOfAll_11 : decode cX10_fewestOfAll 11 = .ok (.iaload, 1) := by decide +kernel
theorem dX10_fewestOfAll_12 : decode cX10_fewestOfAll 12 = .ok (.if_icmp .ge 18, 3) := by decide +kernel
theorem dX10_fewestOfAll_15 : decode cX10_fewestOfAll 15 = .ok (.iload_n 2, 1) := by decide +kernel
theorem dX10_fewestOfAll_16 : decode cX10_fewestOfAll 16 = .ok (.aload_n 0, 1) := by decide +kernel
theorem dX10_fewestOfAll_17 : decode cX10_fewestOfAll 17 = .ok (.iload_n 3, 1) := by decide +kernel
theorem dX10_fewestOfAll_18 : decode cX10_fewestOfAll 18 = .ok (.iload_n 1, 1) := by decide +kernel
theorem dX10_fewestOfAll_19 : decode cX10_fewestOfAll 19 = .ok (.invokevirtual 274, 3) := by decide +kernel
theorem dX10_fewestOfAll_22 : decode cX10_fewestOfAll 22 = .ok (.iadd, 1) := by decide +kernel
theorem dX10_fewestOfAll_23 : decode cX10_fewestOfAll 23 = .ok (.istore_n 2, 1) := by decide +kernel
theorem dX10_fewestOfAll_24 : decode cX10_fewestOfAll 24 = .ok (.iinc 3 1, 3) := by decide +kernel
theorem dX10_fewestOfAll_27 : decode cX10_fewestOfAll 27 = .ok (.goto (-23), 3) := by decide +kernel
theorem dX10_fewestOfAll_30 : decode cX10_fewestOfAll 30 = .ok (.iload_n 2, 1) := by decide +kernel
theorem dX10_fewestOfAll_31 : decode cX10_fewestOfAll 31 = .ok (.ireturn, 1) := by decide +kernel
theorem dX10_bestPart_0 : decode cX10_bestPart 0 = .ok (.aload_n 0, 1) := by decide +kernel
theorem dX10_bestPart_1 : decode cX10_bestPart 1 = .ok (.iload_n 1, 1) := by decide +kernel
theorem dX10_bestPart_2 : decode cX10_bestPart 2 = .ok (.invokevirtual 271, 3) := by decide +kernel
theorem dX10_bestPart_5 : decode cX10_bestPart 5 = .ok (.ifCond .ne 25, 3) := by decide +kernel
theorem dX10_bestPart_8 : decode cX10_bestPart 8 = .ok (.aload_n 0, 1) := by decide +kernel
theorem dX10_bestPart_9 : decode cX10_bestPart 9 = .ok (.iload_n 2, 1) := by decide +kernel
theorem dX10_bestPart_10 : decode cX10_bestPart 10 = .ok (.iconst 0, 1) := by decide +kernel
theorem dX10_bestPart_11 : decode cX10_bestPart 11 = .ok (.iconst 2, 1) := by decide +kernel
theorem dX10_bestPart_12 : decode cX10_bestPart 12 = .ok (.invokestatic 88, 3) := by decide +kernel
theorem dX10_bestPart_15 : decode cX10_bestPart 15 = .ok (.ifCond .ne 7, 3) := by decide +kernel
theorem dX10_bestPart_18 : decode cX10_bestPart 18 = .ok (.iconst 1, 1) := by decide +kernel
theorem dX10_bestPart_19 : decode cX10_bestPart 19 = .ok (.goto 4, 3) := by decide +kernel
theorem dX10_bestPart_22 : decode cX10_bestPart 22 = .ok (.iconst 0, 1) := by decide +kernel
theorem dX10_bestPart_23 : decode cX10_bestPart 23 = .ok (.iconst 2, 1) := by decide +kernel
theorem dX10_bestPart_24 : decode cX10_bestPart 24 = .ok (.invokevirtual 186, 3) := by decide +kernel
theorem dX10_bestPart_27 : decode cX10_bestPart 27 = .ok (.ifCond .eq 5, 3) := by decide +kernel
theorem dX10_bestPart_30 : decode cX10_bestPart 30 = .ok (.iconst 0, 1) := by decide +kernel
theorem dX10_bestPart_31 : decode cX10_bestPart 31 = .ok (.ireturn, 1) := by decide +kernel
theorem dX10_bestPart_32 : decode cX10_bestPart 32 = .ok (.aload_n 0, 1) := by decide +kernel
theorem dX10_bestPart_33 : decode cX10_bestPart 33 = .ok (.iconst 0, 1) := by decide +kernel
theorem dX10_bestPart_34 : decode cX10_bestPart 34 = .ok (.invokevirtual 277, 3) := by decide +kernel
theorem dX10_bestPart_37 : decode cX10_bestPart 37 = .ok (.istore_n 3, 1) := by decide +kernel
theorem dX10_bestPart_38 : decode cX10_bestPart 38 = .ok (.iconst (-1), 1) := by decide +kernel
theorem dX10_bestPart_39 : decode cX10_bestPart 39 = .ok (.istore 4, 2) := by decide +kernel
theorem dX10_bestPart_41 : decode cX10_bestPart 41 = .ok (.iconst 0, 1) := by decide +kernel
theorem dX10_bestPart_42 : decode cX10_bestPart 42 = .ok (.istore 5, 2) := by decide +kernel
theorem dX10_bestPart_44 : decode cX10_bestPart 44 = .ok (.iconst 0, 1) := by decide +kernel
theorem dX10_bestPart_45 : decode cX10_bestPart 45 = .ok (.istore 6, 2) := by decide +kernel
theorem dX10_bestPart_47 : decode cX10_bestPart 47 = .ok (.aload_n 0, 1) := by decide +kernel
theorem dX10_bestPart_48 : decode cX10_bestPart 48 = .ok (.iload_n 1, 1) := by decide +kernel
theorem dX10_bestPart_49 : decode cX10_bestPart 49 = .ok (.invokevirtual 247, 3) := by decide +kernel
theorem dX10_bestPart_52 : decode cX10_bestPart 52 = .ok (.aload_n 0, 1) := by decide +kernel
theorem dX10_bestPart_53 : decode cX10_bestPart 53 = .ok (.getfield 122, 3) := by decide +kernel
theorem dX10_bestPart_56 : decode cX10_bestPart 56 = .ok (.istore 7, 2) := by decide +kernel
theorem dX10_bestPart_58 : decode cX10_bestPart 58 = .ok (.iconst 1, 1) := by decide +kernel
theorem dX10_bestPart_59 : decode cX10_bestPart 59 = .ok (.istore 8, 2) := by decide +kernel
theorem dX10_bestPart_61 : decode cX10_bestPart 61 = .ok (.iload 8, 2) := by decide +kernel
theorem dX10_bestPart_63 : decode cX10_bestPart 63 = .ok (.bipush 6, 2) := by decide +kernel
theorem dX10_bestPart_65 : decode cX10_bestPart 65 = .ok (.if_icmp .gt 86, 3) := by decide +kernel
theorem dX10_bestPart_68 : decode cX10_bestPart 68 = .ok (.iconst 0, 1) := by decide +kernel
theorem dX10_bestPart_69 : decode cX10_bestPart 69 = .ok (.istore 9, 2) := by decide +kernel
theorem dX10_bestPart_71 : decode cX10_bestPart 71 = .ok (.iload 9, 2) := by decide +kernel
theorem dX10_bestPart_73 : decode cX10_bestPart 73 = .ok (.iload 8, 2) := by decide +kernel
theorem dX10_bestPart_75 : decode cX10_bestPart 75 = .ok (.iadd, 1) := by decide +kernel
theorem dX10_bestPart_76 : decode cX10_bestPart 76 = .ok (.iload 7, 2) := by decide +kernel
theorem dX10_bestPart_78 : decode cX10_bestPart 78 = .ok (.if_icmp .gt 67, 3) := by decide +kernel
theorem dX10_bestPart_81 : decode cX10_bestPart 81 = .ok (.aload_n 0, 1) := by decide +kernel
theorem dX10_bestPart_82 : decode cX10_bestPart 82 = .ok (.iload_n 1, 1) := by decide +kernel
theorem dX10_bestPart_83 : decode cX10_bestPart 83 = .ok (.invokevirtual 247, 3) := by decide +kernel
theorem dX10_bestPart_86 : decode cX10_bestPart 86 = .ok (.aload_n 0, 1) := by decide +kernel
theorem dX10_bestPart_87 : decode cX10_bestPart 87 = .ok (.iload 9, 2) := by decide +kernel
theorem dX10_bestPart_89 : decode cX10_bestPart 89 = .ok (.iload 8, 2) := by decide +kernel
theorem dX10_bestPart_91 : decode cX10_bestPart 91 = .ok (.invokevirtual 142, 3) := by decide +kernel
theorem dX10_bestPart_94 : decode cX10_bestPart 94 = .ok (.istore 10, 2) := by decide +kernel
theorem dX10_bestPart_96 : decode cX10_bestPart 96 = .ok (.aload_n 0, 1) := by decide +kernel
theorem dX10_bestPart_97 : decode cX10_bestPart 97 = .ok (.iload 10, 2) := by decide +kernel
theorem dX10_bestPart_99 : decode cX10_bestPart 99 = .ok (.invokevirtual 146, 3) := by decide +kernel
theorem dX10_bestPart_102 : decode cX10_bestPart 102 = .ok (.iconst (-1), 1) := by decide +kernel
theorem dX10_bestPart_103 : decode cX10_bestPart 103 = .ok (.if_icmp .eq 7, 3) := by decide +kernel
theorem dX10_bestPart_106 : decode cX10_bestPart 106 = .ok (.iconst 0, 1) := by decide +kernel
theorem dX10_bestPart_107 : decode cX10_bestPart 107 = .ok (.goto 11, 3) := by decide +kernel
theorem dX10_bestPart_110 : decode cX10_bestPart 110 = .ok (.iload_n 3, 1) := by decide +kernel
theorem dX10_bestPart_111 : decode cX10_bestPart 111 = .ok (.aload_n 0, 1) := by decide +kernel
theorem dX10_bestPart_112 : decode cX10_bestPart 112 = .ok (.iload 10, 2) := by decide +kernel
theorem dX10_bestPart_114 : decode cX10_bestPart 114 = .ok (.invokevirtual 277, 3) := by decide +kernel
theorem dX10_bestPart_117 : decode cX10_bestPart 117 = .ok (.isub, 1) := by decide +kernel
theorem dX10_bestPart_118 : decode cX10_bestPart 118 = .ok (.istore 11, 2) := by decide +kernel
theorem dX10_bestPart_120 : decode cX10_bestPart 120 = .ok (.iload 11, 2) := by decide +kernel
theorem dX10_bestPart_122 : decode cX10_bestPart 122 = .ok (.iload 6, 2) := by decide +kernel
theorem dX10_bestPart_124 : decode cX10_bestPart 124 = .ok (.if_icmp .le 15, 3) := by decide +kernel
theorem dX10_bestPart_127 : decode cX10_bestPart 127 = .ok (.iload 9, 2) := by decide +kernel
theorem dX10_bestPart_129 : decode cX10_bestPart 129 = .ok (.istore 4, 2) := by decide +kernel
theorem dX10_bestPart_131 : decode cX10_bestPart 131 = .ok (.iload 8, 2) := by decide +kernel
theorem dX10_bestPart_133 : decode cX10_bestPart 133 = .ok (.istore 5, 2) := by decide +kernel
theorem dX10_bestPart_135 : decode cX10_bestPart 135 = .ok (.iload 11, 2) := by decide +kernel
theorem dX10_bestPart_137 : decode cX10_bestPart 137 = .ok (.istore 6, 2) := by decide +kernel
theorem dX10_bestPart_139 : decode cX10_bestPart 139 = .ok (.iinc 9 1, 3) := by decide +kernel
theorem dX10_bestPart_142 : decode cX10_bestPart 142 = .ok (.goto (-71), 3) := by decide +kernel
theorem dX10_bestPart_145 : decode cX10_bestPart 145 = .ok (.iinc 8 1, 3) := by decide +kernel
theorem dX10_bestPart_148 : decode cX10_bestPart 148 = .ok (.goto (-87), 3) := by decide +kernel
theorem dX10_bestPart_151 : decode cX10_bestPart 151 = .ok (.iload 4, 2) := by decide +kernel
theorem dX10_bestPart_153 : decode cX10_bestPart 153 = .ok (.iconst (-1), 1) := by decide +kernel
theorem dX10_bestPart_154 : decode cX10_bestPart 154 = .ok (.if_icmp .eq 7, 3) := by decide +kernel
theorem dX10_bestPart_157 : decode cX10_bestPart 157 = .ok (.iload_n 2, 1) := by decide +kernel
theorem dX10_bestPart_158 : decode cX10_bestPart 158 = .ok (.ifCond .ne 8, 3) := by decide +kernel
theorem dX10_bestPart_161 : decode cX10_bestPart 161 = .ok (.iload 4, 2) := by decide +kernel
theorem dX10_bestPart_163 : decode cX10_bestPart 163 = .ok (.goto 15, 3) := by decide +kernel
theorem dX10_bestPart_166 : decode cX10_bestPart 166 = .ok (.iload_n 2, 1) := by decide +kernel
theorem dX10_bestPart_167 : decode cX10_bestPart 167 = .ok (.iconst 1, 1) := by decide +kernel
theorem dX10_bestPart_168 : decode cX10_bestPart 168 = .ok (.if_icmp .ne 8, 3) := by decide +kernel
theorem dX10_bestPart_171 : decode cX10_bestPart 171 = .ok (.iload 5, 2) := by decide +kernel
theorem dX10_bestPart_173 : decode cX10_bestPart 173 = .ok (.goto 5, 3) := by decide +kernel
theorem dX10_bestPart_176 : decode cX10_bestPart 176 = .ok (.iload 6, 2) := by decide +kernel
theorem dX10_bestPart_178 : decode cX10_bestPart 178 = .ok (.ireturn, 1) := by decide +kernel
theorem dX10_piecesOf_0 : decode cX10_piecesOf 0 = .ok (.iconst 0, 1) := by decide +kernel
theorem dX10_piecesOf_1 : decode cX10_piecesOf 1 = .ok (.istore_n 2, 1) := by decide +kernel
theorem dX10_piecesOf_2 : decode cX10_piecesOf 2 = .ok (.iconst 0, 1) := by decide +kernel
theorem dX10_piecesOf_3 : decode cX10_piecesOf 3 = .ok (.istore_n 3, 1) := by decide +kernel
theorem dX10_piecesOf_4 : decode cX10_piecesOf 4 = .ok (.iload_n 3, 1) := by decide +kernel
theorem dX10_piecesOf_5 : decode cX10_piecesOf 5 = .ok (.aload_n 0, 1) := by decide +kernel
theorem dX10_piecesOf_6 : decode cX10_piecesOf 6 = .ok (.iload_n 1, 1) := by decide +kernel
theorem dX10_piecesOf_7 : decode cX10_piecesOf 7 = .ok (.iconst 1, 1) := by decide +kernel
theorem dX10_piecesOf_8 : decode cX10_piecesOf 8 = .ok (.invokevirtual 244, 3) := by decide +kernel
theorem dX10_piecesOf_11 : decode cX10_piecesOf 11 = .ok (.if_icmp .ge 22, 3) := by decide +kernel
theorem dX10_piecesOf_14 : decode cX10_piecesOf 14 = .ok (.iload_n 2, 1) := by decide +kernel
theorem dX10_piecesOf_15 : decode cX10_piecesOf 15 = .ok (.iconst 1, 1) := by decide +kernel
theorem dX10_piecesOf_16 : decode cX10_piecesOf 16 = .ok (.aload_n 0, 1) := by decide +kernel
theorem dX10_piecesOf_17 : decode cX10_piecesOf 17 = .ok (.iload_n 1, 1) := by decide +kernel
theorem dX10_piecesOf_18 : decode cX10_piecesOf 18 = .ok (.iconst 2, 1) := by decide +kernel
theorem dX10_piecesOf_19 : decode cX10_piecesOf 19 = .ok (.iload_n 3, 1) := by decide +kernel
theorem dX10_piecesOf_20 : decode cX10_piecesOf 20 = .ok (.iadd, 1) := by decide +kernel
theorem dX10_piecesOf_21 : decode cX10_piecesOf 21 = .ok (.invokevirtual 244, 3) := by decide +kernel
theorem dX10_piecesOf_24 : decode cX10_piecesOf 24 = .ok (.ishl, 1) := by decide +kernel
theorem dX10_piecesOf_25 : decode cX10_piecesOf 25 = .ok (.ior, 1) := by decide +kernel
theorem dX10_piecesOf_26 : decode cX10_piecesOf 26 = .ok (.istore_n 2, 1) := by decide +kernel
theorem dX10_piecesOf_27 : decode cX10_piecesOf 27 = .ok (.iinc 3 1, 3) := by decide +kernel
theorem dX10_piecesOf_30 : decode cX10_piecesOf 30 = .ok (.goto (-26), 3) := by decide +kernel
theorem dX10_piecesOf_33 : decode cX10_piecesOf 33 = .ok (.iload_n 2, 1) := by decide +kernel
theorem dX10_piecesOf_34 : decode cX10_piecesOf 34 = .ok (.ireturn, 1) := by decide +kernel
theorem dX10_shared_0 : decode cX10_shared 0 = .ok (.aload_n 0, 1) := by decide +kernel
theorem dX10_shared_1 : decode cX10_shared 1 = .ok (.iload_n 1, 1) := by decide +kernel
theorem dX10_shared_2 : decode cX10_shared 2 = .ok (.invokevirtual 271, 3) := by decide +kernel
theorem dX10_shared_5 : decode cX10_shared 5 = .ok (.ifCond .ne 18, 3) := by decide +kernel
theorem dX10_shared_8 : decode cX10_shared 8 = .ok (.aload_n 0, 1) := by decide +kernel
theorem dX10_shared_9 : decode cX10_shared 9 = .ok (.iload_n 2, 1) := by decide +kernel
theorem dX10_shared_10 : decode cX10_shared 10 = .ok (.aload_n 0, 1) := by decide +kernel
theorem dX10_shared_11 : decode cX10_shared 11 = .ok (.getfield 7, 3) := by decide +kernel
theorem dX10_shared_14 : decode cX10_shared 14 = .ok (.bipush 10, 2) := by decide +kernel
theorem dX10_shared_16 : decode cX10_shared 16 = .ok (.iaload, 1) := by decide +kernel
theorem dX10_shared_17 : decode cX10_shared 17 = .ok (.invokevirtual 259, 3) := by decide +kernel
theorem dX10_shared_20 : decode cX10_shared 20 = .ok (.ifCond .eq 5, 3) := by decide +kernel
theorem dX10_shared_23 : decode cX10_shared 23 = .ok (.iconst 0, 1) := by decide +kernel
theorem dX10_shared_24 : decode cX10_shared 24 = .ok (.ireturn, 1) := by decide +kernel
theorem dX10_shared_25 : decode cX10_shared 25 = .ok (.iconst 0, 1) := by decide +kernel
theorem dX10_shared_26 : decode cX10_shared 26 = .ok (.istore_n 3, 1) := by decide +kernel
theorem dX10_shared_27 : decode cX10_shared 27 = .ok (.aload_n 0, 1) := by decide +kernel
theorem dX10_shared_28 : decode cX10_shared 28 = .ok (.iload_n 1, 1) := by decide +kernel
theorem dX10_shared_29 : decode cX10_shared 29 = .ok (.invokevirtual 280, 3) := by decide +kernel
theorem dX10_shared_32 : decode cX10_shared 32 = .ok (.aload_n 0, 1) := by decide +kernel
theorem dX10_shared_33 : decode cX10_shared 33 = .ok (.iload_n 2, 1) := by decide +kernel
theorem dX10_shared_34 : decode cX10_shared 34 = .ok (.invokevirtual 280, 3) := by decide +kernel
theorem dX10_shared_37 : decode cX10_shared 37 = .ok (.iand, 1) := by decide +kernel
theorem dX10_shared_38 : decode cX10_shared 38 = .ok (.istore 4, 2) := by decide +kernel
theorem dX10_shared_40 : decode cX10_shared 40 = .ok (.iload 4, 2) := by decide +kernel
theorem dX10_shared_42 : decode cX10_shared 42 = .ok (.ifCond .eq 18, 3) := by decide +kernel
theorem dX10_shared_45 : decode cX10_shared 45 = .ok (.iinc 3 1, 3) := by decide +kernel
theorem dX10_shared_48 : decode cX10_shared 48 = .ok (.iload 4, 2) := by decide +kernel
theorem dX10_shared_50 : decode cX10_shared 50 = .ok (.iload 4, 2) := by decide +kernel
theorem dX10_shared_52 : decode cX10_shared 52 = .ok (.iconst 1, 1) := by decide +kernel
theorem dX10_shared_53 : decode cX10_shared 53 = .ok (.isub, 1) := by decide +kernel
theorem dX10_shared_54 : decode cX10_shared 54 = .ok (.iand, 1) := by decide +kernel
theorem dX10_shared_55 : decode cX10_shared 55 = .ok (.istore 4, 2) := by decide +kernel
theorem dX10_shared_57 : decode cX10_shared 57 = .ok (.goto (-17), 3) := by decide +kernel
theorem dX10_shared_60 : decode cX10_shared 60 = .ok (.iload_n 3, 1) := by decide +kernel
theorem dX10_shared_61 : decode cX10_shared 61 = .ok (.ireturn, 1) := by decide +kernel
theorem dX10_favourite_0 : decode cX10_favourite 0 = .ok (.aload_n 0, 1) := by decide +kernel
theorem dX10_favourite_1 : decode cX10_favourite 1 = .ok (.iconst 0, 1) := by decide +kernel
theorem dX10_favourite_2 : decode cX10_favourite 2 = .ok (.putfield 59, 3) := by decide +kernel
theorem dX10_favourite_5 : decode cX10_favourite 5 = .ok (.iconst (-1), 1) := by decide +kernel
theorem dX10_favourite_6 : decode cX10_favourite 6 = .ok (.istore_n 1, 1) := by decide +kernel
theorem dX10_favourite_7 : decode cX10_favourite 7 = .ok (.iconst 0, 1) := by decide +kernel
theorem dX10_favourite_8 : decode cX10_favourite 8 = .ok (.istore_n 2, 1) := by decide +kernel
theorem dX10_favourite_9 : decode cX10_favourite 9 = .ok (.iload_n 2, 1) := by decide +kernel
theorem dX10_favourite_10 : decode cX10_favourite 10 = .ok (.aload_n 0, 1) := by decide +kernel
theorem dX10_favourite_11 : decode cX10_favourite 11 = .ok (.getfield 7, 3) := by decide +kernel
theorem dX10_favourite_14 : decode cX10_favourite 14 = .ok (.bipush 9, 2) := by decide +kernel
theorem dX10_favourite_16 : decode cX10_favourite 16 = .ok (.iaload, 1) := by decide +kernel
theorem dX10_favourite_17 : decode cX10_favourite 17 = .ok (.if_icmp .ge 35, 3) := by decide +kernel
theorem dX10_favourite_20 : decode cX10_favourite 20 = .ok (.iload_n 1, 1) := by decide +kernel
theorem dX10_favourite_21 : decode cX10_favourite 21 = .ok (.iconst (-1), 1) := by decide +kernel
theorem dX10_favourite_22 : decode cX10_favourite 22 = .ok (.if_icmp .eq 18, 3) := by decide +kernel
theorem dX10_favourite_25 : decode cX10_favourite 25 = .ok (.aload_n 0, 1) := by decide +kernel
theorem dX10_favourite_26 : decode cX10_favourite 26 = .ok (.iload_n 2, 1) := by decide +kernel
theorem dX10_favourite_27 : decode cX10_favourite 27 = .ok (.iconst 3, 1) := by decide +kernel
theorem dX10_favourite_28 : decode cX10_favourite 28 = .ok (.invokevirtual 203, 3) := by decide +kernel
theorem dX10_favourite_31 : decode cX10_favourite 31 = .ok (.aload_n 0, 1) := by decide +kernel
theorem dX10_favourite_32 : decode cX10_favourite 32 = .ok (.iload_n 1, 1) := by decide +kernel
theorem dX10_favourite_33 : decode cX10_favourite 33 = .ok (.iconst 3, 1) := by decide +kernel
theorem dX10_favourite_34 : decode cX10_favourite 34 = .ok (.invokevirtual 203, 3) := by decide +kernel
theorem dX10_favourite_37 : decode cX10_favourite 37 = .ok (.if_icmp .le 7, 3) := by decide +kernel
theorem dX10_favourite_40 : decode cX10_favourite 40 = .ok (.iload_n 2, 1) := by decide +kernel
theorem dX10_favourite_41 : decode cX10_favourite 41 = .ok (.goto 4, 3) := by decide +kernel
theorem dX10_favourite_44 : decode cX10_favourite 44 = .ok (.iload_n 1, 1) := by decide +kernel
theorem dX10_favourite_45 : decode cX10_favourite 45 = .ok (.istore_n 1, 1) := by decide +kernel
theorem dX10_favourite_46 : decode cX10_favourite 46 = .ok (.iinc 2 1, 3) := by decide +kernel
theorem dX10_favourite_49 : decode cX10_favourite 49 = .ok (.goto (-40), 3) := by decide +kernel
theorem dX10_favourite_52 : decode cX10_favourite 52 = .ok (.iload_n 1, 1) := by decide +kernel
theorem dX10_favourite_53 : decode cX10_favourite 53 = .ok (.ireturn, 1) := by decide +kernel
theorem dX10_wealth_0 : decode cX10_wealth 0 = .ok (.aload_n 0, 1) := by decide +kernel
theorem dX10_wealth_1 : decode cX10_wealth 1 = .ok (.getfield 7, 3) := by decide +kernel
theorem dX10_wealth_4 : decode cX10_wealth 4 = .ok (.bipush 17, 2) := by decide +kernel
theorem dX10_wealth_6 : decode cX10_wealth 6 = .ok (.iload_n 1, 1) := by decide +kernel
theorem dX10_wealth_7 : decode cX10_wealth 7 = .ok (.iadd, 1) := by decide +kernel
theorem dX10_wealth_8 : decode cX10_wealth 8 = .ok (.iaload, 1) := by decide +kernel
theorem dX10_wealth_9 : decode cX10_wealth 9 = .ok (.aload_n 0, 1) := by decide +kernel
theorem dX10_wealth_10 : decode cX10_wealth 10 = .ok (.iload_n 1, 1) := by decide +kernel
theorem dX10_wealth_11 : decode cX10_wealth 11 = .ok (.iconst 2, 1) := by decide +kernel
theorem dX10_wealth_12 : decode cX10_wealth 12 = .ok (.invokevirtual 265, 3) := by decide +kernel
theorem dX10_wealth_15 : decode cX10_wealth 15 = .ok (.iadd, 1) := by decide +kernel
theorem dX10_wealth_16 : decode cX10_wealth 16 = .ok (.ireturn, 1) := by decide +kernel
theorem dX10_richest_0 : decode cX10_richest 0 = .ok (.aload_n 0, 1) := by decide +kernel
theorem dX10_richest_1 : decode cX10_richest 1 = .ok (.iconst 0, 1) := by decide +kernel
theorem dX10_richest_2 : decode cX10_richest 2 = .ok (.putfield 59, 3) := by decide +kernel
theorem dX10_richest_5 : decode cX10_richest 5 = .ok (.iconst (-1), 1) := by decide +kernel
theorem dX10_richest_6 : decode cX10_richest 6 = .ok (.istore_n 1, 1) := by decide +kernel
theorem dX10_richest_7 : decode cX10_richest 7 = .ok (.iconst 0, 1) := by decide +kernel
theorem dX10_richest_8 : decode cX10_richest 8 = .ok (.istore_n 2, 1) := by decide +kernel
theorem dX10_richest_9 : decode cX10_richest 9 = .ok (.iload_n 2, 1) := by decide +kernel
theorem dX10_richest_10 : decode cX10_richest 10 = .ok (.aload_n 0, 1) := by decide +kernel
theorem dX10_richest_11 : decode cX10_richest 11 = .ok (.getfield 7, 3) := by decide +kernel
theorem dX10_richest_14 : decode cX10_richest 14 = .ok (.iconst 5, 1) := by decide +kernel
theorem dX10_richest_15 : decode cX10_richest 15 = .ok (.iaload, 1) := by decide +kernel
theorem dX10_richest_16 : decode cX10_richest 16 = .ok (.if_icmp .ge 33, 3) := by decide +kernel
theorem dX10_richest_19 : decode cX10_richest 19 = .ok (.iload_n 1, 1) := by decide +kernel
theorem dX10_richest_20 : decode cX10_richest 20 = .ok (.iconst (-1), 1) := by decide +kernel
theorem dX10_richest_21 : decode cX10_richest 21 = .ok (.if_icmp .eq 16, 3) := by decide +kernel
theorem dX10_richest_24 : decode cX10_richest 24 = .ok (.aload_n 0, 1) := by decide +kernel
theorem dX10_richest_25 : decode cX10_richest 25 = .ok (.iload_n 2, 1) := by decide +kernel
theorem dX10_richest_26 : decode cX10_richest 26 = .ok (.invokevirtual 283, 3) := by decide +kernel
theorem dX10_richest_29 : decode cX10_richest 29 = .ok (.aload_n 0, 1) := by decide +kernel
theorem dX10_richest_30 : decode cX10_richest 30 = .ok (.iload_n 1, 1) := by decide +kernel
theorem dX10_richest_31 : decode cX10_richest 31 = .ok (.invokevirtual 283, 3) := by decide +kernel
theorem dX10_richest_34 : decode cX10_richest 34 = .ok (.if_icmp .le 7, 3) := by decide +kernel
theorem dX10_richest_37 : decode cX10_richest 37 = .ok (.iload_n 2, 1) := by decide +kernel
theorem dX10_richest_38 : decode cX10_richest 38 = .ok (.goto 4, 3) := by decide +kernel
theorem dX10_richest_41 : decode cX10_richest 41 = .ok (.iload_n 1, 1) := by decide +kernel
theorem dX10_richest_42 : decode cX10_richest 42 = .ok (.istore_n 1, 1) := by decide +kernel
theorem dX10_richest_43 : decode cX10_richest 43 = .ok (.iinc 2 1, 3) := by decide +kernel
theorem dX10_richest_46 : decode cX10_richest 46 = .ok (.goto (-37), 3) := by decide +kernel
theorem dX10_richest_49 : decode cX10_richest 49 = .ok (.iload_n 1, 1) := by decide +kernel
theorem dX10_richest_50 : decode cX10_richest 50 = .ok (.ireturn, 1) := by decide +kernel
theorem dX10_usesTold_0 : decode cX10_usesTold 0 = .ok (.iconst 0, 1) := by decide +kernel
theorem dX10_usesTold_1 : decode cX10_usesTold 1 = .ok (.istore_n 2, 1) := by decide +kernel
theorem dX10_usesTold_2 : decode cX10_usesTold 2 = .ok (.iconst 0, 1) := by decide +kernel
theorem dX10_usesTold_3 : decode cX10_usesTold 3 = .ok (.istore_n 3, 1) := by decide +kernel
theorem dX10_usesTold_4 : decode cX10_usesTold 4 = .ok (.iload_n 3, 1) := by decide +kernel
theorem dX10_usesTold_5 : decode cX10_usesTold 5 = .ok (.aload_n 0, 1) := by decide +kernel
theorem dX10_usesTold_6 : decode cX10_usesTold 6 = .ok (.getfield 7, 3) := by decide +kernel
theorem dX10_usesTold_9 : decode cX10_usesTold 9 = .ok (.bipush 10, 2) := by decide +kernel
theorem dX10_usesTold_11 : decode cX10_usesTold 11 = .ok (.iaload, 1) := by decide +kernel
theorem dX10_usesTold_12 : decode cX10_usesTold 12 = .ok (.if_icmp .ge 50, 3) := by decide +kernel
theorem dX10_usesTold_15 : decode cX10_usesTold 15 = .ok (.iconst 0, 1) := by decide +kernel
theorem dX10_usesTold_16 : decode cX10_usesTold 16 = .ok (.istore 4, 2) := by decide +kernel
theorem dX10_usesTold_18 : decode cX10_usesTold 18 = .ok (.iload 4, 2) := by decide +kernel
theorem dX10_usesTold_20 : decode cX10_usesTold 20 = .ok (.aload_n 0, 1) := by decide +kernel
theorem dX10_usesTold_21 : decode cX10_usesTold 21 = .ok (.iload_n 3, 1) := by decide +kernel
theorem dX10_usesTold_22 : decode cX10_usesTold 22 = .ok (.iconst 1, 1) := by decide +kernel
theorem dX10_usesTold_23 : decode cX10_usesTold 23 = .ok (.invokevirtual 244, 3) := by decide +kernel
theorem dX10_usesTold_26 : decode cX10_usesTold 26 = .ok (.if_icmp .ge 30, 3) := by decide +kernel
theorem dX10_usesTold_29 : decode cX10_usesTold 29 = .ok (.iload_n 2, 1) := by decide +kernel
theorem dX10_usesTold_30 : decode cX10_usesTold 30 = .ok (.aload_n 0, 1) := by decide +kernel
theorem dX10_usesTold_31 : decode cX10_usesTold 31 = .ok (.iload_n 3, 1) := by decide +kernel
theorem dX10_usesTold_32 : decode cX10_usesTold 32 = .ok (.iconst 2, 1) := by decide +kernel
theorem dX10_usesTold_33 : decode cX10_usesTold 33 = .ok (.iload 4, 2) := by decide +kernel
theorem dX10_usesTold_35 : decode cX10_usesTold 35 = .ok (.iadd, 1) := by decide +kernel
theorem dX10_usesTold_36 : decode cX10_usesTold 36 = .ok (.invokevirtual 244, 3) := by decide +kernel
theorem dX10_usesTold_39 : decode cX10_usesTold 39 = .ok (.iload_n 1, 1) := by decide +kernel
theorem dX10_usesTold_40 : decode cX10_usesTold 40 = .ok (.if_icmp .ne 7, 3) := by decide +kernel
theorem dX10_usesTold_43 : decode cX10_usesTold 43 = .ok (.iconst 1, 1) := by decide +kernel
theorem dX10_usesTold_44 : decode cX10_usesTold 44 = .ok (.goto 4, 3) := by decide +kernel
theorem dX10_usesTold_47 : decode cX10_usesTold 47 = .ok (.iconst 0, 1) := by decide +kernel
theorem dX10_usesTold_48 : decode cX10_usesTold 48 = .ok (.iadd, 1) := by decide +kernel
theorem dX10_usesTold_49 : decode cX10_usesTold 49 = .ok (.istore_n 2, 1) := by decide +kernel
theorem dX10_usesTold_50 : decode cX10_usesTold 50 = .ok (.iinc 4 1, 3) := by decide +kernel
theorem dX10_usesTold_53 : decode cX10_usesTold 53 = .ok (.goto (-35), 3) := by decide +kernel
theorem dX10_usesTold_56 : decode cX10_usesTold 56 = .ok (.iinc 3 1, 3) := by decide +kernel
theorem dX10_usesTold_59 : decode cX10_usesTold 59 = .ok (.goto (-55), 3) := by decide +kernel
theorem dX10_usesTold_62 : decode cX10_usesTold 62 = .ok (.iload_n 2, 1) := by decide +kernel
theorem dX10_usesTold_63 : decode cX10_usesTold 63 = .ok (.ireturn, 1) := by decide +kernel
theorem dX10_isWhole_0 : decode cX10_isWhole 0 = .ok (.aload_n 0, 1) := by decide +kernel
theorem dX10_isWhole_1 : decode cX10_isWhole 1 = .ok (.iconst 0, 1) := by decide +kernel
theorem dX10_isWhole_2 : decode cX10_isWhole 2 = .ok (.putfield 59, 3) := by decide +kernel
theorem dX10_isWhole_5 : decode cX10_isWhole 5 = .ok (.iconst 0, 1) := by decide +kernel
theorem dX10_isWhole_6 : decode cX10_isWhole 6 = .ok (.istore_n 1, 1) := by decide +kernel
theorem dX10_isWhole_7 : decode cX10_isWhole 7 = .ok (.iconst 1, 1) := by decide +kernel
theorem dX10_isWhole_8 : decode cX10_isWhole 8 = .ok (.istore_n 2, 1) := by decide +kernel
theorem dX10_isWhole_9 : decode cX10_isWhole 9 = .ok (.iconst 0, 1) := by decide +kernel
theorem dX10_isWhole_10 : decode cX10_isWhole 10 = .ok (.istore_n 3, 1) := by decide +kernel
theorem dX10_isWhole_11 : decode cX10_isWhole 11 = .ok (.iload_n 3, 1) := by decide +kernel
theorem dX10_isWhole_12 : decode cX10_isWhole 12 = .ok (.aload_n 0, 1) := by decide +kernel
theorem dX10_isWhole_13 : decode cX10_isWhole 13 = .ok (.getfield 7, 3) := by decide +kernel
theorem dX10_isWhole_16 : decode cX10_isWhole 16 = .ok (.bipush 10, 2) := by decide +kernel
theorem dX10_isWhole_18 : decode cX10_isWhole 18 = .ok (.iaload, 1) := by decide +kernel
theorem dX10_isWhole_19 : decode cX10_isWhole 19 = .ok (.if_icmp .ge 53, 3) := by decide +kernel
theorem dX10_isWhole_22 : decode cX10_isWhole 22 = .ok (.iload_n 1, 1) := by decide +kernel
theorem dX10_isWhole_23 : decode cX10_isWhole 23 = .ok (.aload_n 0, 1) := by decide +kernel
theorem dX10_isWhole_24 : decode cX10_isWhole 24 = .ok (.getfield 7, 3) := by decide +kernel
theorem dX10_isWhole_27 : decode cX10_isWhole 27 = .ok (.iconst 2, 1) := by decide +kernel
theorem dX10_isWhole_28 : decode cX10_isWhole 28 = .ok (.iaload, 1) := by decide +kernel
theorem dX10_isWhole_29 : decode cX10_isWhole 29 = .ok (.aload_n 0, 1) := by decide +kernel
theorem dX10_isWhole_30 : decode cX10_isWhole 30 = .ok (.iload_n 3, 1) := by decide +kernel
theorem dX10_isWhole_31 : decode cX10_isWhole 31 = .ok (.iconst 1, 1) := by decide +kernel
theorem dX10_isWhole_32 : decode cX10_isWhole 32 = .ok (.invokevirtual 244, 3) := by decide +kernel
theorem dX10_isWhole_35 : decode cX10_isWhole 35 = .ok (.imul, 1) := by decide +kernel
theorem dX10_isWhole_36 : decode cX10_isWhole 36 = .ok (.iadd, 1) := by decide +kernel
theorem dX10_isWhole_37 : decode cX10_isWhole 37 = .ok (.istore_n 1, 1) := by decide +kernel
theorem dX10_isWhole_38 : decode cX10_isWhole 38 = .ok (.aload_n 0, 1) := by decide +kernel
theorem dX10_isWhole_39 : decode cX10_isWhole 39 = .ok (.iload_n 3, 1) := by decide +kernel
theorem dX10_isWhole_40 : decode cX10_isWhole 40 = .ok (.invokevirtual 247, 3) := by decide +kernel
theorem dX10_isWhole_43 : decode cX10_isWhole 43 = .ok (.iload_n 2, 1) := by decide +kernel
theorem dX10_isWhole_44 : decode cX10_isWhole 44 = .ok (.ifCond .eq 20, 3) := by decide +kernel
theorem dX10_isWhole_47 : decode cX10_isWhole 47 = .ok (.aload_n 0, 1) := by decide +kernel
theorem dX10_isWhole_48 : decode cX10_isWhole 48 = .ok (.getfield 122, 3) := by decide +kernel
theorem dX10_isWhole_51 : decode cX10_isWhole 51 = .ok (.iconst 1, 1) := by decide +kernel
theorem dX10_isWhole_52 : decode cX10_isWhole 52 = .ok (.bipush 12, 2) := by decide +kernel
theorem dX10_isWhole_54 : decode cX10_isWhole 54 = .ok (.invokestatic 88, 3) := by decide +kernel
theorem dX10_isWhole_57 : decode cX10_isWhole 57 = .ok (.ifCond .eq 7, 3) := by decide +kernel
theorem dX10_isWhole_60 : decode cX10_isWhole 60 = .ok (.iconst 1, 1) := by decide +kernel
theorem dX10_isWhole_61 : decode cX10_isWhole 61 = .ok (.goto 4, 3) := by decide +kernel
theorem dX10_isWhole_64 : decode cX10_isWhole 64 = .ok (.iconst 0, 1) := by decide +kernel
theorem dX10_isWhole_65 : decode cX10_isWhole 65 = .ok (.istore_n 2, 1) := by decide +kernel
theorem dX10_isWhole_66 : decode cX10_isWhole 66 = .ok (.iinc 3 1, 3) := by decide +kernel
theorem dX10_isWhole_69 : decode cX10_isWhole 69 = .ok (.goto (-58), 3) := by decide +kernel
theorem dX10_isWhole_72 : decode cX10_isWhole 72 = .ok (.iconst 0, 1) := by decide +kernel
theorem dX10_isWhole_73 : decode cX10_isWhole 73 = .ok (.istore_n 3, 1) := by decide +kernel
theorem dX10_isWhole_74 : decode cX10_isWhole 74 = .ok (.iload_n 3, 1) := by decide +kernel
theorem dX10_isWhole_75 : decode cX10_isWhole 75 = .ok (.aload_n 0, 1) := by decide +kernel
theorem dX10_isWhole_76 : decode cX10_isWhole 76 = .ok (.getfield 7, 3) := by decide +kernel
theorem dX10_isWhole_79 : decode cX10_isWhole 79 = .ok (.bipush 9, 2) := by decide +kernel
theorem dX10_isWhole_81 : decode cX10_isWhole 81 = .ok (.iaload, 1) := by decide +kernel
theorem dX10_isWhole_82 : decode cX10_isWhole 82 = .ok (.if_icmp .ge 33, 3) := by decide +kernel
theorem dX10_isWhole_85 : decode cX10_isWhole 85 = .ok (.iload_n 2, 1) := by decide +kernel
theorem dX10_isWhole_86 : decode cX10_isWhole 86 = .ok (.ifCond .eq 21, 3) := by decide +kernel
theorem dX10_isWhole_89 : decode cX10_isWhole 89 = .ok (.aload_n 0, 1) := by decide +kernel
theorem dX10_isWhole_90 : decode cX10_isWhole 90 = .ok (.iload_n 3, 1) := by decide +kernel
theorem dX10_isWhole_91 : decode cX10_isWhole 91 = .ok (.invokevirtual 286, 3) := by decide +kernel
theorem dX10_isWhole_94 : decode cX10_isWhole 94 = .ok (.aload_n 0, 1) := by decide +kernel
theorem dX10_isWhole_95 : decode cX10_isWhole 95 = .ok (.iload_n 3, 1) := by decide +kernel
theorem dX10_isWhole_96 : decode cX10_isWhole 96 = .ok (.iconst 3, 1) := by decide +kernel
theorem dX10_isWhole_97 : decode cX10_isWhole 97 = .ok (.invokevirtual 203, 3) := by decide +kernel
theorem dX10_isWhole_100 : decode cX10_isWhole 100 = .ok (.if_icmp .ne 7, 3) := by decide +kernel
theorem dX10_isWhole_103 : decode cX10_isWhole 103 = .ok (.iconst 1, 1) := by decide +kernel
theorem dX10_isWhole_104 : decode cX10_isWhole 104 = .ok (.goto 4, 3) := by decide +kernel
theorem dX10_isWhole_107 : decode cX10_isWhole 107 = .ok (.iconst 0, 1) := by decide +kernel
theorem dX10_isWhole_108 : decode cX10_isWhole 108 = .ok (.istore_n 2, 1) := by decide +kernel
theorem dX10_isWhole_109 : decode cX10_isWhole 109 = .ok (.iinc 3 1, 3) := by decide +kernel
theorem dX10_isWhole_112 : decode cX10_isWhole 112 = .ok (.goto (-38), 3) := by decide +kernel
theorem dX10_isWhole_115 : decode cX10_isWhole 115 = .ok (.iload_n 2, 1) := by decide +kernel
theorem dX10_isWhole_116 : decode cX10_isWhole 116 = .ok (.ifCond .eq 18, 3) := by decide +kernel
theorem dX10_isWhole_119 : decode cX10_isWhole 119 = .ok (.iload_n 1, 1) := by decide +kernel
theorem dX10_isWhole_120 : decode cX10_isWhole 120 = .ok (.aload_n 0, 1) := by decide +kernel
theorem dX10_isWhole_121 : decode cX10_isWhole 121 = .ok (.getfield 7, 3) := by decide +kernel
theorem dX10_isWhole_124 : decode cX10_isWhole 124 = .ok (.bipush 8, 2) := by decide +kernel
theorem dX10_isWhole_126 : decode cX10_isWhole 126 = .ok (.iaload, 1) := by decide +kernel
theorem dX10_isWhole_127 : decode cX10_isWhole 127 = .ok (.if_icmp .ne 7, 3) := by decide +kernel
theorem dX10_isWhole_130 : decode cX10_isWhole 130 = .ok (.iconst 1, 1) := by decide +kernel
theorem dX10_isWhole_131 : decode cX10_isWhole 131 = .ok (.goto 4, 3) := by decide +kernel
theorem dX10_isWhole_134 : decode cX10_isWhole 134 = .ok (.iconst 0, 1) := by decide +kernel
theorem dX10_isWhole_135 : decode cX10_isWhole 135 = .ok (.ireturn, 1) := by decide +kernel
theorem dX10_account_0 : decode cX10_account 0 = .ok (.aload_n 0, 1) := by decide +kernel
theorem dX10_account_1 : decode cX10_account 1 = .ok (.iconst 0, 1) := by decide +kernel
theorem dX10_account_2 : decode cX10_account 2 = .ok (.putfield 59, 3) := by decide +kernel
theorem dX10_account_5 : decode cX10_account 5 = .ok (.aload_n 0, 1) := by decide +kernel
theorem dX10_account_6 : decode cX10_account 6 = .ok (.iload_n 1, 1) := by decide +kernel
theorem dX10_account_7 : decode cX10_account 7 = .ok (.iconst 0, 1) := by decide +kernel
theorem dX10_account_8 : decode cX10_account 8 = .ok (.iconst 5, 1) := by decide +kernel
theorem dX10_account_9 : decode cX10_account 9 = .ok (.invokestatic 88, 3) := by decide +kernel
theorem dX10_account_12 : decode cX10_account 12 = .ok (.ifCond .ne 7, 3) := by decide +kernel
theorem dX10_account_15 : decode cX10_account 15 = .ok (.iconst 1, 1) := by decide +kernel
theorem dX10_account_16 : decode cX10_account 16 = .ok (.goto 4, 3) := by decide +kernel
theorem dX10_account_19 : decode cX10_account 19 = .ok (.iconst 0, 1) := by decide +kernel
theorem dX10_account_20 : decode cX10_account 20 = .ok (.iconst 1, 1) := by decide +kernel
theorem dX10_account_21 : decode cX10_account 21 = .ok (.invokevirtual 186, 3) := by decide +kernel
theorem dX10_account_24 : decode cX10_account 24 = .ok (.ifCond .eq 7, 3) := by decide +kernel
theorem dX10_account_27 : decode cX10_account 27 = .ok (.iconst 0, 1) := by decide +kernel
theorem dX10_account_28 : decode cX10_account 28 = .ok (.goto 12, 3) := by decide +kernel
theorem dX10_account_31 : decode cX10_account 31 = .ok (.aload_n 0, 1) := by decide +kernel
theorem dX10_account_32 : decode cX10_account 32 = .ok (.getfield 7, 3) := by decide +kernel
theorem dX10_account_35 : decode cX10_account 35 = .ok (.bipush 11, 2) := by decide +kernel
theorem dX10_account_37 : decode cX10_account 37 = .ok (.iload_n 1, 1) := by decide +kernel
theorem dX10_account_38 : decode cX10_account 38 = .ok (.iadd, 1) := by decide +kernel
theorem dX10_account_39 : decode cX10_account 39 = .ok (.iaload, 1) := by decide +kernel
theorem dX10_account_40 : decode cX10_account 40 = .ok (.ireturn, 1) := by decide +kernel
theorem dX10_store_0 : decode cX10_store 0 = .ok (.aload_n 0, 1) := by decide +kernel
theorem dX10_store_1 : decode cX10_store 1 = .ok (.invokevirtual 253, 3) := by decide +kernel
theorem dX10_store_4 : decode cX10_store 4 = .ok (.istore_n 2, 1) := by decide +kernel
theorem dX10_store_5 : decode cX10_store 5 = .ok (.aload_n 0, 1) := by decide +kernel
theorem dX10_store_6 : decode cX10_store 6 = .ok (.iload_n 1, 1) := by decide +kernel
theorem dX10_store_7 : decode cX10_store 7 = .ok (.invokevirtual 262, 3) := by decide +kernel
theorem dX10_store_10 : decode cX10_store 10 = .ok (.ifCond .ne 20, 3) := by decide +kernel
theorem dX10_store_13 : decode cX10_store 13 = .ok (.aload_n 0, 1) := by decide +kernel
theorem dX10_store_14 : decode cX10_store 14 = .ok (.iload_n 2, 1) := by decide +kernel
theorem dX10_store_15 : decode cX10_store 15 = .ok (.ifCond .ne 7, 3) := by decide +kernel
theorem dX10_store_18 : decode cX10_store 18 = .ok (.iconst 1, 1) := by decide +kernel
theorem dX10_store_19 : decode cX10_store 19 = .ok (.goto 4, 3) := by decide +kernel
theorem dX10_store_22 : decode cX10_store 22 = .ok (.iconst 0, 1) := by decide +kernel
theorem dX10_store_23 : decode cX10_store 23 = .ok (.iconst 2, 1) := by decide +kernel
theorem dX10_store_24 : decode cX10_store 24 = .ok (.invokevirtual 186, 3) := by decide +kernel
theorem dX10_store_27 : decode cX10_store 27 = .ok (.ifCond .eq 5, 3) := by decide +kernel
theorem dX10_store_30 : decode cX10_store 30 = .ok (.iconst 0, 1) := by decide +kernel
theorem dX10_store_31 : decode cX10_store 31 = .ok (.ireturn, 1) := by decide +kernel
theorem dX10_store_32 : decode cX10_store 32 = .ok (.aload_n 0, 1) := by decide +kernel
theorem dX10_store_33 : decode cX10_store 33 = .ok (.invokevirtual 153, 3) := by decide +kernel
theorem dX10_store_36 : decode cX10_store 36 = .ok (.aload_n 0, 1) := by decide +kernel
theorem dX10_store_37 : decode cX10_store 37 = .ok (.aload_n 0, 1) := by decide +kernel
theorem dX10_store_38 : decode cX10_store 38 = .ok (.iload_n 1, 1) := by decide +kernel
theorem dX10_store_39 : decode cX10_store 39 = .ok (.invokevirtual 156, 3) := by decide +kernel
theorem dX10_store_42 : decode cX10_store 42 = .ok (.ifCond .eq 7, 3) := by decide +kernel
theorem dX10_store_45 : decode cX10_store 45 = .ok (.iconst 1, 1) := by decide +kernel
theorem dX10_store_46 : decode cX10_store 46 = .ok (.goto 4, 3) := by decide +kernel
theorem dX10_store_49 : decode cX10_store 49 = .ok (.iconst 0, 1) := by decide +kernel
theorem dX10_store_50 : decode cX10_store 50 = .ok (.iconst 3, 1) := by decide +kernel
theorem dX10_store_51 : decode cX10_store 51 = .ok (.invokevirtual 186, 3) := by decide +kernel
theorem dX10_store_54 : decode cX10_store 54 = .ok (.ifCond .eq 5, 3) := by decide +kernel
theorem dX10_store_57 : decode cX10_store 57 = .ok (.iconst 0, 1) := by decide +kernel
theorem dX10_store_58 : decode cX10_store 58 = .ok (.ireturn, 1) := by decide +kernel
theorem dX10_store_59 : decode cX10_store 59 = .ok (.aload_n 0, 1) := by decide +kernel
theorem dX10_store_60 : decode cX10_store 60 = .ok (.invokevirtual 289, 3) := by decide +kernel
theorem dX10_store_63 : decode cX10_store 63 = .ok (.aload_n 0, 1) := by decide +kernel
theorem dX10_store_64 : decode cX10_store 64 = .ok (.iload_n 1, 1) := by decide +kernel
theorem dX10_store_65 : decode cX10_store 65 = .ok (.invokevirtual 159, 3) := by decide +kernel
theorem dX10_store_68 : decode cX10_store 68 = .ok (.ireturn, 1) := by decide +kernel
theorem dX10_remove_0 : decode cX10_remove 0 = .ok (.aload_n 0, 1) := by decide +kernel
theorem dX10_remove_1 : decode cX10_remove 1 = .ok (.iload_n 1, 1) := by decide +kernel
theorem dX10_remove_2 : decode cX10_remove 2 = .ok (.invokevirtual 271, 3) := by decide +kernel
theorem dX10_remove_5 : decode cX10_remove 5 = .ok (.ifCond .eq 5, 3) := by decide +kernel
theorem dX10_remove_8 : decode cX10_remove 8 = .ok (.iconst 0, 1) := by decide +kernel
theorem dX10_remove_9 : decode cX10_remove 9 = .ok (.ireturn, 1) := by decide +kernel
theorem dX10_remove_10 : decode cX10_remove 10 = .ok (.aload_n 0, 1) := by decide +kernel
theorem dX10_remove_11 : decode cX10_remove 11 = .ok (.invokevirtual 289, 3) := by decide +kernel
theorem dX10_remove_14 : decode cX10_remove 14 = .ok (.aload_n 0, 1) := by decide +kernel
theorem dX10_remove_15 : decode cX10_remove 15 = .ok (.iload_n 1, 1) := by decide +kernel
theorem dX10_remove_16 : decode cX10_remove 16 = .ok (.iconst 0, 1) := by decide +kernel
theorem dX10_remove_17 : decode cX10_remove 17 = .ok (.invokevirtual 244, 3) := by decide +kernel
theorem dX10_remove_20 : decode cX10_remove 20 = .ok (.istore_n 2, 1) := by decide +kernel
theorem dX10_remove_21 : decode cX10_remove 21 = .ok (.aload_n 0, 1) := by decide +kernel
theorem dX10_remove_22 : decode cX10_remove 22 = .ok (.getfield 7, 3) := by decide +kernel
theorem dX10_remove_25 : decode cX10_remove 25 = .ok (.iconst 2, 1) := by decide +kernel
theorem dX10_remove_26 : decode cX10_remove 26 = .ok (.iaload, 1) := by decide +kernel
theorem dX10_remove_27 : decode cX10_remove 27 = .ok (.aload_n 0, 1) := by decide +kernel
theorem dX10_remove_28 : decode cX10_remove 28 = .ok (.iload_n 1, 1) := by decide +kernel
theorem dX10_remove_29 : decode cX10_remove 29 = .ok (.iconst 1, 1) := by decide +kernel
theorem dX10_remove_30 : decode cX10_remove 30 = .ok (.invokevirtual 244, 3) := by decide +kernel
theorem dX10_remove_33 : decode cX10_remove 33 = .ok (.imul, 1) := by decide +kernel
theorem dX10_remove_34 : decode cX10_remove 34 = .ok (.istore_n 3, 1) := by decide +kernel
theorem dX10_remove_35 : decode cX10_remove 35 = .ok (.iconst 0, 1) := by decide +kernel
theorem dX10_remove_36 : decode cX10_remove 36 = .ok (.istore 4, 2) := by decide +kernel
theorem dX10_remove_38 : decode cX10_remove 38 = .ok (.iload 4, 2) := by decide +kernel
theorem dX10_remove_40 : decode cX10_remove 40 = .ok (.aload_n 0, 1) := by decide +kernel
theorem dX10_remove_41 : decode cX10_remove 41 = .ok (.iload_n 1, 1) := by decide +kernel
theorem dX10_remove_42 : decode cX10_remove 42 = .ok (.iconst 1, 1) := by decide +kernel
theorem dX10_remove_43 : decode cX10_remove 43 = .ok (.invokevirtual 244, 3) := by decide +kernel
theorem dX10_remove_46 : decode cX10_remove 46 = .ok (.if_icmp .ge 23, 3) := by decide +kernel
theorem dX10_remove_49 : decode cX10_remove 49 = .ok (.aload_n 0, 1) := by decide +kernel
theorem dX10_remove_50 : decode cX10_remove 50 = .ok (.aload_n 0, 1) := by decide +kernel
theorem dX10_remove_51 : decode cX10_remove 51 = .ok (.iload_n 1, 1) := by decide +kernel
theorem dX10_remove_52 : decode cX10_remove 52 = .ok (.iconst 2, 1) := by decide +kernel
theorem dX10_remove_53 : decode cX10_remove 53 = .ok (.iload 4, 2) := by decide +kernel
theorem dX10_remove_55 : decode cX10_remove 55 = .ok (.iadd, 1) := by decide +kernel
theorem dX10_remove_56 : decode cX10_remove 56 = .ok (.invokevirtual 244, 3) := by decide +kernel
theorem dX10_remove_59 : decode cX10_remove 59 = .ok (.iconst (-1), 1) := by decide +kernel
theorem dX10_remove_60 : decode cX10_remove 60 = .ok (.invokevirtual 240, 3) := by decide +kernel
theorem dX10_remove_63 : decode cX10_remove 63 = .ok (.iinc 4 1, 3) := by decide +kernel
theorem dX10_remove_66 : decode cX10_remove 66 = .ok (.goto (-28), 3) := by decide +kernel
theorem dX10_remove_69 : decode cX10_remove 69 = .ok (.aload_n 0, 1) := by decide +kernel
theorem dX10_remove_70 : decode cX10_remove 70 = .ok (.getfield 7, 3) := by decide +kernel
theorem dX10_remove_73 : decode cX10_remove 73 = .ok (.bipush 8, 2) := by decide +kernel
theorem dX10_remove_75 : decode cX10_remove 75 = .ok (.dup2, 1) := by decide +kernel
theorem dX10_remove_76 : decode cX10_remove 76 = .ok (.iaload, 1) := by decide +kernel
theorem dX10_remove_77 : decode cX10_remove 77 = .ok (.iload_n 3, 1) := by decide +kernel
theorem dX10_remove_78 : decode cX10_remove 78 = .ok (.isub, 1) := by decide +kernel
theorem dX10_remove_79 : decode cX10_remove 79 = .ok (.iastore, 1) := by decide +kernel
theorem dX10_remove_80 : decode cX10_remove 80 = .ok (.aload_n 0, 1) := by decide +kernel
theorem dX10_remove_81 : decode cX10_remove 81 = .ok (.getfield 7, 3) := by decide +kernel
theorem dX10_remove_84 : decode cX10_remove 84 = .ok (.bipush 17, 2) := by decide +kernel
theorem dX10_remove_86 : decode cX10_remove 86 = .ok (.iload_n 2, 1) := by decide +kernel
theorem dX10_remove_87 : decode cX10_remove 87 = .ok (.iadd, 1) := by decide +kernel
theorem dX10_remove_88 : decode cX10_remove 88 = .ok (.dup2, 1) := by decide +kernel
theorem dX10_remove_89 : decode cX10_remove 89 = .ok (.iaload, 1) := by decide +kernel
theorem dX10_remove_90 : decode cX10_remove 90 = .ok (.iload_n 3, 1) := by decide +kernel
theorem dX10_remove_91 : decode cX10_remove 91 = .ok (.iadd, 1) := by decide +kernel
theorem dX10_remove_92 : decode cX10_remove 92 = .ok (.iastore, 1) := by decide +kernel
theorem dX10_remove_93 : decode cX10_remove 93 = .ok (.aload_n 0, 1) := by decide +kernel
theorem dX10_remove_94 : decode cX10_remove 94 = .ok (.getfield 7, 3) := by decide +kernel
theorem dX10_remove_97 : decode cX10_remove 97 = .ok (.bipush 14, 2) := by decide +kernel
theorem dX10_remove_99 : decode cX10_remove 99 = .ok (.dup2, 1) := by decide +kernel
theorem dX10_remove_100 : decode cX10_remove 100 = .ok (.iaload, 1) := by decide +kernel
theorem dX10_remove_101 : decode cX10_remove 101 = .ok (.iload_n 3, 1) := by decide +kernel
theorem dX10_remove_102 : decode cX10_remove 102 = .ok (.iadd, 1) := by decide +kernel
theorem dX10_remove_103 : decode cX10_remove 103 = .ok (.iastore, 1) := by decide +kernel
theorem dX10_remove_104 : decode cX10_remove 104 = .ok (.aload_n 0, 1) := by decide +kernel
theorem dX10_remove_105 : decode cX10_remove 105 = .ok (.getfield 7, 3) := by decide +kernel
theorem dX10_remove_108 : decode cX10_remove 108 = .ok (.bipush 10, 2) := by decide +kernel
theorem dX10_remove_110 : decode cX10_remove 110 = .ok (.dup2, 1) := by decide +kernel
theorem dX10_remove_111 : decode cX10_remove 111 = .ok (.iaload, 1) := by decide +kernel
theorem dX10_remove_112 : decode cX10_remove 112 = .ok (.iconst 1, 1) := by decide +kernel
theorem dX10_remove_113 : decode cX10_remove 113 = .ok (.isub, 1) := by decide +kernel
theorem dX10_remove_114 : decode cX10_remove 114 = .ok (.iastore, 1) := by decide +kernel
theorem dX10_remove_115 : decode cX10_remove 115 = .ok (.sipush 141, 3) := by decide +kernel
theorem dX10_remove_118 : decode cX10_remove 118 = .ok (.bipush 14, 2) := by decide +kernel
theorem dX10_remove_120 : decode cX10_remove 120 = .ok (.iload_n 1, 1) := by decide +kernel
theorem dX10_remove_121 : decode cX10_remove 121 = .ok (.imul, 1) := by decide +kernel
theorem dX10_remove_122 : decode cX10_remove 122 = .ok (.iadd, 1) := by decide +kernel
theorem dX10_remove_123 : decode cX10_remove 123 = .ok (.istore 4, 2) := by decide +kernel
theorem dX10_remove_125 : decode cX10_remove 125 = .ok (.iload 4, 2) := by decide +kernel
theorem dX10_remove_127 : decode cX10_remove 127 = .ok (.sipush 141, 3) := by decide +kernel
theorem dX10_remove_130 : decode cX10_remove 130 = .ok (.bipush 14, 2) := by decide +kernel
theorem dX10_remove_132 : decode cX10_remove 132 = .ok (.aload_n 0, 1) := by decide +kernel
theorem dX10_remove_133 : decode cX10_remove 133 = .ok (.getfield 7, 3) := by decide +kernel
theorem dX10_remove_136 : decode cX10_remove 136 = .ok (.bipush 10, 2) := by decide +kernel
theorem dX10_remove_138 : decode cX10_remove 138 = .ok (.iaload, 1) := by decide +kernel
theorem dX10_remove_139 : decode cX10_remove 139 = .ok (.imul, 1) := by decide +kernel
theorem dX10_remove_140 : decode cX10_remove 140 = .ok (.iadd, 1) := by decide +kernel
theorem dX10_remove_141 : decode cX10_remove 141 = .ok (.if_icmp .ge 26, 3) := by decide +kernel
theorem dX10_remove_144 : decode cX10_remove 144 = .ok (.aload_n 0, 1) := by decide +kernel
theorem dX10_remove_145 : decode cX10_remove 145 = .ok (.getfield 7, 3) := by decide +kernel
theorem dX10_remove_148 : decode cX10_remove 148 = .ok (.iload 4, 2) := by decide +kernel
theorem dX10_remove_150 : decode cX10_remove 150 = .ok (.aload_n 0, 1) := by decide +kernel
theorem dX10_remove_151 : decode cX10_remove 151 = .ok (.getfield 7, 3) := by decide +kernel
theorem dX10_remove_154 : decode cX10_remove 154 = .ok (.iload 4, 2) := by decide +kernel
theorem dX10_remove_156 : decode cX10_remove 156 = .ok (.bipush 14, 2) := by decide +kernel
theorem dX10_remove_158 : decode cX10_remove 158 = .ok (.iadd, 1) := by decide +kernel
theorem dX10_remove_159 : decode cX10_remove 159 = .ok (.iaload, 1) := by decide +kernel
theorem dX10_remove_160 : decode cX10_remove 160 = .ok (.iastore, 1) := by decide +kernel
theorem dX10_remove_161 : decode cX10_remove 161 = .ok (.iinc 4 1, 3) := by decide +kernel
theorem dX10_remove_164 : decode cX10_remove 164 = .ok (.goto (-39), 3) := by decide +kernel
theorem dX10_remove_167 : decode cX10_remove 167 = .ok (.aload_n 0, 1) := by decide +kernel
theorem dX10_remove_168 : decode cX10_remove 168 = .ok (.getfield 7, 3) := by decide +kernel
theorem dX10_remove_171 : decode cX10_remove 171 = .ok (.bipush 17, 2) := by decide +kernel
theorem dX10_remove_173 : decode cX10_remove 173 = .ok (.iload_n 2, 1) := by decide +kernel
theorem dX10_remove_174 : decode cX10_remove 174 = .ok (.iadd, 1) := by decide +kernel
theorem dX10_remove_175 : decode cX10_remove 175 = .ok (.iaload, 1) := by decide +kernel
theorem dX10_remove_176 : decode cX10_remove 176 = .ok (.ireturn, 1) := by decide +kernel
theorem dX10_recut_0 : decode cX10_recut 0 = .ok (.aload_n 0, 1) := by decide +kernel
theorem dX10_recut_1 : decode cX10_recut 1 = .ok (.iload_n 1, 1) := by decide +kernel
theorem dX10_recut_2 : decode cX10_recut 2 = .ok (.invokevirtual 271, 3) := by decide +kernel
theorem dX10_recut_5 : decode cX10_recut 5 = .ok (.ifCond .eq 5, 3) := by decide +kernel
theorem dX10_recut_8 : decode cX10_recut 8 = .ok (.iconst 0, 1) := by decide +kernel
theorem dX10_recut_9 : decode cX10_recut 9 = .ok (.ireturn, 1) := by decide +kernel
theorem dX10_recut_10 : decode cX10_recut 10 = .ok (.aload_n 0, 1) := by decide +kernel
theorem dX10_recut_11 : decode cX10_recut 11 = .ok (.invokevirtual 289, 3) := by decide +kernel
theorem dX10_recut_14 : decode cX10_recut 14 = .ok (.aload_n 0, 1) := by decide +kernel
theorem dX10_recut_15 : decode cX10_recut 15 = .ok (.iload_n 1, 1) := by decide +kernel
theorem dX10_recut_16 : decode cX10_recut 16 = .ok (.invokevirtual 292, 3) := by decide +kernel
theorem dX10_recut_19 : decode cX10_recut 19 = .ok (.ireturn, 1) := by decide +kernel
theorem dX10_recutAll_0 : decode cX10_recutAll 0 = .ok (.aload_n 0, 1) := by decide +kernel
theorem dX10_recutAll_1 : decode cX10_recutAll 1 = .ok (.iconst 0, 1) := by decide +kernel
theorem dX10_recutAll_2 : decode cX10_recutAll 2 = .ok (.putfield 59, 3) := by decide +kernel
theorem dX10_recutAll_5 : decode cX10_recutAll 5 = .ok (.aload_n 0, 1) := by decide +kernel
theorem dX10_recutAll_6 : decode cX10_recutAll 6 = .ok (.invokevirtual 289, 3) := by decide +kernel
theorem dX10_recutAll_9 : decode cX10_recutAll 9 = .ok (.iconst 0, 1) := by decide +kernel
theorem dX10_recutAll_10 : decode cX10_recutAll 10 = .ok (.istore_n 1, 1) := by decide +kernel
theorem dX10_recutAll_11 : decode cX10_recutAll 11 = .ok (.iconst 0, 1) := by decide +kernel
theorem dX10_recutAll_12 : decode cX10_recutAll 12 = .ok (.istore_n 2, 1) := by decide +kernel
theorem dX10_recutAll_13 : decode cX10_recutAll 13 = .ok (.iload_n 2, 1) := by decide +kernel
theorem dX10_recutAll_14 : decode cX10_recutAll 14 = .ok (.aload_n 0, 1) := by decide +kernel
theorem dX10_recutAll_15 : decode cX10_recutAll 15 = .ok (.getfield 7, 3) := by decide +kernel
theorem dX10_recutAll_18 : decode cX10_recutAll 18 = .ok (.bipush 10, 2) := by decide +kernel
theorem dX10_recutAll_20 : decode cX10_recutAll 20 = .ok (.iaload, 1) := by decide +kernel
theorem dX10_recutAll_21 : decode cX10_recutAll 21 = .ok (.if_icmp .ge 17, 3) := by decide +kernel
theorem dX10_recutAll_24 : decode cX10_recutAll 24 = .ok (.iload_n 1, 1) := by decide +kernel
theorem dX10_recutAll_25 : decode cX10_recutAll 25 = .ok (.aload_n 0, 1) := by decide +kernel
theorem dX10_recutAll_26 : decode cX10_recutAll 26 = .ok (.iload_n 2, 1) := by decide +kernel
theorem dX10_recutAll_27 : decode cX10_recutAll 27 = .ok (.invokevirtual 292, 3) := by decide +kernel
theorem dX10_recutAll_30 : decode cX10_recutAll 30 = .ok (.iadd, 1) := by decide +kernel
theorem dX10_recutAll_31 : decode cX10_recutAll 31 = .ok (.istore_n 1, 1) := by decide +kernel
theorem dX10_recutAll_32 : decode cX10_recutAll 32 = .ok (.iinc 2 1, 3) := by decide +kernel
theorem dX10_recutAll_35 : decode cX10_recutAll 35 = .ok (.goto (-22), 3) := by decide +kernel
theorem dX10_recutAll_38 : decode cX10_recutAll 38 = .ok (.iload_n 1, 1) := by decide +kernel
theorem dX10_recutAll_39 : decode cX10_recutAll 39 = .ok (.ireturn, 1) := by decide +kernel
theorem dX10_bring_0 : decode cX10_bring 0 = .ok (.aload_n 0, 1) := by decide +kernel
theorem dX10_bring_1 : decode cX10_bring 1 = .ok (.invokevirtual 253, 3) := by decide +kernel
theorem dX10_bring_4 : decode cX10_bring 4 = .ok (.istore_n 2, 1) := by decide +kernel
theorem dX10_bring_5 : decode cX10_bring 5 = .ok (.aload_n 0, 1) := by decide +kernel
theorem dX10_bring_6 : decode cX10_bring 6 = .ok (.iload_n 1, 1) := by decide +kernel
theorem dX10_bring_7 : decode cX10_bring 7 = .ok (.invokevirtual 262, 3) := by decide +kernel
theorem dX10_bring_10 : decode cX10_bring 10 = .ok (.ifCond .eq 5, 3) := by decide +kernel
theorem dX10_bring_13 : decode cX10_bring 13 = .ok (.iconst 0, 1) := by decide +kernel
theorem dX10_bring_14 : decode cX10_bring 14 = .ok (.ireturn, 1) := by decide +kernel
theorem dX10_bring_15 : decode cX10_bring 15 = .ok (.iload_n 2, 1) := by decide +kernel
theorem dX10_bring_16 : decode cX10_bring 16 = .ok (.ifCond .eq 24, 3) := by decide +kernel
theorem dX10_bring_19 : decode cX10_bring 19 = .ok (.aload_n 0, 1) := by decide +kernel
theorem dX10_bring_20 : decode cX10_bring 20 = .ok (.getfield 122, 3) := by decide +kernel
theorem dX10_bring_23 : decode cX10_bring 23 = .ok (.bipush 6, 2) := by decide +kernel
theorem dX10_bring_25 : decode cX10_bring 25 = .ok (.if_icmp .gt 15, 3) := by decide +kernel
theorem dX10_bring_28 : decode cX10_bring 28 = .ok (.aload_n 0, 1) := by decide +kernel
theorem dX10_bring_29 : decode cX10_bring 29 = .ok (.iconst 0, 1) := by decide +kernel
theorem dX10_bring_30 : decode cX10_bring 30 = .ok (.aload_n 0, 1) := by decide +kernel
theorem dX10_bring_31 : decode cX10_bring 31 = .ok (.getfield 122, 3) := by decide +kernel
theorem dX10_bring_34 : decode cX10_bring 34 = .ok (.invokevirtual 142, 3) := by decide +kernel
theorem dX10_bring_37 : decode cX10_bring 37 = .ok (.goto 4, 3) := by decide +kernel
theorem dX10_bring_40 : decode cX10_bring 40 = .ok (.iconst 0, 1) := by decide +kernel
theorem dX10_bring_41 : decode cX10_bring 41 = .ok (.istore_n 3, 1) := by decide +kernel
theorem dX10_bring_42 : decode cX10_bring 42 = .ok (.aload_n 0, 1) := by decide +kernel
theorem dX10_bring_43 : decode cX10_bring 43 = .ok (.iload_n 3, 1) := by decide +kernel
theorem dX10_bring_44 : decode cX10_bring 44 = .ok (.ifCond .eq 12, 3) := by decide +kernel
theorem dX10_bring_47 : decode cX10_bring 47 = .ok (.aload_n 0, 1) := by decide +kernel
theorem dX10_bring_48 : decode cX10_bring 48 = .ok (.iload_n 3, 1) := by decide +kernel
theorem dX10_bring_49 : decode cX10_bring 49 = .ok (.invokevirtual 146, 3) := by decide +kernel
theorem dX10_bring_52 : decode cX10_bring 52 = .ok (.iconst (-1), 1) := by decide +kernel
theorem dX10_bring_53 : decode cX10_bring 53 = .ok (.if_icmp .eq 7, 3) := by decide +kernel
theorem dX10_bring_56 : decode cX10_bring 56 = .ok (.iconst 1, 1) := by decide +kernel
theorem dX10_bring_57 : decode cX10_bring 57 = .ok (.goto 4, 3) := by decide +kernel
theorem dX10_bring_60 : decode cX10_bring 60 = .ok (.iconst 0, 1) := by decide +kernel
theorem dX10_bring_61 : decode cX10_bring 61 = .ok (.iconst 2, 1) := by decide +kernel
theorem dX10_bring_62 : decode cX10_bring 62 = .ok (.invokevirtual 186, 3) := by decide +kernel
theorem dX10_bring_65 : decode cX10_bring 65 = .ok (.ifCond .ne 45, 3) := by decide +kernel
theorem dX10_bring_68 : decode cX10_bring 68 = .ok (.aload_n 0, 1) := by decide +kernel
theorem dX10_bring_69 : decode cX10_bring 69 = .ok (.aload_n 0, 1) := by decide +kernel
theorem dX10_bring_70 : decode cX10_bring 70 = .ok (.getfield 7, 3) := by decide +kernel
theorem dX10_bring_73 : decode cX10_bring 73 = .ok (.bipush 9, 2) := by decide +kernel
theorem dX10_bring_75 : decode cX10_bring 75 = .ok (.iaload, 1) := by decide +kernel
theorem dX10_bring_76 : decode cX10_bring 76 = .ok (.bipush 24, 2) := by decide +kernel
theorem dX10_bring_78 : decode cX10_bring 78 = .ok (.if_icmp .eq 20, 3) := by decide +kernel
theorem dX10_bring_81 : decode cX10_bring 81 = .ok (.aload_n 0, 1) := by decide +kernel
theorem dX10_bring_82 : decode cX10_bring 82 = .ok (.getfield 7, 3) := by decide +kernel
theorem dX10_bring_85 : decode cX10_bring 85 = .ok (.bipush 17, 2) := by decide +kernel
theorem dX10_bring_87 : decode cX10_bring 87 = .ok (.iload_n 1, 1) := by decide +kernel
theorem dX10_bring_88 : decode cX10_bring 88 = .ok (.iadd, 1) := by decide +kernel
theorem dX10_bring_89 : decode cX10_bring 89 = .ok (.iaload, 1) := by decide +kernel
theorem dX10_bring_90 : decode cX10_bring 90 = .ok (.aload_n 0, 1) := by decide +kernel
theorem dX10_bring_91 : decode cX10_bring 91 = .ok (.iload_n 3, 1) := by decide +kernel
theorem dX10_bring_92 : decode cX10_bring 92 = .ok (.invokevirtual 209, 3) := by decide +kernel
theorem dX10_bring_95 : decode cX10_bring 95 = .ok (.if_icmp .ge 7, 3) := by decide +kernel
theorem dX10_bring_98 : decode cX10_bring 98 = .ok (.iconst 1, 1) := by decide +kernel
theorem dX10_bring_99 : decode cX10_bring 99 = .ok (.goto 4, 3) := by decide +kernel
theorem dX10_bring_102 : decode cX10_bring 102 = .ok (.iconst 0, 1) := by decide +kernel
theorem dX10_bring_103 : decode cX10_bring 103 = .ok (.iconst 3, 1) := by decide +kernel
theorem dX10_bring_104 : decode cX10_bring 104 = .ok (.invokevirtual 186, 3) := by decide +kernel
theorem dX10_bring_107 : decode cX10_bring 107 = .ok (.ifCond .eq 5, 3) := by decide +kernel
theorem dX10_bring_110 : decode cX10_bring 110 = .ok (.iconst 0, 1) := by decide +kernel
theorem dX10_bring_111 : decode cX10_bring 111 = .ok (.ireturn, 1) := by decide +kernel
theorem dX10_bring_112 : decode cX10_bring 112 = .ok (.aload_n 0, 1) := by decide +kernel
theorem dX10_bring_113 : decode cX10_bring 113 = .ok (.invokevirtual 289, 3) := by decide +kernel
theorem dX10_bring_116 : decode cX10_bring 116 = .ok (.aload_n 0, 1) := by decide +kernel
theorem dX10_bring_117 : decode cX10_bring 117 = .ok (.iload_n 3, 1) := by decide +kernel
theorem dX10_bring_118 : decode cX10_bring 118 = .ok (.iload_n 1, 1) := by decide +kernel
theorem dX10_bring_119 : decode cX10_bring 119 = .ok (.invokevirtual 234, 3) := by decide +kernel
theorem dX10_bring_122 : decode cX10_bring 122 = .ok (.ireturn, 1) := by decide +kernel
theorem dX10_tick_0 : decode cX10_tick 0 = .ok (.aload_n 0, 1) := by decide +kernel
theorem dX10_tick_1 : decode cX10_tick 1 = .ok (.iconst 0, 1) := by decide +kernel
theorem dX10_tick_2 : decode cX10_tick 2 = .ok (.putfield 59, 3) := by decide +kernel
theorem dX10_tick_5 : decode cX10_tick 5 = .ok (.aload_n 0, 1) := by decide +kernel
theorem dX10_tick_6 : decode cX10_tick 6 = .ok (.iload_n 1, 1) := by decide +kernel
theorem dX10_tick_7 : decode cX10_tick 7 = .ok (.iconst 1, 1) := by decide +kernel
theorem dX10_tick_8 : decode cX10_tick 8 = .ok (.bipush 30, 2) := by decide +kernel
theorem dX10_tick_10 : decode cX10_tick 10 = .ok (.invokestatic 88, 3) := by decide +kernel
theorem dX10_tick_13 : decode cX10_tick 13 = .ok (.ifCond .ne 7, 3) := by decide +kernel
theorem dX10_tick_16 : decode cX10_tick 16 = .ok (.iconst 1, 1) := by decide +kernel
theorem dX10_tick_17 : decode cX10_tick 17 = .ok (.goto 4, 3) := by decide +kernel
theorem dX10_tick_20 : decode cX10_tick 20 = .ok (.iconst 0, 1) := by decide +kernel
theorem dX10_tick_21 : decode cX10_tick 21 = .ok (.iconst 1, 1) := by decide +kernel
theorem dX10_tick_22 : decode cX10_tick 22 = .ok (.invokevirtual 186, 3) := by decide +kernel
theorem dX10_tick_25 : decode cX10_tick 25 = .ok (.ifCond .eq 5, 3) := by decide +kernel
theorem dX10_tick_28 : decode cX10_tick 28 = .ok (.iconst 0, 1) := by decide +kernel
theorem dX10_tick_29 : decode cX10_tick 29 = .ok (.ireturn, 1) := by decide +kernel
theorem dX10_tick_30 : decode cX10_tick 30 = .ok (.aload_n 0, 1) := by decide +kernel
theorem dX10_tick_31 : decode cX10_tick 31 = .ok (.invokevirtual 289, 3) := by decide +kernel
theorem dX10_tick_34 : decode cX10_tick 34 = .ok (.iconst 0, 1) := by decide +kernel
theorem dX10_tick_35 : decode cX10_tick 35 = .ok (.istore_n 2, 1) := by decide +kernel
theorem dX10_tick_36 : decode cX10_tick 36 = .ok (.iconst 0, 1) := by decide +kernel
theorem dX10_tick_37 : decode cX10_tick 37 = .ok (.istore_n 3, 1) := by decide +kernel
theorem dX10_tick_38 : decode cX10_tick 38 = .ok (.iload_n 3, 1) := by decide +kernel
theorem dX10_tick_39 : decode cX10_tick 39 = .ok (.iload_n 1, 1) := by decide +kernel
theorem dX10_tick_40 : decode cX10_tick 40 = .ok (.if_icmp .ge 16, 3) := by decide +kernel
theorem dX10_tick_43 : decode cX10_tick 43 = .ok (.iload_n 2, 1) := by decide +kernel
theorem dX10_tick_44 : decode cX10_tick 44 = .ok (.aload_n 0, 1) := by decide +kernel
theorem dX10_tick_45 : decode cX10_tick 45 = .ok (.invokevirtual 295, 3) := by decide +kernel
theorem dX10_tick_48 : decode cX10_tick 48 = .ok (.iadd, 1) := by decide +kernel
theorem dX10_tick_49 : decode cX10_tick 49 = .ok (.istore_n 2, 1) := by decide +kernel
theorem dX10_tick_50 : decode cX10_tick 50 = .ok (.iinc 3 1, 3) := by decide +kernel
theorem dX10_tick_53 : decode cX10_tick 53 = .ok (.goto (-15), 3) := by decide +kernel
theorem dX10_tick_56 : decode cX10_tick 56 = .ok (.iload_n 2, 1) := by decide +kernel
theorem dX10_tick_57 : decode cX10_tick 57 = .ok (.ireturn, 1) := by decide +kernel
theorem dX10_pay_0 : decode cX10_pay 0 = .ok (.aload_n 0, 1) := by decide +kernel
theorem dX10_pay_1 : decode cX10_pay 1 = .ok (.iload_n 1, 1) := by decide +kernel
theorem dX10_pay_2 : decode cX10_pay 2 = .ok (.invokevirtual 262, 3) := by decide +kernel
theorem dX10_pay_5 : decode cX10_pay 5 = .ok (.ifCond .ne 67, 3) := by decide +kernel
theorem dX10_pay_8 : decode cX10_pay 8 = .ok (.aload_n 0, 1) := by decide +kernel
theorem dX10_pay_9 : decode cX10_pay 9 = .ok (.iload_n 2, 1) := by decide +kernel
theorem dX10_pay_10 : decode cX10_pay 10 = .ok (.aload_n 0, 1) := by decide +kernel
theorem dX10_pay_11 : decode cX10_pay 11 = .ok (.getfield 7, 3) := by decide +kernel
theorem dX10_pay_14 : decode cX10_pay 14 = .ok (.iconst 5, 1) := by decide +kernel
theorem dX10_pay_15 : decode cX10_pay 15 = .ok (.iaload, 1) := by decide +kernel
theorem dX10_pay_16 : decode cX10_pay 16 = .ok (.invokevirtual 259, 3) := by decide +kernel
theorem dX10_pay_19 : decode cX10_pay 19 = .ok (.ifCond .ne 53, 3) := by decide +kernel
theorem dX10_pay_22 : decode cX10_pay 22 = .ok (.aload_n 0, 1) := by decide +kernel
theorem dX10_pay_23 : decode cX10_pay 23 = .ok (.iload_n 3, 1) := by decide +kernel
theorem dX10_pay_24 : decode cX10_pay 24 = .ok (.iconst 0, 1) := by decide +kernel
theorem dX10_pay_25 : decode cX10_pay 25 = .ok (.sipush 9999, 3) := by decide +kernel
theorem dX10_pay_28 : decode cX10_pay 28 = .ok (.invokestatic 88, 3) := by decide +kernel
theorem dX10_pay_31 : decode cX10_pay 31 = .ok (.ifCond .ne 7, 3) := by decide +kernel
theorem dX10_pay_34 : decode cX10_pay 34 = .ok (.iconst 1, 1) := by decide +kernel
theorem dX10_pay_35 : decode cX10_pay 35 = .ok (.goto 4, 3) := by decide +kernel
theorem dX10_pay_38 : decode cX10_pay 38 = .ok (.iconst 0, 1) := by decide +kernel
theorem dX10_pay_39 : decode cX10_pay 39 = .ok (.iconst 2, 1) := by decide +kernel
theorem dX10_pay_40 : decode cX10_pay 40 = .ok (.invokevirtual 186, 3) := by decide +kernel
theorem dX10_pay_43 : decode cX10_pay 43 = .ok (.ifCond .ne 29, 3) := by decide +kernel
theorem dX10_pay_46 : decode cX10_pay 46 = .ok (.aload_n 0, 1) := by decide +kernel
theorem dX10_pay_47 : decode cX10_pay 47 = .ok (.aload_n 0, 1) := by decide +kernel
theorem dX10_pay_48 : decode cX10_pay 48 = .ok (.getfield 7, 3) := by decide +kernel
theorem dX10_pay_51 : decode cX10_pay 51 = .ok (.bipush 17, 2) := by decide +kernel
theorem dX10_pay_53 : decode cX10_pay 53 = .ok (.iload_n 1, 1) := by decide +kernel
theorem dX10_pay_54 : decode cX10_pay 54 = .ok (.iadd, 1) := by decide +kernel
theorem dX10_pay_55 : decode cX10_pay 55 = .ok (.iaload, 1) := by decide +kernel
theorem dX10_pay_56 : decode cX10_pay 56 = .ok (.iload_n 3, 1) := by decide +kernel
theorem dX10_pay_57 : decode cX10_pay 57 = .ok (.if_icmp .ge 7, 3) := by decide +kernel
theorem dX10_pay_60 : decode cX10_pay 60 = .ok (.iconst 1, 1) := by decide +kernel
theorem dX10_pay_61 : decode cX10_pay 61 = .ok (.goto 4, 3) := by decide +kernel
theorem dX10_pay_64 : decode cX10_pay 64 = .ok (.iconst 0, 1) := by decide +kernel
theorem dX10_pay_65 : decode cX10_pay 65 = .ok (.iconst 3, 1) := by decide +kernel
theorem dX10_pay_66 : decode cX10_pay 66 = .ok (.invokevirtual 186, 3) := by decide +kernel
theorem dX10_pay_69 : decode cX10_pay 69 = .ok (.ifCond .eq 5, 3) := by decide +kernel
theorem dX10_pay_72 : decode cX10_pay 72 = .ok (.iconst 0, 1) := by decide +kernel
theorem dX10_pay_73 : decode cX10_pay 73 = .ok (.ireturn, 1) := by decide +kernel
theorem dX10_pay_74 : decode cX10_pay 74 = .ok (.aload_n 0, 1) := by decide +kernel
theorem dX10_pay_75 : decode cX10_pay 75 = .ok (.invokevirtual 289, 3) := by decide +kernel
theorem dX10_pay_78 : decode cX10_pay 78 = .ok (.aload_n 0, 1) := by decide +kernel
theorem dX10_pay_79 : decode cX10_pay 79 = .ok (.getfield 7, 3) := by decide +kernel
theorem dX10_pay_82 : decode cX10_pay 82 = .ok (.bipush 17, 2) := by decide +kernel
theorem dX10_pay_84 : decode cX10_pay 84 = .ok (.iload_n 1, 1) := by decide +kernel
theorem dX10_pay_85 : decode cX10_pay 85 = .ok (.iadd, 1) := by decide +kernel
theorem dX10_pay_86 : decode cX10_pay 86 = .ok (.dup2, 1) := by decide +kernel
theorem dX10_pay_87 : decode cX10_pay 87 = .ok (.iaload, 1) := by decide +kernel
theorem dX10_pay_88 : decode cX10_pay 88 = .ok (.iload_n 3, 1) := by decide +kernel
theorem dX10_pay_89 : decode cX10_pay 89 = .ok (.isub, 1) := by decide +kernel
theorem dX10_pay_90 : decode cX10_pay 90 = .ok (.iastore, 1) := by decide +kernel
theorem dX10_pay_91 : decode cX10_pay 91 = .ok (.aload_n 0, 1) := by decide +kernel
theorem dX10_pay_92 : decode cX10_pay 92 = .ok (.getfield 7, 3) := by decide +kernel
theorem dX10_pay_95 : decode cX10_pay 95 = .ok (.bipush 17, 2) := by decide +kernel
theorem dX10_pay_97 : decode cX10_pay 97 = .ok (.iload_n 2, 1) := by decide +kernel
theorem dX10_pay_98 : decode cX10_pay 98 = .ok (.iadd, 1) := by decide +kernel
theorem dX10_pay_99 : decode cX10_pay 99 = .ok (.dup2, 1) := by decide +kernel
theorem dX10_pay_100 : decode cX10_pay 100 = .ok (.iaload, 1) := by decide +kernel
theorem dX10_pay_101 : decode cX10_pay 101 = .ok (.iload_n 3, 1) := by decide +kernel
theorem dX10_pay_102 : decode cX10_pay 102 = .ok (.iadd, 1) := by decide +kernel
theorem dX10_pay_103 : decode cX10_pay 103 = .ok (.iastore, 1) := by decide +kernel
theorem dX10_pay_104 : decode cX10_pay 104 = .ok (.aload_n 0, 1) := by decide +kernel
theorem dX10_pay_105 : decode cX10_pay 105 = .ok (.getfield 7, 3) := by decide +kernel
theorem dX10_pay_108 : decode cX10_pay 108 = .ok (.bipush 17, 2) := by decide +kernel
theorem dX10_pay_110 : decode cX10_pay 110 = .ok (.iload_n 2, 1) := by decide +kernel
theorem dX10_pay_111 : decode cX10_pay 111 = .ok (.iadd, 1) := by decide +kernel
theorem dX10_pay_112 : decode cX10_pay 112 = .ok (.iaload, 1) := by decide +kernel
theorem dX10_pay_113 : decode cX10_pay 113 = .ok (.ireturn, 1) := by decide +kernel
theorem dX10_copies_0 : decode cX10_copies 0 = .ok (.iconst 0, 1) := by decide +kernel
theorem dX10_copies_1 : decode cX10_copies 1 = .ok (.istore 4, 2) := by decide +kernel
theorem dX10_copies_3 : decode cX10_copies 3 = .ok (.iload 4, 2) := by decide +kernel
theorem dX10_copies_5 : decode cX10_copies 5 = .ok (.sipush 365, 3) := by decide +kernel
theorem dX10_copies_8 : decode cX10_copies 8 = .ok (.if_icmp .ge 21, 3) := by decide +kernel
theorem dX10_copies_11 : decode cX10_copies 11 = .ok (.aload_n 2, 1) := by decide +kernel
theorem dX10_copies_12 : decode cX10_copies 12 = .ok (.iload_n 3, 1) := by decide +kernel
theorem dX10_copies_13 : decode cX10_copies 13 = .ok (.iload 4, 2) := by decide +kernel
theorem dX10_copies_15 : decode cX10_copies 15 = .ok (.iadd, 1) := by decide +kernel
theorem dX10_copies_16 : decode cX10_copies 16 = .ok (.aload_n 0, 1) := by decide +kernel
theorem dX10_copies_17 : decode cX10_copies 17 = .ok (.iload_n 1, 1) := by decide +kernel
theorem dX10_copies_18 : decode cX10_copies 18 = .ok (.iload 4, 2) := by decide +kernel
theorem dX10_copies_20 : decode cX10_copies 20 = .ok (.iadd, 1) := by decide +kernel
theorem dX10_copies_21 : decode cX10_copies 21 = .ok (.iaload, 1) := by decide +kernel
theorem dX10_copies_22 : decode cX10_copies 22 = .ok (.iastore, 1) := by decide +kernel
theorem dX10_copies_23 : decode cX10_copies 23 = .ok (.iinc 4 1, 3) := by decide +kernel
theorem dX10_copies_26 : decode cX10_copies 26 = .ok (.goto (-23), 3) := by decide +kernel
theorem dX10_copies_29 : decode cX10_copies 29 = .ok (.return_, 1) := by decide +kernel
theorem dX10_keeps_0 : decode cX10_keeps 0 = .ok (.aload_n 0, 1) := by decide +kernel
theorem dX10_keeps_1 : decode cX10_keeps 1 = .ok (.getfield 200, 3) := by decide +kernel
theorem dX10_keeps_4 : decode cX10_keeps 4 = .ok (.bipush 10, 2) := by decide +kernel
theorem dX10_keeps_6 : decode cX10_keeps 6 = .ok (.if_icmp .ne 52, 3) := by decide +kernel
theorem dX10_keeps_9 : decode cX10_keeps 9 = .ok (.aload_n 0, 1) := by decide +kernel
theorem dX10_keeps_10 : decode cX10_keeps 10 = .ok (.dup, 1) := by decide +kernel
theorem dX10_keeps_11 : decode cX10_keeps 11 = .ok (.getfield 200, 3) := by decide +kernel
theorem dX10_keeps_14 : decode cX10_keeps 14 = .ok (.iconst 1, 1) := by decide +kernel
theorem dX10_keeps_15 : decode cX10_keeps 15 = .ok (.isub, 1) := by decide +kernel
theorem dX10_keeps_16 : decode cX10_keeps 16 = .ok (.putfield 200, 3) := by decide +kernel
theorem dX10_keeps_19 : decode cX10_keeps 19 = .ok (.iconst 0, 1) := by decide +kernel
theorem dX10_keeps_20 : decode cX10_keeps 20 = .ok (.istore_n 1, 1) := by decide +kernel
theorem dX10_keeps_21 : decode cX10_keeps 21 = .ok (.iload_n 1, 1) := by decide +kernel
theorem dX10_keeps_22 : decode cX10_keeps 22 = .ok (.aload_n 0, 1) := by decide +kernel
theorem dX10_keeps_23 : decode cX10_keeps 23 = .ok (.getfield 200, 3) := by decide +kernel
theorem dX10_keeps_26 : decode cX10_keeps 26 = .ok (.if_icmp .ge 32, 3) := by decide +kernel
theorem dX10_keeps_29 : decode cX10_keeps 29 = .ok (.aload_n 0, 1) := by decide +kernel
theorem dX10_keeps_30 : decode cX10_keeps 30 = .ok (.getfield 49, 3) := by decide +kernel
theorem dX10_keeps_33 : decode cX10_keeps 33 = .ok (.sipush 365, 3) := by decide +kernel
theorem dX10_keeps_36 : decode cX10_keeps 36 = .ok (.iload_n 1, 1) := by decide +kernel
theorem dX10_keeps_37 : decode cX10_keeps 37 = .ok (.iconst 1, 1) := by decide +kernel
theorem dX10_keeps_38 : decode cX10_keeps 38 = .ok (.iadd, 1) := by decide +kernel
theorem dX10_keeps_39 : decode cX10_keeps 39 = .ok (.imul, 1) := by decide +kernel
theorem dX10_keeps_40 : decode cX10_keeps 40 = .ok (.aload_n 0, 1) := by decide +kernel
theorem dX10_keeps_41 : decode cX10_keeps 41 = .ok (.getfield 49, 3) := by decide +kernel
theorem dX10_keeps_44 : decode cX10_keeps 44 = .ok (.sipush 365, 3) := by decide +kernel
theorem dX10_keeps_47 : decode cX10_keeps 47 = .ok (.iload_n 1, 1) := by decide +kernel
theorem dX10_keeps_48 : decode cX10_keeps 48 = .ok (.imul, 1) := by decide +kernel
theorem dX10_keeps_49 : decode cX10_keeps 49 = .ok (.invokestatic 298, 3) := by decide +kernel
theorem dX10_keeps_52 : decode cX10_keeps 52 = .ok (.iinc 1 1, 3) := by decide +kernel
theorem dX10_keeps_55 : decode cX10_keeps 55 = .ok (.goto (-34), 3) := by decide +kernel
theorem dX10_keeps_58 : decode cX10_keeps 58 = .ok (.aload_n 0, 1) := by decide +kernel
theorem dX10_keeps_59 : decode cX10_keeps 59 = .ok (.getfield 7, 3) := by decide +kernel
theorem dX10_keeps_62 : decode cX10_keeps 62 = .ok (.iconst 0, 1) := by decide +kernel
theorem dX10_keeps_63 : decode cX10_keeps 63 = .ok (.aload_n 0, 1) := by decide +kernel
theorem dX10_keeps_64 : decode cX10_keeps 64 = .ok (.getfield 49, 3) := by decide +kernel
theorem dX10_keeps_67 : decode cX10_keeps 67 = .ok (.sipush 365, 3) := by decide +kernel
theorem dX10_keeps_70 : decode cX10_keeps 70 = .ok (.aload_n 0, 1) := by decide +kernel
theorem dX10_keeps_71 : decode cX10_keeps 71 = .ok (.getfield 200, 3) := by decide +kernel
theorem dX10_keeps_74 : decode cX10_keeps 74 = .ok (.imul, 1) := by decide +kernel
theorem dX10_keeps_75 : decode cX10_keeps 75 = .ok (.invokestatic 298, 3) := by decide +kernel
theorem dX10_keeps_78 : decode cX10_keeps 78 = .ok (.aload_n 0, 1) := by decide +kernel
theorem dX10_keeps_79 : decode cX10_keeps 79 = .ok (.dup, 1) := by decide +kernel
theorem dX10_keeps_80 : decode cX10_keeps 80 = .ok (.getfield 200, 3) := by decide +kernel
theorem dX10_keeps_83 : decode cX10_keeps 83 = .ok (.iconst 1, 1) := by decide +kernel
theorem dX10_keeps_84 : decode cX10_keeps 84 = .ok (.iadd, 1) := by decide +kernel
theorem dX10_keeps_85 : decode cX10_keeps 85 = .ok (.putfield 200, 3) := by decide +kernel
theorem dX10_keeps_88 : decode cX10_keeps 88 = .ok (.return_, 1) := by decide +kernel
theorem dX10_undo_0 : decode cX10_undo 0 = .ok (.aload_n 0, 1) := by decide +kernel
theorem dX10_undo_1 : decode cX10_undo 1 = .ok (.iconst 0, 1) := by decide +kernel
theorem dX10_undo_2 : decode cX10_undo 2 = .ok (.putfield 59, 3) := by decide +kernel
theorem dX10_undo_5 : decode cX10_undo 5 = .ok (.aload_n 0, 1) := by decide +kernel
theorem dX10_undo_6 : decode cX10_undo 6 = .ok (.getfield 200, 3) := by decide +kernel
theorem dX10_undo_9 : decode cX10_undo 9 = .ok (.ifCond .ne 5, 3) := by decide +kernel
theorem dX10_undo_12 : decode cX10_undo 12 = .ok (.iconst (-1), 1) := by decide +kernel
theorem dX10_undo_13 : decode cX10_undo 13 = .ok (.ireturn, 1) := by decide +kernel
theorem dX10_undo_14 : decode cX10_undo 14 = .ok (.aload_n 0, 1) := by decide +kernel
theorem dX10_undo_15 : decode cX10_undo 15 = .ok (.dup, 1) := by decide +kernel
theorem dX10_undo_16 : decode cX10_undo 16 = .ok (.getfield 200, 3) := by decide +kernel
theorem dX10_undo_19 : decode cX10_undo 19 = .ok (.iconst 1, 1) := by decide +kernel
theorem dX10_undo_20 : decode cX10_undo 20 = .ok (.isub, 1) := by decide +kernel
theorem dX10_undo_21 : decode cX10_undo 21 = .ok (.putfield 200, 3) := by decide +kernel
theorem dX10_undo_24 : decode cX10_undo 24 = .ok (.aload_n 0, 1) := by decide +kernel
theorem dX10_undo_25 : decode cX10_undo 25 = .ok (.getfield 49, 3) := by decide +kernel
theorem dX10_undo_28 : decode cX10_undo 28 = .ok (.sipush 365, 3) := by decide +kernel
theorem dX10_undo_31 : decode cX10_undo 31 = .ok (.aload_n 0, 1) := by decide +kernel
theorem dX10_undo_32 : decode cX10_undo 32 = .ok (.getfield 200, 3) := by decide +kernel
theorem dX10_undo_35 : decode cX10_undo 35 = .ok (.imul, 1) := by decide +kernel
theorem dX10_undo_36 : decode cX10_undo 36 = .ok (.aload_n 0, 1) := by decide +kernel
theorem dX10_undo_37 : decode cX10_undo 37 = .ok (.getfield 7, 3) := by decide +kernel
theorem dX10_undo_40 : decode cX10_undo 40 = .ok (.iconst 0, 1) := by decide +kernel
theorem dX10_undo_41 : decode cX10_undo 41 = .ok (.invokestatic 298, 3) := by decide +kernel
theorem dX10_undo_44 : decode cX10_undo 44 = .ok (.aload_n 0, 1) := by decide +kernel
theorem dX10_undo_45 : decode cX10_undo 45 = .ok (.getfield 200, 3) := by decide +kernel
theorem dX10_undo_48 : decode cX10_undo 48 = .ok (.ireturn, 1) := by decide +kernel
theorem dX10_noSlot_0 : decode cX10_noSlot 0 = .ok (.aload_n 0, 1) := by decide +kernel
theorem dX10_noSlot_1 : decode cX10_noSlot 1 = .ok (.iconst 0, 1) := by decide +kernel
theorem dX10_noSlot_2 : decode cX10_noSlot 2 = .ok (.putfield 59, 3) := by decide +kernel
theorem dX10_noSlot_5 : decode cX10_noSlot 5 = .ok (.aload_n 0, 1) := by decide +kernel
theorem dX10_noSlot_6 : decode cX10_noSlot 6 = .ok (.iload_n 1, 1) := by decide +kernel
theorem dX10_noSlot_7 : decode cX10_noSlot 7 = .ok (.iconst 2, 1) := by decide +kernel
theorem dX10_noSlot_8 : decode cX10_noSlot 8 = .ok (.invokevirtual 259, 3) := by decide +kernel
theorem dX10_noSlot_11 : decode cX10_noSlot 11 = .ok (.ireturn, 1) := by decide +kernel
theorem dX10_saveSnapshot_0 : decode cX10_saveSnapshot 0 = .ok (.aload_n 0, 1) := by decide +kernel
theorem dX10_saveSnapshot_1 : decode cX10_saveSnapshot 1 = .ok (.iload_n 1, 1) := by decide +kernel
theorem dX10_saveSnapshot_2 : decode cX10_saveSnapshot 2 = .ok (.invokevirtual 302, 3) := by decide +kernel
theorem dX10_saveSnapshot_5 : decode cX10_saveSnapshot 5 = .ok (.ifCond .eq 5, 3) := by decide +kernel
theorem dX10_saveSnapshot_8 : decode cX10_saveSnapshot 8 = .ok (.iconst 0, 1) := by decide +kernel
theorem dX10_saveSnapshot_9 : decode cX10_saveSnapshot 9 = .ok (.ireturn, 1) := by decide +kernel
theorem dX10_saveSnapshot_10 : decode cX10_saveSnapshot 10 = .ok (.aload_n 0, 1) := by decide +kernel
theorem dX10_saveSnapshot_11 : decode cX10_saveSnapshot 11 = .ok (.getfield 55, 3) := by decide +kernel
theorem dX10_saveSnapshot_14 : decode cX10_saveSnapshot 14 = .ok (.iload_n 1, 1) := by decide +kernel
theorem dX10_saveSnapshot_15 : decode cX10_saveSnapshot 15 = .ok (.baload, 1) := by decide +kernel
theorem dX10_saveSnapshot_16 : decode cX10_saveSnapshot 16 = .ok (.istore_n 2, 1) := by decide +kernel
theorem dX10_saveSnapshot_17 : decode cX10_saveSnapshot 17 = .ok (.aload_n 0, 1) := by decide +kernel
theorem dX10_saveSnapshot_18 : decode cX10_saveSnapshot 18 = .ok (.getfield 7, 3) := by decide +kernel
theorem dX10_saveSnapshot_21 : decode cX10_saveSnapshot 21 = .ok (.iconst 0, 1) := by decide +kernel
theorem dX10_saveSnapshot_22 : decode cX10_saveSnapshot 22 = .ok (.aload_n 0, 1) := by decide +kernel
theorem dX10_saveSnapshot_23 : decode cX10_saveSnapshot 23 = .ok (.getfield 52, 3) := by decide +kernel
theorem dX10_saveSnapshot_26 : decode cX10_saveSnapshot 26 = .ok (.sipush 365, 3) := by decide +kernel
theorem dX10_saveSnapshot_29 : decode cX10_saveSnapshot 29 = .ok (.iload_n 1, 1) := by decide +kernel
theorem dX10_saveSnapshot_30 : decode cX10_saveSnapshot 30 = .ok (.imul, 1) := by decide +kernel
theorem dX10_saveSnapshot_31 : decode cX10_saveSnapshot 31 = .ok (.invokestatic 298, 3) := by decide +kernel
theorem dX10_saveSnapshot_34 : decode cX10_saveSnapshot 34 = .ok (.aload_n 0, 1) := by decide +kernel
theorem dX10_saveSnapshot_35 : decode cX10_saveSnapshot 35 = .ok (.getfield 55, 3) := by decide +kernel
theorem dX10_saveSnapshot_38 : decode cX10_saveSnapshot 38 = .ok (.iload_n 1, 1) := by decide +kernel
theorem dX10_saveSnapshot_39 : decode cX10_saveSnapshot 39 = .ok (.iconst 1, 1) := by decide +kernel
theorem dX10_saveSnapshot_40 : decode cX10_saveSnapshot 40 = .ok (.bastore, 1) := by decide +kernel
theorem dX10_saveSnapshot_41 : decode cX10_saveSnapshot 41 = .ok (.iload_n 2, 1) := by decide +kernel
theorem dX10_saveSnapshot_42 : decode cX10_saveSnapshot 42 = .ok (.ireturn, 1) := by decide +kernel
theorem dX10_restoreSnapshot_0 : decode cX10_restoreSnapshot 0 = .ok (.aload_n 0, 1) := by decide +kernel
theorem dX10_restoreSnapshot_1 : decode cX10_restoreSnapshot 1 = .ok (.iload_n 1, 1) := by decide +kernel
theorem dX10_restoreSnapshot_2 : decode cX10_restoreSnapshot 2 = .ok (.invokevirtual 302, 3) := by decide +kernel
theorem dX10_restoreSnapshot_5 : decode cX10_restoreSnapshot 5 = .ok (.ifCond .ne 25, 3) := by decide +kernel
theorem dX10_restoreSnapshot_8 : decode cX10_restoreSnapshot 8 = .ok (.aload_n 0, 1) := by decide +kernel
theorem dX10_restoreSnapshot_9 : decode cX10_restoreSnapshot 9 = .ok (.aload_n 0, 1) := by decide +kernel
theorem dX10_restoreSnapshot_10 : decode cX10_restoreSnapshot 10 = .ok (.getfield 55, 3) := by decide +kernel
theorem dX10_restoreSnapshot_13 : decode cX10_restoreSnapshot 13 = .ok (.iload_n 1, 1) := by decide +kernel
theorem dX10_restoreSnapshot_14 : decode cX10_restoreSnapshot 14 = .ok (.baload, 1) := by decide +kernel
theorem dX10_restoreSnapshot_15 : decode cX10_restoreSnapshot 15 = .ok (.ifCond .ne 7, 3) := by decide +kernel
theorem dX10_restoreSnapshot_18 : decode cX10_restoreSnapshot 18 = .ok (.iconst 1, 1) := by decide +kernel
theorem dX10_restoreSnapshot_19 : decode cX10_restoreSnapshot 19 = .ok (.goto 4, 3) := by decide +kernel
theorem dX10_restoreSnapshot_22 : decode cX10_restoreSnapshot 22 = .ok (.iconst 0, 1) := by decide +kernel
theorem dX10_restoreSnapshot_23 : decode cX10_restoreSnapshot 23 = .ok (.iconst 2, 1) := by decide +kernel
theorem dX10_restoreSnapshot_24 : decode cX10_restoreSnapshot 24 = .ok (.invokevirtual 186, 3) := by decide +kernel
theorem dX10_restoreSnapshot_27 : decode cX10_restoreSnapshot 27 = .ok (.ifCond .eq 5, 3) := by decide +kernel
theorem dX10_restoreSnapshot_30 : decode cX10_restoreSnapshot 30 = .ok (.iconst 0, 1) := by decide +kernel
theorem dX10_restoreSnapshot_31 : decode cX10_restoreSnapshot 31 = .ok (.ireturn, 1) := by decide +kernel
theorem dX10_restoreSnapshot_32 : decode cX10_restoreSnapshot 32 = .ok (.aload_n 0, 1) := by decide +kernel
theorem dX10_restoreSnapshot_33 : decode cX10_restoreSnapshot 33 = .ok (.getfield 52, 3) := by decide +kernel
theorem dX10_restoreSnapshot_36 : decode cX10_restoreSnapshot 36 = .ok (.sipush 365, 3) := by decide +kernel
theorem dX10_restoreSnapshot_39 : decode cX10_restoreSnapshot 39 = .ok (.iload_n 1, 1) := by decide +kernel
theorem dX10_restoreSnapshot_40 : decode cX10_restoreSnapshot 40 = .ok (.imul, 1) := by decide +kernel
theorem dX10_restoreSnapshot_41 : decode cX10_restoreSnapshot 41 = .ok (.aload_n 0, 1) := by decide +kernel
theorem dX10_restoreSnapshot_42 : decode cX10_restoreSnapshot 42 = .ok (.getfield 7, 3) := by decide +kernel
theorem dX10_restoreSnapshot_45 : decode cX10_restoreSnapshot 45 = .ok (.iconst 0, 1) := by decide +kernel
theorem dX10_restoreSnapshot_46 : decode cX10_restoreSnapshot 46 = .ok (.invokestatic 298, 3) := by decide +kernel
theorem dX10_restoreSnapshot_49 : decode cX10_restoreSnapshot 49 = .ok (.aload_n 0, 1) := by decide +kernel
theorem dX10_restoreSnapshot_50 : decode cX10_restoreSnapshot 50 = .ok (.iconst 0, 1) := by decide +kernel
theorem dX10_restoreSnapshot_51 : decode cX10_restoreSnapshot 51 = .ok (.putfield 200, 3) := by decide +kernel
theorem dX10_restoreSnapshot_54 : decode cX10_restoreSnapshot 54 = .ok (.aload_n 0, 1) := by decide +kernel
theorem dX10_restoreSnapshot_55 : decode cX10_restoreSnapshot 55 = .ok (.getfield 7, 3) := by decide +kernel
theorem dX10_restoreSnapshot_58 : decode cX10_restoreSnapshot 58 = .ok (.bipush 10, 2) := by decide +kernel
theorem dX10_restoreSnapshot_60 : decode cX10_restoreSnapshot 60 = .ok (.iaload, 1) := by decide +kernel
theorem dX10_restoreSnapshot_61 : decode cX10_restoreSnapshot 61 = .ok (.ireturn, 1) := by decide +kernel
