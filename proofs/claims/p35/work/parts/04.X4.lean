theorem dX4_isLetter_0 : decode cX4_isLetter 0 = .ok (.iload_n 0, 1) := by decide +kernel
theorem dX4_isLetter_1 : decode cX4_isLetter 1 = .ok (.bipush 97, 2) := by decide +kernel
theorem dX4_isLetter_3 : decode cX4_isLetter 3 = .ok (.if_icmp .lt 13, 3) := by decide +kernel
theorem dX4_isLetter_6 : decode cX4_isLetter 6 = .ok (.iload_n 0, 1) := by decide +kernel
theorem dX4_isLetter_7 : decode cX4_isLetter 7 = .ok (.bipush 122, 2) := by decide +kernel
theorem dX4_isLetter_9 : decode cX4_isLetter 9 = .ok (.if_icmp .gt 7, 3) := by decide +kernel
theorem dX4_isLetter_12 : decode cX4_isLetter 12 = .ok (.iconst 1, 1) := by decide +kernel
theorem dX4_isLetter_13 : decode cX4_isLetter 13 = .ok (.goto 4, 3) := by decide +kernel
theorem dX4_isLetter_16 : decode cX4_isLetter 16 = .ok (.iconst 0, 1) := by decide +kernel
theorem dX4_isLetter_17 : decode cX4_isLetter 17 = .ok (.ireturn, 1) := by decide +kernel
theorem dX4_read_0 : decode cX4_read 0 = .ok (.lconst 0, 1) := by decide +kernel
theorem dX4_read_1 : decode cX4_read 1 = .ok (.lstore_n 3, 1) := by decide +kernel
theorem dX4_read_2 : decode cX4_read 2 = .ok (.iload_n 1, 1) := by decide +kernel
theorem dX4_read_3 : decode cX4_read 3 = .ok (.istore 5, 2) := by decide +kernel
theorem dX4_read_5 : decode cX4_read 5 = .ok (.iload 5, 2) := by decide +kernel
theorem dX4_read_7 : decode cX4_read 7 = .ok (.iload_n 2, 1) := by decide +kernel
theorem dX4_read_8 : decode cX4_read 8 = .ok (.if_icmp .ge 29, 3) := by decide +kernel
theorem dX4_read_11 : decode cX4_read 11 = .ok (.lload_n 3, 1) := by decide +kernel
theorem dX4_read_12 : decode cX4_read 12 = .ok (.aload_n 0, 1) := by decide +kernel
theorem dX4_read_13 : decode cX4_read 13 = .ok (.iload 5, 2) := by decide +kernel
theorem dX4_read_15 : decode cX4_read 15 = .ok (.baload, 1) := by decide +kernel
theorem dX4_read_16 : decode cX4_read 16 = .ok (.bipush 97, 2) := by decide +kernel
theorem dX4_read_18 : decode cX4_read 18 = .ok (.isub, 1) := by decide +kernel
theorem dX4_read_19 : decode cX4_read 19 = .ok (.iconst 1, 1) := by decide +kernel
theorem dX4_read_20 : decode cX4_read 20 = .ok (.iadd, 1) := by decide +kernel
theorem dX4_read_21 : decode cX4_read 21 = .ok (.i2l, 1) := by decide +kernel
theorem dX4_read_22 : decode cX4_read 22 = .ok (.iconst 5, 1) := by decide +kernel
theorem dX4_read_23 : decode cX4_read 23 = .ok (.iload 5, 2) := by decide +kernel
theorem dX4_read_25 : decode cX4_read 25 = .ok (.iload_n 1, 1) := by decide +kernel
theorem dX4_read_26 : decode cX4_read 26 = .ok (.isub, 1) := by decide +kernel
theorem dX4_read_27 : decode cX4_read 27 = .ok (.imul, 1) := by decide +kernel
theorem dX4_read_28 : decode cX4_read 28 = .ok (.lshl, 1) := by decide +kernel
theorem dX4_read_29 : decode cX4_read 29 = .ok (.lor, 1) := by decide +kernel
theorem dX4_read_30 : decode cX4_read 30 = .ok (.lstore_n 3, 1) := by decide +kernel
theorem dX4_read_31 : decode cX4_read 31 = .ok (.iinc 5 1, 3) := by decide +kernel
theorem dX4_read_34 : decode cX4_read 34 = .ok (.goto (-29), 3) := by decide +kernel
theorem dX4_read_37 : decode cX4_read 37 = .ok (.lload_n 3, 1) := by decide +kernel
theorem dX4_read_38 : decode cX4_read 38 = .ok (.lreturn, 1) := by decide +kernel
theorem dX4_join_0 : decode cX4_join 0 = .ok (.lload_n 0, 1) := by decide +kernel
theorem dX4_join_1 : decode cX4_join 1 = .ok (.lload_n 3, 1) := by decide +kernel
theorem dX4_join_2 : decode cX4_join 2 = .ok (.iconst 5, 1) := by decide +kernel
theorem dX4_join_3 : decode cX4_join 3 = .ok (.iload_n 2, 1) := by decide +kernel
theorem dX4_join_4 : decode cX4_join 4 = .ok (.imul, 1) := by decide +kernel
theorem dX4_join_5 : decode cX4_join 5 = .ok (.lshl, 1) := by decide +kernel
theorem dX4_join_6 : decode cX4_join 6 = .ok (.lor, 1) := by decide +kernel
theorem dX4_join_7 : decode cX4_join 7 = .ok (.lreturn, 1) := by decide +kernel
theorem dX4_letterAt_0 : decode cX4_letterAt 0 = .ok (.iload_n 2, 1) := by decide +kernel
theorem dX4_letterAt_1 : decode cX4_letterAt 1 = .ok (.ifCond .lt 9, 3) := by decide +kernel
theorem dX4_letterAt_4 : decode cX4_letterAt 4 = .ok (.iload_n 2, 1) := by decide +kernel
theorem dX4_letterAt_5 : decode cX4_letterAt 5 = .ok (.bipush 12, 2) := by decide +kernel
theorem dX4_letterAt_7 : decode cX4_letterAt 7 = .ok (.if_icmp .lt 5, 3) := by decide +kernel
theorem dX4_letterAt_10 : decode cX4_letterAt 10 = .ok (.iconst (-1), 1) := by decide +kernel
theorem dX4_letterAt_11 : decode cX4_letterAt 11 = .ok (.ireturn, 1) := by decide +kernel
theorem dX4_letterAt_12 : decode cX4_letterAt 12 = .ok (.lload_n 0, 1) := by decide +kernel
theorem dX4_letterAt_13 : decode cX4_letterAt 13 = .ok (.iconst 5, 1) := by decide +kernel
theorem dX4_letterAt_14 : decode cX4_letterAt 14 = .ok (.iload_n 2, 1) := by decide +kernel
theorem dX4_letterAt_15 : decode cX4_letterAt 15 = .ok (.imul, 1) := by decide +kernel
theorem dX4_letterAt_16 : decode cX4_letterAt 16 = .ok (.lushr, 1) := by decide +kernel
theorem dX4_letterAt_17 : decode cX4_letterAt 17 = .ok (.l2i, 1) := by decide +kernel
theorem dX4_letterAt_18 : decode cX4_letterAt 18 = .ok (.bipush 31, 2) := by decide +kernel
theorem dX4_letterAt_20 : decode cX4_letterAt 20 = .ok (.iand, 1) := by decide +kernel
theorem dX4_letterAt_21 : decode cX4_letterAt 21 = .ok (.istore_n 3, 1) := by decide +kernel
theorem dX4_letterAt_22 : decode cX4_letterAt 22 = .ok (.iload_n 3, 1) := by decide +kernel
theorem dX4_letterAt_23 : decode cX4_letterAt 23 = .ok (.ifCond .ne 7, 3) := by decide +kernel
theorem dX4_letterAt_26 : decode cX4_letterAt 26 = .ok (.iconst (-1), 1) := by decide +kernel
theorem dX4_letterAt_27 : decode cX4_letterAt 27 = .ok (.goto 6, 3) := by decide +kernel
theorem dX4_letterAt_30 : decode cX4_letterAt 30 = .ok (.iload_n 3, 1) := by decide +kernel
theorem dX4_letterAt_31 : decode cX4_letterAt 31 = .ok (.iconst 1, 1) := by decide +kernel
theorem dX4_letterAt_32 : decode cX4_letterAt 32 = .ok (.isub, 1) := by decide +kernel
theorem dX4_letterAt_33 : decode cX4_letterAt 33 = .ok (.ireturn, 1) := by decide +kernel
theorem dX4_lengthOf_0 : decode cX4_lengthOf 0 = .ok (.iconst 0, 1) := by decide +kernel
theorem dX4_lengthOf_1 : decode cX4_lengthOf 1 = .ok (.istore_n 2, 1) := by decide +kernel
theorem dX4_lengthOf_2 : decode cX4_lengthOf 2 = .ok (.iload_n 2, 1) := by decide +kernel
theorem dX4_lengthOf_3 : decode cX4_lengthOf 3 = .ok (.bipush 12, 2) := by decide +kernel
theorem dX4_lengthOf_5 : decode cX4_lengthOf 5 = .ok (.if_icmp .ge 19, 3) := by decide +kernel
theorem dX4_lengthOf_8 : decode cX4_lengthOf 8 = .ok (.lload_n 0, 1) := by decide +kernel
theorem dX4_lengthOf_9 : decode cX4_lengthOf 9 = .ok (.iconst 5, 1) := by decide +kernel
theorem dX4_lengthOf_10 : decode cX4_lengthOf 10 = .ok (.iload_n 2, 1) := by decide +kernel
theorem dX4_lengthOf_11 : decode cX4_lengthOf 11 = .ok (.imul, 1) := by decide +kernel
theorem dX4_lengthOf_12 : decode cX4_lengthOf 12 = .ok (.lushr, 1) := by decide +kernel
theorem dX4_lengthOf_13 : decode cX4_lengthOf 13 = .ok (.lconst 0, 1) := by decide +kernel
theorem dX4_lengthOf_14 : decode cX4_lengthOf 14 = .ok (.lcmp, 1) := by decide +kernel
theorem dX4_lengthOf_15 : decode cX4_lengthOf 15 = .ok (.ifCond .eq 9, 3) := by decide +kernel
theorem dX4_lengthOf_18 : decode cX4_lengthOf 18 = .ok (.iinc 2 1, 3) := by decide +kernel
theorem dX4_lengthOf_21 : decode cX4_lengthOf 21 = .ok (.goto (-19), 3) := by decide +kernel
theorem dX4_lengthOf_24 : decode cX4_lengthOf 24 = .ok (.iload_n 2, 1) := by decide +kernel
theorem dX4_lengthOf_25 : decode cX4_lengthOf 25 = .ok (.ireturn, 1) := by decide +kernel
theorem dX4_section_0 : decode cX4_section 0 = .ok (.lload_n 0, 1) := by decide +kernel
theorem dX4_section_1 : decode cX4_section 1 = .ok (.iconst 5, 1) := by decide +kernel
theorem dX4_section_2 : decode cX4_section 2 = .ok (.iload_n 2, 1) := by decide +kernel
theorem dX4_section_3 : decode cX4_section 3 = .ok (.imul, 1) := by decide +kernel
theorem dX4_section_4 : decode cX4_section 4 = .ok (.lushr, 1) := by decide +kernel
theorem dX4_section_5 : decode cX4_section 5 = .ok (.lconst 1, 1) := by decide +kernel
theorem dX4_section_6 : decode cX4_section 6 = .ok (.iconst 5, 1) := by decide +kernel
theorem dX4_section_7 : decode cX4_section 7 = .ok (.iload_n 3, 1) := by decide +kernel
theorem dX4_section_8 : decode cX4_section 8 = .ok (.imul, 1) := by decide +kernel
theorem dX4_section_9 : decode cX4_section 9 = .ok (.lshl, 1) := by decide +kernel
theorem dX4_section_10 : decode cX4_section 10 = .ok (.lconst 1, 1) := by decide +kernel
theorem dX4_section_11 : decode cX4_section 11 = .ok (.lsub, 1) := by decide +kernel
theorem dX4_section_12 : decode cX4_section 12 = .ok (.land, 1) := by decide +kernel
theorem dX4_section_13 : decode cX4_section 13 = .ok (.lreturn, 1) := by decide +kernel
set_option maxRecDepth 20000 in
theorem ggX4_spell_J0_length_8abf5 : GoodIn wsX4_spell wsJ0_length_8abf5 := goodIn_r _ [5, 6, 7, 8, 9, 4, 10, 11, 12, 57, 58, 59, 60] (by decide +kernel) (by decide +kernel)
set_option maxRecDepth 20000 in
theorem gX4_spell_J0_length_8abf5 : GoodIn wsX4_spell (wsV RX4 11 RJ0 yJ0_length_8abf5 wsJ0_length_8abf5) := goodIn_app (goodIn_of _ (by decide +kernel)) ggX4_spell_J0_length_8abf5
set_option maxRecDepth 20000 in
theorem ggX4_spell_X4_letterAt : GoodIn wsX4_spell wsX4_letterAt := goodIn_r _ [16] (by decide +kernel) (by decide +kernel)
set_option maxRecDepth 20000 in
theorem gX4_spell_X4_letterAt : GoodIn wsX4_spell (va_wsS RX4 17 yX4_letterAt wsX4_letterAt) := goodIn_app (goodIn_of _ (by decide +kernel)) ggX4_spell_X4_letterAt
set_option maxRecDepth 20000 in
theorem ggX4_spell_J0_charAt_5068e : GoodIn wsX4_spell wsJ0_charAt_5068e := goodIn_r _ [20, 6, 21, 22, 23, 4, 24, 11, 12, 25, 26, 27, 28, 29, 30, 31, 32, 33, 34, 35, 36, 37, 38, 39, 40, 41, 42, 43, 44, 45, 46, 47, 48, 49, 50, 51, 52, 53, 57, 58, 59, 60] (by decide +kernel) (by decide +kernel)
set_option maxRecDepth 20000 in
theorem gX4_spell_J0_charAt_5068e : GoodIn wsX4_spell (wsV RX4 21 RJ0 yJ0_charAt_5068e wsJ0_charAt_5068e) := goodIn_app (goodIn_of _ (by decide +kernel)) ggX4_spell_J0_charAt_5068e
set_option maxRecDepth 20000 in
theorem ggX4_spell_X4_lengthOf : GoodIn wsX4_spell wsX4_lengthOf := goodIn_r _ [56] (by decide +kernel) (by decide +kernel)
set_option maxRecDepth 20000 in
theorem gX4_spell_X4_lengthOf : GoodIn wsX4_spell (va_wsS RX4 25 yX4_lengthOf wsX4_lengthOf) := goodIn_app (goodIn_of _ (by decide +kernel)) ggX4_spell_X4_lengthOf
theorem dX4_spell_0 : decode cX4_spell 0 = .ok (.iconst 0, 1) := by decide +kernel
theorem dX4_spell_1 : decode cX4_spell 1 = .ok (.istore_n 3, 1) := by decide +kernel
theorem dX4_spell_2 : decode cX4_spell 2 = .ok (.iload_n 3, 1) := by decide +kernel
theorem dX4_spell_3 : decode cX4_spell 3 = .ok (.aload_n 2, 1) := by decide +kernel
theorem dX4_spell_4 : decode cX4_spell 4 = .ok (.invokevirtual 11, 3) := by decide +kernel
theorem dX4_spell_7 : decode cX4_spell 7 = .ok (.if_icmp .ge 27, 3) := by decide +kernel
theorem dX4_spell_10 : decode cX4_spell 10 = .ok (.lload_n 0, 1) := by decide +kernel
theorem dX4_spell_11 : decode cX4_spell 11 = .ok (.iload_n 3, 1) := by decide +kernel
theorem dX4_spell_12 : decode cX4_spell 12 = .ok (.invokestatic 17, 3) := by decide +kernel
theorem dX4_spell_15 : decode cX4_spell 15 = .ok (.aload_n 2, 1) := by decide +kernel
theorem dX4_spell_16 : decode cX4_spell 16 = .ok (.iload_n 3, 1) := by decide +kernel
theorem dX4_spell_17 : decode cX4_spell 17 = .ok (.invokevirtual 21, 3) := by decide +kernel
theorem dX4_spell_20 : decode cX4_spell 20 = .ok (.bipush 97, 2) := by decide +kernel
theorem dX4_spell_22 : decode cX4_spell 22 = .ok (.isub, 1) := by decide +kernel
theorem dX4_spell_23 : decode cX4_spell 23 = .ok (.if_icmp .eq 5, 3) := by decide +kernel
theorem dX4_spell_26 : decode cX4_spell 26 = .ok (.iconst 0, 1) := by decide +kernel
theorem dX4_spell_27 : decode cX4_spell 27 = .ok (.ireturn, 1) := by decide +kernel
theorem dX4_spell_28 : decode cX4_spell 28 = .ok (.iinc 3 1, 3) := by decide +kernel
theorem dX4_spell_31 : decode cX4_spell 31 = .ok (.goto (-29), 3) := by decide +kernel
theorem dX4_spell_34 : decode cX4_spell 34 = .ok (.lload_n 0, 1) := by decide +kernel
theorem dX4_spell_35 : decode cX4_spell 35 = .ok (.invokestatic 25, 3) := by decide +kernel
theorem dX4_spell_38 : decode cX4_spell 38 = .ok (.aload_n 2, 1) := by decide +kernel
theorem dX4_spell_39 : decode cX4_spell 39 = .ok (.invokevirtual 11, 3) := by decide +kernel
theorem dX4_spell_42 : decode cX4_spell 42 = .ok (.if_icmp .ne 7, 3) := by decide +kernel
theorem dX4_spell_45 : decode cX4_spell 45 = .ok (.iconst 1, 1) := by decide +kernel
theorem dX4_spell_46 : decode cX4_spell 46 = .ok (.goto 4, 3) := by decide +kernel
theorem dX4_spell_49 : decode cX4_spell 49 = .ok (.iconst 0, 1) := by decide +kernel
theorem dX4_spell_50 : decode cX4_spell 50 = .ok (.ireturn, 1) := by decide +kernel
