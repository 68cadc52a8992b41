theorem dX8_init_0 : decode cX8_init 0 = .ok (.aload_n 0, 1) := by decide +kernel
theorem dX8_init_1 : decode cX8_init 1 = .ok (.invokespecial 3, 3) := by decide +kernel
theorem dX8_init_4 : decode cX8_init 4 = .ok (.aload_n 0, 1) := by decide +kernel
theorem dX8_init_5 : decode cX8_init 5 = .ok (.iconst 0, 1) := by decide +kernel
theorem dX8_init_6 : decode cX8_init 6 = .ok (.putfield 9, 3) := by decide +kernel
theorem dX8_init_9 : decode cX8_init 9 = .ok (.aload_n 0, 1) := by decide +kernel
theorem dX8_init_10 : decode cX8_init 10 = .ok (.bipush 16, 2) := by decide +kernel
theorem dX8_init_12 : decode cX8_init 12 = .ok (.newarray .long, 2) := by decide +kernel
theorem dX8_init_14 : decode cX8_init 14 = .ok (.putfield 15, 3) := by decide +kernel
theorem dX8_init_17 : decode cX8_init 17 = .ok (.aload_n 0, 1) := by decide +kernel
theorem dX8_init_18 : decode cX8_init 18 = .ok (.bipush 16, 2) := by decide +kernel
theorem dX8_init_20 : decode cX8_init 20 = .ok (.newarray .int, 2) := by decide +kernel
theorem dX8_init_22 : decode cX8_init 22 = .ok (.putfield 19, 3) := by decide +kernel
theorem dX8_init_25 : decode cX8_init 25 = .ok (.aload_n 0, 1) := by decide +kernel
theorem dX8_init_26 : decode cX8_init 26 = .ok (.bipush 16, 2) := by decide +kernel
theorem dX8_init_28 : decode cX8_init 28 = .ok (.newarray .int, 2) := by decide +kernel
theorem dX8_init_30 : decode cX8_init 30 = .ok (.putfield 23, 3) := by decide +kernel
theorem dX8_init_33 : decode cX8_init 33 = .ok (.aload_n 0, 1) := by decide +kernel
theorem dX8_init_34 : decode cX8_init 34 = .ok (.sipush 192, 3) := by decide +kernel
theorem dX8_init_37 : decode cX8_init 37 = .ok (.newarray .int, 2) := by decide +kernel
theorem dX8_init_39 : decode cX8_init 39 = .ok (.putfield 26, 3) := by decide +kernel
theorem dX8_init_42 : decode cX8_init 42 = .ok (.return_, 1) := by decide +kernel
theorem dX8_numberOf_0 : decode cX8_numberOf 0 = .ok (.iconst 0, 1) := by decide +kernel
theorem dX8_numberOf_1 : decode cX8_numberOf 1 = .ok (.istore_n 3, 1) := by decide +kernel
theorem dX8_numberOf_2 : decode cX8_numberOf 2 = .ok (.iload_n 3, 1) := by decide +kernel
theorem dX8_numberOf_3 : decode cX8_numberOf 3 = .ok (.aload_n 0, 1) := by decide +kernel
theorem dX8_numberOf_4 : decode cX8_numberOf 4 = .ok (.getfield 9, 3) := by decide +kernel
theorem dX8_numberOf_7 : decode cX8_numberOf 7 = .ok (.if_icmp .ge 22, 3) := by decide +kernel
theorem dX8_numberOf_10 : decode cX8_numberOf 10 = .ok (.aload_n 0, 1) := by decide +kernel
theorem dX8_numberOf_11 : decode cX8_numberOf 11 = .ok (.getfield 15, 3) := by decide +kernel
theorem dX8_numberOf_14 : decode cX8_numberOf 14 = .ok (.iload_n 3, 1) := by decide +kernel
theorem dX8_numberOf_15 : decode cX8_numberOf 15 = .ok (.laload, 1) := by decide +kernel
theorem dX8_numberOf_16 : decode cX8_numberOf 16 = .ok (.lload_n 1, 1) := by decide +kernel
theorem dX8_numberOf_17 : decode cX8_numberOf 17 = .ok (.lcmp, 1) := by decide +kernel
theorem dX8_numberOf_18 : decode cX8_numberOf 18 = .ok (.ifCond .ne 5, 3) := by decide +kernel
theorem dX8_numberOf_21 : decode cX8_numberOf 21 = .ok (.iload_n 3, 1) := by decide +kernel
theorem dX8_numberOf_22 : decode cX8_numberOf 22 = .ok (.ireturn, 1) := by decide +kernel
theorem dX8_numberOf_23 : decode cX8_numberOf 23 = .ok (.iinc 3 1, 3) := by decide +kernel
theorem dX8_numberOf_26 : decode cX8_numberOf 26 = .ok (.goto (-24), 3) := by decide +kernel
theorem dX8_numberOf_29 : decode cX8_numberOf 29 = .ok (.iconst (-1), 1) := by decide +kernel
theorem dX8_numberOf_30 : decode cX8_numberOf 30 = .ok (.ireturn, 1) := by decide +kernel
theorem dX8_isFull_0 : decode cX8_isFull 0 = .ok (.aload_n 0, 1) := by decide +kernel
theorem dX8_isFull_1 : decode cX8_isFull 1 = .ok (.getfield 9, 3) := by decide +kernel
theorem dX8_isFull_4 : decode cX8_isFull 4 = .ok (.bipush 16, 2) := by decide +kernel
theorem dX8_isFull_6 : decode cX8_isFull 6 = .ok (.if_icmp .lt 7, 3) := by decide +kernel
theorem dX8_isFull_9 : decode cX8_isFull 9 = .ok (.iconst 1, 1) := by decide +kernel
theorem dX8_isFull_10 : decode cX8_isFull 10 = .ok (.goto 4, 3) := by decide +kernel
theorem dX8_isFull_13 : decode cX8_isFull 13 = .ok (.iconst 0, 1) := by decide +kernel
theorem dX8_isFull_14 : decode cX8_isFull 14 = .ok (.ireturn, 1) := by decide +kernel
theorem dX8_add_0 : decode cX8_add 0 = .ok (.aload_n 0, 1) := by decide +kernel
theorem dX8_add_1 : decode cX8_add 1 = .ok (.getfield 9, 3) := by decide +kernel
theorem dX8_add_4 : decode cX8_add 4 = .ok (.bipush 16, 2) := by decide +kernel
theorem dX8_add_6 : decode cX8_add 6 = .ok (.if_icmp .lt 5, 3) := by decide +kernel
theorem dX8_add_9 : decode cX8_add 9 = .ok (.iconst (-1), 1) := by decide +kernel
theorem dX8_add_10 : decode cX8_add 10 = .ok (.ireturn, 1) := by decide +kernel
theorem dX8_add_11 : decode cX8_add 11 = .ok (.aload_n 0, 1) := by decide +kernel
theorem dX8_add_12 : decode cX8_add 12 = .ok (.getfield 15, 3) := by decide +kernel
theorem dX8_add_15 : decode cX8_add 15 = .ok (.aload_n 0, 1) := by decide +kernel
theorem dX8_add_16 : decode cX8_add 16 = .ok (.getfield 9, 3) := by decide +kernel
theorem dX8_add_19 : decode cX8_add 19 = .ok (.lload_n 1, 1) := by decide +kernel
theorem dX8_add_20 : decode cX8_add 20 = .ok (.lastore, 1) := by decide +kernel
theorem dX8_add_21 : decode cX8_add 21 = .ok (.aload_n 0, 1) := by decide +kernel
theorem dX8_add_22 : decode cX8_add 22 = .ok (.getfield 19, 3) := by decide +kernel
theorem dX8_add_25 : decode cX8_add 25 = .ok (.aload_n 0, 1) := by decide +kernel
theorem dX8_add_26 : decode cX8_add 26 = .ok (.getfield 9, 3) := by decide +kernel
theorem dX8_add_29 : decode cX8_add 29 = .ok (.iload_n 3, 1) := by decide +kernel
theorem dX8_add_30 : decode cX8_add 30 = .ok (.iastore, 1) := by decide +kernel
theorem dX8_add_31 : decode cX8_add 31 = .ok (.aload_n 0, 1) := by decide +kernel
theorem dX8_add_32 : decode cX8_add 32 = .ok (.getfield 23, 3) := by decide +kernel
theorem dX8_add_35 : decode cX8_add 35 = .ok (.aload_n 0, 1) := by decide +kernel
theorem dX8_add_36 : decode cX8_add 36 = .ok (.getfield 9, 3) := by decide +kernel
theorem dX8_add_39 : decode cX8_add 39 = .ok (.iconst 0, 1) := by decide +kernel
theorem dX8_add_40 : decode cX8_add 40 = .ok (.iastore, 1) := by decide +kernel
theorem dX8_add_41 : decode cX8_add 41 = .ok (.aload_n 0, 1) := by decide +kernel
theorem dX8_add_42 : decode cX8_add 42 = .ok (.dup, 1) := by decide +kernel
theorem dX8_add_43 : decode cX8_add 43 = .ok (.getfield 9, 3) := by decide +kernel
theorem dX8_add_46 : decode cX8_add 46 = .ok (.iconst 1, 1) := by decide +kernel
theorem dX8_add_47 : decode cX8_add 47 = .ok (.iadd, 1) := by decide +kernel
theorem dX8_add_48 : decode cX8_add 48 = .ok (.putfield 9, 3) := by decide +kernel
theorem dX8_add_51 : decode cX8_add 51 = .ok (.aload_n 0, 1) := by decide +kernel
theorem dX8_add_52 : decode cX8_add 52 = .ok (.getfield 9, 3) := by decide +kernel
theorem dX8_add_55 : decode cX8_add 55 = .ok (.iconst 1, 1) := by decide +kernel
theorem dX8_add_56 : decode cX8_add 56 = .ok (.isub, 1) := by decide +kernel
theorem dX8_add_57 : decode cX8_add 57 = .ok (.ireturn, 1) := by decide +kernel
theorem dX8_clearParts_0 : decode cX8_clearParts 0 = .ok (.iload_n 1, 1) := by decide +kernel
theorem dX8_clearParts_1 : decode cX8_clearParts 1 = .ok (.ifCond .lt 18, 3) := by decide +kernel
theorem dX8_clearParts_4 : decode cX8_clearParts 4 = .ok (.iload_n 1, 1) := by decide +kernel
theorem dX8_clearParts_5 : decode cX8_clearParts 5 = .ok (.aload_n 0, 1) := by decide +kernel
theorem dX8_clearParts_6 : decode cX8_clearParts 6 = .ok (.getfield 9, 3) := by decide +kernel
theorem dX8_clearParts_9 : decode cX8_clearParts 9 = .ok (.if_icmp .ge 10, 3) := by decide +kernel
theorem dX8_clearParts_12 : decode cX8_clearParts 12 = .ok (.aload_n 0, 1) := by decide +kernel
theorem dX8_clearParts_13 : decode cX8_clearParts 13 = .ok (.getfield 23, 3) := by decide +kernel
theorem dX8_clearParts_16 : decode cX8_clearParts 16 = .ok (.iload_n 1, 1) := by decide +kernel
theorem dX8_clearParts_17 : decode cX8_clearParts 17 = .ok (.iconst 0, 1) := by decide +kernel
theorem dX8_clearParts_18 : decode cX8_clearParts 18 = .ok (.iastore, 1) := by decide +kernel
theorem dX8_clearParts_19 : decode cX8_clearParts 19 = .ok (.return_, 1) := by decide +kernel
theorem dX8_addPart_0 : decode cX8_addPart 0 = .ok (.iload_n 1, 1) := by decide +kernel
theorem dX8_addPart_1 : decode cX8_addPart 1 = .ok (.ifCond .lt 49, 3) := by decide +kernel
theorem dX8_addPart_4 : decode cX8_addPart 4 = .ok (.iload_n 1, 1) := by decide +kernel
theorem dX8_addPart_5 : decode cX8_addPart 5 = .ok (.aload_n 0, 1) := by decide +kernel
theorem dX8_addPart_6 : decode cX8_addPart 6 = .ok (.getfield 9, 3) := by decide +kernel
theorem dX8_addPart_9 : decode cX8_addPart 9 = .ok (.if_icmp .ge 41, 3) := by decide +kernel
theorem dX8_addPart_12 : decode cX8_addPart 12 = .ok (.aload_n 0, 1) := by decide +kernel
theorem dX8_addPart_13 : decode cX8_addPart 13 = .ok (.getfield 23, 3) := by decide +kernel
theorem dX8_addPart_16 : decode cX8_addPart 16 = .ok (.iload_n 1, 1) := by decide +kernel
theorem dX8_addPart_17 : decode cX8_addPart 17 = .ok (.iaload, 1) := by decide +kernel
theorem dX8_addPart_18 : decode cX8_addPart 18 = .ok (.bipush 12, 2) := by decide +kernel
theorem dX8_addPart_20 : decode cX8_addPart 20 = .ok (.if_icmp .ge 30, 3) := by decide +kernel
theorem dX8_addPart_23 : decode cX8_addPart 23 = .ok (.aload_n 0, 1) := by decide +kernel
theorem dX8_addPart_24 : decode cX8_addPart 24 = .ok (.getfield 26, 3) := by decide +kernel
theorem dX8_addPart_27 : decode cX8_addPart 27 = .ok (.iload_n 1, 1) := by decide +kernel
theorem dX8_addPart_28 : decode cX8_addPart 28 = .ok (.bipush 12, 2) := by decide +kernel
theorem dX8_addPart_30 : decode cX8_addPart 30 = .ok (.imul, 1) := by decide +kernel
theorem dX8_addPart_31 : decode cX8_addPart 31 = .ok (.aload_n 0, 1) := by decide +kernel
theorem dX8_addPart_32 : decode cX8_addPart 32 = .ok (.getfield 23, 3) := by decide +kernel
theorem dX8_addPart_35 : decode cX8_addPart 35 = .ok (.iload_n 1, 1) := by decide +kernel
theorem dX8_addPart_36 : decode cX8_addPart 36 = .ok (.iaload, 1) := by decide +kernel
theorem dX8_addPart_37 : decode cX8_addPart 37 = .ok (.iadd, 1) := by decide +kernel
theorem dX8_addPart_38 : decode cX8_addPart 38 = .ok (.iload_n 2, 1) := by decide +kernel
theorem dX8_addPart_39 : decode cX8_addPart 39 = .ok (.iastore, 1) := by decide +kernel
theorem dX8_addPart_40 : decode cX8_addPart 40 = .ok (.aload_n 0, 1) := by decide +kernel
theorem dX8_addPart_41 : decode cX8_addPart 41 = .ok (.getfield 23, 3) := by decide +kernel
theorem dX8_addPart_44 : decode cX8_addPart 44 = .ok (.iload_n 1, 1) := by decide +kernel
theorem dX8_addPart_45 : decode cX8_addPart 45 = .ok (.dup2, 1) := by decide +kernel
theorem dX8_addPart_46 : decode cX8_addPart 46 = .ok (.iaload, 1) := by decide +kernel
theorem dX8_addPart_47 : decode cX8_addPart 47 = .ok (.iconst 1, 1) := by decide +kernel
theorem dX8_addPart_48 : decode cX8_addPart 48 = .ok (.iadd, 1) := by decide +kernel
theorem dX8_addPart_49 : decode cX8_addPart 49 = .ok (.iastore, 1) := by decide +kernel
theorem dX8_addPart_50 : decode cX8_addPart 50 = .ok (.return_, 1) := by decide +kernel
theorem dX8_partAt_0 : decode cX8_partAt 0 = .ok (.iload_n 1, 1) := by decide +kernel
theorem dX8_partAt_1 : decode cX8_partAt 1 = .ok (.ifCond .lt 25, 3) := by decide +kernel
theorem dX8_partAt_4 : decode cX8_partAt 4 = .ok (.iload_n 1, 1) := by decide +kernel
theorem dX8_partAt_5 : decode cX8_partAt 5 = .ok (.aload_n 0, 1) := by decide +kernel
theorem dX8_partAt_6 : decode cX8_partAt 6 = .ok (.getfield 9, 3) := by decide +kernel
theorem dX8_partAt_9 : decode cX8_partAt 9 = .ok (.if_icmp .ge 17, 3) := by decide +kernel
theorem dX8_partAt_12 : decode cX8_partAt 12 = .ok (.iload_n 2, 1) := by decide +kernel
theorem dX8_partAt_13 : decode cX8_partAt 13 = .ok (.ifCond .lt 13, 3) := by decide +kernel
theorem dX8_partAt_16 : decode cX8_partAt 16 = .ok (.iload_n 2, 1) := by decide +kernel
theorem dX8_partAt_17 : decode cX8_partAt 17 = .ok (.aload_n 0, 1) := by decide +kernel
theorem dX8_partAt_18 : decode cX8_partAt 18 = .ok (.getfield 23, 3) := by decide +kernel
theorem dX8_partAt_21 : decode cX8_partAt 21 = .ok (.iload_n 1, 1) := by decide +kernel
theorem dX8_partAt_22 : decode cX8_partAt 22 = .ok (.iaload, 1) := by decide +kernel
theorem dX8_partAt_23 : decode cX8_partAt 23 = .ok (.if_icmp .lt 5, 3) := by decide +kernel
theorem dX8_partAt_26 : decode cX8_partAt 26 = .ok (.iconst (-1), 1) := by decide +kernel
theorem dX8_partAt_27 : decode cX8_partAt 27 = .ok (.ireturn, 1) := by decide +kernel
theorem dX8_partAt_28 : decode cX8_partAt 28 = .ok (.aload_n 0, 1) := by decide +kernel
theorem dX8_partAt_29 : decode cX8_partAt 29 = .ok (.getfield 26, 3) := by decide +kernel
theorem dX8_partAt_32 : decode cX8_partAt 32 = .ok (.iload_n 1, 1) := by decide +kernel
theorem dX8_partAt_33 : decode cX8_partAt 33 = .ok (.bipush 12, 2) := by decide +kernel
theorem dX8_partAt_35 : decode cX8_partAt 35 = .ok (.imul, 1) := by decide +kernel
theorem dX8_partAt_36 : decode cX8_partAt 36 = .ok (.iload_n 2, 1) := by decide +kernel
theorem dX8_partAt_37 : decode cX8_partAt 37 = .ok (.iadd, 1) := by decide +kernel
theorem dX8_partAt_38 : decode cX8_partAt 38 = .ok (.iaload, 1) := by decide +kernel
theorem dX8_partAt_39 : decode cX8_partAt 39 = .ok (.ireturn, 1) := by decide +kernel
set_option maxRecDepth 20000 in
theorem ggX8_usesIn_X8_partAt : GoodIn wsX8_usesIn wsX8_partAt := goodIn_r _ [6, 7, 1, 8, 9, 10, 11, 12, 13] (by decide +kernel) (by decide +kernel)
set_option maxRecDepth 20000 in
theorem gX8_usesIn_X8_partAt : GoodIn wsX8_usesIn (wsV RX8 29 RX8 yX8_partAt wsX8_partAt) := goodIn_app (goodIn_of _ (by decide +kernel)) ggX8_usesIn_X8_partAt
theorem dX8_usesIn_0 : decode cX8_usesIn 0 = .ok (.iconst 0, 1) := by decide +kernel
theorem dX8_usesIn_1 : decode cX8_usesIn 1 = .ok (.istore_n 3, 1) := by decide +kernel
theorem dX8_usesIn_2 : decode cX8_usesIn 2 = .ok (.iconst 0, 1) := by decide +kernel
theorem dX8_usesIn_3 : decode cX8_usesIn 3 = .ok (.istore 4, 2) := by decide +kernel
theorem dX8_usesIn_5 : decode cX8_usesIn 5 = .ok (.iload 4, 2) := by decide +kernel
theorem dX8_usesIn_7 : decode cX8_usesIn 7 = .ok (.aload_n 0, 1) := by decide +kernel
theorem dX8_usesIn_8 : decode cX8_usesIn 8 = .ok (.getfield 23, 3) := by decide +kernel
theorem dX8_usesIn_11 : decode cX8_usesIn 11 = .ok (.iload_n 1, 1) := by decide +kernel
theorem dX8_usesIn_12 : decode cX8_usesIn 12 = .ok (.iaload, 1) := by decide +kernel
theorem dX8_usesIn_13 : decode cX8_usesIn 13 = .ok (.if_icmp .ge 23, 3) := by decide +kernel
theorem dX8_usesIn_16 : decode cX8_usesIn 16 = .ok (.aload_n 0, 1) := by decide +kernel
theorem dX8_usesIn_17 : decode cX8_usesIn 17 = .ok (.iload_n 1, 1) := by decide +kernel
theorem dX8_usesIn_18 : decode cX8_usesIn 18 = .ok (.iload 4, 2) := by decide +kernel
theorem dX8_usesIn_20 : decode cX8_usesIn 20 = .ok (.invokevirtual 29, 3) := by decide +kernel
theorem dX8_usesIn_23 : decode cX8_usesIn 23 = .ok (.iload_n 2, 1) := by decide +kernel
theorem dX8_usesIn_24 : decode cX8_usesIn 24 = .ok (.if_icmp .ne 6, 3) := by decide +kernel
theorem dX8_usesIn_27 : decode cX8_usesIn 27 = .ok (.iinc 3 1, 3) := by decide +kernel
theorem dX8_usesIn_30 : decode cX8_usesIn 30 = .ok (.iinc 4 1, 3) := by decide +kernel
theorem dX8_usesIn_33 : decode cX8_usesIn 33 = .ok (.goto (-28), 3) := by decide +kernel
theorem dX8_usesIn_36 : decode cX8_usesIn 36 = .ok (.iload_n 3, 1) := by decide +kernel
theorem dX8_usesIn_37 : decode cX8_usesIn 37 = .ok (.ireturn, 1) := by decide +kernel
theorem dX8_countOf_0 : decode cX8_countOf 0 = .ok (.iconst 0, 1) := by decide +kernel
theorem dX8_countOf_1 : decode cX8_countOf 1 = .ok (.istore_n 2, 1) := by decide +kernel
theorem dX8_countOf_2 : decode cX8_countOf 2 = .ok (.iconst 0, 1) := by decide +kernel
theorem dX8_countOf_3 : decode cX8_countOf 3 = .ok (.istore_n 3, 1) := by decide +kernel
theorem dX8_countOf_4 : decode cX8_countOf 4 = .ok (.iload_n 3, 1) := by decide +kernel
theorem dX8_countOf_5 : decode cX8_countOf 5 = .ok (.aload_n 0, 1) := by decide +kernel
theorem dX8_countOf_6 : decode cX8_countOf 6 = .ok (.getfield 9, 3) := by decide +kernel
theorem dX8_countOf_9 : decode cX8_countOf 9 = .ok (.if_icmp .ge 22, 3) := by decide +kernel
theorem dX8_countOf_12 : decode cX8_countOf 12 = .ok (.aload_n 0, 1) := by decide +kernel
theorem dX8_countOf_13 : decode cX8_countOf 13 = .ok (.getfield 19, 3) := by decide +kernel
theorem dX8_countOf_16 : decode cX8_countOf 16 = .ok (.iload_n 3, 1) := by decide +kernel
theorem dX8_countOf_17 : decode cX8_countOf 17 = .ok (.iaload, 1) := by decide +kernel
theorem dX8_countOf_18 : decode cX8_countOf 18 = .ok (.iload_n 1, 1) := by decide +kernel
theorem dX8_countOf_19 : decode cX8_countOf 19 = .ok (.if_icmp .ne 6, 3) := by decide +kernel
theorem dX8_countOf_22 : decode cX8_countOf 22 = .ok (.iinc 2 1, 3) := by decide +kernel
theorem dX8_countOf_25 : decode cX8_countOf 25 = .ok (.iinc 3 1, 3) := by decide +kernel
theorem dX8_countOf_28 : decode cX8_countOf 28 = .ok (.goto (-24), 3) := by decide +kernel
theorem dX8_countOf_31 : decode cX8_countOf 31 = .ok (.iload_n 2, 1) := by decide +kernel
theorem dX8_countOf_32 : decode cX8_countOf 32 = .ok (.ireturn, 1) := by decide +kernel
theorem dX8_closeGap_0 : decode cX8_closeGap 0 = .ok (.iconst 0, 1) := by decide +kernel
theorem dX8_closeGap_1 : decode cX8_closeGap 1 = .ok (.istore_n 2, 1) := by decide +kernel
theorem dX8_closeGap_2 : decode cX8_closeGap 2 = .ok (.iload_n 2, 1) := by decide +kernel
theorem dX8_closeGap_3 : decode cX8_closeGap 3 = .ok (.aload_n 0, 1) := by decide +kernel
theorem dX8_closeGap_4 : decode cX8_closeGap 4 = .ok (.getfield 9, 3) := by decide +kernel
theorem dX8_closeGap_7 : decode cX8_closeGap 7 = .ok (.bipush 12, 2) := by decide +kernel
theorem dX8_closeGap_9 : decode cX8_closeGap 9 = .ok (.imul, 1) := by decide +kernel
theorem dX8_closeGap_10 : decode cX8_closeGap 10 = .ok (.if_icmp .ge 29, 3) := by decide +kernel
theorem dX8_closeGap_13 : decode cX8_closeGap 13 = .ok (.aload_n 0, 1) := by decide +kernel
theorem dX8_closeGap_14 : decode cX8_closeGap 14 = .ok (.getfield 26, 3) := by decide +kernel
theorem dX8_closeGap_17 : decode cX8_closeGap 17 = .ok (.iload_n 2, 1) := by decide +kernel
theorem dX8_closeGap_18 : decode cX8_closeGap 18 = .ok (.iaload, 1) := by decide +kernel
theorem dX8_closeGap_19 : decode cX8_closeGap 19 = .ok (.iload_n 1, 1) := by decide +kernel
theorem dX8_closeGap_20 : decode cX8_closeGap 20 = .ok (.if_icmp .le 13, 3) := by decide +kernel
theorem dX8_closeGap_23 : decode cX8_closeGap 23 = .ok (.aload_n 0, 1) := by decide +kernel
theorem dX8_closeGap_24 : decode cX8_closeGap 24 = .ok (.getfield 26, 3) := by decide +kernel
theorem dX8_closeGap_27 : decode cX8_closeGap 27 = .ok (.iload_n 2, 1) := by decide +kernel
theorem dX8_closeGap_28 : decode cX8_closeGap 28 = .ok (.dup2, 1) := by decide +kernel
theorem dX8_closeGap_29 : decode cX8_closeGap 29 = .ok (.iaload, 1) := by decide +kernel
theorem dX8_closeGap_30 : decode cX8_closeGap 30 = .ok (.iconst 1, 1) := by decide +kernel
theorem dX8_closeGap_31 : decode cX8_closeGap 31 = .ok (.isub, 1) := by decide +kernel
theorem dX8_closeGap_32 : decode cX8_closeGap 32 = .ok (.iastore, 1) := by decide +kernel
theorem dX8_closeGap_33 : decode cX8_closeGap 33 = .ok (.iinc 2 1, 3) := by decide +kernel
theorem dX8_closeGap_36 : decode cX8_closeGap 36 = .ok (.goto (-34), 3) := by decide +kernel
theorem dX8_closeGap_39 : decode cX8_closeGap 39 = .ok (.return_, 1) := by decide +kernel
theorem dX8_drop_0 : decode cX8_drop 0 = .ok (.iload_n 1, 1) := by decide +kernel
theorem dX8_drop_1 : decode cX8_drop 1 = .ok (.ifCond .lt 11, 3) := by decide +kernel
theorem dX8_drop_4 : decode cX8_drop 4 = .ok (.iload_n 1, 1) := by decide +kernel
theorem dX8_drop_5 : decode cX8_drop 5 = .ok (.aload_n 0, 1) := by decide +kernel
theorem dX8_drop_6 : decode cX8_drop 6 = .ok (.getfield 9, 3) := by decide +kernel
theorem dX8_drop_9 : decode cX8_drop 9 = .ok (.if_icmp .lt 4, 3) := by decide +kernel
theorem dX8_drop_12 : decode cX8_drop 12 = .ok (.return_, 1) := by decide +kernel
theorem dX8_drop_13 : decode cX8_drop 13 = .ok (.aload_n 0, 1) := by decide +kernel
theorem dX8_drop_14 : decode cX8_drop 14 = .ok (.dup, 1) := by decide +kernel
theorem dX8_drop_15 : decode cX8_drop 15 = .ok (.getfield 9, 3) := by decide +kernel
theorem dX8_drop_18 : decode cX8_drop 18 = .ok (.iconst 1, 1) := by decide +kernel
theorem dX8_drop_19 : decode cX8_drop 19 = .ok (.isub, 1) := by decide +kernel
theorem dX8_drop_20 : decode cX8_drop 20 = .ok (.putfield 9, 3) := by decide +kernel
theorem dX8_drop_23 : decode cX8_drop 23 = .ok (.aload_n 0, 1) := by decide +kernel
theorem dX8_drop_24 : decode cX8_drop 24 = .ok (.getfield 9, 3) := by decide +kernel
theorem dX8_drop_27 : decode cX8_drop 27 = .ok (.iload_n 1, 1) := by decide +kernel
theorem dX8_drop_28 : decode cX8_drop 28 = .ok (.isub, 1) := by decide +kernel
theorem dX8_drop_29 : decode cX8_drop 29 = .ok (.istore_n 2, 1) := by decide +kernel
theorem dX8_drop_30 : decode cX8_drop 30 = .ok (.aload_n 0, 1) := by decide +kernel
theorem dX8_drop_31 : decode cX8_drop 31 = .ok (.getfield 15, 3) := by decide +kernel
theorem dX8_drop_34 : decode cX8_drop 34 = .ok (.iload_n 1, 1) := by decide +kernel
theorem dX8_drop_35 : decode cX8_drop 35 = .ok (.iconst 1, 1) := by decide +kernel
theorem dX8_drop_36 : decode cX8_drop 36 = .ok (.iadd, 1) := by decide +kernel
theorem dX8_drop_37 : decode cX8_drop 37 = .ok (.aload_n 0, 1) := by decide +kernel
theorem dX8_drop_38 : decode cX8_drop 38 = .ok (.getfield 15, 3) := by decide +kernel
theorem dX8_drop_41 : decode cX8_drop 41 = .ok (.iload_n 1, 1) := by decide +kernel
theorem dX8_drop_42 : decode cX8_drop 42 = .ok (.iload_n 2, 1) := by decide +kernel
theorem dX8_drop_43 : decode cX8_drop 43 = .ok (.invokestatic 33, 3) := by decide +kernel
theorem dX8_drop_46 : decode cX8_drop 46 = .ok (.aload_n 0, 1) := by decide +kernel
theorem dX8_drop_47 : decode cX8_drop 47 = .ok (.getfield 19, 3) := by decide +kernel
theorem dX8_drop_50 : decode cX8_drop 50 = .ok (.iload_n 1, 1) := by decide +kernel
theorem dX8_drop_51 : decode cX8_drop 51 = .ok (.iconst 1, 1) := by decide +kernel
theorem dX8_drop_52 : decode cX8_drop 52 = .ok (.iadd, 1) := by decide +kernel
theorem dX8_drop_53 : decode cX8_drop 53 = .ok (.aload_n 0, 1) := by decide +kernel
theorem dX8_drop_54 : decode cX8_drop 54 = .ok (.getfield 19, 3) := by decide +kernel
theorem dX8_drop_57 : decode cX8_drop 57 = .ok (.iload_n 1, 1) := by decide +kernel
theorem dX8_drop_58 : decode cX8_drop 58 = .ok (.iload_n 2, 1) := by decide +kernel
theorem dX8_drop_59 : decode cX8_drop 59 = .ok (.invokestatic 33, 3) := by decide +kernel
theorem dX8_drop_62 : decode cX8_drop 62 = .ok (.aload_n 0, 1) := by decide +kernel
theorem dX8_drop_63 : decode cX8_drop 63 = .ok (.getfield 23, 3) := by decide +kernel
theorem dX8_drop_66 : decode cX8_drop 66 = .ok (.iload_n 1, 1) := by decide +kernel
theorem dX8_drop_67 : decode cX8_drop 67 = .ok (.iconst 1, 1) := by decide +kernel
theorem dX8_drop_68 : decode cX8_drop 68 = .ok (.iadd, 1) := by decide +kernel
theorem dX8_drop_69 : decode cX8_drop 69 = .ok (.aload_n 0, 1) := by decide +kernel
theorem dX8_drop_70 : decode cX8_drop 70 = .ok (.getfield 23, 3) := by decide +kernel
theorem dX8_drop_73 : decode cX8_drop 73 = .ok (.iload_n 1, 1) := by decide +kernel
theorem dX8_drop_74 : decode cX8_drop 74 = .ok (.iload_n 2, 1) := by decide +kernel
theorem dX8_drop_75 : decode cX8_drop 75 = .ok (.invokestatic 33, 3) := by decide +kernel
theorem dX8_drop_78 : decode cX8_drop 78 = .ok (.aload_n 0, 1) := by decide +kernel
theorem dX8_drop_79 : decode cX8_drop 79 = .ok (.getfield 26, 3) := by decide +kernel
theorem dX8_drop_82 : decode cX8_drop 82 = .ok (.iload_n 1, 1) := by decide +kernel
theorem dX8_drop_83 : decode cX8_drop 83 = .ok (.iconst 1, 1) := by decide +kernel
theorem dX8_drop_84 : decode cX8_drop 84 = .ok (.iadd, 1) := by decide +kernel
theorem dX8_drop_85 : decode cX8_drop 85 = .ok (.bipush 12, 2) := by decide +kernel
theorem dX8_drop_87 : decode cX8_drop 87 = .ok (.imul, 1) := by decide +kernel
theorem dX8_drop_88 : decode cX8_drop 88 = .ok (.aload_n 0, 1) := by decide +kernel
theorem dX8_drop_89 : decode cX8_drop 89 = .ok (.getfield 26, 3) := by decide +kernel
theorem dX8_drop_92 : decode cX8_drop 92 = .ok (.iload_n 1, 1) := by decide +kernel
theorem dX8_drop_93 : decode cX8_drop 93 = .ok (.bipush 12, 2) := by decide +kernel
theorem dX8_drop_95 : decode cX8_drop 95 = .ok (.imul, 1) := by decide +kernel
theorem dX8_drop_96 : decode cX8_drop 96 = .ok (.iload_n 2, 1) := by decide +kernel
theorem dX8_drop_97 : decode cX8_drop 97 = .ok (.bipush 12, 2) := by decide +kernel
theorem dX8_drop_99 : decode cX8_drop 99 = .ok (.imul, 1) := by decide +kernel
theorem dX8_drop_100 : decode cX8_drop 100 = .ok (.invokestatic 33, 3) := by decide +kernel
theorem dX8_drop_103 : decode cX8_drop 103 = .ok (.return_, 1) := by decide +kernel
theorem dX8_copyFrom_0 : decode cX8_copyFrom 0 = .ok (.aload_n 0, 1) := by decide +kernel
theorem dX8_copyFrom_1 : decode cX8_copyFrom 1 = .ok (.aload_n 1, 1) := by decide +kernel
theorem dX8_copyFrom_2 : decode cX8_copyFrom 2 = .ok (.getfield 9, 3) := by decide +kernel
theorem dX8_copyFrom_5 : decode cX8_copyFrom 5 = .ok (.putfield 9, 3) := by decide +kernel
theorem dX8_copyFrom_8 : decode cX8_copyFrom 8 = .ok (.aload_n 1, 1) := by decide +kernel
theorem dX8_copyFrom_9 : decode cX8_copyFrom 9 = .ok (.getfield 15, 3) := by decide +kernel
theorem dX8_copyFrom_12 : decode cX8_copyFrom 12 = .ok (.iconst 0, 1) := by decide +kernel
theorem dX8_copyFrom_13 : decode cX8_copyFrom 13 = .ok (.aload_n 0, 1) := by decide +kernel
theorem dX8_copyFrom_14 : decode cX8_copyFrom 14 = .ok (.getfield 15, 3) := by decide +kernel
theorem dX8_copyFrom_17 : decode cX8_copyFrom 17 = .ok (.iconst 0, 1) := by decide +kernel
theorem dX8_copyFrom_18 : decode cX8_copyFrom 18 = .ok (.aload_n 0, 1) := by decide +kernel
theorem dX8_copyFrom_19 : decode cX8_copyFrom 19 = .ok (.getfield 9, 3) := by decide +kernel
theorem dX8_copyFrom_22 : decode cX8_copyFrom 22 = .ok (.invokestatic 33, 3) := by decide +kernel
theorem dX8_copyFrom_25 : decode cX8_copyFrom 25 = .ok (.aload_n 1, 1) := by decide +kernel
theorem dX8_copyFrom_26 : decode cX8_copyFrom 26 = .ok (.getfield 19, 3) := by decide +kernel
theorem dX8_copyFrom_29 : decode cX8_copyFrom 29 = .ok (.iconst 0, 1) := by decide +kernel
theorem dX8_copyFrom_30 : decode cX8_copyFrom 30 = .ok (.aload_n 0, 1) := by decide +kernel
theorem dX8_copyFrom_31 : decode cX8_copyFrom 31 = .ok (.getfield 19, 3) := by decide +kernel
theorem dX8_copyFrom_34 : decode cX8_copyFrom 34 = .ok (.iconst 0, 1) := by decide +kernel
theorem dX8_copyFrom_35 : decode cX8_copyFrom 35 = .ok (.aload_n 0, 1) := by decide +kernel
theorem dX8_copyFrom_36 : decode cX8_copyFrom 36 = .ok (.getfield 9, 3) := by decide +kernel
theorem dX8_copyFrom_39 : decode cX8_copyFrom 39 = .ok (.invokestatic 33, 3) := by decide +kernel
theorem dX8_copyFrom_42 : decode cX8_copyFrom 42 = .ok (.aload_n 1, 1) := by decide +kernel
theorem dX8_copyFrom_43 : decode cX8_copyFrom 43 = .ok (.getfield 23, 3) := by decide +kernel
theorem dX8_copyFrom_46 : decode cX8_copyFrom 46 = .ok (.iconst 0, 1) := by decide +kernel
theorem dX8_copyFrom_47 : decode cX8_copyFrom 47 = .ok (.aload_n 0, 1) := by decide +kernel
theorem dX8_copyFrom_48 : decode cX8_copyFrom 48 = .ok (.getfield 23, 3) := by decide +kernel
theorem dX8_copyFrom_51 : decode cX8_copyFrom 51 = .ok (.iconst 0, 1) := by decide +kernel
theorem dX8_copyFrom_52 : decode cX8_copyFrom 52 = .ok (.aload_n 0, 1) := by decide +kernel
theorem dX8_copyFrom_53 : decode cX8_copyFrom 53 = .ok (.getfield 9, 3) := by decide +kernel
theorem dX8_copyFrom_56 : decode cX8_copyFrom 56 = .ok (.invokestatic 33, 3) := by decide +kernel
theorem dX8_copyFrom_59 : decode cX8_copyFrom 59 = .ok (.aload_n 1, 1) := by decide +kernel
theorem dX8_copyFrom_60 : decode cX8_copyFrom 60 = .ok (.getfield 26, 3) := by decide +kernel
theorem dX8_copyFrom_63 : decode cX8_copyFrom 63 = .ok (.iconst 0, 1) := by decide +kernel
theorem dX8_copyFrom_64 : decode cX8_copyFrom 64 = .ok (.aload_n 0, 1) := by decide +kernel
theorem dX8_copyFrom_65 : decode cX8_copyFrom 65 = .ok (.getfield 26, 3) := by decide +kernel
theorem dX8_copyFrom_68 : decode cX8_copyFrom 68 = .ok (.iconst 0, 1) := by decide +kernel
theorem dX8_copyFrom_69 : decode cX8_copyFrom 69 = .ok (.aload_n 0, 1) := by decide +kernel
theorem dX8_copyFrom_70 : decode cX8_copyFrom 70 = .ok (.getfield 9, 3) := by decide +kernel
theorem dX8_copyFrom_73 : decode cX8_copyFrom 73 = .ok (.bipush 12, 2) := by decide +kernel
theorem dX8_copyFrom_75 : decode cX8_copyFrom 75 = .ok (.imul, 1) := by decide +kernel
theorem dX8_copyFrom_76 : decode cX8_copyFrom 76 = .ok (.invokestatic 33, 3) := by decide +kernel
theorem dX8_copyFrom_79 : decode cX8_copyFrom 79 = .ok (.return_, 1) := by decide +kernel
