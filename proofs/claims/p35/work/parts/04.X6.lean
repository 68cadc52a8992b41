theorem dX6_init_0 : decode cX6_init 0 = .ok (.aload_n 0, 1) := by decide +kernel
theorem dX6_init_1 : decode cX6_init 1 = .ok (.invokespecial 3, 3) := by decide +kernel
theorem dX6_init_4 : decode cX6_init 4 = .ok (.aload_n 0, 1) := by decide +kernel
theorem dX6_init_5 : decode cX6_init 5 = .ok (.iconst 0, 1) := by decide +kernel
theorem dX6_init_6 : decode cX6_init 6 = .ok (.putfield 9, 3) := by decide +kernel
theorem dX6_init_9 : decode cX6_init 9 = .ok (.aload_n 0, 1) := by decide +kernel
theorem dX6_init_10 : decode cX6_init 10 = .ok (.bipush 24, 2) := by decide +kernel
theorem dX6_init_12 : decode cX6_init 12 = .ok (.newarray .long, 2) := by decide +kernel
theorem dX6_init_14 : decode cX6_init 14 = .ok (.putfield 15, 3) := by decide +kernel
theorem dX6_init_17 : decode cX6_init 17 = .ok (.aload_n 0, 1) := by decide +kernel
theorem dX6_init_18 : decode cX6_init 18 = .ok (.bipush 24, 2) := by decide +kernel
theorem dX6_init_20 : decode cX6_init 20 = .ok (.newarray .int, 2) := by decide +kernel
theorem dX6_init_22 : decode cX6_init 22 = .ok (.putfield 19, 3) := by decide +kernel
theorem dX6_init_25 : decode cX6_init 25 = .ok (.aload_n 0, 1) := by decide +kernel
theorem dX6_init_26 : decode cX6_init 26 = .ok (.bipush 24, 2) := by decide +kernel
theorem dX6_init_28 : decode cX6_init 28 = .ok (.newarray .int, 2) := by decide +kernel
theorem dX6_init_30 : decode cX6_init 30 = .ok (.putfield 23, 3) := by decide +kernel
theorem dX6_init_33 : decode cX6_init 33 = .ok (.aload_n 0, 1) := by decide +kernel
theorem dX6_init_34 : decode cX6_init 34 = .ok (.bipush 24, 2) := by decide +kernel
theorem dX6_init_36 : decode cX6_init 36 = .ok (.newarray .int, 2) := by decide +kernel
theorem dX6_init_38 : decode cX6_init 38 = .ok (.putfield 26, 3) := by decide +kernel
theorem dX6_init_41 : decode cX6_init 41 = .ok (.aload_n 0, 1) := by decide +kernel
theorem dX6_init_42 : decode cX6_init 42 = .ok (.bipush 24, 2) := by decide +kernel
theorem dX6_init_44 : decode cX6_init 44 = .ok (.newarray .int, 2) := by decide +kernel
theorem dX6_init_46 : decode cX6_init 46 = .ok (.putfield 29, 3) := by decide +kernel
theorem dX6_init_49 : decode cX6_init 49 = .ok (.return_, 1) := by decide +kernel
theorem dX6_numberOf_0 : decode cX6_numberOf 0 = .ok (.iconst 0, 1) := by decide +kernel
theorem dX6_numberOf_1 : decode cX6_numberOf 1 = .ok (.istore_n 3, 1) := by decide +kernel
theorem dX6_numberOf_2 : decode cX6_numberOf 2 = .ok (.iload_n 3, 1) := by decide +kernel
theorem dX6_numberOf_3 : decode cX6_numberOf 3 = .ok (.aload_n 0, 1) := by decide +kernel
theorem dX6_numberOf_4 : decode cX6_numberOf 4 = .ok (.getfield 9, 3) := by decide +kernel
theorem dX6_numberOf_7 : decode cX6_numberOf 7 = .ok (.if_icmp .ge 22, 3) := by decide +kernel
theorem dX6_numberOf_10 : decode cX6_numberOf 10 = .ok (.aload_n 0, 1) := by decide +kernel
theorem dX6_numberOf_11 : decode cX6_numberOf 11 = .ok (.getfield 15, 3) := by decide +kernel
theorem dX6_numberOf_14 : decode cX6_numberOf 14 = .ok (.iload_n 3, 1) := by decide +kernel
theorem dX6_numberOf_15 : decode cX6_numberOf 15 = .ok (.laload, 1) := by decide +kernel
theorem dX6_numberOf_16 : decode cX6_numberOf 16 = .ok (.lload_n 1, 1) := by decide +kernel
theorem dX6_numberOf_17 : decode cX6_numberOf 17 = .ok (.lcmp, 1) := by decide +kernel
theorem dX6_numberOf_18 : decode cX6_numberOf 18 = .ok (.ifCond .ne 5, 3) := by decide +kernel
theorem dX6_numberOf_21 : decode cX6_numberOf 21 = .ok (.iload_n 3, 1) := by decide +kernel
theorem dX6_numberOf_22 : decode cX6_numberOf 22 = .ok (.ireturn, 1) := by decide +kernel
theorem dX6_numberOf_23 : decode cX6_numberOf 23 = .ok (.iinc 3 1, 3) := by decide +kernel
theorem dX6_numberOf_26 : decode cX6_numberOf 26 = .ok (.goto (-24), 3) := by decide +kernel
theorem dX6_numberOf_29 : decode cX6_numberOf 29 = .ok (.iconst (-1), 1) := by decide +kernel
theorem dX6_numberOf_30 : decode cX6_numberOf 30 = .ok (.ireturn, 1) := by decide +kernel
theorem dX6_isFull_0 : decode cX6_isFull 0 = .ok (.aload_n 0, 1) := by decide +kernel
theorem dX6_isFull_1 : decode cX6_isFull 1 = .ok (.getfield 9, 3) := by decide +kernel
theorem dX6_isFull_4 : decode cX6_isFull 4 = .ok (.bipush 24, 2) := by decide +kernel
theorem dX6_isFull_6 : decode cX6_isFull 6 = .ok (.if_icmp .lt 7, 3) := by decide +kernel
theorem dX6_isFull_9 : decode cX6_isFull 9 = .ok (.iconst 1, 1) := by decide +kernel
theorem dX6_isFull_10 : decode cX6_isFull 10 = .ok (.goto 4, 3) := by decide +kernel
theorem dX6_isFull_13 : decode cX6_isFull 13 = .ok (.iconst 0, 1) := by decide +kernel
theorem dX6_isFull_14 : decode cX6_isFull 14 = .ok (.ireturn, 1) := by decide +kernel
theorem dX6_add_0 : decode cX6_add 0 = .ok (.aload_n 0, 1) := by decide +kernel
theorem dX6_add_1 : decode cX6_add 1 = .ok (.getfield 9, 3) := by decide +kernel
theorem dX6_add_4 : decode cX6_add 4 = .ok (.bipush 24, 2) := by decide +kernel
theorem dX6_add_6 : decode cX6_add 6 = .ok (.if_icmp .lt 5, 3) := by decide +kernel
theorem dX6_add_9 : decode cX6_add 9 = .ok (.iconst (-1), 1) := by decide +kernel
theorem dX6_add_10 : decode cX6_add 10 = .ok (.ireturn, 1) := by decide +kernel
theorem dX6_add_11 : decode cX6_add 11 = .ok (.aload_n 0, 1) := by decide +kernel
theorem dX6_add_12 : decode cX6_add 12 = .ok (.getfield 15, 3) := by decide +kernel
theorem dX6_add_15 : decode cX6_add 15 = .ok (.aload_n 0, 1) := by decide +kernel
theorem dX6_add_16 : decode cX6_add 16 = .ok (.getfield 9, 3) := by decide +kernel
theorem dX6_add_19 : decode cX6_add 19 = .ok (.lload_n 1, 1) := by decide +kernel
theorem dX6_add_20 : decode cX6_add 20 = .ok (.lastore, 1) := by decide +kernel
theorem dX6_add_21 : decode cX6_add 21 = .ok (.aload_n 0, 1) := by decide +kernel
theorem dX6_add_22 : decode cX6_add 22 = .ok (.getfield 19, 3) := by decide +kernel
theorem dX6_add_25 : decode cX6_add 25 = .ok (.aload_n 0, 1) := by decide +kernel
theorem dX6_add_26 : decode cX6_add 26 = .ok (.getfield 9, 3) := by decide +kernel
theorem dX6_add_29 : decode cX6_add 29 = .ok (.iload_n 3, 1) := by decide +kernel
theorem dX6_add_30 : decode cX6_add 30 = .ok (.iastore, 1) := by decide +kernel
theorem dX6_add_31 : decode cX6_add 31 = .ok (.aload_n 0, 1) := by decide +kernel
theorem dX6_add_32 : decode cX6_add 32 = .ok (.getfield 23, 3) := by decide +kernel
theorem dX6_add_35 : decode cX6_add 35 = .ok (.aload_n 0, 1) := by decide +kernel
theorem dX6_add_36 : decode cX6_add 36 = .ok (.getfield 9, 3) := by decide +kernel
theorem dX6_add_39 : decode cX6_add 39 = .ok (.iload 4, 2) := by decide +kernel
theorem dX6_add_41 : decode cX6_add 41 = .ok (.iastore, 1) := by decide +kernel
theorem dX6_add_42 : decode cX6_add 42 = .ok (.aload_n 0, 1) := by decide +kernel
theorem dX6_add_43 : decode cX6_add 43 = .ok (.getfield 26, 3) := by decide +kernel
theorem dX6_add_46 : decode cX6_add 46 = .ok (.aload_n 0, 1) := by decide +kernel
theorem dX6_add_47 : decode cX6_add 47 = .ok (.getfield 9, 3) := by decide +kernel
theorem dX6_add_50 : decode cX6_add 50 = .ok (.iconst 0, 1) := by decide +kernel
theorem dX6_add_51 : decode cX6_add 51 = .ok (.iastore, 1) := by decide +kernel
theorem dX6_add_52 : decode cX6_add 52 = .ok (.aload_n 0, 1) := by decide +kernel
theorem dX6_add_53 : decode cX6_add 53 = .ok (.getfield 29, 3) := by decide +kernel
theorem dX6_add_56 : decode cX6_add 56 = .ok (.aload_n 0, 1) := by decide +kernel
theorem dX6_add_57 : decode cX6_add 57 = .ok (.getfield 9, 3) := by decide +kernel
theorem dX6_add_60 : decode cX6_add 60 = .ok (.iload 5, 2) := by decide +kernel
theorem dX6_add_62 : decode cX6_add 62 = .ok (.iastore, 1) := by decide +kernel
theorem dX6_add_63 : decode cX6_add 63 = .ok (.aload_n 0, 1) := by decide +kernel
theorem dX6_add_64 : decode cX6_add 64 = .ok (.dup, 1) := by decide +kernel
theorem dX6_add_65 : decode cX6_add 65 = .ok (.getfield 9, 3) := by decide +kernel
theorem dX6_add_68 : decode cX6_add 68 = .ok (.iconst 1, 1) := by decide +kernel
theorem dX6_add_69 : decode cX6_add 69 = .ok (.iadd, 1) := by decide +kernel
theorem dX6_add_70 : decode cX6_add 70 = .ok (.putfield 9, 3) := by decide +kernel
theorem dX6_add_73 : decode cX6_add 73 = .ok (.aload_n 0, 1) := by decide +kernel
theorem dX6_add_74 : decode cX6_add 74 = .ok (.getfield 9, 3) := by decide +kernel
theorem dX6_add_77 : decode cX6_add 77 = .ok (.iconst 1, 1) := by decide +kernel
theorem dX6_add_78 : decode cX6_add 78 = .ok (.isub, 1) := by decide +kernel
theorem dX6_add_79 : decode cX6_add 79 = .ok (.ireturn, 1) := by decide +kernel
theorem dX6_beginUse_0 : decode cX6_beginUse 0 = .ok (.iload_n 1, 1) := by decide +kernel
theorem dX6_beginUse_1 : decode cX6_beginUse 1 = .ok (.ifCond .lt 21, 3) := by decide +kernel
theorem dX6_beginUse_4 : decode cX6_beginUse 4 = .ok (.iload_n 1, 1) := by decide +kernel
theorem dX6_beginUse_5 : decode cX6_beginUse 5 = .ok (.aload_n 0, 1) := by decide +kernel
theorem dX6_beginUse_6 : decode cX6_beginUse 6 = .ok (.getfield 9, 3) := by decide +kernel
theorem dX6_beginUse_9 : decode cX6_beginUse 9 = .ok (.if_icmp .ge 13, 3) := by decide +kernel
theorem dX6_beginUse_12 : decode cX6_beginUse 12 = .ok (.aload_n 0, 1) := by decide +kernel
theorem dX6_beginUse_13 : decode cX6_beginUse 13 = .ok (.getfield 26, 3) := by decide +kernel
theorem dX6_beginUse_16 : decode cX6_beginUse 16 = .ok (.iload_n 1, 1) := by decide +kernel
theorem dX6_beginUse_17 : decode cX6_beginUse 17 = .ok (.dup2, 1) := by decide +kernel
theorem dX6_beginUse_18 : decode cX6_beginUse 18 = .ok (.iaload, 1) := by decide +kernel
theorem dX6_beginUse_19 : decode cX6_beginUse 19 = .ok (.iconst 1, 1) := by decide +kernel
theorem dX6_beginUse_20 : decode cX6_beginUse 20 = .ok (.iadd, 1) := by decide +kernel
theorem dX6_beginUse_21 : decode cX6_beginUse 21 = .ok (.iastore, 1) := by decide +kernel
theorem dX6_beginUse_22 : decode cX6_beginUse 22 = .ok (.return_, 1) := by decide +kernel
theorem dX6_endUse_0 : decode cX6_endUse 0 = .ok (.iload_n 1, 1) := by decide +kernel
theorem dX6_endUse_1 : decode cX6_endUse 1 = .ok (.ifCond .lt 37, 3) := by decide +kernel
theorem dX6_endUse_4 : decode cX6_endUse 4 = .ok (.iload_n 1, 1) := by decide +kernel
theorem dX6_endUse_5 : decode cX6_endUse 5 = .ok (.aload_n 0, 1) := by decide +kernel
theorem dX6_endUse_6 : decode cX6_endUse 6 = .ok (.getfield 9, 3) := by decide +kernel
theorem dX6_endUse_9 : decode cX6_endUse 9 = .ok (.if_icmp .ge 29, 3) := by decide +kernel
theorem dX6_endUse_12 : decode cX6_endUse 12 = .ok (.aload_n 0, 1) := by decide +kernel
theorem dX6_endUse_13 : decode cX6_endUse 13 = .ok (.getfield 26, 3) := by decide +kernel
theorem dX6_endUse_16 : decode cX6_endUse 16 = .ok (.iload_n 1, 1) := by decide +kernel
theorem dX6_endUse_17 : decode cX6_endUse 17 = .ok (.dup2, 1) := by decide +kernel
theorem dX6_endUse_18 : decode cX6_endUse 18 = .ok (.iaload, 1) := by decide +kernel
theorem dX6_endUse_19 : decode cX6_endUse 19 = .ok (.iconst 1, 1) := by decide +kernel
theorem dX6_endUse_20 : decode cX6_endUse 20 = .ok (.isub, 1) := by decide +kernel
theorem dX6_endUse_21 : decode cX6_endUse 21 = .ok (.iastore, 1) := by decide +kernel
theorem dX6_endUse_22 : decode cX6_endUse 22 = .ok (.aload_n 0, 1) := by decide +kernel
theorem dX6_endUse_23 : decode cX6_endUse 23 = .ok (.getfield 26, 3) := by decide +kernel
theorem dX6_endUse_26 : decode cX6_endUse 26 = .ok (.iload_n 1, 1) := by decide +kernel
theorem dX6_endUse_27 : decode cX6_endUse 27 = .ok (.iaload, 1) := by decide +kernel
theorem dX6_endUse_28 : decode cX6_endUse 28 = .ok (.ifCond .ne 10, 3) := by decide +kernel
theorem dX6_endUse_31 : decode cX6_endUse 31 = .ok (.aload_n 0, 1) := by decide +kernel
theorem dX6_endUse_32 : decode cX6_endUse 32 = .ok (.getfield 29, 3) := by decide +kernel
theorem dX6_endUse_35 : decode cX6_endUse 35 = .ok (.iload_n 1, 1) := by decide +kernel
theorem dX6_endUse_36 : decode cX6_endUse 36 = .ok (.iload_n 2, 1) := by decide +kernel
theorem dX6_endUse_37 : decode cX6_endUse 37 = .ok (.iastore, 1) := by decide +kernel
theorem dX6_endUse_38 : decode cX6_endUse 38 = .ok (.return_, 1) := by decide +kernel
theorem dX6_goesBack_0 : decode cX6_goesBack 0 = .ok (.aload_n 0, 1) := by decide +kernel
theorem dX6_goesBack_1 : decode cX6_goesBack 1 = .ok (.getfield 23, 3) := by decide +kernel
theorem dX6_goesBack_4 : decode cX6_goesBack 4 = .ok (.iload_n 1, 1) := by decide +kernel
theorem dX6_goesBack_5 : decode cX6_goesBack 5 = .ok (.iaload, 1) := by decide +kernel
theorem dX6_goesBack_6 : decode cX6_goesBack 6 = .ok (.iconst (-1), 1) := by decide +kernel
theorem dX6_goesBack_7 : decode cX6_goesBack 7 = .ok (.if_icmp .eq 28, 3) := by decide +kernel
theorem dX6_goesBack_10 : decode cX6_goesBack 10 = .ok (.aload_n 0, 1) := by decide +kernel
theorem dX6_goesBack_11 : decode cX6_goesBack 11 = .ok (.getfield 26, 3) := by decide +kernel
theorem dX6_goesBack_14 : decode cX6_goesBack 14 = .ok (.iload_n 1, 1) := by decide +kernel
theorem dX6_goesBack_15 : decode cX6_goesBack 15 = .ok (.iaload, 1) := by decide +kernel
theorem dX6_goesBack_16 : decode cX6_goesBack 16 = .ok (.ifCond .ne 19, 3) := by decide +kernel
theorem dX6_goesBack_19 : decode cX6_goesBack 19 = .ok (.iload_n 2, 1) := by decide +kernel
theorem dX6_goesBack_20 : decode cX6_goesBack 20 = .ok (.aload_n 0, 1) := by decide +kernel
theorem dX6_goesBack_21 : decode cX6_goesBack 21 = .ok (.getfield 29, 3) := by decide +kernel
theorem dX6_goesBack_24 : decode cX6_goesBack 24 = .ok (.iload_n 1, 1) := by decide +kernel
theorem dX6_goesBack_25 : decode cX6_goesBack 25 = .ok (.iaload, 1) := by decide +kernel
theorem dX6_goesBack_26 : decode cX6_goesBack 26 = .ok (.isub, 1) := by decide +kernel
theorem dX6_goesBack_27 : decode cX6_goesBack 27 = .ok (.iload_n 3, 1) := by decide +kernel
theorem dX6_goesBack_28 : decode cX6_goesBack 28 = .ok (.if_icmp .le 7, 3) := by decide +kernel
theorem dX6_goesBack_31 : decode cX6_goesBack 31 = .ok (.iconst 1, 1) := by decide +kernel
theorem dX6_goesBack_32 : decode cX6_goesBack 32 = .ok (.goto 4, 3) := by decide +kernel
theorem dX6_goesBack_35 : decode cX6_goesBack 35 = .ok (.iconst 0, 1) := by decide +kernel
theorem dX6_goesBack_36 : decode cX6_goesBack 36 = .ok (.ireturn, 1) := by decide +kernel
theorem dX6_drop_0 : decode cX6_drop 0 = .ok (.iload_n 1, 1) := by decide +kernel
theorem dX6_drop_1 : decode cX6_drop 1 = .ok (.ifCond .lt 11, 3) := by decide +kernel
theorem dX6_drop_4 : decode cX6_drop 4 = .ok (.iload_n 1, 1) := by decide +kernel
theorem dX6_drop_5 : decode cX6_drop 5 = .ok (.aload_n 0, 1) := by decide +kernel
theorem dX6_drop_6 : decode cX6_drop 6 = .ok (.getfield 9, 3) := by decide +kernel
theorem dX6_drop_9 : decode cX6_drop 9 = .ok (.if_icmp .lt 4, 3) := by decide +kernel
theorem dX6_drop_12 : decode cX6_drop 12 = .ok (.return_, 1) := by decide +kernel
theorem dX6_drop_13 : decode cX6_drop 13 = .ok (.aload_n 0, 1) := by decide +kernel
theorem dX6_drop_14 : decode cX6_drop 14 = .ok (.dup, 1) := by decide +kernel
theorem dX6_drop_15 : decode cX6_drop 15 = .ok (.getfield 9, 3) := by decide +kernel
theorem dX6_drop_18 : decode cX6_drop 18 = .ok (.iconst 1, 1) := by decide +kernel
theorem dX6_drop_19 : decode cX6_drop 19 = .ok (.isub, 1) := by decide +kernel
theorem dX6_drop_20 : decode cX6_drop 20 = .ok (.putfield 9, 3) := by decide +kernel
theorem dX6_drop_23 : decode cX6_drop 23 = .ok (.aload_n 0, 1) := by decide +kernel
theorem dX6_drop_24 : decode cX6_drop 24 = .ok (.getfield 9, 3) := by decide +kernel
theorem dX6_drop_27 : decode cX6_drop 27 = .ok (.iload_n 1, 1) := by decide +kernel
theorem dX6_drop_28 : decode cX6_drop 28 = .ok (.isub, 1) := by decide +kernel
theorem dX6_drop_29 : decode cX6_drop 29 = .ok (.istore_n 2, 1) := by decide +kernel
theorem dX6_drop_30 : decode cX6_drop 30 = .ok (.aload_n 0, 1) := by decide +kernel
theorem dX6_drop_31 : decode cX6_drop 31 = .ok (.getfield 15, 3) := by decide +kernel
theorem dX6_drop_34 : decode cX6_drop 34 = .ok (.iload_n 1, 1) := by decide +kernel
theorem dX6_drop_35 : decode cX6_drop 35 = .ok (.iconst 1, 1) := by decide +kernel
theorem dX6_drop_36 : decode cX6_drop 36 = .ok (.iadd, 1) := by decide +kernel
theorem dX6_drop_37 : decode cX6_drop 37 = .ok (.aload_n 0, 1) := by decide +kernel
theorem dX6_drop_38 : decode cX6_drop 38 = .ok (.getfield 15, 3) := by decide +kernel
theorem dX6_drop_41 : decode cX6_drop 41 = .ok (.iload_n 1, 1) := by decide +kernel
theorem dX6_drop_42 : decode cX6_drop 42 = .ok (.iload_n 2, 1) := by decide +kernel
theorem dX6_drop_43 : decode cX6_drop 43 = .ok (.invokestatic 32, 3) := by decide +kernel
theorem dX6_drop_46 : decode cX6_drop 46 = .ok (.aload_n 0, 1) := by decide +kernel
theorem dX6_drop_47 : decode cX6_drop 47 = .ok (.getfield 19, 3) := by decide +kernel
theorem dX6_drop_50 : decode cX6_drop 50 = .ok (.iload_n 1, 1) := by decide +kernel
theorem dX6_drop_51 : decode cX6_drop 51 = .ok (.iconst 1, 1) := by decide +kernel
theorem dX6_drop_52 : decode cX6_drop 52 = .ok (.iadd, 1) := by decide +kernel
theorem dX6_drop_53 : decode cX6_drop 53 = .ok (.aload_n 0, 1) := by decide +kernel
theorem dX6_drop_54 : decode cX6_drop 54 = .ok (.getfield 19, 3) := by decide +kernel
theorem dX6_drop_57 : decode cX6_drop 57 = .ok (.iload_n 1, 1) := by decide +kernel
theorem dX6_drop_58 : decode cX6_drop 58 = .ok (.iload_n 2, 1) := by decide +kernel
theorem dX6_drop_59 : decode cX6_drop 59 = .ok (.invokestatic 32, 3) := by decide +kernel
theorem dX6_drop_62 : decode cX6_drop 62 = .ok (.aload_n 0, 1) := by decide +kernel
theorem dX6_drop_63 : decode cX6_drop 63 = .ok (.getfield 23, 3) := by decide +kernel
theorem dX6_drop_66 : decode cX6_drop 66 = .ok (.iload_n 1, 1) := by decide +kernel
theorem dX6_drop_67 : decode cX6_drop 67 = .ok (.iconst 1, 1) := by decide +kernel
theorem dX6_drop_68 : decode cX6_drop 68 = .ok (.iadd, 1) := by decide +kernel
theorem dX6_drop_69 : decode cX6_drop 69 = .ok (.aload_n 0, 1) := by decide +kernel
theorem dX6_drop_70 : decode cX6_drop 70 = .ok (.getfield 23, 3) := by decide +kernel
theorem dX6_drop_73 : decode cX6_drop 73 = .ok (.iload_n 1, 1) := by decide +kernel
theorem dX6_drop_74 : decode cX6_drop 74 = .ok (.iload_n 2, 1) := by decide +kernel
theorem dX6_drop_75 : decode cX6_drop 75 = .ok (.invokestatic 32, 3) := by decide +kernel
theorem dX6_drop_78 : decode cX6_drop 78 = .ok (.aload_n 0, 1) := by decide +kernel
theorem dX6_drop_79 : decode cX6_drop 79 = .ok (.getfield 26, 3) := by decide +kernel
theorem dX6_drop_82 : decode cX6_drop 82 = .ok (.iload_n 1, 1) := by decide +kernel
theorem dX6_drop_83 : decode cX6_drop 83 = .ok (.iconst 1, 1) := by decide +kernel
theorem dX6_drop_84 : decode cX6_drop 84 = .ok (.iadd, 1) := by decide +kernel
theorem dX6_drop_85 : decode cX6_drop 85 = .ok (.aload_n 0, 1) := by decide +kernel
theorem dX6_drop_86 : decode cX6_drop 86 = .ok (.getfield 26, 3) := by decide +kernel
theorem dX6_drop_89 : decode cX6_drop 89 = .ok (.iload_n 1, 1) := by decide +kernel
theorem dX6_drop_90 : decode cX6_drop 90 = .ok (.iload_n 2, 1) := by decide +kernel
theorem dX6_drop_91 : decode cX6_drop 91 = .ok (.invokestatic 32, 3) := by decide +kernel
theorem dX6_drop_94 : decode cX6_drop 94 = .ok (.aload_n 0, 1) := by decide +kernel
theorem dX6_drop_95 : decode cX6_drop 95 = .ok (.getfield 29, 3) := by decide +kernel
theorem dX6_drop_98 : decode cX6_drop 98 = .ok (.iload_n 1, 1) := by decide +kernel
theorem dX6_drop_99 : decode cX6_drop 99 = .ok (.iconst 1, 1) := by decide +kernel
theorem dX6_drop_100 : decode cX6_drop 100 = .ok (.iadd, 1) := by decide +kernel
theorem dX6_drop_101 : decode cX6_drop 101 = .ok (.aload_n 0, 1) := by decide +kernel
theorem dX6_drop_102 : decode cX6_drop 102 = .ok (.getfield 29, 3) := by decide +kernel
theorem dX6_drop_105 : decode cX6_drop 105 = .ok (.iload_n 1, 1) := by decide +kernel
theorem dX6_drop_106 : decode cX6_drop 106 = .ok (.iload_n 2, 1) := by decide +kernel
theorem dX6_drop_107 : decode cX6_drop 107 = .ok (.invokestatic 32, 3) := by decide +kernel
theorem dX6_drop_110 : decode cX6_drop 110 = .ok (.return_, 1) := by decide +kernel
theorem dX6_ownedBy_0 : decode cX6_ownedBy 0 = .ok (.iconst 0, 1) := by decide +kernel
theorem dX6_ownedBy_1 : decode cX6_ownedBy 1 = .ok (.istore_n 2, 1) := by decide +kernel
theorem dX6_ownedBy_2 : decode cX6_ownedBy 2 = .ok (.iconst 0, 1) := by decide +kernel
theorem dX6_ownedBy_3 : decode cX6_ownedBy 3 = .ok (.istore_n 3, 1) := by decide +kernel
theorem dX6_ownedBy_4 : decode cX6_ownedBy 4 = .ok (.iload_n 3, 1) := by decide +kernel
theorem dX6_ownedBy_5 : decode cX6_ownedBy 5 = .ok (.aload_n 0, 1) := by decide +kernel
theorem dX6_ownedBy_6 : decode cX6_ownedBy 6 = .ok (.getfield 9, 3) := by decide +kernel
theorem dX6_ownedBy_9 : decode cX6_ownedBy 9 = .ok (.if_icmp .ge 22, 3) := by decide +kernel
theorem dX6_ownedBy_12 : decode cX6_ownedBy 12 = .ok (.aload_n 0, 1) := by decide +kernel
theorem dX6_ownedBy_13 : decode cX6_ownedBy 13 = .ok (.getfield 23, 3) := by decide +kernel
theorem dX6_ownedBy_16 : decode cX6_ownedBy 16 = .ok (.iload_n 3, 1) := by decide +kernel
theorem dX6_ownedBy_17 : decode cX6_ownedBy 17 = .ok (.iaload, 1) := by decide +kernel
theorem dX6_ownedBy_18 : decode cX6_ownedBy 18 = .ok (.iload_n 1, 1) := by decide +kernel
theorem dX6_ownedBy_19 : decode cX6_ownedBy 19 = .ok (.if_icmp .ne 6, 3) := by decide +kernel
theorem dX6_ownedBy_22 : decode cX6_ownedBy 22 = .ok (.iinc 2 1, 3) := by decide +kernel
theorem dX6_ownedBy_25 : decode cX6_ownedBy 25 = .ok (.iinc 3 1, 3) := by decide +kernel
theorem dX6_ownedBy_28 : decode cX6_ownedBy 28 = .ok (.goto (-24), 3) := by decide +kernel
theorem dX6_ownedBy_31 : decode cX6_ownedBy 31 = .ok (.iload_n 2, 1) := by decide +kernel
theorem dX6_ownedBy_32 : decode cX6_ownedBy 32 = .ok (.ireturn, 1) := by decide +kernel
theorem dX6_pricesPaidBy_0 : decode cX6_pricesPaidBy 0 = .ok (.iconst 0, 1) := by decide +kernel
theorem dX6_pricesPaidBy_1 : decode cX6_pricesPaidBy 1 = .ok (.istore_n 2, 1) := by decide +kernel
theorem dX6_pricesPaidBy_2 : decode cX6_pricesPaidBy 2 = .ok (.iconst 0, 1) := by decide +kernel
theorem dX6_pricesPaidBy_3 : decode cX6_pricesPaidBy 3 = .ok (.istore_n 3, 1) := by decide +kernel
theorem dX6_pricesPaidBy_4 : decode cX6_pricesPaidBy 4 = .ok (.iload_n 3, 1) := by decide +kernel
theorem dX6_pricesPaidBy_5 : decode cX6_pricesPaidBy 5 = .ok (.aload_n 0, 1) := by decide +kernel
theorem dX6_pricesPaidBy_6 : decode cX6_pricesPaidBy 6 = .ok (.getfield 9, 3) := by decide +kernel
theorem dX6_pricesPaidBy_9 : decode cX6_pricesPaidBy 9 = .ok (.if_icmp .ge 28, 3) := by decide +kernel
theorem dX6_pricesPaidBy_12 : decode cX6_pricesPaidBy 12 = .ok (.aload_n 0, 1) := by decide +kernel
theorem dX6_pricesPaidBy_13 : decode cX6_pricesPaidBy 13 = .ok (.getfield 23, 3) := by decide +kernel
theorem dX6_pricesPaidBy_16 : decode cX6_pricesPaidBy 16 = .ok (.iload_n 3, 1) := by decide +kernel
theorem dX6_pricesPaidBy_17 : decode cX6_pricesPaidBy 17 = .ok (.iaload, 1) := by decide +kernel
theorem dX6_pricesPaidBy_18 : decode cX6_pricesPaidBy 18 = .ok (.iload_n 1, 1) := by decide +kernel
theorem dX6_pricesPaidBy_19 : decode cX6_pricesPaidBy 19 = .ok (.if_icmp .ne 12, 3) := by decide +kernel
theorem dX6_pricesPaidBy_22 : decode cX6_pricesPaidBy 22 = .ok (.iload_n 2, 1) := by decide +kernel
theorem dX6_pricesPaidBy_23 : decode cX6_pricesPaidBy 23 = .ok (.aload_n 0, 1) := by decide +kernel
theorem dX6_pricesPaidBy_24 : decode cX6_pricesPaidBy 24 = .ok (.getfield 19, 3) := by decide +kernel
theorem dX6_pricesPaidBy_27 : decode cX6_pricesPaidBy 27 = .ok (.iload_n 3, 1) := by decide +kernel
theorem dX6_pricesPaidBy_28 : decode cX6_pricesPaidBy 28 = .ok (.iaload, 1) := by decide +kernel
theorem dX6_pricesPaidBy_29 : decode cX6_pricesPaidBy 29 = .ok (.iadd, 1) := by decide +kernel
theorem dX6_pricesPaidBy_30 : decode cX6_pricesPaidBy 30 = .ok (.istore_n 2, 1) := by decide +kernel
theorem dX6_pricesPaidBy_31 : decode cX6_pricesPaidBy 31 = .ok (.iinc 3 1, 3) := by decide +kernel
theorem dX6_pricesPaidBy_34 : decode cX6_pricesPaidBy 34 = .ok (.goto (-30), 3) := by decide +kernel
theorem dX6_pricesPaidBy_37 : decode cX6_pricesPaidBy 37 = .ok (.iload_n 2, 1) := by decide +kernel
theorem dX6_pricesPaidBy_38 : decode cX6_pricesPaidBy 38 = .ok (.ireturn, 1) := by decide +kernel
theorem dX6_mostUsed_0 : decode cX6_mostUsed 0 = .ok (.iconst (-1), 1) := by decide +kernel
theorem dX6_mostUsed_1 : decode cX6_mostUsed 1 = .ok (.istore_n 1, 1) := by decide +kernel
theorem dX6_mostUsed_2 : decode cX6_mostUsed 2 = .ok (.iconst (-1), 1) := by decide +kernel
theorem dX6_mostUsed_3 : decode cX6_mostUsed 3 = .ok (.istore_n 2, 1) := by decide +kernel
theorem dX6_mostUsed_4 : decode cX6_mostUsed 4 = .ok (.iconst 0, 1) := by decide +kernel
theorem dX6_mostUsed_5 : decode cX6_mostUsed 5 = .ok (.istore_n 3, 1) := by decide +kernel
theorem dX6_mostUsed_6 : decode cX6_mostUsed 6 = .ok (.iload_n 3, 1) := by decide +kernel
theorem dX6_mostUsed_7 : decode cX6_mostUsed 7 = .ok (.aload_n 0, 1) := by decide +kernel
theorem dX6_mostUsed_8 : decode cX6_mostUsed 8 = .ok (.getfield 9, 3) := by decide +kernel
theorem dX6_mostUsed_11 : decode cX6_mostUsed 11 = .ok (.if_icmp .ge 28, 3) := by decide +kernel
theorem dX6_mostUsed_14 : decode cX6_mostUsed 14 = .ok (.aload_n 0, 1) := by decide +kernel
theorem dX6_mostUsed_15 : decode cX6_mostUsed 15 = .ok (.getfield 26, 3) := by decide +kernel
theorem dX6_mostUsed_18 : decode cX6_mostUsed 18 = .ok (.iload_n 3, 1) := by decide +kernel
theorem dX6_mostUsed_19 : decode cX6_mostUsed 19 = .ok (.iaload, 1) := by decide +kernel
theorem dX6_mostUsed_20 : decode cX6_mostUsed 20 = .ok (.iload_n 2, 1) := by decide +kernel
theorem dX6_mostUsed_21 : decode cX6_mostUsed 21 = .ok (.if_icmp .le 12, 3) := by decide +kernel
theorem dX6_mostUsed_24 : decode cX6_mostUsed 24 = .ok (.aload_n 0, 1) := by decide +kernel
theorem dX6_mostUsed_25 : decode cX6_mostUsed 25 = .ok (.getfield 26, 3) := by decide +kernel
theorem dX6_mostUsed_28 : decode cX6_mostUsed 28 = .ok (.iload_n 3, 1) := by decide +kernel
theorem dX6_mostUsed_29 : decode cX6_mostUsed 29 = .ok (.iaload, 1) := by decide +kernel
theorem dX6_mostUsed_30 : decode cX6_mostUsed 30 = .ok (.istore_n 2, 1) := by decide +kernel
theorem dX6_mostUsed_31 : decode cX6_mostUsed 31 = .ok (.iload_n 3, 1) := by decide +kernel
theorem dX6_mostUsed_32 : decode cX6_mostUsed 32 = .ok (.istore_n 1, 1) := by decide +kernel
theorem dX6_mostUsed_33 : decode cX6_mostUsed 33 = .ok (.iinc 3 1, 3) := by decide +kernel
theorem dX6_mostUsed_36 : decode cX6_mostUsed 36 = .ok (.goto (-30), 3) := by decide +kernel
theorem dX6_mostUsed_39 : decode cX6_mostUsed 39 = .ok (.iload_n 1, 1) := by decide +kernel
theorem dX6_mostUsed_40 : decode cX6_mostUsed 40 = .ok (.ireturn, 1) := by decide +kernel
theorem dX6_copyFrom_0 : decode cX6_copyFrom 0 = .ok (.aload_n 0, 1) := by decide +kernel
theorem dX6_copyFrom_1 : decode cX6_copyFrom 1 = .ok (.aload_n 1, 1) := by decide +kernel
theorem dX6_copyFrom_2 : decode cX6_copyFrom 2 = .ok (.getfield 9, 3) := by decide +kernel
theorem dX6_copyFrom_5 : decode cX6_copyFrom 5 = .ok (.putfield 9, 3) := by decide +kernel
theorem dX6_copyFrom_8 : decode cX6_copyFrom 8 = .ok (.aload_n 1, 1) := by decide +kernel
theorem dX6_copyFrom_9 : decode cX6_copyFrom 9 = .ok (.getfield 15, 3) := by decide +kernel
theorem dX6_copyFrom_12 : decode cX6_copyFrom 12 = .ok (.iconst 0, 1) := by decide +kernel
theorem dX6_copyFrom_13 : decode cX6_copyFrom 13 = .ok (.aload_n 0, 1) := by decide +kernel
theorem dX6_copyFrom_14 : decode cX6_copyFrom 14 = .ok (.getfield 15, 3) := by decide +kernel
theorem dX6_copyFrom_17 : decode cX6_copyFrom 17 = .ok (.iconst 0, 1) := by decide +kernel
theorem dX6_copyFrom_18 : decode cX6_copyFrom 18 = .ok (.aload_n 0, 1) := by decide +kernel
theorem dX6_copyFrom_19 : decode cX6_copyFrom 19 = .ok (.getfield 9, 3) := by decide +kernel
theorem dX6_copyFrom_22 : decode cX6_copyFrom 22 = .ok (.invokestatic 32, 3) := by decide +kernel
theorem dX6_copyFrom_25 : decode cX6_copyFrom 25 = .ok (.aload_n 1, 1) := by decide +kernel
theorem dX6_copyFrom_26 : decode cX6_copyFrom 26 = .ok (.getfield 19, 3) := by decide +kernel
theorem dX6_copyFrom_29 : decode cX6_copyFrom 29 = .ok (.iconst 0, 1) := by decide +kernel
theorem dX6_copyFrom_30 : decode cX6_copyFrom 30 = .ok (.aload_n 0, 1) := by decide +kernel
theorem dX6_copyFrom_31 : decode cX6_copyFrom 31 = .ok (.getfield 19, 3) := by decide +kernel
theorem dX6_copyFrom_34 : decode cX6_copyFrom 34 = .ok (.iconst 0, 1) := by decide +kernel
theorem dX6_copyFrom_35 : decode cX6_copyFrom 35 = .ok (.aload_n 0, 1) := by decide +kernel
theorem dX6_copyFrom_36 : decode cX6_copyFrom 36 = .ok (.getfield 9, 3) := by decide +kernel
theorem dX6_copyFrom_39 : decode cX6_copyFrom 39 = .ok (.invokestatic 32, 3) := by decide +kernel
theorem dX6_copyFrom_42 : decode cX6_copyFrom 42 = .ok (.aload_n 1, 1) := by decide +kernel
theorem dX6_copyFrom_43 : decode cX6_copyFrom 43 = .ok (.getfield 23, 3) := by decide +kernel
theorem dX6_copyFrom_46 : decode cX6_copyFrom 46 = .ok (.iconst 0, 1) := by decide +kernel
theorem dX6_copyFrom_47 : decode cX6_copyFrom 47 = .ok (.aload_n 0, 1) := by decide +kernel
theorem dX6_copyFrom_48 : decode cX6_copyFrom 48 = .ok (.getfield 23, 3) := by decide +kernel
theorem dX6_copyFrom_51 : decode cX6_copyFrom 51 = .ok (.iconst 0, 1) := by decide +kernel
theorem dX6_copyFrom_52 : decode cX6_copyFrom 52 = .ok (.aload_n 0, 1) := by decide +kernel
theorem dX6_copyFrom_53 : decode cX6_copyFrom 53 = .ok (.getfield 9, 3) := by decide +kernel
theorem dX6_copyFrom_56 : decode cX6_copyFrom 56 = .ok (.invokestatic 32, 3) := by decide +kernel
theorem dX6_copyFrom_59 : decode cX6_copyFrom 59 = .ok (.aload_n 1, 1) := by decide +kernel
theorem dX6_copyFrom_60 : decode cX6_copyFrom 60 = .ok (.getfield 26, 3) := by decide +kernel
theorem dX6_copyFrom_63 : decode cX6_copyFrom 63 = .ok (.iconst 0, 1) := by decide +kernel
theorem dX6_copyFrom_64 : decode cX6_copyFrom 64 = .ok (.aload_n 0, 1) := by decide +kernel
theorem dX6_copyFrom_65 : decode cX6_copyFrom 65 = .ok (.getfield 26, 3) := by decide +kernel
theorem dX6_copyFrom_68 : decode cX6_copyFrom 68 = .ok (.iconst 0, 1) := by decide +kernel
theorem dX6_copyFrom_69 : decode cX6_copyFrom 69 = .ok (.aload_n 0, 1) := by decide +kernel
theorem dX6_copyFrom_70 : decode cX6_copyFrom 70 = .ok (.getfield 9, 3) := by decide +kernel
theorem dX6_copyFrom_73 : decode cX6_copyFrom 73 = .ok (.invokestatic 32, 3) := by decide +kernel
theorem dX6_copyFrom_76 : decode cX6_copyFrom 76 = .ok (.aload_n 1, 1) := by decide +kernel
theorem dX6_copyFrom_77 : decode cX6_copyFrom 77 = .ok (.getfield 29, 3) := by decide +kernel
theorem dX6_copyFrom_80 : decode cX6_copyFrom 80 = .ok (.iconst 0, 1) := by decide +kernel
theorem dX6_copyFrom_81 : decode cX6_copyFrom 81 = .ok (.aload_n 0, 1) := by decide +kernel
theorem dX6_copyFrom_82 : decode cX6_copyFrom 82 = .ok (.getfield 29, 3) := by decide +kernel
theorem dX6_copyFrom_85 : decode cX6_copyFrom 85 = .ok (.iconst 0, 1) := by decide +kernel
theorem dX6_copyFrom_86 : decode cX6_copyFrom 86 = .ok (.aload_n 0, 1) := by decide +kernel
theorem dX6_copyFrom_87 : decode cX6_copyFrom 87 = .ok (.getfield 9, 3) := by decide +kernel
theorem dX6_copyFrom_90 : decode cX6_copyFrom 90 = .ok (.invokestatic 32, 3) := by decide +kernel
theorem dX6_copyFrom_93 : decode cX6_copyFrom 93 = .ok (.return_, 1) := by decide +kernel
