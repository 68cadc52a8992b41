theorem dX2_init_0 : decode cX2_init 0 = .ok (.aload_n 0, 1) := by decide +kernel
theorem dX2_init_1 : decode cX2_init 1 = .ok (.invokespecial 3, 3) := by decide +kernel
theorem dX2_init_4 : decode cX2_init 4 = .ok (.aload_n 0, 1) := by decide +kernel
theorem dX2_init_5 : decode cX2_init 5 = .ok (.iconst 0, 1) := by decide +kernel
theorem dX2_init_6 : decode cX2_init 6 = .ok (.putfield 9, 3) := by decide +kernel
theorem dX2_init_9 : decode cX2_init 9 = .ok (.aload_n 0, 1) := by decide +kernel
theorem dX2_init_10 : decode cX2_init 10 = .ok (.bipush 12, 2) := by decide +kernel
theorem dX2_init_12 : decode cX2_init 12 = .ok (.newarray .long, 2) := by decide +kernel
theorem dX2_init_14 : decode cX2_init 14 = .ok (.putfield 15, 3) := by decide +kernel
theorem dX2_init_17 : decode cX2_init 17 = .ok (.aload_n 0, 1) := by decide +kernel
theorem dX2_init_18 : decode cX2_init 18 = .ok (.iconst 0, 1) := by decide +kernel
theorem dX2_init_19 : decode cX2_init 19 = .ok (.putfield 19, 3) := by decide +kernel
theorem dX2_init_22 : decode cX2_init 22 = .ok (.aload_n 0, 1) := by decide +kernel
theorem dX2_init_23 : decode cX2_init 23 = .ok (.iconst 0, 1) := by decide +kernel
theorem dX2_init_24 : decode cX2_init 24 = .ok (.putfield 22, 3) := by decide +kernel
theorem dX2_init_27 : decode cX2_init 27 = .ok (.aload_n 0, 1) := by decide +kernel
theorem dX2_init_28 : decode cX2_init 28 = .ok (.lconst 0, 1) := by decide +kernel
theorem dX2_init_29 : decode cX2_init 29 = .ok (.putfield 25, 3) := by decide +kernel
theorem dX2_init_32 : decode cX2_init 32 = .ok (.aload_n 0, 1) := by decide +kernel
theorem dX2_init_33 : decode cX2_init 33 = .ok (.iconst 0, 1) := by decide +kernel
theorem dX2_init_34 : decode cX2_init 34 = .ok (.putfield 29, 3) := by decide +kernel
theorem dX2_init_37 : decode cX2_init 37 = .ok (.aload_n 0, 1) := by decide +kernel
theorem dX2_init_38 : decode cX2_init 38 = .ok (.iconst 1, 1) := by decide +kernel
theorem dX2_init_39 : decode cX2_init 39 = .ok (.putfield 32, 3) := by decide +kernel
theorem dX2_init_42 : decode cX2_init 42 = .ok (.aload_n 0, 1) := by decide +kernel
theorem dX2_init_43 : decode cX2_init 43 = .ok (.bipush 12, 2) := by decide +kernel
theorem dX2_init_45 : decode cX2_init 45 = .ok (.bipush 7, 2) := by decide +kernel
theorem dX2_init_47 : decode cX2_init 47 = .ok (.multianewarray 35 2, 4) := by decide +kernel
theorem dX2_init_51 : decode cX2_init 51 = .ok (.putfield 37, 3) := by decide +kernel
theorem dX2_init_54 : decode cX2_init 54 = .ok (.aload_n 0, 1) := by decide +kernel
theorem dX2_init_55 : decode cX2_init 55 = .ok (.bipush 13, 2) := by decide +kernel
theorem dX2_init_57 : decode cX2_init 57 = .ok (.newarray .int, 2) := by decide +kernel
theorem dX2_init_59 : decode cX2_init 59 = .ok (.putfield 40, 3) := by decide +kernel
theorem dX2_init_62 : decode cX2_init 62 = .ok (.aload_n 0, 1) := by decide +kernel
theorem dX2_init_63 : decode cX2_init 63 = .ok (.bipush 13, 2) := by decide +kernel
theorem dX2_init_65 : decode cX2_init 65 = .ok (.newarray .int, 2) := by decide +kernel
theorem dX2_init_67 : decode cX2_init 67 = .ok (.putfield 44, 3) := by decide +kernel
theorem dX2_init_70 : decode cX2_init 70 = .ok (.aload_n 0, 1) := by decide +kernel
theorem dX2_init_71 : decode cX2_init 71 = .ok (.bipush 13, 2) := by decide +kernel
theorem dX2_init_73 : decode cX2_init 73 = .ok (.newarray .int, 2) := by decide +kernel
theorem dX2_init_75 : decode cX2_init 75 = .ok (.putfield 47, 3) := by decide +kernel
theorem dX2_init_78 : decode cX2_init 78 = .ok (.aload_n 0, 1) := by decide +kernel
theorem dX2_init_79 : decode cX2_init 79 = .ok (.bipush 13, 2) := by decide +kernel
theorem dX2_init_81 : decode cX2_init 81 = .ok (.newarray .int, 2) := by decide +kernel
theorem dX2_init_83 : decode cX2_init 83 = .ok (.putfield 50, 3) := by decide +kernel
theorem dX2_init_86 : decode cX2_init 86 = .ok (.return_, 1) := by decide +kernel
set_option maxRecDepth 20000 in
theorem ggX2_cutCheapest_X2_lookUp : GoodIn wsX2_cutCheapest wsX2_lookUp := goodIn_r _ [5, 6, 7, 8, 9, 10, 11, 12, 13, 14, 15, 16, 17, 18, 19, 20, 21, 22, 23, 24, 4, 25, 26, 27, 28, 29, 30, 31, 32, 33, 34, 35, 36, 37, 38, 39, 40, 41, 42, 43, 71, 72, 73, 74, 75, 76, 77, 78, 79, 80, 81, 82, 83, 84, 85, 86, 87, 88, 89, 90, 91, 92, 93, 94, 95, 96] (by decide +kernel) (by decide +kernel)
set_option maxRecDepth 20000 in
theorem gX2_cutCheapest_X2_lookUp : GoodIn wsX2_cutCheapest (wsV RX2 53 RX2 yX2_lookUp wsX2_lookUp) := goodIn_app (goodIn_of _ (by decide +kernel)) ggX2_cutCheapest_X2_lookUp
set_option maxRecDepth 20000 in
theorem ggX2_cutCheapest_X2_solve : GoodIn wsX2_cutCheapest wsX2_solve := goodIn_r _ [47, 48, 7, 49, 11, 50, 22, 23, 24, 4, 25, 26, 27, 28, 29, 51, 52, 53, 54, 8, 10, 71, 72, 73, 74, 75, 76, 77, 78, 79, 80, 81, 82] (by decide +kernel) (by decide +kernel)
set_option maxRecDepth 20000 in
theorem gX2_cutCheapest_X2_solve : GoodIn wsX2_cutCheapest (wsV RX2 57 RX2 yX2_solve wsX2_solve) := goodIn_app (goodIn_of _ (by decide +kernel)) ggX2_cutCheapest_X2_solve
set_option maxRecDepth 20000 in
theorem ggX2_cutCheapest_X2_collectParts : GoodIn wsX2_cutCheapest wsX2_collectParts := goodIn_r _ [58, 59, 7, 50, 60, 6, 30, 31, 14, 32, 71, 72, 73, 74, 75, 76, 77, 78, 79, 80, 81, 82] (by decide +kernel) (by decide +kernel)
set_option maxRecDepth 20000 in
theorem gX2_cutCheapest_X2_collectParts : GoodIn wsX2_cutCheapest (wsV RX2 60 RX2 yX2_collectParts wsX2_collectParts) := goodIn_app (goodIn_of _ (by decide +kernel)) ggX2_cutCheapest_X2_collectParts
set_option maxRecDepth 20000 in
theorem ggX2_cutCheapest_X2_countNew : GoodIn wsX2_cutCheapest wsX2_countNew := goodIn_r _ [64, 65, 66, 59, 9, 60, 33, 34, 35, 36, 37, 38, 39, 67, 68, 69, 4, 70, 12, 13, 14, 15, 40, 41, 42, 19, 43, 21, 71, 72, 73, 74, 75, 76, 77, 78, 79, 80, 81, 82, 83, 84, 85, 86, 87, 88, 89, 90, 91, 92, 93, 94, 95, 96] (by decide +kernel) (by decide +kernel)
set_option maxRecDepth 20000 in
theorem gX2_cutCheapest_X2_countNew : GoodIn wsX2_cutCheapest (wsV RX2 63 RX2 yX2_countNew wsX2_countNew) := goodIn_app (goodIn_of _ (by decide +kernel)) ggX2_cutCheapest_X2_countNew
theorem dX2_cutCheapest_0 : decode cX2_cutCheapest 0 = .ok (.aload_n 0, 1) := by decide +kernel
theorem dX2_cutCheapest_1 : decode cX2_cutCheapest 1 = .ok (.aload_n 1, 1) := by decide +kernel
theorem dX2_cutCheapest_2 : decode cX2_cutCheapest 2 = .ok (.lload_n 2, 1) := by decide +kernel
theorem dX2_cutCheapest_3 : decode cX2_cutCheapest 3 = .ok (.iconst 1, 1) := by decide +kernel
theorem dX2_cutCheapest_4 : decode cX2_cutCheapest 4 = .ok (.invokevirtual 53, 3) := by decide +kernel
theorem dX2_cutCheapest_7 : decode cX2_cutCheapest 7 = .ok (.aload_n 0, 1) := by decide +kernel
theorem dX2_cutCheapest_8 : decode cX2_cutCheapest 8 = .ok (.invokevirtual 57, 3) := by decide +kernel
theorem dX2_cutCheapest_11 : decode cX2_cutCheapest 11 = .ok (.aload_n 0, 1) := by decide +kernel
theorem dX2_cutCheapest_12 : decode cX2_cutCheapest 12 = .ok (.invokevirtual 60, 3) := by decide +kernel
theorem dX2_cutCheapest_15 : decode cX2_cutCheapest 15 = .ok (.aload_n 0, 1) := by decide +kernel
theorem dX2_cutCheapest_16 : decode cX2_cutCheapest 16 = .ok (.aload_n 1, 1) := by decide +kernel
theorem dX2_cutCheapest_17 : decode cX2_cutCheapest 17 = .ok (.invokevirtual 63, 3) := by decide +kernel
theorem dX2_cutCheapest_20 : decode cX2_cutCheapest 20 = .ok (.return_, 1) := by decide +kernel
set_option maxRecDepth 20000 in
theorem ggX2_cutKnown_X2_lookUp : GoodIn wsX2_cutKnown wsX2_lookUp := goodIn_r _ [5, 6, 7, 8, 9, 10, 11, 12, 13, 14, 15, 16, 17, 18, 19, 20, 21, 22, 23, 24, 4, 25, 26, 27, 28, 29, 30, 31, 32, 33, 34, 35, 36, 37, 38, 39, 40, 41, 42, 43, 61, 62, 63, 64, 65, 66, 67, 68, 69, 70, 71, 72, 73, 74, 75, 76, 77, 78, 79, 80, 81, 82, 83, 84, 85, 86] (by decide +kernel) (by decide +kernel)
set_option maxRecDepth 20000 in
theorem gX2_cutKnown_X2_lookUp : GoodIn wsX2_cutKnown (wsV RX2 53 RX2 yX2_lookUp wsX2_lookUp) := goodIn_app (goodIn_of _ (by decide +kernel)) ggX2_cutKnown_X2_lookUp
set_option maxRecDepth 20000 in
theorem ggX2_cutKnown_X2_solve : GoodIn wsX2_cutKnown wsX2_solve := goodIn_r _ [47, 48, 7, 49, 11, 50, 22, 23, 24, 4, 25, 26, 27, 28, 29, 51, 52, 53, 54, 8, 10, 61, 62, 63, 64, 65, 66, 67, 68, 69, 70, 71, 72] (by decide +kernel) (by decide +kernel)
set_option maxRecDepth 20000 in
theorem gX2_cutKnown_X2_solve : GoodIn wsX2_cutKnown (wsV RX2 57 RX2 yX2_solve wsX2_solve) := goodIn_app (goodIn_of _ (by decide +kernel)) ggX2_cutKnown_X2_solve
set_option maxRecDepth 20000 in
theorem ggX2_cutKnown_X2_collectParts : GoodIn wsX2_cutKnown wsX2_collectParts := goodIn_r _ [58, 59, 7, 50, 60, 6, 30, 31, 14, 32, 61, 62, 63, 64, 65, 66, 67, 68, 69, 70, 71, 72] (by decide +kernel) (by decide +kernel)
set_option maxRecDepth 20000 in
theorem gX2_cutKnown_X2_collectParts : GoodIn wsX2_cutKnown (wsV RX2 60 RX2 yX2_collectParts wsX2_collectParts) := goodIn_app (goodIn_of _ (by decide +kernel)) ggX2_cutKnown_X2_collectParts
theorem dX2_cutKnown_0 : decode cX2_cutKnown 0 = .ok (.aload_n 0, 1) := by decide +kernel
theorem dX2_cutKnown_1 : decode cX2_cutKnown 1 = .ok (.aload_n 1, 1) := by decide +kernel
theorem dX2_cutKnown_2 : decode cX2_cutKnown 2 = .ok (.lload_n 2, 1) := by decide +kernel
theorem dX2_cutKnown_3 : decode cX2_cutKnown 3 = .ok (.iconst 0, 1) := by decide +kernel
theorem dX2_cutKnown_4 : decode cX2_cutKnown 4 = .ok (.invokevirtual 53, 3) := by decide +kernel
theorem dX2_cutKnown_7 : decode cX2_cutKnown 7 = .ok (.aload_n 0, 1) := by decide +kernel
theorem dX2_cutKnown_8 : decode cX2_cutKnown 8 = .ok (.invokevirtual 57, 3) := by decide +kernel
theorem dX2_cutKnown_11 : decode cX2_cutKnown 11 = .ok (.aload_n 0, 1) := by decide +kernel
theorem dX2_cutKnown_12 : decode cX2_cutKnown 12 = .ok (.invokevirtual 60, 3) := by decide +kernel
theorem dX2_cutKnown_15 : decode cX2_cutKnown 15 = .ok (.return_, 1) := by decide +kernel
set_option maxRecDepth 20000 in
theorem ggX2_countWays_X2_lookUp : GoodIn wsX2_countWays wsX2_lookUp := goodIn_r _ [9, 10, 2, 11, 12, 3, 4, 13, 14, 15, 16, 17, 18, 19, 20, 21, 22, 23, 24, 25, 8, 26, 27, 28, 29, 30, 31, 32, 33, 34, 35, 36, 37, 38, 39, 40, 41, 42, 43, 44, 45, 46, 47, 48, 49, 50, 51, 52, 53, 54, 55, 56, 57, 58, 59, 60, 61, 62, 63, 64, 65, 66, 67, 68, 69, 70] (by decide +kernel) (by decide +kernel)
set_option maxRecDepth 20000 in
theorem gX2_countWays_X2_lookUp : GoodIn wsX2_countWays (wsV RX2 53 RX2 yX2_lookUp wsX2_lookUp) := goodIn_app (goodIn_of _ (by decide +kernel)) ggX2_countWays_X2_lookUp
set_option maxRecDepth 20000 in
theorem ggX2_countWays_X2_longestAt : GoodIn wsX2_countWays wsX2_longestAt := goodIn_r _ [26, 2, 27, 28, 29, 30, 45, 46, 47, 48, 49, 50, 51, 52, 53, 54, 55, 56] (by decide +kernel) (by decide +kernel)
set_option maxRecDepth 20000 in
theorem gX2_countWays_X2_longestAt : GoodIn wsX2_countWays (wsV RX2 67 RX2 yX2_longestAt wsX2_longestAt) := goodIn_app (goodIn_of _ (by decide +kernel)) ggX2_countWays_X2_longestAt
theorem dX2_countWays_0 : decode cX2_countWays 0 = .ok (.aload_n 0, 1) := by decide +kernel
theorem dX2_countWays_1 : decode cX2_countWays 1 = .ok (.aload_n 1, 1) := by decide +kernel
theorem dX2_countWays_2 : decode cX2_countWays 2 = .ok (.lload_n 2, 1) := by decide +kernel
theorem dX2_countWays_3 : decode cX2_countWays 3 = .ok (.iconst 0, 1) := by decide +kernel
theorem dX2_countWays_4 : decode cX2_countWays 4 = .ok (.invokevirtual 53, 3) := by decide +kernel
theorem dX2_countWays_7 : decode cX2_countWays 7 = .ok (.aload_n 0, 1) := by decide +kernel
theorem dX2_countWays_8 : decode cX2_countWays 8 = .ok (.getfield 50, 3) := by decide +kernel
theorem dX2_countWays_11 : decode cX2_countWays 11 = .ok (.aload_n 0, 1) := by decide +kernel
theorem dX2_countWays_12 : decode cX2_countWays 12 = .ok (.getfield 29, 3) := by decide +kernel
theorem dX2_countWays_15 : decode cX2_countWays 15 = .ok (.iconst 1, 1) := by decide +kernel
theorem dX2_countWays_16 : decode cX2_countWays 16 = .ok (.iastore, 1) := by decide +kernel
theorem dX2_countWays_17 : decode cX2_countWays 17 = .ok (.aload_n 0, 1) := by decide +kernel
theorem dX2_countWays_18 : decode cX2_countWays 18 = .ok (.getfield 29, 3) := by decide +kernel
theorem dX2_countWays_21 : decode cX2_countWays 21 = .ok (.iconst 1, 1) := by decide +kernel
theorem dX2_countWays_22 : decode cX2_countWays 22 = .ok (.isub, 1) := by decide +kernel
theorem dX2_countWays_23 : decode cX2_countWays 23 = .ok (.istore 4, 2) := by decide +kernel
theorem dX2_countWays_25 : decode cX2_countWays 25 = .ok (.iload 4, 2) := by decide +kernel
theorem dX2_countWays_27 : decode cX2_countWays 27 = .ok (.ifCond .lt 72, 3) := by decide +kernel
theorem dX2_countWays_30 : decode cX2_countWays 30 = .ok (.aload_n 0, 1) := by decide +kernel
theorem dX2_countWays_31 : decode cX2_countWays 31 = .ok (.getfield 50, 3) := by decide +kernel
theorem dX2_countWays_34 : decode cX2_countWays 34 = .ok (.iload 4, 2) := by decide +kernel
theorem dX2_countWays_36 : decode cX2_countWays 36 = .ok (.iconst 0, 1) := by decide +kernel
theorem dX2_countWays_37 : decode cX2_countWays 37 = .ok (.iastore, 1) := by decide +kernel
theorem dX2_countWays_38 : decode cX2_countWays 38 = .ok (.iconst 1, 1) := by decide +kernel
theorem dX2_countWays_39 : decode cX2_countWays 39 = .ok (.istore 5, 2) := by decide +kernel
theorem dX2_countWays_41 : decode cX2_countWays 41 = .ok (.iload 5, 2) := by decide +kernel
theorem dX2_countWays_43 : decode cX2_countWays 43 = .ok (.aload_n 0, 1) := by decide +kernel
theorem dX2_countWays_44 : decode cX2_countWays 44 = .ok (.iload 4, 2) := by decide +kernel
theorem dX2_countWays_46 : decode cX2_countWays 46 = .ok (.invokevirtual 67, 3) := by decide +kernel
theorem dX2_countWays_49 : decode cX2_countWays 49 = .ok (.if_icmp .gt 44, 3) := by decide +kernel
theorem dX2_countWays_52 : decode cX2_countWays 52 = .ok (.aload_n 0, 1) := by decide +kernel
theorem dX2_countWays_53 : decode cX2_countWays 53 = .ok (.getfield 37, 3) := by decide +kernel
theorem dX2_countWays_56 : decode cX2_countWays 56 = .ok (.iload 4, 2) := by decide +kernel
theorem dX2_countWays_58 : decode cX2_countWays 58 = .ok (.aaload, 1) := by decide +kernel
theorem dX2_countWays_59 : decode cX2_countWays 59 = .ok (.iload 5, 2) := by decide +kernel
theorem dX2_countWays_61 : decode cX2_countWays 61 = .ok (.iaload, 1) := by decide +kernel
theorem dX2_countWays_62 : decode cX2_countWays 62 = .ok (.ldc 71, 2) := by decide +kernel
theorem dX2_countWays_64 : decode cX2_countWays 64 = .ok (.if_icmp .ge 23, 3) := by decide +kernel
theorem dX2_countWays_67 : decode cX2_countWays 67 = .ok (.aload_n 0, 1) := by decide +kernel
theorem dX2_countWays_68 : decode cX2_countWays 68 = .ok (.getfield 50, 3) := by decide +kernel
theorem dX2_countWays_71 : decode cX2_countWays 71 = .ok (.iload 4, 2) := by decide +kernel
theorem dX2_countWays_73 : decode cX2_countWays 73 = .ok (.dup2, 1) := by decide +kernel
theorem dX2_countWays_74 : decode cX2_countWays 74 = .ok (.iaload, 1) := by decide +kernel
theorem dX2_countWays_75 : decode cX2_countWays 75 = .ok (.aload_n 0, 1) := by decide +kernel
theorem dX2_countWays_76 : decode cX2_countWays 76 = .ok (.getfield 50, 3) := by decide +kernel
theorem dX2_countWays_79 : decode cX2_countWays 79 = .ok (.iload 4, 2) := by decide +kernel
theorem dX2_countWays_81 : decode cX2_countWays 81 = .ok (.iload 5, 2) := by decide +kernel
theorem dX2_countWays_83 : decode cX2_countWays 83 = .ok (.iadd, 1) := by decide +kernel
theorem dX2_countWays_84 : decode cX2_countWays 84 = .ok (.iaload, 1) := by decide +kernel
theorem dX2_countWays_85 : decode cX2_countWays 85 = .ok (.iadd, 1) := by decide +kernel
theorem dX2_countWays_86 : decode cX2_countWays 86 = .ok (.iastore, 1) := by decide +kernel
theorem dX2_countWays_87 : decode cX2_countWays 87 = .ok (.iinc 5 1, 3) := by decide +kernel
theorem dX2_countWays_90 : decode cX2_countWays 90 = .ok (.goto (-49), 3) := by decide +kernel
theorem dX2_countWays_93 : decode cX2_countWays 93 = .ok (.iinc 4 (-1), 3) := by decide +kernel
theorem dX2_countWays_96 : decode cX2_countWays 96 = .ok (.goto (-71), 3) := by decide +kernel
theorem dX2_countWays_99 : decode cX2_countWays 99 = .ok (.aload_n 0, 1) := by decide +kernel
theorem dX2_countWays_100 : decode cX2_countWays 100 = .ok (.getfield 50, 3) := by decide +kernel
theorem dX2_countWays_103 : decode cX2_countWays 103 = .ok (.iconst 0, 1) := by decide +kernel
theorem dX2_countWays_104 : decode cX2_countWays 104 = .ok (.iaload, 1) := by decide +kernel
theorem dX2_countWays_105 : decode cX2_countWays 105 = .ok (.ireturn, 1) := by decide +kernel
set_option maxRecDepth 20000 in
theorem ggX2_gainOf_X2_setSurcharge : GoodIn wsX2_gainOf wsX2_setSurcharge := goodIn_r _ [8, 9, 10, 11, 12, 13, 14, 15, 35, 36, 37, 38, 39, 40, 41, 42, 43, 44, 45, 46] (by decide +kernel) (by decide +kernel)
set_option maxRecDepth 20000 in
theorem gX2_gainOf_X2_setSurcharge : GoodIn wsX2_gainOf (wsV RX2 72 RX2 yX2_setSurcharge wsX2_setSurcharge) := goodIn_app (goodIn_of _ (by decide +kernel)) ggX2_gainOf_X2_setSurcharge
set_option maxRecDepth 20000 in
theorem ggX2_gainOf_X2_solve : GoodIn wsX2_gainOf wsX2_solve := goodIn_r _ [19, 20, 9, 3, 1, 21, 22, 23, 24, 7, 25, 26, 27, 28, 29, 30, 31, 32, 33, 34, 11, 35, 36, 37, 38, 39, 40, 41, 42, 43, 44, 45, 46] (by decide +kernel) (by decide +kernel)
set_option maxRecDepth 20000 in
theorem gX2_gainOf_X2_solve : GoodIn wsX2_gainOf (wsV RX2 57 RX2 yX2_solve wsX2_solve) := goodIn_app (goodIn_of _ (by decide +kernel)) ggX2_gainOf_X2_solve
theorem dX2_gainOf_0 : decode cX2_gainOf 0 = .ok (.aload_n 0, 1) := by decide +kernel
theorem dX2_gainOf_1 : decode cX2_gainOf 1 = .ok (.lload_n 1, 1) := by decide +kernel
theorem dX2_gainOf_2 : decode cX2_gainOf 2 = .ok (.iload_n 3, 1) := by decide +kernel
theorem dX2_gainOf_3 : decode cX2_gainOf 3 = .ok (.iconst 0, 1) := by decide +kernel
theorem dX2_gainOf_4 : decode cX2_gainOf 4 = .ok (.invokevirtual 72, 3) := by decide +kernel
theorem dX2_gainOf_7 : decode cX2_gainOf 7 = .ok (.ifCond .ne 5, 3) := by decide +kernel
theorem dX2_gainOf_10 : decode cX2_gainOf 10 = .ok (.iconst 0, 1) := by decide +kernel
theorem dX2_gainOf_11 : decode cX2_gainOf 11 = .ok (.ireturn, 1) := by decide +kernel
theorem dX2_gainOf_12 : decode cX2_gainOf 12 = .ok (.aload_n 0, 1) := by decide +kernel
theorem dX2_gainOf_13 : decode cX2_gainOf 13 = .ok (.invokevirtual 57, 3) := by decide +kernel
theorem dX2_gainOf_16 : decode cX2_gainOf 16 = .ok (.aload_n 0, 1) := by decide +kernel
theorem dX2_gainOf_17 : decode cX2_gainOf 17 = .ok (.lload_n 1, 1) := by decide +kernel
theorem dX2_gainOf_18 : decode cX2_gainOf 18 = .ok (.iload_n 3, 1) := by decide +kernel
theorem dX2_gainOf_19 : decode cX2_gainOf 19 = .ok (.ldc 71, 2) := by decide +kernel
theorem dX2_gainOf_21 : decode cX2_gainOf 21 = .ok (.invokevirtual 72, 3) := by decide +kernel
theorem dX2_gainOf_24 : decode cX2_gainOf 24 = .ok (.pop, 1) := by decide +kernel
theorem dX2_gainOf_25 : decode cX2_gainOf 25 = .ok (.aload_n 0, 1) := by decide +kernel
theorem dX2_gainOf_26 : decode cX2_gainOf 26 = .ok (.getfield 9, 3) := by decide +kernel
theorem dX2_gainOf_29 : decode cX2_gainOf 29 = .ok (.aload_n 0, 1) := by decide +kernel
theorem dX2_gainOf_30 : decode cX2_gainOf 30 = .ok (.getfield 44, 3) := by decide +kernel
theorem dX2_gainOf_33 : decode cX2_gainOf 33 = .ok (.iconst 0, 1) := by decide +kernel
theorem dX2_gainOf_34 : decode cX2_gainOf 34 = .ok (.iaload, 1) := by decide +kernel
theorem dX2_gainOf_35 : decode cX2_gainOf 35 = .ok (.isub, 1) := by decide +kernel
theorem dX2_gainOf_36 : decode cX2_gainOf 36 = .ok (.ireturn, 1) := by decide +kernel
set_option maxRecDepth 20000 in
theorem ggX2_lookUp_X4_lengthOf : GoodIn wsX2_lookUp wsX4_lengthOf := goodIn_r _ [10] (by decide +kernel) (by decide +kernel)
set_option maxRecDepth 20000 in
theorem gX2_lookUp_X4_lengthOf : GoodIn wsX2_lookUp (va_wsS RX2 76 yX4_lengthOf wsX4_lengthOf) := goodIn_app (goodIn_of _ (by decide +kernel)) ggX2_lookUp_X4_lengthOf
set_option maxRecDepth 20000 in
theorem ggX2_lookUp_X1_depositsFor : GoodIn wsX2_lookUp wsX1_depositsFor := goodIn_r _ [15, 16, 52, 53, 54, 55, 56, 57, 58, 59] (by decide +kernel) (by decide +kernel)
set_option maxRecDepth 20000 in
theorem gX2_lookUp_X1_depositsFor : GoodIn wsX2_lookUp (wsV RX2 82 RX1 yX1_depositsFor wsX1_depositsFor) := goodIn_app (goodIn_of _ (by decide +kernel)) ggX2_lookUp_X1_depositsFor
set_option maxRecDepth 20000 in
theorem ggX2_lookUp_X2_longestAt : GoodIn wsX2_lookUp wsX2_longestAt := goodIn_r _ [21, 2, 22, 23, 24, 25, 40, 41, 42, 43, 44, 45, 46, 47, 48, 49, 50, 51] (by decide +kernel) (by decide +kernel)
set_option maxRecDepth 20000 in
theorem gX2_lookUp_X2_longestAt : GoodIn wsX2_lookUp (wsV RX2 67 RX2 yX2_longestAt wsX2_longestAt) := goodIn_app (goodIn_of _ (by decide +kernel)) ggX2_lookUp_X2_longestAt
set_option maxRecDepth 20000 in
theorem ggX2_lookUp_X4_section : GoodIn wsX2_lookUp wsX4_section := goodIn_r _ [28] (by decide +kernel) (by decide +kernel)
set_option maxRecDepth 20000 in
theorem gX2_lookUp_X4_section : GoodIn wsX2_lookUp (va_wsS RX2 91 yX4_section wsX4_section) := goodIn_app (goodIn_of _ (by decide +kernel)) ggX2_lookUp_X4_section
set_option maxRecDepth 20000 in
theorem ggX2_lookUp_X6_numberOf : GoodIn wsX2_lookUp wsX6_numberOf := goodIn_r _ [33, 34, 35, 60, 61, 62, 63, 64, 65] (by decide +kernel) (by decide +kernel)
set_option maxRecDepth 20000 in
theorem gX2_lookUp_X6_numberOf : GoodIn wsX2_lookUp (wsV RX2 95 RX6 yX6_numberOf wsX6_numberOf) := goodIn_app (goodIn_of _ (by decide +kernel)) ggX2_lookUp_X6_numberOf
set_option maxRecDepth 20000 in
theorem ggX2_lookUp_X1_newPrice : GoodIn wsX2_lookUp wsX1_newPrice := goodIn_r _ [39, 16, 52, 53, 54, 55, 56, 57, 58, 59] (by decide +kernel) (by decide +kernel)
set_option maxRecDepth 20000 in
theorem gX2_lookUp_X1_newPrice : GoodIn wsX2_lookUp (wsV RX2 100 RX1 yX1_newPrice wsX1_newPrice) := goodIn_app (goodIn_of _ (by decide +kernel)) ggX2_lookUp_X1_newPrice
theorem dX2_lookUp_0 : decode cX2_lookUp 0 = .ok (.aload_n 0, 1) := by decide +kernel
theorem dX2_lookUp_1 : decode cX2_lookUp 1 = .ok (.lload_n 2, 1) := by decide +kernel
theorem dX2_lookUp_2 : decode cX2_lookUp 2 = .ok (.putfield 25, 3) := by decide +kernel
theorem dX2_lookUp_5 : decode cX2_lookUp 5 = .ok (.aload_n 0, 1) := by decide +kernel
theorem dX2_lookUp_6 : decode cX2_lookUp 6 = .ok (.lload_n 2, 1) := by decide +kernel
theorem dX2_lookUp_7 : decode cX2_lookUp 7 = .ok (.invokestatic 76, 3) := by decide +kernel
theorem dX2_lookUp_10 : decode cX2_lookUp 10 = .ok (.putfield 29, 3) := by decide +kernel
theorem dX2_lookUp_13 : decode cX2_lookUp 13 = .ok (.aload_n 0, 1) := by decide +kernel
theorem dX2_lookUp_14 : decode cX2_lookUp 14 = .ok (.aload_n 1, 1) := by decide +kernel
theorem dX2_lookUp_15 : decode cX2_lookUp 15 = .ok (.iconst 1, 1) := by decide +kernel
theorem dX2_lookUp_16 : decode cX2_lookUp 16 = .ok (.invokevirtual 82, 3) := by decide +kernel
theorem dX2_lookUp_19 : decode cX2_lookUp 19 = .ok (.putfield 32, 3) := by decide +kernel
theorem dX2_lookUp_22 : decode cX2_lookUp 22 = .ok (.iconst 0, 1) := by decide +kernel
theorem dX2_lookUp_23 : decode cX2_lookUp 23 = .ok (.istore 5, 2) := by decide +kernel
theorem dX2_lookUp_25 : decode cX2_lookUp 25 = .ok (.iload 5, 2) := by decide +kernel
theorem dX2_lookUp_27 : decode cX2_lookUp 27 = .ok (.aload_n 0, 1) := by decide +kernel
theorem dX2_lookUp_28 : decode cX2_lookUp 28 = .ok (.getfield 29, 3) := by decide +kernel
theorem dX2_lookUp_31 : decode cX2_lookUp 31 = .ok (.if_icmp .ge 91, 3) := by decide +kernel
theorem dX2_lookUp_34 : decode cX2_lookUp 34 = .ok (.iconst 1, 1) := by decide +kernel
theorem dX2_lookUp_35 : decode cX2_lookUp 35 = .ok (.istore 6, 2) := by decide +kernel
theorem dX2_lookUp_37 : decode cX2_lookUp 37 = .ok (.iload 6, 2) := by decide +kernel
theorem dX2_lookUp_39 : decode cX2_lookUp 39 = .ok (.aload_n 0, 1) := by decide +kernel
theorem dX2_lookUp_40 : decode cX2_lookUp 40 = .ok (.iload 5, 2) := by decide +kernel
theorem dX2_lookUp_42 : decode cX2_lookUp 42 = .ok (.invokevirtual 67, 3) := by decide +kernel
theorem dX2_lookUp_45 : decode cX2_lookUp 45 = .ok (.if_icmp .gt 71, 3) := by decide +kernel
theorem dX2_lookUp_48 : decode cX2_lookUp 48 = .ok (.aload_n 1, 1) := by decide +kernel
theorem dX2_lookUp_49 : decode cX2_lookUp 49 = .ok (.getfield 87, 3) := by decide +kernel
theorem dX2_lookUp_52 : decode cX2_lookUp 52 = .ok (.aload_n 0, 1) := by decide +kernel
theorem dX2_lookUp_53 : decode cX2_lookUp 53 = .ok (.getfield 25, 3) := by decide +kernel
theorem dX2_lookUp_56 : decode cX2_lookUp 56 = .ok (.iload 5, 2) := by decide +kernel
theorem dX2_lookUp_58 : decode cX2_lookUp 58 = .ok (.iload 6, 2) := by decide +kernel
theorem dX2_lookUp_60 : decode cX2_lookUp 60 = .ok (.invokestatic 91, 3) := by decide +kernel
theorem dX2_lookUp_63 : decode cX2_lookUp 63 = .ok (.invokevirtual 95, 3) := by decide +kernel
theorem dX2_lookUp_66 : decode cX2_lookUp 66 = .ok (.iconst (-1), 1) := by decide +kernel
theorem dX2_lookUp_67 : decode cX2_lookUp 67 = .ok (.if_icmp .eq 17, 3) := by decide +kernel
theorem dX2_lookUp_70 : decode cX2_lookUp 70 = .ok (.aload_n 0, 1) := by decide +kernel
theorem dX2_lookUp_71 : decode cX2_lookUp 71 = .ok (.getfield 37, 3) := by decide +kernel
theorem dX2_lookUp_74 : decode cX2_lookUp 74 = .ok (.iload 5, 2) := by decide +kernel
theorem dX2_lookUp_76 : decode cX2_lookUp 76 = .ok (.aaload, 1) := by decide +kernel
theorem dX2_lookUp_77 : decode cX2_lookUp 77 = .ok (.iload 6, 2) := by decide +kernel
theorem dX2_lookUp_79 : decode cX2_lookUp 79 = .ok (.iconst 0, 1) := by decide +kernel
theorem dX2_lookUp_80 : decode cX2_lookUp 80 = .ok (.iastore, 1) := by decide +kernel
theorem dX2_lookUp_81 : decode cX2_lookUp 81 = .ok (.goto 29, 3) := by decide +kernel
theorem dX2_lookUp_84 : decode cX2_lookUp 84 = .ok (.aload_n 0, 1) := by decide +kernel
theorem dX2_lookUp_85 : decode cX2_lookUp 85 = .ok (.getfield 37, 3) := by decide +kernel
theorem dX2_lookUp_88 : decode cX2_lookUp 88 = .ok (.iload 5, 2) := by decide +kernel
theorem dX2_lookUp_90 : decode cX2_lookUp 90 = .ok (.aaload, 1) := by decide +kernel
theorem dX2_lookUp_91 : decode cX2_lookUp 91 = .ok (.iload 6, 2) := by decide +kernel
theorem dX2_lookUp_93 : decode cX2_lookUp 93 = .ok (.iload 4, 2) := by decide +kernel
theorem dX2_lookUp_95 : decode cX2_lookUp 95 = .ok (.ifCond .eq 12, 3) := by decide +kernel
theorem dX2_lookUp_98 : decode cX2_lookUp 98 = .ok (.aload_n 1, 1) := by decide +kernel
theorem dX2_lookUp_99 : decode cX2_lookUp 99 = .ok (.iload 6, 2) := by decide +kernel
theorem dX2_lookUp_101 : decode cX2_lookUp 101 = .ok (.invokevirtual 100, 3) := by decide +kernel
theorem dX2_lookUp_104 : decode cX2_lookUp 104 = .ok (.goto 5, 3) := by decide +kernel
theorem dX2_lookUp_107 : decode cX2_lookUp 107 = .ok (.ldc 71, 2) := by decide +kernel
theorem dX2_lookUp_109 : decode cX2_lookUp 109 = .ok (.iastore, 1) := by decide +kernel
theorem dX2_lookUp_110 : decode cX2_lookUp 110 = .ok (.iinc 6 1, 3) := by decide +kernel
theorem dX2_lookUp_113 : decode cX2_lookUp 113 = .ok (.goto (-76), 3) := by decide +kernel
theorem dX2_lookUp_116 : decode cX2_lookUp 116 = .ok (.iinc 5 1, 3) := by decide +kernel
theorem dX2_lookUp_119 : decode cX2_lookUp 119 = .ok (.goto (-94), 3) := by decide +kernel
theorem dX2_lookUp_122 : decode cX2_lookUp 122 = .ok (.return_, 1) := by decide +kernel
theorem dX2_longestAt_0 : decode cX2_longestAt 0 = .ok (.bipush 6, 2) := by decide +kernel
theorem dX2_longestAt_2 : decode cX2_longestAt 2 = .ok (.aload_n 0, 1) := by decide +kernel
theorem dX2_longestAt_3 : decode cX2_longestAt 3 = .ok (.getfield 29, 3) := by decide +kernel
theorem dX2_longestAt_6 : decode cX2_longestAt 6 = .ok (.iload_n 1, 1) := by decide +kernel
theorem dX2_longestAt_7 : decode cX2_longestAt 7 = .ok (.isub, 1) := by decide +kernel
theorem dX2_longestAt_8 : decode cX2_longestAt 8 = .ok (.invokestatic 103, 3) := by decide +kernel
theorem dX2_longestAt_11 : decode cX2_longestAt 11 = .ok (.ireturn, 1) := by decide +kernel
set_option maxRecDepth 20000 in
theorem ggX2_setSurcharge_X4_section : GoodIn wsX2_setSurcharge wsX4_section := goodIn_r _ [7] (by decide +kernel) (by decide +kernel)
set_option maxRecDepth 20000 in
theorem gX2_setSurcharge_X4_section : GoodIn wsX2_setSurcharge (va_wsS RX2 91 yX4_section wsX4_section) := goodIn_app (goodIn_of _ (by decide +kernel)) ggX2_setSurcharge_X4_section
theorem dX2_setSurcharge_0 : decode cX2_setSurcharge 0 = .ok (.iconst 0, 1) := by decide +kernel
theorem dX2_setSurcharge_1 : decode cX2_setSurcharge 1 = .ok (.istore 5, 2) := by decide +kernel
theorem dX2_setSurcharge_3 : decode cX2_setSurcharge 3 = .ok (.iconst 0, 1) := by decide +kernel
theorem dX2_setSurcharge_4 : decode cX2_setSurcharge 4 = .ok (.istore 6, 2) := by decide +kernel
theorem dX2_setSurcharge_6 : decode cX2_setSurcharge 6 = .ok (.iload 6, 2) := by decide +kernel
theorem dX2_setSurcharge_8 : decode cX2_setSurcharge 8 = .ok (.iload_n 3, 1) := by decide +kernel
theorem dX2_setSurcharge_9 : decode cX2_setSurcharge 9 = .ok (.iadd, 1) := by decide +kernel
theorem dX2_setSurcharge_10 : decode cX2_setSurcharge 10 = .ok (.aload_n 0, 1) := by decide +kernel
theorem dX2_setSurcharge_11 : decode cX2_setSurcharge 11 = .ok (.getfield 29, 3) := by decide +kernel
theorem dX2_setSurcharge_14 : decode cX2_setSurcharge 14 = .ok (.if_icmp .gt 38, 3) := by decide +kernel
theorem dX2_setSurcharge_17 : decode cX2_setSurcharge 17 = .ok (.aload_n 0, 1) := by decide +kernel
theorem dX2_setSurcharge_18 : decode cX2_setSurcharge 18 = .ok (.getfield 25, 3) := by decide +kernel
theorem dX2_setSurcharge_21 : decode cX2_setSurcharge 21 = .ok (.iload 6, 2) := by decide +kernel
theorem dX2_setSurcharge_23 : decode cX2_setSurcharge 23 = .ok (.iload_n 3, 1) := by decide +kernel
theorem dX2_setSurcharge_24 : decode cX2_setSurcharge 24 = .ok (.invokestatic 91, 3) := by decide +kernel
theorem dX2_setSurcharge_27 : decode cX2_setSurcharge 27 = .ok (.lload_n 1, 1) := by decide +kernel
theorem dX2_setSurcharge_28 : decode cX2_setSurcharge 28 = .ok (.lcmp, 1) := by decide +kernel
theorem dX2_setSurcharge_29 : decode cX2_setSurcharge 29 = .ok (.ifCond .ne 17, 3) := by decide +kernel
theorem dX2_setSurcharge_32 : decode cX2_setSurcharge 32 = .ok (.aload_n 0, 1) := by decide +kernel
theorem dX2_setSurcharge_33 : decode cX2_setSurcharge 33 = .ok (.getfield 37, 3) := by decide +kernel
theorem dX2_setSurcharge_36 : decode cX2_setSurcharge 36 = .ok (.iload 6, 2) := by decide +kernel
theorem dX2_setSurcharge_38 : decode cX2_setSurcharge 38 = .ok (.aaload, 1) := by decide +kernel
theorem dX2_setSurcharge_39 : decode cX2_setSurcharge 39 = .ok (.iload_n 3, 1) := by decide +kernel
theorem dX2_setSurcharge_40 : decode cX2_setSurcharge 40 = .ok (.iload 4, 2) := by decide +kernel
theorem dX2_setSurcharge_42 : decode cX2_setSurcharge 42 = .ok (.iastore, 1) := by decide +kernel
theorem dX2_setSurcharge_43 : decode cX2_setSurcharge 43 = .ok (.iconst 1, 1) := by decide +kernel
theorem dX2_setSurcharge_44 : decode cX2_setSurcharge 44 = .ok (.istore 5, 2) := by decide +kernel
theorem dX2_setSurcharge_46 : decode cX2_setSurcharge 46 = .ok (.iinc 6 1, 3) := by decide +kernel
theorem dX2_setSurcharge_49 : decode cX2_setSurcharge 49 = .ok (.goto (-43), 3) := by decide +kernel
theorem dX2_setSurcharge_52 : decode cX2_setSurcharge 52 = .ok (.iload 5, 2) := by decide +kernel
theorem dX2_setSurcharge_54 : decode cX2_setSurcharge 54 = .ok (.ireturn, 1) := by decide +kernel
set_option maxRecDepth 20000 in
theorem ggX2_solve_X2_longestAt : GoodIn wsX2_solve wsX2_longestAt := goodIn_r _ [10, 2, 11, 12, 13, 14, 21, 22, 23, 24, 25, 26, 27, 28, 29, 30, 31, 32] (by decide +kernel) (by decide +kernel)
set_option maxRecDepth 20000 in
theorem gX2_solve_X2_longestAt : GoodIn wsX2_solve (wsV RX2 67 RX2 yX2_longestAt wsX2_longestAt) := goodIn_app (goodIn_of _ (by decide +kernel)) ggX2_solve_X2_longestAt
set_option maxRecDepth 20000 in
theorem ggX2_solve_X2_tryFirst : GoodIn wsX2_solve wsX2_tryFirst := goodIn_r _ [18, 19, 20, 1, 3, 4, 5, 21, 22, 23, 24, 25, 26, 27, 28, 29, 30, 31, 32] (by decide +kernel) (by decide +kernel)
set_option maxRecDepth 20000 in
theorem gX2_solve_X2_tryFirst : GoodIn wsX2_solve (wsV RX2 109 RX2 yX2_tryFirst wsX2_tryFirst) := goodIn_app (goodIn_of _ (by decide +kernel)) ggX2_solve_X2_tryFirst
theorem dX2_solve_0 : decode cX2_solve 0 = .ok (.aload_n 0, 1) := by decide +kernel
theorem dX2_solve_1 : decode cX2_solve 1 = .ok (.getfield 40, 3) := by decide +kernel
theorem dX2_solve_4 : decode cX2_solve 4 = .ok (.aload_n 0, 1) := by decide +kernel
theorem dX2_solve_5 : decode cX2_solve 5 = .ok (.getfield 29, 3) := by decide +kernel
theorem dX2_solve_8 : decode cX2_solve 8 = .ok (.iconst 0, 1) := by decide +kernel
theorem dX2_solve_9 : decode cX2_solve 9 = .ok (.iastore, 1) := by decide +kernel
theorem dX2_solve_10 : decode cX2_solve 10 = .ok (.aload_n 0, 1) := by decide +kernel
theorem dX2_solve_11 : decode cX2_solve 11 = .ok (.getfield 44, 3) := by decide +kernel
theorem dX2_solve_14 : decode cX2_solve 14 = .ok (.aload_n 0, 1) := by decide +kernel
theorem dX2_solve_15 : decode cX2_solve 15 = .ok (.getfield 29, 3) := by decide +kernel
theorem dX2_solve_18 : decode cX2_solve 18 = .ok (.iconst 0, 1) := by decide +kernel
theorem dX2_solve_19 : decode cX2_solve 19 = .ok (.iastore, 1) := by decide +kernel
theorem dX2_solve_20 : decode cX2_solve 20 = .ok (.aload_n 0, 1) := by decide +kernel
theorem dX2_solve_21 : decode cX2_solve 21 = .ok (.getfield 29, 3) := by decide +kernel
theorem dX2_solve_24 : decode cX2_solve 24 = .ok (.iconst 1, 1) := by decide +kernel
theorem dX2_solve_25 : decode cX2_solve 25 = .ok (.isub, 1) := by decide +kernel
theorem dX2_solve_26 : decode cX2_solve 26 = .ok (.istore_n 1, 1) := by decide +kernel
theorem dX2_solve_27 : decode cX2_solve 27 = .ok (.iload_n 1, 1) := by decide +kernel
theorem dX2_solve_28 : decode cX2_solve 28 = .ok (.ifCond .lt 54, 3) := by decide +kernel
theorem dX2_solve_31 : decode cX2_solve 31 = .ok (.aload_n 0, 1) := by decide +kernel
theorem dX2_solve_32 : decode cX2_solve 32 = .ok (.getfield 40, 3) := by decide +kernel
theorem dX2_solve_35 : decode cX2_solve 35 = .ok (.iload_n 1, 1) := by decide +kernel
theorem dX2_solve_36 : decode cX2_solve 36 = .ok (.ldc 71, 2) := by decide +kernel
theorem dX2_solve_38 : decode cX2_solve 38 = .ok (.iastore, 1) := by decide +kernel
theorem dX2_solve_39 : decode cX2_solve 39 = .ok (.aload_n 0, 1) := by decide +kernel
theorem dX2_solve_40 : decode cX2_solve 40 = .ok (.getfield 44, 3) := by decide +kernel
theorem dX2_solve_43 : decode cX2_solve 43 = .ok (.iload_n 1, 1) := by decide +kernel
theorem dX2_solve_44 : decode cX2_solve 44 = .ok (.iconst 0, 1) := by decide +kernel
theorem dX2_solve_45 : decode cX2_solve 45 = .ok (.iastore, 1) := by decide +kernel
theorem dX2_solve_46 : decode cX2_solve 46 = .ok (.aload_n 0, 1) := by decide +kernel
theorem dX2_solve_47 : decode cX2_solve 47 = .ok (.getfield 47, 3) := by decide +kernel
theorem dX2_solve_50 : decode cX2_solve 50 = .ok (.iload_n 1, 1) := by decide +kernel
theorem dX2_solve_51 : decode cX2_solve 51 = .ok (.iconst 0, 1) := by decide +kernel
theorem dX2_solve_52 : decode cX2_solve 52 = .ok (.iastore, 1) := by decide +kernel
theorem dX2_solve_53 : decode cX2_solve 53 = .ok (.aload_n 0, 1) := by decide +kernel
theorem dX2_solve_54 : decode cX2_solve 54 = .ok (.iload_n 1, 1) := by decide +kernel
theorem dX2_solve_55 : decode cX2_solve 55 = .ok (.invokevirtual 67, 3) := by decide +kernel
theorem dX2_solve_58 : decode cX2_solve 58 = .ok (.istore_n 2, 1) := by decide +kernel
theorem dX2_solve_59 : decode cX2_solve 59 = .ok (.iload_n 2, 1) := by decide +kernel
theorem dX2_solve_60 : decode cX2_solve 60 = .ok (.iconst 1, 1) := by decide +kernel
theorem dX2_solve_61 : decode cX2_solve 61 = .ok (.if_icmp .lt 15, 3) := by decide +kernel
theorem dX2_solve_64 : decode cX2_solve 64 = .ok (.aload_n 0, 1) := by decide +kernel
theorem dX2_solve_65 : decode cX2_solve 65 = .ok (.iload_n 1, 1) := by decide +kernel
theorem dX2_solve_66 : decode cX2_solve 66 = .ok (.iload_n 2, 1) := by decide +kernel
theorem dX2_solve_67 : decode cX2_solve 67 = .ok (.invokevirtual 109, 3) := by decide +kernel
theorem dX2_solve_70 : decode cX2_solve 70 = .ok (.iinc 2 (-1), 3) := by decide +kernel
theorem dX2_solve_73 : decode cX2_solve 73 = .ok (.goto (-14), 3) := by decide +kernel
theorem dX2_solve_76 : decode cX2_solve 76 = .ok (.iinc 1 (-1), 3) := by decide +kernel
theorem dX2_solve_79 : decode cX2_solve 79 = .ok (.goto (-52), 3) := by decide +kernel
theorem dX2_solve_82 : decode cX2_solve 82 = .ok (.return_, 1) := by decide +kernel
theorem dX2_tryFirst_0 : decode cX2_tryFirst 0 = .ok (.aload_n 0, 1) := by decide +kernel
theorem dX2_tryFirst_1 : decode cX2_tryFirst 1 = .ok (.getfield 32, 3) := by decide +kernel
theorem dX2_tryFirst_4 : decode cX2_tryFirst 4 = .ok (.aload_n 0, 1) := by decide +kernel
theorem dX2_tryFirst_5 : decode cX2_tryFirst 5 = .ok (.getfield 37, 3) := by decide +kernel
theorem dX2_tryFirst_8 : decode cX2_tryFirst 8 = .ok (.iload_n 1, 1) := by decide +kernel
theorem dX2_tryFirst_9 : decode cX2_tryFirst 9 = .ok (.aaload, 1) := by decide +kernel
theorem dX2_tryFirst_10 : decode cX2_tryFirst 10 = .ok (.iload_n 2, 1) := by decide +kernel
theorem dX2_tryFirst_11 : decode cX2_tryFirst 11 = .ok (.iaload, 1) := by decide +kernel
theorem dX2_tryFirst_12 : decode cX2_tryFirst 12 = .ok (.iadd, 1) := by decide +kernel
theorem dX2_tryFirst_13 : decode cX2_tryFirst 13 = .ok (.aload_n 0, 1) := by decide +kernel
theorem dX2_tryFirst_14 : decode cX2_tryFirst 14 = .ok (.getfield 40, 3) := by decide +kernel
theorem dX2_tryFirst_17 : decode cX2_tryFirst 17 = .ok (.iload_n 1, 1) := by decide +kernel
theorem dX2_tryFirst_18 : decode cX2_tryFirst 18 = .ok (.iload_n 2, 1) := by decide +kernel
theorem dX2_tryFirst_19 : decode cX2_tryFirst 19 = .ok (.iadd, 1) := by decide +kernel
theorem dX2_tryFirst_20 : decode cX2_tryFirst 20 = .ok (.iaload, 1) := by decide +kernel
theorem dX2_tryFirst_21 : decode cX2_tryFirst 21 = .ok (.iadd, 1) := by decide +kernel
theorem dX2_tryFirst_22 : decode cX2_tryFirst 22 = .ok (.istore_n 3, 1) := by decide +kernel
theorem dX2_tryFirst_23 : decode cX2_tryFirst 23 = .ok (.iconst 1, 1) := by decide +kernel
theorem dX2_tryFirst_24 : decode cX2_tryFirst 24 = .ok (.aload_n 0, 1) := by decide +kernel
theorem dX2_tryFirst_25 : decode cX2_tryFirst 25 = .ok (.getfield 44, 3) := by decide +kernel
theorem dX2_tryFirst_28 : decode cX2_tryFirst 28 = .ok (.iload_n 1, 1) := by decide +kernel
theorem dX2_tryFirst_29 : decode cX2_tryFirst 29 = .ok (.iload_n 2, 1) := by decide +kernel
theorem dX2_tryFirst_30 : decode cX2_tryFirst 30 = .ok (.iadd, 1) := by decide +kernel
theorem dX2_tryFirst_31 : decode cX2_tryFirst 31 = .ok (.iaload, 1) := by decide +kernel
theorem dX2_tryFirst_32 : decode cX2_tryFirst 32 = .ok (.iadd, 1) := by decide +kernel
theorem dX2_tryFirst_33 : decode cX2_tryFirst 33 = .ok (.istore 4, 2) := by decide +kernel
theorem dX2_tryFirst_35 : decode cX2_tryFirst 35 = .ok (.iload_n 3, 1) := by decide +kernel
theorem dX2_tryFirst_36 : decode cX2_tryFirst 36 = .ok (.ldc 71, 2) := by decide +kernel
theorem dX2_tryFirst_38 : decode cX2_tryFirst 38 = .ok (.if_icmp .ge 13, 3) := by decide +kernel
theorem dX2_tryFirst_41 : decode cX2_tryFirst 41 = .ok (.iload_n 3, 1) := by decide +kernel
theorem dX2_tryFirst_42 : decode cX2_tryFirst 42 = .ok (.aload_n 0, 1) := by decide +kernel
theorem dX2_tryFirst_43 : decode cX2_tryFirst 43 = .ok (.getfield 40, 3) := by decide +kernel
theorem dX2_tryFirst_46 : decode cX2_tryFirst 46 = .ok (.iload_n 1, 1) := by decide +kernel
theorem dX2_tryFirst_47 : decode cX2_tryFirst 47 = .ok (.iaload, 1) := by decide +kernel
theorem dX2_tryFirst_48 : decode cX2_tryFirst 48 = .ok (.if_icmp .le 4, 3) := by decide +kernel
theorem dX2_tryFirst_51 : decode cX2_tryFirst 51 = .ok (.return_, 1) := by decide +kernel
theorem dX2_tryFirst_52 : decode cX2_tryFirst 52 = .ok (.iload_n 3, 1) := by decide +kernel
theorem dX2_tryFirst_53 : decode cX2_tryFirst 53 = .ok (.aload_n 0, 1) := by decide +kernel
theorem dX2_tryFirst_54 : decode cX2_tryFirst 54 = .ok (.getfield 40, 3) := by decide +kernel
theorem dX2_tryFirst_57 : decode cX2_tryFirst 57 = .ok (.iload_n 1, 1) := by decide +kernel
theorem dX2_tryFirst_58 : decode cX2_tryFirst 58 = .ok (.iaload, 1) := by decide +kernel
theorem dX2_tryFirst_59 : decode cX2_tryFirst 59 = .ok (.if_icmp .lt 14, 3) := by decide +kernel
theorem dX2_tryFirst_62 : decode cX2_tryFirst 62 = .ok (.iload 4, 2) := by decide +kernel
theorem dX2_tryFirst_64 : decode cX2_tryFirst 64 = .ok (.aload_n 0, 1) := by decide +kernel
theorem dX2_tryFirst_65 : decode cX2_tryFirst 65 = .ok (.getfield 44, 3) := by decide +kernel
theorem dX2_tryFirst_68 : decode cX2_tryFirst 68 = .ok (.iload_n 1, 1) := by decide +kernel
theorem dX2_tryFirst_69 : decode cX2_tryFirst 69 = .ok (.iaload, 1) := by decide +kernel
theorem dX2_tryFirst_70 : decode cX2_tryFirst 70 = .ok (.if_icmp .ge 25, 3) := by decide +kernel
theorem dX2_tryFirst_73 : decode cX2_tryFirst 73 = .ok (.aload_n 0, 1) := by decide +kernel
theorem dX2_tryFirst_74 : decode cX2_tryFirst 74 = .ok (.getfield 40, 3) := by decide +kernel
theorem dX2_tryFirst_77 : decode cX2_tryFirst 77 = .ok (.iload_n 1, 1) := by decide +kernel
theorem dX2_tryFirst_78 : decode cX2_tryFirst 78 = .ok (.iload_n 3, 1) := by decide +kernel
theorem dX2_tryFirst_79 : decode cX2_tryFirst 79 = .ok (.iastore, 1) := by decide +kernel
theorem dX2_tryFirst_80 : decode cX2_tryFirst 80 = .ok (.aload_n 0, 1) := by decide +kernel
theorem dX2_tryFirst_81 : decode cX2_tryFirst 81 = .ok (.getfield 44, 3) := by decide +kernel
theorem dX2_tryFirst_84 : decode cX2_tryFirst 84 = .ok (.iload_n 1, 1) := by decide +kernel
theorem dX2_tryFirst_85 : decode cX2_tryFirst 85 = .ok (.iload 4, 2) := by decide +kernel
theorem dX2_tryFirst_87 : decode cX2_tryFirst 87 = .ok (.iastore, 1) := by decide +kernel
theorem dX2_tryFirst_88 : decode cX2_tryFirst 88 = .ok (.aload_n 0, 1) := by decide +kernel
theorem dX2_tryFirst_89 : decode cX2_tryFirst 89 = .ok (.getfield 47, 3) := by decide +kernel
theorem dX2_tryFirst_92 : decode cX2_tryFirst 92 = .ok (.iload_n 1, 1) := by decide +kernel
theorem dX2_tryFirst_93 : decode cX2_tryFirst 93 = .ok (.iload_n 2, 1) := by decide +kernel
theorem dX2_tryFirst_94 : decode cX2_tryFirst 94 = .ok (.iastore, 1) := by decide +kernel
theorem dX2_tryFirst_95 : decode cX2_tryFirst 95 = .ok (.return_, 1) := by decide +kernel
set_option maxRecDepth 20000 in
theorem ggX2_collectParts_X4_section : GoodIn wsX2_collectParts wsX4_section := goodIn_r _ [9] (by decide +kernel) (by decide +kernel)
set_option maxRecDepth 20000 in
theorem gX2_collectParts_X4_section : GoodIn wsX2_collectParts (va_wsS RX2 91 yX4_section wsX4_section) := goodIn_app (goodIn_of _ (by decide +kernel)) ggX2_collectParts_X4_section
theorem dX2_collectParts_0 : decode cX2_collectParts 0 = .ok (.aload_n 0, 1) := by decide +kernel
theorem dX2_collectParts_1 : decode cX2_collectParts 1 = .ok (.iconst 0, 1) := by decide +kernel
theorem dX2_collectParts_2 : decode cX2_collectParts 2 = .ok (.putfield 9, 3) := by decide +kernel
theorem dX2_collectParts_5 : decode cX2_collectParts 5 = .ok (.iconst 0, 1) := by decide +kernel
theorem dX2_collectParts_6 : decode cX2_collectParts 6 = .ok (.istore_n 1, 1) := by decide +kernel
theorem dX2_collectParts_7 : decode cX2_collectParts 7 = .ok (.iload_n 1, 1) := by decide +kernel
theorem dX2_collectParts_8 : decode cX2_collectParts 8 = .ok (.aload_n 0, 1) := by decide +kernel
theorem dX2_collectParts_9 : decode cX2_collectParts 9 = .ok (.getfield 29, 3) := by decide +kernel
theorem dX2_collectParts_12 : decode cX2_collectParts 12 = .ok (.if_icmp .ge 66, 3) := by decide +kernel
theorem dX2_collectParts_15 : decode cX2_collectParts 15 = .ok (.aload_n 0, 1) := by decide +kernel
theorem dX2_collectParts_16 : decode cX2_collectParts 16 = .ok (.getfield 9, 3) := by decide +kernel
theorem dX2_collectParts_19 : decode cX2_collectParts 19 = .ok (.bipush 12, 2) := by decide +kernel
theorem dX2_collectParts_21 : decode cX2_collectParts 21 = .ok (.if_icmp .ge 57, 3) := by decide +kernel
theorem dX2_collectParts_24 : decode cX2_collectParts 24 = .ok (.aload_n 0, 1) := by decide +kernel
theorem dX2_collectParts_25 : decode cX2_collectParts 25 = .ok (.getfield 47, 3) := by decide +kernel
theorem dX2_collectParts_28 : decode cX2_collectParts 28 = .ok (.iload_n 1, 1) := by decide +kernel
theorem dX2_collectParts_29 : decode cX2_collectParts 29 = .ok (.iaload, 1) := by decide +kernel
theorem dX2_collectParts_30 : decode cX2_collectParts 30 = .ok (.ifCond .le 48, 3) := by decide +kernel
theorem dX2_collectParts_33 : decode cX2_collectParts 33 = .ok (.aload_n 0, 1) := by decide +kernel
theorem dX2_collectParts_34 : decode cX2_collectParts 34 = .ok (.getfield 15, 3) := by decide +kernel
theorem dX2_collectParts_37 : decode cX2_collectParts 37 = .ok (.aload_n 0, 1) := by decide +kernel
theorem dX2_collectParts_38 : decode cX2_collectParts 38 = .ok (.getfield 9, 3) := by decide +kernel
theorem dX2_collectParts_41 : decode cX2_collectParts 41 = .ok (.aload_n 0, 1) := by decide +kernel
theorem dX2_collectParts_42 : decode cX2_collectParts 42 = .ok (.getfield 25, 3) := by decide +kernel
theorem dX2_collectParts_45 : decode cX2_collectParts 45 = .ok (.iload_n 1, 1) := by decide +kernel
theorem dX2_collectParts_46 : decode cX2_collectParts 46 = .ok (.aload_n 0, 1) := by decide +kernel
theorem dX2_collectParts_47 : decode cX2_collectParts 47 = .ok (.getfield 47, 3) := by decide +kernel
theorem dX2_collectParts_50 : decode cX2_collectParts 50 = .ok (.iload_n 1, 1) := by decide +kernel
theorem dX2_collectParts_51 : decode cX2_collectParts 51 = .ok (.iaload, 1) := by decide +kernel
theorem dX2_collectParts_52 : decode cX2_collectParts 52 = .ok (.invokestatic 91, 3) := by decide +kernel
theorem dX2_collectParts_55 : decode cX2_collectParts 55 = .ok (.lastore, 1) := by decide +kernel
theorem dX2_collectParts_56 : decode cX2_collectParts 56 = .ok (.iload_n 1, 1) := by decide +kernel
theorem dX2_collectParts_57 : decode cX2_collectParts 57 = .ok (.aload_n 0, 1) := by decide +kernel
theorem dX2_collectParts_58 : decode cX2_collectParts 58 = .ok (.getfield 47, 3) := by decide +kernel
theorem dX2_collectParts_61 : decode cX2_collectParts 61 = .ok (.iload_n 1, 1) := by decide +kernel
theorem dX2_collectParts_62 : decode cX2_collectParts 62 = .ok (.iaload, 1) := by decide +kernel
theorem dX2_collectParts_63 : decode cX2_collectParts 63 = .ok (.iadd, 1) := by decide +kernel
theorem dX2_collectParts_64 : decode cX2_collectParts 64 = .ok (.istore_n 1, 1) := by decide +kernel
theorem dX2_collectParts_65 : decode cX2_collectParts 65 = .ok (.aload_n 0, 1) := by decide +kernel
theorem dX2_collectParts_66 : decode cX2_collectParts 66 = .ok (.dup, 1) := by decide +kernel
theorem dX2_collectParts_67 : decode cX2_collectParts 67 = .ok (.getfield 9, 3) := by decide +kernel
theorem dX2_collectParts_70 : decode cX2_collectParts 70 = .ok (.iconst 1, 1) := by decide +kernel
theorem dX2_collectParts_71 : decode cX2_collectParts 71 = .ok (.iadd, 1) := by decide +kernel
theorem dX2_collectParts_72 : decode cX2_collectParts 72 = .ok (.putfield 9, 3) := by decide +kernel
theorem dX2_collectParts_75 : decode cX2_collectParts 75 = .ok (.goto (-68), 3) := by decide +kernel
theorem dX2_collectParts_78 : decode cX2_collectParts 78 = .ok (.return_, 1) := by decide +kernel
set_option maxRecDepth 20000 in
theorem ggX2_countNew_X6_numberOf : GoodIn wsX2_countNew wsX6_numberOf := goodIn_r _ [10, 11, 12, 48, 49, 50, 51, 52, 53] (by decide +kernel) (by decide +kernel)
set_option maxRecDepth 20000 in
theorem gX2_countNew_X6_numberOf : GoodIn wsX2_countNew (wsV RX2 95 RX6 yX6_numberOf wsX6_numberOf) := goodIn_app (goodIn_of _ (by decide +kernel)) ggX2_countNew_X6_numberOf
set_option maxRecDepth 20000 in
theorem ggX2_countNew_X2_occursBefore : GoodIn wsX2_countNew wsX2_occursBefore := goodIn_r _ [17, 5, 28, 29, 30, 31, 32, 33, 34, 35, 36, 37, 38, 39] (by decide +kernel) (by decide +kernel)
set_option maxRecDepth 20000 in
theorem gX2_countNew_X2_occursBefore : GoodIn wsX2_countNew (wsV RX2 113 RX2 yX2_occursBefore wsX2_occursBefore) := goodIn_app (goodIn_of _ (by decide +kernel)) ggX2_countNew_X2_occursBefore
set_option maxRecDepth 20000 in
theorem ggX2_countNew_X4_lengthOf : GoodIn wsX2_countNew wsX4_lengthOf := goodIn_r _ [21] (by decide +kernel) (by decide +kernel)
set_option maxRecDepth 20000 in
theorem gX2_countNew_X4_lengthOf : GoodIn wsX2_countNew (va_wsS RX2 76 yX4_lengthOf wsX4_lengthOf) := goodIn_app (goodIn_of _ (by decide +kernel)) ggX2_countNew_X4_lengthOf
set_option maxRecDepth 20000 in
theorem ggX2_countNew_X1_newPrice : GoodIn wsX2_countNew wsX1_newPrice := goodIn_r _ [26, 27, 40, 41, 42, 43, 44, 45, 46, 47] (by decide +kernel) (by decide +kernel)
set_option maxRecDepth 20000 in
theorem gX2_countNew_X1_newPrice : GoodIn wsX2_countNew (wsV RX2 100 RX1 yX1_newPrice wsX1_newPrice) := goodIn_app (goodIn_of _ (by decide +kernel)) ggX2_countNew_X1_newPrice
theorem dX2_countNew_0 : decode cX2_countNew 0 = .ok (.aload_n 0, 1) := by decide +kernel
theorem dX2_countNew_1 : decode cX2_countNew 1 = .ok (.iconst 0, 1) := by decide +kernel
theorem dX2_countNew_2 : decode cX2_countNew 2 = .ok (.putfield 19, 3) := by decide +kernel
theorem dX2_countNew_5 : decode cX2_countNew 5 = .ok (.aload_n 0, 1) := by decide +kernel
theorem dX2_countNew_6 : decode cX2_countNew 6 = .ok (.iconst 0, 1) := by decide +kernel
theorem dX2_countNew_7 : decode cX2_countNew 7 = .ok (.putfield 22, 3) := by decide +kernel
theorem dX2_countNew_10 : decode cX2_countNew 10 = .ok (.iconst 0, 1) := by decide +kernel
theorem dX2_countNew_11 : decode cX2_countNew 11 = .ok (.istore_n 2, 1) := by decide +kernel
theorem dX2_countNew_12 : decode cX2_countNew 12 = .ok (.iload_n 2, 1) := by decide +kernel
theorem dX2_countNew_13 : decode cX2_countNew 13 = .ok (.aload_n 0, 1) := by decide +kernel
theorem dX2_countNew_14 : decode cX2_countNew 14 = .ok (.getfield 9, 3) := by decide +kernel
theorem dX2_countNew_17 : decode cX2_countNew 17 = .ok (.if_icmp .ge 66, 3) := by decide +kernel
theorem dX2_countNew_20 : decode cX2_countNew 20 = .ok (.aload_n 1, 1) := by decide +kernel
theorem dX2_countNew_21 : decode cX2_countNew 21 = .ok (.getfield 87, 3) := by decide +kernel
theorem dX2_countNew_24 : decode cX2_countNew 24 = .ok (.aload_n 0, 1) := by decide +kernel
theorem dX2_countNew_25 : decode cX2_countNew 25 = .ok (.getfield 15, 3) := by decide +kernel
theorem dX2_countNew_28 : decode cX2_countNew 28 = .ok (.iload_n 2, 1) := by decide +kernel
theorem dX2_countNew_29 : decode cX2_countNew 29 = .ok (.laload, 1) := by decide +kernel
theorem dX2_countNew_30 : decode cX2_countNew 30 = .ok (.invokevirtual 95, 3) := by decide +kernel
theorem dX2_countNew_33 : decode cX2_countNew 33 = .ok (.iconst (-1), 1) := by decide +kernel
theorem dX2_countNew_34 : decode cX2_countNew 34 = .ok (.if_icmp .ne 43, 3) := by decide +kernel
theorem dX2_countNew_37 : decode cX2_countNew 37 = .ok (.aload_n 0, 1) := by decide +kernel
theorem dX2_countNew_38 : decode cX2_countNew 38 = .ok (.iload_n 2, 1) := by decide +kernel
theorem dX2_countNew_39 : decode cX2_countNew 39 = .ok (.invokevirtual 113, 3) := by decide +kernel
theorem dX2_countNew_42 : decode cX2_countNew 42 = .ok (.ifCond .ne 35, 3) := by decide +kernel
theorem dX2_countNew_45 : decode cX2_countNew 45 = .ok (.aload_n 0, 1) := by decide +kernel
theorem dX2_countNew_46 : decode cX2_countNew 46 = .ok (.dup, 1) := by decide +kernel
theorem dX2_countNew_47 : decode cX2_countNew 47 = .ok (.getfield 19, 3) := by decide +kernel
theorem dX2_countNew_50 : decode cX2_countNew 50 = .ok (.iconst 1, 1) := by decide +kernel
theorem dX2_countNew_51 : decode cX2_countNew 51 = .ok (.iadd, 1) := by decide +kernel
theorem dX2_countNew_52 : decode cX2_countNew 52 = .ok (.putfield 19, 3) := by decide +kernel
theorem dX2_countNew_55 : decode cX2_countNew 55 = .ok (.aload_n 0, 1) := by decide +kernel
theorem dX2_countNew_56 : decode cX2_countNew 56 = .ok (.dup, 1) := by decide +kernel
theorem dX2_countNew_57 : decode cX2_countNew 57 = .ok (.getfield 22, 3) := by decide +kernel
theorem dX2_countNew_60 : decode cX2_countNew 60 = .ok (.aload_n 1, 1) := by decide +kernel
theorem dX2_countNew_61 : decode cX2_countNew 61 = .ok (.aload_n 0, 1) := by decide +kernel
theorem dX2_countNew_62 : decode cX2_countNew 62 = .ok (.getfield 15, 3) := by decide +kernel
theorem dX2_countNew_65 : decode cX2_countNew 65 = .ok (.iload_n 2, 1) := by decide +kernel
theorem dX2_countNew_66 : decode cX2_countNew 66 = .ok (.laload, 1) := by decide +kernel
theorem dX2_countNew_67 : decode cX2_countNew 67 = .ok (.invokestatic 76, 3) := by decide +kernel
theorem dX2_countNew_70 : decode cX2_countNew 70 = .ok (.invokevirtual 100, 3) := by decide +kernel
theorem dX2_countNew_73 : decode cX2_countNew 73 = .ok (.iadd, 1) := by decide +kernel
theorem dX2_countNew_74 : decode cX2_countNew 74 = .ok (.putfield 22, 3) := by decide +kernel
theorem dX2_countNew_77 : decode cX2_countNew 77 = .ok (.iinc 2 1, 3) := by decide +kernel
theorem dX2_countNew_80 : decode cX2_countNew 80 = .ok (.goto (-68), 3) := by decide +kernel
theorem dX2_countNew_83 : decode cX2_countNew 83 = .ok (.return_, 1) := by decide +kernel
theorem dX2_occursBefore_0 : decode cX2_occursBefore 0 = .ok (.iconst 0, 1) := by decide +kernel
theorem dX2_occursBefore_1 : decode cX2_occursBefore 1 = .ok (.istore_n 2, 1) := by decide +kernel
theorem dX2_occursBefore_2 : decode cX2_occursBefore 2 = .ok (.iload_n 2, 1) := by decide +kernel
theorem dX2_occursBefore_3 : decode cX2_occursBefore 3 = .ok (.iload_n 1, 1) := by decide +kernel
theorem dX2_occursBefore_4 : decode cX2_occursBefore 4 = .ok (.if_icmp .ge 27, 3) := by decide +kernel
theorem dX2_occursBefore_7 : decode cX2_occursBefore 7 = .ok (.aload_n 0, 1) := by decide +kernel
theorem dX2_occursBefore_8 : decode cX2_occursBefore 8 = .ok (.getfield 15, 3) := by decide +kernel
theorem dX2_occursBefore_11 : decode cX2_occursBefore 11 = .ok (.iload_n 2, 1) := by decide +kernel
theorem dX2_occursBefore_12 : decode cX2_occursBefore 12 = .ok (.laload, 1) := by decide +kernel
theorem dX2_occursBefore_13 : decode cX2_occursBefore 13 = .ok (.aload_n 0, 1) := by decide +kernel
theorem dX2_occursBefore_14 : decode cX2_occursBefore 14 = .ok (.getfield 15, 3) := by decide +kernel
theorem dX2_occursBefore_17 : decode cX2_occursBefore 17 = .ok (.iload_n 1, 1) := by decide +kernel
theorem dX2_occursBefore_18 : decode cX2_occursBefore 18 = .ok (.laload, 1) := by decide +kernel
theorem dX2_occursBefore_19 : decode cX2_occursBefore 19 = .ok (.lcmp, 1) := by decide +kernel
theorem dX2_occursBefore_20 : decode cX2_occursBefore 20 = .ok (.ifCond .ne 5, 3) := by decide +kernel
theorem dX2_occursBefore_23 : decode cX2_occursBefore 23 = .ok (.iconst 1, 1) := by decide +kernel
theorem dX2_occursBefore_24 : decode cX2_occursBefore 24 = .ok (.ireturn, 1) := by decide +kernel
theorem dX2_occursBefore_25 : decode cX2_occursBefore 25 = .ok (.iinc 2 1, 3) := by decide +kernel
theorem dX2_occursBefore_28 : decode cX2_occursBefore 28 = .ok (.goto (-26), 3) := by decide +kernel
theorem dX2_occursBefore_31 : decode cX2_occursBefore 31 = .ok (.iconst 0, 1) := by decide +kernel
theorem dX2_occursBefore_32 : decode cX2_occursBefore 32 = .ok (.ireturn, 1) := by decide +kernel
