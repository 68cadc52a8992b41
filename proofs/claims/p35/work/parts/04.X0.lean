set_option maxRecDepth 20000 in
theorem ggX0_init_X2_init : GoodIn wsX0_init wsX2_init := goodIn_r _ [19, 20, 2, 3, 21, 12, 22, 23, 24, 25, 26, 27, 28, 14, 29, 30, 31, 32, 33, 43, 44, 45, 46, 47, 48, 49, 50, 51, 52, 53, 54] (by decide +kernel) (by decide +kernel)
set_option maxRecDepth 20000 in
theorem gX0_init_X2_init_n23 : GoodIn wsX0_init (wsX2_init) := ggX0_init_X2_init
theorem dX0_init_0 : decode cX0_init 0 = .ok (.aload_n 0, 1) := by decide +kernel
theorem dX0_init_1 : decode cX0_init 1 = .ok (.invokespecial 3, 3) := by decide +kernel
theorem dX0_init_4 : decode cX0_init 4 = .ok (.aload_n 0, 1) := by decide +kernel
theorem dX0_init_5 : decode cX0_init 5 = .ok (.iconst 0, 1) := by decide +kernel
theorem dX0_init_6 : decode cX0_init 6 = .ok (.putfield 9, 3) := by decide +kernel
theorem dX0_init_9 : decode cX0_init 9 = .ok (.aload_n 0, 1) := by decide +kernel
theorem dX0_init_10 : decode cX0_init 10 = .ok (.iconst 0, 1) := by decide +kernel
theorem dX0_init_11 : decode cX0_init 11 = .ok (.putfield 15, 3) := by decide +kernel
theorem dX0_init_14 : decode cX0_init 14 = .ok (.aload_n 0, 1) := by decide +kernel
theorem dX0_init_15 : decode cX0_init 15 = .ok (.iconst 0, 1) := by decide +kernel
theorem dX0_init_16 : decode cX0_init 16 = .ok (.putfield 18, 3) := by decide +kernel
theorem dX0_init_19 : decode cX0_init 19 = .ok (.aload_n 0, 1) := by decide +kernel
theorem dX0_init_20 : decode cX0_init 20 = .ok (.new 21, 3) := by decide +kernel
theorem dX0_init_23 : decode cX0_init 23 = .ok (.dup, 1) := by decide +kernel
theorem dX0_init_24 : decode cX0_init 24 = .ok (.invokespecial 23, 3) := by decide +kernel
theorem dX0_init_27 : decode cX0_init 27 = .ok (.putfield 24, 3) := by decide +kernel
theorem dX0_init_30 : decode cX0_init 30 = .ok (.aload_n 0, 1) := by decide +kernel
theorem dX0_init_31 : decode cX0_init 31 = .ok (.iconst 0, 1) := by decide +kernel
theorem dX0_init_32 : decode cX0_init 32 = .ok (.putfield 28, 3) := by decide +kernel
theorem dX0_init_35 : decode cX0_init 35 = .ok (.aload_n 0, 1) := by decide +kernel
theorem dX0_init_36 : decode cX0_init 36 = .ok (.bipush 72, 2) := by decide +kernel
theorem dX0_init_38 : decode cX0_init 38 = .ok (.newarray .long, 2) := by decide +kernel
theorem dX0_init_40 : decode cX0_init 40 = .ok (.putfield 31, 3) := by decide +kernel
theorem dX0_init_43 : decode cX0_init 43 = .ok (.aload_n 0, 1) := by decide +kernel
theorem dX0_init_44 : decode cX0_init 44 = .ok (.bipush 72, 2) := by decide +kernel
theorem dX0_init_46 : decode cX0_init 46 = .ok (.newarray .int, 2) := by decide +kernel
theorem dX0_init_48 : decode cX0_init 48 = .ok (.putfield 35, 3) := by decide +kernel
theorem dX0_init_51 : decode cX0_init 51 = .ok (.aload_n 0, 1) := by decide +kernel
theorem dX0_init_52 : decode cX0_init 52 = .ok (.bipush 72, 2) := by decide +kernel
theorem dX0_init_54 : decode cX0_init 54 = .ok (.newarray .int, 2) := by decide +kernel
theorem dX0_init_56 : decode cX0_init 56 = .ok (.putfield 39, 3) := by decide +kernel
theorem dX0_init_59 : decode cX0_init 59 = .ok (.aload_n 0, 1) := by decide +kernel
theorem dX0_init_60 : decode cX0_init 60 = .ok (.bipush 72, 2) := by decide +kernel
theorem dX0_init_62 : decode cX0_init 62 = .ok (.newarray .int, 2) := by decide +kernel
theorem dX0_init_64 : decode cX0_init 64 = .ok (.putfield 42, 3) := by decide +kernel
theorem dX0_init_67 : decode cX0_init 67 = .ok (.return_, 1) := by decide +kernel
set_option maxRecDepth 20000 in
theorem ggX0_weighParts_X0_listParts : GoodIn wsX0_weighParts wsX0_listParts := goodIn_r _ [13, 5, 14, 7, 15, 8, 6, 16, 17, 18, 19, 20, 21, 22, 23, 24, 25, 26, 27, 28, 29, 111, 112, 113, 114, 115, 116, 117, 118, 119, 98, 99, 100, 101, 102, 103, 104, 105, 120, 121, 122, 123, 124, 125] (by decide +kernel) (by decide +kernel)
set_option maxRecDepth 20000 in
theorem gX0_weighParts_X0_listParts : GoodIn wsX0_weighParts (wsV RX0 45 RX0 yX0_listParts wsX0_listParts) := goodIn_app (goodIn_of _ (by decide +kernel)) ggX0_weighParts_X0_listParts
set_option maxRecDepth 20000 in
theorem ggX0_weighParts_X2_cutKnown : GoodIn wsX0_weighParts wsX2_cutKnown := goodIn_r _ [34, 35, 36, 37, 33, 38, 39, 40, 41, 42, 43, 44, 45, 17, 18, 19, 46, 47, 48, 49, 50, 51, 52, 53, 54, 55, 56, 57, 58, 59, 60, 21, 22, 61, 24, 25, 26, 27, 28, 29, 62, 63, 64, 65, 66, 67, 68, 69, 70, 71, 72, 73, 74, 75, 76, 77, 78, 79, 80, 81, 82, 126, 127, 128, 129, 130, 131, 132, 133, 134, 135, 136, 137, 98, 99, 100, 101, 102, 103, 104, 105, 120, 121, 122, 123, 124, 125] (by decide +kernel) (by decide +kernel)
set_option maxRecDepth 20000 in
theorem gX0_weighParts_X2_cutKnown : GoodIn wsX0_weighParts (wsV RX0 61 RX2 yX2_cutKnown wsX2_cutKnown) := goodIn_app (goodIn_of _ (by decide +kernel)) ggX0_weighParts_X2_cutKnown
set_option maxRecDepth 20000 in
theorem ggX0_weighParts_X2_gainOf : GoodIn wsX0_weighParts wsX2_gainOf := goodIn_r _ [86, 44, 81, 71, 87, 88, 89, 33, 90, 40, 39, 43, 60, 21, 18, 22, 66, 67, 68, 69, 70, 72, 52, 53, 54, 55, 56, 57, 58, 59, 73, 74, 75, 76, 41, 126, 127, 128, 129, 130, 131, 132, 133, 134, 135, 136, 137] (by decide +kernel) (by decide +kernel)
set_option maxRecDepth 20000 in
theorem gX0_weighParts_X2_gainOf : GoodIn wsX0_weighParts (wsV RX0 64 RX2 yX2_gainOf wsX2_gainOf) := goodIn_app (goodIn_of _ (by decide +kernel)) ggX0_weighParts_X2_gainOf
set_option maxRecDepth 20000 in
theorem ggX0_weighParts_X0_takeBest : GoodIn wsX0_weighParts wsX0_takeBest := goodIn_r _ [94, 95, 5, 6, 15, 96, 8, 97, 111, 112, 113, 114, 115, 116, 117, 118, 119] (by decide +kernel) (by decide +kernel)
set_option maxRecDepth 20000 in
theorem gX0_weighParts_X0_takeBest : GoodIn wsX0_weighParts (wsV RX0 68 RX0 yX0_takeBest wsX0_takeBest) := goodIn_app (goodIn_of _ (by decide +kernel)) ggX0_weighParts_X0_takeBest
theorem dX0_weighParts_0 : decode cX0_weighParts 0 = .ok (.aload_n 0, 1) := by decide +kernel
theorem dX0_weighParts_1 : decode cX0_weighParts 1 = .ok (.aload_n 1, 1) := by decide +kernel
theorem dX0_weighParts_2 : decode cX0_weighParts 2 = .ok (.lload_n 2, 1) := by decide +kernel
theorem dX0_weighParts_3 : decode cX0_weighParts 3 = .ok (.invokevirtual 45, 3) := by decide +kernel
theorem dX0_weighParts_6 : decode cX0_weighParts 6 = .ok (.iconst 0, 1) := by decide +kernel
theorem dX0_weighParts_7 : decode cX0_weighParts 7 = .ok (.istore 4, 2) := by decide +kernel
theorem dX0_weighParts_9 : decode cX0_weighParts 9 = .ok (.iload 4, 2) := by decide +kernel
theorem dX0_weighParts_11 : decode cX0_weighParts 11 = .ok (.aload_n 1, 1) := by decide +kernel
theorem dX0_weighParts_12 : decode cX0_weighParts 12 = .ok (.getfield 49, 3) := by decide +kernel
theorem dX0_weighParts_15 : decode cX0_weighParts 15 = .ok (.getfield 55, 3) := by decide +kernel
theorem dX0_weighParts_18 : decode cX0_weighParts 18 = .ok (.if_icmp .ge 76, 3) := by decide +kernel
theorem dX0_weighParts_21 : decode cX0_weighParts 21 = .ok (.aload_n 0, 1) := by decide +kernel
theorem dX0_weighParts_22 : decode cX0_weighParts 22 = .ok (.getfield 24, 3) := by decide +kernel
theorem dX0_weighParts_25 : decode cX0_weighParts 25 = .ok (.aload_n 1, 1) := by decide +kernel
theorem dX0_weighParts_26 : decode cX0_weighParts 26 = .ok (.aload_n 1, 1) := by decide +kernel
theorem dX0_weighParts_27 : decode cX0_weighParts 27 = .ok (.getfield 49, 3) := by decide +kernel
theorem dX0_weighParts_30 : decode cX0_weighParts 30 = .ok (.getfield 58, 3) := by decide +kernel
theorem dX0_weighParts_33 : decode cX0_weighParts 33 = .ok (.iload 4, 2) := by decide +kernel
theorem dX0_weighParts_35 : decode cX0_weighParts 35 = .ok (.laload, 1) := by decide +kernel
theorem dX0_weighParts_36 : decode cX0_weighParts 36 = .ok (.invokevirtual 61, 3) := by decide +kernel
theorem dX0_weighParts_39 : decode cX0_weighParts 39 = .ok (.iconst 0, 1) := by decide +kernel
theorem dX0_weighParts_40 : decode cX0_weighParts 40 = .ok (.istore 5, 2) := by decide +kernel
theorem dX0_weighParts_42 : decode cX0_weighParts 42 = .ok (.iload 5, 2) := by decide +kernel
theorem dX0_weighParts_44 : decode cX0_weighParts 44 = .ok (.aload_n 0, 1) := by decide +kernel
theorem dX0_weighParts_45 : decode cX0_weighParts 45 = .ok (.getfield 28, 3) := by decide +kernel
theorem dX0_weighParts_48 : decode cX0_weighParts 48 = .ok (.if_icmp .ge 40, 3) := by decide +kernel
theorem dX0_weighParts_51 : decode cX0_weighParts 51 = .ok (.aload_n 0, 1) := by decide +kernel
theorem dX0_weighParts_52 : decode cX0_weighParts 52 = .ok (.getfield 42, 3) := by decide +kernel
theorem dX0_weighParts_55 : decode cX0_weighParts 55 = .ok (.iload 5, 2) := by decide +kernel
theorem dX0_weighParts_57 : decode cX0_weighParts 57 = .ok (.dup2, 1) := by decide +kernel
theorem dX0_weighParts_58 : decode cX0_weighParts 58 = .ok (.iaload, 1) := by decide +kernel
theorem dX0_weighParts_59 : decode cX0_weighParts 59 = .ok (.aload_n 0, 1) := by decide +kernel
theorem dX0_weighParts_60 : decode cX0_weighParts 60 = .ok (.getfield 24, 3) := by decide +kernel
theorem dX0_weighParts_63 : decode cX0_weighParts 63 = .ok (.aload_n 0, 1) := by decide +kernel
theorem dX0_weighParts_64 : decode cX0_weighParts 64 = .ok (.getfield 31, 3) := by decide +kernel
theorem dX0_weighParts_67 : decode cX0_weighParts 67 = .ok (.iload 5, 2) := by decide +kernel
theorem dX0_weighParts_69 : decode cX0_weighParts 69 = .ok (.laload, 1) := by decide +kernel
theorem dX0_weighParts_70 : decode cX0_weighParts 70 = .ok (.aload_n 0, 1) := by decide +kernel
theorem dX0_weighParts_71 : decode cX0_weighParts 71 = .ok (.getfield 39, 3) := by decide +kernel
theorem dX0_weighParts_74 : decode cX0_weighParts 74 = .ok (.iload 5, 2) := by decide +kernel
theorem dX0_weighParts_76 : decode cX0_weighParts 76 = .ok (.iaload, 1) := by decide +kernel
theorem dX0_weighParts_77 : decode cX0_weighParts 77 = .ok (.invokevirtual 64, 3) := by decide +kernel
theorem dX0_weighParts_80 : decode cX0_weighParts 80 = .ok (.iadd, 1) := by decide +kernel
theorem dX0_weighParts_81 : decode cX0_weighParts 81 = .ok (.iastore, 1) := by decide +kernel
theorem dX0_weighParts_82 : decode cX0_weighParts 82 = .ok (.iinc 5 1, 3) := by decide +kernel
theorem dX0_weighParts_85 : decode cX0_weighParts 85 = .ok (.goto (-43), 3) := by decide +kernel
theorem dX0_weighParts_88 : decode cX0_weighParts 88 = .ok (.iinc 4 1, 3) := by decide +kernel
theorem dX0_weighParts_91 : decode cX0_weighParts 91 = .ok (.goto (-82), 3) := by decide +kernel
theorem dX0_weighParts_94 : decode cX0_weighParts 94 = .ok (.aload_n 0, 1) := by decide +kernel
theorem dX0_weighParts_95 : decode cX0_weighParts 95 = .ok (.invokevirtual 68, 3) := by decide +kernel
theorem dX0_weighParts_98 : decode cX0_weighParts 98 = .ok (.return_, 1) := by decide +kernel
set_option maxRecDepth 20000 in
theorem ggX0_listParts_X4_lengthOf : GoodIn wsX0_listParts wsX4_lengthOf := goodIn_r _ [10] (by decide +kernel) (by decide +kernel)
set_option maxRecDepth 20000 in
theorem gX0_listParts_X4_lengthOf : GoodIn wsX0_listParts (va_wsS RX0 71 yX4_lengthOf wsX4_lengthOf) := goodIn_app (goodIn_of _ (by decide +kernel)) ggX0_listParts_X4_lengthOf
set_option maxRecDepth 20000 in
theorem ggX0_listParts_X4_section : GoodIn wsX0_listParts wsX4_section := goodIn_r _ [13] (by decide +kernel) (by decide +kernel)
set_option maxRecDepth 20000 in
theorem gX0_listParts_X4_section : GoodIn wsX0_listParts (va_wsS RX0 77 yX4_section wsX4_section) := goodIn_app (goodIn_of _ (by decide +kernel)) ggX0_listParts_X4_section
set_option maxRecDepth 20000 in
theorem ggX0_listParts_X6_numberOf : GoodIn wsX0_listParts wsX6_numberOf := goodIn_r _ [18, 19, 20, 38, 39, 40, 41, 42, 43] (by decide +kernel) (by decide +kernel)
set_option maxRecDepth 20000 in
theorem gX0_listParts_X6_numberOf : GoodIn wsX0_listParts (wsV RX0 85 RX6 yX6_numberOf wsX6_numberOf) := goodIn_app (goodIn_of _ (by decide +kernel)) ggX0_listParts_X6_numberOf
theorem dX0_listParts_0 : decode cX0_listParts 0 = .ok (.aload_n 0, 1) := by decide +kernel
theorem dX0_listParts_1 : decode cX0_listParts 1 = .ok (.iconst 0, 1) := by decide +kernel
theorem dX0_listParts_2 : decode cX0_listParts 2 = .ok (.putfield 28, 3) := by decide +kernel
theorem dX0_listParts_5 : decode cX0_listParts 5 = .ok (.lload_n 2, 1) := by decide +kernel
theorem dX0_listParts_6 : decode cX0_listParts 6 = .ok (.invokestatic 71, 3) := by decide +kernel
theorem dX0_listParts_9 : decode cX0_listParts 9 = .ok (.istore 4, 2) := by decide +kernel
theorem dX0_listParts_11 : decode cX0_listParts 11 = .ok (.iconst 1, 1) := by decide +kernel
theorem dX0_listParts_12 : decode cX0_listParts 12 = .ok (.istore 5, 2) := by decide +kernel
theorem dX0_listParts_14 : decode cX0_listParts 14 = .ok (.iload 5, 2) := by decide +kernel
theorem dX0_listParts_16 : decode cX0_listParts 16 = .ok (.bipush 6, 2) := by decide +kernel
theorem dX0_listParts_18 : decode cX0_listParts 18 = .ok (.if_icmp .gt 113, 3) := by decide +kernel
theorem dX0_listParts_21 : decode cX0_listParts 21 = .ok (.iconst 0, 1) := by decide +kernel
theorem dX0_listParts_22 : decode cX0_listParts 22 = .ok (.istore 6, 2) := by decide +kernel
theorem dX0_listParts_24 : decode cX0_listParts 24 = .ok (.iload 6, 2) := by decide +kernel
theorem dX0_listParts_26 : decode cX0_listParts 26 = .ok (.iload 5, 2) := by decide +kernel
theorem dX0_listParts_28 : decode cX0_listParts 28 = .ok (.iadd, 1) := by decide +kernel
theorem dX0_listParts_29 : decode cX0_listParts 29 = .ok (.iload 4, 2) := by decide +kernel
theorem dX0_listParts_31 : decode cX0_listParts 31 = .ok (.if_icmp .gt 94, 3) := by decide +kernel
theorem dX0_listParts_34 : decode cX0_listParts 34 = .ok (.aload_n 0, 1) := by decide +kernel
theorem dX0_listParts_35 : decode cX0_listParts 35 = .ok (.getfield 28, 3) := by decide +kernel
theorem dX0_listParts_38 : decode cX0_listParts 38 = .ok (.bipush 72, 2) := by decide +kernel
theorem dX0_listParts_40 : decode cX0_listParts 40 = .ok (.if_icmp .ge 85, 3) := by decide +kernel
theorem dX0_listParts_43 : decode cX0_listParts 43 = .ok (.lload_n 2, 1) := by decide +kernel
theorem dX0_listParts_44 : decode cX0_listParts 44 = .ok (.iload 6, 2) := by decide +kernel
theorem dX0_listParts_46 : decode cX0_listParts 46 = .ok (.iload 5, 2) := by decide +kernel
theorem dX0_listParts_48 : decode cX0_listParts 48 = .ok (.invokestatic 77, 3) := by decide +kernel
theorem dX0_listParts_51 : decode cX0_listParts 51 = .ok (.lstore 7, 2) := by decide +kernel
theorem dX0_listParts_53 : decode cX0_listParts 53 = .ok (.aload_n 1, 1) := by decide +kernel
theorem dX0_listParts_54 : decode cX0_listParts 54 = .ok (.getfield 81, 3) := by decide +kernel
theorem dX0_listParts_57 : decode cX0_listParts 57 = .ok (.lload 7, 2) := by decide +kernel
theorem dX0_listParts_59 : decode cX0_listParts 59 = .ok (.invokevirtual 85, 3) := by decide +kernel
theorem dX0_listParts_62 : decode cX0_listParts 62 = .ok (.iconst (-1), 1) := by decide +kernel
theorem dX0_listParts_63 : decode cX0_listParts 63 = .ok (.if_icmp .ne 56, 3) := by decide +kernel
theorem dX0_listParts_66 : decode cX0_listParts 66 = .ok (.aload_n 0, 1) := by decide +kernel
theorem dX0_listParts_67 : decode cX0_listParts 67 = .ok (.getfield 31, 3) := by decide +kernel
theorem dX0_listParts_70 : decode cX0_listParts 70 = .ok (.aload_n 0, 1) := by decide +kernel
theorem dX0_listParts_71 : decode cX0_listParts 71 = .ok (.getfield 28, 3) := by decide +kernel
theorem dX0_listParts_74 : decode cX0_listParts 74 = .ok (.lload 7, 2) := by decide +kernel
theorem dX0_listParts_76 : decode cX0_listParts 76 = .ok (.lastore, 1) := by decide +kernel
theorem dX0_listParts_77 : decode cX0_listParts 77 = .ok (.aload_n 0, 1) := by decide +kernel
theorem dX0_listParts_78 : decode cX0_listParts 78 = .ok (.getfield 35, 3) := by decide +kernel
theorem dX0_listParts_81 : decode cX0_listParts 81 = .ok (.aload_n 0, 1) := by decide +kernel
theorem dX0_listParts_82 : decode cX0_listParts 82 = .ok (.getfield 28, 3) := by decide +kernel
theorem dX0_listParts_85 : decode cX0_listParts 85 = .ok (.iload 6, 2) := by decide +kernel
theorem dX0_listParts_87 : decode cX0_listParts 87 = .ok (.iastore, 1) := by decide +kernel
theorem dX0_listParts_88 : decode cX0_listParts 88 = .ok (.aload_n 0, 1) := by decide +kernel
theorem dX0_listParts_89 : decode cX0_listParts 89 = .ok (.getfield 39, 3) := by decide +kernel
theorem dX0_listParts_92 : decode cX0_listParts 92 = .ok (.aload_n 0, 1) := by decide +kernel
theorem dX0_listParts_93 : decode cX0_listParts 93 = .ok (.getfield 28, 3) := by decide +kernel
theorem dX0_listParts_96 : decode cX0_listParts 96 = .ok (.iload 5, 2) := by decide +kernel
theorem dX0_listParts_98 : decode cX0_listParts 98 = .ok (.iastore, 1) := by decide +kernel
theorem dX0_listParts_99 : decode cX0_listParts 99 = .ok (.aload_n 0, 1) := by decide +kernel
theorem dX0_listParts_100 : decode cX0_listParts 100 = .ok (.getfield 42, 3) := by decide +kernel
theorem dX0_listParts_103 : decode cX0_listParts 103 = .ok (.aload_n 0, 1) := by decide +kernel
theorem dX0_listParts_104 : decode cX0_listParts 104 = .ok (.getfield 28, 3) := by decide +kernel
theorem dX0_listParts_107 : decode cX0_listParts 107 = .ok (.iconst 0, 1) := by decide +kernel
theorem dX0_listParts_108 : decode cX0_listParts 108 = .ok (.iastore, 1) := by decide +kernel
theorem dX0_listParts_109 : decode cX0_listParts 109 = .ok (.aload_n 0, 1) := by decide +kernel
theorem dX0_listParts_110 : decode cX0_listParts 110 = .ok (.dup, 1) := by decide +kernel
theorem dX0_listParts_111 : decode cX0_listParts 111 = .ok (.getfield 28, 3) := by decide +kernel
theorem dX0_listParts_114 : decode cX0_listParts 114 = .ok (.iconst 1, 1) := by decide +kernel
theorem dX0_listParts_115 : decode cX0_listParts 115 = .ok (.iadd, 1) := by decide +kernel
theorem dX0_listParts_116 : decode cX0_listParts 116 = .ok (.putfield 28, 3) := by decide +kernel
theorem dX0_listParts_119 : decode cX0_listParts 119 = .ok (.iinc 6 1, 3) := by decide +kernel
theorem dX0_listParts_122 : decode cX0_listParts 122 = .ok (.goto (-98), 3) := by decide +kernel
theorem dX0_listParts_125 : decode cX0_listParts 125 = .ok (.iinc 5 1, 3) := by decide +kernel
theorem dX0_listParts_128 : decode cX0_listParts 128 = .ok (.goto (-114), 3) := by decide +kernel
theorem dX0_listParts_131 : decode cX0_listParts 131 = .ok (.return_, 1) := by decide +kernel
theorem dX0_takeBest_0 : decode cX0_takeBest 0 = .ok (.aload_n 0, 1) := by decide +kernel
theorem dX0_takeBest_1 : decode cX0_takeBest 1 = .ok (.iconst 0, 1) := by decide +kernel
theorem dX0_takeBest_2 : decode cX0_takeBest 2 = .ok (.putfield 18, 3) := by decide +kernel
theorem dX0_takeBest_5 : decode cX0_takeBest 5 = .ok (.iconst 0, 1) := by decide +kernel
theorem dX0_takeBest_6 : decode cX0_takeBest 6 = .ok (.istore_n 1, 1) := by decide +kernel
theorem dX0_takeBest_7 : decode cX0_takeBest 7 = .ok (.iload_n 1, 1) := by decide +kernel
theorem dX0_takeBest_8 : decode cX0_takeBest 8 = .ok (.aload_n 0, 1) := by decide +kernel
theorem dX0_takeBest_9 : decode cX0_takeBest 9 = .ok (.getfield 28, 3) := by decide +kernel
theorem dX0_takeBest_12 : decode cX0_takeBest 12 = .ok (.if_icmp .ge 52, 3) := by decide +kernel
theorem dX0_takeBest_15 : decode cX0_takeBest 15 = .ok (.aload_n 0, 1) := by decide +kernel
theorem dX0_takeBest_16 : decode cX0_takeBest 16 = .ok (.getfield 42, 3) := by decide +kernel
theorem dX0_takeBest_19 : decode cX0_takeBest 19 = .ok (.iload_n 1, 1) := by decide +kernel
theorem dX0_takeBest_20 : decode cX0_takeBest 20 = .ok (.iaload, 1) := by decide +kernel
theorem dX0_takeBest_21 : decode cX0_takeBest 21 = .ok (.aload_n 0, 1) := by decide +kernel
theorem dX0_takeBest_22 : decode cX0_takeBest 22 = .ok (.getfield 18, 3) := by decide +kernel
theorem dX0_takeBest_25 : decode cX0_takeBest 25 = .ok (.if_icmp .le 33, 3) := by decide +kernel
theorem dX0_takeBest_28 : decode cX0_takeBest 28 = .ok (.aload_n 0, 1) := by decide +kernel
theorem dX0_takeBest_29 : decode cX0_takeBest 29 = .ok (.aload_n 0, 1) := by decide +kernel
theorem dX0_takeBest_30 : decode cX0_takeBest 30 = .ok (.getfield 42, 3) := by decide +kernel
theorem dX0_takeBest_33 : decode cX0_takeBest 33 = .ok (.iload_n 1, 1) := by decide +kernel
theorem dX0_takeBest_34 : decode cX0_takeBest 34 = .ok (.iaload, 1) := by decide +kernel
theorem dX0_takeBest_35 : decode cX0_takeBest 35 = .ok (.putfield 18, 3) := by decide +kernel
theorem dX0_takeBest_38 : decode cX0_takeBest 38 = .ok (.aload_n 0, 1) := by decide +kernel
theorem dX0_takeBest_39 : decode cX0_takeBest 39 = .ok (.aload_n 0, 1) := by decide +kernel
theorem dX0_takeBest_40 : decode cX0_takeBest 40 = .ok (.getfield 35, 3) := by decide +kernel
theorem dX0_takeBest_43 : decode cX0_takeBest 43 = .ok (.iload_n 1, 1) := by decide +kernel
theorem dX0_takeBest_44 : decode cX0_takeBest 44 = .ok (.iaload, 1) := by decide +kernel
theorem dX0_takeBest_45 : decode cX0_takeBest 45 = .ok (.putfield 9, 3) := by decide +kernel
theorem dX0_takeBest_48 : decode cX0_takeBest 48 = .ok (.aload_n 0, 1) := by decide +kernel
theorem dX0_takeBest_49 : decode cX0_takeBest 49 = .ok (.aload_n 0, 1) := by decide +kernel
theorem dX0_takeBest_50 : decode cX0_takeBest 50 = .ok (.getfield 39, 3) := by decide +kernel
theorem dX0_takeBest_53 : decode cX0_takeBest 53 = .ok (.iload_n 1, 1) := by decide +kernel
theorem dX0_takeBest_54 : decode cX0_takeBest 54 = .ok (.iaload, 1) := by decide +kernel
theorem dX0_takeBest_55 : decode cX0_takeBest 55 = .ok (.putfield 15, 3) := by decide +kernel
theorem dX0_takeBest_58 : decode cX0_takeBest 58 = .ok (.iinc 1 1, 3) := by decide +kernel
theorem dX0_takeBest_61 : decode cX0_takeBest 61 = .ok (.goto (-54), 3) := by decide +kernel
theorem dX0_takeBest_64 : decode cX0_takeBest 64 = .ok (.return_, 1) := by decide +kernel
