set_option maxRecDepth 20000 in
theorem ggX1_init_X7_init : GoodIn wsX1_init wsX7_init := goodIn_r _ [23, 24, 2, 3, 25, 26, 27, 4, 28, 54, 55, 56] (by decide +kernel) (by decide +kernel)
set_option maxRecDepth 20000 in
theorem gX1_init_X7_init_n20 : GoodIn wsX1_init (wsX7_init) := ggX1_init_X7_init
set_option maxRecDepth 20000 in
theorem ggX1_init_X6_init : GoodIn wsX1_init wsX6_init := goodIn_r _ [30, 31, 2, 3, 32, 26, 33, 4, 34, 35, 36, 37, 57, 58, 59, 60, 61, 62] (by decide +kernel) (by decide +kernel)
set_option maxRecDepth 20000 in
theorem gX1_init_X6_init_n27 : GoodIn wsX1_init (wsX6_init) := ggX1_init_X6_init
set_option maxRecDepth 20000 in
theorem ggX1_init_X8_init : GoodIn wsX1_init wsX8_init := goodIn_r _ [39, 40, 2, 3, 41, 26, 42, 4, 43, 44, 45, 63, 64, 65, 66, 67] (by decide +kernel) (by decide +kernel)
set_option maxRecDepth 20000 in
theorem gX1_init_X8_init_n34 : GoodIn wsX1_init (wsX8_init) := ggX1_init_X8_init
theorem dX1_init_0 : decode cX1_init 0 = .ok (.aload_n 0, 1) := by decide +kernel
theorem dX1_init_1 : decode cX1_init 1 = .ok (.invokespecial 3, 3) := by decide +kernel
theorem dX1_init_4 : decode cX1_init 4 = .ok (.aload_n 0, 1) := by decide +kernel
theorem dX1_init_5 : decode cX1_init 5 = .ok (.iconst 5, 1) := by decide +kernel
theorem dX1_init_6 : decode cX1_init 6 = .ok (.newarray .int, 2) := by decide +kernel
theorem dX1_init_8 : decode cX1_init 8 = .ok (.putfield 9, 3) := by decide +kernel
theorem dX1_init_11 : decode cX1_init 11 = .ok (.aload_n 0, 1) := by decide +kernel
theorem dX1_init_12 : decode cX1_init 12 = .ok (.bipush 6, 2) := by decide +kernel
theorem dX1_init_14 : decode cX1_init 14 = .ok (.newarray .int, 2) := by decide +kernel
theorem dX1_init_16 : decode cX1_init 16 = .ok (.putfield 15, 3) := by decide +kernel
theorem dX1_init_19 : decode cX1_init 19 = .ok (.aload_n 0, 1) := by decide +kernel
theorem dX1_init_20 : decode cX1_init 20 = .ok (.new 18, 3) := by decide +kernel
theorem dX1_init_23 : decode cX1_init 23 = .ok (.dup, 1) := by decide +kernel
theorem dX1_init_24 : decode cX1_init 24 = .ok (.invokespecial 20, 3) := by decide +kernel
theorem dX1_init_27 : decode cX1_init 27 = .ok (.putfield 21, 3) := by decide +kernel
theorem dX1_init_30 : decode cX1_init 30 = .ok (.aload_n 0, 1) := by decide +kernel
theorem dX1_init_31 : decode cX1_init 31 = .ok (.new 25, 3) := by decide +kernel
theorem dX1_init_34 : decode cX1_init 34 = .ok (.dup, 1) := by decide +kernel
theorem dX1_init_35 : decode cX1_init 35 = .ok (.invokespecial 27, 3) := by decide +kernel
theorem dX1_init_38 : decode cX1_init 38 = .ok (.putfield 28, 3) := by decide +kernel
theorem dX1_init_41 : decode cX1_init 41 = .ok (.aload_n 0, 1) := by decide +kernel
theorem dX1_init_42 : decode cX1_init 42 = .ok (.new 32, 3) := by decide +kernel
theorem dX1_init_45 : decode cX1_init 45 = .ok (.dup, 1) := by decide +kernel
theorem dX1_init_46 : decode cX1_init 46 = .ok (.invokespecial 34, 3) := by decide +kernel
theorem dX1_init_49 : decode cX1_init 49 = .ok (.putfield 35, 3) := by decide +kernel
theorem dX1_init_52 : decode cX1_init 52 = .ok (.aload_n 0, 1) := by decide +kernel
theorem dX1_init_53 : decode cX1_init 53 = .ok (.iconst 0, 1) := by decide +kernel
theorem dX1_init_54 : decode cX1_init 54 = .ok (.putfield 39, 3) := by decide +kernel
theorem dX1_init_57 : decode cX1_init 57 = .ok (.aload_n 0, 1) := by decide +kernel
theorem dX1_init_58 : decode cX1_init 58 = .ok (.iconst 0, 1) := by decide +kernel
theorem dX1_init_59 : decode cX1_init 59 = .ok (.putfield 43, 3) := by decide +kernel
theorem dX1_init_62 : decode cX1_init 62 = .ok (.aload_n 0, 1) := by decide +kernel
theorem dX1_init_63 : decode cX1_init 63 = .ok (.iconst 0, 1) := by decide +kernel
theorem dX1_init_64 : decode cX1_init 64 = .ok (.putfield 46, 3) := by decide +kernel
theorem dX1_init_67 : decode cX1_init 67 = .ok (.aload_n 0, 1) := by decide +kernel
theorem dX1_init_68 : decode cX1_init 68 = .ok (.getfield 9, 3) := by decide +kernel
theorem dX1_init_71 : decode cX1_init 71 = .ok (.iconst 2, 1) := by decide +kernel
theorem dX1_init_72 : decode cX1_init 72 = .ok (.iconst 1, 1) := by decide +kernel
theorem dX1_init_73 : decode cX1_init 73 = .ok (.iastore, 1) := by decide +kernel
theorem dX1_init_74 : decode cX1_init 74 = .ok (.return_, 1) := by decide +kernel
set_option maxRecDepth 20000 in
theorem ggX1_clear_J7_fill_53178 : GoodIn wsX1_clear wsJ7_fill_53178 := goodIn_r _ [14] (by decide +kernel) (by decide +kernel)
set_option maxRecDepth 20000 in
theorem gX1_clear_J7_fill_53178 : GoodIn wsX1_clear (va_wsS RX1 49 yJ7_fill_53178 wsJ7_fill_53178) := goodIn_app (goodIn_of _ (by decide +kernel)) ggX1_clear_J7_fill_53178
theorem dX1_clear_0 : decode cX1_clear 0 = .ok (.aload_n 0, 1) := by decide +kernel
theorem dX1_clear_1 : decode cX1_clear 1 = .ok (.getfield 15, 3) := by decide +kernel
theorem dX1_clear_4 : decode cX1_clear 4 = .ok (.iconst 0, 1) := by decide +kernel
theorem dX1_clear_5 : decode cX1_clear 5 = .ok (.invokestatic 49, 3) := by decide +kernel
theorem dX1_clear_8 : decode cX1_clear 8 = .ok (.aload_n 0, 1) := by decide +kernel
theorem dX1_clear_9 : decode cX1_clear 9 = .ok (.getfield 21, 3) := by decide +kernel
theorem dX1_clear_12 : decode cX1_clear 12 = .ok (.iconst 0, 1) := by decide +kernel
theorem dX1_clear_13 : decode cX1_clear 13 = .ok (.putfield 55, 3) := by decide +kernel
theorem dX1_clear_16 : decode cX1_clear 16 = .ok (.aload_n 0, 1) := by decide +kernel
theorem dX1_clear_17 : decode cX1_clear 17 = .ok (.getfield 28, 3) := by decide +kernel
theorem dX1_clear_20 : decode cX1_clear 20 = .ok (.iconst 0, 1) := by decide +kernel
theorem dX1_clear_21 : decode cX1_clear 21 = .ok (.putfield 58, 3) := by decide +kernel
theorem dX1_clear_24 : decode cX1_clear 24 = .ok (.aload_n 0, 1) := by decide +kernel
theorem dX1_clear_25 : decode cX1_clear 25 = .ok (.getfield 35, 3) := by decide +kernel
theorem dX1_clear_28 : decode cX1_clear 28 = .ok (.iconst 0, 1) := by decide +kernel
theorem dX1_clear_29 : decode cX1_clear 29 = .ok (.putfield 59, 3) := by decide +kernel
theorem dX1_clear_32 : decode cX1_clear 32 = .ok (.aload_n 0, 1) := by decide +kernel
theorem dX1_clear_33 : decode cX1_clear 33 = .ok (.iconst 0, 1) := by decide +kernel
theorem dX1_clear_34 : decode cX1_clear 34 = .ok (.putfield 39, 3) := by decide +kernel
theorem dX1_clear_37 : decode cX1_clear 37 = .ok (.aload_n 0, 1) := by decide +kernel
theorem dX1_clear_38 : decode cX1_clear 38 = .ok (.iconst 0, 1) := by decide +kernel
theorem dX1_clear_39 : decode cX1_clear 39 = .ok (.putfield 43, 3) := by decide +kernel
theorem dX1_clear_42 : decode cX1_clear 42 = .ok (.aload_n 0, 1) := by decide +kernel
theorem dX1_clear_43 : decode cX1_clear 43 = .ok (.iconst 0, 1) := by decide +kernel
theorem dX1_clear_44 : decode cX1_clear 44 = .ok (.putfield 46, 3) := by decide +kernel
theorem dX1_clear_47 : decode cX1_clear 47 = .ok (.return_, 1) := by decide +kernel
set_option maxRecDepth 20000 in
theorem ggX1_copyFrom_X7_copyFrom : GoodIn wsX1_copyFrom wsX7_copyFrom := goodIn_r _ [17, 18, 19, 20, 3, 4, 5, 21, 53, 54, 55] (by decide +kernel) (by decide +kernel)
set_option maxRecDepth 20000 in
theorem gX1_copyFrom_X7_copyFrom : GoodIn wsX1_copyFrom (wsV RX1 66 RX7 yX7_copyFrom wsX7_copyFrom) := goodIn_app (goodIn_of _ (by decide +kernel)) ggX1_copyFrom_X7_copyFrom
set_option maxRecDepth 20000 in
theorem ggX1_copyFrom_X6_copyFrom : GoodIn wsX1_copyFrom wsX6_copyFrom := goodIn_r _ [26, 27, 28, 29, 3, 4, 5, 30, 31, 32, 33, 56, 57, 58, 59, 60, 61] (by decide +kernel) (by decide +kernel)
set_option maxRecDepth 20000 in
theorem gX1_copyFrom_X6_copyFrom : GoodIn wsX1_copyFrom (wsV RX1 70 RX6 yX6_copyFrom wsX6_copyFrom) := goodIn_app (goodIn_of _ (by decide +kernel)) ggX1_copyFrom_X6_copyFrom
set_option maxRecDepth 20000 in
theorem ggX1_copyFrom_X8_copyFrom : GoodIn wsX1_copyFrom wsX8_copyFrom := goodIn_r _ [38, 39, 40, 41, 3, 4, 5, 42, 43, 44, 62, 63, 64, 65, 66] (by decide +kernel) (by decide +kernel)
set_option maxRecDepth 20000 in
theorem gX1_copyFrom_X8_copyFrom : GoodIn wsX1_copyFrom (wsV RX1 73 RX8 yX8_copyFrom wsX8_copyFrom) := goodIn_app (goodIn_of _ (by decide +kernel)) ggX1_copyFrom_X8_copyFrom
theorem dX1_copyFrom_0 : decode cX1_copyFrom 0 = .ok (.aload_n 1, 1) := by decide +kernel
theorem dX1_copyFrom_1 : decode cX1_copyFrom 1 = .ok (.getfield 9, 3) := by decide +kernel
theorem dX1_copyFrom_4 : decode cX1_copyFrom 4 = .ok (.iconst 0, 1) := by decide +kernel
theorem dX1_copyFrom_5 : decode cX1_copyFrom 5 = .ok (.aload_n 0, 1) := by decide +kernel
theorem dX1_copyFrom_6 : decode cX1_copyFrom 6 = .ok (.getfield 9, 3) := by decide +kernel
theorem dX1_copyFrom_9 : decode cX1_copyFrom 9 = .ok (.iconst 0, 1) := by decide +kernel
theorem dX1_copyFrom_10 : decode cX1_copyFrom 10 = .ok (.iconst 5, 1) := by decide +kernel
theorem dX1_copyFrom_11 : decode cX1_copyFrom 11 = .ok (.invokestatic 60, 3) := by decide +kernel
theorem dX1_copyFrom_14 : decode cX1_copyFrom 14 = .ok (.aload_n 1, 1) := by decide +kernel
theorem dX1_copyFrom_15 : decode cX1_copyFrom 15 = .ok (.getfield 15, 3) := by decide +kernel
theorem dX1_copyFrom_18 : decode cX1_copyFrom 18 = .ok (.iconst 0, 1) := by decide +kernel
theorem dX1_copyFrom_19 : decode cX1_copyFrom 19 = .ok (.aload_n 0, 1) := by decide +kernel
theorem dX1_copyFrom_20 : decode cX1_copyFrom 20 = .ok (.getfield 15, 3) := by decide +kernel
theorem dX1_copyFrom_23 : decode cX1_copyFrom 23 = .ok (.iconst 0, 1) := by decide +kernel
theorem dX1_copyFrom_24 : decode cX1_copyFrom 24 = .ok (.bipush 6, 2) := by decide +kernel
theorem dX1_copyFrom_26 : decode cX1_copyFrom 26 = .ok (.invokestatic 60, 3) := by decide +kernel
theorem dX1_copyFrom_29 : decode cX1_copyFrom 29 = .ok (.aload_n 0, 1) := by decide +kernel
theorem dX1_copyFrom_30 : decode cX1_copyFrom 30 = .ok (.getfield 21, 3) := by decide +kernel
theorem dX1_copyFrom_33 : decode cX1_copyFrom 33 = .ok (.aload_n 1, 1) := by decide +kernel
theorem dX1_copyFrom_34 : decode cX1_copyFrom 34 = .ok (.getfield 21, 3) := by decide +kernel
theorem dX1_copyFrom_37 : decode cX1_copyFrom 37 = .ok (.invokevirtual 66, 3) := by decide +kernel
theorem dX1_copyFrom_40 : decode cX1_copyFrom 40 = .ok (.aload_n 0, 1) := by decide +kernel
theorem dX1_copyFrom_41 : decode cX1_copyFrom 41 = .ok (.getfield 28, 3) := by decide +kernel
theorem dX1_copyFrom_44 : decode cX1_copyFrom 44 = .ok (.aload_n 1, 1) := by decide +kernel
theorem dX1_copyFrom_45 : decode cX1_copyFrom 45 = .ok (.getfield 28, 3) := by decide +kernel
theorem dX1_copyFrom_48 : decode cX1_copyFrom 48 = .ok (.invokevirtual 70, 3) := by decide +kernel
theorem dX1_copyFrom_51 : decode cX1_copyFrom 51 = .ok (.aload_n 0, 1) := by decide +kernel
theorem dX1_copyFrom_52 : decode cX1_copyFrom 52 = .ok (.getfield 35, 3) := by decide +kernel
theorem dX1_copyFrom_55 : decode cX1_copyFrom 55 = .ok (.aload_n 1, 1) := by decide +kernel
theorem dX1_copyFrom_56 : decode cX1_copyFrom 56 = .ok (.getfield 35, 3) := by decide +kernel
theorem dX1_copyFrom_59 : decode cX1_copyFrom 59 = .ok (.invokevirtual 73, 3) := by decide +kernel
theorem dX1_copyFrom_62 : decode cX1_copyFrom 62 = .ok (.aload_n 0, 1) := by decide +kernel
theorem dX1_copyFrom_63 : decode cX1_copyFrom 63 = .ok (.aload_n 1, 1) := by decide +kernel
theorem dX1_copyFrom_64 : decode cX1_copyFrom 64 = .ok (.getfield 39, 3) := by decide +kernel
theorem dX1_copyFrom_67 : decode cX1_copyFrom 67 = .ok (.putfield 39, 3) := by decide +kernel
theorem dX1_copyFrom_70 : decode cX1_copyFrom 70 = .ok (.aload_n 0, 1) := by decide +kernel
theorem dX1_copyFrom_71 : decode cX1_copyFrom 71 = .ok (.aload_n 1, 1) := by decide +kernel
theorem dX1_copyFrom_72 : decode cX1_copyFrom 72 = .ok (.getfield 43, 3) := by decide +kernel
theorem dX1_copyFrom_75 : decode cX1_copyFrom 75 = .ok (.putfield 43, 3) := by decide +kernel
theorem dX1_copyFrom_78 : decode cX1_copyFrom 78 = .ok (.aload_n 0, 1) := by decide +kernel
theorem dX1_copyFrom_79 : decode cX1_copyFrom 79 = .ok (.aload_n 1, 1) := by decide +kernel
theorem dX1_copyFrom_80 : decode cX1_copyFrom 80 = .ok (.getfield 46, 3) := by decide +kernel
theorem dX1_copyFrom_83 : decode cX1_copyFrom 83 = .ok (.putfield 46, 3) := by decide +kernel
theorem dX1_copyFrom_86 : decode cX1_copyFrom 86 = .ok (.return_, 1) := by decide +kernel
theorem dX1_newPrice_0 : decode cX1_newPrice 0 = .ok (.aload_n 0, 1) := by decide +kernel
theorem dX1_newPrice_1 : decode cX1_newPrice 1 = .ok (.getfield 9, 3) := by decide +kernel
theorem dX1_newPrice_4 : decode cX1_newPrice 4 = .ok (.iconst 0, 1) := by decide +kernel
theorem dX1_newPrice_5 : decode cX1_newPrice 5 = .ok (.iaload, 1) := by decide +kernel
theorem dX1_newPrice_6 : decode cX1_newPrice 6 = .ok (.aload_n 0, 1) := by decide +kernel
theorem dX1_newPrice_7 : decode cX1_newPrice 7 = .ok (.getfield 9, 3) := by decide +kernel
theorem dX1_newPrice_10 : decode cX1_newPrice 10 = .ok (.iconst 1, 1) := by decide +kernel
theorem dX1_newPrice_11 : decode cX1_newPrice 11 = .ok (.iaload, 1) := by decide +kernel
theorem dX1_newPrice_12 : decode cX1_newPrice 12 = .ok (.iload_n 1, 1) := by decide +kernel
theorem dX1_newPrice_13 : decode cX1_newPrice 13 = .ok (.imul, 1) := by decide +kernel
theorem dX1_newPrice_14 : decode cX1_newPrice 14 = .ok (.iadd, 1) := by decide +kernel
theorem dX1_newPrice_15 : decode cX1_newPrice 15 = .ok (.ireturn, 1) := by decide +kernel
theorem dX1_depositsFor_0 : decode cX1_depositsFor 0 = .ok (.aload_n 0, 1) := by decide +kernel
theorem dX1_depositsFor_1 : decode cX1_depositsFor 1 = .ok (.getfield 9, 3) := by decide +kernel
theorem dX1_depositsFor_4 : decode cX1_depositsFor 4 = .ok (.iconst 2, 1) := by decide +kernel
theorem dX1_depositsFor_5 : decode cX1_depositsFor 5 = .ok (.iaload, 1) := by decide +kernel
theorem dX1_depositsFor_6 : decode cX1_depositsFor 6 = .ok (.iload_n 1, 1) := by decide +kernel
theorem dX1_depositsFor_7 : decode cX1_depositsFor 7 = .ok (.imul, 1) := by decide +kernel
theorem dX1_depositsFor_8 : decode cX1_depositsFor 8 = .ok (.ireturn, 1) := by decide +kernel
set_option maxRecDepth 20000 in
theorem ggX1_heldFor_X1_depositsFor : GoodIn wsX1_heldFor wsX1_depositsFor := goodIn_r _ [9, 10, 11, 12, 13, 14, 15, 16, 17, 18] (by decide +kernel) (by decide +kernel)
set_option maxRecDepth 20000 in
theorem gX1_heldFor_X1_depositsFor : GoodIn wsX1_heldFor (wsV RX1 82 RX1 yX1_depositsFor wsX1_depositsFor) := goodIn_app (goodIn_of _ (by decide +kernel)) ggX1_heldFor_X1_depositsFor
theorem dX1_heldFor_0 : decode cX1_heldFor 0 = .ok (.iconst 0, 1) := by decide +kernel
theorem dX1_heldFor_1 : decode cX1_heldFor 1 = .ok (.istore_n 2, 1) := by decide +kernel
theorem dX1_heldFor_2 : decode cX1_heldFor 2 = .ok (.iconst 0, 1) := by decide +kernel
theorem dX1_heldFor_3 : decode cX1_heldFor 3 = .ok (.istore_n 3, 1) := by decide +kernel
theorem dX1_heldFor_4 : decode cX1_heldFor 4 = .ok (.iload_n 3, 1) := by decide +kernel
theorem dX1_heldFor_5 : decode cX1_heldFor 5 = .ok (.aload_n 0, 1) := by decide +kernel
theorem dX1_heldFor_6 : decode cX1_heldFor 6 = .ok (.getfield 35, 3) := by decide +kernel
theorem dX1_heldFor_9 : decode cX1_heldFor 9 = .ok (.getfield 59, 3) := by decide +kernel
theorem dX1_heldFor_12 : decode cX1_heldFor 12 = .ok (.if_icmp .ge 34, 3) := by decide +kernel
theorem dX1_heldFor_15 : decode cX1_heldFor 15 = .ok (.aload_n 0, 1) := by decide +kernel
theorem dX1_heldFor_16 : decode cX1_heldFor 16 = .ok (.getfield 35, 3) := by decide +kernel
theorem dX1_heldFor_19 : decode cX1_heldFor 19 = .ok (.getfield 76, 3) := by decide +kernel
theorem dX1_heldFor_22 : decode cX1_heldFor 22 = .ok (.iload_n 3, 1) := by decide +kernel
theorem dX1_heldFor_23 : decode cX1_heldFor 23 = .ok (.iaload, 1) := by decide +kernel
theorem dX1_heldFor_24 : decode cX1_heldFor 24 = .ok (.iload_n 1, 1) := by decide +kernel
theorem dX1_heldFor_25 : decode cX1_heldFor 25 = .ok (.if_icmp .ne 15, 3) := by decide +kernel
theorem dX1_heldFor_28 : decode cX1_heldFor 28 = .ok (.iload_n 2, 1) := by decide +kernel
theorem dX1_heldFor_29 : decode cX1_heldFor 29 = .ok (.aload_n 0, 1) := by decide +kernel
theorem dX1_heldFor_30 : decode cX1_heldFor 30 = .ok (.getfield 35, 3) := by decide +kernel
theorem dX1_heldFor_33 : decode cX1_heldFor 33 = .ok (.getfield 79, 3) := by decide +kernel
theorem dX1_heldFor_36 : decode cX1_heldFor 36 = .ok (.iload_n 3, 1) := by decide +kernel
theorem dX1_heldFor_37 : decode cX1_heldFor 37 = .ok (.iaload, 1) := by decide +kernel
theorem dX1_heldFor_38 : decode cX1_heldFor 38 = .ok (.iadd, 1) := by decide +kernel
theorem dX1_heldFor_39 : decode cX1_heldFor 39 = .ok (.istore_n 2, 1) := by decide +kernel
theorem dX1_heldFor_40 : decode cX1_heldFor 40 = .ok (.iinc 3 1, 3) := by decide +kernel
theorem dX1_heldFor_43 : decode cX1_heldFor 43 = .ok (.goto (-39), 3) := by decide +kernel
theorem dX1_heldFor_46 : decode cX1_heldFor 46 = .ok (.aload_n 0, 1) := by decide +kernel
theorem dX1_heldFor_47 : decode cX1_heldFor 47 = .ok (.iload_n 2, 1) := by decide +kernel
theorem dX1_heldFor_48 : decode cX1_heldFor 48 = .ok (.invokevirtual 82, 3) := by decide +kernel
theorem dX1_heldFor_51 : decode cX1_heldFor 51 = .ok (.ireturn, 1) := by decide +kernel
set_option maxRecDepth 20000 in
theorem ggX1_costOf_X1_depositsFor : GoodIn wsX1_costOf wsX1_depositsFor := goodIn_r _ [7, 8, 21, 22, 23, 24, 25, 26, 27, 28] (by decide +kernel) (by decide +kernel)
set_option maxRecDepth 20000 in
theorem gX1_costOf_X1_depositsFor : GoodIn wsX1_costOf (wsV RX1 82 RX1 yX1_depositsFor wsX1_depositsFor) := goodIn_app (goodIn_of _ (by decide +kernel)) ggX1_costOf_X1_depositsFor
theorem dX1_costOf_0 : decode cX1_costOf 0 = .ok (.aload_n 1, 1) := by decide +kernel
theorem dX1_costOf_1 : decode cX1_costOf 1 = .ok (.getfield 86, 3) := by decide +kernel
theorem dX1_costOf_4 : decode cX1_costOf 4 = .ok (.aload_n 0, 1) := by decide +kernel
theorem dX1_costOf_5 : decode cX1_costOf 5 = .ok (.aload_n 1, 1) := by decide +kernel
theorem dX1_costOf_6 : decode cX1_costOf 6 = .ok (.getfield 91, 3) := by decide +kernel
theorem dX1_costOf_9 : decode cX1_costOf 9 = .ok (.invokevirtual 82, 3) := by decide +kernel
theorem dX1_costOf_12 : decode cX1_costOf 12 = .ok (.iadd, 1) := by decide +kernel
theorem dX1_costOf_13 : decode cX1_costOf 13 = .ok (.ireturn, 1) := by decide +kernel
set_option maxRecDepth 20000 in
theorem ggX1_refusal_X8_isFull : GoodIn wsX1_refusal wsX8_isFull := goodIn_r _ [10, 11, 57, 58, 59, 60, 61] (by decide +kernel) (by decide +kernel)
set_option maxRecDepth 20000 in
theorem gX1_refusal_X8_isFull : GoodIn wsX1_refusal (wsV RX1 92 RX8 yX8_isFull wsX8_isFull) := goodIn_app (goodIn_of _ (by decide +kernel)) ggX1_refusal_X8_isFull
set_option maxRecDepth 20000 in
theorem ggX1_refusal_X7_coinsOf : GoodIn wsX1_refusal wsX7_coinsOf := goodIn_r _ [16, 17, 18, 62, 63, 64] (by decide +kernel) (by decide +kernel)
set_option maxRecDepth 20000 in
theorem gX1_refusal_X7_coinsOf : GoodIn wsX1_refusal (wsV RX1 99 RX7 yX7_coinsOf wsX7_coinsOf) := goodIn_app (goodIn_of _ (by decide +kernel)) ggX1_refusal_X7_coinsOf
set_option maxRecDepth 20000 in
theorem ggX1_refusal_X1_costOf : GoodIn wsX1_refusal wsX1_costOf := goodIn_r _ [23, 24, 25, 26, 27, 28, 22, 29, 30, 45, 46, 47, 48, 49, 50, 51, 52, 53, 54, 55, 56, 31, 32, 33, 34, 35, 36, 37, 38] (by decide +kernel) (by decide +kernel)
set_option maxRecDepth 20000 in
theorem gX1_refusal_X1_costOf : GoodIn wsX1_refusal (wsV RX1 102 RX1 yX1_costOf wsX1_costOf) := goodIn_app (goodIn_of _ (by decide +kernel)) ggX1_refusal_X1_costOf
theorem dX1_refusal_0 : decode cX1_refusal 0 = .ok (.aload_n 0, 1) := by decide +kernel
theorem dX1_refusal_1 : decode cX1_refusal 1 = .ok (.getfield 35, 3) := by decide +kernel
theorem dX1_refusal_4 : decode cX1_refusal 4 = .ok (.invokevirtual 92, 3) := by decide +kernel
theorem dX1_refusal_7 : decode cX1_refusal 7 = .ok (.ifCond .eq 5, 3) := by decide +kernel
theorem dX1_refusal_10 : decode cX1_refusal 10 = .ok (.iconst 2, 1) := by decide +kernel
theorem dX1_refusal_11 : decode cX1_refusal 11 = .ok (.ireturn, 1) := by decide +kernel
theorem dX1_refusal_12 : decode cX1_refusal 12 = .ok (.aload_n 0, 1) := by decide +kernel
theorem dX1_refusal_13 : decode cX1_refusal 13 = .ok (.getfield 28, 3) := by decide +kernel
theorem dX1_refusal_16 : decode cX1_refusal 16 = .ok (.getfield 58, 3) := by decide +kernel
theorem dX1_refusal_19 : decode cX1_refusal 19 = .ok (.aload_n 2, 1) := by decide +kernel
theorem dX1_refusal_20 : decode cX1_refusal 20 = .ok (.getfield 96, 3) := by decide +kernel
theorem dX1_refusal_23 : decode cX1_refusal 23 = .ok (.iadd, 1) := by decide +kernel
theorem dX1_refusal_24 : decode cX1_refusal 24 = .ok (.bipush 24, 2) := by decide +kernel
theorem dX1_refusal_26 : decode cX1_refusal 26 = .ok (.if_icmp .le 5, 3) := by decide +kernel
theorem dX1_refusal_29 : decode cX1_refusal 29 = .ok (.iconst 3, 1) := by decide +kernel
theorem dX1_refusal_30 : decode cX1_refusal 30 = .ok (.ireturn, 1) := by decide +kernel
theorem dX1_refusal_31 : decode cX1_refusal 31 = .ok (.aload_n 0, 1) := by decide +kernel
theorem dX1_refusal_32 : decode cX1_refusal 32 = .ok (.getfield 21, 3) := by decide +kernel
theorem dX1_refusal_35 : decode cX1_refusal 35 = .ok (.iload_n 1, 1) := by decide +kernel
theorem dX1_refusal_36 : decode cX1_refusal 36 = .ok (.invokevirtual 99, 3) := by decide +kernel
theorem dX1_refusal_39 : decode cX1_refusal 39 = .ok (.aload_n 0, 1) := by decide +kernel
theorem dX1_refusal_40 : decode cX1_refusal 40 = .ok (.aload_n 2, 1) := by decide +kernel
theorem dX1_refusal_41 : decode cX1_refusal 41 = .ok (.invokevirtual 102, 3) := by decide +kernel
theorem dX1_refusal_44 : decode cX1_refusal 44 = .ok (.if_icmp .ge 7, 3) := by decide +kernel
theorem dX1_refusal_47 : decode cX1_refusal 47 = .ok (.iconst 4, 1) := by decide +kernel
theorem dX1_refusal_48 : decode cX1_refusal 48 = .ok (.goto 4, 3) := by decide +kernel
theorem dX1_refusal_51 : decode cX1_refusal 51 = .ok (.iconst 0, 1) := by decide +kernel
theorem dX1_refusal_52 : decode cX1_refusal 52 = .ok (.ireturn, 1) := by decide +kernel
set_option maxRecDepth 20000 in
theorem ggX1_storeCutting_X8_add : GoodIn wsX1_storeCutting wsX8_add := goodIn_r _ [12, 13, 14, 15, 16, 88, 89, 90, 91, 92] (by decide +kernel) (by decide +kernel)
set_option maxRecDepth 20000 in
theorem gX1_storeCutting_X8_add : GoodIn wsX1_storeCutting (wsV RX1 106 RX8 yX8_add wsX8_add) := goodIn_app (goodIn_of _ (by decide +kernel)) ggX1_storeCutting_X8_add
set_option maxRecDepth 20000 in
theorem ggX1_storeCutting_X6_numberOf : GoodIn wsX1_storeCutting wsX6_numberOf := goodIn_r _ [21, 22, 23, 93, 94, 95, 96, 97, 98] (by decide +kernel) (by decide +kernel)
set_option maxRecDepth 20000 in
theorem gX1_storeCutting_X6_numberOf : GoodIn wsX1_storeCutting (wsV RX1 114 RX6 yX6_numberOf wsX6_numberOf) := goodIn_app (goodIn_of _ (by decide +kernel)) ggX1_storeCutting_X6_numberOf
set_option maxRecDepth 20000 in
theorem ggX1_storeCutting_X1_buyPiece : GoodIn wsX1_storeCutting wsX1_buyPiece := goodIn_r _ [28, 5, 29, 7, 3, 30, 31, 32, 33, 34, 35, 36, 37, 27, 38, 39, 40, 41, 42, 43, 44, 45, 46, 47, 48, 49, 20, 50, 22, 23, 51, 52, 53, 54, 68, 69, 70, 71, 72, 73, 74, 75, 99, 100, 101, 93, 94, 95, 96, 97, 98] (by decide +kernel) (by decide +kernel)
set_option maxRecDepth 20000 in
theorem gX1_storeCutting_X1_buyPiece : GoodIn wsX1_storeCutting (wsV RX1 118 RX1 yX1_buyPiece wsX1_buyPiece) := goodIn_app (goodIn_of _ (by decide +kernel)) ggX1_storeCutting_X1_buyPiece
set_option maxRecDepth 20000 in
theorem ggX1_storeCutting_X8_addPart : GoodIn wsX1_storeCutting wsX8_addPart := goodIn_r _ [58, 13, 16, 59, 88, 89, 90, 91, 92] (by decide +kernel) (by decide +kernel)
set_option maxRecDepth 20000 in
theorem gX1_storeCutting_X8_addPart : GoodIn wsX1_storeCutting (wsV RX1 122 RX8 yX8_addPart wsX8_addPart) := goodIn_app (goodIn_of _ (by decide +kernel)) ggX1_storeCutting_X8_addPart
set_option maxRecDepth 20000 in
theorem ggX1_storeCutting_X6_beginUse : GoodIn wsX1_storeCutting wsX6_beginUse := goodIn_r _ [63, 22, 53, 93, 94, 95, 96, 97, 98] (by decide +kernel) (by decide +kernel)
set_option maxRecDepth 20000 in
theorem gX1_storeCutting_X6_beginUse : GoodIn wsX1_storeCutting (wsV RX1 126 RX6 yX6_beginUse wsX6_beginUse) := goodIn_app (goodIn_of _ (by decide +kernel)) ggX1_storeCutting_X6_beginUse
set_option maxRecDepth 20000 in
theorem ggX1_storeCutting_X1_depositsFor : GoodIn wsX1_storeCutting wsX1_depositsFor := goodIn_r _ [67, 39, 68, 69, 70, 71, 72, 73, 74, 75] (by decide +kernel) (by decide +kernel)
set_option maxRecDepth 20000 in
theorem gX1_storeCutting_X1_depositsFor : GoodIn wsX1_storeCutting (wsV RX1 82 RX1 yX1_depositsFor wsX1_depositsFor) := goodIn_app (goodIn_of _ (by decide +kernel)) ggX1_storeCutting_X1_depositsFor
set_option maxRecDepth 20000 in
theorem ggX1_storeCutting_X7_give : GoodIn wsX1_storeCutting wsX7_give := goodIn_r _ [44, 45, 46, 99, 100, 101] (by decide +kernel) (by decide +kernel)
set_option maxRecDepth 20000 in
theorem gX1_storeCutting_X7_give : GoodIn wsX1_storeCutting (wsV RX1 130 RX7 yX7_give wsX7_give) := goodIn_app (goodIn_of _ (by decide +kernel)) ggX1_storeCutting_X7_give
theorem dX1_storeCutting_0 : decode cX1_storeCutting 0 = .ok (.aload_n 0, 1) := by decide +kernel
theorem dX1_storeCutting_1 : decode cX1_storeCutting 1 = .ok (.getfield 35, 3) := by decide +kernel
theorem dX1_storeCutting_4 : decode cX1_storeCutting 4 = .ok (.lload_n 2, 1) := by decide +kernel
theorem dX1_storeCutting_5 : decode cX1_storeCutting 5 = .ok (.iload_n 1, 1) := by decide +kernel
theorem dX1_storeCutting_6 : decode cX1_storeCutting 6 = .ok (.invokevirtual 106, 3) := by decide +kernel
theorem dX1_storeCutting_9 : decode cX1_storeCutting 9 = .ok (.istore 5, 2) := by decide +kernel
theorem dX1_storeCutting_11 : decode cX1_storeCutting 11 = .ok (.iconst 0, 1) := by decide +kernel
theorem dX1_storeCutting_12 : decode cX1_storeCutting 12 = .ok (.istore 6, 2) := by decide +kernel
theorem dX1_storeCutting_14 : decode cX1_storeCutting 14 = .ok (.iload 6, 2) := by decide +kernel
theorem dX1_storeCutting_16 : decode cX1_storeCutting 16 = .ok (.aload 4, 2) := by decide +kernel
theorem dX1_storeCutting_18 : decode cX1_storeCutting 18 = .ok (.getfield 91, 3) := by decide +kernel
theorem dX1_storeCutting_21 : decode cX1_storeCutting 21 = .ok (.if_icmp .ge 67, 3) := by decide +kernel
theorem dX1_storeCutting_24 : decode cX1_storeCutting 24 = .ok (.aload_n 0, 1) := by decide +kernel
theorem dX1_storeCutting_25 : decode cX1_storeCutting 25 = .ok (.getfield 28, 3) := by decide +kernel
theorem dX1_storeCutting_28 : decode cX1_storeCutting 28 = .ok (.aload 4, 2) := by decide +kernel
theorem dX1_storeCutting_30 : decode cX1_storeCutting 30 = .ok (.getfield 110, 3) := by decide +kernel
theorem dX1_storeCutting_33 : decode cX1_storeCutting 33 = .ok (.iload 6, 2) := by decide +kernel
theorem dX1_storeCutting_35 : decode cX1_storeCutting 35 = .ok (.laload, 1) := by decide +kernel
theorem dX1_storeCutting_36 : decode cX1_storeCutting 36 = .ok (.invokevirtual 114, 3) := by decide +kernel
theorem dX1_storeCutting_39 : decode cX1_storeCutting 39 = .ok (.istore 7, 2) := by decide +kernel
theorem dX1_storeCutting_41 : decode cX1_storeCutting 41 = .ok (.iload 7, 2) := by decide +kernel
theorem dX1_storeCutting_43 : decode cX1_storeCutting 43 = .ok (.iconst (-1), 1) := by decide +kernel
theorem dX1_storeCutting_44 : decode cX1_storeCutting 44 = .ok (.if_icmp .ne 18, 3) := by decide +kernel
theorem dX1_storeCutting_47 : decode cX1_storeCutting 47 = .ok (.aload_n 0, 1) := by decide +kernel
theorem dX1_storeCutting_48 : decode cX1_storeCutting 48 = .ok (.iload_n 1, 1) := by decide +kernel
theorem dX1_storeCutting_49 : decode cX1_storeCutting 49 = .ok (.aload 4, 2) := by decide +kernel
theorem dX1_storeCutting_51 : decode cX1_storeCutting 51 = .ok (.getfield 110, 3) := by decide +kernel
theorem dX1_storeCutting_54 : decode cX1_storeCutting 54 = .ok (.iload 6, 2) := by decide +kernel
theorem dX1_storeCutting_56 : decode cX1_storeCutting 56 = .ok (.laload, 1) := by decide +kernel
theorem dX1_storeCutting_57 : decode cX1_storeCutting 57 = .ok (.invokevirtual 118, 3) := by decide +kernel
theorem dX1_storeCutting_60 : decode cX1_storeCutting 60 = .ok (.istore 7, 2) := by decide +kernel
theorem dX1_storeCutting_62 : decode cX1_storeCutting 62 = .ok (.aload_n 0, 1) := by decide +kernel
theorem dX1_storeCutting_63 : decode cX1_storeCutting 63 = .ok (.getfield 35, 3) := by decide +kernel
theorem dX1_storeCutting_66 : decode cX1_storeCutting 66 = .ok (.iload 5, 2) := by decide +kernel
theorem dX1_storeCutting_68 : decode cX1_storeCutting 68 = .ok (.iload 7, 2) := by decide +kernel
theorem dX1_storeCutting_70 : decode cX1_storeCutting 70 = .ok (.invokevirtual 122, 3) := by decide +kernel
theorem dX1_storeCutting_73 : decode cX1_storeCutting 73 = .ok (.aload_n 0, 1) := by decide +kernel
theorem dX1_storeCutting_74 : decode cX1_storeCutting 74 = .ok (.getfield 28, 3) := by decide +kernel
theorem dX1_storeCutting_77 : decode cX1_storeCutting 77 = .ok (.iload 7, 2) := by decide +kernel
theorem dX1_storeCutting_79 : decode cX1_storeCutting 79 = .ok (.invokevirtual 126, 3) := by decide +kernel
theorem dX1_storeCutting_82 : decode cX1_storeCutting 82 = .ok (.iinc 6 1, 3) := by decide +kernel
theorem dX1_storeCutting_85 : decode cX1_storeCutting 85 = .ok (.goto (-71), 3) := by decide +kernel
theorem dX1_storeCutting_88 : decode cX1_storeCutting 88 = .ok (.aload_n 0, 1) := by decide +kernel
theorem dX1_storeCutting_89 : decode cX1_storeCutting 89 = .ok (.aload 4, 2) := by decide +kernel
theorem dX1_storeCutting_91 : decode cX1_storeCutting 91 = .ok (.getfield 91, 3) := by decide +kernel
theorem dX1_storeCutting_94 : decode cX1_storeCutting 94 = .ok (.invokevirtual 82, 3) := by decide +kernel
theorem dX1_storeCutting_97 : decode cX1_storeCutting 97 = .ok (.istore 6, 2) := by decide +kernel
theorem dX1_storeCutting_99 : decode cX1_storeCutting 99 = .ok (.aload_n 0, 1) := by decide +kernel
theorem dX1_storeCutting_100 : decode cX1_storeCutting 100 = .ok (.getfield 21, 3) := by decide +kernel
theorem dX1_storeCutting_103 : decode cX1_storeCutting 103 = .ok (.iload_n 1, 1) := by decide +kernel
theorem dX1_storeCutting_104 : decode cX1_storeCutting 104 = .ok (.iload 6, 2) := by decide +kernel
theorem dX1_storeCutting_106 : decode cX1_storeCutting 106 = .ok (.ineg, 1) := by decide +kernel
theorem dX1_storeCutting_107 : decode cX1_storeCutting 107 = .ok (.invokevirtual 130, 3) := by decide +kernel
theorem dX1_storeCutting_110 : decode cX1_storeCutting 110 = .ok (.aload_n 0, 1) := by decide +kernel
theorem dX1_storeCutting_111 : decode cX1_storeCutting 111 = .ok (.dup, 1) := by decide +kernel
theorem dX1_storeCutting_112 : decode cX1_storeCutting 112 = .ok (.getfield 46, 3) := by decide +kernel
theorem dX1_storeCutting_115 : decode cX1_storeCutting 115 = .ok (.iload 6, 2) := by decide +kernel
theorem dX1_storeCutting_117 : decode cX1_storeCutting 117 = .ok (.iadd, 1) := by decide +kernel
theorem dX1_storeCutting_118 : decode cX1_storeCutting 118 = .ok (.putfield 46, 3) := by decide +kernel
theorem dX1_storeCutting_121 : decode cX1_storeCutting 121 = .ok (.aload_n 0, 1) := by decide +kernel
theorem dX1_storeCutting_122 : decode cX1_storeCutting 122 = .ok (.getfield 15, 3) := by decide +kernel
theorem dX1_storeCutting_125 : decode cX1_storeCutting 125 = .ok (.iconst 2, 1) := by decide +kernel
theorem dX1_storeCutting_126 : decode cX1_storeCutting 126 = .ok (.dup2, 1) := by decide +kernel
theorem dX1_storeCutting_127 : decode cX1_storeCutting 127 = .ok (.iaload, 1) := by decide +kernel
theorem dX1_storeCutting_128 : decode cX1_storeCutting 128 = .ok (.iload 6, 2) := by decide +kernel
theorem dX1_storeCutting_130 : decode cX1_storeCutting 130 = .ok (.iadd, 1) := by decide +kernel
theorem dX1_storeCutting_131 : decode cX1_storeCutting 131 = .ok (.iastore, 1) := by decide +kernel
theorem dX1_storeCutting_132 : decode cX1_storeCutting 132 = .ok (.iload 5, 2) := by decide +kernel
theorem dX1_storeCutting_134 : decode cX1_storeCutting 134 = .ok (.ireturn, 1) := by decide +kernel
set_option maxRecDepth 20000 in
theorem ggX1_buyPiece_X4_lengthOf : GoodIn wsX1_buyPiece wsX4_lengthOf := goodIn_r _ [9] (by decide +kernel) (by decide +kernel)
set_option maxRecDepth 20000 in
theorem gX1_buyPiece_X4_lengthOf : GoodIn wsX1_buyPiece (va_wsS RX1 133 yX4_lengthOf wsX4_lengthOf) := goodIn_app (goodIn_of _ (by decide +kernel)) ggX1_buyPiece_X4_lengthOf
set_option maxRecDepth 20000 in
theorem ggX1_buyPiece_X1_newPrice : GoodIn wsX1_buyPiece wsX1_newPrice := goodIn_r _ [14, 15, 34, 35, 36, 37, 38, 39, 40, 41] (by decide +kernel) (by decide +kernel)
set_option maxRecDepth 20000 in
theorem gX1_buyPiece_X1_newPrice : GoodIn wsX1_buyPiece (wsV RX1 138 RX1 yX1_newPrice wsX1_newPrice) := goodIn_app (goodIn_of _ (by decide +kernel)) ggX1_buyPiece_X1_newPrice
set_option maxRecDepth 20000 in
theorem ggX1_buyPiece_X7_give : GoodIn wsX1_buyPiece wsX7_give := goodIn_r _ [20, 21, 22, 42, 43, 44] (by decide +kernel) (by decide +kernel)
set_option maxRecDepth 20000 in
theorem gX1_buyPiece_X7_give : GoodIn wsX1_buyPiece (wsV RX1 130 RX7 yX7_give wsX7_give) := goodIn_app (goodIn_of _ (by decide +kernel)) ggX1_buyPiece_X7_give
set_option maxRecDepth 20000 in
theorem ggX1_buyPiece_X6_add : GoodIn wsX1_buyPiece wsX6_add := goodIn_r _ [27, 28, 29, 30, 31, 32, 33, 45, 46, 47, 48, 49, 50] (by decide +kernel) (by decide +kernel)
set_option maxRecDepth 20000 in
theorem gX1_buyPiece_X6_add : GoodIn wsX1_buyPiece (wsV RX1 141 RX6 yX6_add wsX6_add) := goodIn_app (goodIn_of _ (by decide +kernel)) ggX1_buyPiece_X6_add
theorem dX1_buyPiece_0 : decode cX1_buyPiece 0 = .ok (.aload_n 0, 1) := by decide +kernel
theorem dX1_buyPiece_1 : decode cX1_buyPiece 1 = .ok (.lload_n 2, 1) := by decide +kernel
theorem dX1_buyPiece_2 : decode cX1_buyPiece 2 = .ok (.invokestatic 133, 3) := by decide +kernel
theorem dX1_buyPiece_5 : decode cX1_buyPiece 5 = .ok (.invokevirtual 138, 3) := by decide +kernel
theorem dX1_buyPiece_8 : decode cX1_buyPiece 8 = .ok (.istore 4, 2) := by decide +kernel
theorem dX1_buyPiece_10 : decode cX1_buyPiece 10 = .ok (.aload_n 0, 1) := by decide +kernel
theorem dX1_buyPiece_11 : decode cX1_buyPiece 11 = .ok (.getfield 21, 3) := by decide +kernel
theorem dX1_buyPiece_14 : decode cX1_buyPiece 14 = .ok (.iload_n 1, 1) := by decide +kernel
theorem dX1_buyPiece_15 : decode cX1_buyPiece 15 = .ok (.iload 4, 2) := by decide +kernel
theorem dX1_buyPiece_17 : decode cX1_buyPiece 17 = .ok (.ineg, 1) := by decide +kernel
theorem dX1_buyPiece_18 : decode cX1_buyPiece 18 = .ok (.invokevirtual 130, 3) := by decide +kernel
theorem dX1_buyPiece_21 : decode cX1_buyPiece 21 = .ok (.aload_n 0, 1) := by decide +kernel
theorem dX1_buyPiece_22 : decode cX1_buyPiece 22 = .ok (.dup, 1) := by decide +kernel
theorem dX1_buyPiece_23 : decode cX1_buyPiece 23 = .ok (.getfield 43, 3) := by decide +kernel
theorem dX1_buyPiece_26 : decode cX1_buyPiece 26 = .ok (.iload 4, 2) := by decide +kernel
theorem dX1_buyPiece_28 : decode cX1_buyPiece 28 = .ok (.iadd, 1) := by decide +kernel
theorem dX1_buyPiece_29 : decode cX1_buyPiece 29 = .ok (.putfield 43, 3) := by decide +kernel
theorem dX1_buyPiece_32 : decode cX1_buyPiece 32 = .ok (.aload_n 0, 1) := by decide +kernel
theorem dX1_buyPiece_33 : decode cX1_buyPiece 33 = .ok (.getfield 15, 3) := by decide +kernel
theorem dX1_buyPiece_36 : decode cX1_buyPiece 36 = .ok (.iconst 0, 1) := by decide +kernel
theorem dX1_buyPiece_37 : decode cX1_buyPiece 37 = .ok (.dup2, 1) := by decide +kernel
theorem dX1_buyPiece_38 : decode cX1_buyPiece 38 = .ok (.iaload, 1) := by decide +kernel
theorem dX1_buyPiece_39 : decode cX1_buyPiece 39 = .ok (.iload 4, 2) := by decide +kernel
theorem dX1_buyPiece_41 : decode cX1_buyPiece 41 = .ok (.iadd, 1) := by decide +kernel
theorem dX1_buyPiece_42 : decode cX1_buyPiece 42 = .ok (.iastore, 1) := by decide +kernel
theorem dX1_buyPiece_43 : decode cX1_buyPiece 43 = .ok (.aload_n 0, 1) := by decide +kernel
theorem dX1_buyPiece_44 : decode cX1_buyPiece 44 = .ok (.getfield 15, 3) := by decide +kernel
theorem dX1_buyPiece_47 : decode cX1_buyPiece 47 = .ok (.iconst 4, 1) := by decide +kernel
theorem dX1_buyPiece_48 : decode cX1_buyPiece 48 = .ok (.dup2, 1) := by decide +kernel
theorem dX1_buyPiece_49 : decode cX1_buyPiece 49 = .ok (.iaload, 1) := by decide +kernel
theorem dX1_buyPiece_50 : decode cX1_buyPiece 50 = .ok (.iconst 1, 1) := by decide +kernel
theorem dX1_buyPiece_51 : decode cX1_buyPiece 51 = .ok (.iadd, 1) := by decide +kernel
theorem dX1_buyPiece_52 : decode cX1_buyPiece 52 = .ok (.iastore, 1) := by decide +kernel
theorem dX1_buyPiece_53 : decode cX1_buyPiece 53 = .ok (.aload_n 0, 1) := by decide +kernel
theorem dX1_buyPiece_54 : decode cX1_buyPiece 54 = .ok (.getfield 28, 3) := by decide +kernel
theorem dX1_buyPiece_57 : decode cX1_buyPiece 57 = .ok (.lload_n 2, 1) := by decide +kernel
theorem dX1_buyPiece_58 : decode cX1_buyPiece 58 = .ok (.iload 4, 2) := by decide +kernel
theorem dX1_buyPiece_60 : decode cX1_buyPiece 60 = .ok (.iload_n 1, 1) := by decide +kernel
theorem dX1_buyPiece_61 : decode cX1_buyPiece 61 = .ok (.aload_n 0, 1) := by decide +kernel
theorem dX1_buyPiece_62 : decode cX1_buyPiece 62 = .ok (.getfield 39, 3) := by decide +kernel
theorem dX1_buyPiece_65 : decode cX1_buyPiece 65 = .ok (.invokevirtual 141, 3) := by decide +kernel
theorem dX1_buyPiece_68 : decode cX1_buyPiece 68 = .ok (.ireturn, 1) := by decide +kernel
set_option maxRecDepth 20000 in
theorem ggX1_endWord_X8_partAt : GoodIn wsX1_endWord wsX8_partAt := goodIn_r _ [10, 11, 12, 13, 60, 61, 62, 63, 64] (by decide +kernel) (by decide +kernel)
set_option maxRecDepth 20000 in
theorem gX1_endWord_X8_partAt : GoodIn wsX1_endWord (wsV RX1 144 RX8 yX8_partAt wsX8_partAt) := goodIn_app (goodIn_of _ (by decide +kernel)) ggX1_endWord_X8_partAt
set_option maxRecDepth 20000 in
theorem ggX1_endWord_X6_endUse : GoodIn wsX1_endWord wsX6_endUse := goodIn_r _ [18, 19, 20, 21, 65, 66, 67, 68, 69, 70] (by decide +kernel) (by decide +kernel)
set_option maxRecDepth 20000 in
theorem gX1_endWord_X6_endUse : GoodIn wsX1_endWord (wsV RX1 148 RX6 yX6_endUse wsX6_endUse) := goodIn_app (goodIn_of _ (by decide +kernel)) ggX1_endWord_X6_endUse
set_option maxRecDepth 20000 in
theorem ggX1_endWord_X1_depositsFor : GoodIn wsX1_endWord wsX1_depositsFor := goodIn_r _ [26, 27, 52, 53, 54, 55, 56, 57, 58, 59] (by decide +kernel) (by decide +kernel)
set_option maxRecDepth 20000 in
theorem gX1_endWord_X1_depositsFor : GoodIn wsX1_endWord (wsV RX1 82 RX1 yX1_depositsFor wsX1_depositsFor) := goodIn_app (goodIn_of _ (by decide +kernel)) ggX1_endWord_X1_depositsFor
set_option maxRecDepth 20000 in
theorem ggX1_endWord_X1_giveBack : GoodIn wsX1_endWord wsX1_giveBack := goodIn_r _ [31, 32, 33, 34, 35, 36, 37, 38, 39, 40, 41, 52, 53, 54, 55, 56, 57, 58, 59, 71, 72, 73] (by decide +kernel) (by decide +kernel)
set_option maxRecDepth 20000 in
theorem gX1_endWord_X1_giveBack : GoodIn wsX1_endWord (wsV RX1 151 RX1 yX1_giveBack wsX1_giveBack) := goodIn_app (goodIn_of _ (by decide +kernel)) ggX1_endWord_X1_giveBack
set_option maxRecDepth 20000 in
theorem ggX1_endWord_X8_drop : GoodIn wsX1_endWord wsX8_drop := goodIn_r _ [45, 11, 46, 47, 48, 49, 50, 51, 12, 13, 60, 61, 62, 63, 64] (by decide +kernel) (by decide +kernel)
set_option maxRecDepth 20000 in
theorem gX1_endWord_X8_drop : GoodIn wsX1_endWord (wsV RX1 154 RX8 yX8_drop wsX8_drop) := goodIn_app (goodIn_of _ (by decide +kernel)) ggX1_endWord_X8_drop
theorem dX1_endWord_0 : decode cX1_endWord 0 = .ok (.iconst 0, 1) := by decide +kernel
theorem dX1_endWord_1 : decode cX1_endWord 1 = .ok (.istore_n 2, 1) := by decide +kernel
theorem dX1_endWord_2 : decode cX1_endWord 2 = .ok (.iload_n 2, 1) := by decide +kernel
theorem dX1_endWord_3 : decode cX1_endWord 3 = .ok (.aload_n 0, 1) := by decide +kernel
theorem dX1_endWord_4 : decode cX1_endWord 4 = .ok (.getfield 35, 3) := by decide +kernel
theorem dX1_endWord_7 : decode cX1_endWord 7 = .ok (.getfield 79, 3) := by decide +kernel
theorem dX1_endWord_10 : decode cX1_endWord 10 = .ok (.iload_n 1, 1) := by decide +kernel
theorem dX1_endWord_11 : decode cX1_endWord 11 = .ok (.iaload, 1) := by decide +kernel
theorem dX1_endWord_12 : decode cX1_endWord 12 = .ok (.if_icmp .ge 29, 3) := by decide +kernel
theorem dX1_endWord_15 : decode cX1_endWord 15 = .ok (.aload_n 0, 1) := by decide +kernel
theorem dX1_endWord_16 : decode cX1_endWord 16 = .ok (.getfield 28, 3) := by decide +kernel
theorem dX1_endWord_19 : decode cX1_endWord 19 = .ok (.aload_n 0, 1) := by decide +kernel
theorem dX1_endWord_20 : decode cX1_endWord 20 = .ok (.getfield 35, 3) := by decide +kernel
theorem dX1_endWord_23 : decode cX1_endWord 23 = .ok (.iload_n 1, 1) := by decide +kernel
theorem dX1_endWord_24 : decode cX1_endWord 24 = .ok (.iload_n 2, 1) := by decide +kernel
theorem dX1_endWord_25 : decode cX1_endWord 25 = .ok (.invokevirtual 144, 3) := by decide +kernel
theorem dX1_endWord_28 : decode cX1_endWord 28 = .ok (.aload_n 0, 1) := by decide +kernel
theorem dX1_endWord_29 : decode cX1_endWord 29 = .ok (.getfield 39, 3) := by decide +kernel
theorem dX1_endWord_32 : decode cX1_endWord 32 = .ok (.invokevirtual 148, 3) := by decide +kernel
theorem dX1_endWord_35 : decode cX1_endWord 35 = .ok (.iinc 2 1, 3) := by decide +kernel
theorem dX1_endWord_38 : decode cX1_endWord 38 = .ok (.goto (-36), 3) := by decide +kernel
theorem dX1_endWord_41 : decode cX1_endWord 41 = .ok (.aload_n 0, 1) := by decide +kernel
theorem dX1_endWord_42 : decode cX1_endWord 42 = .ok (.aload_n 0, 1) := by decide +kernel
theorem dX1_endWord_43 : decode cX1_endWord 43 = .ok (.getfield 35, 3) := by decide +kernel
theorem dX1_endWord_46 : decode cX1_endWord 46 = .ok (.getfield 76, 3) := by decide +kernel
theorem dX1_endWord_49 : decode cX1_endWord 49 = .ok (.iload_n 1, 1) := by decide +kernel
theorem dX1_endWord_50 : decode cX1_endWord 50 = .ok (.iaload, 1) := by decide +kernel
theorem dX1_endWord_51 : decode cX1_endWord 51 = .ok (.aload_n 0, 1) := by decide +kernel
theorem dX1_endWord_52 : decode cX1_endWord 52 = .ok (.aload_n 0, 1) := by decide +kernel
theorem dX1_endWord_53 : decode cX1_endWord 53 = .ok (.getfield 35, 3) := by decide +kernel
theorem dX1_endWord_56 : decode cX1_endWord 56 = .ok (.getfield 79, 3) := by decide +kernel
theorem dX1_endWord_59 : decode cX1_endWord 59 = .ok (.iload_n 1, 1) := by decide +kernel
theorem dX1_endWord_60 : decode cX1_endWord 60 = .ok (.iaload, 1) := by decide +kernel
theorem dX1_endWord_61 : decode cX1_endWord 61 = .ok (.invokevirtual 82, 3) := by decide +kernel
theorem dX1_endWord_64 : decode cX1_endWord 64 = .ok (.invokevirtual 151, 3) := by decide +kernel
theorem dX1_endWord_67 : decode cX1_endWord 67 = .ok (.aload_n 0, 1) := by decide +kernel
theorem dX1_endWord_68 : decode cX1_endWord 68 = .ok (.getfield 35, 3) := by decide +kernel
theorem dX1_endWord_71 : decode cX1_endWord 71 = .ok (.iload_n 1, 1) := by decide +kernel
theorem dX1_endWord_72 : decode cX1_endWord 72 = .ok (.invokevirtual 154, 3) := by decide +kernel
theorem dX1_endWord_75 : decode cX1_endWord 75 = .ok (.return_, 1) := by decide +kernel
set_option maxRecDepth 20000 in
theorem ggX1_cutAnew_X2_cutKnown : GoodIn wsX1_cutAnew wsX2_cutKnown := goodIn_r _ [13, 14, 15, 16, 12, 17, 18, 19, 20, 21, 22, 23, 24, 25, 26, 27, 28, 29, 30, 31, 32, 33, 34, 35, 36, 37, 38, 39, 40, 41, 42, 43, 44, 45, 46, 47, 48, 49, 50, 51, 52, 53, 54, 55, 56, 57, 58, 59, 60, 61, 62, 63, 64, 65, 66, 67, 68, 69, 70, 71, 72, 128, 129, 130, 131, 132, 133, 134, 135, 136, 137, 138, 139, 115, 116, 117, 118, 119, 120, 121, 122, 140, 141, 142, 143, 144, 145] (by decide +kernel) (by decide +kernel)
set_option maxRecDepth 20000 in
theorem gX1_cutAnew_X2_cutKnown : GoodIn wsX1_cutAnew (wsV RX1 160 RX2 yX2_cutKnown wsX2_cutKnown) := goodIn_app (goodIn_of _ (by decide +kernel)) ggX1_cutAnew_X2_cutKnown
set_option maxRecDepth 20000 in
theorem ggX1_cutAnew_X6_numberOf : GoodIn wsX1_cutAnew wsX6_numberOf := goodIn_r _ [49, 50, 51, 140, 141, 142, 143, 144, 145] (by decide +kernel) (by decide +kernel)
set_option maxRecDepth 20000 in
theorem gX1_cutAnew_X6_numberOf : GoodIn wsX1_cutAnew (wsV RX1 114 RX6 yX6_numberOf wsX6_numberOf) := goodIn_app (goodIn_of _ (by decide +kernel)) ggX1_cutAnew_X6_numberOf
set_option maxRecDepth 20000 in
theorem ggX1_cutAnew_X6_beginUse : GoodIn wsX1_cutAnew wsX6_beginUse := goodIn_r _ [77, 50, 78, 140, 141, 142, 143, 144, 145] (by decide +kernel) (by decide +kernel)
set_option maxRecDepth 20000 in
theorem gX1_cutAnew_X6_beginUse : GoodIn wsX1_cutAnew (wsV RX1 126 RX6 yX6_beginUse wsX6_beginUse) := goodIn_app (goodIn_of _ (by decide +kernel)) ggX1_cutAnew_X6_beginUse
set_option maxRecDepth 20000 in
theorem ggX1_cutAnew_X8_partAt : GoodIn wsX1_cutAnew wsX8_partAt := goodIn_r _ [83, 84, 85, 86, 123, 124, 125, 126, 127] (by decide +kernel) (by decide +kernel)
set_option maxRecDepth 20000 in
theorem gX1_cutAnew_X8_partAt : GoodIn wsX1_cutAnew (wsV RX1 144 RX8 yX8_partAt wsX8_partAt) := goodIn_app (goodIn_of _ (by decide +kernel)) ggX1_cutAnew_X8_partAt
set_option maxRecDepth 20000 in
theorem ggX1_cutAnew_X6_endUse : GoodIn wsX1_cutAnew wsX6_endUse := goodIn_r _ [90, 50, 78, 91, 140, 141, 142, 143, 144, 145] (by decide +kernel) (by decide +kernel)
set_option maxRecDepth 20000 in
theorem gX1_cutAnew_X6_endUse : GoodIn wsX1_cutAnew (wsV RX1 148 RX6 yX6_endUse wsX6_endUse) := goodIn_app (goodIn_of _ (by decide +kernel)) ggX1_cutAnew_X6_endUse
set_option maxRecDepth 20000 in
theorem ggX1_cutAnew_X8_clearParts : GoodIn wsX1_cutAnew wsX8_clearParts := goodIn_r _ [95, 84, 85, 123, 124, 125, 126, 127] (by decide +kernel) (by decide +kernel)
set_option maxRecDepth 20000 in
theorem gX1_cutAnew_X8_clearParts : GoodIn wsX1_cutAnew (wsV RX1 164 RX8 yX8_clearParts wsX8_clearParts) := goodIn_app (goodIn_of _ (by decide +kernel)) ggX1_cutAnew_X8_clearParts
set_option maxRecDepth 20000 in
theorem ggX1_cutAnew_X8_addPart : GoodIn wsX1_cutAnew wsX8_addPart := goodIn_r _ [99, 84, 85, 86, 123, 124, 125, 126, 127] (by decide +kernel) (by decide +kernel)
set_option maxRecDepth 20000 in
theorem gX1_cutAnew_X8_addPart : GoodIn wsX1_cutAnew (wsV RX1 122 RX8 yX8_addPart wsX8_addPart) := goodIn_app (goodIn_of _ (by decide +kernel)) ggX1_cutAnew_X8_addPart
set_option maxRecDepth 20000 in
theorem ggX1_cutAnew_X1_depositsFor : GoodIn wsX1_cutAnew wsX1_depositsFor := goodIn_r _ [32, 33, 115, 116, 117, 118, 119, 120, 121, 122] (by decide +kernel) (by decide +kernel)
set_option maxRecDepth 20000 in
theorem gX1_cutAnew_X1_depositsFor : GoodIn wsX1_cutAnew (wsV RX1 82 RX1 yX1_depositsFor wsX1_depositsFor) := goodIn_app (goodIn_of _ (by decide +kernel)) ggX1_cutAnew_X1_depositsFor
set_option maxRecDepth 20000 in
theorem ggX1_cutAnew_X1_giveBack : GoodIn wsX1_cutAnew wsX1_giveBack := goodIn_r _ [104, 105, 106, 107, 108, 109, 110, 111, 112, 113, 114, 115, 116, 117, 118, 119, 120, 121, 122, 146, 147, 148] (by decide +kernel) (by decide +kernel)
set_option maxRecDepth 20000 in
theorem gX1_cutAnew_X1_giveBack : GoodIn wsX1_cutAnew (wsV RX1 151 RX1 yX1_giveBack wsX1_giveBack) := goodIn_app (goodIn_of _ (by decide +kernel)) ggX1_cutAnew_X1_giveBack
theorem dX1_cutAnew_0 : decode cX1_cutAnew 0 = .ok (.aload_n 2, 1) := by decide +kernel
theorem dX1_cutAnew_1 : decode cX1_cutAnew 1 = .ok (.aload_n 0, 1) := by decide +kernel
theorem dX1_cutAnew_2 : decode cX1_cutAnew 2 = .ok (.aload_n 0, 1) := by decide +kernel
theorem dX1_cutAnew_3 : decode cX1_cutAnew 3 = .ok (.getfield 35, 3) := by decide +kernel
theorem dX1_cutAnew_6 : decode cX1_cutAnew 6 = .ok (.getfield 157, 3) := by decide +kernel
theorem dX1_cutAnew_9 : decode cX1_cutAnew 9 = .ok (.iload_n 1, 1) := by decide +kernel
theorem dX1_cutAnew_10 : decode cX1_cutAnew 10 = .ok (.laload, 1) := by decide +kernel
theorem dX1_cutAnew_11 : decode cX1_cutAnew 11 = .ok (.invokevirtual 160, 3) := by decide +kernel
theorem dX1_cutAnew_14 : decode cX1_cutAnew 14 = .ok (.iconst 0, 1) := by decide +kernel
theorem dX1_cutAnew_15 : decode cX1_cutAnew 15 = .ok (.istore_n 3, 1) := by decide +kernel
theorem dX1_cutAnew_16 : decode cX1_cutAnew 16 = .ok (.iload_n 3, 1) := by decide +kernel
theorem dX1_cutAnew_17 : decode cX1_cutAnew 17 = .ok (.aload_n 2, 1) := by decide +kernel
theorem dX1_cutAnew_18 : decode cX1_cutAnew 18 = .ok (.getfield 91, 3) := by decide +kernel
theorem dX1_cutAnew_21 : decode cX1_cutAnew 21 = .ok (.if_icmp .ge 29, 3) := by decide +kernel
theorem dX1_cutAnew_24 : decode cX1_cutAnew 24 = .ok (.aload_n 0, 1) := by decide +kernel
theorem dX1_cutAnew_25 : decode cX1_cutAnew 25 = .ok (.getfield 28, 3) := by decide +kernel
theorem dX1_cutAnew_28 : decode cX1_cutAnew 28 = .ok (.aload_n 0, 1) := by decide +kernel
theorem dX1_cutAnew_29 : decode cX1_cutAnew 29 = .ok (.getfield 28, 3) := by decide +kernel
theorem dX1_cutAnew_32 : decode cX1_cutAnew 32 = .ok (.aload_n 2, 1) := by decide +kernel
theorem dX1_cutAnew_33 : decode cX1_cutAnew 33 = .ok (.getfield 110, 3) := by decide +kernel
theorem dX1_cutAnew_36 : decode cX1_cutAnew 36 = .ok (.iload_n 3, 1) := by decide +kernel
theorem dX1_cutAnew_37 : decode cX1_cutAnew 37 = .ok (.laload, 1) := by decide +kernel
theorem dX1_cutAnew_38 : decode cX1_cutAnew 38 = .ok (.invokevirtual 114, 3) := by decide +kernel
theorem dX1_cutAnew_41 : decode cX1_cutAnew 41 = .ok (.invokevirtual 126, 3) := by decide +kernel
theorem dX1_cutAnew_44 : decode cX1_cutAnew 44 = .ok (.iinc 3 1, 3) := by decide +kernel
theorem dX1_cutAnew_47 : decode cX1_cutAnew 47 = .ok (.goto (-31), 3) := by decide +kernel
theorem dX1_cutAnew_50 : decode cX1_cutAnew 50 = .ok (.aload_n 0, 1) := by decide +kernel
theorem dX1_cutAnew_51 : decode cX1_cutAnew 51 = .ok (.getfield 35, 3) := by decide +kernel
theorem dX1_cutAnew_54 : decode cX1_cutAnew 54 = .ok (.getfield 79, 3) := by decide +kernel
theorem dX1_cutAnew_57 : decode cX1_cutAnew 57 = .ok (.iload_n 1, 1) := by decide +kernel
theorem dX1_cutAnew_58 : decode cX1_cutAnew 58 = .ok (.iaload, 1) := by decide +kernel
theorem dX1_cutAnew_59 : decode cX1_cutAnew 59 = .ok (.istore_n 3, 1) := by decide +kernel
theorem dX1_cutAnew_60 : decode cX1_cutAnew 60 = .ok (.iconst 0, 1) := by decide +kernel
theorem dX1_cutAnew_61 : decode cX1_cutAnew 61 = .ok (.istore 4, 2) := by decide +kernel
theorem dX1_cutAnew_63 : decode cX1_cutAnew 63 = .ok (.iload 4, 2) := by decide +kernel
theorem dX1_cutAnew_65 : decode cX1_cutAnew 65 = .ok (.iload_n 3, 1) := by decide +kernel
theorem dX1_cutAnew_66 : decode cX1_cutAnew 66 = .ok (.if_icmp .ge 30, 3) := by decide +kernel
theorem dX1_cutAnew_69 : decode cX1_cutAnew 69 = .ok (.aload_n 0, 1) := by decide +kernel
theorem dX1_cutAnew_70 : decode cX1_cutAnew 70 = .ok (.getfield 28, 3) := by decide +kernel
theorem dX1_cutAnew_73 : decode cX1_cutAnew 73 = .ok (.aload_n 0, 1) := by decide +kernel
theorem dX1_cutAnew_74 : decode cX1_cutAnew 74 = .ok (.getfield 35, 3) := by decide +kernel
theorem dX1_cutAnew_77 : decode cX1_cutAnew 77 = .ok (.iload_n 1, 1) := by decide +kernel
theorem dX1_cutAnew_78 : decode cX1_cutAnew 78 = .ok (.iload 4, 2) := by decide +kernel
theorem dX1_cutAnew_80 : decode cX1_cutAnew 80 = .ok (.invokevirtual 144, 3) := by decide +kernel
theorem dX1_cutAnew_83 : decode cX1_cutAnew 83 = .ok (.aload_n 0, 1) := by decide +kernel
theorem dX1_cutAnew_84 : decode cX1_cutAnew 84 = .ok (.getfield 39, 3) := by decide +kernel
theorem dX1_cutAnew_87 : decode cX1_cutAnew 87 = .ok (.invokevirtual 148, 3) := by decide +kernel
theorem dX1_cutAnew_90 : decode cX1_cutAnew 90 = .ok (.iinc 4 1, 3) := by decide +kernel
theorem dX1_cutAnew_93 : decode cX1_cutAnew 93 = .ok (.goto (-30), 3) := by decide +kernel
theorem dX1_cutAnew_96 : decode cX1_cutAnew 96 = .ok (.aload_n 0, 1) := by decide +kernel
theorem dX1_cutAnew_97 : decode cX1_cutAnew 97 = .ok (.getfield 35, 3) := by decide +kernel
theorem dX1_cutAnew_100 : decode cX1_cutAnew 100 = .ok (.iload_n 1, 1) := by decide +kernel
theorem dX1_cutAnew_101 : decode cX1_cutAnew 101 = .ok (.invokevirtual 164, 3) := by decide +kernel
theorem dX1_cutAnew_104 : decode cX1_cutAnew 104 = .ok (.iconst 0, 1) := by decide +kernel
theorem dX1_cutAnew_105 : decode cX1_cutAnew 105 = .ok (.istore 4, 2) := by decide +kernel
theorem dX1_cutAnew_107 : decode cX1_cutAnew 107 = .ok (.iload 4, 2) := by decide +kernel
theorem dX1_cutAnew_109 : decode cX1_cutAnew 109 = .ok (.aload_n 2, 1) := by decide +kernel
theorem dX1_cutAnew_110 : decode cX1_cutAnew 110 = .ok (.getfield 91, 3) := by decide +kernel
theorem dX1_cutAnew_113 : decode cX1_cutAnew 113 = .ok (.if_icmp .ge 31, 3) := by decide +kernel
theorem dX1_cutAnew_116 : decode cX1_cutAnew 116 = .ok (.aload_n 0, 1) := by decide +kernel
theorem dX1_cutAnew_117 : decode cX1_cutAnew 117 = .ok (.getfield 35, 3) := by decide +kernel
theorem dX1_cutAnew_120 : decode cX1_cutAnew 120 = .ok (.iload_n 1, 1) := by decide +kernel
theorem dX1_cutAnew_121 : decode cX1_cutAnew 121 = .ok (.aload_n 0, 1) := by decide +kernel
theorem dX1_cutAnew_122 : decode cX1_cutAnew 122 = .ok (.getfield 28, 3) := by decide +kernel
theorem dX1_cutAnew_125 : decode cX1_cutAnew 125 = .ok (.aload_n 2, 1) := by decide +kernel
theorem dX1_cutAnew_126 : decode cX1_cutAnew 126 = .ok (.getfield 110, 3) := by decide +kernel
theorem dX1_cutAnew_129 : decode cX1_cutAnew 129 = .ok (.iload 4, 2) := by decide +kernel
theorem dX1_cutAnew_131 : decode cX1_cutAnew 131 = .ok (.laload, 1) := by decide +kernel
theorem dX1_cutAnew_132 : decode cX1_cutAnew 132 = .ok (.invokevirtual 114, 3) := by decide +kernel
theorem dX1_cutAnew_135 : decode cX1_cutAnew 135 = .ok (.invokevirtual 122, 3) := by decide +kernel
theorem dX1_cutAnew_138 : decode cX1_cutAnew 138 = .ok (.iinc 4 1, 3) := by decide +kernel
theorem dX1_cutAnew_141 : decode cX1_cutAnew 141 = .ok (.goto (-34), 3) := by decide +kernel
theorem dX1_cutAnew_144 : decode cX1_cutAnew 144 = .ok (.aload_n 0, 1) := by decide +kernel
theorem dX1_cutAnew_145 : decode cX1_cutAnew 145 = .ok (.iload_n 3, 1) := by decide +kernel
theorem dX1_cutAnew_146 : decode cX1_cutAnew 146 = .ok (.aload_n 2, 1) := by decide +kernel
theorem dX1_cutAnew_147 : decode cX1_cutAnew 147 = .ok (.getfield 91, 3) := by decide +kernel
theorem dX1_cutAnew_150 : decode cX1_cutAnew 150 = .ok (.isub, 1) := by decide +kernel
theorem dX1_cutAnew_151 : decode cX1_cutAnew 151 = .ok (.invokevirtual 82, 3) := by decide +kernel
theorem dX1_cutAnew_154 : decode cX1_cutAnew 154 = .ok (.istore 4, 2) := by decide +kernel
theorem dX1_cutAnew_156 : decode cX1_cutAnew 156 = .ok (.aload_n 0, 1) := by decide +kernel
theorem dX1_cutAnew_157 : decode cX1_cutAnew 157 = .ok (.aload_n 0, 1) := by decide +kernel
theorem dX1_cutAnew_158 : decode cX1_cutAnew 158 = .ok (.getfield 35, 3) := by decide +kernel
theorem dX1_cutAnew_161 : decode cX1_cutAnew 161 = .ok (.getfield 76, 3) := by decide +kernel
theorem dX1_cutAnew_164 : decode cX1_cutAnew 164 = .ok (.iload_n 1, 1) := by decide +kernel
theorem dX1_cutAnew_165 : decode cX1_cutAnew 165 = .ok (.iaload, 1) := by decide +kernel
theorem dX1_cutAnew_166 : decode cX1_cutAnew 166 = .ok (.iload 4, 2) := by decide +kernel
theorem dX1_cutAnew_168 : decode cX1_cutAnew 168 = .ok (.invokevirtual 151, 3) := by decide +kernel
theorem dX1_cutAnew_171 : decode cX1_cutAnew 171 = .ok (.iload 4, 2) := by decide +kernel
theorem dX1_cutAnew_173 : decode cX1_cutAnew 173 = .ok (.ireturn, 1) := by decide +kernel
set_option maxRecDepth 20000 in
theorem ggX1_giveBack_X7_give : GoodIn wsX1_giveBack wsX7_give := goodIn_r _ [8, 9, 10, 19, 20, 21] (by decide +kernel) (by decide +kernel)
set_option maxRecDepth 20000 in
theorem gX1_giveBack_X7_give : GoodIn wsX1_giveBack (wsV RX1 130 RX7 yX7_give wsX7_give) := goodIn_app (goodIn_of _ (by decide +kernel)) ggX1_giveBack_X7_give
theorem dX1_giveBack_0 : decode cX1_giveBack 0 = .ok (.aload_n 0, 1) := by decide +kernel
theorem dX1_giveBack_1 : decode cX1_giveBack 1 = .ok (.getfield 21, 3) := by decide +kernel
theorem dX1_giveBack_4 : decode cX1_giveBack 4 = .ok (.iload_n 1, 1) := by decide +kernel
theorem dX1_giveBack_5 : decode cX1_giveBack 5 = .ok (.iload_n 2, 1) := by decide +kernel
theorem dX1_giveBack_6 : decode cX1_giveBack 6 = .ok (.invokevirtual 130, 3) := by decide +kernel
theorem dX1_giveBack_9 : decode cX1_giveBack 9 = .ok (.aload_n 0, 1) := by decide +kernel
theorem dX1_giveBack_10 : decode cX1_giveBack 10 = .ok (.dup, 1) := by decide +kernel
theorem dX1_giveBack_11 : decode cX1_giveBack 11 = .ok (.getfield 46, 3) := by decide +kernel
theorem dX1_giveBack_14 : decode cX1_giveBack 14 = .ok (.iload_n 2, 1) := by decide +kernel
theorem dX1_giveBack_15 : decode cX1_giveBack 15 = .ok (.isub, 1) := by decide +kernel
theorem dX1_giveBack_16 : decode cX1_giveBack 16 = .ok (.putfield 46, 3) := by decide +kernel
theorem dX1_giveBack_19 : decode cX1_giveBack 19 = .ok (.aload_n 0, 1) := by decide +kernel
theorem dX1_giveBack_20 : decode cX1_giveBack 20 = .ok (.getfield 15, 3) := by decide +kernel
theorem dX1_giveBack_23 : decode cX1_giveBack 23 = .ok (.iconst 3, 1) := by decide +kernel
theorem dX1_giveBack_24 : decode cX1_giveBack 24 = .ok (.dup2, 1) := by decide +kernel
theorem dX1_giveBack_25 : decode cX1_giveBack 25 = .ok (.iaload, 1) := by decide +kernel
theorem dX1_giveBack_26 : decode cX1_giveBack 26 = .ok (.iload_n 2, 1) := by decide +kernel
theorem dX1_giveBack_27 : decode cX1_giveBack 27 = .ok (.iadd, 1) := by decide +kernel
theorem dX1_giveBack_28 : decode cX1_giveBack 28 = .ok (.iastore, 1) := by decide +kernel
theorem dX1_giveBack_29 : decode cX1_giveBack 29 = .ok (.return_, 1) := by decide +kernel
set_option maxRecDepth 20000 in
theorem ggX1_passTick_X6_goesBack : GoodIn wsX1_passTick wsX6_goesBack := goodIn_r _ [9, 10, 11, 12, 57, 58, 59, 60, 61, 62] (by decide +kernel) (by decide +kernel)
set_option maxRecDepth 20000 in
theorem gX1_passTick_X6_goesBack : GoodIn wsX1_passTick (wsV RX1 167 RX6 yX6_goesBack wsX6_goesBack) := goodIn_app (goodIn_of _ (by decide +kernel)) ggX1_passTick_X6_goesBack
set_option maxRecDepth 20000 in
theorem ggX1_passTick_X1_sendBack : GoodIn wsX1_passTick wsX1_sendBack := goodIn_r _ [17, 2, 18, 4, 19, 20, 21, 22, 23, 24, 25, 26, 27, 28, 29, 30, 31, 32, 33, 8, 34, 35, 36, 37, 38, 39, 40, 41, 10, 11, 12, 42, 43, 44, 45, 46, 47, 48, 49, 50, 51, 52, 53, 54, 55, 56, 57, 58, 59, 60, 61, 62, 63, 64, 65, 66, 67, 68, 69, 70] (by decide +kernel) (by decide +kernel)
set_option maxRecDepth 20000 in
theorem gX1_passTick_X1_sendBack : GoodIn wsX1_passTick (wsV RX1 171 RX1 yX1_sendBack wsX1_sendBack) := goodIn_app (goodIn_of _ (by decide +kernel)) ggX1_passTick_X1_sendBack
theorem dX1_passTick_0 : decode cX1_passTick 0 = .ok (.aload_n 0, 1) := by decide +kernel
theorem dX1_passTick_1 : decode cX1_passTick 1 = .ok (.dup, 1) := by decide +kernel
theorem dX1_passTick_2 : decode cX1_passTick 2 = .ok (.getfield 39, 3) := by decide +kernel
theorem dX1_passTick_5 : decode cX1_passTick 5 = .ok (.iconst 1, 1) := by decide +kernel
theorem dX1_passTick_6 : decode cX1_passTick 6 = .ok (.iadd, 1) := by decide +kernel
theorem dX1_passTick_7 : decode cX1_passTick 7 = .ok (.putfield 39, 3) := by decide +kernel
theorem dX1_passTick_10 : decode cX1_passTick 10 = .ok (.aload_n 0, 1) := by decide +kernel
theorem dX1_passTick_11 : decode cX1_passTick 11 = .ok (.getfield 28, 3) := by decide +kernel
theorem dX1_passTick_14 : decode cX1_passTick 14 = .ok (.getfield 58, 3) := by decide +kernel
theorem dX1_passTick_17 : decode cX1_passTick 17 = .ok (.istore_n 1, 1) := by decide +kernel
theorem dX1_passTick_18 : decode cX1_passTick 18 = .ok (.iconst 0, 1) := by decide +kernel
theorem dX1_passTick_19 : decode cX1_passTick 19 = .ok (.istore_n 2, 1) := by decide +kernel
theorem dX1_passTick_20 : decode cX1_passTick 20 = .ok (.iconst 0, 1) := by decide +kernel
theorem dX1_passTick_21 : decode cX1_passTick 21 = .ok (.istore_n 3, 1) := by decide +kernel
theorem dX1_passTick_22 : decode cX1_passTick 22 = .ok (.iload_n 3, 1) := by decide +kernel
theorem dX1_passTick_23 : decode cX1_passTick 23 = .ok (.iload_n 1, 1) := by decide +kernel
theorem dX1_passTick_24 : decode cX1_passTick 24 = .ok (.if_icmp .ge 52, 3) := by decide +kernel
theorem dX1_passTick_27 : decode cX1_passTick 27 = .ok (.iload_n 2, 1) := by decide +kernel
theorem dX1_passTick_28 : decode cX1_passTick 28 = .ok (.aload_n 0, 1) := by decide +kernel
theorem dX1_passTick_29 : decode cX1_passTick 29 = .ok (.getfield 28, 3) := by decide +kernel
theorem dX1_passTick_32 : decode cX1_passTick 32 = .ok (.getfield 58, 3) := by decide +kernel
theorem dX1_passTick_35 : decode cX1_passTick 35 = .ok (.if_icmp .ge 41, 3) := by decide +kernel
theorem dX1_passTick_38 : decode cX1_passTick 38 = .ok (.aload_n 0, 1) := by decide +kernel
theorem dX1_passTick_39 : decode cX1_passTick 39 = .ok (.getfield 28, 3) := by decide +kernel
theorem dX1_passTick_42 : decode cX1_passTick 42 = .ok (.iload_n 2, 1) := by decide +kernel
theorem dX1_passTick_43 : decode cX1_passTick 43 = .ok (.aload_n 0, 1) := by decide +kernel
theorem dX1_passTick_44 : decode cX1_passTick 44 = .ok (.getfield 39, 3) := by decide +kernel
theorem dX1_passTick_47 : decode cX1_passTick 47 = .ok (.aload_n 0, 1) := by decide +kernel
theorem dX1_passTick_48 : decode cX1_passTick 48 = .ok (.getfield 9, 3) := by decide +kernel
theorem dX1_passTick_51 : decode cX1_passTick 51 = .ok (.iconst 3, 1) := by decide +kernel
theorem dX1_passTick_52 : decode cX1_passTick 52 = .ok (.iaload, 1) := by decide +kernel
theorem dX1_passTick_53 : decode cX1_passTick 53 = .ok (.invokevirtual 167, 3) := by decide +kernel
theorem dX1_passTick_56 : decode cX1_passTick 56 = .ok (.ifCond .eq 11, 3) := by decide +kernel
theorem dX1_passTick_59 : decode cX1_passTick 59 = .ok (.aload_n 0, 1) := by decide +kernel
theorem dX1_passTick_60 : decode cX1_passTick 60 = .ok (.iload_n 2, 1) := by decide +kernel
theorem dX1_passTick_61 : decode cX1_passTick 61 = .ok (.invokevirtual 171, 3) := by decide +kernel
theorem dX1_passTick_64 : decode cX1_passTick 64 = .ok (.goto 6, 3) := by decide +kernel
theorem dX1_passTick_67 : decode cX1_passTick 67 = .ok (.iinc 2 1, 3) := by decide +kernel
theorem dX1_passTick_70 : decode cX1_passTick 70 = .ok (.iinc 3 1, 3) := by decide +kernel
theorem dX1_passTick_73 : decode cX1_passTick 73 = .ok (.goto (-51), 3) := by decide +kernel
theorem dX1_passTick_76 : decode cX1_passTick 76 = .ok (.iload_n 1, 1) := by decide +kernel
theorem dX1_passTick_77 : decode cX1_passTick 77 = .ok (.aload_n 0, 1) := by decide +kernel
theorem dX1_passTick_78 : decode cX1_passTick 78 = .ok (.getfield 28, 3) := by decide +kernel
theorem dX1_passTick_81 : decode cX1_passTick 81 = .ok (.getfield 58, 3) := by decide +kernel
theorem dX1_passTick_84 : decode cX1_passTick 84 = .ok (.isub, 1) := by decide +kernel
theorem dX1_passTick_85 : decode cX1_passTick 85 = .ok (.ireturn, 1) := by decide +kernel
set_option maxRecDepth 20000 in
theorem ggX1_sendBack_X7_give : GoodIn wsX1_sendBack wsX7_give := goodIn_r _ [13, 14, 15, 52, 53, 54] (by decide +kernel) (by decide +kernel)
set_option maxRecDepth 20000 in
theorem gX1_sendBack_X7_give : GoodIn wsX1_sendBack (wsV RX1 130 RX7 yX7_give wsX7_give) := goodIn_app (goodIn_of _ (by decide +kernel)) ggX1_sendBack_X7_give
set_option maxRecDepth 20000 in
theorem ggX1_sendBack_X6_drop : GoodIn wsX1_sendBack wsX6_drop := goodIn_r _ [20, 21, 22, 23, 24, 25, 26, 27, 28, 29, 30, 46, 47, 48, 49, 50, 51] (by decide +kernel) (by decide +kernel)
set_option maxRecDepth 20000 in
theorem gX1_sendBack_X6_drop : GoodIn wsX1_sendBack (wsV RX1 178 RX6 yX6_drop wsX6_drop) := goodIn_app (goodIn_of _ (by decide +kernel)) ggX1_sendBack_X6_drop
set_option maxRecDepth 20000 in
theorem ggX1_sendBack_X8_closeGap : GoodIn wsX1_sendBack wsX8_closeGap := goodIn_r _ [35, 36, 37, 55, 56, 57, 58, 59] (by decide +kernel) (by decide +kernel)
set_option maxRecDepth 20000 in
theorem gX1_sendBack_X8_closeGap : GoodIn wsX1_sendBack (wsV RX1 179 RX8 yX8_closeGap wsX8_closeGap) := goodIn_app (goodIn_of _ (by decide +kernel)) ggX1_sendBack_X8_closeGap
theorem dX1_sendBack_0 : decode cX1_sendBack 0 = .ok (.aload_n 0, 1) := by decide +kernel
theorem dX1_sendBack_1 : decode cX1_sendBack 1 = .ok (.getfield 28, 3) := by decide +kernel
theorem dX1_sendBack_4 : decode cX1_sendBack 4 = .ok (.getfield 174, 3) := by decide +kernel
theorem dX1_sendBack_7 : decode cX1_sendBack 7 = .ok (.iload_n 1, 1) := by decide +kernel
theorem dX1_sendBack_8 : decode cX1_sendBack 8 = .ok (.iaload, 1) := by decide +kernel
theorem dX1_sendBack_9 : decode cX1_sendBack 9 = .ok (.aload_n 0, 1) := by decide +kernel
theorem dX1_sendBack_10 : decode cX1_sendBack 10 = .ok (.getfield 9, 3) := by decide +kernel
theorem dX1_sendBack_13 : decode cX1_sendBack 13 = .ok (.iconst 4, 1) := by decide +kernel
theorem dX1_sendBack_14 : decode cX1_sendBack 14 = .ok (.iaload, 1) := by decide +kernel
theorem dX1_sendBack_15 : decode cX1_sendBack 15 = .ok (.imul, 1) := by decide +kernel
theorem dX1_sendBack_16 : decode cX1_sendBack 16 = .ok (.bipush 100, 2) := by decide +kernel
theorem dX1_sendBack_18 : decode cX1_sendBack 18 = .ok (.idiv, 1) := by decide +kernel
theorem dX1_sendBack_19 : decode cX1_sendBack 19 = .ok (.istore_n 2, 1) := by decide +kernel
theorem dX1_sendBack_20 : decode cX1_sendBack 20 = .ok (.aload_n 0, 1) := by decide +kernel
theorem dX1_sendBack_21 : decode cX1_sendBack 21 = .ok (.getfield 21, 3) := by decide +kernel
theorem dX1_sendBack_24 : decode cX1_sendBack 24 = .ok (.aload_n 0, 1) := by decide +kernel
theorem dX1_sendBack_25 : decode cX1_sendBack 25 = .ok (.getfield 28, 3) := by decide +kernel
theorem dX1_sendBack_28 : decode cX1_sendBack 28 = .ok (.getfield 177, 3) := by decide +kernel
theorem dX1_sendBack_31 : decode cX1_sendBack 31 = .ok (.iload_n 1, 1) := by decide +kernel
theorem dX1_sendBack_32 : decode cX1_sendBack 32 = .ok (.iaload, 1) := by decide +kernel
theorem dX1_sendBack_33 : decode cX1_sendBack 33 = .ok (.iload_n 2, 1) := by decide +kernel
theorem dX1_sendBack_34 : decode cX1_sendBack 34 = .ok (.invokevirtual 130, 3) := by decide +kernel
theorem dX1_sendBack_37 : decode cX1_sendBack 37 = .ok (.aload_n 0, 1) := by decide +kernel
theorem dX1_sendBack_38 : decode cX1_sendBack 38 = .ok (.dup, 1) := by decide +kernel
theorem dX1_sendBack_39 : decode cX1_sendBack 39 = .ok (.getfield 43, 3) := by decide +kernel
theorem dX1_sendBack_42 : decode cX1_sendBack 42 = .ok (.iload_n 2, 1) := by decide +kernel
theorem dX1_sendBack_43 : decode cX1_sendBack 43 = .ok (.isub, 1) := by decide +kernel
theorem dX1_sendBack_44 : decode cX1_sendBack 44 = .ok (.putfield 43, 3) := by decide +kernel
theorem dX1_sendBack_47 : decode cX1_sendBack 47 = .ok (.aload_n 0, 1) := by decide +kernel
theorem dX1_sendBack_48 : decode cX1_sendBack 48 = .ok (.getfield 15, 3) := by decide +kernel
theorem dX1_sendBack_51 : decode cX1_sendBack 51 = .ok (.iconst 1, 1) := by decide +kernel
theorem dX1_sendBack_52 : decode cX1_sendBack 52 = .ok (.dup2, 1) := by decide +kernel
theorem dX1_sendBack_53 : decode cX1_sendBack 53 = .ok (.iaload, 1) := by decide +kernel
theorem dX1_sendBack_54 : decode cX1_sendBack 54 = .ok (.iload_n 2, 1) := by decide +kernel
theorem dX1_sendBack_55 : decode cX1_sendBack 55 = .ok (.iadd, 1) := by decide +kernel
theorem dX1_sendBack_56 : decode cX1_sendBack 56 = .ok (.iastore, 1) := by decide +kernel
theorem dX1_sendBack_57 : decode cX1_sendBack 57 = .ok (.aload_n 0, 1) := by decide +kernel
theorem dX1_sendBack_58 : decode cX1_sendBack 58 = .ok (.getfield 15, 3) := by decide +kernel
theorem dX1_sendBack_61 : decode cX1_sendBack 61 = .ok (.iconst 5, 1) := by decide +kernel
theorem dX1_sendBack_62 : decode cX1_sendBack 62 = .ok (.dup2, 1) := by decide +kernel
theorem dX1_sendBack_63 : decode cX1_sendBack 63 = .ok (.iaload, 1) := by decide +kernel
theorem dX1_sendBack_64 : decode cX1_sendBack 64 = .ok (.iconst 1, 1) := by decide +kernel
theorem dX1_sendBack_65 : decode cX1_sendBack 65 = .ok (.iadd, 1) := by decide +kernel
theorem dX1_sendBack_66 : decode cX1_sendBack 66 = .ok (.iastore, 1) := by decide +kernel
theorem dX1_sendBack_67 : decode cX1_sendBack 67 = .ok (.aload_n 0, 1) := by decide +kernel
theorem dX1_sendBack_68 : decode cX1_sendBack 68 = .ok (.getfield 28, 3) := by decide +kernel
theorem dX1_sendBack_71 : decode cX1_sendBack 71 = .ok (.iload_n 1, 1) := by decide +kernel
theorem dX1_sendBack_72 : decode cX1_sendBack 72 = .ok (.invokevirtual 178, 3) := by decide +kernel
theorem dX1_sendBack_75 : decode cX1_sendBack 75 = .ok (.aload_n 0, 1) := by decide +kernel
theorem dX1_sendBack_76 : decode cX1_sendBack 76 = .ok (.getfield 35, 3) := by decide +kernel
theorem dX1_sendBack_79 : decode cX1_sendBack 79 = .ok (.iload_n 1, 1) := by decide +kernel
theorem dX1_sendBack_80 : decode cX1_sendBack 80 = .ok (.invokevirtual 179, 3) := by decide +kernel
theorem dX1_sendBack_83 : decode cX1_sendBack 83 = .ok (.return_, 1) := by decide +kernel
set_option maxRecDepth 20000 in
theorem ggX1_madeUp_X8_partAt : GoodIn wsX1_madeUp wsX8_partAt := goodIn_r _ [10, 11, 12, 13, 29, 30, 31, 32, 33] (by decide +kernel) (by decide +kernel)
set_option maxRecDepth 20000 in
theorem gX1_madeUp_X8_partAt : GoodIn wsX1_madeUp (wsV RX1 144 RX8 yX8_partAt wsX8_partAt) := goodIn_app (goodIn_of _ (by decide +kernel)) ggX1_madeUp_X8_partAt
set_option maxRecDepth 20000 in
theorem ggX1_madeUp_X4_join : GoodIn wsX1_madeUp wsX4_join := goodIn_r _ [17] (by decide +kernel) (by decide +kernel)
set_option maxRecDepth 20000 in
theorem gX1_madeUp_X4_join : GoodIn wsX1_madeUp (va_wsS RX1 183 yX4_join wsX4_join) := goodIn_app (goodIn_of _ (by decide +kernel)) ggX1_madeUp_X4_join
set_option maxRecDepth 20000 in
theorem ggX1_madeUp_X4_lengthOf : GoodIn wsX1_madeUp wsX4_lengthOf := goodIn_r _ [20] (by decide +kernel) (by decide +kernel)
set_option maxRecDepth 20000 in
theorem gX1_madeUp_X4_lengthOf : GoodIn wsX1_madeUp (va_wsS RX1 133 yX4_lengthOf wsX4_lengthOf) := goodIn_app (goodIn_of _ (by decide +kernel)) ggX1_madeUp_X4_lengthOf
theorem dX1_madeUp_0 : decode cX1_madeUp 0 = .ok (.lconst 0, 1) := by decide +kernel
theorem dX1_madeUp_1 : decode cX1_madeUp 1 = .ok (.lstore_n 2, 1) := by decide +kernel
theorem dX1_madeUp_2 : decode cX1_madeUp 2 = .ok (.iconst 0, 1) := by decide +kernel
theorem dX1_madeUp_3 : decode cX1_madeUp 3 = .ok (.istore 4, 2) := by decide +kernel
theorem dX1_madeUp_5 : decode cX1_madeUp 5 = .ok (.iconst 0, 1) := by decide +kernel
theorem dX1_madeUp_6 : decode cX1_madeUp 6 = .ok (.istore 5, 2) := by decide +kernel
theorem dX1_madeUp_8 : decode cX1_madeUp 8 = .ok (.iload 5, 2) := by decide +kernel
theorem dX1_madeUp_10 : decode cX1_madeUp 10 = .ok (.aload_n 0, 1) := by decide +kernel
theorem dX1_madeUp_11 : decode cX1_madeUp 11 = .ok (.getfield 35, 3) := by decide +kernel
theorem dX1_madeUp_14 : decode cX1_madeUp 14 = .ok (.getfield 79, 3) := by decide +kernel
theorem dX1_madeUp_17 : decode cX1_madeUp 17 = .ok (.iload_n 1, 1) := by decide +kernel
theorem dX1_madeUp_18 : decode cX1_madeUp 18 = .ok (.iaload, 1) := by decide +kernel
theorem dX1_madeUp_19 : decode cX1_madeUp 19 = .ok (.if_icmp .ge 75, 3) := by decide +kernel
theorem dX1_madeUp_22 : decode cX1_madeUp 22 = .ok (.aload_n 0, 1) := by decide +kernel
theorem dX1_madeUp_23 : decode cX1_madeUp 23 = .ok (.getfield 35, 3) := by decide +kernel
theorem dX1_madeUp_26 : decode cX1_madeUp 26 = .ok (.iload_n 1, 1) := by decide +kernel
theorem dX1_madeUp_27 : decode cX1_madeUp 27 = .ok (.iload 5, 2) := by decide +kernel
theorem dX1_madeUp_29 : decode cX1_madeUp 29 = .ok (.invokevirtual 144, 3) := by decide +kernel
theorem dX1_madeUp_32 : decode cX1_madeUp 32 = .ok (.istore 6, 2) := by decide +kernel
theorem dX1_madeUp_34 : decode cX1_madeUp 34 = .ok (.iload 6, 2) := by decide +kernel
theorem dX1_madeUp_36 : decode cX1_madeUp 36 = .ok (.ifCond .lt 15, 3) := by decide +kernel
theorem dX1_madeUp_39 : decode cX1_madeUp 39 = .ok (.iload 6, 2) := by decide +kernel
theorem dX1_madeUp_41 : decode cX1_madeUp 41 = .ok (.aload_n 0, 1) := by decide +kernel
theorem dX1_madeUp_42 : decode cX1_madeUp 42 = .ok (.getfield 28, 3) := by decide +kernel
theorem dX1_madeUp_45 : decode cX1_madeUp 45 = .ok (.getfield 58, 3) := by decide +kernel
theorem dX1_madeUp_48 : decode cX1_madeUp 48 = .ok (.if_icmp .lt 5, 3) := by decide +kernel
theorem dX1_madeUp_51 : decode cX1_madeUp 51 = .ok (.lconst 0, 1) := by decide +kernel
theorem dX1_madeUp_52 : decode cX1_madeUp 52 = .ok (.lreturn, 1) := by decide +kernel
theorem dX1_madeUp_53 : decode cX1_madeUp 53 = .ok (.lload_n 2, 1) := by decide +kernel
theorem dX1_madeUp_54 : decode cX1_madeUp 54 = .ok (.iload 4, 2) := by decide +kernel
theorem dX1_madeUp_56 : decode cX1_madeUp 56 = .ok (.aload_n 0, 1) := by decide +kernel
theorem dX1_madeUp_57 : decode cX1_madeUp 57 = .ok (.getfield 28, 3) := by decide +kernel
theorem dX1_madeUp_60 : decode cX1_madeUp 60 = .ok (.getfield 182, 3) := by decide +kernel
theorem dX1_madeUp_63 : decode cX1_madeUp 63 = .ok (.iload 6, 2) := by decide +kernel
theorem dX1_madeUp_65 : decode cX1_madeUp 65 = .ok (.laload, 1) := by decide +kernel
theorem dX1_madeUp_66 : decode cX1_madeUp 66 = .ok (.invokestatic 183, 3) := by decide +kernel
theorem dX1_madeUp_69 : decode cX1_madeUp 69 = .ok (.lstore_n 2, 1) := by decide +kernel
theorem dX1_madeUp_70 : decode cX1_madeUp 70 = .ok (.iload 4, 2) := by decide +kernel
theorem dX1_madeUp_72 : decode cX1_madeUp 72 = .ok (.aload_n 0, 1) := by decide +kernel
theorem dX1_madeUp_73 : decode cX1_madeUp 73 = .ok (.getfield 28, 3) := by decide +kernel
theorem dX1_madeUp_76 : decode cX1_madeUp 76 = .ok (.getfield 182, 3) := by decide +kernel
theorem dX1_madeUp_79 : decode cX1_madeUp 79 = .ok (.iload 6, 2) := by decide +kernel
theorem dX1_madeUp_81 : decode cX1_madeUp 81 = .ok (.laload, 1) := by decide +kernel
theorem dX1_madeUp_82 : decode cX1_madeUp 82 = .ok (.invokestatic 133, 3) := by decide +kernel
theorem dX1_madeUp_85 : decode cX1_madeUp 85 = .ok (.iadd, 1) := by decide +kernel
theorem dX1_madeUp_86 : decode cX1_madeUp 86 = .ok (.istore 4, 2) := by decide +kernel
theorem dX1_madeUp_88 : decode cX1_madeUp 88 = .ok (.iinc 5 1, 3) := by decide +kernel
theorem dX1_madeUp_91 : decode cX1_madeUp 91 = .ok (.goto (-83), 3) := by decide +kernel
theorem dX1_madeUp_94 : decode cX1_madeUp 94 = .ok (.lload_n 2, 1) := by decide +kernel
theorem dX1_madeUp_95 : decode cX1_madeUp 95 = .ok (.lreturn, 1) := by decide +kernel
set_option maxRecDepth 20000 in
theorem ggX1_wordsAreMadeUp_X1_madeUp : GoodIn wsX1_wordsAreMadeUp wsX1_madeUp := goodIn_r _ [8, 1, 9, 10, 11, 12, 13, 14, 15, 16, 17, 18, 19, 20, 21, 22, 23, 24, 25, 26, 27, 28, 29, 30, 31, 32, 33, 34, 35, 36, 37, 38, 39, 40, 41, 42, 43, 44, 45, 46] (by decide +kernel) (by decide +kernel)
set_option maxRecDepth 20000 in
theorem gX1_wordsAreMadeUp_X1_madeUp : GoodIn wsX1_wordsAreMadeUp (wsV RX1 187 RX1 yX1_madeUp wsX1_madeUp) := goodIn_app (goodIn_of _ (by decide +kernel)) ggX1_wordsAreMadeUp_X1_madeUp
theorem dX1_wordsAreMadeUp_0 : decode cX1_wordsAreMadeUp 0 = .ok (.iconst 0, 1) := by decide +kernel
theorem dX1_wordsAreMadeUp_1 : decode cX1_wordsAreMadeUp 1 = .ok (.istore_n 1, 1) := by decide +kernel
theorem dX1_wordsAreMadeUp_2 : decode cX1_wordsAreMadeUp 2 = .ok (.iload_n 1, 1) := by decide +kernel
theorem dX1_wordsAreMadeUp_3 : decode cX1_wordsAreMadeUp 3 = .ok (.aload_n 0, 1) := by decide +kernel
theorem dX1_wordsAreMadeUp_4 : decode cX1_wordsAreMadeUp 4 = .ok (.getfield 35, 3) := by decide +kernel
theorem dX1_wordsAreMadeUp_7 : decode cX1_wordsAreMadeUp 7 = .ok (.getfield 59, 3) := by decide +kernel
theorem dX1_wordsAreMadeUp_10 : decode cX1_wordsAreMadeUp 10 = .ok (.if_icmp .ge 29, 3) := by decide +kernel
theorem dX1_wordsAreMadeUp_13 : decode cX1_wordsAreMadeUp 13 = .ok (.aload_n 0, 1) := by decide +kernel
theorem dX1_wordsAreMadeUp_14 : decode cX1_wordsAreMadeUp 14 = .ok (.iload_n 1, 1) := by decide +kernel
theorem dX1_wordsAreMadeUp_15 : decode cX1_wordsAreMadeUp 15 = .ok (.invokevirtual 187, 3) := by decide +kernel
theorem dX1_wordsAreMadeUp_18 : decode cX1_wordsAreMadeUp 18 = .ok (.aload_n 0, 1) := by decide +kernel
theorem dX1_wordsAreMadeUp_19 : decode cX1_wordsAreMadeUp 19 = .ok (.getfield 35, 3) := by decide +kernel
theorem dX1_wordsAreMadeUp_22 : decode cX1_wordsAreMadeUp 22 = .ok (.getfield 157, 3) := by decide +kernel
theorem dX1_wordsAreMadeUp_25 : decode cX1_wordsAreMadeUp 25 = .ok (.iload_n 1, 1) := by decide +kernel
theorem dX1_wordsAreMadeUp_26 : decode cX1_wordsAreMadeUp 26 = .ok (.laload, 1) := by decide +kernel
theorem dX1_wordsAreMadeUp_27 : decode cX1_wordsAreMadeUp 27 = .ok (.lcmp, 1) := by decide +kernel
theorem dX1_wordsAreMadeUp_28 : decode cX1_wordsAreMadeUp 28 = .ok (.ifCond .eq 5, 3) := by decide +kernel
theorem dX1_wordsAreMadeUp_31 : decode cX1_wordsAreMadeUp 31 = .ok (.iconst 0, 1) := by decide +kernel
theorem dX1_wordsAreMadeUp_32 : decode cX1_wordsAreMadeUp 32 = .ok (.ireturn, 1) := by decide +kernel
theorem dX1_wordsAreMadeUp_33 : decode cX1_wordsAreMadeUp 33 = .ok (.iinc 1 1, 3) := by decide +kernel
theorem dX1_wordsAreMadeUp_36 : decode cX1_wordsAreMadeUp 36 = .ok (.goto (-34), 3) := by decide +kernel
theorem dX1_wordsAreMadeUp_39 : decode cX1_wordsAreMadeUp 39 = .ok (.iconst 1, 1) := by decide +kernel
theorem dX1_wordsAreMadeUp_40 : decode cX1_wordsAreMadeUp 40 = .ok (.ireturn, 1) := by decide +kernel
set_option maxRecDepth 20000 in
theorem ggX1_usesAreTrue_X8_usesIn : GoodIn wsX1_usesAreTrue wsX8_usesIn := goodIn_r _ [10, 11, 12, 13, 14, 9, 15, 16, 17, 32, 33, 34, 35, 36] (by decide +kernel) (by decide +kernel)
set_option maxRecDepth 20000 in
theorem gX1_usesAreTrue_X8_usesIn : GoodIn wsX1_usesAreTrue (wsV RX1 191 RX8 yX8_usesIn wsX8_usesIn) := goodIn_app (goodIn_of _ (by decide +kernel)) ggX1_usesAreTrue_X8_usesIn
theorem dX1_usesAreTrue_0 : decode cX1_usesAreTrue 0 = .ok (.iconst 0, 1) := by decide +kernel
theorem dX1_usesAreTrue_1 : decode cX1_usesAreTrue 1 = .ok (.istore_n 1, 1) := by decide +kernel
theorem dX1_usesAreTrue_2 : decode cX1_usesAreTrue 2 = .ok (.iload_n 1, 1) := by decide +kernel
theorem dX1_usesAreTrue_3 : decode cX1_usesAreTrue 3 = .ok (.aload_n 0, 1) := by decide +kernel
theorem dX1_usesAreTrue_4 : decode cX1_usesAreTrue 4 = .ok (.getfield 28, 3) := by decide +kernel
theorem dX1_usesAreTrue_7 : decode cX1_usesAreTrue 7 = .ok (.getfield 58, 3) := by decide +kernel
theorem dX1_usesAreTrue_10 : decode cX1_usesAreTrue 10 = .ok (.if_icmp .ge 57, 3) := by decide +kernel
theorem dX1_usesAreTrue_13 : decode cX1_usesAreTrue 13 = .ok (.iconst 0, 1) := by decide +kernel
theorem dX1_usesAreTrue_14 : decode cX1_usesAreTrue 14 = .ok (.istore_n 2, 1) := by decide +kernel
theorem dX1_usesAreTrue_15 : decode cX1_usesAreTrue 15 = .ok (.iconst 0, 1) := by decide +kernel
theorem dX1_usesAreTrue_16 : decode cX1_usesAreTrue 16 = .ok (.istore_n 3, 1) := by decide +kernel
theorem dX1_usesAreTrue_17 : decode cX1_usesAreTrue 17 = .ok (.iload_n 3, 1) := by decide +kernel
theorem dX1_usesAreTrue_18 : decode cX1_usesAreTrue 18 = .ok (.aload_n 0, 1) := by decide +kernel
theorem dX1_usesAreTrue_19 : decode cX1_usesAreTrue 19 = .ok (.getfield 35, 3) := by decide +kernel
theorem dX1_usesAreTrue_22 : decode cX1_usesAreTrue 22 = .ok (.getfield 59, 3) := by decide +kernel
theorem dX1_usesAreTrue_25 : decode cX1_usesAreTrue 25 = .ok (.if_icmp .ge 21, 3) := by decide +kernel
theorem dX1_usesAreTrue_28 : decode cX1_usesAreTrue 28 = .ok (.iload_n 2, 1) := by decide +kernel
theorem dX1_usesAreTrue_29 : decode cX1_usesAreTrue 29 = .ok (.aload_n 0, 1) := by decide +kernel
theorem dX1_usesAreTrue_30 : decode cX1_usesAreTrue 30 = .ok (.getfield 35, 3) := by decide +kernel
theorem dX1_usesAreTrue_33 : decode cX1_usesAreTrue 33 = .ok (.iload_n 3, 1) := by decide +kernel
theorem dX1_usesAreTrue_34 : decode cX1_usesAreTrue 34 = .ok (.iload_n 1, 1) := by decide +kernel
theorem dX1_usesAreTrue_35 : decode cX1_usesAreTrue 35 = .ok (.invokevirtual 191, 3) := by decide +kernel
theorem dX1_usesAreTrue_38 : decode cX1_usesAreTrue 38 = .ok (.iadd, 1) := by decide +kernel
theorem dX1_usesAreTrue_39 : decode cX1_usesAreTrue 39 = .ok (.istore_n 2, 1) := by decide +kernel
theorem dX1_usesAreTrue_40 : decode cX1_usesAreTrue 40 = .ok (.iinc 3 1, 3) := by decide +kernel
theorem dX1_usesAreTrue_43 : decode cX1_usesAreTrue 43 = .ok (.goto (-26), 3) := by decide +kernel
theorem dX1_usesAreTrue_46 : decode cX1_usesAreTrue 46 = .ok (.iload_n 2, 1) := by decide +kernel
theorem dX1_usesAreTrue_47 : decode cX1_usesAreTrue 47 = .ok (.aload_n 0, 1) := by decide +kernel
theorem dX1_usesAreTrue_48 : decode cX1_usesAreTrue 48 = .ok (.getfield 28, 3) := by decide +kernel
theorem dX1_usesAreTrue_51 : decode cX1_usesAreTrue 51 = .ok (.getfield 194, 3) := by decide +kernel
theorem dX1_usesAreTrue_54 : decode cX1_usesAreTrue 54 = .ok (.iload_n 1, 1) := by decide +kernel
theorem dX1_usesAreTrue_55 : decode cX1_usesAreTrue 55 = .ok (.iaload, 1) := by decide +kernel
theorem dX1_usesAreTrue_56 : decode cX1_usesAreTrue 56 = .ok (.if_icmp .eq 5, 3) := by decide +kernel
theorem dX1_usesAreTrue_59 : decode cX1_usesAreTrue 59 = .ok (.iconst 0, 1) := by decide +kernel
theorem dX1_usesAreTrue_60 : decode cX1_usesAreTrue 60 = .ok (.ireturn, 1) := by decide +kernel
theorem dX1_usesAreTrue_61 : decode cX1_usesAreTrue 61 = .ok (.iinc 1 1, 3) := by decide +kernel
theorem dX1_usesAreTrue_64 : decode cX1_usesAreTrue 64 = .ok (.goto (-62), 3) := by decide +kernel
theorem dX1_usesAreTrue_67 : decode cX1_usesAreTrue 67 = .ok (.iconst 1, 1) := by decide +kernel
theorem dX1_usesAreTrue_68 : decode cX1_usesAreTrue 68 = .ok (.ireturn, 1) := by decide +kernel
set_option maxRecDepth 20000 in
theorem ggX1_fundIsTrue_X1_heldFor : GoodIn wsX1_fundIsTrue wsX1_heldFor := goodIn_r _ [8, 9, 10, 11, 12, 13, 14, 15, 7, 16, 17, 18, 19, 20, 21, 22, 23, 24, 25, 29, 30, 31, 32, 33] (by decide +kernel) (by decide +kernel)
set_option maxRecDepth 20000 in
theorem gX1_fundIsTrue_X1_heldFor : GoodIn wsX1_fundIsTrue (wsV RX1 197 RX1 yX1_heldFor wsX1_heldFor) := goodIn_app (goodIn_of _ (by decide +kernel)) ggX1_fundIsTrue_X1_heldFor
theorem dX1_fundIsTrue_0 : decode cX1_fundIsTrue 0 = .ok (.iconst 0, 1) := by decide +kernel
theorem dX1_fundIsTrue_1 : decode cX1_fundIsTrue 1 = .ok (.istore_n 1, 1) := by decide +kernel
theorem dX1_fundIsTrue_2 : decode cX1_fundIsTrue 2 = .ok (.iconst 0, 1) := by decide +kernel
theorem dX1_fundIsTrue_3 : decode cX1_fundIsTrue 3 = .ok (.istore_n 2, 1) := by decide +kernel
theorem dX1_fundIsTrue_4 : decode cX1_fundIsTrue 4 = .ok (.iload_n 2, 1) := by decide +kernel
theorem dX1_fundIsTrue_5 : decode cX1_fundIsTrue 5 = .ok (.aload_n 0, 1) := by decide +kernel
theorem dX1_fundIsTrue_6 : decode cX1_fundIsTrue 6 = .ok (.getfield 21, 3) := by decide +kernel
theorem dX1_fundIsTrue_9 : decode cX1_fundIsTrue 9 = .ok (.getfield 55, 3) := by decide +kernel
theorem dX1_fundIsTrue_12 : decode cX1_fundIsTrue 12 = .ok (.if_icmp .ge 17, 3) := by decide +kernel
theorem dX1_fundIsTrue_15 : decode cX1_fundIsTrue 15 = .ok (.iload_n 1, 1) := by decide +kernel
theorem dX1_fundIsTrue_16 : decode cX1_fundIsTrue 16 = .ok (.aload_n 0, 1) := by decide +kernel
theorem dX1_fundIsTrue_17 : decode cX1_fundIsTrue 17 = .ok (.iload_n 2, 1) := by decide +kernel
theorem dX1_fundIsTrue_18 : decode cX1_fundIsTrue 18 = .ok (.invokevirtual 197, 3) := by decide +kernel
theorem dX1_fundIsTrue_21 : decode cX1_fundIsTrue 21 = .ok (.iadd, 1) := by decide +kernel
theorem dX1_fundIsTrue_22 : decode cX1_fundIsTrue 22 = .ok (.istore_n 1, 1) := by decide +kernel
theorem dX1_fundIsTrue_23 : decode cX1_fundIsTrue 23 = .ok (.iinc 2 1, 3) := by decide +kernel
theorem dX1_fundIsTrue_26 : decode cX1_fundIsTrue 26 = .ok (.goto (-22), 3) := by decide +kernel
theorem dX1_fundIsTrue_29 : decode cX1_fundIsTrue 29 = .ok (.aload_n 0, 1) := by decide +kernel
theorem dX1_fundIsTrue_30 : decode cX1_fundIsTrue 30 = .ok (.getfield 46, 3) := by decide +kernel
theorem dX1_fundIsTrue_33 : decode cX1_fundIsTrue 33 = .ok (.iload_n 1, 1) := by decide +kernel
theorem dX1_fundIsTrue_34 : decode cX1_fundIsTrue 34 = .ok (.if_icmp .ne 7, 3) := by decide +kernel
theorem dX1_fundIsTrue_37 : decode cX1_fundIsTrue 37 = .ok (.iconst 1, 1) := by decide +kernel
theorem dX1_fundIsTrue_38 : decode cX1_fundIsTrue 38 = .ok (.goto 4, 3) := by decide +kernel
theorem dX1_fundIsTrue_41 : decode cX1_fundIsTrue 41 = .ok (.iconst 0, 1) := by decide +kernel
theorem dX1_fundIsTrue_42 : decode cX1_fundIsTrue 42 = .ok (.ireturn, 1) := by decide +kernel
