set_option maxRecDepth 20000 in
theorem gX10_fresh_X10_piece : GoodIn wsX10_fresh (wsV RX10 86 RX10 yX10_piece wsX10_piece) := goodIn_app (goodIn_of _ (by decide +kernel)) ggX10_fresh_X10_piece
set_option maxRecDepth 20000 in
theorem ggX10_fresh_X10_priceOf : GoodIn wsX10_fresh wsX10_priceOf := goodIn_r _ [36, 37, 38, 17, 18, 11, 19, 20, 21, 3, 22, 23, 39, 40, 41, 42, 43, 44, 45, 46, 47, 48, 49, 50, 51, 52, 53, 54, 55, 56, 57, 58, 59] (by decide +kernel) (by decide +kernel)
set_option maxRecDepth 20000 in
theorem gX10_fresh_X10_priceOf : GoodIn wsX10_fresh (wsV RX10 69 RX10 yX10_priceOf wsX10_priceOf) := goodIn_app (goodIn_of _ (by decide +kernel)) ggX10_fresh_X10_priceOf
set_option maxRecDepth 20000 in
theorem ggX10_why_X10_fresh : GoodIn wsX10_why wsX10_fresh := goodIn_r _ [9, 10, 11, 12, 13, 14, 15, 16, 17, 18, 19, 8, 20, 21, 22, 23, 24, 25, 26, 27, 28, 29, 30, 31, 32, 33, 34, 35, 36, 37, 38, 2, 39, 40, 41, 42, 43, 44, 45, 46, 47, 48, 49, 50, 51, 52, 53, 54, 55, 56, 57, 58, 59, 60, 61, 62, 63, 64, 65, 66] (by decide +kernel) (by decide +kernel)
set_option maxRecDepth 20000 in
theorem gX10_why_X10_fresh : GoodIn wsX10_why (wsV RX10 96 RX10 yX10_fresh wsX10_fresh) := goodIn_app (goodIn_of _ (by decide +kernel)) ggX10_why_X10_fresh
set_option maxRecDepth 20000 in
theorem ggX10_why_J6_bitCount_0f7a4 : GoodIn wsX10_why wsJ6_bitCount_0f7a4 := goodIn_r _ [13, 14, 15, 16] (by decide +kernel) (by decide +kernel)
set_option maxRecDepth 20000 in
theorem gX10_why_J6_bitCount_0f7a4 : GoodIn wsX10_why (va_wsS RX10 76 yJ6_bitCount_0f7a4 wsJ6_bitCount_0f7a4) := goodIn_app (goodIn_of _ (by decide +kernel)) ggX10_why_J6_bitCount_0f7a4
set_option maxRecDepth 20000 in
theorem ggX10_buys_X10_priceOf : GoodIn wsX10_buys wsX10_priceOf := goodIn_r _ [8, 9, 10, 11, 12, 7, 13, 14, 15, 16, 17, 18, 30, 31, 32, 33, 34, 35, 36, 37, 38, 39, 40, 41, 42, 43, 44, 45, 46, 47, 48, 49, 50] (by decide +kernel) (by decide +kernel)
set_option maxRecDepth 20000 in
theorem gX10_buys_X10_priceOf : GoodIn wsX10_buys (wsV RX10 69 RX10 yX10_priceOf wsX10_priceOf) := goodIn_app (goodIn_of _ (by decide +kernel)) ggX10_buys_X10_priceOf
set_option maxRecDepth 20000 in
theorem ggX10_buys_X10_comes : GoodIn wsX10_buys wsX10_comes := goodIn_r _ [22, 23, 24, 25, 26, 27, 28, 29, 30, 31, 32, 33, 34, 35, 36, 37, 38, 39, 40, 41, 42, 43, 44, 45, 46, 47, 48, 49, 50] (by decide +kernel) (by decide +kernel)
set_option maxRecDepth 20000 in
theorem gX10_buys_X10_comes : GoodIn wsX10_buys (wsV RX10 106 RX10 yX10_comes wsX10_comes) := goodIn_app (goodIn_of _ (by decide +kernel)) ggX10_buys_X10_comes
set_option maxRecDepth 20000 in
theorem ggX10_uses_J6_bitCount_0f7a4 : GoodIn wsX10_uses wsJ6_bitCount_0f7a4 := goodIn_r _ [7, 8, 9, 10] (by decide +kernel) (by decide +kernel)
set_option maxRecDepth 20000 in
theorem gX10_uses_J6_bitCount_0f7a4 : GoodIn wsX10_uses (va_wsS RX10 76 yJ6_bitCount_0f7a4 wsJ6_bitCount_0f7a4) := goodIn_app (goodIn_of _ (by decide +kernel)) ggX10_uses_J6_bitCount_0f7a4
set_option maxRecDepth 20000 in
theorem ggX10_uses_X10_piece : GoodIn wsX10_uses wsX10_piece := goodIn_r _ [15, 16, 17, 14, 18, 19, 20, 6, 21, 22, 23, 24, 25] (by decide +kernel) (by decide +kernel)
set_option maxRecDepth 20000 in
theorem gX10_uses_X10_piece : GoodIn wsX10_uses (wsV RX10 86 RX10 yX10_piece wsX10_piece) := goodIn_app (goodIn_of _ (by decide +kernel)) ggX10_uses_X10_piece
set_option maxRecDepth 20000 in
theorem ggX10_uses_X10_find : GoodIn wsX10_uses wsX10_find := goodIn_r _ [29, 30, 31, 32, 33, 34, 35, 36, 37, 38, 39, 40, 41, 42, 43, 44, 45, 46, 47, 48, 49, 50, 51, 52] (by decide +kernel) (by decide +kernel)
set_option maxRecDepth 20000 in
theorem gX10_uses_X10_find : GoodIn wsX10_uses (wsV RX10 63 RX10 yX10_find wsX10_find) := goodIn_app (goodIn_of _ (by decide +kernel)) ggX10_uses_X10_find
set_option maxRecDepth 20000 in
theorem ggX10_store_X10_best : GoodIn wsX10_store wsX10_best := goodIn_r _ [13, 14, 15, 12, 16, 17, 18, 19, 20, 21, 22, 23, 24, 25, 1, 26, 27, 28, 29, 30, 31, 32, 33, 34, 35, 36, 37, 38, 39, 40, 41, 42, 43, 44, 45, 46, 47, 48, 49, 72, 73, 74, 75, 76, 77, 78, 79, 80, 81, 82, 83, 84, 85, 86, 87, 88, 89, 90, 91, 92] (by decide +kernel) (by decide +kernel)
set_option maxRecDepth 20000 in
theorem gX10_store_X10_best : GoodIn wsX10_store (wsV RX10 82 RX10 yX10_best wsX10_best) := goodIn_app (goodIn_of _ (by decide +kernel)) ggX10_store_X10_best
set_option maxRecDepth 20000 in
theorem ggX10_store_J6_bitCount_0f7a4 : GoodIn wsX10_store wsJ6_bitCount_0f7a4 := goodIn_r _ [43, 44, 45, 46] (by decide +kernel) (by decide +kernel)
set_option maxRecDepth 20000 in
theorem gX10_store_J6_bitCount_0f7a4 : GoodIn wsX10_store (va_wsS RX10 76 yJ6_bitCount_0f7a4 wsJ6_bitCount_0f7a4) := goodIn_app (goodIn_of _ (by decide +kernel)) ggX10_store_J6_bitCount_0f7a4
set_option maxRecDepth 20000 in
theorem ggX10_store_X10_piece : GoodIn wsX10_store wsX10_piece := goodIn_r _ [53, 14, 15, 12, 16, 17, 18, 19, 20, 21, 26, 27, 28] (by decide +kernel) (by decide +kernel)
set_option maxRecDepth 20000 in
theorem gX10_store_X10_piece : GoodIn wsX10_store (wsV RX10 86 RX10 yX10_piece wsX10_piece) := goodIn_app (goodIn_of _ (by decide +kernel)) ggX10_store_X10_piece
set_option maxRecDepth 20000 in
theorem ggX10_store_X10_find : GoodIn wsX10_store wsX10_find := goodIn_r _ [32, 33, 34, 72, 73, 74, 75, 76, 77, 78, 79, 80, 81, 82, 83, 84, 85, 86, 87, 88, 89, 90, 91, 92] (by decide +kernel) (by decide +kernel)
set_option maxRecDepth 20000 in
theorem gX10_store_X10_find : GoodIn wsX10_store (wsV RX10 63 RX10 yX10_find wsX10_find) := goodIn_app (goodIn_of _ (by decide +kernel)) ggX10_store_X10_find
set_option maxRecDepth 20000 in
theorem ggX10_store_X10_buys : GoodIn wsX10_store wsX10_buys := goodIn_r _ [57, 2, 58, 4, 35, 36, 37, 12, 38, 39, 40, 14, 15, 16, 17, 18, 19, 20, 21, 59, 60, 61, 62, 34, 33, 63, 64, 65, 66, 67, 72, 73, 74, 75, 76, 77, 78, 79, 80, 81, 82, 83, 84, 85, 86, 87, 88, 89, 90, 91, 92] (by decide +kernel) (by decide +kernel)
set_option maxRecDepth 20000 in
theorem gX10_store_X10_buys : GoodIn wsX10_store (wsV RX10 110 RX10 yX10_buys wsX10_buys) := goodIn_app (goodIn_of _ (by decide +kernel)) ggX10_store_X10_buys
set_option maxRecDepth 20000 in
theorem ggX10_store_X10_uses : GoodIn wsX10_store wsX10_uses := goodIn_r _ [71, 65, 66, 67, 41, 42, 19, 43, 44, 45, 46, 50, 51, 52, 12, 53, 14, 15, 16, 17, 18, 20, 21, 26, 27, 28, 29, 30, 31, 32, 33, 34, 72, 73, 74, 75, 76, 77, 78, 79, 80, 81, 82, 83, 84, 85, 86, 87, 88, 89, 90, 91, 92] (by decide +kernel) (by decide +kernel)
set_option maxRecDepth 20000 in
theorem gX10_store_X10_uses : GoodIn wsX10_store (wsV RX10 114 RX10 yX10_uses wsX10_uses) := goodIn_app (goodIn_of _ (by decide +kernel)) ggX10_store_X10_uses
set_option maxRecDepth 20000 in
theorem ggX10_recut_X10_best : GoodIn wsX10_recut wsX10_best := goodIn_r _ [9, 10, 11, 8, 12, 13, 14, 15, 16, 17, 18, 19, 20, 21, 3, 22, 23, 24, 25, 26, 27, 28, 29, 30, 31, 32, 33, 34, 35, 36, 37, 38, 39, 40, 41, 42, 43, 44, 45, 64, 65, 66, 67, 68, 69, 70, 71, 72, 73, 74, 75, 76, 77, 78, 79, 80, 81, 82, 83, 84] (by decide +kernel) (by decide +kernel)
set_option maxRecDepth 20000 in
theorem gX10_recut_X10_best : GoodIn wsX10_recut (wsV RX10 82 RX10 yX10_best wsX10_best) := goodIn_app (goodIn_of _ (by decide +kernel)) ggX10_recut_X10_best
set_option maxRecDepth 20000 in
theorem ggX10_recut_X10_uses : GoodIn wsX10_recut wsX10_uses := goodIn_r _ [49, 50, 51, 52, 37, 38, 15, 39, 40, 41, 42, 53, 54, 55, 8, 56, 10, 11, 12, 13, 14, 16, 17, 22, 23, 24, 25, 26, 27, 28, 29, 30, 64, 65, 66, 67, 68, 69, 70, 71, 72, 73, 74, 75, 76, 77, 78, 79, 80, 81, 82, 83, 84] (by decide +kernel) (by decide +kernel)
set_option maxRecDepth 20000 in
theorem gX10_recut_X10_uses : GoodIn wsX10_recut (wsV RX10 114 RX10 yX10_uses wsX10_uses) := goodIn_app (goodIn_of _ (by decide +kernel)) ggX10_recut_X10_uses
set_option maxRecDepth 20000 in
theorem ggX10_recut_J6_bitCount_0f7a4 : GoodIn wsX10_recut wsJ6_bitCount_0f7a4 := goodIn_r _ [39, 40, 41, 42] (by decide +kernel) (by decide +kernel)
set_option maxRecDepth 20000 in
theorem gX10_recut_J6_bitCount_0f7a4 : GoodIn wsX10_recut (va_wsS RX10 76 yJ6_bitCount_0f7a4 wsJ6_bitCount_0f7a4) := goodIn_app (goodIn_of _ (by decide +kernel)) ggX10_recut_J6_bitCount_0f7a4
set_option maxRecDepth 20000 in
theorem ggX10_recut_X10_back : GoodIn wsX10_recut wsX10_back := goodIn_r _ [60, 61, 62, 63, 64, 65, 66, 67, 68, 69, 70, 71, 72, 73, 74, 75, 76, 77, 78, 79, 80, 81, 82, 83, 84] (by decide +kernel) (by decide +kernel)
set_option maxRecDepth 20000 in
theorem gX10_recut_X10_back : GoodIn wsX10_recut (wsV RX10 119 RX10 yX10_back wsX10_back) := goodIn_app (goodIn_of _ (by decide +kernel)) ggX10_recut_X10_back
set_option maxRecDepth 20000 in
theorem ggX10_remove_X10_uses : GoodIn wsX10_remove wsX10_uses := goodIn_r _ [11, 12, 13, 14, 15, 16, 17, 18, 19, 20, 21, 22, 23, 24, 10, 25, 26, 27, 28, 29, 30, 31, 32, 33, 34, 35, 36, 37, 38, 39, 40, 41, 48, 49, 50, 51, 52, 53, 54, 55, 56, 57, 58, 59, 60, 61, 62, 63, 64, 65, 66, 67, 68] (by decide +kernel) (by decide +kernel)
set_option maxRecDepth 20000 in
theorem gX10_remove_X10_uses : GoodIn wsX10_remove (wsV RX10 114 RX10 yX10_uses wsX10_uses) := goodIn_app (goodIn_of _ (by decide +kernel)) ggX10_remove_X10_uses
set_option maxRecDepth 20000 in
theorem ggX10_remove_J6_bitCount_0f7a4 : GoodIn wsX10_remove wsJ6_bitCount_0f7a4 := goodIn_r _ [18, 19, 20, 21] (by decide +kernel) (by decide +kernel)
set_option maxRecDepth 20000 in
theorem gX10_remove_J6_bitCount_0f7a4 : GoodIn wsX10_remove (va_wsS RX10 76 yJ6_bitCount_0f7a4 wsJ6_bitCount_0f7a4) := goodIn_app (goodIn_of _ (by decide +kernel)) ggX10_remove_J6_bitCount_0f7a4
set_option maxRecDepth 20000 in
theorem ggX10_remove_X10_back : GoodIn wsX10_remove wsX10_back := goodIn_r _ [45, 6, 46, 47, 48, 49, 50, 51, 52, 53, 54, 55, 56, 57, 58, 59, 60, 61, 62, 63, 64, 65, 66, 67, 68] (by decide +kernel) (by decide +kernel)
set_option maxRecDepth 20000 in
theorem gX10_remove_X10_back : GoodIn wsX10_remove (wsV RX10 119 RX10 yX10_back wsX10_back) := goodIn_app (goodIn_of _ (by decide +kernel)) ggX10_remove_X10_back
