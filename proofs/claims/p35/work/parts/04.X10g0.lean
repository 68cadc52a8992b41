set_option maxRecDepth 20000 in
theorem ggX10_size_J6_numberOfLeadingZeros_0f7a4 : GoodIn wsX10_size wsJ6_numberOfLeadingZeros_0f7a4 := goodIn_r _ [4, 5] (by decide +kernel) (by decide +kernel)
set_option maxRecDepth 20000 in
theorem gX10_size_J6_numberOfLeadingZeros_0f7a4 : GoodIn wsX10_size (va_wsS RX10 40 yJ6_numberOfLeadingZeros_0f7a4 wsJ6_numberOfLeadingZeros_0f7a4) := goodIn_app (goodIn_of _ (by decide +kernel)) ggX10_size_J6_numberOfLeadingZeros_0f7a4
set_option maxRecDepth 20000 in
theorem ggX10_part_X10_size : GoodIn wsX10_part wsX10_size := goodIn_r _ [4, 5, 6, 7, 8, 9] (by decide +kernel) (by decide +kernel)
set_option maxRecDepth 20000 in
theorem gX10_part_X10_size : GoodIn wsX10_part (va_wsS RX10 46 yX10_size wsX10_size) := goodIn_app (goodIn_of _ (by decide +kernel)) ggX10_part_X10_size
set_option maxRecDepth 20000 in
theorem ggX10_priceOf_X10_size : GoodIn wsX10_priceOf wsX10_size := goodIn_r _ [6, 7, 8, 9, 10, 11] (by decide +kernel) (by decide +kernel)
set_option maxRecDepth 20000 in
theorem gX10_priceOf_X10_size : GoodIn wsX10_priceOf (va_wsS RX10 46 yX10_size wsX10_size) := goodIn_app (goodIn_of _ (by decide +kernel)) ggX10_priceOf_X10_size
set_option maxRecDepth 20000 in
theorem ggX10_costOf_X10_size : GoodIn wsX10_costOf wsX10_size := goodIn_r _ [5, 6, 7, 8, 9, 10] (by decide +kernel) (by decide +kernel)
set_option maxRecDepth 20000 in
theorem gX10_costOf_X10_size : GoodIn wsX10_costOf (va_wsS RX10 46 yX10_size wsX10_size) := goodIn_app (goodIn_of _ (by decide +kernel)) ggX10_costOf_X10_size
set_option maxRecDepth 20000 in
theorem ggX10_costOf_X10_part : GoodIn wsX10_costOf wsX10_part := goodIn_r _ [13, 2, 3, 4, 5, 6, 7, 8, 9, 10] (by decide +kernel) (by decide +kernel)
set_option maxRecDepth 20000 in
theorem gX10_costOf_X10_part : GoodIn wsX10_costOf (va_wsS RX10 59 yX10_part wsX10_part) := goodIn_app (goodIn_of _ (by decide +kernel)) ggX10_costOf_X10_part
set_option maxRecDepth 20000 in
theorem ggX10_costOf_X10_find : GoodIn wsX10_costOf wsX10_find := goodIn_r _ [17, 18, 19, 26, 27, 28, 29, 30, 31, 32, 33, 34, 35, 36, 37, 38, 39, 40, 41, 42, 43, 44, 45, 46] (by decide +kernel) (by decide +kernel)
set_option maxRecDepth 20000 in
theorem gX10_costOf_X10_find : GoodIn wsX10_costOf (wsV RX10 63 RX10 yX10_find wsX10_find) := goodIn_app (goodIn_of _ (by decide +kernel)) ggX10_costOf_X10_find
set_option maxRecDepth 20000 in
theorem ggX10_costOf_X10_priceOf : GoodIn wsX10_costOf wsX10_priceOf := goodIn_r _ [23, 24, 25, 2, 3, 4, 5, 6, 7, 8, 9, 10, 26, 27, 28, 29, 30, 31, 32, 33, 34, 35, 36, 37, 38, 39, 40, 41, 42, 43, 44, 45, 46] (by decide +kernel) (by decide +kernel)
set_option maxRecDepth 20000 in
theorem gX10_costOf_X10_priceOf : GoodIn wsX10_costOf (wsV RX10 69 RX10 yX10_priceOf wsX10_priceOf) := goodIn_app (goodIn_of _ (by decide +kernel)) ggX10_costOf_X10_priceOf
set_option maxRecDepth 20000 in
theorem ggX10_best_X10_size : GoodIn wsX10_best wsX10_size := goodIn_r _ [4, 5, 6, 7, 8, 9] (by decide +kernel) (by decide +kernel)
set_option maxRecDepth 20000 in
theorem gX10_best_X10_size : GoodIn wsX10_best (va_wsS RX10 46 yX10_size wsX10_size) := goodIn_app (goodIn_of _ (by decide +kernel)) ggX10_best_X10_size
set_option maxRecDepth 20000 in
theorem ggX10_best_X10_costOf : GoodIn wsX10_best wsX10_costOf := goodIn_r _ [13, 14, 1, 2, 3, 4, 5, 6, 7, 8, 9, 15, 16, 17, 18, 19, 20, 21, 22, 23, 24, 25, 26, 27, 28, 29, 39, 40, 41, 42, 43, 44, 45, 46, 47, 48, 49, 50, 51, 52, 53, 54, 55, 56, 57, 58, 59] (by decide +kernel) (by decide +kernel)
set_option maxRecDepth 20000 in
theorem gX10_best_X10_costOf : GoodIn wsX10_best (wsV RX10 72 RX10 yX10_costOf wsX10_costOf) := goodIn_app (goodIn_of _ (by decide +kernel)) ggX10_best_X10_costOf
set_option maxRecDepth 20000 in
theorem ggX10_best_J6_bitCount_0f7a4 : GoodIn wsX10_best wsJ6_bitCount_0f7a4 := goodIn_r _ [32, 33, 34, 35] (by decide +kernel) (by decide +kernel)
set_option maxRecDepth 20000 in
theorem gX10_best_J6_bitCount_0f7a4 : GoodIn wsX10_best (va_wsS RX10 76 yJ6_bitCount_0f7a4 wsJ6_bitCount_0f7a4) := goodIn_app (goodIn_of _ (by decide +kernel)) ggX10_best_J6_bitCount_0f7a4
set_option maxRecDepth 20000 in
theorem ggX10_best_J6_lowestOneBit_0f7a4 : GoodIn wsX10_best wsJ6_lowestOneBit_0f7a4 := goodIn_r _ [38] (by decide +kernel) (by decide +kernel)
set_option maxRecDepth 20000 in
theorem gX10_best_J6_lowestOneBit_0f7a4 : GoodIn wsX10_best (va_wsS RX10 79 yJ6_lowestOneBit_0f7a4 wsJ6_lowestOneBit_0f7a4) := goodIn_app (goodIn_of _ (by decide +kernel)) ggX10_best_J6_lowestOneBit_0f7a4
set_option maxRecDepth 20000 in
theorem ggX10_ways_X10_size : GoodIn wsX10_ways wsX10_size := goodIn_r _ [4, 5, 6, 7, 8, 9] (by decide +kernel) (by decide +kernel)
set_option maxRecDepth 20000 in
theorem gX10_ways_X10_size : GoodIn wsX10_ways (va_wsS RX10 46 yX10_size wsX10_size) := goodIn_app (goodIn_of _ (by decide +kernel)) ggX10_ways_X10_size
set_option maxRecDepth 20000 in
theorem ggX10_ways_X10_costOf : GoodIn wsX10_ways wsX10_costOf := goodIn_r _ [13, 14, 1, 2, 3, 4, 5, 6, 7, 8, 9, 15, 16, 17, 18, 19, 20, 21, 22, 23, 24, 25, 26, 27, 28, 29, 30, 31, 32, 33, 34, 35, 36, 37, 38, 39, 40, 41, 42, 43, 44, 45, 46, 47, 48, 49, 50] (by decide +kernel) (by decide +kernel)
set_option maxRecDepth 20000 in
theorem gX10_ways_X10_costOf : GoodIn wsX10_ways (wsV RX10 72 RX10 yX10_costOf wsX10_costOf) := goodIn_app (goodIn_of _ (by decide +kernel)) ggX10_ways_X10_costOf
set_option maxRecDepth 20000 in
theorem ggX10_fewest_X10_best : GoodIn wsX10_fewest wsX10_best := goodIn_r _ [6, 7, 8, 5, 9, 10, 11, 12, 13, 14, 15, 16, 17, 18, 19, 20, 21, 22, 23, 24, 25, 26, 27, 28, 29, 30, 31, 32, 33, 34, 35, 36, 37, 38, 39, 40, 41, 42, 43, 44, 45, 46, 47, 48, 49, 50, 51, 52, 53, 54, 55, 56, 57, 58, 59, 60, 61, 62, 63, 64] (by decide +kernel) (by decide +kernel)
set_option maxRecDepth 20000 in
theorem gX10_fewest_X10_best : GoodIn wsX10_fewest (wsV RX10 82 RX10 yX10_best wsX10_best) := goodIn_app (goodIn_of _ (by decide +kernel)) ggX10_fewest_X10_best
set_option maxRecDepth 20000 in
theorem ggX10_fewest_J6_bitCount_0f7a4 : GoodIn wsX10_fewest wsJ6_bitCount_0f7a4 := goodIn_r _ [37, 38, 39, 40] (by decide +kernel) (by decide +kernel)
set_option maxRecDepth 20000 in
theorem gX10_fewest_J6_bitCount_0f7a4 : GoodIn wsX10_fewest (va_wsS RX10 76 yJ6_bitCount_0f7a4 wsJ6_bitCount_0f7a4) := goodIn_app (goodIn_of _ (by decide +kernel)) ggX10_fewest_J6_bitCount_0f7a4
set_option maxRecDepth 20000 in
theorem ggX10_piece_X10_size : GoodIn wsX10_piece wsX10_size := goodIn_r _ [4, 5, 6, 7, 8, 9] (by decide +kernel) (by decide +kernel)
set_option maxRecDepth 20000 in
theorem gX10_piece_X10_size : GoodIn wsX10_piece (va_wsS RX10 46 yX10_size wsX10_size) := goodIn_app (goodIn_of _ (by decide +kernel)) ggX10_piece_X10_size
set_option maxRecDepth 20000 in
theorem ggX10_piece_X10_part : GoodIn wsX10_piece wsX10_part := goodIn_r _ [12, 1, 2, 3, 4, 5, 6, 7, 8, 9] (by decide +kernel) (by decide +kernel)
set_option maxRecDepth 20000 in
theorem gX10_piece_X10_part : GoodIn wsX10_piece (va_wsS RX10 59 yX10_part wsX10_part) := goodIn_app (goodIn_of _ (by decide +kernel)) ggX10_piece_X10_part
set_option maxRecDepth 20000 in
theorem ggX10_isFresh_X10_piece : GoodIn wsX10_isFresh wsX10_piece := goodIn_r _ [5, 6, 7, 4, 8, 9, 10, 11, 12, 13, 14, 15, 16] (by decide +kernel) (by decide +kernel)
set_option maxRecDepth 20000 in
theorem gX10_isFresh_X10_piece : GoodIn wsX10_isFresh (wsV RX10 86 RX10 yX10_piece wsX10_piece) := goodIn_app (goodIn_of _ (by decide +kernel)) ggX10_isFresh_X10_piece
set_option maxRecDepth 20000 in
theorem ggX10_isFresh_X10_find : GoodIn wsX10_isFresh wsX10_find := goodIn_r _ [20, 21, 22, 23, 24, 25, 26, 27, 28, 29, 30, 31, 32, 33, 34, 35, 36, 37, 38, 39, 40, 41, 42, 43] (by decide +kernel) (by decide +kernel)
set_option maxRecDepth 20000 in
theorem gX10_isFresh_X10_find : GoodIn wsX10_isFresh (wsV RX10 63 RX10 yX10_find wsX10_find) := goodIn_app (goodIn_of _ (by decide +kernel)) ggX10_isFresh_X10_find
set_option maxRecDepth 20000 in
theorem ggX10_fresh_J6_bitCount_0f7a4 : GoodIn wsX10_fresh wsJ6_bitCount_0f7a4 := goodIn_r _ [4, 5, 6, 7] (by decide +kernel) (by decide +kernel)
set_option maxRecDepth 20000 in
theorem gX10_fresh_J6_bitCount_0f7a4 : GoodIn wsX10_fresh (va_wsS RX10 76 yJ6_bitCount_0f7a4 wsJ6_bitCount_0f7a4) := goodIn_app (goodIn_of _ (by decide +kernel)) ggX10_fresh_J6_bitCount_0f7a4
set_option maxRecDepth 20000 in
theorem ggX10_fresh_X10_isFresh : GoodIn wsX10_fresh wsX10_isFresh := goodIn_r _ [12, 13, 14, 15, 11, 16, 17, 18, 19, 20, 21, 3, 22, 23, 24, 25, 26, 27, 28, 29, 30, 31, 32, 39, 40, 41, 42, 43, 44, 45, 46, 47, 48, 49, 50, 51, 52, 53, 54, 55, 56, 57, 58, 59] (by decide +kernel) (by decide +kernel)
set_option maxRecDepth 20000 in
theorem gX10_fresh_X10_isFresh : GoodIn wsX10_fresh (wsV RX10 89 RX10 yX10_isFresh wsX10_isFresh) := goodIn_app (goodIn_of _ (by decide +kernel)) ggX10_fresh_X10_isFresh
set_option maxRecDepth 20000 in
theorem ggX10_fresh_X10_piece : GoodIn wsX10_fresh wsX10_piece := goodIn_r _ [16, 17, 18, 11, 19, 20, 21, 3, 22, 23, 24, 25, 26] (by decide +kernel) (by decide +kernel)
