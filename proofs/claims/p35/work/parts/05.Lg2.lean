set_option maxRecDepth 20000 in
theorem ggL_has_J6_bitCount_0f7a4 : GoodIn wsL_has wsJ6_bitCount_0f7a4 := goodIn_r _ [4, 5, 6, 7] (by decide +kernel) (by decide +kernel)
set_option maxRecDepth 20000 in
theorem gL_has_J6_bitCount_0f7a4 : GoodIn wsL_has (va_wsS RL 185 yJ6_bitCount_0f7a4 wsJ6_bitCount_0f7a4) := goodIn_app (goodIn_of _ (by decide +kernel)) ggL_has_J6_bitCount_0f7a4
set_option maxRecDepth 20000 in
theorem ggL_has_X10_piece : GoodIn wsL_has wsX10_piece := goodIn_r _ [12, 13, 14, 11, 15, 16, 17, 3, 18, 19, 20, 21, 22] (by decide +kernel) (by decide +kernel)
set_option maxRecDepth 20000 in
theorem gL_has_X10_piece : GoodIn wsL_has (wsV RL 201 RX10 yX10_piece wsX10_piece) := goodIn_app (goodIn_of _ (by decide +kernel)) ggL_has_X10_piece
set_option maxRecDepth 20000 in
theorem ggL_sum_X10_fewest : GoodIn wsL_sum wsX10_fewest := goodIn_r _ [5, 6, 7, 8, 9, 4, 10, 11, 12, 13, 14, 15, 16, 17, 18, 19, 20, 21, 22, 23, 24, 25, 26, 27, 28, 29, 30, 31, 32, 33, 34, 35, 36, 37, 38, 39, 40, 41, 42, 43, 44, 45, 46, 47, 48, 49, 50, 51, 52, 53, 54, 55, 56, 57, 58, 59, 60, 61, 62, 63, 64, 65, 66, 67, 68] (by decide +kernel) (by decide +kernel)
set_option maxRecDepth 20000 in
theorem gL_sum_X10_fewest : GoodIn wsL_sum (wsV RL 236 RX10 yX10_fewest wsX10_fewest) := goodIn_app (goodIn_of _ (by decide +kernel)) ggL_sum_X10_fewest
set_option maxRecDepth 20000 in
theorem ggL_best_X10_size : GoodIn wsL_best wsX10_size := goodIn_r _ [5, 6, 7, 8, 9, 10] (by decide +kernel) (by decide +kernel)
set_option maxRecDepth 20000 in
theorem gL_best_X10_size : GoodIn wsL_best (va_wsS RL 36 yX10_size wsX10_size) := goodIn_app (goodIn_of _ (by decide +kernel)) ggL_best_X10_size
set_option maxRecDepth 20000 in
theorem ggL_best_L_sum : GoodIn wsL_best wsL_sum := goodIn_r _ [14, 15, 16, 17, 4, 18, 19, 20, 21, 22, 23, 24, 3, 5, 6, 7, 8, 9, 10, 25, 26, 27, 28, 29, 30, 31, 32, 33, 34, 35, 36, 37, 38, 39, 40, 41, 42, 43, 44, 45, 46, 47, 48, 49, 50, 51, 52, 53, 182, 183, 184, 185, 186, 187, 188, 189, 190, 191, 192, 193, 194, 195, 196, 197, 198, 199, 200, 201, 202] (by decide +kernel) (by decide +kernel)
set_option maxRecDepth 20000 in
theorem gL_best_L_sum : GoodIn wsL_best (va_wsS RL 258 yL_sum wsL_sum) := goodIn_app (goodIn_of _ (by decide +kernel)) ggL_best_L_sum
set_option maxRecDepth 20000 in
theorem ggL_best_X10_part : GoodIn wsL_best wsX10_part := goodIn_r _ [32, 24, 3, 4, 5, 6, 7, 8, 9, 10] (by decide +kernel) (by decide +kernel)
set_option maxRecDepth 20000 in
theorem gL_best_X10_part : GoodIn wsL_best (va_wsS RL 262 yX10_part wsX10_part) := goodIn_app (goodIn_of _ (by decide +kernel)) ggL_best_X10_part
set_option maxRecDepth 20000 in
theorem ggL_best_X10_find : GoodIn wsL_best wsX10_find := goodIn_r _ [36, 37, 38, 182, 183, 184, 185, 186, 187, 188, 189, 190, 191, 192, 193, 194, 195, 196, 197, 198, 199, 200, 201, 202] (by decide +kernel) (by decide +kernel)
set_option maxRecDepth 20000 in
theorem gL_best_X10_find : GoodIn wsL_best (wsV RL 97 RX10 yX10_find wsX10_find) := goodIn_app (goodIn_of _ (by decide +kernel)) ggL_best_X10_find
set_option maxRecDepth 20000 in
theorem ggL_best_X9_bestPart : GoodIn wsL_best wsX9_bestPart := goodIn_ca (goodIn_ca (goodIn_r _ [60, 61, 62, 63, 64, 65, 66, 67, 68, 69, 70, 59, 71, 72, 73, 74, 75, 76, 77, 78, 79, 80, 81, 82, 83, 84, 85, 86, 87, 88, 89, 90, 91, 92, 93, 94, 95, 96, 97, 98, 99, 100, 101, 102, 103, 104, 105, 106, 107, 108, 109, 110, 111, 112, 113, 114, 115, 116, 117, 118, 119, 120, 121, 122, 123, 124, 125, 126, 127, 128, 129, 130, 131, 132, 133, 134, 135, 136, 137, 138, 139, 140, 141, 142, 143, 144, 145, 146, 147, 148, 149, 150, 151, 152, 153, 154, 155, 156, 157, 158, 159, 160, 161, 162, 163, 164, 165, 166, 167, 168, 169, 170, 171, 172, 173, 174, 175, 176, 177, 178, 179, 180, 181, 203, 204, 205, 206, 207, 208, 209, 210, 211, 212, 213, 214, 215, 216, 217, 218, 219, 220, 221, 222, 223, 224, 225, 226, 227, 228, 229, 230, 231, 232, 233, 234, 235, 236, 237, 238, 239, 240, 241, 242, 243, 244, 245, 246, 247, 248, 249, 250, 251, 252] (by decide +kernel) (by decide +kernel)) (goodIn_sub (fun _ h => List.mem_cons_of_mem _ (List.mem_append_left _ (List.mem_append_right _ h))) (by decide +kernel))) (goodIn_sub (fun _ h => List.mem_cons_of_mem _ (List.mem_append_right _ h)) (by decide +kernel))
set_option maxRecDepth 20000 in
theorem gL_best_X9_bestPart : GoodIn wsL_best (wsV RL 264 RX9 yX9_bestPart wsX9_bestPart) := goodIn_app (goodIn_of _ (by decide +kernel)) ggL_best_X9_bestPart
