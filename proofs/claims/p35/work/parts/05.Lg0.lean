set_option maxRecDepth 20000 in
theorem ggL_feeds_J0_length_8abf5 : GoodIn wsL_feeds wsJ0_length_8abf5 := goodIn_r _ [6, 7, 8, 9, 10, 5, 11, 12, 13, 62, 63, 64, 65] (by decide +kernel) (by decide +kernel)
set_option maxRecDepth 20000 in
theorem gL_feeds_J0_length_8abf5 : GoodIn wsL_feeds (wsV RL 7 RJ0 yJ0_length_8abf5 wsJ0_length_8abf5) := goodIn_app (goodIn_of _ (by decide +kernel)) ggL_feeds_J0_length_8abf5
set_option maxRecDepth 20000 in
theorem ggL_feeds_J0_charAt_5068e : GoodIn wsL_feeds wsJ0_charAt_5068e := goodIn_r _ [17, 7, 18, 19, 20, 5, 21, 12, 13, 22, 23, 24, 25, 26, 27, 28, 29, 30, 31, 32, 33, 34, 35, 36, 37, 38, 39, 40, 41, 42, 43, 44, 45, 46, 47, 48, 49, 50, 62, 63, 64, 65] (by decide +kernel) (by decide +kernel)
set_option maxRecDepth 20000 in
theorem gL_feeds_J0_charAt_5068e : GoodIn wsL_feeds (wsV RL 13 RJ0 yJ0_charAt_5068e wsJ0_charAt_5068e) := goodIn_app (goodIn_of _ (by decide +kernel)) ggL_feeds_J0_charAt_5068e
set_option maxRecDepth 20000 in
theorem ggL_feeds_X9_append : GoodIn wsL_feeds wsX9_append := goodIn_r _ [55, 56, 57, 58, 59, 54, 60, 61, 66, 67, 68, 69, 70, 71, 72, 73, 74, 75] (by decide +kernel) (by decide +kernel)
set_option maxRecDepth 20000 in
theorem gL_feeds_X9_append : GoodIn wsL_feeds (wsV RL 17 RX9 yX9_append wsX9_append) := goodIn_app (goodIn_of _ (by decide +kernel)) ggL_feeds_X9_append
set_option maxRecDepth 20000 in
theorem ggL_letters_L_draw : GoodIn wsL_letters wsL_draw := goodIn_r _ [4, 5, 6] (by decide +kernel) (by decide +kernel)
set_option maxRecDepth 20000 in
theorem gL_letters_L_draw : GoodIn wsL_letters (va_wsS RL 32 yL_draw wsL_draw) := goodIn_app (goodIn_of _ (by decide +kernel)) ggL_letters_L_draw
set_option maxRecDepth 20000 in
theorem ggL_add_X10_size : GoodIn wsL_add wsX10_size := goodIn_r _ [4, 5, 6, 7, 8, 9] (by decide +kernel) (by decide +kernel)
set_option maxRecDepth 20000 in
theorem gL_add_X10_size : GoodIn wsL_add (va_wsS RL 36 yX10_size wsX10_size) := goodIn_app (goodIn_of _ (by decide +kernel)) ggL_add_X10_size
set_option maxRecDepth 20000 in
theorem ggL_add_J4_append_cf468 : GoodIn wsL_add wsJ4_append_cf468 := goodIn_r _ [14, 15, 16, 17, 18, 19, 20, 21, 22, 23, 24, 25, 26, 27, 28, 29, 30, 31, 32, 33, 34, 35, 36, 37, 38, 39, 40, 41, 42, 43, 44, 45, 46, 47, 48, 49, 50, 51, 52, 53, 54, 55, 56, 57, 58, 59, 60, 61, 62, 63, 64, 65, 66, 67, 68, 69, 70, 71, 72, 73, 74, 75, 76, 77, 78, 79, 80, 81, 82, 83, 84, 85, 86, 87, 88, 89, 90, 91, 92, 93, 94, 95, 96, 97, 98, 99, 100, 101, 102, 103, 104, 105, 106, 107, 108, 109, 110, 111, 112, 113, 114, 115, 116, 117, 118, 119, 120, 121, 122, 123, 124, 125, 126, 127, 128, 129, 130] (by decide +kernel) (by decide +kernel)
set_option maxRecDepth 20000 in
theorem gL_add_J4_append_cf468 : GoodIn wsL_add (wsV RL 42 RJ4 yJ4_append_cf468 wsJ4_append_cf468) := goodIn_app (goodIn_of _ (by decide +kernel)) ggL_add_J4_append_cf468
set_option maxRecDepth 20000 in
theorem ggL_feedsCode_J4_init_da8c8 : GoodIn wsL_feedsCode wsJ4_init_da8c8 := goodIn_r _ [6, 7, 8, 9, 10, 11, 12, 13, 14, 15, 16, 17, 18, 19, 20, 21, 22, 23, 24, 25, 234, 235, 236, 237] (by decide +kernel) (by decide +kernel)
set_option maxRecDepth 20000 in
theorem gL_feedsCode_J4_init_da8c8 : GoodIn wsL_feedsCode (wsJ4_init_da8c8) := ggL_feedsCode_J4_init_da8c8
set_option maxRecDepth 20000 in
theorem ggL_feedsCode_L_add : GoodIn wsL_feedsCode wsL_add := goodIn_r _ [29, 30, 31, 32, 33, 34, 35, 36, 37, 38, 39, 40, 41, 3, 42, 43, 44, 45, 46, 9, 47, 48, 16, 49, 50, 51, 52, 53, 17, 54, 55, 56, 57, 58, 59, 60, 61, 62, 63, 64, 65, 66, 67, 68, 69, 70, 71, 72, 73, 74, 75, 76, 77, 78, 79, 80, 81, 15, 82, 83, 84, 85, 86, 87, 88, 89, 90, 91, 92, 93, 14, 94, 95, 96, 97, 98, 99, 100, 101, 102, 18, 19, 20, 21, 22, 23, 24, 25, 103, 104, 105, 106, 107, 108, 109, 110, 111, 112, 113, 114, 115, 116, 117, 118, 119, 120, 121, 122, 123, 124, 125, 126, 127, 128, 129, 130, 131, 132, 133, 134, 135, 136, 137, 138, 139, 140, 141, 234, 235, 236, 237] (by decide +kernel) (by decide +kernel)
set_option maxRecDepth 20000 in
theorem gL_feedsCode_L_add : GoodIn wsL_feedsCode (va_wsS RL 48 yL_add wsL_add) := goodIn_app (goodIn_of _ (by decide +kernel)) ggL_feedsCode_L_add
set_option maxRecDepth 20000 in
theorem ggL_feedsCode_J4_toString_0e30d : GoodIn wsL_feedsCode wsJ4_toString_0e30d := goodIn_r _ [145, 146, 147, 117, 148, 149, 150, 151, 152, 153, 154, 12, 13, 155, 156, 157, 158, 159, 160, 161, 162, 9, 163, 16, 164, 165, 166, 167, 168, 3, 169, 170, 45, 171, 172, 48, 173, 90, 91, 92, 93, 14, 17, 174, 175, 74, 176, 76, 77, 78, 79, 80, 81, 177, 178, 179, 15, 82, 83, 66, 84, 85, 86, 87, 88, 180, 181, 182, 183, 184, 20, 185, 186, 187, 188, 109, 110, 111, 112, 113, 114, 115, 116, 118, 119, 120, 121, 122, 123, 189, 190, 191, 127, 128, 129, 22, 23, 24, 25, 192, 193, 194, 195, 238, 239, 240, 241, 234, 235, 236, 237] (by decide +kernel) (by decide +kernel)
set_option maxRecDepth 20000 in
theorem gL_feedsCode_J4_toString_0e30d : GoodIn wsL_feedsCode (wsV RL 52 RJ4 yJ4_toString_0e30d wsJ4_toString_0e30d) := goodIn_app (goodIn_of _ (by decide +kernel)) ggL_feedsCode_J4_toString_0e30d
set_option maxRecDepth 20000 in
theorem ggL_feedsCode_L_feeds : GoodIn wsL_feedsCode wsL_feeds := goodIn_r _ [198, 199, 200, 201, 202, 117, 203, 156, 204, 205, 206, 207, 157, 155, 208, 209, 210, 211, 212, 213, 214, 215, 216, 217, 96, 218, 219, 137, 138, 119, 139, 140, 122, 141, 220, 221, 20, 222, 133, 134, 135, 112, 113, 114, 136, 189, 190, 191, 127, 128, 129, 223, 224, 225, 226, 227, 228, 229, 230, 231, 232, 233, 238, 239, 240, 241, 242, 243, 244, 245, 246, 247, 248, 249, 250, 251] (by decide +kernel) (by decide +kernel)
set_option maxRecDepth 20000 in
theorem gL_feedsCode_L_feeds : GoodIn wsL_feedsCode (va_wsS RL 56 yL_feeds wsL_feeds) := goodIn_app (goodIn_of _ (by decide +kernel)) ggL_feedsCode_L_feeds
