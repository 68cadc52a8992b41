set_option maxRecDepth 20000 in
theorem ggX10_append_X10_bytesOf : GoodIn wsX10_append wsX10_bytesOf := goodIn_r _ [7, 8, 2, 9, 10, 11, 12, 13, 14, 15, 16, 17, 18, 19, 20, 21, 22, 23, 24, 25, 26, 27, 28, 29, 30, 31, 32, 33, 34, 35] (by decide +kernel) (by decide +kernel)
set_option maxRecDepth 20000 in
theorem gX10_append_X10_bytesOf : GoodIn wsX10_append (wsV RX10 65 RX10 yX10_bytesOf wsX10_bytesOf) := goodIn_app (goodIn_of _ (by decide +kernel)) ggX10_append_X10_bytesOf
set_option maxRecDepth 20000 in
theorem ggX10_advance_X10_byteAt : GoodIn wsX10_advance wsX10_byteAt := goodIn_r _ [9, 10, 11, 15, 16, 17, 18, 19, 20, 21, 22, 23, 24, 25, 26, 27, 28, 29, 30, 31, 32, 33, 34, 35, 36, 37, 38, 39, 40, 41] (by decide +kernel) (by decide +kernel)
set_option maxRecDepth 20000 in
theorem gX10_advance_X10_byteAt : GoodIn wsX10_advance (wsV RX10 75 RX10 yX10_byteAt wsX10_byteAt) := goodIn_app (goodIn_of _ (by decide +kernel)) ggX10_advance_X10_byteAt
set_option maxRecDepth 20000 in
theorem ggX10_advance_X10_within : GoodIn wsX10_advance wsX10_within := goodIn_r _ [14] (by decide +kernel) (by decide +kernel)
set_option maxRecDepth 20000 in
theorem gX10_advance_X10_within : GoodIn wsX10_advance (va_wsS RX10 88 yX10_within wsX10_within) := goodIn_app (goodIn_of _ (by decide +kernel)) ggX10_advance_X10_within
set_option maxRecDepth 20000 in
theorem ggX10_isWord_J0_length_8abf5 : GoodIn wsX10_isWord wsJ0_length_8abf5 := goodIn_r _ [9, 10, 11, 12, 13, 8, 14, 15, 16] (by decide +kernel) (by decide +kernel)
set_option maxRecDepth 20000 in
theorem gX10_isWord_J0_length_8abf5 : GoodIn wsX10_isWord (wsV RX10 92 RJ0 yJ0_length_8abf5 wsJ0_length_8abf5) := goodIn_app (goodIn_of _ (by decide +kernel)) ggX10_isWord_J0_length_8abf5
set_option maxRecDepth 20000 in
theorem ggX10_isWord_J0_charAt_5068e : GoodIn wsX10_isWord wsJ0_charAt_5068e := goodIn_r _ [20, 10, 21, 22, 23, 8, 24, 15, 16, 25, 26, 27, 28, 29, 30, 31, 32, 33, 34, 35, 36, 37, 38, 39, 40, 41, 42, 43, 44, 45, 46, 47, 48, 49, 50, 51, 52, 53] (by decide +kernel) (by decide +kernel)
set_option maxRecDepth 20000 in
theorem gX10_isWord_J0_charAt_5068e : GoodIn wsX10_isWord (wsV RX10 97 RJ0 yJ0_charAt_5068e wsJ0_charAt_5068e) := goodIn_app (goodIn_of _ (by decide +kernel)) ggX10_isWord_J0_charAt_5068e
set_option maxRecDepth 20000 in
theorem ggX10_starts_X10_fails : GoodIn wsX10_starts wsX10_fails := goodIn_r _ [5, 6, 7, 8, 25, 26, 27, 28, 29, 30, 31, 32, 33, 34, 35, 36, 37, 38, 39, 40, 41, 42, 43, 44, 45, 46, 47, 48, 49, 50, 51] (by decide +kernel) (by decide +kernel)
set_option maxRecDepth 20000 in
theorem gX10_starts_X10_fails : GoodIn wsX10_starts (wsV RX10 104 RX10 yX10_fails wsX10_fails) := goodIn_app (goodIn_of _ (by decide +kernel)) ggX10_starts_X10_fails
set_option maxRecDepth 20000 in
theorem ggX10_starts_X10_advance : GoodIn wsX10_starts wsX10_advance := goodIn_r _ [12, 13, 7, 14, 15, 16, 17, 18, 4, 19, 20, 21, 22, 23, 24, 25, 26, 27, 28, 29, 30, 31, 32, 33, 34, 35, 36, 37, 38, 39, 40, 41, 42, 43, 44, 45, 46, 47, 48, 49, 50, 51] (by decide +kernel) (by decide +kernel)
set_option maxRecDepth 20000 in
theorem gX10_starts_X10_advance : GoodIn wsX10_starts (wsV RX10 108 RX10 yX10_advance wsX10_advance) := goodIn_app (goodIn_of _ (by decide +kernel)) ggX10_starts_X10_advance
set_option maxRecDepth 20000 in
theorem ggX10_takes_X10_fails : GoodIn wsX10_takes wsX10_fails := goodIn_r _ [8, 9, 10, 11, 26, 27, 28, 29, 30, 31, 32, 33, 34, 35, 36, 37, 38, 39, 40, 41, 42, 43, 44, 45, 46, 47, 48, 49, 50, 51, 52] (by decide +kernel) (by decide +kernel)
set_option maxRecDepth 20000 in
theorem gX10_takes_X10_fails : GoodIn wsX10_takes (wsV RX10 104 RX10 yX10_fails wsX10_fails) := goodIn_app (goodIn_of _ (by decide +kernel)) ggX10_takes_X10_fails
set_option maxRecDepth 20000 in
theorem ggX10_takes_X10_within : GoodIn wsX10_takes wsX10_within := goodIn_r _ [14] (by decide +kernel) (by decide +kernel)
set_option maxRecDepth 20000 in
theorem gX10_takes_X10_within : GoodIn wsX10_takes (va_wsS RX10 88 yX10_within wsX10_within) := goodIn_app (goodIn_of _ (by decide +kernel)) ggX10_takes_X10_within
set_option maxRecDepth 20000 in
theorem ggX10_takes_X10_advance : GoodIn wsX10_takes wsX10_advance := goodIn_r _ [18, 19, 10, 2, 1, 20, 21, 22, 7, 23, 24, 25, 12, 13, 14, 26, 27, 28, 29, 30, 31, 32, 33, 34, 35, 36, 37, 38, 39, 40, 41, 42, 43, 44, 45, 46, 47, 48, 49, 50, 51, 52] (by decide +kernel) (by decide +kernel)
set_option maxRecDepth 20000 in
theorem gX10_takes_X10_advance : GoodIn wsX10_takes (wsV RX10 108 RX10 yX10_advance wsX10_advance) := goodIn_app (goodIn_of _ (by decide +kernel)) ggX10_takes_X10_advance
set_option maxRecDepth 20000 in
theorem ggX10_lays_X10_takes : GoodIn wsX10_lays wsX10_takes := goodIn_r _ [7, 8, 9, 2, 10, 11, 12, 6, 13, 14, 15, 16, 17, 18, 19, 20, 21, 22, 23, 24, 25, 26, 27, 28, 29, 30, 31, 32, 33, 34, 35, 36, 37, 38, 39, 40, 41, 42, 43, 44, 45, 46, 47, 48, 49, 50, 51, 52, 53, 54, 55, 56, 57] (by decide +kernel) (by decide +kernel)
set_option maxRecDepth 20000 in
theorem gX10_lays_X10_takes : GoodIn wsX10_lays (wsV RX10 114 RX10 yX10_takes wsX10_takes) := goodIn_app (goodIn_of _ (by decide +kernel)) ggX10_lays_X10_takes
set_option maxRecDepth 20000 in
theorem ggX10_closes_X10_starts : GoodIn wsX10_closes wsX10_starts := goodIn_r _ [6, 7, 8, 9, 5, 10, 11, 12, 13, 14, 15, 16, 17, 18, 19, 1, 20, 21, 22, 23, 24, 25, 26, 27, 28, 29, 30, 31, 32, 33, 34, 35, 36, 37, 38, 39, 40, 41, 42, 43, 44, 45, 46, 47, 48, 49, 50, 51, 52, 53, 54, 55] (by decide +kernel) (by decide +kernel)
set_option maxRecDepth 20000 in
theorem gX10_closes_X10_starts : GoodIn wsX10_closes (wsV RX10 118 RX10 yX10_starts wsX10_starts) := goodIn_app (goodIn_of _ (by decide +kernel)) ggX10_closes_X10_starts
set_option maxRecDepth 20000 in
theorem ggX10_userNamed_X10_name : GoodIn wsX10_userNamed wsX10_name := goodIn_r _ [7, 8, 9, 10, 11, 12, 13, 14, 15, 16, 17, 18, 19, 20, 21, 22, 23, 24, 25, 26, 27, 28, 29, 30, 31, 32, 33, 34, 35, 36] (by decide +kernel) (by decide +kernel)
set_option maxRecDepth 20000 in
theorem gX10_userNamed_X10_name : GoodIn wsX10_userNamed (wsV RX10 125 RX10 yX10_name wsX10_name) := goodIn_app (goodIn_of _ (by decide +kernel)) ggX10_userNamed_X10_name
set_option maxRecDepth 20000 in
theorem ggX10_spells_X10_fails : GoodIn wsX10_spells wsX10_fails := goodIn_r _ [6, 7, 8, 9, 18, 19, 20, 21, 22, 23, 24, 25, 26, 27, 28, 29, 30, 31, 32, 33, 34, 35, 36, 37, 38, 39, 40, 41, 42, 43, 44] (by decide +kernel) (by decide +kernel)
set_option maxRecDepth 20000 in
theorem gX10_spells_X10_fails : GoodIn wsX10_spells (wsV RX10 104 RX10 yX10_fails wsX10_fails) := goodIn_app (goodIn_of _ (by decide +kernel)) ggX10_spells_X10_fails
set_option maxRecDepth 20000 in
theorem ggX10_spells_X10_spellsToken : GoodIn wsX10_spells wsX10_spellsToken := goodIn_r _ [13, 14, 8, 15, 16, 17, 18, 19, 20, 21, 22, 23, 24, 25, 26, 27, 28, 29, 30, 31, 32, 33, 34, 35, 36, 37, 38, 39, 40, 41, 42, 43, 44] (by decide +kernel) (by decide +kernel)
set_option maxRecDepth 20000 in
theorem gX10_spells_X10_spellsToken : GoodIn wsX10_spells (wsV RX10 129 RX10 yX10_spellsToken wsX10_spellsToken) := goodIn_app (goodIn_of _ (by decide +kernel)) ggX10_spells_X10_spellsToken
set_option maxRecDepth 20000 in
theorem ggX10_userLine_X10_starts : GoodIn wsX10_userLine wsX10_starts := goodIn_r _ [7, 8, 9, 10, 6, 11, 12, 13, 14, 15, 16, 17, 18, 19, 20, 21, 22, 23, 24, 25, 26, 27, 28, 29, 30, 58, 59, 60, 61, 62, 63, 64, 65, 66, 67, 68, 69, 70, 71, 72, 73, 74, 75, 76, 77, 78, 79, 80, 81, 82, 83, 84] (by decide +kernel) (by decide +kernel)
set_option maxRecDepth 20000 in
theorem gX10_userLine_X10_starts : GoodIn wsX10_userLine (wsV RX10 118 RX10 yX10_starts wsX10_starts) := goodIn_app (goodIn_of _ (by decide +kernel)) ggX10_userLine_X10_starts
set_option maxRecDepth 20000 in
theorem ggX10_userLine_X10_spells : GoodIn wsX10_userLine wsX10_spells := goodIn_r _ [34, 21, 8, 9, 10, 6, 11, 12, 13, 14, 35, 36, 37, 38, 19, 39, 40, 27, 58, 59, 60, 61, 62, 63, 64, 65, 66, 67, 68, 69, 70, 71, 72, 73, 74, 75, 76, 77, 78, 79, 80, 81, 82, 83, 84] (by decide +kernel) (by decide +kernel)
set_option maxRecDepth 20000 in
theorem gX10_userLine_X10_spells : GoodIn wsX10_userLine (wsV RX10 132 RX10 yX10_spells wsX10_spells) := goodIn_app (goodIn_of _ (by decide +kernel)) ggX10_userLine_X10_spells
set_option maxRecDepth 20000 in
theorem ggX10_userLine_X10_name : GoodIn wsX10_userLine wsX10_name := goodIn_r _ [44, 39, 40, 58, 59, 60, 61, 62, 63, 64, 65, 66, 67, 68, 69, 70, 71, 72, 73, 74, 75, 76, 77, 78, 79, 80, 81, 82, 83, 84] (by decide +kernel) (by decide +kernel)
set_option maxRecDepth 20000 in
theorem gX10_userLine_X10_name : GoodIn wsX10_userLine (wsV RX10 125 RX10 yX10_name wsX10_name) := goodIn_app (goodIn_of _ (by decide +kernel)) ggX10_userLine_X10_name
set_option maxRecDepth 20000 in
theorem ggX10_userLine_X10_userNamed : GoodIn wsX10_userLine wsX10_userNamed := goodIn_r _ [48, 1, 2, 41, 42, 43, 6, 44, 39, 40, 58, 59, 60, 61, 62, 63, 64, 65, 66, 67, 68, 69, 70, 71, 72, 73, 74, 75, 76, 77, 78, 79, 80, 81, 82, 83, 84] (by decide +kernel) (by decide +kernel)
set_option maxRecDepth 20000 in
theorem gX10_userLine_X10_userNamed : GoodIn wsX10_userLine (wsV RX10 136 RX10 yX10_userNamed wsX10_userNamed) := goodIn_app (goodIn_of _ (by decide +kernel)) ggX10_userLine_X10_userNamed
set_option maxRecDepth 20000 in
theorem ggX10_userLine_X10_lays : GoodIn wsX10_userLine wsX10_lays := goodIn_r _ [52, 1, 53, 54, 55, 56, 6, 57, 21, 20, 8, 9, 10, 11, 12, 13, 14, 28, 29, 30, 15, 16, 17, 18, 19, 22, 23, 24, 25, 26, 27, 58, 59, 60, 61, 62, 63, 64, 65, 66, 67, 68, 69, 70, 71, 72, 73, 74, 75, 76, 77, 78, 79, 80, 81, 82, 83, 84] (by decide +kernel) (by decide +kernel)
set_option maxRecDepth 20000 in
theorem gX10_userLine_X10_lays : GoodIn wsX10_userLine (wsV RX10 139 RX10 yX10_lays wsX10_lays) := goodIn_app (goodIn_of _ (by decide +kernel)) ggX10_userLine_X10_lays
set_option maxRecDepth 20000 in
theorem ggX10_pieceLine_X10_starts : GoodIn wsX10_pieceLine wsX10_starts := goodIn_r _ [7, 8, 9, 10, 6, 11, 12, 13, 14, 15, 16, 17, 18, 19, 20, 21, 22, 23, 24, 25, 26, 27, 28, 29, 30, 56, 57, 58, 59, 60, 61, 62, 63, 64, 65, 66, 67, 68, 69, 70, 71, 72, 73, 74, 75, 76, 77, 78, 79, 80, 81, 82] (by decide +kernel) (by decide +kernel)
set_option maxRecDepth 20000 in
theorem gX10_pieceLine_X10_starts : GoodIn wsX10_pieceLine (wsV RX10 118 RX10 yX10_starts wsX10_starts) := goodIn_app (goodIn_of _ (by decide +kernel)) ggX10_pieceLine_X10_starts
set_option maxRecDepth 20000 in
theorem ggX10_pieceLine_X10_spells : GoodIn wsX10_pieceLine wsX10_spells := goodIn_r _ [34, 21, 8, 9, 10, 6, 11, 12, 13, 14, 35, 36, 37, 38, 19, 2, 39, 27, 56, 57, 58, 59, 60, 61, 62, 63, 64, 65, 66, 67, 68, 69, 70, 71, 72, 73, 74, 75, 76, 77, 78, 79, 80, 81, 82] (by decide +kernel) (by decide +kernel)
set_option maxRecDepth 20000 in
theorem gX10_pieceLine_X10_spells : GoodIn wsX10_pieceLine (wsV RX10 132 RX10 yX10_spells wsX10_spells) := goodIn_app (goodIn_of _ (by decide +kernel)) ggX10_pieceLine_X10_spells
set_option maxRecDepth 20000 in
theorem ggX10_pieceLine_X10_fails : GoodIn wsX10_pieceLine wsX10_fails := goodIn_r _ [11, 12, 13, 14, 56, 57, 58, 59, 60, 61, 62, 63, 64, 65, 66, 67, 68, 69, 70, 71, 72, 73, 74, 75, 76, 77, 78, 79, 80, 81, 82] (by decide +kernel) (by decide +kernel)
set_option maxRecDepth 20000 in
theorem gX10_pieceLine_X10_fails : GoodIn wsX10_pieceLine (wsV RX10 104 RX10 yX10_fails wsX10_fails) := goodIn_app (goodIn_of _ (by decide +kernel)) ggX10_pieceLine_X10_fails
set_option maxRecDepth 20000 in
theorem ggX10_pieceLine_X10_code : GoodIn wsX10_pieceLine wsX10_code := goodIn_r _ [43, 39, 56, 57, 58, 59, 60, 61, 62, 63, 64, 65, 66, 67, 68, 69, 70, 71, 72, 73, 74, 75, 76, 77, 78, 79, 80, 81, 82] (by decide +kernel) (by decide +kernel)
set_option maxRecDepth 20000 in
theorem gX10_pieceLine_X10_code : GoodIn wsX10_pieceLine (wsV RX10 142 RX10 yX10_code wsX10_code) := goodIn_app (goodIn_of _ (by decide +kernel)) ggX10_pieceLine_X10_code
set_option maxRecDepth 20000 in
theorem ggX10_pieceLine_X10_pieceOf : GoodIn wsX10_pieceLine wsX10_pieceOf := goodIn_r _ [47, 1, 48, 49, 50, 6, 51, 56, 57, 58, 59, 60, 61, 62, 63, 64, 65, 66, 67, 68, 69, 70, 71, 72, 73, 74, 75, 76, 77, 78, 79, 80, 81, 82] (by decide +kernel) (by decide +kernel)
set_option maxRecDepth 20000 in
theorem gX10_pieceLine_X10_pieceOf : GoodIn wsX10_pieceLine (wsV RX10 146 RX10 yX10_pieceOf wsX10_pieceOf) := goodIn_app (goodIn_of _ (by decide +kernel)) ggX10_pieceLine_X10_pieceOf
set_option maxRecDepth 20000 in
theorem ggX10_pieceLine_X10_comes : GoodIn wsX10_pieceLine wsX10_comes := goodIn_r _ [55, 1, 56, 57, 58, 59, 60, 61, 62, 63, 64, 65, 66, 67, 68, 69, 70, 71, 72, 73, 74, 75, 76, 77, 78, 79, 80, 81, 82] (by decide +kernel) (by decide +kernel)
set_option maxRecDepth 20000 in
theorem gX10_pieceLine_X10_comes : GoodIn wsX10_pieceLine (wsV RX10 149 RX10 yX10_comes wsX10_comes) := goodIn_app (goodIn_of _ (by decide +kernel)) ggX10_pieceLine_X10_comes
set_option maxRecDepth 20000 in
theorem ggX10_wordLine_X10_starts : GoodIn wsX10_wordLine wsX10_starts := goodIn_r _ [6, 7, 8, 9, 5, 10, 11, 12, 13, 14, 15, 16, 17, 18, 19, 20, 21, 22, 23, 24, 25, 26, 27, 28, 29, 122, 123, 124, 125, 126, 127, 128, 129, 130, 131, 132, 133, 134, 135, 136, 137, 138, 139, 140, 141, 142, 143, 144, 145, 146, 147, 148] (by decide +kernel) (by decide +kernel)
set_option maxRecDepth 20000 in
theorem gX10_wordLine_X10_starts : GoodIn wsX10_wordLine (wsV RX10 118 RX10 yX10_starts wsX10_starts) := goodIn_app (goodIn_of _ (by decide +kernel)) ggX10_wordLine_X10_starts
set_option maxRecDepth 20000 in
theorem ggX10_wordLine_X10_spells : GoodIn wsX10_wordLine wsX10_spells := goodIn_r _ [33, 20, 7, 8, 9, 5, 10, 11, 12, 13, 34, 35, 36, 37, 18, 38, 39, 26, 122, 123, 124, 125, 126, 127, 128, 129, 130, 131, 132, 133, 134, 135, 136, 137, 138, 139, 140, 141, 142, 143, 144, 145, 146, 147, 148] (by decide +kernel) (by decide +kernel)
set_option maxRecDepth 20000 in
theorem gX10_wordLine_X10_spells : GoodIn wsX10_wordLine (wsV RX10 132 RX10 yX10_spells wsX10_spells) := goodIn_app (goodIn_of _ (by decide +kernel)) ggX10_wordLine_X10_spells
set_option maxRecDepth 20000 in
theorem ggX10_wordLine_X10_userNamed : GoodIn wsX10_wordLine wsX10_userNamed := goodIn_r _ [43, 1, 44, 45, 46, 47, 5, 48, 38, 39, 122, 123, 124, 125, 126, 127, 128, 129, 130, 131, 132, 133, 134, 135, 136, 137, 138, 139, 140, 141, 142, 143, 144, 145, 146, 147, 148] (by decide +kernel) (by decide +kernel)
set_option maxRecDepth 20000 in
theorem gX10_wordLine_X10_userNamed : GoodIn wsX10_wordLine (wsV RX10 136 RX10 yX10_userNamed wsX10_userNamed) := goodIn_app (goodIn_of _ (by decide +kernel)) ggX10_wordLine_X10_userNamed
set_option maxRecDepth 20000 in
theorem ggX10_wordLine_X10_cutsCheapest : GoodIn wsX10_wordLine wsX10_cutsCheapest := goodIn_r _ [52, 53, 54, 55, 5, 56, 57, 38, 58, 59, 60, 61, 62, 63, 64, 1, 65, 66, 67, 68, 39, 69, 70, 71, 72, 73, 74, 75, 76, 77, 78, 79, 80, 81, 82, 83, 122, 123, 124, 125, 126, 127, 128, 129, 130, 131, 132, 133, 134, 135, 136, 137, 138, 139, 140, 141, 142, 143, 144, 145, 146, 147, 148] (by decide +kernel) (by decide +kernel)
set_option maxRecDepth 20000 in
theorem gX10_wordLine_X10_cutsCheapest : GoodIn wsX10_wordLine (wsV RX10 153 RX10 yX10_cutsCheapest wsX10_cutsCheapest) := goodIn_app (goodIn_of _ (by decide +kernel)) ggX10_wordLine_X10_cutsCheapest
set_option maxRecDepth 20000 in
theorem ggX10_wordLine_X10_why : GoodIn wsX10_wordLine wsX10_why := goodIn_r _ [87, 1, 88, 58, 89, 90, 91, 5, 92, 38, 60, 93, 65, 66, 67, 68, 39, 69, 70, 71, 72, 73, 74, 75, 76, 94, 95, 96, 97, 77, 78, 79, 80, 81, 82, 83, 122, 123, 124, 125, 126, 127, 128, 129, 130, 131, 132, 133, 134, 135, 136, 137, 138, 139, 140, 141, 142, 143, 144, 145, 146, 147, 148] (by decide +kernel) (by decide +kernel)
set_option maxRecDepth 20000 in
theorem gX10_wordLine_X10_why : GoodIn wsX10_wordLine (wsV RX10 156 RX10 yX10_why wsX10_why) := goodIn_app (goodIn_of _ (by decide +kernel)) ggX10_wordLine_X10_why
set_option maxRecDepth 20000 in
theorem ggX10_wordLine_X10_stores : GoodIn wsX10_wordLine wsX10_stores := goodIn_r _ [101, 88, 93, 1, 89, 90, 91, 5, 92, 38, 60, 65, 66, 67, 68, 39, 69, 70, 71, 72, 73, 74, 75, 76, 102, 103, 104, 105, 77, 78, 79, 80, 81, 82, 83, 106, 107, 108, 109, 110, 111, 112, 113, 114, 115, 116, 117, 118, 119, 120, 121, 122, 123, 124, 125, 126, 127, 128, 129, 130, 131, 132, 133, 134, 135, 136, 137, 138, 139, 140, 141, 142, 143, 144, 145, 146, 147, 148] (by decide +kernel) (by decide +kernel)
set_option maxRecDepth 20000 in
theorem gX10_wordLine_X10_stores : GoodIn wsX10_wordLine (wsV RX10 159 RX10 yX10_stores wsX10_stores) := goodIn_app (goodIn_of _ (by decide +kernel)) ggX10_wordLine_X10_stores
set_option maxRecDepth 20000 in
theorem ggX10_statement_X10_isWord : GoodIn wsX10_statement wsX10_isWord := goodIn_r _ [5, 6, 7, 8, 9, 10, 11, 12, 13, 14, 15, 16, 17, 18, 19, 20, 21, 22, 23, 24, 25, 26, 27, 28, 29, 30, 31, 32, 33, 34, 35, 36, 37, 38, 39, 40, 41, 42, 43, 44, 45, 46, 47, 48, 49, 50, 51, 52, 53, 54, 55, 56, 57, 58, 196, 197, 198, 199, 200, 201, 202, 203, 204, 205, 206, 207, 208, 209, 210, 211, 212, 213, 214, 215, 216, 217, 218, 219, 220, 221, 222] (by decide +kernel) (by decide +kernel)
set_option maxRecDepth 20000 in
theorem gX10_statement_X10_isWord : GoodIn wsX10_statement (wsV RX10 164 RX10 yX10_isWord wsX10_isWord) := goodIn_app (goodIn_of _ (by decide +kernel)) ggX10_statement_X10_isWord
set_option maxRecDepth 20000 in
theorem ggX10_statement_X10_userLine : GoodIn wsX10_statement wsX10_userLine := goodIn_r _ [62, 63, 64, 65, 66, 67, 4, 68, 69, 70, 71, 72, 73, 8, 74, 75, 76, 77, 78, 7, 79, 6, 80, 81, 82, 83, 84, 9, 85, 86, 87, 88, 89, 90, 91, 92, 93, 94, 95, 96, 97, 98, 99, 100, 101, 102, 103, 104, 105, 106, 107, 108, 109, 110, 111, 112, 113, 114, 196, 197, 198, 199, 200, 201, 202, 203, 204, 205, 206, 207, 208, 209, 210, 211, 212, 213, 214, 215, 216, 217, 218, 219, 220, 221, 222] (by decide +kernel) (by decide +kernel)
set_option maxRecDepth 20000 in
theorem gX10_statement_X10_userLine : GoodIn wsX10_statement (wsV RX10 168 RX10 yX10_userLine wsX10_userLine) := goodIn_app (goodIn_of _ (by decide +kernel)) ggX10_statement_X10_userLine
set_option maxRecDepth 20000 in
theorem ggX10_statement_X10_pieceLine : GoodIn wsX10_statement wsX10_pieceLine := goodIn_r _ [118, 63, 96, 65, 66, 67, 4, 68, 69, 70, 71, 72, 73, 8, 74, 75, 76, 77, 78, 7, 79, 6, 80, 81, 82, 83, 84, 9, 85, 86, 87, 88, 89, 90, 91, 92, 93, 94, 95, 97, 119, 120, 121, 122, 123, 124, 125, 126, 127, 128, 129, 130, 131, 132, 133, 134, 196, 197, 198, 199, 200, 201, 202, 203, 204, 205, 206, 207, 208, 209, 210, 211, 212, 213, 214, 215, 216, 217, 218, 219, 220, 221, 222] (by decide +kernel) (by decide +kernel)
set_option maxRecDepth 20000 in
theorem gX10_statement_X10_pieceLine : GoodIn wsX10_statement (wsV RX10 173 RX10 yX10_pieceLine wsX10_pieceLine) := goodIn_app (goodIn_of _ (by decide +kernel)) ggX10_statement_X10_pieceLine
set_option maxRecDepth 20000 in
theorem ggX10_statement_X10_wordLine : GoodIn wsX10_statement wsX10_wordLine := goodIn_r _ [138, 63, 65, 66, 67, 4, 68, 69, 70, 71, 72, 73, 8, 74, 75, 76, 77, 78, 7, 79, 6, 80, 81, 82, 83, 84, 9, 85, 86, 87, 88, 89, 90, 91, 92, 93, 94, 95, 96, 97, 102, 103, 104, 105, 64, 98, 99, 100, 101, 139, 140, 141, 142, 143, 144, 145, 146, 147, 148, 149, 150, 151, 152, 153, 154, 119, 120, 121, 122, 123, 124, 125, 126, 127, 128, 129, 130, 155, 156, 157, 158, 159, 160, 161, 162, 163, 164, 165, 166, 167, 168, 169, 170, 171, 172, 173, 174, 175, 176, 177, 178, 179, 180, 181, 182, 183, 184, 185, 186, 187, 131, 132, 133, 134, 188, 189, 190, 191, 192, 193, 194, 195, 196, 197, 198, 199, 200, 201, 202, 203, 204, 205, 206, 207, 208, 209, 210, 211, 212, 213, 214, 215, 216, 217, 218, 219, 220, 221, 222] (by decide +kernel) (by decide +kernel)
set_option maxRecDepth 20000 in
theorem gX10_statement_X10_wordLine : GoodIn wsX10_statement (wsV RX10 178 RX10 yX10_wordLine wsX10_wordLine) := goodIn_app (goodIn_of _ (by decide +kernel)) ggX10_statement_X10_wordLine
set_option maxRecDepth 20000 in
theorem ggX10_statement_X10_fails : GoodIn wsX10_statement wsX10_fails := goodIn_r _ [72, 73, 8, 74, 196, 197, 198, 199, 200, 201, 202, 203, 204, 205, 206, 207, 208, 209, 210, 211, 212, 213, 214, 215, 216, 217, 218, 219, 220, 221, 222] (by decide +kernel) (by decide +kernel)
set_option maxRecDepth 20000 in
theorem gX10_statement_X10_fails : GoodIn wsX10_statement (wsV RX10 104 RX10 yX10_fails wsX10_fails) := goodIn_app (goodIn_of _ (by decide +kernel)) ggX10_statement_X10_fails
set_option maxRecDepth 20000 in
theorem ggX10_head_X10_isWord : GoodIn wsX10_head wsX10_isWord := goodIn_r _ [5, 6, 7, 8, 9, 10, 11, 12, 13, 14, 15, 16, 17, 18, 19, 20, 21, 22, 23, 24, 25, 26, 27, 28, 29, 30, 31, 32, 33, 34, 35, 36, 37, 38, 39, 40, 41, 42, 43, 44, 45, 46, 47, 48, 49, 50, 51, 52, 53, 54, 55, 56, 57, 58, 96, 97, 98, 99, 100, 101, 102, 103, 104, 105, 106, 107, 108, 109, 110, 111, 112, 113, 114, 115, 116, 117, 118, 119, 120, 121, 122] (by decide +kernel) (by decide +kernel)
set_option maxRecDepth 20000 in
theorem gX10_head_X10_isWord : GoodIn wsX10_head (wsV RX10 164 RX10 yX10_isWord wsX10_isWord) := goodIn_app (goodIn_of _ (by decide +kernel)) ggX10_head_X10_isWord
set_option maxRecDepth 20000 in
theorem ggX10_head_X10_starts : GoodIn wsX10_head wsX10_starts := goodIn_r _ [62, 63, 64, 65, 4, 66, 67, 8, 68, 69, 70, 71, 72, 7, 73, 6, 74, 75, 76, 77, 78, 9, 79, 80, 81, 96, 97, 98, 99, 100, 101, 102, 103, 104, 105, 106, 107, 108, 109, 110, 111, 112, 113, 114, 115, 116, 117, 118, 119, 120, 121, 122] (by decide +kernel) (by decide +kernel)
set_option maxRecDepth 20000 in
theorem gX10_head_X10_starts : GoodIn wsX10_head (wsV RX10 118 RX10 yX10_starts wsX10_starts) := goodIn_app (goodIn_of _ (by decide +kernel)) ggX10_head_X10_starts
set_option maxRecDepth 20000 in
theorem ggX10_head_X10_lays : GoodIn wsX10_head wsX10_lays := goodIn_r _ [85, 86, 87, 88, 89, 90, 4, 91, 6, 73, 63, 64, 65, 66, 67, 8, 68, 79, 80, 81, 69, 70, 71, 72, 7, 74, 75, 76, 77, 78, 9, 96, 97, 98, 99, 100, 101, 102, 103, 104, 105, 106, 107, 108, 109, 110, 111, 112, 113, 114, 115, 116, 117, 118, 119, 120, 121, 122] (by decide +kernel) (by decide +kernel)
set_option maxRecDepth 20000 in
theorem gX10_head_X10_lays : GoodIn wsX10_head (wsV RX10 139 RX10 yX10_lays wsX10_lays) := goodIn_app (goodIn_of _ (by decide +kernel)) ggX10_head_X10_lays
set_option maxRecDepth 20000 in
theorem ggX10_head_X10_closes : GoodIn wsX10_head wsX10_closes := goodIn_r _ [95, 6, 59, 60, 61, 4, 62, 63, 64, 65, 66, 67, 8, 68, 69, 70, 71, 72, 7, 73, 74, 75, 76, 77, 78, 9, 79, 80, 81, 96, 97, 98, 99, 100, 101, 102, 103, 104, 105, 106, 107, 108, 109, 110, 111, 112, 113, 114, 115, 116, 117, 118, 119, 120, 121, 122] (by decide +kernel) (by decide +kernel)
set_option maxRecDepth 20000 in
theorem gX10_head_X10_closes : GoodIn wsX10_head (wsV RX10 183 RX10 yX10_closes wsX10_closes) := goodIn_app (goodIn_of _ (by decide +kernel)) ggX10_head_X10_closes
set_option maxRecDepth 20000 in
theorem ggX10_parse_X10_within : GoodIn wsX10_parse wsX10_within := goodIn_r _ [17] (by decide +kernel) (by decide +kernel)
set_option maxRecDepth 20000 in
theorem gX10_parse_X10_within : GoodIn wsX10_parse (va_wsS RX10 88 yX10_within wsX10_within) := goodIn_app (goodIn_of _ (by decide +kernel)) ggX10_parse_X10_within
set_option maxRecDepth 20000 in
theorem ggX10_parse_X10_throwsIf : GoodIn wsX10_parse wsX10_throwsIf := goodIn_r _ [21, 1, 221, 222, 223, 224, 225, 226, 227, 228, 229, 230, 231, 232, 233, 234, 235, 236, 237, 238, 239, 240, 241, 242, 243, 244, 245, 246, 247] (by decide +kernel) (by decide +kernel)
set_option maxRecDepth 20000 in
theorem gX10_parse_X10_throwsIf : GoodIn wsX10_parse (wsV RX10 186 RX10 yX10_throwsIf wsX10_throwsIf) := goodIn_app (goodIn_of _ (by decide +kernel)) ggX10_parse_X10_throwsIf
set_option maxRecDepth 20000 in
theorem ggX10_parse_X10_puts : GoodIn wsX10_parse wsX10_puts := goodIn_r _ [24] (by decide +kernel) (by decide +kernel)
set_option maxRecDepth 20000 in
theorem gX10_parse_X10_puts : GoodIn wsX10_parse (va_wsS RX10 190 yX10_puts wsX10_puts) := goodIn_app (goodIn_of _ (by decide +kernel)) ggX10_parse_X10_puts
set_option maxRecDepth 20000 in
theorem ggX10_parse_X10_advance : GoodIn wsX10_parse wsX10_advance := goodIn_r _ [28, 4, 29, 30, 11, 31, 32, 33, 16, 34, 3, 35, 14, 15, 17, 221, 222, 223, 224, 225, 226, 227, 228, 229, 230, 231, 232, 233, 234, 235, 236, 237, 238, 239, 240, 241, 242, 243, 244, 245, 246, 247] (by decide +kernel) (by decide +kernel)
set_option maxRecDepth 20000 in
theorem gX10_parse_X10_advance : GoodIn wsX10_parse (wsV RX10 108 RX10 yX10_advance wsX10_advance) := goodIn_app (goodIn_of _ (by decide +kernel)) ggX10_parse_X10_advance
set_option maxRecDepth 20000 in
theorem ggX10_parse_X10_head : GoodIn wsX10_parse wsX10_head := goodIn_r _ [39, 40, 41, 42, 16, 43, 11, 4, 29, 35, 44, 45, 46, 47, 48, 49, 50, 51, 52, 53, 54, 55, 56, 57, 58, 59, 60, 61, 62, 63, 64, 65, 66, 67, 68, 69, 70, 71, 72, 73, 74, 75, 76, 77, 78, 79, 80, 81, 82, 83, 84, 85, 86, 87, 88, 89, 90, 91, 92, 93, 94, 95, 96, 97, 98, 99, 100, 5, 6, 25, 26, 27, 28, 30, 31, 32, 33, 34, 3, 14, 15, 17, 101, 102, 103, 104, 7, 105, 106, 107, 108, 109, 110, 111, 112, 113, 221, 222, 223, 224, 225, 226, 227, 228, 229, 230, 231, 232, 233, 234, 235, 236, 237, 238, 239, 240, 241, 242, 243, 244, 245, 246, 247] (by decide +kernel) (by decide +kernel)
set_option maxRecDepth 20000 in
theorem gX10_parse_X10_head : GoodIn wsX10_parse (wsV RX10 194 RX10 yX10_head wsX10_head) := goodIn_app (goodIn_of _ (by decide +kernel)) ggX10_parse_X10_head
set_option maxRecDepth 20000 in
theorem ggX10_parse_X10_statement : GoodIn wsX10_parse wsX10_statement := goodIn_r _ [117, 40, 41, 42, 16, 43, 11, 4, 29, 35, 44, 45, 46, 47, 48, 49, 50, 51, 52, 53, 54, 55, 56, 57, 58, 59, 60, 61, 62, 63, 64, 65, 66, 67, 68, 69, 70, 71, 72, 73, 74, 75, 76, 77, 78, 79, 80, 81, 82, 83, 84, 85, 86, 87, 88, 89, 90, 91, 92, 118, 119, 120, 121, 7, 10, 93, 94, 95, 96, 97, 98, 99, 100, 5, 6, 25, 26, 27, 28, 30, 31, 32, 33, 34, 3, 14, 15, 17, 122, 123, 124, 125, 126, 127, 128, 129, 130, 131, 132, 133, 134, 135, 136, 137, 138, 139, 101, 102, 103, 104, 105, 106, 107, 108, 109, 140, 141, 142, 143, 144, 145, 146, 147, 148, 149, 150, 151, 152, 153, 154, 155, 156, 157, 158, 159, 160, 161, 162, 163, 164, 165, 166, 167, 168, 169, 170, 171, 172, 173, 174, 175, 176, 177, 178, 179, 180, 181, 182, 183, 184, 185, 186, 187, 188, 189, 190, 191, 192, 193, 194, 195, 196, 197, 198, 199, 200, 201, 202, 203, 204, 205, 206, 207, 208, 209, 210, 211, 212, 213, 214, 215, 216, 217, 218, 219, 220, 221, 222, 223, 224, 225, 226, 227, 228, 229, 230, 231, 232, 233, 234, 235, 236, 237, 238, 239, 240, 241, 242, 243, 244, 245, 246, 247] (by decide +kernel) (by decide +kernel)
set_option maxRecDepth 20000 in
theorem gX10_parse_X10_statement : GoodIn wsX10_parse (wsV RX10 197 RX10 yX10_statement wsX10_statement) := goodIn_app (goodIn_of _ (by decide +kernel)) ggX10_parse_X10_statement
set_option maxRecDepth 20000 in
theorem ggX10_parse_X10_closes : GoodIn wsX10_parse wsX10_closes := goodIn_r _ [113, 11, 93, 94, 95, 16, 96, 97, 98, 99, 100, 5, 29, 6, 25, 26, 27, 28, 4, 30, 31, 32, 33, 34, 3, 35, 14, 15, 17, 221, 222, 223, 224, 225, 226, 227, 228, 229, 230, 231, 232, 233, 234, 235, 236, 237, 238, 239, 240, 241, 242, 243, 244, 245, 246, 247] (by decide +kernel) (by decide +kernel)
set_option maxRecDepth 20000 in
theorem gX10_parse_X10_closes : GoodIn wsX10_parse (wsV RX10 183 RX10 yX10_closes wsX10_closes) := goodIn_app (goodIn_of _ (by decide +kernel)) ggX10_parse_X10_closes
set_option maxRecDepth 20000 in
theorem ggX10_reads_X10_byteAt : GoodIn wsX10_reads wsX10_byteAt := goodIn_r _ [10, 2, 11, 20, 21, 22, 23, 24, 25, 26, 27, 28, 29, 30, 31, 32, 33, 34, 35, 36, 37, 38, 39, 40, 41, 42, 43, 44, 45, 46] (by decide +kernel) (by decide +kernel)
set_option maxRecDepth 20000 in
theorem gX10_reads_X10_byteAt : GoodIn wsX10_reads (wsV RX10 75 RX10 yX10_byteAt wsX10_byteAt) := goodIn_app (goodIn_of _ (by decide +kernel)) ggX10_reads_X10_byteAt
set_option maxRecDepth 20000 in
theorem ggX10_reads_X10_within : GoodIn wsX10_reads wsX10_within := goodIn_r _ [14] (by decide +kernel) (by decide +kernel)
set_option maxRecDepth 20000 in
theorem gX10_reads_X10_within : GoodIn wsX10_reads (va_wsS RX10 88 yX10_within wsX10_within) := goodIn_app (goodIn_of _ (by decide +kernel)) ggX10_reads_X10_within
set_option maxRecDepth 20000 in
theorem ggX10_reads_X10_spellsToken : GoodIn wsX10_reads wsX10_spellsToken := goodIn_r _ [18, 4, 3, 5, 19, 11, 20, 21, 22, 23, 24, 25, 26, 27, 28, 29, 30, 31, 32, 33, 34, 35, 36, 37, 38, 39, 40, 41, 42, 43, 44, 45, 46] (by decide +kernel) (by decide +kernel)
set_option maxRecDepth 20000 in
theorem gX10_reads_X10_spellsToken : GoodIn wsX10_reads (wsV RX10 129 RX10 yX10_spellsToken wsX10_spellsToken) := goodIn_app (goodIn_of _ (by decide +kernel)) ggX10_reads_X10_spellsToken
set_option maxRecDepth 20000 in
theorem ggX10_pieceOf_X10_ofPiece : GoodIn wsX10_pieceOf wsX10_ofPiece := goodIn_r _ [6, 1, 7, 8, 9, 10, 11, 12, 13, 14, 15, 16, 17, 18, 19, 20, 21, 22, 23, 24, 25, 26, 27, 28, 29, 30, 31, 32, 33] (by decide +kernel) (by decide +kernel)
set_option maxRecDepth 20000 in
theorem gX10_pieceOf_X10_ofPiece : GoodIn wsX10_pieceOf (wsV RX10 203 RX10 yX10_ofPiece wsX10_ofPiece) := goodIn_app (goodIn_of _ (by decide +kernel)) ggX10_pieceOf_X10_ofPiece
set_option maxRecDepth 20000 in
theorem ggX10_priceOf_X10_lettersOf : GoodIn wsX10_priceOf wsX10_lettersOf := goodIn_r _ [5] (by decide +kernel) (by decide +kernel)
set_option maxRecDepth 20000 in
theorem gX10_priceOf_X10_lettersOf : GoodIn wsX10_priceOf (va_wsS RX10 206 yX10_lettersOf wsX10_lettersOf) := goodIn_app (goodIn_of _ (by decide +kernel)) ggX10_priceOf_X10_lettersOf
set_option maxRecDepth 20000 in
theorem ggX10_buys_X10_priceOf : GoodIn wsX10_buys wsX10_priceOf := goodIn_r _ [6, 1, 7, 8, 5, 9, 18, 19, 20, 21, 22, 23, 24, 25, 26, 27, 28, 29, 30, 31, 32, 33, 34, 35, 36, 37, 38, 39, 40, 41, 42, 43, 44] (by decide +kernel) (by decide +kernel)
set_option maxRecDepth 20000 in
theorem gX10_buys_X10_priceOf : GoodIn wsX10_buys (wsV RX10 209 RX10 yX10_priceOf wsX10_priceOf) := goodIn_app (goodIn_of _ (by decide +kernel)) ggX10_buys_X10_priceOf
set_option maxRecDepth 20000 in
theorem ggX10_buys_X10_pays : GoodIn wsX10_buys wsX10_pays := goodIn_r _ [13, 1, 18, 19, 20, 21, 22, 23, 24, 25, 26, 27, 28, 29, 30, 31, 32, 33, 34, 35, 36, 37, 38, 39, 40, 41, 42, 43, 44] (by decide +kernel) (by decide +kernel)
set_option maxRecDepth 20000 in
theorem gX10_buys_X10_pays : GoodIn wsX10_buys (wsV RX10 212 RX10 yX10_pays wsX10_pays) := goodIn_app (goodIn_of _ (by decide +kernel)) ggX10_buys_X10_pays
set_option maxRecDepth 20000 in
theorem ggX10_buys_X10_comes : GoodIn wsX10_buys wsX10_comes := goodIn_r _ [17, 1, 18, 19, 20, 21, 22, 23, 24, 25, 26, 27, 28, 29, 30, 31, 32, 33, 34, 35, 36, 37, 38, 39, 40, 41, 42, 43, 44] (by decide +kernel) (by decide +kernel)
set_option maxRecDepth 20000 in
theorem gX10_buys_X10_comes : GoodIn wsX10_buys (wsV RX10 149 RX10 yX10_comes wsX10_comes) := goodIn_app (goodIn_of _ (by decide +kernel)) ggX10_buys_X10_comes
set_option maxRecDepth 20000 in
theorem ggX10_uses_X10_ofPiece : GoodIn wsX10_uses wsX10_ofPiece := goodIn_r _ [6, 1, 7, 8, 9, 10, 11, 12, 13, 14, 15, 16, 17, 18, 19, 20, 21, 22, 23, 24, 25, 26, 27, 28, 29, 30, 31, 32, 33] (by decide +kernel) (by decide +kernel)
set_option maxRecDepth 20000 in
theorem gX10_uses_X10_ofPiece : GoodIn wsX10_uses (wsV RX10 203 RX10 yX10_ofPiece wsX10_ofPiece) := goodIn_app (goodIn_of _ (by decide +kernel)) ggX10_uses_X10_ofPiece
set_option maxRecDepth 20000 in
theorem ggX10_cuts_X10_triesFirst : GoodIn wsX10_cuts wsX10_triesFirst := goodIn_r _ [10, 1, 4, 11, 3, 5, 12, 13, 14, 9, 15, 16, 17, 18, 19, 20, 21, 22, 23, 24, 25, 26, 27, 28, 29, 30, 31, 32, 33, 34, 35, 36, 37, 38, 39, 40, 41, 42, 43, 44, 45, 46, 47, 48, 49, 50, 51, 52, 53, 54, 55, 56, 57, 58] (by decide +kernel) (by decide +kernel)
set_option maxRecDepth 20000 in
theorem gX10_cuts_X10_triesFirst : GoodIn wsX10_cuts (wsV RX10 217 RX10 yX10_triesFirst wsX10_triesFirst) := goodIn_app (goodIn_of _ (by decide +kernel)) ggX10_cuts_X10_triesFirst
set_option maxRecDepth 20000 in
theorem ggX10_triesFirst_X10_code : GoodIn wsX10_triesFirst wsX10_code := goodIn_r _ [10, 11, 27, 28, 29, 30, 31, 32, 33, 34, 35, 36, 37, 38, 39, 40, 41, 42, 43, 44, 45, 46, 47, 48, 49, 50, 51, 52, 53] (by decide +kernel) (by decide +kernel)
set_option maxRecDepth 20000 in
theorem gX10_triesFirst_X10_code : GoodIn wsX10_triesFirst (wsV RX10 142 RX10 yX10_code wsX10_code) := goodIn_app (goodIn_of _ (by decide +kernel)) ggX10_triesFirst_X10_code
set_option maxRecDepth 20000 in
theorem ggX10_triesFirst_X10_pieceOf : GoodIn wsX10_triesFirst wsX10_pieceOf := goodIn_r _ [15, 3, 16, 17, 18, 9, 19, 27, 28, 29, 30, 31, 32, 33, 34, 35, 36, 37, 38, 39, 40, 41, 42, 43, 44, 45, 46, 47, 48, 49, 50, 51, 52, 53] (by decide +kernel) (by decide +kernel)
set_option maxRecDepth 20000 in
theorem gX10_triesFirst_X10_pieceOf : GoodIn wsX10_triesFirst (wsV RX10 146 RX10 yX10_pieceOf wsX10_pieceOf) := goodIn_app (goodIn_of _ (by decide +kernel)) ggX10_triesFirst_X10_pieceOf
set_option maxRecDepth 20000 in
theorem ggX10_triesFirst_X10_priceOf : GoodIn wsX10_triesFirst wsX10_priceOf := goodIn_r _ [23, 3, 24, 25, 9, 26, 27, 28, 29, 30, 31, 32, 33, 34, 35, 36, 37, 38, 39, 40, 41, 42, 43, 44, 45, 46, 47, 48, 49, 50, 51, 52, 53] (by decide +kernel) (by decide +kernel)
set_option maxRecDepth 20000 in
theorem gX10_triesFirst_X10_priceOf : GoodIn wsX10_triesFirst (wsV RX10 209 RX10 yX10_priceOf wsX10_priceOf) := goodIn_app (goodIn_of _ (by decide +kernel)) ggX10_triesFirst_X10_priceOf
set_option maxRecDepth 20000 in
theorem ggX10_cutsCheapest_X10_cuts : GoodIn wsX10_cutsCheapest wsX10_cuts := goodIn_r _ [5, 6, 7, 8, 9, 10, 11, 12, 13, 4, 14, 15, 16, 17, 18, 19, 20, 21, 22, 23, 24, 25, 26, 27, 28, 29, 30, 31, 32, 33, 34, 35, 36, 37, 38, 39, 40, 41, 42, 43, 44, 45, 46, 47, 48, 49, 50, 51, 52, 53, 54, 55, 56, 57, 58, 59, 60, 61, 62] (by decide +kernel) (by decide +kernel)
set_option maxRecDepth 20000 in
theorem gX10_cutsCheapest_X10_cuts : GoodIn wsX10_cutsCheapest (wsV RX10 221 RX10 yX10_cuts wsX10_cuts) := goodIn_app (goodIn_of _ (by decide +kernel)) ggX10_cutsCheapest_X10_cuts
set_option maxRecDepth 20000 in
theorem ggX10_laysFresh_X10_code : GoodIn wsX10_laysFresh wsX10_code := goodIn_r _ [9, 10, 20, 21, 22, 23, 24, 25, 26, 27, 28, 29, 30, 31, 32, 33, 34, 35, 36, 37, 38, 39, 40, 41, 42, 43, 44, 45, 46] (by decide +kernel) (by decide +kernel)
set_option maxRecDepth 20000 in
theorem gX10_laysFresh_X10_code : GoodIn wsX10_laysFresh (wsV RX10 142 RX10 yX10_code wsX10_code) := goodIn_app (goodIn_of _ (by decide +kernel)) ggX10_laysFresh_X10_code
set_option maxRecDepth 20000 in
theorem ggX10_laysFresh_X10_pieceOf : GoodIn wsX10_laysFresh wsX10_pieceOf := goodIn_r _ [14, 15, 16, 17, 18, 8, 19, 20, 21, 22, 23, 24, 25, 26, 27, 28, 29, 30, 31, 32, 33, 34, 35, 36, 37, 38, 39, 40, 41, 42, 43, 44, 45, 46] (by decide +kernel) (by decide +kernel)
set_option maxRecDepth 20000 in
theorem gX10_laysFresh_X10_pieceOf : GoodIn wsX10_laysFresh (wsV RX10 146 RX10 yX10_pieceOf wsX10_pieceOf) := goodIn_app (goodIn_of _ (by decide +kernel)) ggX10_laysFresh_X10_pieceOf
set_option maxRecDepth 20000 in
theorem ggX10_freshPrice_X10_priceOf : GoodIn wsX10_freshPrice wsX10_priceOf := goodIn_r _ [7, 8, 9, 10, 6, 11, 12, 13, 14, 15, 16, 17, 18, 19, 20, 21, 22, 23, 24, 25, 26, 27, 28, 29, 30, 31, 32, 33, 34, 35, 36, 37, 38] (by decide +kernel) (by decide +kernel)
set_option maxRecDepth 20000 in
theorem gX10_freshPrice_X10_priceOf : GoodIn wsX10_freshPrice (wsV RX10 209 RX10 yX10_priceOf wsX10_priceOf) := goodIn_app (goodIn_of _ (by decide +kernel)) ggX10_freshPrice_X10_priceOf
set_option maxRecDepth 20000 in
theorem ggX10_why_X10_laysFresh : GoodIn wsX10_why wsX10_laysFresh := goodIn_r _ [8, 2, 9, 10, 11, 12, 13, 14, 7, 15, 16, 17, 18, 19, 20, 1, 21, 22, 23, 24, 36, 37, 38, 39, 40, 41, 42, 43, 44, 45, 46, 47, 48, 49, 50, 51, 52, 53, 54, 55, 56, 57, 58, 59, 60, 61, 62] (by decide +kernel) (by decide +kernel)
set_option maxRecDepth 20000 in
theorem gX10_why_X10_laysFresh : GoodIn wsX10_why (wsV RX10 228 RX10 yX10_laysFresh wsX10_laysFresh) := goodIn_app (goodIn_of _ (by decide +kernel)) ggX10_why_X10_laysFresh
set_option maxRecDepth 20000 in
theorem ggX10_why_X10_freshPrice : GoodIn wsX10_why wsX10_freshPrice := goodIn_r _ [28, 2, 11, 29, 30, 31, 7, 32, 1, 33, 34, 35, 36, 37, 38, 39, 40, 41, 42, 43, 44, 45, 46, 47, 48, 49, 50, 51, 52, 53, 54, 55, 56, 57, 58, 59, 60, 61, 62] (by decide +kernel) (by decide +kernel)
set_option maxRecDepth 20000 in
theorem gX10_why_X10_freshPrice : GoodIn wsX10_why (wsV RX10 231 RX10 yX10_freshPrice wsX10_freshPrice) := goodIn_app (goodIn_of _ (by decide +kernel)) ggX10_why_X10_freshPrice
set_option maxRecDepth 20000 in
theorem ggX10_laysParts_X10_code : GoodIn wsX10_laysParts wsX10_code := goodIn_r _ [8, 9, 18, 19, 20, 21, 22, 23, 24, 25, 26, 27, 28, 29, 30, 31, 32, 33, 34, 35, 36, 37, 38, 39, 40, 41, 42, 43, 44] (by decide +kernel) (by decide +kernel)
set_option maxRecDepth 20000 in
theorem gX10_laysParts_X10_code : GoodIn wsX10_laysParts (wsV RX10 142 RX10 yX10_code wsX10_code) := goodIn_app (goodIn_of _ (by decide +kernel)) ggX10_laysParts_X10_code
set_option maxRecDepth 20000 in
theorem ggX10_laysParts_X10_pieceOf : GoodIn wsX10_laysParts wsX10_pieceOf := goodIn_r _ [13, 2, 14, 15, 16, 7, 17, 18, 19, 20, 21, 22, 23, 24, 25, 26, 27, 28, 29, 30, 31, 32, 33, 34, 35, 36, 37, 38, 39, 40, 41, 42, 43, 44] (by decide +kernel) (by decide +kernel)
set_option maxRecDepth 20000 in
theorem gX10_laysParts_X10_pieceOf : GoodIn wsX10_laysParts (wsV RX10 146 RX10 yX10_pieceOf wsX10_pieceOf) := goodIn_app (goodIn_of _ (by decide +kernel)) ggX10_laysParts_X10_pieceOf
set_option maxRecDepth 20000 in
theorem ggX10_stores_X10_laysFresh : GoodIn wsX10_stores wsX10_laysFresh := goodIn_r _ [8, 1, 9, 10, 2, 11, 12, 13, 7, 14, 15, 16, 17, 18, 19, 3, 20, 21, 22, 23, 51, 52, 53, 54, 55, 56, 57, 58, 59, 60, 61, 62, 63, 64, 65, 66, 67, 68, 69, 70, 71, 72, 73, 74, 75, 76, 77] (by decide +kernel) (by decide +kernel)
set_option maxRecDepth 20000 in
theorem gX10_stores_X10_laysFresh : GoodIn wsX10_stores (wsV RX10 228 RX10 yX10_laysFresh wsX10_laysFresh) := goodIn_app (goodIn_of _ (by decide +kernel)) ggX10_stores_X10_laysFresh
set_option maxRecDepth 20000 in
theorem ggX10_stores_X10_buys : GoodIn wsX10_stores wsX10_buys := goodIn_r _ [27, 3, 28, 29, 30, 7, 31, 32, 33, 34, 35, 36, 37, 38, 39, 40, 41, 42, 51, 52, 53, 54, 55, 56, 57, 58, 59, 60, 61, 62, 63, 64, 65, 66, 67, 68, 69, 70, 71, 72, 73, 74, 75, 76, 77] (by decide +kernel) (by decide +kernel)
set_option maxRecDepth 20000 in
theorem gX10_stores_X10_buys : GoodIn wsX10_stores (wsV RX10 234 RX10 yX10_buys wsX10_buys) := goodIn_app (goodIn_of _ (by decide +kernel)) ggX10_stores_X10_buys
set_option maxRecDepth 20000 in
theorem ggX10_stores_X10_laysParts : GoodIn wsX10_stores wsX10_laysParts := goodIn_r _ [46, 9, 3, 10, 11, 12, 13, 7, 14, 15, 16, 17, 18, 19, 20, 21, 22, 23, 51, 52, 53, 54, 55, 56, 57, 58, 59, 60, 61, 62, 63, 64, 65, 66, 67, 68, 69, 70, 71, 72, 73, 74, 75, 76, 77] (by decide +kernel) (by decide +kernel)
set_option maxRecDepth 20000 in
theorem gX10_stores_X10_laysParts : GoodIn wsX10_stores (wsV RX10 237 RX10 yX10_laysParts wsX10_laysParts) := goodIn_app (goodIn_of _ (by decide +kernel)) ggX10_stores_X10_laysParts
set_option maxRecDepth 20000 in
theorem ggX10_stores_X10_uses : GoodIn wsX10_stores wsX10_uses := goodIn_r _ [50, 3, 20, 21, 22, 7, 23, 51, 52, 53, 54, 55, 56, 57, 58, 59, 60, 61, 62, 63, 64, 65, 66, 67, 68, 69, 70, 71, 72, 73, 74, 75, 76, 77] (by decide +kernel) (by decide +kernel)
set_option maxRecDepth 20000 in
theorem gX10_stores_X10_uses : GoodIn wsX10_stores (wsV RX10 240 RX10 yX10_uses wsX10_uses) := goodIn_app (goodIn_of _ (by decide +kernel)) ggX10_stores_X10_uses
set_option maxRecDepth 20000 in
theorem ggX10_stores_X10_pays : GoodIn wsX10_stores wsX10_pays := goodIn_r _ [38, 3, 51, 52, 53, 54, 55, 56, 57, 58, 59, 60, 61, 62, 63, 64, 65, 66, 67, 68, 69, 70, 71, 72, 73, 74, 75, 76, 77] (by decide +kernel) (by decide +kernel)
set_option maxRecDepth 20000 in
theorem gX10_stores_X10_pays : GoodIn wsX10_stores (wsV RX10 212 RX10 yX10_pays wsX10_pays) := goodIn_app (goodIn_of _ (by decide +kernel)) ggX10_stores_X10_pays
set_option maxRecDepth 20000 in
theorem ggX10_spellsWord_X10_ofWord : GoodIn wsX10_spellsWord wsX10_ofWord := goodIn_r _ [7, 8, 16, 17, 18, 19, 20, 21, 22, 23, 24, 25, 26, 27, 28, 29, 30, 31, 32, 33, 34, 35, 36, 37, 38, 39, 40, 41, 42] (by decide +kernel) (by decide +kernel)
set_option maxRecDepth 20000 in
theorem gX10_spellsWord_X10_ofWord : GoodIn wsX10_spellsWord (wsV RX10 244 RX10 yX10_ofWord wsX10_ofWord) := goodIn_app (goodIn_of _ (by decide +kernel)) ggX10_spellsWord_X10_ofWord
set_option maxRecDepth 20000 in
theorem ggX10_spellsWord_X10_ofPiece : GoodIn wsX10_spellsWord wsX10_ofPiece := goodIn_r _ [12, 8, 16, 17, 18, 19, 20, 21, 22, 23, 24, 25, 26, 27, 28, 29, 30, 31, 32, 33, 34, 35, 36, 37, 38, 39, 40, 41, 42] (by decide +kernel) (by decide +kernel)
set_option maxRecDepth 20000 in
theorem gX10_spellsWord_X10_ofPiece : GoodIn wsX10_spellsWord (wsV RX10 203 RX10 yX10_ofPiece wsX10_ofPiece) := goodIn_app (goodIn_of _ (by decide +kernel)) ggX10_spellsWord_X10_ofPiece
set_option maxRecDepth 20000 in
theorem ggX10_spellsWord_X10_lettersOf : GoodIn wsX10_spellsWord wsX10_lettersOf := goodIn_r _ [15] (by decide +kernel) (by decide +kernel)
set_option maxRecDepth 20000 in
theorem gX10_spellsWord_X10_lettersOf : GoodIn wsX10_spellsWord (va_wsS RX10 206 yX10_lettersOf wsX10_lettersOf) := goodIn_app (goodIn_of _ (by decide +kernel)) ggX10_spellsWord_X10_lettersOf
set_option maxRecDepth 20000 in
theorem ggX10_fewestOf_X10_spellsWord : GoodIn wsX10_fewestOf wsX10_spellsWord := goodIn_r _ [6, 7, 8, 9, 10, 11, 5, 12, 13, 14, 15, 16, 17, 18, 19, 20, 44, 45, 46, 47, 48, 49, 50, 51, 52, 53, 54, 55, 56, 57, 58, 59, 60, 61, 62, 63, 64, 65, 66, 67, 68, 69, 70] (by decide +kernel) (by decide +kernel)
set_option maxRecDepth 20000 in
theorem gX10_fewestOf_X10_spellsWord : GoodIn wsX10_fewestOf (wsV RX10 247 RX10 yX10_spellsWord wsX10_spellsWord) := goodIn_app (goodIn_of _ (by decide +kernel)) ggX10_fewestOf_X10_spellsWord
set_option maxRecDepth 20000 in
theorem ggX10_fewestOf_X10_cuts : GoodIn wsX10_fewestOf wsX10_cuts := goodIn_r _ [24, 25, 7, 1, 26, 27, 28, 29, 30, 5, 31, 13, 32, 33, 34, 35, 8, 36, 37, 38, 39, 14, 15, 16, 17, 40, 41, 42, 43, 18, 19, 20, 44, 45, 46, 47, 48, 49, 50, 51, 52, 53, 54, 55, 56, 57, 58, 59, 60, 61, 62, 63, 64, 65, 66, 67, 68, 69, 70] (by decide +kernel) (by decide +kernel)
set_option maxRecDepth 20000 in
theorem gX10_fewestOf_X10_cuts : GoodIn wsX10_fewestOf (wsV RX10 221 RX10 yX10_cuts wsX10_cuts) := goodIn_app (goodIn_of _ (by decide +kernel)) ggX10_fewestOf_X10_cuts
set_option maxRecDepth 20000 in
theorem ggX10_recuts_X10_spellsWord : GoodIn wsX10_recuts wsX10_spellsWord := goodIn_r _ [8, 1, 9, 10, 11, 12, 7, 13, 3, 14, 15, 16, 17, 18, 19, 20, 56, 57, 58, 59, 60, 61, 62, 63, 64, 65, 66, 67, 68, 69, 70, 71, 72, 73, 74, 75, 76, 77, 78, 79, 80, 81, 82] (by decide +kernel) (by decide +kernel)
set_option maxRecDepth 20000 in
theorem gX10_recuts_X10_spellsWord : GoodIn wsX10_recuts (wsV RX10 247 RX10 yX10_spellsWord wsX10_spellsWord) := goodIn_app (goodIn_of _ (by decide +kernel)) ggX10_recuts_X10_spellsWord
set_option maxRecDepth 20000 in
theorem ggX10_recuts_X10_cuts : GoodIn wsX10_recuts wsX10_cuts := goodIn_r _ [24, 25, 1, 26, 27, 2, 28, 29, 30, 7, 31, 3, 32, 33, 34, 35, 9, 36, 37, 38, 39, 14, 15, 16, 17, 40, 41, 42, 43, 18, 19, 20, 56, 57, 58, 59, 60, 61, 62, 63, 64, 65, 66, 67, 68, 69, 70, 71, 72, 73, 74, 75, 76, 77, 78, 79, 80, 81, 82] (by decide +kernel) (by decide +kernel)
set_option maxRecDepth 20000 in
theorem gX10_recuts_X10_cuts : GoodIn wsX10_recuts (wsV RX10 221 RX10 yX10_cuts wsX10_cuts) := goodIn_app (goodIn_of _ (by decide +kernel)) ggX10_recuts_X10_cuts
set_option maxRecDepth 20000 in
theorem ggX10_recuts_X10_code : GoodIn wsX10_recuts wsX10_code := goodIn_r _ [35, 9, 56, 57, 58, 59, 60, 61, 62, 63, 64, 65, 66, 67, 68, 69, 70, 71, 72, 73, 74, 75, 76, 77, 78, 79, 80, 81, 82] (by decide +kernel) (by decide +kernel)
set_option maxRecDepth 20000 in
theorem gX10_recuts_X10_code : GoodIn wsX10_recuts (wsV RX10 142 RX10 yX10_code wsX10_code) := goodIn_app (goodIn_of _ (by decide +kernel)) ggX10_recuts_X10_code
set_option maxRecDepth 20000 in
theorem ggX10_recuts_X10_pieceOf : GoodIn wsX10_recuts wsX10_pieceOf := goodIn_r _ [39, 3, 14, 15, 16, 7, 17, 56, 57, 58, 59, 60, 61, 62, 63, 64, 65, 66, 67, 68, 69, 70, 71, 72, 73, 74, 75, 76, 77, 78, 79, 80, 81, 82] (by decide +kernel) (by decide +kernel)
set_option maxRecDepth 20000 in
theorem gX10_recuts_X10_pieceOf : GoodIn wsX10_recuts (wsV RX10 146 RX10 yX10_pieceOf wsX10_pieceOf) := goodIn_app (goodIn_of _ (by decide +kernel)) ggX10_recuts_X10_pieceOf
set_option maxRecDepth 20000 in
theorem ggX10_recuts_X10_uses : GoodIn wsX10_recuts wsX10_uses := goodIn_r _ [47, 3, 14, 15, 16, 7, 17, 56, 57, 58, 59, 60, 61, 62, 63, 64, 65, 66, 67, 68, 69, 70, 71, 72, 73, 74, 75, 76, 77, 78, 79, 80, 81, 82] (by decide +kernel) (by decide +kernel)
set_option maxRecDepth 20000 in
theorem gX10_recuts_X10_uses : GoodIn wsX10_recuts (wsV RX10 240 RX10 yX10_uses wsX10_uses) := goodIn_app (goodIn_of _ (by decide +kernel)) ggX10_recuts_X10_uses
set_option maxRecDepth 20000 in
theorem ggX10_recuts_X10_laysParts : GoodIn wsX10_recuts wsX10_laysParts := goodIn_r _ [51, 1, 3, 2, 32, 33, 34, 7, 35, 9, 36, 37, 38, 39, 14, 15, 16, 17, 56, 57, 58, 59, 60, 61, 62, 63, 64, 65, 66, 67, 68, 69, 70, 71, 72, 73, 74, 75, 76, 77, 78, 79, 80, 81, 82] (by decide +kernel) (by decide +kernel)
set_option maxRecDepth 20000 in
theorem gX10_recuts_X10_laysParts : GoodIn wsX10_recuts (wsV RX10 237 RX10 yX10_laysParts wsX10_laysParts) := goodIn_app (goodIn_of _ (by decide +kernel)) ggX10_recuts_X10_laysParts
set_option maxRecDepth 20000 in
theorem ggX10_recuts_X10_pays : GoodIn wsX10_recuts wsX10_pays := goodIn_r _ [55, 3, 56, 57, 58, 59, 60, 61, 62, 63, 64, 65, 66, 67, 68, 69, 70, 71, 72, 73, 74, 75, 76, 77, 78, 79, 80, 81, 82] (by decide +kernel) (by decide +kernel)
set_option maxRecDepth 20000 in
theorem gX10_recuts_X10_pays : GoodIn wsX10_recuts (wsV RX10 212 RX10 yX10_pays wsX10_pays) := goodIn_app (goodIn_of _ (by decide +kernel)) ggX10_recuts_X10_pays
set_option maxRecDepth 20000 in
theorem ggX10_goesBack_X10_ofPiece : GoodIn wsX10_goesBack wsX10_ofPiece := goodIn_r _ [6, 1, 11, 12, 13, 14, 15, 16, 17, 18, 19, 20, 21, 22, 23, 24, 25, 26, 27, 28, 29, 30, 31, 32, 33, 34, 35, 36, 37] (by decide +kernel) (by decide +kernel)
set_option maxRecDepth 20000 in
theorem gX10_goesBack_X10_ofPiece : GoodIn wsX10_goesBack (wsV RX10 203 RX10 yX10_ofPiece wsX10_ofPiece) := goodIn_app (goodIn_of _ (by decide +kernel)) ggX10_goesBack_X10_ofPiece
set_option maxRecDepth 20000 in
theorem ggX10_goesBack_X10_ofWord : GoodIn wsX10_goesBack wsX10_ofWord := goodIn_r _ [10, 1, 11, 12, 13, 14, 15, 16, 17, 18, 19, 20, 21, 22, 23, 24, 25, 26, 27, 28, 29, 30, 31, 32, 33, 34, 35, 36, 37] (by decide +kernel) (by decide +kernel)
set_option maxRecDepth 20000 in
theorem gX10_goesBack_X10_ofWord : GoodIn wsX10_goesBack (wsV RX10 244 RX10 yX10_ofWord wsX10_ofWord) := goodIn_app (goodIn_of _ (by decide +kernel)) ggX10_goesBack_X10_ofWord
set_option maxRecDepth 20000 in
theorem ggX10_ticks_X10_ofPiece : GoodIn wsX10_ticks wsX10_ofPiece := goodIn_r _ [6, 1, 15, 16, 17, 18, 19, 20, 21, 22, 23, 24, 25, 26, 27, 28, 29, 30, 31, 32, 33, 34, 35, 36, 37, 38, 39, 40, 41] (by decide +kernel) (by decide +kernel)
set_option maxRecDepth 20000 in
theorem gX10_ticks_X10_ofPiece : GoodIn wsX10_ticks (wsV RX10 203 RX10 yX10_ofPiece wsX10_ofPiece) := goodIn_app (goodIn_of _ (by decide +kernel)) ggX10_ticks_X10_ofPiece
set_option maxRecDepth 20000 in
theorem ggX10_ticks_X10_goesBack : GoodIn wsX10_ticks wsX10_goesBack := goodIn_r _ [10, 1, 2, 3, 4, 5, 6, 11, 12, 13, 14, 15, 16, 17, 18, 19, 20, 21, 22, 23, 24, 25, 26, 27, 28, 29, 30, 31, 32, 33, 34, 35, 36, 37, 38, 39, 40, 41] (by decide +kernel) (by decide +kernel)
set_option maxRecDepth 20000 in
theorem gX10_ticks_X10_goesBack : GoodIn wsX10_ticks (wsV RX10 250 RX10 yX10_goesBack wsX10_goesBack) := goodIn_app (goodIn_of _ (by decide +kernel)) ggX10_ticks_X10_goesBack
set_option maxRecDepth 20000 in
theorem ggX10_size_X10_within : GoodIn wsX10_size wsX10_within := goodIn_r _ [7] (by decide +kernel) (by decide +kernel)
set_option maxRecDepth 20000 in
theorem gX10_size_X10_within : GoodIn wsX10_size (va_wsS RX10 88 yX10_within wsX10_within) := goodIn_app (goodIn_of _ (by decide +kernel)) ggX10_size_X10_within
set_option maxRecDepth 20000 in
theorem ggX10_size_X10_throwsIf : GoodIn wsX10_size wsX10_throwsIf := goodIn_r _ [11, 1, 12, 13, 14, 15, 16, 17, 18, 19, 20, 21, 22, 23, 24, 25, 26, 27, 28, 29, 30, 31, 32, 33, 34, 35, 36, 37, 38] (by decide +kernel) (by decide +kernel)
set_option maxRecDepth 20000 in
theorem gX10_size_X10_throwsIf : GoodIn wsX10_size (wsV RX10 186 RX10 yX10_throwsIf wsX10_throwsIf) := goodIn_app (goodIn_of _ (by decide +kernel)) ggX10_size_X10_throwsIf
set_option maxRecDepth 20000 in
theorem ggX10_firstWord_X10_name : GoodIn wsX10_firstWord wsX10_name := goodIn_r _ [6, 7, 8, 24, 25, 26, 27, 28, 29, 30, 31, 32, 33, 34, 35, 36, 37, 38, 39, 40, 41, 42, 43, 44, 45, 46, 47, 48, 49, 50] (by decide +kernel) (by decide +kernel)
set_option maxRecDepth 20000 in
theorem gX10_firstWord_X10_name : GoodIn wsX10_firstWord (wsV RX10 125 RX10 yX10_name wsX10_name) := goodIn_app (goodIn_of _ (by decide +kernel)) ggX10_firstWord_X10_name
set_option maxRecDepth 20000 in
theorem ggX10_firstWord_X10_spellsWord : GoodIn wsX10_firstWord wsX10_spellsWord := goodIn_r _ [12, 7, 8, 13, 14, 15, 5, 16, 1, 17, 18, 19, 20, 21, 22, 23, 24, 25, 26, 27, 28, 29, 30, 31, 32, 33, 34, 35, 36, 37, 38, 39, 40, 41, 42, 43, 44, 45, 46, 47, 48, 49, 50] (by decide +kernel) (by decide +kernel)
set_option maxRecDepth 20000 in
theorem gX10_firstWord_X10_spellsWord : GoodIn wsX10_firstWord (wsV RX10 247 RX10 yX10_spellsWord wsX10_spellsWord) := goodIn_app (goodIn_of _ (by decide +kernel)) ggX10_firstWord_X10_spellsWord
set_option maxRecDepth 20000 in
theorem ggX10_find_X10_reads : GoodIn wsX10_find wsX10_reads := goodIn_r _ [7, 8, 9, 10, 11, 2, 12, 13, 14, 6, 15, 16, 17, 18, 19, 20, 21, 22, 23, 24, 66, 67, 68, 69, 70, 71, 72, 73, 74, 75, 76, 77, 78, 79, 80, 81, 82, 83, 84, 85, 86, 87, 88, 89, 90, 91, 92] (by decide +kernel) (by decide +kernel)
set_option maxRecDepth 20000 in
theorem gX10_find_X10_reads : GoodIn wsX10_find (wsV RX10 253 RX10 yX10_reads wsX10_reads) := goodIn_app (goodIn_of _ (by decide +kernel)) ggX10_find_X10_reads
set_option maxRecDepth 20000 in
theorem ggX10_find_X10_within : GoodIn wsX10_find wsX10_within := goodIn_r _ [19] (by decide +kernel) (by decide +kernel)
set_option maxRecDepth 20000 in
theorem gX10_find_X10_within : GoodIn wsX10_find (va_wsS RX10 88 yX10_within wsX10_within) := goodIn_app (goodIn_of _ (by decide +kernel)) ggX10_find_X10_within
set_option maxRecDepth 20000 in
theorem ggX10_find_X10_throwsIf : GoodIn wsX10_find wsX10_throwsIf := goodIn_r _ [28, 1, 66, 67, 68, 69, 70, 71, 72, 73, 74, 75, 76, 77, 78, 79, 80, 81, 82, 83, 84, 85, 86, 87, 88, 89, 90, 91, 92] (by decide +kernel) (by decide +kernel)
set_option maxRecDepth 20000 in
theorem gX10_find_X10_throwsIf : GoodIn wsX10_find (wsV RX10 186 RX10 yX10_throwsIf wsX10_throwsIf) := goodIn_app (goodIn_of _ (by decide +kernel)) ggX10_find_X10_throwsIf
set_option maxRecDepth 20000 in
theorem ggX10_find_X10_userNamed : GoodIn wsX10_find wsX10_userNamed := goodIn_r _ [32, 33, 34, 35, 36, 37, 6, 38, 2, 24, 66, 67, 68, 69, 70, 71, 72, 73, 74, 75, 76, 77, 78, 79, 80, 81, 82, 83, 84, 85, 86, 87, 88, 89, 90, 91, 92] (by decide +kernel) (by decide +kernel)
set_option maxRecDepth 20000 in
theorem gX10_find_X10_userNamed : GoodIn wsX10_find (wsV RX10 136 RX10 yX10_userNamed wsX10_userNamed) := goodIn_app (goodIn_of _ (by decide +kernel)) ggX10_find_X10_userNamed
set_option maxRecDepth 20000 in
theorem ggX10_find_X10_firstWord : GoodIn wsX10_find wsX10_firstWord := goodIn_r _ [42, 33, 35, 36, 37, 6, 38, 2, 24, 43, 44, 45, 46, 47, 48, 49, 50, 51, 52, 53, 54, 55, 56, 57, 66, 67, 68, 69, 70, 71, 72, 73, 74, 75, 76, 77, 78, 79, 80, 81, 82, 83, 84, 85, 86, 87, 88, 89, 90, 91, 92] (by decide +kernel) (by decide +kernel)
set_option maxRecDepth 20000 in
theorem gX10_find_X10_firstWord : GoodIn wsX10_find (wsV RX10 256 RX10 yX10_firstWord wsX10_firstWord) := goodIn_app (goodIn_of _ (by decide +kernel)) ggX10_find_X10_firstWord
set_option maxRecDepth 20000 in
theorem ggX10_find_X10_code : GoodIn wsX10_find wsX10_code := goodIn_r _ [61, 24, 66, 67, 68, 69, 70, 71, 72, 73, 74, 75, 76, 77, 78, 79, 80, 81, 82, 83, 84, 85, 86, 87, 88, 89, 90, 91, 92] (by decide +kernel) (by decide +kernel)
set_option maxRecDepth 20000 in
theorem gX10_find_X10_code : GoodIn wsX10_find (wsV RX10 142 RX10 yX10_code wsX10_code) := goodIn_app (goodIn_of _ (by decide +kernel)) ggX10_find_X10_code
set_option maxRecDepth 20000 in
theorem ggX10_find_X10_pieceOf : GoodIn wsX10_find wsX10_pieceOf := goodIn_r _ [65, 33, 51, 52, 53, 6, 54, 66, 67, 68, 69, 70, 71, 72, 73, 74, 75, 76, 77, 78, 79, 80, 81, 82, 83, 84, 85, 86, 87, 88, 89, 90, 91, 92] (by decide +kernel) (by decide +kernel)
set_option maxRecDepth 20000 in
theorem gX10_find_X10_pieceOf : GoodIn wsX10_find (wsV RX10 146 RX10 yX10_pieceOf wsX10_pieceOf) := goodIn_app (goodIn_of _ (by decide +kernel)) ggX10_find_X10_pieceOf
set_option maxRecDepth 20000 in
theorem ggX10_no_X10_within : GoodIn wsX10_no wsX10_within := goodIn_r _ [4] (by decide +kernel) (by decide +kernel)
set_option maxRecDepth 20000 in
theorem gX10_no_X10_within : GoodIn wsX10_no (va_wsS RX10 88 yX10_within wsX10_within) := goodIn_app (goodIn_of _ (by decide +kernel)) ggX10_no_X10_within
set_option maxRecDepth 20000 in
theorem ggX10_no_X10_throwsIf : GoodIn wsX10_no wsX10_throwsIf := goodIn_r _ [8, 9, 10, 11, 12, 13, 14, 15, 16, 17, 18, 19, 20, 21, 22, 23, 24, 25, 26, 27, 28, 29, 30, 31, 32, 33, 34, 35, 36] (by decide +kernel) (by decide +kernel)
set_option maxRecDepth 20000 in
theorem gX10_no_X10_throwsIf : GoodIn wsX10_no (wsV RX10 186 RX10 yX10_throwsIf wsX10_throwsIf) := goodIn_app (goodIn_of _ (by decide +kernel)) ggX10_no_X10_throwsIf
set_option maxRecDepth 20000 in
theorem ggX10_noUser_X10_no : GoodIn wsX10_noUser wsX10_no := goodIn_r _ [7, 8, 9, 6, 10, 11, 12, 13, 14, 1, 15, 16, 17, 18, 19, 20, 21, 22, 23, 24, 25, 26, 27, 28, 29, 30, 31, 32, 33, 34, 35, 36, 37, 38, 39, 40, 41] (by decide +kernel) (by decide +kernel)
set_option maxRecDepth 20000 in
theorem gX10_noUser_X10_no : GoodIn wsX10_noUser (wsV RX10 259 RX10 yX10_no wsX10_no) := goodIn_app (goodIn_of _ (by decide +kernel)) ggX10_noUser_X10_no
set_option maxRecDepth 20000 in
theorem ggX10_noPiece_X10_no : GoodIn wsX10_noPiece wsX10_no := goodIn_r _ [7, 8, 9, 6, 10, 11, 12, 13, 14, 1, 15, 16, 17, 18, 19, 20, 21, 22, 23, 24, 25, 26, 27, 28, 29, 30, 31, 32, 33, 34, 35, 36, 37, 38, 39, 40, 41] (by decide +kernel) (by decide +kernel)
set_option maxRecDepth 20000 in
theorem gX10_noPiece_X10_no : GoodIn wsX10_noPiece (wsV RX10 259 RX10 yX10_no wsX10_no) := goodIn_app (goodIn_of _ (by decide +kernel)) ggX10_noPiece_X10_no
set_option maxRecDepth 20000 in
theorem ggX10_noWord_X10_no : GoodIn wsX10_noWord wsX10_no := goodIn_r _ [7, 8, 9, 6, 10, 11, 12, 13, 14, 1, 15, 16, 17, 18, 19, 20, 21, 22, 23, 24, 25, 26, 27, 28, 29, 30, 31, 32, 33, 34, 35, 36, 37, 38, 39, 40, 41] (by decide +kernel) (by decide +kernel)
set_option maxRecDepth 20000 in
theorem gX10_noWord_X10_no : GoodIn wsX10_noWord (wsV RX10 259 RX10 yX10_no wsX10_no) := goodIn_app (goodIn_of _ (by decide +kernel)) ggX10_noWord_X10_no
set_option maxRecDepth 20000 in
theorem ggX10_ofUser_X10_ofWord : GoodIn wsX10_ofUser wsX10_ofWord := goodIn_r _ [6, 1, 11, 12, 13, 14, 15, 16, 17, 18, 19, 20, 21, 22, 23, 24, 25, 26, 27, 28, 29, 30, 31, 32, 33, 34, 35, 36, 37] (by decide +kernel) (by decide +kernel)
set_option maxRecDepth 20000 in
theorem gX10_ofUser_X10_ofWord : GoodIn wsX10_ofUser (wsV RX10 244 RX10 yX10_ofWord wsX10_ofWord) := goodIn_app (goodIn_of _ (by decide +kernel)) ggX10_ofUser_X10_ofWord
set_option maxRecDepth 20000 in
theorem ggX10_ofUser_X10_ofPiece : GoodIn wsX10_ofUser wsX10_ofPiece := goodIn_r _ [10, 1, 11, 12, 13, 14, 15, 16, 17, 18, 19, 20, 21, 22, 23, 24, 25, 26, 27, 28, 29, 30, 31, 32, 33, 34, 35, 36, 37] (by decide +kernel) (by decide +kernel)
