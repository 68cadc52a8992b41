set_option maxRecDepth 20000 in
theorem gX10_ofUser_X10_ofPiece : GoodIn wsX10_ofUser (wsV RX10 203 RX10 yX10_ofPiece wsX10_ofPiece) := goodIn_app (goodIn_of _ (by decide +kernel)) ggX10_ofUser_X10_ofPiece
set_option maxRecDepth 20000 in
theorem ggX10_user_X10_noUser : GoodIn wsX10_user wsX10_noUser := goodIn_r _ [6, 7, 1, 8, 9, 10, 5, 11, 12, 13, 14, 15, 16, 17, 18, 31, 32, 33, 34, 35, 36, 37, 38, 39, 40, 41, 42, 43, 44, 45, 46, 47, 48, 49, 50, 51, 52, 53, 54, 55, 56, 57] (by decide +kernel) (by decide +kernel)
set_option maxRecDepth 20000 in
theorem gX10_user_X10_noUser : GoodIn wsX10_user (wsV RX10 262 RX10 yX10_noUser wsX10_noUser) := goodIn_app (goodIn_of _ (by decide +kernel)) ggX10_user_X10_noUser
set_option maxRecDepth 20000 in
theorem ggX10_user_X10_within : GoodIn wsX10_user wsX10_within := goodIn_r _ [14] (by decide +kernel) (by decide +kernel)
set_option maxRecDepth 20000 in
theorem gX10_user_X10_within : GoodIn wsX10_user (va_wsS RX10 88 yX10_within wsX10_within) := goodIn_app (goodIn_of _ (by decide +kernel)) ggX10_user_X10_within
set_option maxRecDepth 20000 in
theorem ggX10_user_X10_throwsIf : GoodIn wsX10_user wsX10_throwsIf := goodIn_r _ [18, 7, 31, 32, 33, 34, 35, 36, 37, 38, 39, 40, 41, 42, 43, 44, 45, 46, 47, 48, 49, 50, 51, 52, 53, 54, 55, 56, 57] (by decide +kernel) (by decide +kernel)
set_option maxRecDepth 20000 in
theorem gX10_user_X10_throwsIf : GoodIn wsX10_user (wsV RX10 186 RX10 yX10_throwsIf wsX10_throwsIf) := goodIn_app (goodIn_of _ (by decide +kernel)) ggX10_user_X10_throwsIf
set_option maxRecDepth 20000 in
theorem ggX10_user_X10_ofUser : GoodIn wsX10_user wsX10_ofUser := goodIn_r _ [22, 1, 23, 24, 25, 5, 26, 27, 28, 29, 30, 31, 32, 33, 34, 35, 36, 37, 38, 39, 40, 41, 42, 43, 44, 45, 46, 47, 48, 49, 50, 51, 52, 53, 54, 55, 56, 57] (by decide +kernel) (by decide +kernel)
set_option maxRecDepth 20000 in
theorem gX10_user_X10_ofUser : GoodIn wsX10_user (wsV RX10 265 RX10 yX10_ofUser wsX10_ofUser) := goodIn_app (goodIn_of _ (by decide +kernel)) ggX10_user_X10_ofUser
set_option maxRecDepth 20000 in
theorem ggX10_piece_X10_noPiece : GoodIn wsX10_piece wsX10_noPiece := goodIn_r _ [5, 6, 7, 8, 9, 10, 4, 11, 12, 13, 14, 15, 16, 17, 18, 26, 27, 28, 29, 30, 31, 32, 33, 34, 35, 36, 37, 38, 39, 40, 41, 42, 43, 44, 45, 46, 47, 48, 49, 50, 51, 52] (by decide +kernel) (by decide +kernel)
set_option maxRecDepth 20000 in
theorem gX10_piece_X10_noPiece : GoodIn wsX10_piece (wsV RX10 268 RX10 yX10_noPiece wsX10_noPiece) := goodIn_app (goodIn_of _ (by decide +kernel)) ggX10_piece_X10_noPiece
set_option maxRecDepth 20000 in
theorem ggX10_piece_X10_within : GoodIn wsX10_piece wsX10_within := goodIn_r _ [14] (by decide +kernel) (by decide +kernel)
set_option maxRecDepth 20000 in
theorem gX10_piece_X10_within : GoodIn wsX10_piece (va_wsS RX10 88 yX10_within wsX10_within) := goodIn_app (goodIn_of _ (by decide +kernel)) ggX10_piece_X10_within
set_option maxRecDepth 20000 in
theorem ggX10_piece_X10_throwsIf : GoodIn wsX10_piece wsX10_throwsIf := goodIn_r _ [18, 6, 26, 27, 28, 29, 30, 31, 32, 33, 34, 35, 36, 37, 38, 39, 40, 41, 42, 43, 44, 45, 46, 47, 48, 49, 50, 51, 52] (by decide +kernel) (by decide +kernel)
set_option maxRecDepth 20000 in
theorem gX10_piece_X10_throwsIf : GoodIn wsX10_piece (wsV RX10 186 RX10 yX10_throwsIf wsX10_throwsIf) := goodIn_app (goodIn_of _ (by decide +kernel)) ggX10_piece_X10_throwsIf
set_option maxRecDepth 20000 in
theorem ggX10_piece_X10_ofPiece : GoodIn wsX10_piece wsX10_ofPiece := goodIn_r _ [22, 7, 26, 27, 28, 29, 30, 31, 32, 33, 34, 35, 36, 37, 38, 39, 40, 41, 42, 43, 44, 45, 46, 47, 48, 49, 50, 51, 52] (by decide +kernel) (by decide +kernel)
set_option maxRecDepth 20000 in
theorem gX10_piece_X10_ofPiece : GoodIn wsX10_piece (wsV RX10 203 RX10 yX10_ofPiece wsX10_ofPiece) := goodIn_app (goodIn_of _ (by decide +kernel)) ggX10_piece_X10_ofPiece
set_option maxRecDepth 20000 in
theorem ggX10_piece_X10_lettersOf : GoodIn wsX10_piece wsX10_lettersOf := goodIn_r _ [25] (by decide +kernel) (by decide +kernel)
set_option maxRecDepth 20000 in
theorem gX10_piece_X10_lettersOf : GoodIn wsX10_piece (va_wsS RX10 206 yX10_lettersOf wsX10_lettersOf) := goodIn_app (goodIn_of _ (by decide +kernel)) ggX10_piece_X10_lettersOf
set_option maxRecDepth 20000 in
theorem ggX10_pieceLetter_X10_noPiece : GoodIn wsX10_pieceLetter wsX10_noPiece := goodIn_r _ [5, 6, 7, 8, 9, 10, 4, 11, 12, 13, 14, 15, 16, 17, 18, 26, 27, 28, 29, 30, 31, 32, 33, 34, 35, 36, 37, 38, 39, 40, 41, 42, 43, 44, 45, 46, 47, 48, 49, 50, 51, 52] (by decide +kernel) (by decide +kernel)
set_option maxRecDepth 20000 in
theorem gX10_pieceLetter_X10_noPiece : GoodIn wsX10_pieceLetter (wsV RX10 268 RX10 yX10_noPiece wsX10_noPiece) := goodIn_app (goodIn_of _ (by decide +kernel)) ggX10_pieceLetter_X10_noPiece
set_option maxRecDepth 20000 in
theorem ggX10_pieceLetter_X10_ofPiece : GoodIn wsX10_pieceLetter wsX10_ofPiece := goodIn_r _ [22, 7, 26, 27, 28, 29, 30, 31, 32, 33, 34, 35, 36, 37, 38, 39, 40, 41, 42, 43, 44, 45, 46, 47, 48, 49, 50, 51, 52] (by decide +kernel) (by decide +kernel)
set_option maxRecDepth 20000 in
theorem gX10_pieceLetter_X10_ofPiece : GoodIn wsX10_pieceLetter (wsV RX10 203 RX10 yX10_ofPiece wsX10_ofPiece) := goodIn_app (goodIn_of _ (by decide +kernel)) ggX10_pieceLetter_X10_ofPiece
set_option maxRecDepth 20000 in
theorem ggX10_pieceLetter_X10_lettersOf : GoodIn wsX10_pieceLetter wsX10_lettersOf := goodIn_r _ [25] (by decide +kernel) (by decide +kernel)
set_option maxRecDepth 20000 in
theorem gX10_pieceLetter_X10_lettersOf : GoodIn wsX10_pieceLetter (va_wsS RX10 206 yX10_lettersOf wsX10_lettersOf) := goodIn_app (goodIn_of _ (by decide +kernel)) ggX10_pieceLetter_X10_lettersOf
set_option maxRecDepth 20000 in
theorem ggX10_pieceLetter_X10_within : GoodIn wsX10_pieceLetter wsX10_within := goodIn_r _ [14] (by decide +kernel) (by decide +kernel)
set_option maxRecDepth 20000 in
theorem gX10_pieceLetter_X10_within : GoodIn wsX10_pieceLetter (va_wsS RX10 88 yX10_within wsX10_within) := goodIn_app (goodIn_of _ (by decide +kernel)) ggX10_pieceLetter_X10_within
set_option maxRecDepth 20000 in
theorem ggX10_word_X10_noWord : GoodIn wsX10_word wsX10_noWord := goodIn_r _ [7, 8, 2, 9, 10, 11, 6, 12, 13, 14, 15, 16, 17, 18, 19, 36, 37, 38, 39, 40, 41, 42, 43, 44, 45, 46, 47, 48, 49, 50, 51, 52, 53, 54, 55, 56, 57, 58, 59, 60, 61, 62] (by decide +kernel) (by decide +kernel)
set_option maxRecDepth 20000 in
theorem gX10_word_X10_noWord : GoodIn wsX10_word (wsV RX10 271 RX10 yX10_noWord wsX10_noWord) := goodIn_app (goodIn_of _ (by decide +kernel)) ggX10_word_X10_noWord
set_option maxRecDepth 20000 in
theorem ggX10_word_X10_within : GoodIn wsX10_word wsX10_within := goodIn_r _ [15] (by decide +kernel) (by decide +kernel)
set_option maxRecDepth 20000 in
theorem gX10_word_X10_within : GoodIn wsX10_word (va_wsS RX10 88 yX10_within wsX10_within) := goodIn_app (goodIn_of _ (by decide +kernel)) ggX10_word_X10_within
set_option maxRecDepth 20000 in
theorem ggX10_word_X10_throwsIf : GoodIn wsX10_word wsX10_throwsIf := goodIn_r _ [19, 8, 36, 37, 38, 39, 40, 41, 42, 43, 44, 45, 46, 47, 48, 49, 50, 51, 52, 53, 54, 55, 56, 57, 58, 59, 60, 61, 62] (by decide +kernel) (by decide +kernel)
set_option maxRecDepth 20000 in
theorem gX10_word_X10_throwsIf : GoodIn wsX10_word (wsV RX10 186 RX10 yX10_throwsIf wsX10_throwsIf) := goodIn_app (goodIn_of _ (by decide +kernel)) ggX10_word_X10_throwsIf
set_option maxRecDepth 20000 in
theorem ggX10_word_X10_spellsWord : GoodIn wsX10_word wsX10_spellsWord := goodIn_r _ [23, 1, 24, 25, 26, 27, 6, 28, 2, 29, 30, 31, 32, 33, 34, 35, 36, 37, 38, 39, 40, 41, 42, 43, 44, 45, 46, 47, 48, 49, 50, 51, 52, 53, 54, 55, 56, 57, 58, 59, 60, 61, 62] (by decide +kernel) (by decide +kernel)
set_option maxRecDepth 20000 in
theorem gX10_word_X10_spellsWord : GoodIn wsX10_word (wsV RX10 247 RX10 yX10_spellsWord wsX10_spellsWord) := goodIn_app (goodIn_of _ (by decide +kernel)) ggX10_word_X10_spellsWord
set_option maxRecDepth 20000 in
theorem ggX10_word_X10_ofWord : GoodIn wsX10_word wsX10_ofWord := goodIn_r _ [28, 2, 36, 37, 38, 39, 40, 41, 42, 43, 44, 45, 46, 47, 48, 49, 50, 51, 52, 53, 54, 55, 56, 57, 58, 59, 60, 61, 62] (by decide +kernel) (by decide +kernel)
set_option maxRecDepth 20000 in
theorem gX10_word_X10_ofWord : GoodIn wsX10_word (wsV RX10 244 RX10 yX10_ofWord wsX10_ofWord) := goodIn_app (goodIn_of _ (by decide +kernel)) ggX10_word_X10_ofWord
set_option maxRecDepth 20000 in
theorem ggX10_wordLetter_X10_noWord : GoodIn wsX10_wordLetter wsX10_noWord := goodIn_r _ [7, 8, 9, 10, 11, 12, 6, 13, 14, 15, 16, 17, 18, 19, 20, 36, 37, 38, 39, 40, 41, 42, 43, 44, 45, 46, 47, 48, 49, 50, 51, 52, 53, 54, 55, 56, 57, 58, 59, 60, 61, 62] (by decide +kernel) (by decide +kernel)
set_option maxRecDepth 20000 in
theorem gX10_wordLetter_X10_noWord : GoodIn wsX10_wordLetter (wsV RX10 271 RX10 yX10_noWord wsX10_noWord) := goodIn_app (goodIn_of _ (by decide +kernel)) ggX10_wordLetter_X10_noWord
set_option maxRecDepth 20000 in
theorem ggX10_wordLetter_X10_spellsWord : GoodIn wsX10_wordLetter wsX10_spellsWord := goodIn_r _ [24, 1, 2, 25, 26, 27, 6, 28, 9, 29, 30, 31, 32, 33, 34, 35, 36, 37, 38, 39, 40, 41, 42, 43, 44, 45, 46, 47, 48, 49, 50, 51, 52, 53, 54, 55, 56, 57, 58, 59, 60, 61, 62] (by decide +kernel) (by decide +kernel)
set_option maxRecDepth 20000 in
theorem gX10_wordLetter_X10_spellsWord : GoodIn wsX10_wordLetter (wsV RX10 247 RX10 yX10_spellsWord wsX10_spellsWord) := goodIn_app (goodIn_of _ (by decide +kernel)) ggX10_wordLetter_X10_spellsWord
set_option maxRecDepth 20000 in
theorem ggX10_wordLetter_X10_within : GoodIn wsX10_wordLetter wsX10_within := goodIn_r _ [16] (by decide +kernel) (by decide +kernel)
set_option maxRecDepth 20000 in
theorem gX10_wordLetter_X10_within : GoodIn wsX10_wordLetter (va_wsS RX10 88 yX10_within wsX10_within) := goodIn_app (goodIn_of _ (by decide +kernel)) ggX10_wordLetter_X10_within
set_option maxRecDepth 20000 in
theorem ggX10_part_X10_noWord : GoodIn wsX10_part wsX10_noWord := goodIn_r _ [5, 6, 7, 8, 9, 10, 4, 11, 12, 13, 14, 15, 16, 17, 18, 23, 24, 25, 26, 27, 28, 29, 30, 31, 32, 33, 34, 35, 36, 37, 38, 39, 40, 41, 42, 43, 44, 45, 46, 47, 48, 49] (by decide +kernel) (by decide +kernel)
set_option maxRecDepth 20000 in
theorem gX10_part_X10_noWord : GoodIn wsX10_part (wsV RX10 271 RX10 yX10_noWord wsX10_noWord) := goodIn_app (goodIn_of _ (by decide +kernel)) ggX10_part_X10_noWord
set_option maxRecDepth 20000 in
theorem ggX10_part_X10_ofWord : GoodIn wsX10_part wsX10_ofWord := goodIn_r _ [22, 7, 23, 24, 25, 26, 27, 28, 29, 30, 31, 32, 33, 34, 35, 36, 37, 38, 39, 40, 41, 42, 43, 44, 45, 46, 47, 48, 49] (by decide +kernel) (by decide +kernel)
set_option maxRecDepth 20000 in
theorem gX10_part_X10_ofWord : GoodIn wsX10_part (wsV RX10 244 RX10 yX10_ofWord wsX10_ofWord) := goodIn_app (goodIn_of _ (by decide +kernel)) ggX10_part_X10_ofWord
set_option maxRecDepth 20000 in
theorem ggX10_part_X10_within : GoodIn wsX10_part wsX10_within := goodIn_r _ [14] (by decide +kernel) (by decide +kernel)
set_option maxRecDepth 20000 in
theorem gX10_part_X10_within : GoodIn wsX10_part (va_wsS RX10 88 yX10_within wsX10_within) := goodIn_app (goodIn_of _ (by decide +kernel)) ggX10_part_X10_within
set_option maxRecDepth 20000 in
theorem ggX10_quote_X10_reads : GoodIn wsX10_quote wsX10_reads := goodIn_r _ [9, 10, 11, 12, 13, 14, 15, 16, 17, 8, 18, 19, 20, 21, 22, 23, 24, 25, 26, 27, 75, 76, 77, 78, 79, 80, 81, 82, 83, 84, 85, 86, 87, 88, 89, 90, 91, 92, 93, 94, 95, 96, 97, 98, 99, 100, 101] (by decide +kernel) (by decide +kernel)
set_option maxRecDepth 20000 in
theorem gX10_quote_X10_reads : GoodIn wsX10_quote (wsV RX10 253 RX10 yX10_reads wsX10_reads) := goodIn_app (goodIn_of _ (by decide +kernel)) ggX10_quote_X10_reads
set_option maxRecDepth 20000 in
theorem ggX10_quote_X10_within : GoodIn wsX10_quote wsX10_within := goodIn_r _ [22] (by decide +kernel) (by decide +kernel)
set_option maxRecDepth 20000 in
theorem gX10_quote_X10_within : GoodIn wsX10_quote (va_wsS RX10 88 yX10_within wsX10_within) := goodIn_app (goodIn_of _ (by decide +kernel)) ggX10_quote_X10_within
set_option maxRecDepth 20000 in
theorem ggX10_quote_X10_throwsIf : GoodIn wsX10_quote wsX10_throwsIf := goodIn_r _ [31, 1, 75, 76, 77, 78, 79, 80, 81, 82, 83, 84, 85, 86, 87, 88, 89, 90, 91, 92, 93, 94, 95, 96, 97, 98, 99, 100, 101] (by decide +kernel) (by decide +kernel)
set_option maxRecDepth 20000 in
theorem gX10_quote_X10_throwsIf : GoodIn wsX10_quote (wsV RX10 186 RX10 yX10_throwsIf wsX10_throwsIf) := goodIn_app (goodIn_of _ (by decide +kernel)) ggX10_quote_X10_throwsIf
set_option maxRecDepth 20000 in
theorem ggX10_quote_X10_cutsCheapest : GoodIn wsX10_quote wsX10_cutsCheapest := goodIn_r _ [35, 36, 37, 38, 8, 39, 40, 14, 3, 41, 42, 43, 44, 45, 46, 2, 47, 48, 49, 50, 27, 51, 52, 53, 54, 55, 56, 57, 58, 59, 60, 61, 62, 63, 64, 65, 75, 76, 77, 78, 79, 80, 81, 82, 83, 84, 85, 86, 87, 88, 89, 90, 91, 92, 93, 94, 95, 96, 97, 98, 99, 100, 101] (by decide +kernel) (by decide +kernel)
set_option maxRecDepth 20000 in
theorem gX10_quote_X10_cutsCheapest : GoodIn wsX10_quote (wsV RX10 153 RX10 yX10_cutsCheapest wsX10_cutsCheapest) := goodIn_app (goodIn_of _ (by decide +kernel)) ggX10_quote_X10_cutsCheapest
set_option maxRecDepth 20000 in
theorem ggX10_quote_X10_laysFresh : GoodIn wsX10_quote wsX10_laysFresh := goodIn_r _ [69, 4, 14, 42, 70, 47, 48, 49, 8, 50, 27, 51, 52, 53, 54, 2, 55, 56, 57, 58, 75, 76, 77, 78, 79, 80, 81, 82, 83, 84, 85, 86, 87, 88, 89, 90, 91, 92, 93, 94, 95, 96, 97, 98, 99, 100, 101] (by decide +kernel) (by decide +kernel)
set_option maxRecDepth 20000 in
theorem gX10_quote_X10_laysFresh : GoodIn wsX10_quote (wsV RX10 228 RX10 yX10_laysFresh wsX10_laysFresh) := goodIn_app (goodIn_of _ (by decide +kernel)) ggX10_quote_X10_laysFresh
set_option maxRecDepth 20000 in
theorem ggX10_quote_X10_freshPrice : GoodIn wsX10_quote wsX10_freshPrice := goodIn_r _ [74, 4, 70, 59, 60, 61, 8, 62, 2, 63, 64, 65, 75, 76, 77, 78, 79, 80, 81, 82, 83, 84, 85, 86, 87, 88, 89, 90, 91, 92, 93, 94, 95, 96, 97, 98, 99, 100, 101] (by decide +kernel) (by decide +kernel)
set_option maxRecDepth 20000 in
theorem gX10_quote_X10_freshPrice : GoodIn wsX10_quote (wsV RX10 231 RX10 yX10_freshPrice wsX10_freshPrice) := goodIn_app (goodIn_of _ (by decide +kernel)) ggX10_quote_X10_freshPrice
set_option maxRecDepth 20000 in
theorem ggX10_whyNotStore_X10_reads : GoodIn wsX10_whyNotStore wsX10_reads := goodIn_r _ [5, 6, 7, 8, 9, 10, 11, 12, 13, 4, 14, 15, 16, 17, 18, 19, 20, 21, 22, 23, 87, 88, 89, 90, 91, 92, 93, 94, 95, 96, 97, 98, 99, 100, 101, 102, 103, 104, 105, 106, 107, 108, 109, 110, 111, 112, 113] (by decide +kernel) (by decide +kernel)
set_option maxRecDepth 20000 in
theorem gX10_whyNotStore_X10_reads : GoodIn wsX10_whyNotStore (wsV RX10 253 RX10 yX10_reads wsX10_reads) := goodIn_app (goodIn_of _ (by decide +kernel)) ggX10_whyNotStore_X10_reads
set_option maxRecDepth 20000 in
theorem ggX10_whyNotStore_X10_noUser : GoodIn wsX10_whyNotStore wsX10_noUser := goodIn_r _ [27, 28, 29, 30, 31, 32, 4, 33, 16, 17, 18, 34, 35, 36, 37, 87, 88, 89, 90, 91, 92, 93, 94, 95, 96, 97, 98, 99, 100, 101, 102, 103, 104, 105, 106, 107, 108, 109, 110, 111, 112, 113] (by decide +kernel) (by decide +kernel)
set_option maxRecDepth 20000 in
theorem gX10_whyNotStore_X10_noUser : GoodIn wsX10_whyNotStore (wsV RX10 262 RX10 yX10_noUser wsX10_noUser) := goodIn_app (goodIn_of _ (by decide +kernel)) ggX10_whyNotStore_X10_noUser
set_option maxRecDepth 20000 in
theorem ggX10_whyNotStore_X10_cutsCheapest : GoodIn wsX10_whyNotStore wsX10_cutsCheapest := goodIn_r _ [41, 42, 43, 44, 4, 45, 46, 10, 47, 48, 49, 50, 51, 52, 53, 29, 54, 55, 56, 57, 23, 58, 59, 60, 61, 62, 63, 64, 65, 66, 67, 68, 69, 70, 71, 72, 87, 88, 89, 90, 91, 92, 93, 94, 95, 96, 97, 98, 99, 100, 101, 102, 103, 104, 105, 106, 107, 108, 109, 110, 111, 112, 113] (by decide +kernel) (by decide +kernel)
set_option maxRecDepth 20000 in
theorem gX10_whyNotStore_X10_cutsCheapest : GoodIn wsX10_whyNotStore (wsV RX10 153 RX10 yX10_cutsCheapest wsX10_cutsCheapest) := goodIn_app (goodIn_of _ (by decide +kernel)) ggX10_whyNotStore_X10_cutsCheapest
set_option maxRecDepth 20000 in
theorem ggX10_whyNotStore_X10_why : GoodIn wsX10_whyNotStore wsX10_why := goodIn_r _ [76, 29, 77, 47, 78, 79, 80, 4, 81, 10, 49, 82, 54, 55, 56, 57, 23, 58, 59, 60, 61, 62, 63, 64, 65, 83, 84, 85, 86, 66, 67, 68, 69, 70, 71, 72, 87, 88, 89, 90, 91, 92, 93, 94, 95, 96, 97, 98, 99, 100, 101, 102, 103, 104, 105, 106, 107, 108, 109, 110, 111, 112, 113] (by decide +kernel) (by decide +kernel)
set_option maxRecDepth 20000 in
theorem gX10_whyNotStore_X10_why : GoodIn wsX10_whyNotStore (wsV RX10 156 RX10 yX10_why wsX10_why) := goodIn_app (goodIn_of _ (by decide +kernel)) ggX10_whyNotStore_X10_why
set_option maxRecDepth 20000 in
theorem ggX10_ways_X10_noWord : GoodIn wsX10_ways wsX10_noWord := goodIn_r _ [7, 8, 9, 10, 11, 12, 6, 13, 14, 15, 16, 17, 18, 19, 20, 45, 46, 47, 48, 49, 50, 51, 52, 53, 54, 55, 56, 57, 58, 59, 60, 61, 62, 63, 64, 65, 66, 67, 68, 69, 70, 71] (by decide +kernel) (by decide +kernel)
set_option maxRecDepth 20000 in
theorem gX10_ways_X10_noWord : GoodIn wsX10_ways (wsV RX10 271 RX10 yX10_noWord wsX10_noWord) := goodIn_app (goodIn_of _ (by decide +kernel)) ggX10_ways_X10_noWord
set_option maxRecDepth 20000 in
theorem ggX10_ways_X10_spellsWord : GoodIn wsX10_ways wsX10_spellsWord := goodIn_r _ [24, 2, 25, 26, 27, 28, 6, 29, 9, 30, 31, 32, 33, 34, 35, 36, 45, 46, 47, 48, 49, 50, 51, 52, 53, 54, 55, 56, 57, 58, 59, 60, 61, 62, 63, 64, 65, 66, 67, 68, 69, 70, 71] (by decide +kernel) (by decide +kernel)
set_option maxRecDepth 20000 in
theorem gX10_ways_X10_spellsWord : GoodIn wsX10_ways (wsV RX10 247 RX10 yX10_spellsWord wsX10_spellsWord) := goodIn_app (goodIn_of _ (by decide +kernel)) ggX10_ways_X10_spellsWord
set_option maxRecDepth 20000 in
theorem ggX10_ways_X10_code : GoodIn wsX10_ways wsX10_code := goodIn_r _ [40, 25, 45, 46, 47, 48, 49, 50, 51, 52, 53, 54, 55, 56, 57, 58, 59, 60, 61, 62, 63, 64, 65, 66, 67, 68, 69, 70, 71] (by decide +kernel) (by decide +kernel)
set_option maxRecDepth 20000 in
theorem gX10_ways_X10_code : GoodIn wsX10_ways (wsV RX10 142 RX10 yX10_code wsX10_code) := goodIn_app (goodIn_of _ (by decide +kernel)) ggX10_ways_X10_code
set_option maxRecDepth 20000 in
theorem ggX10_ways_X10_pieceOf : GoodIn wsX10_ways wsX10_pieceOf := goodIn_r _ [44, 9, 30, 31, 32, 6, 33, 45, 46, 47, 48, 49, 50, 51, 52, 53, 54, 55, 56, 57, 58, 59, 60, 61, 62, 63, 64, 65, 66, 67, 68, 69, 70, 71] (by decide +kernel) (by decide +kernel)
set_option maxRecDepth 20000 in
theorem gX10_ways_X10_pieceOf : GoodIn wsX10_ways (wsV RX10 146 RX10 yX10_pieceOf wsX10_pieceOf) := goodIn_app (goodIn_of _ (by decide +kernel)) ggX10_ways_X10_pieceOf
set_option maxRecDepth 20000 in
theorem ggX10_fewest_X10_noWord : GoodIn wsX10_fewest wsX10_noWord := goodIn_r _ [5, 6, 7, 8, 9, 10, 4, 11, 12, 13, 14, 15, 16, 17, 18, 64, 65, 66, 67, 68, 69, 70, 71, 72, 73, 74, 75, 76, 77, 78, 79, 80, 81, 82, 83, 84, 85, 86, 87, 88, 89, 90] (by decide +kernel) (by decide +kernel)
set_option maxRecDepth 20000 in
theorem gX10_fewest_X10_noWord : GoodIn wsX10_fewest (wsV RX10 271 RX10 yX10_noWord wsX10_noWord) := goodIn_app (goodIn_of _ (by decide +kernel)) ggX10_fewest_X10_noWord
set_option maxRecDepth 20000 in
theorem ggX10_fewest_X10_fewestOf : GoodIn wsX10_fewest wsX10_fewestOf := goodIn_r _ [22, 23, 24, 25, 26, 4, 27, 28, 29, 30, 31, 32, 33, 7, 34, 35, 36, 37, 38, 39, 40, 41, 42, 43, 44, 45, 46, 47, 48, 49, 50, 51, 52, 53, 54, 55, 56, 57, 58, 59, 60, 61, 62, 63, 64, 65, 66, 67, 68, 69, 70, 71, 72, 73, 74, 75, 76, 77, 78, 79, 80, 81, 82, 83, 84, 85, 86, 87, 88, 89, 90] (by decide +kernel) (by decide +kernel)
set_option maxRecDepth 20000 in
theorem gX10_fewest_X10_fewestOf : GoodIn wsX10_fewest (wsV RX10 274 RX10 yX10_fewestOf wsX10_fewestOf) := goodIn_app (goodIn_of _ (by decide +kernel)) ggX10_fewest_X10_fewestOf
set_option maxRecDepth 20000 in
theorem ggX10_saving_X10_noWord : GoodIn wsX10_saving wsX10_noWord := goodIn_r _ [6, 7, 1, 8, 9, 10, 5, 11, 12, 13, 14, 15, 16, 17, 18, 64, 65, 66, 67, 68, 69, 70, 71, 72, 73, 74, 75, 76, 77, 78, 79, 80, 81, 82, 83, 84, 85, 86, 87, 88, 89, 90] (by decide +kernel) (by decide +kernel)
set_option maxRecDepth 20000 in
theorem gX10_saving_X10_noWord : GoodIn wsX10_saving (wsV RX10 271 RX10 yX10_noWord wsX10_noWord) := goodIn_app (goodIn_of _ (by decide +kernel)) ggX10_saving_X10_noWord
set_option maxRecDepth 20000 in
theorem ggX10_saving_X10_ofWord : GoodIn wsX10_saving wsX10_ofWord := goodIn_r _ [22, 1, 64, 65, 66, 67, 68, 69, 70, 71, 72, 73, 74, 75, 76, 77, 78, 79, 80, 81, 82, 83, 84, 85, 86, 87, 88, 89, 90] (by decide +kernel) (by decide +kernel)
set_option maxRecDepth 20000 in
theorem gX10_saving_X10_ofWord : GoodIn wsX10_saving (wsV RX10 244 RX10 yX10_ofWord wsX10_ofWord) := goodIn_app (goodIn_of _ (by decide +kernel)) ggX10_saving_X10_ofWord
set_option maxRecDepth 20000 in
theorem ggX10_saving_X10_fewestOf : GoodIn wsX10_saving wsX10_fewestOf := goodIn_r _ [26, 27, 28, 29, 30, 5, 31, 32, 33, 19, 20, 21, 22, 1, 34, 35, 36, 37, 38, 39, 40, 41, 42, 43, 44, 45, 46, 47, 48, 49, 50, 51, 52, 53, 54, 55, 56, 57, 58, 59, 60, 61, 62, 63, 64, 65, 66, 67, 68, 69, 70, 71, 72, 73, 74, 75, 76, 77, 78, 79, 80, 81, 82, 83, 84, 85, 86, 87, 88, 89, 90] (by decide +kernel) (by decide +kernel)
set_option maxRecDepth 20000 in
theorem gX10_saving_X10_fewestOf : GoodIn wsX10_saving (wsV RX10 274 RX10 yX10_fewestOf wsX10_fewestOf) := goodIn_app (goodIn_of _ (by decide +kernel)) ggX10_saving_X10_fewestOf
set_option maxRecDepth 20000 in
theorem ggX10_fewestOfAll_X10_fewestOf : GoodIn wsX10_fewestOfAll wsX10_fewestOf := goodIn_r _ [6, 7, 8, 9, 10, 5, 11, 12, 13, 14, 15, 16, 17, 1, 18, 19, 20, 21, 22, 23, 24, 25, 26, 27, 28, 29, 30, 31, 32, 33, 34, 35, 36, 37, 38, 39, 40, 41, 42, 43, 44, 45, 46, 47, 48, 49, 50, 51, 52, 53, 54, 55, 56, 57, 58, 59, 60, 61, 62, 63, 64, 65, 66, 67, 68, 69, 70, 71, 72, 73, 74] (by decide +kernel) (by decide +kernel)
set_option maxRecDepth 20000 in
theorem gX10_fewestOfAll_X10_fewestOf : GoodIn wsX10_fewestOfAll (wsV RX10 274 RX10 yX10_fewestOf wsX10_fewestOf) := goodIn_app (goodIn_of _ (by decide +kernel)) ggX10_fewestOfAll_X10_fewestOf
set_option maxRecDepth 20000 in
theorem ggX10_bestPart_X10_noWord : GoodIn wsX10_bestPart wsX10_noWord := goodIn_r _ [6, 7, 8, 9, 10, 11, 5, 12, 13, 14, 15, 16, 17, 18, 19, 68, 69, 70, 71, 72, 73, 74, 75, 76, 77, 78, 79, 80, 81, 82, 83, 84, 85, 86, 87, 88, 89, 90, 91, 92, 93, 94] (by decide +kernel) (by decide +kernel)
set_option maxRecDepth 20000 in
theorem gX10_bestPart_X10_noWord : GoodIn wsX10_bestPart (wsV RX10 271 RX10 yX10_noWord wsX10_noWord) := goodIn_app (goodIn_of _ (by decide +kernel)) ggX10_bestPart_X10_noWord
set_option maxRecDepth 20000 in
theorem ggX10_bestPart_X10_within : GoodIn wsX10_bestPart wsX10_within := goodIn_r _ [15] (by decide +kernel) (by decide +kernel)
set_option maxRecDepth 20000 in
theorem gX10_bestPart_X10_within : GoodIn wsX10_bestPart (va_wsS RX10 88 yX10_within wsX10_within) := goodIn_app (goodIn_of _ (by decide +kernel)) ggX10_bestPart_X10_within
set_option maxRecDepth 20000 in
theorem ggX10_bestPart_X10_throwsIf : GoodIn wsX10_bestPart wsX10_throwsIf := goodIn_r _ [19, 7, 68, 69, 70, 71, 72, 73, 74, 75, 76, 77, 78, 79, 80, 81, 82, 83, 84, 85, 86, 87, 88, 89, 90, 91, 92, 93, 94] (by decide +kernel) (by decide +kernel)
set_option maxRecDepth 20000 in
theorem gX10_bestPart_X10_throwsIf : GoodIn wsX10_bestPart (wsV RX10 186 RX10 yX10_throwsIf wsX10_throwsIf) := goodIn_app (goodIn_of _ (by decide +kernel)) ggX10_bestPart_X10_throwsIf
set_option maxRecDepth 20000 in
theorem ggX10_bestPart_X10_fewestOfAll : GoodIn wsX10_bestPart wsX10_fewestOfAll := goodIn_r _ [23, 8, 24, 25, 26, 5, 27, 28, 29, 30, 31, 32, 1, 33, 34, 35, 36, 37, 38, 39, 40, 41, 42, 43, 44, 45, 46, 47, 48, 49, 50, 51, 52, 53, 54, 55, 56, 57, 58, 59, 60, 61, 62, 63, 64, 65, 66, 67, 68, 69, 70, 71, 72, 73, 74, 75, 76, 77, 78, 79, 80, 81, 82, 83, 84, 85, 86, 87, 88, 89, 90, 91, 92, 93, 94] (by decide +kernel) (by decide +kernel)
set_option maxRecDepth 20000 in
theorem gX10_bestPart_X10_fewestOfAll : GoodIn wsX10_bestPart (wsV RX10 277 RX10 yX10_fewestOfAll wsX10_fewestOfAll) := goodIn_app (goodIn_of _ (by decide +kernel)) ggX10_bestPart_X10_fewestOfAll
set_option maxRecDepth 20000 in
theorem ggX10_bestPart_X10_spellsWord : GoodIn wsX10_bestPart wsX10_spellsWord := goodIn_r _ [32, 1, 33, 34, 35, 36, 5, 37, 8, 38, 39, 40, 41, 42, 43, 44, 68, 69, 70, 71, 72, 73, 74, 75, 76, 77, 78, 79, 80, 81, 82, 83, 84, 85, 86, 87, 88, 89, 90, 91, 92, 93, 94] (by decide +kernel) (by decide +kernel)
set_option maxRecDepth 20000 in
theorem gX10_bestPart_X10_spellsWord : GoodIn wsX10_bestPart (wsV RX10 247 RX10 yX10_spellsWord wsX10_spellsWord) := goodIn_app (goodIn_of _ (by decide +kernel)) ggX10_bestPart_X10_spellsWord
set_option maxRecDepth 20000 in
theorem ggX10_bestPart_X10_code : GoodIn wsX10_bestPart wsX10_code := goodIn_r _ [59, 33, 68, 69, 70, 71, 72, 73, 74, 75, 76, 77, 78, 79, 80, 81, 82, 83, 84, 85, 86, 87, 88, 89, 90, 91, 92, 93, 94] (by decide +kernel) (by decide +kernel)
set_option maxRecDepth 20000 in
theorem gX10_bestPart_X10_code : GoodIn wsX10_bestPart (wsV RX10 142 RX10 yX10_code wsX10_code) := goodIn_app (goodIn_of _ (by decide +kernel)) ggX10_bestPart_X10_code
set_option maxRecDepth 20000 in
theorem ggX10_bestPart_X10_pieceOf : GoodIn wsX10_bestPart wsX10_pieceOf := goodIn_r _ [63, 8, 38, 39, 40, 5, 41, 68, 69, 70, 71, 72, 73, 74, 75, 76, 77, 78, 79, 80, 81, 82, 83, 84, 85, 86, 87, 88, 89, 90, 91, 92, 93, 94] (by decide +kernel) (by decide +kernel)
set_option maxRecDepth 20000 in
theorem gX10_bestPart_X10_pieceOf : GoodIn wsX10_bestPart (wsV RX10 146 RX10 yX10_pieceOf wsX10_pieceOf) := goodIn_app (goodIn_of _ (by decide +kernel)) ggX10_bestPart_X10_pieceOf
set_option maxRecDepth 20000 in
theorem ggX10_piecesOf_X10_ofWord : GoodIn wsX10_piecesOf wsX10_ofWord := goodIn_r _ [5, 6, 7, 8, 9, 10, 11, 12, 13, 14, 15, 16, 17, 18, 19, 20, 21, 22, 23, 24, 25, 26, 27, 28, 29, 30, 31, 32, 33] (by decide +kernel) (by decide +kernel)
set_option maxRecDepth 20000 in
theorem gX10_piecesOf_X10_ofWord : GoodIn wsX10_piecesOf (wsV RX10 244 RX10 yX10_ofWord wsX10_ofWord) := goodIn_app (goodIn_of _ (by decide +kernel)) ggX10_piecesOf_X10_ofWord
set_option maxRecDepth 20000 in
theorem ggX10_shared_X10_noWord : GoodIn wsX10_shared wsX10_noWord := goodIn_r _ [6, 7, 1, 8, 9, 10, 5, 11, 12, 13, 14, 15, 16, 17, 18, 27, 28, 29, 30, 31, 32, 33, 34, 35, 36, 37, 38, 39, 40, 41, 42, 43, 44, 45, 46, 47, 48, 49, 50, 51, 52, 53] (by decide +kernel) (by decide +kernel)
set_option maxRecDepth 20000 in
theorem gX10_shared_X10_noWord : GoodIn wsX10_shared (wsV RX10 271 RX10 yX10_noWord wsX10_noWord) := goodIn_app (goodIn_of _ (by decide +kernel)) ggX10_shared_X10_noWord
set_option maxRecDepth 20000 in
theorem ggX10_shared_X10_no : GoodIn wsX10_shared wsX10_no := goodIn_r _ [11, 12, 13, 5, 14, 15, 16, 17, 18, 7, 27, 28, 29, 30, 31, 32, 33, 34, 35, 36, 37, 38, 39, 40, 41, 42, 43, 44, 45, 46, 47, 48, 49, 50, 51, 52, 53] (by decide +kernel) (by decide +kernel)
set_option maxRecDepth 20000 in
theorem gX10_shared_X10_no : GoodIn wsX10_shared (wsV RX10 259 RX10 yX10_no wsX10_no) := goodIn_app (goodIn_of _ (by decide +kernel)) ggX10_shared_X10_no
set_option maxRecDepth 20000 in
theorem ggX10_shared_X10_piecesOf : GoodIn wsX10_shared wsX10_piecesOf := goodIn_r _ [22, 23, 24, 25, 5, 26, 1, 27, 28, 29, 30, 31, 32, 33, 34, 35, 36, 37, 38, 39, 40, 41, 42, 43, 44, 45, 46, 47, 48, 49, 50, 51, 52, 53] (by decide +kernel) (by decide +kernel)
set_option maxRecDepth 20000 in
theorem gX10_shared_X10_piecesOf : GoodIn wsX10_shared (wsV RX10 280 RX10 yX10_piecesOf wsX10_piecesOf) := goodIn_app (goodIn_of _ (by decide +kernel)) ggX10_shared_X10_piecesOf
set_option maxRecDepth 20000 in
theorem ggX10_favourite_X10_ofPiece : GoodIn wsX10_favourite wsX10_ofPiece := goodIn_r _ [7, 2, 8, 9, 10, 11, 12, 13, 14, 15, 16, 17, 18, 19, 20, 21, 22, 23, 24, 25, 26, 27, 28, 29, 30, 31, 32, 33, 34] (by decide +kernel) (by decide +kernel)
set_option maxRecDepth 20000 in
theorem gX10_favourite_X10_ofPiece : GoodIn wsX10_favourite (wsV RX10 203 RX10 yX10_ofPiece wsX10_ofPiece) := goodIn_app (goodIn_of _ (by decide +kernel)) ggX10_favourite_X10_ofPiece
set_option maxRecDepth 20000 in
theorem ggX10_wealth_X10_ofUser : GoodIn wsX10_wealth wsX10_ofUser := goodIn_r _ [6, 1, 7, 8, 9, 5, 10, 11, 12, 13, 14, 15, 16, 17, 18, 19, 20, 21, 22, 23, 24, 25, 26, 27, 28, 29, 30, 31, 32, 33, 34, 35, 36, 37, 38, 39, 40, 41] (by decide +kernel) (by decide +kernel)
set_option maxRecDepth 20000 in
theorem gX10_wealth_X10_ofUser : GoodIn wsX10_wealth (wsV RX10 265 RX10 yX10_ofUser wsX10_ofUser) := goodIn_app (goodIn_of _ (by decide +kernel)) ggX10_wealth_X10_ofUser
set_option maxRecDepth 20000 in
theorem ggX10_richest_X10_wealth : GoodIn wsX10_richest wsX10_wealth := goodIn_r _ [7, 2, 8, 9, 10, 6, 11, 12, 13, 14, 15, 16, 17, 18, 19, 20, 21, 22, 23, 24, 25, 26, 27, 28, 29, 30, 31, 32, 33, 34, 35, 36, 37, 38, 39, 40, 41, 42, 43, 44, 45, 46] (by decide +kernel) (by decide +kernel)
set_option maxRecDepth 20000 in
theorem gX10_richest_X10_wealth : GoodIn wsX10_richest (wsV RX10 283 RX10 yX10_wealth wsX10_wealth) := goodIn_app (goodIn_of _ (by decide +kernel)) ggX10_richest_X10_wealth
set_option maxRecDepth 20000 in
theorem ggX10_usesTold_X10_ofWord : GoodIn wsX10_usesTold wsX10_ofWord := goodIn_r _ [6, 1, 7, 8, 9, 10, 11, 12, 13, 14, 15, 16, 17, 18, 19, 20, 21, 22, 23, 24, 25, 26, 27, 28, 29, 30, 31, 32, 33] (by decide +kernel) (by decide +kernel)
set_option maxRecDepth 20000 in
theorem gX10_usesTold_X10_ofWord : GoodIn wsX10_usesTold (wsV RX10 244 RX10 yX10_ofWord wsX10_ofWord) := goodIn_app (goodIn_of _ (by decide +kernel)) ggX10_usesTold_X10_ofWord
set_option maxRecDepth 20000 in
theorem ggX10_isWhole_X10_ofWord : GoodIn wsX10_isWhole wsX10_ofWord := goodIn_r _ [8, 2, 28, 29, 30, 31, 32, 33, 34, 35, 36, 37, 38, 39, 40, 41, 42, 43, 44, 45, 46, 47, 48, 49, 50, 51, 52, 53, 54] (by decide +kernel) (by decide +kernel)
set_option maxRecDepth 20000 in
theorem gX10_isWhole_X10_ofWord : GoodIn wsX10_isWhole (wsV RX10 244 RX10 yX10_ofWord wsX10_ofWord) := goodIn_app (goodIn_of _ (by decide +kernel)) ggX10_isWhole_X10_ofWord
set_option maxRecDepth 20000 in
theorem ggX10_isWhole_X10_spellsWord : GoodIn wsX10_isWhole wsX10_spellsWord := goodIn_r _ [12, 3, 13, 4, 5, 6, 7, 8, 2, 14, 15, 16, 17, 18, 19, 20, 28, 29, 30, 31, 32, 33, 34, 35, 36, 37, 38, 39, 40, 41, 42, 43, 44, 45, 46, 47, 48, 49, 50, 51, 52, 53, 54] (by decide +kernel) (by decide +kernel)
set_option maxRecDepth 20000 in
theorem gX10_isWhole_X10_spellsWord : GoodIn wsX10_isWhole (wsV RX10 247 RX10 yX10_spellsWord wsX10_spellsWord) := goodIn_app (goodIn_of _ (by decide +kernel)) ggX10_isWhole_X10_spellsWord
set_option maxRecDepth 20000 in
theorem ggX10_isWhole_X10_within : GoodIn wsX10_isWhole wsX10_within := goodIn_r _ [23] (by decide +kernel) (by decide +kernel)
set_option maxRecDepth 20000 in
theorem gX10_isWhole_X10_within : GoodIn wsX10_isWhole (va_wsS RX10 88 yX10_within wsX10_within) := goodIn_app (goodIn_of _ (by decide +kernel)) ggX10_isWhole_X10_within
set_option maxRecDepth 20000 in
theorem ggX10_isWhole_X10_usesTold : GoodIn wsX10_isWhole wsX10_usesTold := goodIn_r _ [27, 2, 4, 5, 6, 7, 8, 28, 29, 30, 31, 32, 33, 34, 35, 36, 37, 38, 39, 40, 41, 42, 43, 44, 45, 46, 47, 48, 49, 50, 51, 52, 53, 54] (by decide +kernel) (by decide +kernel)
set_option maxRecDepth 20000 in
theorem gX10_isWhole_X10_usesTold : GoodIn wsX10_isWhole (wsV RX10 286 RX10 yX10_usesTold wsX10_usesTold) := goodIn_app (goodIn_of _ (by decide +kernel)) ggX10_isWhole_X10_usesTold
set_option maxRecDepth 20000 in
theorem ggX10_isWhole_X10_ofPiece : GoodIn wsX10_isWhole wsX10_ofPiece := goodIn_r _ [17, 2, 28, 29, 30, 31, 32, 33, 34, 35, 36, 37, 38, 39, 40, 41, 42, 43, 44, 45, 46, 47, 48, 49, 50, 51, 52, 53, 54] (by decide +kernel) (by decide +kernel)
set_option maxRecDepth 20000 in
theorem gX10_isWhole_X10_ofPiece : GoodIn wsX10_isWhole (wsV RX10 203 RX10 yX10_ofPiece wsX10_ofPiece) := goodIn_app (goodIn_of _ (by decide +kernel)) ggX10_isWhole_X10_ofPiece
set_option maxRecDepth 20000 in
theorem ggX10_account_X10_within : GoodIn wsX10_account wsX10_within := goodIn_r _ [6] (by decide +kernel) (by decide +kernel)
set_option maxRecDepth 20000 in
theorem gX10_account_X10_within : GoodIn wsX10_account (va_wsS RX10 88 yX10_within wsX10_within) := goodIn_app (goodIn_of _ (by decide +kernel)) ggX10_account_X10_within
set_option maxRecDepth 20000 in
theorem ggX10_account_X10_throwsIf : GoodIn wsX10_account wsX10_throwsIf := goodIn_r _ [10, 1, 11, 12, 13, 14, 15, 16, 17, 18, 19, 20, 21, 22, 23, 24, 25, 26, 27, 28, 29, 30, 31, 32, 33, 34, 35, 36, 37] (by decide +kernel) (by decide +kernel)
set_option maxRecDepth 20000 in
theorem gX10_account_X10_throwsIf : GoodIn wsX10_account (wsV RX10 186 RX10 yX10_throwsIf wsX10_throwsIf) := goodIn_app (goodIn_of _ (by decide +kernel)) ggX10_account_X10_throwsIf
set_option maxRecDepth 20000 in
theorem ggX10_store_X10_reads : GoodIn wsX10_store wsX10_reads := goodIn_r _ [5, 6, 7, 8, 9, 10, 11, 12, 13, 4, 14, 15, 16, 17, 18, 19, 20, 21, 22, 23, 120, 121, 122, 123, 124, 125, 126, 127, 128, 129, 130, 131, 132, 133, 134, 135, 136, 137, 138, 139, 140, 141, 142, 143, 144, 145, 146] (by decide +kernel) (by decide +kernel)
set_option maxRecDepth 20000 in
theorem gX10_store_X10_reads : GoodIn wsX10_store (wsV RX10 253 RX10 yX10_reads wsX10_reads) := goodIn_app (goodIn_of _ (by decide +kernel)) ggX10_store_X10_reads
set_option maxRecDepth 20000 in
theorem ggX10_store_X10_noUser : GoodIn wsX10_store wsX10_noUser := goodIn_r _ [27, 28, 29, 30, 31, 32, 4, 33, 16, 17, 18, 34, 35, 36, 37, 120, 121, 122, 123, 124, 125, 126, 127, 128, 129, 130, 131, 132, 133, 134, 135, 136, 137, 138, 139, 140, 141, 142, 143, 144, 145, 146] (by decide +kernel) (by decide +kernel)
set_option maxRecDepth 20000 in
theorem gX10_store_X10_noUser : GoodIn wsX10_store (wsV RX10 262 RX10 yX10_noUser wsX10_noUser) := goodIn_app (goodIn_of _ (by decide +kernel)) ggX10_store_X10_noUser
set_option maxRecDepth 20000 in
theorem ggX10_store_X10_throwsIf : GoodIn wsX10_store wsX10_throwsIf := goodIn_r _ [37, 28, 120, 121, 122, 123, 124, 125, 126, 127, 128, 129, 130, 131, 132, 133, 134, 135, 136, 137, 138, 139, 140, 141, 142, 143, 144, 145, 146] (by decide +kernel) (by decide +kernel)
set_option maxRecDepth 20000 in
theorem gX10_store_X10_throwsIf : GoodIn wsX10_store (wsV RX10 186 RX10 yX10_throwsIf wsX10_throwsIf) := goodIn_app (goodIn_of _ (by decide +kernel)) ggX10_store_X10_throwsIf
set_option maxRecDepth 20000 in
theorem ggX10_store_X10_cutsCheapest : GoodIn wsX10_store wsX10_cutsCheapest := goodIn_r _ [41, 42, 43, 44, 4, 45, 46, 10, 47, 48, 49, 50, 51, 52, 53, 29, 54, 55, 56, 57, 23, 58, 59, 60, 61, 62, 63, 64, 65, 66, 67, 68, 69, 70, 71, 72, 120, 121, 122, 123, 124, 125, 126, 127, 128, 129, 130, 131, 132, 133, 134, 135, 136, 137, 138, 139, 140, 141, 142, 143, 144, 145, 146] (by decide +kernel) (by decide +kernel)
set_option maxRecDepth 20000 in
theorem gX10_store_X10_cutsCheapest : GoodIn wsX10_store (wsV RX10 153 RX10 yX10_cutsCheapest wsX10_cutsCheapest) := goodIn_app (goodIn_of _ (by decide +kernel)) ggX10_store_X10_cutsCheapest
set_option maxRecDepth 20000 in
theorem ggX10_store_X10_why : GoodIn wsX10_store wsX10_why := goodIn_r _ [76, 29, 77, 47, 78, 79, 80, 4, 81, 10, 49, 82, 54, 55, 56, 57, 23, 58, 59, 60, 61, 62, 63, 64, 65, 83, 84, 85, 86, 66, 67, 68, 69, 70, 71, 72, 120, 121, 122, 123, 124, 125, 126, 127, 128, 129, 130, 131, 132, 133, 134, 135, 136, 137, 138, 139, 140, 141, 142, 143, 144, 145, 146] (by decide +kernel) (by decide +kernel)
set_option maxRecDepth 20000 in
theorem gX10_store_X10_why : GoodIn wsX10_store (wsV RX10 156 RX10 yX10_why wsX10_why) := goodIn_app (goodIn_of _ (by decide +kernel)) ggX10_store_X10_why
set_option maxRecDepth 20000 in
theorem ggX10_store_X10_keeps : GoodIn wsX10_store wsX10_keeps := goodIn_r _ [90, 91, 92, 29, 93, 94, 4, 95, 120, 121, 122, 123, 124, 125, 126, 127, 128, 129, 130, 131, 132, 133, 134, 135, 136, 137, 138, 139, 140, 141, 142, 143, 144, 145, 146] (by decide +kernel) (by decide +kernel)
set_option maxRecDepth 20000 in
theorem gX10_store_X10_keeps : GoodIn wsX10_store (wsV RX10 289 RX10 yX10_keeps wsX10_keeps) := goodIn_app (goodIn_of _ (by decide +kernel)) ggX10_store_X10_keeps
set_option maxRecDepth 20000 in
theorem ggX10_store_X10_stores : GoodIn wsX10_store wsX10_stores := goodIn_r _ [99, 77, 82, 29, 78, 79, 80, 4, 81, 10, 49, 54, 55, 56, 57, 23, 58, 59, 60, 61, 62, 63, 64, 65, 100, 101, 102, 103, 66, 67, 68, 69, 70, 71, 72, 104, 105, 106, 107, 108, 109, 110, 111, 112, 113, 114, 115, 116, 117, 118, 119, 120, 121, 122, 123, 124, 125, 126, 127, 128, 129, 130, 131, 132, 133, 134, 135, 136, 137, 138, 139, 140, 141, 142, 143, 144, 145, 146] (by decide +kernel) (by decide +kernel)
set_option maxRecDepth 20000 in
theorem gX10_store_X10_stores : GoodIn wsX10_store (wsV RX10 159 RX10 yX10_stores wsX10_stores) := goodIn_app (goodIn_of _ (by decide +kernel)) ggX10_store_X10_stores
set_option maxRecDepth 20000 in
theorem ggX10_remove_X10_noWord : GoodIn wsX10_remove wsX10_noWord := goodIn_r _ [6, 7, 1, 8, 9, 10, 5, 11, 12, 13, 14, 15, 16, 17, 18, 40, 41, 42, 43, 44, 45, 46, 47, 48, 49, 50, 51, 52, 53, 54, 55, 56, 57, 58, 59, 60, 61, 62, 63, 64, 65, 66] (by decide +kernel) (by decide +kernel)
set_option maxRecDepth 20000 in
theorem gX10_remove_X10_noWord : GoodIn wsX10_remove (wsV RX10 271 RX10 yX10_noWord wsX10_noWord) := goodIn_app (goodIn_of _ (by decide +kernel)) ggX10_remove_X10_noWord
set_option maxRecDepth 20000 in
theorem ggX10_remove_X10_keeps : GoodIn wsX10_remove wsX10_keeps := goodIn_r _ [22, 23, 24, 1, 25, 26, 5, 27, 40, 41, 42, 43, 44, 45, 46, 47, 48, 49, 50, 51, 52, 53, 54, 55, 56, 57, 58, 59, 60, 61, 62, 63, 64, 65, 66] (by decide +kernel) (by decide +kernel)
set_option maxRecDepth 20000 in
theorem gX10_remove_X10_keeps : GoodIn wsX10_remove (wsV RX10 289 RX10 yX10_keeps wsX10_keeps) := goodIn_app (goodIn_of _ (by decide +kernel)) ggX10_remove_X10_keeps
set_option maxRecDepth 20000 in
theorem ggX10_remove_X10_ofWord : GoodIn wsX10_remove wsX10_ofWord := goodIn_r _ [31, 1, 40, 41, 42, 43, 44, 45, 46, 47, 48, 49, 50, 51, 52, 53, 54, 55, 56, 57, 58, 59, 60, 61, 62, 63, 64, 65, 66] (by decide +kernel) (by decide +kernel)
set_option maxRecDepth 20000 in
theorem gX10_remove_X10_ofWord : GoodIn wsX10_remove (wsV RX10 244 RX10 yX10_ofWord wsX10_ofWord) := goodIn_app (goodIn_of _ (by decide +kernel)) ggX10_remove_X10_ofWord
set_option maxRecDepth 20000 in
theorem ggX10_remove_X10_uses : GoodIn wsX10_remove wsX10_uses := goodIn_r _ [35, 1, 36, 37, 38, 5, 39, 40, 41, 42, 43, 44, 45, 46, 47, 48, 49, 50, 51, 52, 53, 54, 55, 56, 57, 58, 59, 60, 61, 62, 63, 64, 65, 66] (by decide +kernel) (by decide +kernel)
set_option maxRecDepth 20000 in
theorem gX10_remove_X10_uses : GoodIn wsX10_remove (wsV RX10 240 RX10 yX10_uses wsX10_uses) := goodIn_app (goodIn_of _ (by decide +kernel)) ggX10_remove_X10_uses
set_option maxRecDepth 20000 in
theorem ggX10_recut_X10_noWord : GoodIn wsX10_recut wsX10_noWord := goodIn_r _ [5, 6, 7, 8, 9, 10, 4, 11, 12, 13, 14, 15, 16, 17, 18, 85, 86, 87, 88, 89, 90, 91, 92, 93, 94, 95, 96, 97, 98, 99, 100, 101, 102, 103, 104, 105, 106, 107, 108, 109, 110, 111] (by decide +kernel) (by decide +kernel)
set_option maxRecDepth 20000 in
theorem gX10_recut_X10_noWord : GoodIn wsX10_recut (wsV RX10 271 RX10 yX10_noWord wsX10_noWord) := goodIn_app (goodIn_of _ (by decide +kernel)) ggX10_recut_X10_noWord
set_option maxRecDepth 20000 in
theorem ggX10_recut_X10_keeps : GoodIn wsX10_recut wsX10_keeps := goodIn_r _ [22, 23, 24, 7, 25, 26, 4, 27, 85, 86, 87, 88, 89, 90, 91, 92, 93, 94, 95, 96, 97, 98, 99, 100, 101, 102, 103, 104, 105, 106, 107, 108, 109, 110, 111] (by decide +kernel) (by decide +kernel)
set_option maxRecDepth 20000 in
theorem gX10_recut_X10_keeps : GoodIn wsX10_recut (wsV RX10 289 RX10 yX10_keeps wsX10_keeps) := goodIn_app (goodIn_of _ (by decide +kernel)) ggX10_recut_X10_keeps
set_option maxRecDepth 20000 in
theorem ggX10_recut_X10_recuts : GoodIn wsX10_recut wsX10_recuts := goodIn_r _ [31, 32, 33, 7, 34, 35, 36, 4, 37, 38, 39, 40, 41, 42, 43, 44, 45, 46, 47, 48, 49, 50, 51, 52, 53, 54, 55, 56, 57, 58, 59, 60, 61, 62, 63, 64, 65, 66, 67, 68, 69, 70, 71, 72, 73, 74, 75, 76, 77, 78, 79, 80, 81, 82, 83, 84, 85, 86, 87, 88, 89, 90, 91, 92, 93, 94, 95, 96, 97, 98, 99, 100, 101, 102, 103, 104, 105, 106, 107, 108, 109, 110, 111] (by decide +kernel) (by decide +kernel)
set_option maxRecDepth 20000 in
theorem gX10_recut_X10_recuts : GoodIn wsX10_recut (wsV RX10 292 RX10 yX10_recuts wsX10_recuts) := goodIn_app (goodIn_of _ (by decide +kernel)) ggX10_recut_X10_recuts
set_option maxRecDepth 20000 in
theorem ggX10_recutAll_X10_keeps : GoodIn wsX10_recutAll wsX10_keeps := goodIn_r _ [7, 8, 9, 2, 10, 11, 6, 12, 70, 71, 72, 73, 74, 75, 76, 77, 78, 79, 80, 81, 82, 83, 84, 85, 86, 87, 88, 89, 90, 91, 92, 93, 94, 95, 96] (by decide +kernel) (by decide +kernel)
set_option maxRecDepth 20000 in
theorem gX10_recutAll_X10_keeps : GoodIn wsX10_recutAll (wsV RX10 289 RX10 yX10_keeps wsX10_keeps) := goodIn_app (goodIn_of _ (by decide +kernel)) ggX10_recutAll_X10_keeps
set_option maxRecDepth 20000 in
theorem ggX10_recutAll_X10_recuts : GoodIn wsX10_recutAll wsX10_recuts := goodIn_r _ [16, 17, 18, 2, 19, 20, 21, 6, 22, 23, 24, 25, 26, 27, 28, 29, 30, 31, 32, 33, 34, 35, 36, 37, 38, 39, 40, 41, 42, 43, 44, 45, 46, 47, 48, 49, 50, 51, 52, 53, 54, 55, 56, 57, 58, 59, 60, 61, 62, 63, 64, 65, 66, 67, 68, 69, 70, 71, 72, 73, 74, 75, 76, 77, 78, 79, 80, 81, 82, 83, 84, 85, 86, 87, 88, 89, 90, 91, 92, 93, 94, 95, 96] (by decide +kernel) (by decide +kernel)
set_option maxRecDepth 20000 in
theorem gX10_recutAll_X10_recuts : GoodIn wsX10_recutAll (wsV RX10 292 RX10 yX10_recuts wsX10_recuts) := goodIn_app (goodIn_of _ (by decide +kernel)) ggX10_recutAll_X10_recuts
set_option maxRecDepth 20000 in
theorem ggX10_bring_X10_reads : GoodIn wsX10_bring wsX10_reads := goodIn_r _ [7, 8, 9, 10, 11, 1, 12, 13, 14, 6, 15, 16, 17, 18, 19, 20, 21, 22, 23, 24, 78, 79, 80, 81, 82, 83, 84, 85, 86, 87, 88, 89, 90, 91, 92, 93, 94, 95, 96, 97, 98, 99, 100, 101, 102, 103, 104] (by decide +kernel) (by decide +kernel)
set_option maxRecDepth 20000 in
theorem gX10_bring_X10_reads : GoodIn wsX10_bring (wsV RX10 253 RX10 yX10_reads wsX10_reads) := goodIn_app (goodIn_of _ (by decide +kernel)) ggX10_bring_X10_reads
set_option maxRecDepth 20000 in
theorem ggX10_bring_X10_noUser : GoodIn wsX10_bring wsX10_noUser := goodIn_r _ [28, 29, 2, 30, 31, 32, 6, 33, 17, 18, 19, 34, 35, 36, 37, 78, 79, 80, 81, 82, 83, 84, 85, 86, 87, 88, 89, 90, 91, 92, 93, 94, 95, 96, 97, 98, 99, 100, 101, 102, 103, 104] (by decide +kernel) (by decide +kernel)
set_option maxRecDepth 20000 in
theorem gX10_bring_X10_noUser : GoodIn wsX10_bring (wsV RX10 262 RX10 yX10_noUser wsX10_noUser) := goodIn_app (goodIn_of _ (by decide +kernel)) ggX10_bring_X10_noUser
set_option maxRecDepth 20000 in
theorem ggX10_bring_X10_code : GoodIn wsX10_bring wsX10_code := goodIn_r _ [41, 24, 78, 79, 80, 81, 82, 83, 84, 85, 86, 87, 88, 89, 90, 91, 92, 93, 94, 95, 96, 97, 98, 99, 100, 101, 102, 103, 104] (by decide +kernel) (by decide +kernel)
set_option maxRecDepth 20000 in
theorem gX10_bring_X10_code : GoodIn wsX10_bring (wsV RX10 142 RX10 yX10_code wsX10_code) := goodIn_app (goodIn_of _ (by decide +kernel)) ggX10_bring_X10_code
set_option maxRecDepth 20000 in
theorem ggX10_bring_X10_pieceOf : GoodIn wsX10_bring wsX10_pieceOf := goodIn_r _ [45, 2, 46, 47, 48, 6, 49, 78, 79, 80, 81, 82, 83, 84, 85, 86, 87, 88, 89, 90, 91, 92, 93, 94, 95, 96, 97, 98, 99, 100, 101, 102, 103, 104] (by decide +kernel) (by decide +kernel)
set_option maxRecDepth 20000 in
theorem gX10_bring_X10_pieceOf : GoodIn wsX10_bring (wsV RX10 146 RX10 yX10_pieceOf wsX10_pieceOf) := goodIn_app (goodIn_of _ (by decide +kernel)) ggX10_bring_X10_pieceOf
set_option maxRecDepth 20000 in
theorem ggX10_bring_X10_throwsIf : GoodIn wsX10_bring wsX10_throwsIf := goodIn_r _ [37, 29, 78, 79, 80, 81, 82, 83, 84, 85, 86, 87, 88, 89, 90, 91, 92, 93, 94, 95, 96, 97, 98, 99, 100, 101, 102, 103, 104] (by decide +kernel) (by decide +kernel)
set_option maxRecDepth 20000 in
theorem gX10_bring_X10_throwsIf : GoodIn wsX10_bring (wsV RX10 186 RX10 yX10_throwsIf wsX10_throwsIf) := goodIn_app (goodIn_of _ (by decide +kernel)) ggX10_bring_X10_throwsIf
set_option maxRecDepth 20000 in
theorem ggX10_bring_X10_priceOf : GoodIn wsX10_bring wsX10_priceOf := goodIn_r _ [53, 2, 54, 55, 6, 56, 78, 79, 80, 81, 82, 83, 84, 85, 86, 87, 88, 89, 90, 91, 92, 93, 94, 95, 96, 97, 98, 99, 100, 101, 102, 103, 104] (by decide +kernel) (by decide +kernel)
set_option maxRecDepth 20000 in
theorem gX10_bring_X10_priceOf : GoodIn wsX10_bring (wsV RX10 209 RX10 yX10_priceOf wsX10_priceOf) := goodIn_app (goodIn_of _ (by decide +kernel)) ggX10_bring_X10_priceOf
set_option maxRecDepth 20000 in
theorem ggX10_bring_X10_keeps : GoodIn wsX10_bring wsX10_keeps := goodIn_r _ [60, 61, 62, 2, 63, 64, 6, 65, 78, 79, 80, 81, 82, 83, 84, 85, 86, 87, 88, 89, 90, 91, 92, 93, 94, 95, 96, 97, 98, 99, 100, 101, 102, 103, 104] (by decide +kernel) (by decide +kernel)
set_option maxRecDepth 20000 in
theorem gX10_bring_X10_keeps : GoodIn wsX10_bring (wsV RX10 289 RX10 yX10_keeps wsX10_keeps) := goodIn_app (goodIn_of _ (by decide +kernel)) ggX10_bring_X10_keeps
set_option maxRecDepth 20000 in
theorem ggX10_bring_X10_buys : GoodIn wsX10_bring wsX10_buys := goodIn_r _ [69, 2, 50, 51, 52, 6, 53, 54, 55, 56, 70, 71, 72, 73, 74, 75, 76, 77, 78, 79, 80, 81, 82, 83, 84, 85, 86, 87, 88, 89, 90, 91, 92, 93, 94, 95, 96, 97, 98, 99, 100, 101, 102, 103, 104] (by decide +kernel) (by decide +kernel)
set_option maxRecDepth 20000 in
theorem gX10_bring_X10_buys : GoodIn wsX10_bring (wsV RX10 234 RX10 yX10_buys wsX10_buys) := goodIn_app (goodIn_of _ (by decide +kernel)) ggX10_bring_X10_buys
set_option maxRecDepth 20000 in
theorem ggX10_tick_X10_within : GoodIn wsX10_tick wsX10_within := goodIn_r _ [5] (by decide +kernel) (by decide +kernel)
set_option maxRecDepth 20000 in
theorem gX10_tick_X10_within : GoodIn wsX10_tick (va_wsS RX10 88 yX10_within wsX10_within) := goodIn_app (goodIn_of _ (by decide +kernel)) ggX10_tick_X10_within
set_option maxRecDepth 20000 in
theorem ggX10_tick_X10_throwsIf : GoodIn wsX10_tick wsX10_throwsIf := goodIn_r _ [9, 1, 36, 37, 38, 39, 40, 41, 42, 43, 44, 45, 46, 47, 48, 49, 50, 51, 52, 53, 54, 55, 56, 57, 58, 59, 60, 61, 62] (by decide +kernel) (by decide +kernel)
set_option maxRecDepth 20000 in
theorem gX10_tick_X10_throwsIf : GoodIn wsX10_tick (wsV RX10 186 RX10 yX10_throwsIf wsX10_throwsIf) := goodIn_app (goodIn_of _ (by decide +kernel)) ggX10_tick_X10_throwsIf
set_option maxRecDepth 20000 in
theorem ggX10_tick_X10_keeps : GoodIn wsX10_tick wsX10_keeps := goodIn_r _ [13, 14, 15, 16, 17, 18, 4, 19, 36, 37, 38, 39, 40, 41, 42, 43, 44, 45, 46, 47, 48, 49, 50, 51, 52, 53, 54, 55, 56, 57, 58, 59, 60, 61, 62] (by decide +kernel) (by decide +kernel)
set_option maxRecDepth 20000 in
theorem gX10_tick_X10_keeps : GoodIn wsX10_tick (wsV RX10 289 RX10 yX10_keeps wsX10_keeps) := goodIn_app (goodIn_of _ (by decide +kernel)) ggX10_tick_X10_keeps
set_option maxRecDepth 20000 in
theorem ggX10_tick_X10_ticks : GoodIn wsX10_tick wsX10_ticks := goodIn_r _ [23, 16, 24, 25, 26, 4, 27, 28, 29, 30, 31, 32, 33, 34, 35, 36, 37, 38, 39, 40, 41, 42, 43, 44, 45, 46, 47, 48, 49, 50, 51, 52, 53, 54, 55, 56, 57, 58, 59, 60, 61, 62] (by decide +kernel) (by decide +kernel)
set_option maxRecDepth 20000 in
theorem gX10_tick_X10_ticks : GoodIn wsX10_tick (wsV RX10 295 RX10 yX10_ticks wsX10_ticks) := goodIn_app (goodIn_of _ (by decide +kernel)) ggX10_tick_X10_ticks
set_option maxRecDepth 20000 in
theorem ggX10_pay_X10_noUser : GoodIn wsX10_pay wsX10_noUser := goodIn_r _ [6, 7, 1, 8, 9, 10, 5, 11, 12, 13, 14, 15, 16, 17, 18, 28, 29, 30, 31, 32, 33, 34, 35, 36, 37, 38, 39, 40, 41, 42, 43, 44, 45, 46, 47, 48, 49, 50, 51, 52, 53, 54] (by decide +kernel) (by decide +kernel)
set_option maxRecDepth 20000 in
theorem gX10_pay_X10_noUser : GoodIn wsX10_pay (wsV RX10 262 RX10 yX10_noUser wsX10_noUser) := goodIn_app (goodIn_of _ (by decide +kernel)) ggX10_pay_X10_noUser
set_option maxRecDepth 20000 in
theorem ggX10_pay_X10_no : GoodIn wsX10_pay wsX10_no := goodIn_r _ [11, 12, 13, 5, 14, 15, 16, 17, 18, 7, 28, 29, 30, 31, 32, 33, 34, 35, 36, 37, 38, 39, 40, 41, 42, 43, 44, 45, 46, 47, 48, 49, 50, 51, 52, 53, 54] (by decide +kernel) (by decide +kernel)
set_option maxRecDepth 20000 in
theorem gX10_pay_X10_no : GoodIn wsX10_pay (wsV RX10 259 RX10 yX10_no wsX10_no) := goodIn_app (goodIn_of _ (by decide +kernel)) ggX10_pay_X10_no
set_option maxRecDepth 20000 in
theorem ggX10_pay_X10_within : GoodIn wsX10_pay wsX10_within := goodIn_r _ [14] (by decide +kernel) (by decide +kernel)
set_option maxRecDepth 20000 in
theorem gX10_pay_X10_within : GoodIn wsX10_pay (va_wsS RX10 88 yX10_within wsX10_within) := goodIn_app (goodIn_of _ (by decide +kernel)) ggX10_pay_X10_within
set_option maxRecDepth 20000 in
theorem ggX10_pay_X10_throwsIf : GoodIn wsX10_pay wsX10_throwsIf := goodIn_r _ [18, 7, 28, 29, 30, 31, 32, 33, 34, 35, 36, 37, 38, 39, 40, 41, 42, 43, 44, 45, 46, 47, 48, 49, 50, 51, 52, 53, 54] (by decide +kernel) (by decide +kernel)
set_option maxRecDepth 20000 in
theorem gX10_pay_X10_throwsIf : GoodIn wsX10_pay (wsV RX10 186 RX10 yX10_throwsIf wsX10_throwsIf) := goodIn_app (goodIn_of _ (by decide +kernel)) ggX10_pay_X10_throwsIf
set_option maxRecDepth 20000 in
theorem ggX10_pay_X10_keeps : GoodIn wsX10_pay wsX10_keeps := goodIn_r _ [22, 23, 24, 1, 25, 26, 5, 27, 28, 29, 30, 31, 32, 33, 34, 35, 36, 37, 38, 39, 40, 41, 42, 43, 44, 45, 46, 47, 48, 49, 50, 51, 52, 53, 54] (by decide +kernel) (by decide +kernel)
set_option maxRecDepth 20000 in
theorem gX10_pay_X10_keeps : GoodIn wsX10_pay (wsV RX10 289 RX10 yX10_keeps wsX10_keeps) := goodIn_app (goodIn_of _ (by decide +kernel)) ggX10_pay_X10_keeps
set_option maxRecDepth 20000 in
theorem ggX10_keeps_X10_copies : GoodIn wsX10_keeps wsX10_copies := goodIn_r _ [7] (by decide +kernel) (by decide +kernel)
set_option maxRecDepth 20000 in
theorem gX10_keeps_X10_copies : GoodIn wsX10_keeps (va_wsS RX10 298 yX10_copies wsX10_copies) := goodIn_app (goodIn_of _ (by decide +kernel)) ggX10_keeps_X10_copies
set_option maxRecDepth 20000 in
theorem ggX10_undo_X10_copies : GoodIn wsX10_undo wsX10_copies := goodIn_r _ [8] (by decide +kernel) (by decide +kernel)
set_option maxRecDepth 20000 in
theorem gX10_undo_X10_copies : GoodIn wsX10_undo (va_wsS RX10 298 yX10_copies wsX10_copies) := goodIn_app (goodIn_of _ (by decide +kernel)) ggX10_undo_X10_copies
set_option maxRecDepth 20000 in
theorem ggX10_noSlot_X10_no : GoodIn wsX10_noSlot wsX10_no := goodIn_r _ [6, 7, 8, 5, 9, 10, 11, 12, 13, 1, 14, 15, 16, 17, 18, 19, 20, 21, 22, 23, 24, 25, 26, 27, 28, 29, 30, 31, 32, 33, 34, 35, 36, 37, 38, 39, 40] (by decide +kernel) (by decide +kernel)
set_option maxRecDepth 20000 in
theorem gX10_noSlot_X10_no : GoodIn wsX10_noSlot (wsV RX10 259 RX10 yX10_no wsX10_no) := goodIn_app (goodIn_of _ (by decide +kernel)) ggX10_noSlot_X10_no
set_option maxRecDepth 20000 in
theorem ggX10_saveSnapshot_X10_noSlot : GoodIn wsX10_saveSnapshot wsX10_noSlot := goodIn_r _ [8, 9, 10, 11, 12, 7, 13, 14, 15, 16, 17, 18, 19, 20, 24, 25, 26, 27, 28, 29, 30, 31, 32, 33, 34, 35, 36, 37, 38, 39, 40, 41, 42, 43, 44, 45, 46, 47, 48, 49, 50] (by decide +kernel) (by decide +kernel)
set_option maxRecDepth 20000 in
theorem gX10_saveSnapshot_X10_noSlot : GoodIn wsX10_saveSnapshot (wsV RX10 302 RX10 yX10_noSlot wsX10_noSlot) := goodIn_app (goodIn_of _ (by decide +kernel)) ggX10_saveSnapshot_X10_noSlot
set_option maxRecDepth 20000 in
theorem ggX10_saveSnapshot_X10_copies : GoodIn wsX10_saveSnapshot wsX10_copies := goodIn_r _ [23] (by decide +kernel) (by decide +kernel)
set_option maxRecDepth 20000 in
theorem gX10_saveSnapshot_X10_copies : GoodIn wsX10_saveSnapshot (va_wsS RX10 298 yX10_copies wsX10_copies) := goodIn_app (goodIn_of _ (by decide +kernel)) ggX10_saveSnapshot_X10_copies
set_option maxRecDepth 20000 in
theorem ggX10_restoreSnapshot_X10_noSlot : GoodIn wsX10_restoreSnapshot wsX10_noSlot := goodIn_r _ [9, 10, 11, 12, 13, 8, 14, 15, 16, 17, 18, 19, 20, 21, 25, 26, 27, 28, 29, 30, 31, 32, 33, 34, 35, 36, 37, 38, 39, 40, 41, 42, 43, 44, 45, 46, 47, 48, 49, 50, 51] (by decide +kernel) (by decide +kernel)
set_option maxRecDepth 20000 in
theorem gX10_restoreSnapshot_X10_noSlot : GoodIn wsX10_restoreSnapshot (wsV RX10 302 RX10 yX10_noSlot wsX10_noSlot) := goodIn_app (goodIn_of _ (by decide +kernel)) ggX10_restoreSnapshot_X10_noSlot
set_option maxRecDepth 20000 in
theorem ggX10_restoreSnapshot_X10_throwsIf : GoodIn wsX10_restoreSnapshot wsX10_throwsIf := goodIn_r _ [21, 10, 25, 26, 27, 28, 29, 30, 31, 32, 33, 34, 35, 36, 37, 38, 39, 40, 41, 42, 43, 44, 45, 46, 47, 48, 49, 50, 51] (by decide +kernel) (by decide +kernel)
set_option maxRecDepth 20000 in
theorem gX10_restoreSnapshot_X10_throwsIf : GoodIn wsX10_restoreSnapshot (wsV RX10 186 RX10 yX10_throwsIf wsX10_throwsIf) := goodIn_app (goodIn_of _ (by decide +kernel)) ggX10_restoreSnapshot_X10_throwsIf
set_option maxRecDepth 20000 in
theorem ggX10_restoreSnapshot_X10_copies : GoodIn wsX10_restoreSnapshot wsX10_copies := goodIn_r _ [24] (by decide +kernel) (by decide +kernel)
set_option maxRecDepth 20000 in
theorem gX10_restoreSnapshot_X10_copies : GoodIn wsX10_restoreSnapshot (va_wsS RX10 298 yX10_copies wsX10_copies) := goodIn_app (goodIn_of _ (by decide +kernel)) ggX10_restoreSnapshot_X10_copies
