set_option maxRecDepth 20000 in
theorem ggX5_init_X1_init : GoodIn wsX5_init wsX1_init := goodIn_r _ [24, 25, 2, 3, 26, 27, 28, 29, 30, 31, 32, 33, 34, 35, 36, 37, 38, 39, 40, 41, 42, 43, 44, 45, 46, 47, 48, 49, 50, 51, 52, 53, 54, 55, 56, 57, 58, 59, 60, 61, 62, 63, 64, 65, 66, 67, 84, 85, 86, 87, 88, 89, 90, 91, 115, 116, 117, 118, 119, 120, 121, 122, 123, 124, 125, 126, 127, 128] (by decide +kernel) (by decide +kernel)
set_option maxRecDepth 20000 in
theorem gX5_init_X1_init : GoodIn wsX5_init (wsX1_init) := ggX5_init_X1_init
set_option maxRecDepth 20000 in
theorem ggX5_init_X2_init : GoodIn wsX5_init wsX2_init := goodIn_r _ [69, 70, 2, 3, 71, 48, 72, 73, 74, 75, 76, 77, 78, 26, 79, 80, 81, 82, 83, 103, 104, 105, 106, 107, 108, 109, 110, 111, 112, 113, 114] (by decide +kernel) (by decide +kernel)
set_option maxRecDepth 20000 in
theorem gX5_init_X2_init_n24 : GoodIn wsX5_init (wsX2_init) := ggX5_init_X2_init
theorem dX5_init_0 : decode cX5_init 0 = .ok (.aload_n 0, 1) := by decide +kernel
theorem dX5_init_1 : decode cX5_init 1 = .ok (.invokespecial 3, 3) := by decide +kernel
theorem dX5_init_4 : decode cX5_init 4 = .ok (.aload_n 0, 1) := by decide +kernel
theorem dX5_init_5 : decode cX5_init 5 = .ok (.new 9, 3) := by decide +kernel
theorem dX5_init_8 : decode cX5_init 8 = .ok (.dup, 1) := by decide +kernel
theorem dX5_init_9 : decode cX5_init 9 = .ok (.invokespecial 11, 3) := by decide +kernel
theorem dX5_init_12 : decode cX5_init 12 = .ok (.putfield 12, 3) := by decide +kernel
theorem dX5_init_15 : decode cX5_init 15 = .ok (.aload_n 0, 1) := by decide +kernel
theorem dX5_init_16 : decode cX5_init 16 = .ok (.iconst (-1), 1) := by decide +kernel
theorem dX5_init_17 : decode cX5_init 17 = .ok (.putfield 18, 3) := by decide +kernel
theorem dX5_init_20 : decode cX5_init 20 = .ok (.aload_n 0, 1) := by decide +kernel
theorem dX5_init_21 : decode cX5_init 21 = .ok (.new 22, 3) := by decide +kernel
theorem dX5_init_24 : decode cX5_init 24 = .ok (.dup, 1) := by decide +kernel
theorem dX5_init_25 : decode cX5_init 25 = .ok (.invokespecial 24, 3) := by decide +kernel
theorem dX5_init_28 : decode cX5_init 28 = .ok (.putfield 25, 3) := by decide +kernel
theorem dX5_init_31 : decode cX5_init 31 = .ok (.aload_n 0, 1) := by decide +kernel
theorem dX5_init_32 : decode cX5_init 32 = .ok (.sipush 600, 3) := by decide +kernel
theorem dX5_init_35 : decode cX5_init 35 = .ok (.newarray .byte, 2) := by decide +kernel
theorem dX5_init_37 : decode cX5_init 37 = .ok (.putfield 29, 3) := by decide +kernel
theorem dX5_init_40 : decode cX5_init 40 = .ok (.aload_n 0, 1) := by decide +kernel
theorem dX5_init_41 : decode cX5_init 41 = .ok (.iconst 0, 1) := by decide +kernel
theorem dX5_init_42 : decode cX5_init 42 = .ok (.putfield 33, 3) := by decide +kernel
theorem dX5_init_45 : decode cX5_init 45 = .ok (.aload_n 0, 1) := by decide +kernel
theorem dX5_init_46 : decode cX5_init 46 = .ok (.iconst 0, 1) := by decide +kernel
theorem dX5_init_47 : decode cX5_init 47 = .ok (.putfield 36, 3) := by decide +kernel
theorem dX5_init_50 : decode cX5_init 50 = .ok (.aload_n 0, 1) := by decide +kernel
theorem dX5_init_51 : decode cX5_init 51 = .ok (.iconst 0, 1) := by decide +kernel
theorem dX5_init_52 : decode cX5_init 52 = .ok (.putfield 39, 3) := by decide +kernel
theorem dX5_init_55 : decode cX5_init 55 = .ok (.aload_n 0, 1) := by decide +kernel
theorem dX5_init_56 : decode cX5_init 56 = .ok (.iconst 0, 1) := by decide +kernel
theorem dX5_init_57 : decode cX5_init 57 = .ok (.putfield 42, 3) := by decide +kernel
theorem dX5_init_60 : decode cX5_init 60 = .ok (.aload_n 0, 1) := by decide +kernel
theorem dX5_init_61 : decode cX5_init 61 = .ok (.iconst 0, 1) := by decide +kernel
theorem dX5_init_62 : decode cX5_init 62 = .ok (.putfield 45, 3) := by decide +kernel
theorem dX5_init_65 : decode cX5_init 65 = .ok (.aload_n 0, 1) := by decide +kernel
theorem dX5_init_66 : decode cX5_init 66 = .ok (.lconst 0, 1) := by decide +kernel
theorem dX5_init_67 : decode cX5_init 67 = .ok (.putfield 48, 3) := by decide +kernel
theorem dX5_init_70 : decode cX5_init 70 = .ok (.aload_n 0, 1) := by decide +kernel
theorem dX5_init_71 : decode cX5_init 71 = .ok (.iconst 0, 1) := by decide +kernel
theorem dX5_init_72 : decode cX5_init 72 = .ok (.putfield 52, 3) := by decide +kernel
theorem dX5_init_75 : decode cX5_init 75 = .ok (.return_, 1) := by decide +kernel
set_option maxRecDepth 20000 in
theorem ggX5_readText_X1_clear : GoodIn wsX5_readText wsX1_clear := goodIn_r _ [20, 21, 22, 23, 24, 25, 26, 27, 28, 29, 30, 31, 32, 33, 34, 317, 318, 319, 320, 321, 322, 323, 324, 325, 326, 327, 328, 329, 330, 331, 332, 333, 334, 335, 336, 337, 338] (by decide +kernel) (by decide +kernel)
set_option maxRecDepth 20000 in
theorem gX5_readText_X1_clear : GoodIn wsX5_readText (wsV RX5 67 RX1 yX1_clear wsX1_clear) := goodIn_app (goodIn_of _ (by decide +kernel)) ggX5_readText_X1_clear
set_option maxRecDepth 20000 in
theorem ggX5_readText_X5_readHeader : GoodIn wsX5_readText wsX5_readHeader := goodIn_r _ [39, 15, 40, 14, 41, 42, 43, 44, 45, 38, 46, 11, 5, 6, 47, 48, 49, 50, 51, 52, 53, 54, 55, 56, 57, 58, 59, 60, 61, 62, 63, 64, 65, 66, 67, 68, 69, 70, 71, 72, 73, 74, 75, 76, 77, 78, 79, 80, 81, 82, 83, 84, 85, 86, 87, 88, 89, 90, 91, 92, 93, 94, 95, 96, 97, 98, 99, 100, 101, 102, 103, 104, 105, 106, 107, 108, 109, 110, 111, 112, 113, 114, 115, 116, 117, 118, 119, 120, 12, 13, 121, 122, 123, 124, 125, 126, 127, 128, 306, 307, 308, 309, 310, 311, 312, 313, 314, 315, 316, 317, 318, 319, 320, 321, 322, 323, 324, 339, 340, 341, 342] (by decide +kernel) (by decide +kernel)
set_option maxRecDepth 20000 in
theorem gX5_readText_X5_readHeader : GoodIn wsX5_readText (wsV RX5 70 RX5 yX5_readHeader wsX5_readHeader) := goodIn_app (goodIn_of _ (by decide +kernel)) ggX5_readText_X5_readHeader
set_option maxRecDepth 20000 in
theorem ggX5_readText_X5_readToken : GoodIn wsX5_readText wsX5_readToken := goodIn_r _ [46, 11, 5, 6, 47, 15, 40, 42, 48, 49, 38, 50, 51, 52, 53, 54, 55, 56, 57, 58, 306, 307, 308, 309, 310, 311, 312, 313, 314, 315, 316] (by decide +kernel) (by decide +kernel)
set_option maxRecDepth 20000 in
theorem gX5_readText_X5_readToken : GoodIn wsX5_readText (wsV RX5 74 RX5 yX5_readToken wsX5_readToken) := goodIn_app (goodIn_of _ (by decide +kernel)) ggX5_readText_X5_readToken
set_option maxRecDepth 20000 in
theorem ggX5_readText_X5_readStatement : GoodIn wsX5_readText wsX5_readStatement := goodIn_r _ [132, 15, 40, 59, 60, 53, 61, 62, 63, 64, 65, 66, 67, 68, 69, 70, 71, 72, 73, 74, 75, 76, 77, 78, 79, 80, 81, 82, 83, 84, 85, 86, 87, 88, 89, 90, 91, 92, 93, 94, 95, 96, 97, 98, 99, 100, 101, 102, 103, 104, 105, 106, 107, 108, 109, 110, 111, 112, 113, 114, 115, 116, 133, 134, 135, 38, 136, 14, 137, 42, 138, 139, 140, 141, 142, 143, 117, 118, 119, 120, 12, 47, 13, 144, 145, 146, 147, 43, 44, 45, 46, 11, 5, 6, 48, 49, 50, 51, 52, 54, 55, 56, 57, 58, 148, 149, 150, 151, 152, 121, 122, 123, 124, 153, 154, 155, 156, 157, 125, 126, 127, 128, 158, 159, 160, 161, 162, 163, 164, 165, 166, 167, 168, 169, 170, 171, 172, 173, 174, 175, 176, 177, 178, 179, 180, 181, 182, 183, 184, 185, 186, 187, 188, 189, 190, 191, 192, 193, 194, 195, 196, 197, 198, 199, 200, 201, 202, 203, 204, 205, 206, 207, 208, 209, 210, 211, 212, 213, 19, 214, 215, 216, 217, 218, 219, 220, 2, 3, 4, 221, 222, 223, 224, 225, 226, 227, 228, 229, 230, 231, 232, 233, 234, 235, 236, 237, 238, 239, 240, 241, 242, 243, 244, 245, 246, 247, 248, 249, 250, 251, 252, 253, 254, 255, 256, 257, 258, 259, 26, 24, 25, 260, 22, 261, 262, 263, 264, 265, 266, 267, 268, 269, 270, 271, 272, 273, 274, 275, 276, 277, 30, 21, 278, 279, 280, 281, 282, 283, 284, 285, 286, 287, 288, 289, 29, 28, 290, 291, 292, 293, 294, 295, 296, 297, 298, 299, 300, 301, 302, 303, 304, 305, 306, 307, 308, 309, 310, 311, 312, 313, 314, 315, 316, 339, 340, 341, 342, 317, 318, 319, 320, 321, 322, 323, 324, 325, 326, 327, 328, 329, 330, 331, 332, 333, 334, 335, 336, 337, 338, 343, 344, 345, 346, 347, 348, 349, 350, 351, 352, 353, 354] (by decide +kernel) (by decide +kernel)
set_option maxRecDepth 20000 in
theorem gX5_readText_X5_readStatement : GoodIn wsX5_readText (wsV RX5 77 RX5 yX5_readStatement wsX5_readStatement) := goodIn_app (goodIn_of _ (by decide +kernel)) ggX5_readText_X5_readStatement
theorem dX5_readText_0 : decode cX5_readText 0 = .ok (.aload_n 0, 1) := by decide +kernel
theorem dX5_readText_1 : decode cX5_readText 1 = .ok (.iload_n 2, 1) := by decide +kernel
theorem dX5_readText_2 : decode cX5_readText 2 = .ok (.aload_n 1, 1) := by decide +kernel
theorem dX5_readText_3 : decode cX5_readText 3 = .ok (.arraylength, 1) := by decide +kernel
theorem dX5_readText_4 : decode cX5_readText 4 = .ok (.sipush 600, 3) := by decide +kernel
theorem dX5_readText_7 : decode cX5_readText 7 = .ok (.invokestatic 55, 3) := by decide +kernel
theorem dX5_readText_10 : decode cX5_readText 10 = .ok (.invokestatic 55, 3) := by decide +kernel
theorem dX5_readText_13 : decode cX5_readText 13 = .ok (.putfield 33, 3) := by decide +kernel
theorem dX5_readText_16 : decode cX5_readText 16 = .ok (.aload_n 1, 1) := by decide +kernel
theorem dX5_readText_17 : decode cX5_readText 17 = .ok (.iconst 0, 1) := by decide +kernel
theorem dX5_readText_18 : decode cX5_readText 18 = .ok (.aload_n 0, 1) := by decide +kernel
theorem dX5_readText_19 : decode cX5_readText 19 = .ok (.getfield 29, 3) := by decide +kernel
theorem dX5_readText_22 : decode cX5_readText 22 = .ok (.iconst 0, 1) := by decide +kernel
theorem dX5_readText_23 : decode cX5_readText 23 = .ok (.aload_n 0, 1) := by decide +kernel
theorem dX5_readText_24 : decode cX5_readText 24 = .ok (.getfield 33, 3) := by decide +kernel
theorem dX5_readText_27 : decode cX5_readText 27 = .ok (.invokestatic 61, 3) := by decide +kernel
theorem dX5_readText_30 : decode cX5_readText 30 = .ok (.aload_n 0, 1) := by decide +kernel
theorem dX5_readText_31 : decode cX5_readText 31 = .ok (.iconst 0, 1) := by decide +kernel
theorem dX5_readText_32 : decode cX5_readText 32 = .ok (.putfield 36, 3) := by decide +kernel
theorem dX5_readText_35 : decode cX5_readText 35 = .ok (.aload_n 0, 1) := by decide +kernel
theorem dX5_readText_36 : decode cX5_readText 36 = .ok (.iconst 0, 1) := by decide +kernel
theorem dX5_readText_37 : decode cX5_readText 37 = .ok (.putfield 39, 3) := by decide +kernel
theorem dX5_readText_40 : decode cX5_readText 40 = .ok (.aload_n 0, 1) := by decide +kernel
theorem dX5_readText_41 : decode cX5_readText 41 = .ok (.iconst (-1), 1) := by decide +kernel
theorem dX5_readText_42 : decode cX5_readText 42 = .ok (.putfield 18, 3) := by decide +kernel
theorem dX5_readText_45 : decode cX5_readText 45 = .ok (.aload_n 0, 1) := by decide +kernel
theorem dX5_readText_46 : decode cX5_readText 46 = .ok (.getfield 12, 3) := by decide +kernel
theorem dX5_readText_49 : decode cX5_readText 49 = .ok (.invokevirtual 67, 3) := by decide +kernel
theorem dX5_readText_52 : decode cX5_readText 52 = .ok (.aload_n 0, 1) := by decide +kernel
theorem dX5_readText_53 : decode cX5_readText 53 = .ok (.invokevirtual 70, 3) := by decide +kernel
theorem dX5_readText_56 : decode cX5_readText 56 = .ok (.istore_n 3, 1) := by decide +kernel
theorem dX5_readText_57 : decode cX5_readText 57 = .ok (.iconst 0, 1) := by decide +kernel
theorem dX5_readText_58 : decode cX5_readText 58 = .ok (.istore 4, 2) := by decide +kernel
theorem dX5_readText_60 : decode cX5_readText 60 = .ok (.iload_n 3, 1) := by decide +kernel
theorem dX5_readText_61 : decode cX5_readText 61 = .ok (.ifCond .eq 36, 3) := by decide +kernel
theorem dX5_readText_64 : decode cX5_readText 64 = .ok (.iload 4, 2) := by decide +kernel
theorem dX5_readText_66 : decode cX5_readText 66 = .ok (.aload_n 0, 1) := by decide +kernel
theorem dX5_readText_67 : decode cX5_readText 67 = .ok (.getfield 33, 3) := by decide +kernel
theorem dX5_readText_70 : decode cX5_readText 70 = .ok (.if_icmp .gt 27, 3) := by decide +kernel
theorem dX5_readText_73 : decode cX5_readText 73 = .ok (.aload_n 0, 1) := by decide +kernel
theorem dX5_readText_74 : decode cX5_readText 74 = .ok (.invokevirtual 74, 3) := by decide +kernel
theorem dX5_readText_77 : decode cX5_readText 77 = .ok (.aload_n 0, 1) := by decide +kernel
theorem dX5_readText_78 : decode cX5_readText 78 = .ok (.getfield 42, 3) := by decide +kernel
theorem dX5_readText_81 : decode cX5_readText 81 = .ok (.ifCond .ne 5, 3) := by decide +kernel
theorem dX5_readText_84 : decode cX5_readText 84 = .ok (.iconst 0, 1) := by decide +kernel
theorem dX5_readText_85 : decode cX5_readText 85 = .ok (.ireturn, 1) := by decide +kernel
theorem dX5_readText_86 : decode cX5_readText 86 = .ok (.aload_n 0, 1) := by decide +kernel
theorem dX5_readText_87 : decode cX5_readText 87 = .ok (.invokevirtual 77, 3) := by decide +kernel
theorem dX5_readText_90 : decode cX5_readText 90 = .ok (.istore_n 3, 1) := by decide +kernel
theorem dX5_readText_91 : decode cX5_readText 91 = .ok (.iinc 4 1, 3) := by decide +kernel
theorem dX5_readText_94 : decode cX5_readText 94 = .ok (.goto (-34), 3) := by decide +kernel
theorem dX5_readText_97 : decode cX5_readText 97 = .ok (.aload_n 0, 1) := by decide +kernel
theorem dX5_readText_98 : decode cX5_readText 98 = .ok (.getfield 39, 3) := by decide +kernel
theorem dX5_readText_101 : decode cX5_readText 101 = .ok (.ireturn, 1) := by decide +kernel
set_option maxRecDepth 20000 in
theorem ggX5_readHeader_X5_readToken : GoodIn wsX5_readHeader wsX5_readToken := goodIn_r _ [10, 11, 12, 13, 14, 1, 2, 5, 15, 16, 9, 17, 18, 19, 20, 21, 22, 23, 24, 25, 98, 99, 100, 101, 102, 103, 104, 105, 106, 107, 108] (by decide +kernel) (by decide +kernel)
set_option maxRecDepth 20000 in
theorem gX5_readHeader_X5_readToken : GoodIn wsX5_readHeader (wsV RX5 74 RX5 yX5_readToken wsX5_readToken) := goodIn_app (goodIn_of _ (by decide +kernel)) ggX5_readHeader_X5_readToken
set_option maxRecDepth 20000 in
theorem ggX5_readHeader_X4_spell : GoodIn wsX5_readHeader wsX4_spell := goodIn_r _ [28, 29, 30, 31, 32, 33, 34, 35, 36, 37, 38, 39, 40, 41, 42, 20, 43, 44, 45, 46, 47, 48, 49, 50, 51, 52, 53, 54, 55, 56, 57, 58, 59, 60, 61, 62, 63, 64, 65, 66, 67, 68, 69, 70, 71, 72, 73, 74, 75, 76, 77, 78, 79, 80, 81, 82, 83, 117, 118, 119, 120] (by decide +kernel) (by decide +kernel)
set_option maxRecDepth 20000 in
theorem gX5_readHeader_X4_spell : GoodIn wsX5_readHeader (va_wsS RX5 82 yX4_spell wsX4_spell) := goodIn_app (goodIn_of _ (by decide +kernel)) ggX5_readHeader_X4_spell
set_option maxRecDepth 20000 in
theorem ggX5_readHeader_X5_fail : GoodIn wsX5_readHeader wsX5_fail := goodIn_r _ [87, 88, 14, 89, 98, 99, 100, 101, 102, 103, 104, 105, 106, 107, 108] (by decide +kernel) (by decide +kernel)
set_option maxRecDepth 20000 in
theorem gX5_readHeader_X5_fail : GoodIn wsX5_readHeader (wsV RX5 88 RX5 yX5_fail wsX5_fail) := goodIn_app (goodIn_of _ (by decide +kernel)) ggX5_readHeader_X5_fail
set_option maxRecDepth 20000 in
theorem ggX5_readHeader_X5_readNumber : GoodIn wsX5_readHeader wsX5_readNumber := goodIn_r _ [93, 1, 5, 6, 7, 8, 9, 10, 11, 12, 13, 14, 2, 15, 16, 17, 18, 19, 20, 21, 22, 23, 24, 25, 84, 85, 86, 87, 88, 89, 98, 99, 100, 101, 102, 103, 104, 105, 106, 107, 108] (by decide +kernel) (by decide +kernel)
set_option maxRecDepth 20000 in
theorem gX5_readHeader_X5_readNumber : GoodIn wsX5_readHeader (wsV RX5 99 RX5 yX5_readNumber wsX5_readNumber) := goodIn_app (goodIn_of _ (by decide +kernel)) ggX5_readHeader_X5_readNumber
set_option maxRecDepth 20000 in
theorem ggX5_readHeader_X5_readSemicolon : GoodIn wsX5_readHeader wsX5_readSemicolon := goodIn_r _ [97, 1, 6, 7, 8, 9, 10, 11, 12, 13, 14, 2, 5, 15, 16, 17, 18, 19, 20, 21, 22, 23, 24, 25, 84, 85, 86, 87, 88, 89, 98, 99, 100, 101, 102, 103, 104, 105, 106, 107, 108] (by decide +kernel) (by decide +kernel)
set_option maxRecDepth 20000 in
theorem gX5_readHeader_X5_readSemicolon : GoodIn wsX5_readHeader (wsV RX5 106 RX5 yX5_readSemicolon wsX5_readSemicolon) := goodIn_app (goodIn_of _ (by decide +kernel)) ggX5_readHeader_X5_readSemicolon
theorem dX5_readHeader_0 : decode cX5_readHeader 0 = .ok (.aload_n 0, 1) := by decide +kernel
theorem dX5_readHeader_1 : decode cX5_readHeader 1 = .ok (.invokevirtual 74, 3) := by decide +kernel
theorem dX5_readHeader_4 : decode cX5_readHeader 4 = .ok (.aload_n 0, 1) := by decide +kernel
theorem dX5_readHeader_5 : decode cX5_readHeader 5 = .ok (.getfield 42, 3) := by decide +kernel
theorem dX5_readHeader_8 : decode cX5_readHeader 8 = .ok (.iconst 3, 1) := by decide +kernel
theorem dX5_readHeader_9 : decode cX5_readHeader 9 = .ok (.if_icmp .ne 15, 3) := by decide +kernel
theorem dX5_readHeader_12 : decode cX5_readHeader 12 = .ok (.aload_n 0, 1) := by decide +kernel
theorem dX5_readHeader_13 : decode cX5_readHeader 13 = .ok (.getfield 48, 3) := by decide +kernel
theorem dX5_readHeader_16 : decode cX5_readHeader 16 = .ok (.ldc 80, 2) := by decide +kernel
theorem dX5_readHeader_18 : decode cX5_readHeader 18 = .ok (.invokestatic 82, 3) := by decide +kernel
theorem dX5_readHeader_21 : decode cX5_readHeader 21 = .ok (.ifCond .ne 9, 3) := by decide +kernel
theorem dX5_readHeader_24 : decode cX5_readHeader 24 = .ok (.aload_n 0, 1) := by decide +kernel
theorem dX5_readHeader_25 : decode cX5_readHeader 25 = .ok (.iconst 1, 1) := by decide +kernel
theorem dX5_readHeader_26 : decode cX5_readHeader 26 = .ok (.invokevirtual 88, 3) := by decide +kernel
theorem dX5_readHeader_29 : decode cX5_readHeader 29 = .ok (.ireturn, 1) := by decide +kernel
theorem dX5_readHeader_30 : decode cX5_readHeader 30 = .ok (.iconst 0, 1) := by decide +kernel
theorem dX5_readHeader_31 : decode cX5_readHeader 31 = .ok (.istore_n 1, 1) := by decide +kernel
theorem dX5_readHeader_32 : decode cX5_readHeader 32 = .ok (.iload_n 1, 1) := by decide +kernel
theorem dX5_readHeader_33 : decode cX5_readHeader 33 = .ok (.iconst 5, 1) := by decide +kernel
theorem dX5_readHeader_34 : decode cX5_readHeader 34 = .ok (.if_icmp .ge 41, 3) := by decide +kernel
theorem dX5_readHeader_37 : decode cX5_readHeader 37 = .ok (.aload_n 0, 1) := by decide +kernel
theorem dX5_readHeader_38 : decode cX5_readHeader 38 = .ok (.getstatic 92, 3) := by decide +kernel
theorem dX5_readHeader_41 : decode cX5_readHeader 41 = .ok (.iload_n 1, 1) := by decide +kernel
theorem dX5_readHeader_42 : decode cX5_readHeader 42 = .ok (.iaload, 1) := by decide +kernel
theorem dX5_readHeader_43 : decode cX5_readHeader 43 = .ok (.getstatic 96, 3) := by decide +kernel
theorem dX5_readHeader_46 : decode cX5_readHeader 46 = .ok (.iload_n 1, 1) := by decide +kernel
theorem dX5_readHeader_47 : decode cX5_readHeader 47 = .ok (.iaload, 1) := by decide +kernel
theorem dX5_readHeader_48 : decode cX5_readHeader 48 = .ok (.invokevirtual 99, 3) := by decide +kernel
theorem dX5_readHeader_51 : decode cX5_readHeader 51 = .ok (.ifCond .ne 5, 3) := by decide +kernel
theorem dX5_readHeader_54 : decode cX5_readHeader 54 = .ok (.iconst 0, 1) := by decide +kernel
theorem dX5_readHeader_55 : decode cX5_readHeader 55 = .ok (.ireturn, 1) := by decide +kernel
theorem dX5_readHeader_56 : decode cX5_readHeader 56 = .ok (.aload_n 0, 1) := by decide +kernel
theorem dX5_readHeader_57 : decode cX5_readHeader 57 = .ok (.getfield 12, 3) := by decide +kernel
theorem dX5_readHeader_60 : decode cX5_readHeader 60 = .ok (.getfield 103, 3) := by decide +kernel
theorem dX5_readHeader_63 : decode cX5_readHeader 63 = .ok (.iload_n 1, 1) := by decide +kernel
theorem dX5_readHeader_64 : decode cX5_readHeader 64 = .ok (.aload_n 0, 1) := by decide +kernel
theorem dX5_readHeader_65 : decode cX5_readHeader 65 = .ok (.getfield 52, 3) := by decide +kernel
theorem dX5_readHeader_68 : decode cX5_readHeader 68 = .ok (.iastore, 1) := by decide +kernel
theorem dX5_readHeader_69 : decode cX5_readHeader 69 = .ok (.iinc 1 1, 3) := by decide +kernel
theorem dX5_readHeader_72 : decode cX5_readHeader 72 = .ok (.goto (-40), 3) := by decide +kernel
theorem dX5_readHeader_75 : decode cX5_readHeader 75 = .ok (.aload_n 0, 1) := by decide +kernel
theorem dX5_readHeader_76 : decode cX5_readHeader 76 = .ok (.invokevirtual 106, 3) := by decide +kernel
theorem dX5_readHeader_79 : decode cX5_readHeader 79 = .ok (.ireturn, 1) := by decide +kernel
set_option maxRecDepth 20000 in
theorem ggX5_readStatement_X4_spell : GoodIn wsX5_readStatement wsX4_spell := goodIn_r _ [6, 7, 8, 9, 10, 11, 12, 13, 14, 15, 16, 17, 18, 19, 20, 5, 21, 22, 23, 24, 25, 26, 27, 28, 29, 30, 31, 32, 33, 34, 35, 36, 37, 38, 39, 40, 41, 42, 43, 44, 45, 46, 47, 48, 49, 50, 51, 52, 53, 54, 55, 56, 57, 58, 59, 60, 61, 293, 294, 295, 296] (by decide +kernel) (by decide +kernel)
set_option maxRecDepth 20000 in
theorem gX5_readStatement_X4_spell : GoodIn wsX5_readStatement (va_wsS RX5 82 yX4_spell wsX4_spell) := goodIn_app (goodIn_of _ (by decide +kernel)) ggX5_readStatement_X4_spell
set_option maxRecDepth 20000 in
theorem ggX5_readStatement_X5_readUser : GoodIn wsX5_readStatement wsX5_readUser := goodIn_r _ [66, 67, 68, 2, 69, 70, 71, 72, 73, 74, 75, 76, 77, 78, 65, 79, 80, 81, 82, 83, 84, 85, 86, 1, 87, 88, 89, 90, 91, 92, 93, 94, 95, 96, 97, 98, 5, 99, 100, 101, 102, 103, 104, 105, 106, 107, 108, 109, 110, 111, 112, 113, 114, 115, 116, 117, 118, 119, 120, 121, 282, 283, 284, 285, 286, 287, 288, 289, 290, 291, 292, 297, 298, 299, 300, 301, 302, 303, 304, 305, 306, 307] (by decide +kernel) (by decide +kernel)
set_option maxRecDepth 20000 in
theorem gX5_readStatement_X5_readUser : GoodIn wsX5_readStatement (wsV RX5 111 RX5 yX5_readUser wsX5_readUser) := goodIn_app (goodIn_of _ (by decide +kernel)) ggX5_readStatement_X5_readUser
set_option maxRecDepth 20000 in
theorem ggX5_readStatement_X5_readPiece : GoodIn wsX5_readStatement wsX5_readPiece := goodIn_r _ [125, 67, 126, 2, 127, 128, 129, 130, 131, 132, 76, 77, 78, 65, 79, 80, 81, 82, 83, 84, 85, 86, 1, 87, 88, 89, 90, 91, 92, 93, 69, 94, 95, 96, 97, 98, 5, 99, 100, 101, 102, 103, 133, 134, 135, 136, 137, 138, 60, 61, 139, 140, 141, 142, 143, 144, 145, 146, 118, 119, 120, 121, 282, 283, 284, 285, 286, 287, 288, 289, 290, 291, 292, 297, 298, 299, 300, 301, 302, 303, 304, 308, 309, 310, 311, 312, 313] (by decide +kernel) (by decide +kernel)
set_option maxRecDepth 20000 in
theorem gX5_readStatement_X5_readPiece : GoodIn wsX5_readStatement (wsV RX5 116 RX5 yX5_readPiece wsX5_readPiece) := goodIn_app (goodIn_of _ (by decide +kernel)) ggX5_readStatement_X5_readPiece
set_option maxRecDepth 20000 in
theorem ggX5_readStatement_X5_readStoredWord : GoodIn wsX5_readStatement wsX5_readStoredWord := goodIn_r _ [150, 67, 151, 68, 2, 152, 153, 154, 155, 156, 157, 158, 76, 77, 78, 65, 79, 80, 81, 82, 83, 84, 85, 86, 1, 87, 88, 89, 90, 91, 92, 93, 69, 94, 95, 96, 97, 98, 5, 99, 100, 101, 102, 103, 104, 105, 106, 73, 107, 75, 108, 159, 160, 161, 162, 163, 164, 165, 166, 167, 168, 169, 170, 171, 172, 173, 174, 60, 61, 175, 176, 177, 178, 179, 180, 181, 182, 183, 184, 185, 186, 187, 188, 189, 190, 191, 192, 134, 135, 130, 136, 132, 137, 193, 194, 195, 196, 197, 198, 199, 200, 201, 202, 203, 204, 205, 206, 207, 208, 209, 210, 211, 212, 213, 214, 215, 216, 217, 218, 219, 220, 221, 222, 223, 224, 225, 226, 227, 228, 229, 230, 231, 232, 233, 234, 235, 236, 237, 117, 238, 239, 240, 241, 242, 243, 244, 245, 246, 247, 248, 249, 250, 251, 252, 253, 254, 255, 256, 257, 258, 259, 260, 261, 262, 263, 264, 265, 266, 267, 268, 269, 270, 271, 272, 140, 141, 142, 143, 144, 145, 146, 273, 274, 275, 276, 277, 278, 279, 280, 281, 118, 119, 120, 121, 282, 283, 284, 285, 286, 287, 288, 289, 290, 291, 292, 297, 298, 299, 300, 301, 302, 303, 304, 314, 315, 316, 317, 318, 305, 306, 307, 319, 320, 321, 322, 323, 324, 325, 326, 327, 328, 329, 330, 308, 309, 310, 311, 312, 313] (by decide +kernel) (by decide +kernel)
set_option maxRecDepth 20000 in
theorem gX5_readStatement_X5_readStoredWord : GoodIn wsX5_readStatement (wsV RX5 121 RX5 yX5_readStoredWord wsX5_readStoredWord) := goodIn_app (goodIn_of _ (by decide +kernel)) ggX5_readStatement_X5_readStoredWord
set_option maxRecDepth 20000 in
theorem ggX5_readStatement_X5_fail : GoodIn wsX5_readStatement wsX5_fail := goodIn_r _ [79, 80, 81, 82, 282, 283, 284, 285, 286, 287, 288, 289, 290, 291, 292] (by decide +kernel) (by decide +kernel)
set_option maxRecDepth 20000 in
theorem gX5_readStatement_X5_fail : GoodIn wsX5_readStatement (wsV RX5 88 RX5 yX5_fail wsX5_fail) := goodIn_app (goodIn_of _ (by decide +kernel)) ggX5_readStatement_X5_fail
theorem dX5_readStatement_0 : decode cX5_readStatement 0 = .ok (.aload_n 0, 1) := by decide +kernel
theorem dX5_readStatement_1 : decode cX5_readStatement 1 = .ok (.getfield 42, 3) := by decide +kernel
theorem dX5_readStatement_4 : decode cX5_readStatement 4 = .ok (.iconst 3, 1) := by decide +kernel
theorem dX5_readStatement_5 : decode cX5_readStatement 5 = .ok (.if_icmp .ne 20, 3) := by decide +kernel
theorem dX5_readStatement_8 : decode cX5_readStatement 8 = .ok (.aload_n 0, 1) := by decide +kernel
theorem dX5_readStatement_9 : decode cX5_readStatement 9 = .ok (.getfield 48, 3) := by decide +kernel
theorem dX5_readStatement_12 : decode cX5_readStatement 12 = .ok (.ldc 109, 2) := by decide +kernel
theorem dX5_readStatement_14 : decode cX5_readStatement 14 = .ok (.invokestatic 82, 3) := by decide +kernel
theorem dX5_readStatement_17 : decode cX5_readStatement 17 = .ok (.ifCond .eq 8, 3) := by decide +kernel
theorem dX5_readStatement_20 : decode cX5_readStatement 20 = .ok (.aload_n 0, 1) := by decide +kernel
theorem dX5_readStatement_21 : decode cX5_readStatement 21 = .ok (.invokevirtual 111, 3) := by decide +kernel
theorem dX5_readStatement_24 : decode cX5_readStatement 24 = .ok (.ireturn, 1) := by decide +kernel
theorem dX5_readStatement_25 : decode cX5_readStatement 25 = .ok (.aload_n 0, 1) := by decide +kernel
theorem dX5_readStatement_26 : decode cX5_readStatement 26 = .ok (.getfield 42, 3) := by decide +kernel
theorem dX5_readStatement_29 : decode cX5_readStatement 29 = .ok (.iconst 3, 1) := by decide +kernel
theorem dX5_readStatement_30 : decode cX5_readStatement 30 = .ok (.if_icmp .ne 20, 3) := by decide +kernel
theorem dX5_readStatement_33 : decode cX5_readStatement 33 = .ok (.aload_n 0, 1) := by decide +kernel
theorem dX5_readStatement_34 : decode cX5_readStatement 34 = .ok (.getfield 48, 3) := by decide +kernel
theorem dX5_readStatement_37 : decode cX5_readStatement 37 = .ok (.ldc 114, 2) := by decide +kernel
theorem dX5_readStatement_39 : decode cX5_readStatement 39 = .ok (.invokestatic 82, 3) := by decide +kernel
theorem dX5_readStatement_42 : decode cX5_readStatement 42 = .ok (.ifCond .eq 8, 3) := by decide +kernel
theorem dX5_readStatement_45 : decode cX5_readStatement 45 = .ok (.aload_n 0, 1) := by decide +kernel
theorem dX5_readStatement_46 : decode cX5_readStatement 46 = .ok (.invokevirtual 116, 3) := by decide +kernel
theorem dX5_readStatement_49 : decode cX5_readStatement 49 = .ok (.ireturn, 1) := by decide +kernel
theorem dX5_readStatement_50 : decode cX5_readStatement 50 = .ok (.aload_n 0, 1) := by decide +kernel
theorem dX5_readStatement_51 : decode cX5_readStatement 51 = .ok (.getfield 42, 3) := by decide +kernel
theorem dX5_readStatement_54 : decode cX5_readStatement 54 = .ok (.iconst 3, 1) := by decide +kernel
theorem dX5_readStatement_55 : decode cX5_readStatement 55 = .ok (.if_icmp .ne 20, 3) := by decide +kernel
theorem dX5_readStatement_58 : decode cX5_readStatement 58 = .ok (.aload_n 0, 1) := by decide +kernel
theorem dX5_readStatement_59 : decode cX5_readStatement 59 = .ok (.getfield 48, 3) := by decide +kernel
theorem dX5_readStatement_62 : decode cX5_readStatement 62 = .ok (.ldc 119, 2) := by decide +kernel
theorem dX5_readStatement_64 : decode cX5_readStatement 64 = .ok (.invokestatic 82, 3) := by decide +kernel
theorem dX5_readStatement_67 : decode cX5_readStatement 67 = .ok (.ifCond .eq 8, 3) := by decide +kernel
theorem dX5_readStatement_70 : decode cX5_readStatement 70 = .ok (.aload_n 0, 1) := by decide +kernel
theorem dX5_readStatement_71 : decode cX5_readStatement 71 = .ok (.invokevirtual 121, 3) := by decide +kernel
theorem dX5_readStatement_74 : decode cX5_readStatement 74 = .ok (.ireturn, 1) := by decide +kernel
theorem dX5_readStatement_75 : decode cX5_readStatement 75 = .ok (.aload_n 0, 1) := by decide +kernel
theorem dX5_readStatement_76 : decode cX5_readStatement 76 = .ok (.iconst 1, 1) := by decide +kernel
theorem dX5_readStatement_77 : decode cX5_readStatement 77 = .ok (.invokevirtual 88, 3) := by decide +kernel
theorem dX5_readStatement_80 : decode cX5_readStatement 80 = .ok (.ireturn, 1) := by decide +kernel
set_option maxRecDepth 20000 in
theorem ggX5_readUser_X7_isFull : GoodIn wsX5_readUser wsX7_isFull := goodIn_r _ [9, 10, 79, 80, 81] (by decide +kernel) (by decide +kernel)
set_option maxRecDepth 20000 in
theorem gX5_readUser_X7_isFull : GoodIn wsX5_readUser (wsV RX5 128 RX7 yX7_isFull wsX7_isFull) := goodIn_app (goodIn_of _ (by decide +kernel)) ggX5_readUser_X7_isFull
set_option maxRecDepth 20000 in
theorem ggX5_readUser_X5_fail : GoodIn wsX5_readUser wsX5_fail := goodIn_r _ [15, 16, 17, 18, 60, 61, 62, 63, 64, 65, 66, 67, 68, 69, 70] (by decide +kernel) (by decide +kernel)
set_option maxRecDepth 20000 in
theorem gX5_readUser_X5_fail : GoodIn wsX5_readUser (wsV RX5 88 RX5 yX5_fail wsX5_fail) := goodIn_app (goodIn_of _ (by decide +kernel)) ggX5_readUser_X5_fail
set_option maxRecDepth 20000 in
theorem ggX5_readUser_X5_readLetters : GoodIn wsX5_readUser wsX5_readLetters := goodIn_r _ [22, 23, 24, 25, 26, 14, 27, 28, 29, 30, 17, 3, 4, 31, 32, 33, 34, 35, 36, 37, 38, 39, 40, 41, 11, 12, 13, 15, 16, 18, 60, 61, 62, 63, 64, 65, 66, 67, 68, 69, 70] (by decide +kernel) (by decide +kernel)
set_option maxRecDepth 20000 in
theorem gX5_readUser_X5_readLetters : GoodIn wsX5_readUser (wsV RX5 133 RX5 yX5_readLetters wsX5_readLetters) := goodIn_app (goodIn_of _ (by decide +kernel)) ggX5_readUser_X5_readLetters
set_option maxRecDepth 20000 in
theorem ggX5_readUser_X7_numberOf : GoodIn wsX5_readUser wsX7_numberOf := goodIn_r _ [45, 10, 46, 79, 80, 81] (by decide +kernel) (by decide +kernel)
set_option maxRecDepth 20000 in
theorem gX5_readUser_X7_numberOf : GoodIn wsX5_readUser (wsV RX5 136 RX7 yX7_numberOf wsX7_numberOf) := goodIn_app (goodIn_of _ (by decide +kernel)) ggX5_readUser_X7_numberOf
set_option maxRecDepth 20000 in
theorem ggX5_readUser_X5_readNumber : GoodIn wsX5_readUser wsX5_readNumber := goodIn_r _ [50, 23, 4, 24, 25, 26, 14, 27, 28, 29, 30, 17, 3, 31, 32, 33, 34, 35, 36, 37, 38, 39, 40, 41, 11, 12, 13, 15, 16, 18, 60, 61, 62, 63, 64, 65, 66, 67, 68, 69, 70] (by decide +kernel) (by decide +kernel)
set_option maxRecDepth 20000 in
theorem gX5_readUser_X5_readNumber : GoodIn wsX5_readUser (wsV RX5 99 RX5 yX5_readNumber wsX5_readNumber) := goodIn_app (goodIn_of _ (by decide +kernel)) ggX5_readUser_X5_readNumber
set_option maxRecDepth 20000 in
theorem ggX5_readUser_X7_add : GoodIn wsX5_readUser wsX7_add := goodIn_r _ [54, 10, 46, 55, 79, 80, 81] (by decide +kernel) (by decide +kernel)
set_option maxRecDepth 20000 in
theorem gX5_readUser_X7_add : GoodIn wsX5_readUser (wsV RX5 140 RX7 yX7_add wsX7_add) := goodIn_app (goodIn_of _ (by decide +kernel)) ggX5_readUser_X7_add
set_option maxRecDepth 20000 in
theorem ggX5_readUser_X5_readSemicolon : GoodIn wsX5_readUser wsX5_readSemicolon := goodIn_r _ [59, 23, 24, 25, 26, 14, 27, 28, 29, 30, 17, 3, 4, 31, 32, 33, 34, 35, 36, 37, 38, 39, 40, 41, 11, 12, 13, 15, 16, 18, 60, 61, 62, 63, 64, 65, 66, 67, 68, 69, 70] (by decide +kernel) (by decide +kernel)
set_option maxRecDepth 20000 in
theorem gX5_readUser_X5_readSemicolon : GoodIn wsX5_readUser (wsV RX5 106 RX5 yX5_readSemicolon wsX5_readSemicolon) := goodIn_app (goodIn_of _ (by decide +kernel)) ggX5_readUser_X5_readSemicolon
theorem dX5_readUser_0 : decode cX5_readUser 0 = .ok (.aload_n 0, 1) := by decide +kernel
theorem dX5_readUser_1 : decode cX5_readUser 1 = .ok (.getfield 12, 3) := by decide +kernel
theorem dX5_readUser_4 : decode cX5_readUser 4 = .ok (.getfield 124, 3) := by decide +kernel
theorem dX5_readUser_7 : decode cX5_readUser 7 = .ok (.invokevirtual 128, 3) := by decide +kernel
theorem dX5_readUser_10 : decode cX5_readUser 10 = .ok (.ifCond .eq 9, 3) := by decide +kernel
theorem dX5_readUser_13 : decode cX5_readUser 13 = .ok (.aload_n 0, 1) := by decide +kernel
theorem dX5_readUser_14 : decode cX5_readUser 14 = .ok (.iconst 5, 1) := by decide +kernel
theorem dX5_readUser_15 : decode cX5_readUser 15 = .ok (.invokevirtual 88, 3) := by decide +kernel
theorem dX5_readUser_18 : decode cX5_readUser 18 = .ok (.ireturn, 1) := by decide +kernel
theorem dX5_readUser_19 : decode cX5_readUser 19 = .ok (.aload_n 0, 1) := by decide +kernel
theorem dX5_readUser_20 : decode cX5_readUser 20 = .ok (.invokevirtual 133, 3) := by decide +kernel
theorem dX5_readUser_23 : decode cX5_readUser 23 = .ok (.ifCond .ne 5, 3) := by decide +kernel
theorem dX5_readUser_26 : decode cX5_readUser 26 = .ok (.iconst 0, 1) := by decide +kernel
theorem dX5_readUser_27 : decode cX5_readUser 27 = .ok (.ireturn, 1) := by decide +kernel
theorem dX5_readUser_28 : decode cX5_readUser 28 = .ok (.aload_n 0, 1) := by decide +kernel
theorem dX5_readUser_29 : decode cX5_readUser 29 = .ok (.getfield 12, 3) := by decide +kernel
theorem dX5_readUser_32 : decode cX5_readUser 32 = .ok (.getfield 124, 3) := by decide +kernel
theorem dX5_readUser_35 : decode cX5_readUser 35 = .ok (.aload_n 0, 1) := by decide +kernel
theorem dX5_readUser_36 : decode cX5_readUser 36 = .ok (.getfield 48, 3) := by decide +kernel
theorem dX5_readUser_39 : decode cX5_readUser 39 = .ok (.invokevirtual 136, 3) := by decide +kernel
theorem dX5_readUser_42 : decode cX5_readUser 42 = .ok (.iconst (-1), 1) := by decide +kernel
theorem dX5_readUser_43 : decode cX5_readUser 43 = .ok (.if_icmp .eq 9, 3) := by decide +kernel
theorem dX5_readUser_46 : decode cX5_readUser 46 = .ok (.aload_n 0, 1) := by decide +kernel
theorem dX5_readUser_47 : decode cX5_readUser 47 = .ok (.iconst 2, 1) := by decide +kernel
theorem dX5_readUser_48 : decode cX5_readUser 48 = .ok (.invokevirtual 88, 3) := by decide +kernel
theorem dX5_readUser_51 : decode cX5_readUser 51 = .ok (.ireturn, 1) := by decide +kernel
theorem dX5_readUser_52 : decode cX5_readUser 52 = .ok (.aload_n 0, 1) := by decide +kernel
theorem dX5_readUser_53 : decode cX5_readUser 53 = .ok (.getfield 48, 3) := by decide +kernel
theorem dX5_readUser_56 : decode cX5_readUser 56 = .ok (.lstore_n 1, 1) := by decide +kernel
theorem dX5_readUser_57 : decode cX5_readUser 57 = .ok (.aload_n 0, 1) := by decide +kernel
theorem dX5_readUser_58 : decode cX5_readUser 58 = .ok (.iconst 0, 1) := by decide +kernel
theorem dX5_readUser_59 : decode cX5_readUser 59 = .ok (.sipush 9999, 3) := by decide +kernel
theorem dX5_readUser_62 : decode cX5_readUser 62 = .ok (.invokevirtual 99, 3) := by decide +kernel
theorem dX5_readUser_65 : decode cX5_readUser 65 = .ok (.ifCond .ne 5, 3) := by decide +kernel
theorem dX5_readUser_68 : decode cX5_readUser 68 = .ok (.iconst 0, 1) := by decide +kernel
theorem dX5_readUser_69 : decode cX5_readUser 69 = .ok (.ireturn, 1) := by decide +kernel
theorem dX5_readUser_70 : decode cX5_readUser 70 = .ok (.aload_n 0, 1) := by decide +kernel
theorem dX5_readUser_71 : decode cX5_readUser 71 = .ok (.getfield 12, 3) := by decide +kernel
theorem dX5_readUser_74 : decode cX5_readUser 74 = .ok (.getfield 124, 3) := by decide +kernel
theorem dX5_readUser_77 : decode cX5_readUser 77 = .ok (.lload_n 1, 1) := by decide +kernel
theorem dX5_readUser_78 : decode cX5_readUser 78 = .ok (.aload_n 0, 1) := by decide +kernel
theorem dX5_readUser_79 : decode cX5_readUser 79 = .ok (.getfield 52, 3) := by decide +kernel
theorem dX5_readUser_82 : decode cX5_readUser 82 = .ok (.invokevirtual 140, 3) := by decide +kernel
theorem dX5_readUser_85 : decode cX5_readUser 85 = .ok (.aload_n 0, 1) := by decide +kernel
theorem dX5_readUser_86 : decode cX5_readUser 86 = .ok (.invokevirtual 106, 3) := by decide +kernel
theorem dX5_readUser_89 : decode cX5_readUser 89 = .ok (.ireturn, 1) := by decide +kernel
set_option maxRecDepth 20000 in
theorem ggX5_readPiece_X6_isFull : GoodIn wsX5_readPiece wsX6_isFull := goodIn_r _ [8, 9, 81, 82, 83, 84, 85, 86] (by decide +kernel) (by decide +kernel)
set_option maxRecDepth 20000 in
theorem gX5_readPiece_X6_isFull : GoodIn wsX5_readPiece (wsV RX5 148 RX6 yX6_isFull wsX6_isFull) := goodIn_app (goodIn_of _ (by decide +kernel)) ggX5_readPiece_X6_isFull
set_option maxRecDepth 20000 in
theorem ggX5_readPiece_X5_fail : GoodIn wsX5_readPiece wsX5_fail := goodIn_r _ [14, 15, 16, 17, 62, 63, 64, 65, 66, 67, 68, 69, 70, 71, 72] (by decide +kernel) (by decide +kernel)
set_option maxRecDepth 20000 in
theorem gX5_readPiece_X5_fail : GoodIn wsX5_readPiece (wsV RX5 88 RX5 yX5_fail wsX5_fail) := goodIn_app (goodIn_of _ (by decide +kernel)) ggX5_readPiece_X5_fail
set_option maxRecDepth 20000 in
theorem ggX5_readPiece_X5_readLetters : GoodIn wsX5_readPiece wsX5_readLetters := goodIn_r _ [21, 22, 23, 24, 25, 13, 26, 27, 28, 29, 16, 3, 30, 31, 32, 33, 34, 35, 36, 37, 38, 39, 40, 41, 10, 11, 12, 14, 15, 17, 62, 63, 64, 65, 66, 67, 68, 69, 70, 71, 72] (by decide +kernel) (by decide +kernel)
set_option maxRecDepth 20000 in
theorem gX5_readPiece_X5_readLetters : GoodIn wsX5_readPiece (wsV RX5 133 RX5 yX5_readLetters wsX5_readLetters) := goodIn_app (goodIn_of _ (by decide +kernel)) ggX5_readPiece_X5_readLetters
set_option maxRecDepth 20000 in
theorem ggX5_readPiece_X6_numberOf : GoodIn wsX5_readPiece wsX6_numberOf := goodIn_r _ [45, 9, 46, 81, 82, 83, 84, 85, 86] (by decide +kernel) (by decide +kernel)
set_option maxRecDepth 20000 in
theorem gX5_readPiece_X6_numberOf : GoodIn wsX5_readPiece (wsV RX5 151 RX6 yX6_numberOf wsX6_numberOf) := goodIn_app (goodIn_of _ (by decide +kernel)) ggX5_readPiece_X6_numberOf
set_option maxRecDepth 20000 in
theorem ggX5_readPiece_X4_lengthOf : GoodIn wsX5_readPiece wsX4_lengthOf := goodIn_r _ [49] (by decide +kernel) (by decide +kernel)
set_option maxRecDepth 20000 in
theorem gX5_readPiece_X4_lengthOf : GoodIn wsX5_readPiece (va_wsS RX5 152 yX4_lengthOf wsX4_lengthOf) := goodIn_app (goodIn_of _ (by decide +kernel)) ggX5_readPiece_X4_lengthOf
set_option maxRecDepth 20000 in
theorem ggX5_readPiece_X6_add : GoodIn wsX5_readPiece wsX6_add := goodIn_r _ [53, 9, 46, 54, 55, 56, 57, 81, 82, 83, 84, 85, 86] (by decide +kernel) (by decide +kernel)
set_option maxRecDepth 20000 in
theorem gX5_readPiece_X6_add : GoodIn wsX5_readPiece (wsV RX5 155 RX6 yX6_add wsX6_add) := goodIn_app (goodIn_of _ (by decide +kernel)) ggX5_readPiece_X6_add
set_option maxRecDepth 20000 in
theorem ggX5_readPiece_X5_readSemicolon : GoodIn wsX5_readPiece wsX5_readSemicolon := goodIn_r _ [61, 22, 23, 24, 25, 13, 26, 27, 28, 29, 16, 3, 30, 31, 32, 33, 34, 35, 36, 37, 38, 39, 40, 41, 10, 11, 12, 14, 15, 17, 62, 63, 64, 65, 66, 67, 68, 69, 70, 71, 72] (by decide +kernel) (by decide +kernel)
set_option maxRecDepth 20000 in
theorem gX5_readPiece_X5_readSemicolon : GoodIn wsX5_readPiece (wsV RX5 106 RX5 yX5_readSemicolon wsX5_readSemicolon) := goodIn_app (goodIn_of _ (by decide +kernel)) ggX5_readPiece_X5_readSemicolon
theorem dX5_readPiece_0 : decode cX5_readPiece 0 = .ok (.aload_n 0, 1) := by decide +kernel
theorem dX5_readPiece_1 : decode cX5_readPiece 1 = .ok (.getfield 12, 3) := by decide +kernel
theorem dX5_readPiece_4 : decode cX5_readPiece 4 = .ok (.getfield 144, 3) := by decide +kernel
theorem dX5_readPiece_7 : decode cX5_readPiece 7 = .ok (.invokevirtual 148, 3) := by decide +kernel
theorem dX5_readPiece_10 : decode cX5_readPiece 10 = .ok (.ifCond .eq 9, 3) := by decide +kernel
theorem dX5_readPiece_13 : decode cX5_readPiece 13 = .ok (.aload_n 0, 1) := by decide +kernel
theorem dX5_readPiece_14 : decode cX5_readPiece 14 = .ok (.iconst 5, 1) := by decide +kernel
theorem dX5_readPiece_15 : decode cX5_readPiece 15 = .ok (.invokevirtual 88, 3) := by decide +kernel
theorem dX5_readPiece_18 : decode cX5_readPiece 18 = .ok (.ireturn, 1) := by decide +kernel
theorem dX5_readPiece_19 : decode cX5_readPiece 19 = .ok (.aload_n 0, 1) := by decide +kernel
theorem dX5_readPiece_20 : decode cX5_readPiece 20 = .ok (.invokevirtual 133, 3) := by decide +kernel
theorem dX5_readPiece_23 : decode cX5_readPiece 23 = .ok (.ifCond .ne 5, 3) := by decide +kernel
theorem dX5_readPiece_26 : decode cX5_readPiece 26 = .ok (.iconst 0, 1) := by decide +kernel
theorem dX5_readPiece_27 : decode cX5_readPiece 27 = .ok (.ireturn, 1) := by decide +kernel
theorem dX5_readPiece_28 : decode cX5_readPiece 28 = .ok (.aload_n 0, 1) := by decide +kernel
theorem dX5_readPiece_29 : decode cX5_readPiece 29 = .ok (.getfield 12, 3) := by decide +kernel
theorem dX5_readPiece_32 : decode cX5_readPiece 32 = .ok (.getfield 144, 3) := by decide +kernel
theorem dX5_readPiece_35 : decode cX5_readPiece 35 = .ok (.aload_n 0, 1) := by decide +kernel
theorem dX5_readPiece_36 : decode cX5_readPiece 36 = .ok (.getfield 48, 3) := by decide +kernel
theorem dX5_readPiece_39 : decode cX5_readPiece 39 = .ok (.invokevirtual 151, 3) := by decide +kernel
theorem dX5_readPiece_42 : decode cX5_readPiece 42 = .ok (.iconst (-1), 1) := by decide +kernel
theorem dX5_readPiece_43 : decode cX5_readPiece 43 = .ok (.if_icmp .eq 9, 3) := by decide +kernel
theorem dX5_readPiece_46 : decode cX5_readPiece 46 = .ok (.aload_n 0, 1) := by decide +kernel
theorem dX5_readPiece_47 : decode cX5_readPiece 47 = .ok (.iconst 2, 1) := by decide +kernel
theorem dX5_readPiece_48 : decode cX5_readPiece 48 = .ok (.invokevirtual 88, 3) := by decide +kernel
theorem dX5_readPiece_51 : decode cX5_readPiece 51 = .ok (.ireturn, 1) := by decide +kernel
theorem dX5_readPiece_52 : decode cX5_readPiece 52 = .ok (.aload_n 0, 1) := by decide +kernel
theorem dX5_readPiece_53 : decode cX5_readPiece 53 = .ok (.getfield 48, 3) := by decide +kernel
theorem dX5_readPiece_56 : decode cX5_readPiece 56 = .ok (.invokestatic 152, 3) := by decide +kernel
theorem dX5_readPiece_59 : decode cX5_readPiece 59 = .ok (.bipush 6, 2) := by decide +kernel
theorem dX5_readPiece_61 : decode cX5_readPiece 61 = .ok (.if_icmp .le 9, 3) := by decide +kernel
theorem dX5_readPiece_64 : decode cX5_readPiece 64 = .ok (.aload_n 0, 1) := by decide +kernel
theorem dX5_readPiece_65 : decode cX5_readPiece 65 = .ok (.iconst 3, 1) := by decide +kernel
theorem dX5_readPiece_66 : decode cX5_readPiece 66 = .ok (.invokevirtual 88, 3) := by decide +kernel
theorem dX5_readPiece_69 : decode cX5_readPiece 69 = .ok (.ireturn, 1) := by decide +kernel
theorem dX5_readPiece_70 : decode cX5_readPiece 70 = .ok (.aload_n 0, 1) := by decide +kernel
theorem dX5_readPiece_71 : decode cX5_readPiece 71 = .ok (.getfield 12, 3) := by decide +kernel
theorem dX5_readPiece_74 : decode cX5_readPiece 74 = .ok (.getfield 144, 3) := by decide +kernel
theorem dX5_readPiece_77 : decode cX5_readPiece 77 = .ok (.aload_n 0, 1) := by decide +kernel
theorem dX5_readPiece_78 : decode cX5_readPiece 78 = .ok (.getfield 48, 3) := by decide +kernel
theorem dX5_readPiece_81 : decode cX5_readPiece 81 = .ok (.iconst 0, 1) := by decide +kernel
theorem dX5_readPiece_82 : decode cX5_readPiece 82 = .ok (.iconst (-1), 1) := by decide +kernel
theorem dX5_readPiece_83 : decode cX5_readPiece 83 = .ok (.iconst 0, 1) := by decide +kernel
theorem dX5_readPiece_84 : decode cX5_readPiece 84 = .ok (.invokevirtual 155, 3) := by decide +kernel
theorem dX5_readPiece_87 : decode cX5_readPiece 87 = .ok (.pop, 1) := by decide +kernel
theorem dX5_readPiece_88 : decode cX5_readPiece 88 = .ok (.aload_n 0, 1) := by decide +kernel
theorem dX5_readPiece_89 : decode cX5_readPiece 89 = .ok (.invokevirtual 106, 3) := by decide +kernel
theorem dX5_readPiece_92 : decode cX5_readPiece 92 = .ok (.ireturn, 1) := by decide +kernel
set_option maxRecDepth 20000 in
theorem ggX5_readStoredWord_X8_isFull : GoodIn wsX5_readStoredWord wsX8_isFull := goodIn_r _ [10, 11, 213, 214, 215, 216, 217] (by decide +kernel) (by decide +kernel)
set_option maxRecDepth 20000 in
theorem gX5_readStoredWord_X8_isFull : GoodIn wsX5_readStoredWord (wsV RX5 162 RX8 yX8_isFull wsX8_isFull) := goodIn_app (goodIn_of _ (by decide +kernel)) ggX5_readStoredWord_X8_isFull
set_option maxRecDepth 20000 in
theorem ggX5_readStoredWord_X5_fail : GoodIn wsX5_readStoredWord wsX5_fail := goodIn_r _ [16, 17, 18, 19, 194, 195, 196, 197, 198, 199, 200, 201, 202, 203, 204] (by decide +kernel) (by decide +kernel)
set_option maxRecDepth 20000 in
theorem gX5_readStoredWord_X5_fail : GoodIn wsX5_readStoredWord (wsV RX5 88 RX5 yX5_fail wsX5_fail) := goodIn_app (goodIn_of _ (by decide +kernel)) ggX5_readStoredWord_X5_fail
set_option maxRecDepth 20000 in
theorem ggX5_readStoredWord_X5_readLetters : GoodIn wsX5_readStoredWord wsX5_readLetters := goodIn_r _ [23, 24, 25, 26, 27, 15, 28, 29, 30, 31, 18, 4, 32, 33, 34, 35, 36, 37, 38, 39, 40, 41, 42, 43, 12, 13, 14, 16, 17, 19, 194, 195, 196, 197, 198, 199, 200, 201, 202, 203, 204] (by decide +kernel) (by decide +kernel)
set_option maxRecDepth 20000 in
theorem gX5_readStoredWord_X5_readLetters : GoodIn wsX5_readStoredWord (wsV RX5 133 RX5 yX5_readLetters wsX5_readLetters) := goodIn_app (goodIn_of _ (by decide +kernel)) ggX5_readStoredWord_X5_readLetters
set_option maxRecDepth 20000 in
theorem ggX5_readStoredWord_X7_numberOf : GoodIn wsX5_readStoredWord wsX7_numberOf := goodIn_r _ [48, 49, 50, 218, 219, 220] (by decide +kernel) (by decide +kernel)
set_option maxRecDepth 20000 in
theorem gX5_readStoredWord_X7_numberOf : GoodIn wsX5_readStoredWord (wsV RX5 136 RX7 yX7_numberOf wsX7_numberOf) := goodIn_app (goodIn_of _ (by decide +kernel)) ggX5_readStoredWord_X7_numberOf
set_option maxRecDepth 20000 in
theorem ggX5_readStoredWord_X2_cutCheapest : GoodIn wsX5_readStoredWord wsX2_cutCheapest := goodIn_r _ [55, 56, 57, 58, 54, 59, 60, 61, 62, 63, 64, 65, 66, 67, 38, 68, 69, 70, 71, 72, 73, 74, 75, 76, 77, 78, 79, 80, 81, 82, 83, 84, 85, 86, 87, 88, 89, 90, 91, 92, 93, 94, 95, 96, 97, 98, 99, 100, 101, 102, 103, 104, 105, 106, 107, 108, 109, 110, 111, 112, 113, 114, 115, 116, 117, 118, 119, 120, 121, 122, 123, 221, 222, 223, 224, 225, 226, 227, 228, 229, 230, 231, 232, 205, 206, 207, 208, 209, 210, 211, 212, 233, 234, 235, 236, 237, 238] (by decide +kernel) (by decide +kernel)
set_option maxRecDepth 20000 in
theorem gX5_readStoredWord_X2_cutCheapest : GoodIn wsX5_readStoredWord (wsV RX5 165 RX2 yX2_cutCheapest wsX2_cutCheapest) := goodIn_app (goodIn_of _ (by decide +kernel)) ggX5_readStoredWord_X2_cutCheapest
set_option maxRecDepth 20000 in
theorem ggX5_readStoredWord_X1_refusal : GoodIn wsX5_readStoredWord wsX1_refusal := goodIn_r _ [127, 128, 129, 130, 131, 132, 133, 7, 8, 9, 10, 11, 134, 135, 136, 47, 137, 49, 138, 139, 140, 141, 72, 142, 143, 144, 145, 70, 71, 73, 74, 205, 206, 207, 208, 209, 210, 211, 212, 233, 234, 235, 236, 237, 238, 221, 222, 223, 224, 225, 226, 227, 228, 229, 230, 231, 232, 213, 214, 215, 216, 217, 218, 219, 220] (by decide +kernel) (by decide +kernel)
set_option maxRecDepth 20000 in
theorem gX5_readStoredWord_X1_refusal : GoodIn wsX5_readStoredWord (wsV RX5 169 RX1 yX1_refusal wsX1_refusal) := goodIn_app (goodIn_of _ (by decide +kernel)) ggX5_readStoredWord_X1_refusal
set_option maxRecDepth 20000 in
theorem ggX5_readStoredWord_X1_storeCutting : GoodIn wsX5_readStoredWord wsX1_storeCutting := goodIn_r _ [149, 128, 144, 129, 150, 132, 151, 152, 153, 154, 155, 9, 156, 11, 157, 158, 159, 160, 87, 88, 89, 90, 91, 92, 161, 162, 163, 72, 164, 165, 166, 167, 67, 38, 68, 168, 94, 95, 96, 74, 169, 170, 171, 47, 172, 49, 138, 173, 174, 175, 176, 177, 178, 179, 180, 181, 182, 183, 184, 185, 186, 187, 188, 189, 145, 70, 71, 73, 205, 206, 207, 208, 209, 210, 211, 212, 221, 222, 223, 224, 225, 226, 227, 228, 229, 230, 231, 232, 213, 214, 215, 216, 217, 233, 234, 235, 236, 237, 238, 218, 219, 220] (by decide +kernel) (by decide +kernel)
set_option maxRecDepth 20000 in
theorem gX5_readStoredWord_X1_storeCutting : GoodIn wsX5_readStoredWord (wsV RX5 173 RX1 yX1_storeCutting wsX1_storeCutting) := goodIn_app (goodIn_of _ (by decide +kernel)) ggX5_readStoredWord_X1_storeCutting
set_option maxRecDepth 20000 in
theorem ggX5_readStoredWord_X5_readSemicolon : GoodIn wsX5_readStoredWord wsX5_readSemicolon := goodIn_r _ [193, 24, 25, 26, 27, 15, 28, 29, 30, 31, 18, 4, 32, 33, 34, 35, 36, 37, 38, 39, 40, 41, 42, 43, 12, 13, 14, 16, 17, 19, 194, 195, 196, 197, 198, 199, 200, 201, 202, 203, 204] (by decide +kernel) (by decide +kernel)
set_option maxRecDepth 20000 in
theorem gX5_readStoredWord_X5_readSemicolon : GoodIn wsX5_readStoredWord (wsV RX5 106 RX5 yX5_readSemicolon wsX5_readSemicolon) := goodIn_app (goodIn_of _ (by decide +kernel)) ggX5_readStoredWord_X5_readSemicolon
theorem dX5_readStoredWord_0 : decode cX5_readStoredWord 0 = .ok (.aload_n 0, 1) := by decide +kernel
theorem dX5_readStoredWord_1 : decode cX5_readStoredWord 1 = .ok (.getfield 12, 3) := by decide +kernel
theorem dX5_readStoredWord_4 : decode cX5_readStoredWord 4 = .ok (.getfield 158, 3) := by decide +kernel
theorem dX5_readStoredWord_7 : decode cX5_readStoredWord 7 = .ok (.invokevirtual 162, 3) := by decide +kernel
theorem dX5_readStoredWord_10 : decode cX5_readStoredWord 10 = .ok (.ifCond .eq 9, 3) := by decide +kernel
theorem dX5_readStoredWord_13 : decode cX5_readStoredWord 13 = .ok (.aload_n 0, 1) := by decide +kernel
theorem dX5_readStoredWord_14 : decode cX5_readStoredWord 14 = .ok (.iconst 5, 1) := by decide +kernel
theorem dX5_readStoredWord_15 : decode cX5_readStoredWord 15 = .ok (.invokevirtual 88, 3) := by decide +kernel
theorem dX5_readStoredWord_18 : decode cX5_readStoredWord 18 = .ok (.ireturn, 1) := by decide +kernel
theorem dX5_readStoredWord_19 : decode cX5_readStoredWord 19 = .ok (.aload_n 0, 1) := by decide +kernel
theorem dX5_readStoredWord_20 : decode cX5_readStoredWord 20 = .ok (.invokevirtual 133, 3) := by decide +kernel
theorem dX5_readStoredWord_23 : decode cX5_readStoredWord 23 = .ok (.ifCond .ne 5, 3) := by decide +kernel
theorem dX5_readStoredWord_26 : decode cX5_readStoredWord 26 = .ok (.iconst 0, 1) := by decide +kernel
theorem dX5_readStoredWord_27 : decode cX5_readStoredWord 27 = .ok (.ireturn, 1) := by decide +kernel
theorem dX5_readStoredWord_28 : decode cX5_readStoredWord 28 = .ok (.aload_n 0, 1) := by decide +kernel
theorem dX5_readStoredWord_29 : decode cX5_readStoredWord 29 = .ok (.getfield 12, 3) := by decide +kernel
theorem dX5_readStoredWord_32 : decode cX5_readStoredWord 32 = .ok (.getfield 124, 3) := by decide +kernel
theorem dX5_readStoredWord_35 : decode cX5_readStoredWord 35 = .ok (.aload_n 0, 1) := by decide +kernel
theorem dX5_readStoredWord_36 : decode cX5_readStoredWord 36 = .ok (.getfield 48, 3) := by decide +kernel
theorem dX5_readStoredWord_39 : decode cX5_readStoredWord 39 = .ok (.invokevirtual 136, 3) := by decide +kernel
theorem dX5_readStoredWord_42 : decode cX5_readStoredWord 42 = .ok (.istore_n 1, 1) := by decide +kernel
theorem dX5_readStoredWord_43 : decode cX5_readStoredWord 43 = .ok (.iload_n 1, 1) := by decide +kernel
theorem dX5_readStoredWord_44 : decode cX5_readStoredWord 44 = .ok (.iconst (-1), 1) := by decide +kernel
theorem dX5_readStoredWord_45 : decode cX5_readStoredWord 45 = .ok (.if_icmp .ne 9, 3) := by decide +kernel
theorem dX5_readStoredWord_48 : decode cX5_readStoredWord 48 = .ok (.aload_n 0, 1) := by decide +kernel
theorem dX5_readStoredWord_49 : decode cX5_readStoredWord 49 = .ok (.iconst 4, 1) := by decide +kernel
theorem dX5_readStoredWord_50 : decode cX5_readStoredWord 50 = .ok (.invokevirtual 88, 3) := by decide +kernel
theorem dX5_readStoredWord_53 : decode cX5_readStoredWord 53 = .ok (.ireturn, 1) := by decide +kernel
theorem dX5_readStoredWord_54 : decode cX5_readStoredWord 54 = .ok (.aload_n 0, 1) := by decide +kernel
theorem dX5_readStoredWord_55 : decode cX5_readStoredWord 55 = .ok (.invokevirtual 133, 3) := by decide +kernel
theorem dX5_readStoredWord_58 : decode cX5_readStoredWord 58 = .ok (.ifCond .ne 5, 3) := by decide +kernel
theorem dX5_readStoredWord_61 : decode cX5_readStoredWord 61 = .ok (.iconst 0, 1) := by decide +kernel
theorem dX5_readStoredWord_62 : decode cX5_readStoredWord 62 = .ok (.ireturn, 1) := by decide +kernel
theorem dX5_readStoredWord_63 : decode cX5_readStoredWord 63 = .ok (.aload_n 0, 1) := by decide +kernel
theorem dX5_readStoredWord_64 : decode cX5_readStoredWord 64 = .ok (.getfield 25, 3) := by decide +kernel
theorem dX5_readStoredWord_67 : decode cX5_readStoredWord 67 = .ok (.aload_n 0, 1) := by decide +kernel
theorem dX5_readStoredWord_68 : decode cX5_readStoredWord 68 = .ok (.getfield 12, 3) := by decide +kernel
theorem dX5_readStoredWord_71 : decode cX5_readStoredWord 71 = .ok (.aload_n 0, 1) := by decide +kernel
theorem dX5_readStoredWord_72 : decode cX5_readStoredWord 72 = .ok (.getfield 48, 3) := by decide +kernel
theorem dX5_readStoredWord_75 : decode cX5_readStoredWord 75 = .ok (.invokevirtual 165, 3) := by decide +kernel
theorem dX5_readStoredWord_78 : decode cX5_readStoredWord 78 = .ok (.aload_n 0, 1) := by decide +kernel
theorem dX5_readStoredWord_79 : decode cX5_readStoredWord 79 = .ok (.getfield 12, 3) := by decide +kernel
theorem dX5_readStoredWord_82 : decode cX5_readStoredWord 82 = .ok (.iload_n 1, 1) := by decide +kernel
theorem dX5_readStoredWord_83 : decode cX5_readStoredWord 83 = .ok (.aload_n 0, 1) := by decide +kernel
theorem dX5_readStoredWord_84 : decode cX5_readStoredWord 84 = .ok (.getfield 25, 3) := by decide +kernel
theorem dX5_readStoredWord_87 : decode cX5_readStoredWord 87 = .ok (.invokevirtual 169, 3) := by decide +kernel
theorem dX5_readStoredWord_90 : decode cX5_readStoredWord 90 = .ok (.ifCond .eq 10, 3) := by decide +kernel
theorem dX5_readStoredWord_93 : decode cX5_readStoredWord 93 = .ok (.aload_n 0, 1) := by decide +kernel
theorem dX5_readStoredWord_94 : decode cX5_readStoredWord 94 = .ok (.bipush 6, 2) := by decide +kernel
theorem dX5_readStoredWord_96 : decode cX5_readStoredWord 96 = .ok (.invokevirtual 88, 3) := by decide +kernel
theorem dX5_readStoredWord_99 : decode cX5_readStoredWord 99 = .ok (.ireturn, 1) := by decide +kernel
theorem dX5_readStoredWord_100 : decode cX5_readStoredWord 100 = .ok (.aload_n 0, 1) := by decide +kernel
theorem dX5_readStoredWord_101 : decode cX5_readStoredWord 101 = .ok (.getfield 12, 3) := by decide +kernel
theorem dX5_readStoredWord_104 : decode cX5_readStoredWord 104 = .ok (.iload_n 1, 1) := by decide +kernel
theorem dX5_readStoredWord_105 : decode cX5_readStoredWord 105 = .ok (.aload_n 0, 1) := by decide +kernel
theorem dX5_readStoredWord_106 : decode cX5_readStoredWord 106 = .ok (.getfield 48, 3) := by decide +kernel
theorem dX5_readStoredWord_109 : decode cX5_readStoredWord 109 = .ok (.aload_n 0, 1) := by decide +kernel
theorem dX5_readStoredWord_110 : decode cX5_readStoredWord 110 = .ok (.getfield 25, 3) := by decide +kernel
theorem dX5_readStoredWord_113 : decode cX5_readStoredWord 113 = .ok (.invokevirtual 173, 3) := by decide +kernel
theorem dX5_readStoredWord_116 : decode cX5_readStoredWord 116 = .ok (.pop, 1) := by decide +kernel
theorem dX5_readStoredWord_117 : decode cX5_readStoredWord 117 = .ok (.aload_n 0, 1) := by decide +kernel
theorem dX5_readStoredWord_118 : decode cX5_readStoredWord 118 = .ok (.invokevirtual 106, 3) := by decide +kernel
theorem dX5_readStoredWord_121 : decode cX5_readStoredWord 121 = .ok (.ireturn, 1) := by decide +kernel
set_option maxRecDepth 20000 in
theorem ggX5_readLetters_X5_readToken : GoodIn wsX5_readLetters wsX5_readToken := goodIn_r _ [6, 7, 8, 9, 10, 1, 11, 12, 13, 14, 5, 15, 16, 17, 18, 19, 20, 21, 22, 23, 30, 31, 32, 33, 34, 35, 36, 37, 38, 39, 40] (by decide +kernel) (by decide +kernel)
set_option maxRecDepth 20000 in
theorem gX5_readLetters_X5_readToken : GoodIn wsX5_readLetters (wsV RX5 74 RX5 yX5_readToken wsX5_readToken) := goodIn_app (goodIn_of _ (by decide +kernel)) ggX5_readLetters_X5_readToken
set_option maxRecDepth 20000 in
theorem ggX5_readLetters_X5_fail : GoodIn wsX5_readLetters wsX5_fail := goodIn_r _ [27, 28, 10, 29, 30, 31, 32, 33, 34, 35, 36, 37, 38, 39, 40] (by decide +kernel) (by decide +kernel)
set_option maxRecDepth 20000 in
theorem gX5_readLetters_X5_fail : GoodIn wsX5_readLetters (wsV RX5 88 RX5 yX5_fail wsX5_fail) := goodIn_app (goodIn_of _ (by decide +kernel)) ggX5_readLetters_X5_fail
theorem dX5_readLetters_0 : decode cX5_readLetters 0 = .ok (.aload_n 0, 1) := by decide +kernel
theorem dX5_readLetters_1 : decode cX5_readLetters 1 = .ok (.invokevirtual 74, 3) := by decide +kernel
theorem dX5_readLetters_4 : decode cX5_readLetters 4 = .ok (.aload_n 0, 1) := by decide +kernel
theorem dX5_readLetters_5 : decode cX5_readLetters 5 = .ok (.getfield 42, 3) := by decide +kernel
theorem dX5_readLetters_8 : decode cX5_readLetters 8 = .ok (.iconst 3, 1) := by decide +kernel
theorem dX5_readLetters_9 : decode cX5_readLetters 9 = .ok (.if_icmp .eq 11, 3) := by decide +kernel
theorem dX5_readLetters_12 : decode cX5_readLetters 12 = .ok (.aload_n 0, 1) := by decide +kernel
theorem dX5_readLetters_13 : decode cX5_readLetters 13 = .ok (.iconst 1, 1) := by decide +kernel
theorem dX5_readLetters_14 : decode cX5_readLetters 14 = .ok (.invokevirtual 88, 3) := by decide +kernel
theorem dX5_readLetters_17 : decode cX5_readLetters 17 = .ok (.ifCond .eq 7, 3) := by decide +kernel
theorem dX5_readLetters_20 : decode cX5_readLetters 20 = .ok (.iconst 1, 1) := by decide +kernel
theorem dX5_readLetters_21 : decode cX5_readLetters 21 = .ok (.goto 4, 3) := by decide +kernel
theorem dX5_readLetters_24 : decode cX5_readLetters 24 = .ok (.iconst 0, 1) := by decide +kernel
theorem dX5_readLetters_25 : decode cX5_readLetters 25 = .ok (.ireturn, 1) := by decide +kernel
set_option maxRecDepth 20000 in
theorem ggX5_readNumber_X5_readToken : GoodIn wsX5_readNumber wsX5_readToken := goodIn_r _ [7, 8, 9, 10, 11, 1, 12, 2, 13, 14, 6, 15, 16, 17, 18, 19, 20, 21, 22, 23, 30, 31, 32, 33, 34, 35, 36, 37, 38, 39, 40] (by decide +kernel) (by decide +kernel)
set_option maxRecDepth 20000 in
theorem gX5_readNumber_X5_readToken : GoodIn wsX5_readNumber (wsV RX5 74 RX5 yX5_readToken wsX5_readToken) := goodIn_app (goodIn_of _ (by decide +kernel)) ggX5_readNumber_X5_readToken
set_option maxRecDepth 20000 in
theorem ggX5_readNumber_X5_fail : GoodIn wsX5_readNumber wsX5_fail := goodIn_r _ [27, 28, 11, 29, 30, 31, 32, 33, 34, 35, 36, 37, 38, 39, 40] (by decide +kernel) (by decide +kernel)
set_option maxRecDepth 20000 in
theorem gX5_readNumber_X5_fail : GoodIn wsX5_readNumber (wsV RX5 88 RX5 yX5_fail wsX5_fail) := goodIn_app (goodIn_of _ (by decide +kernel)) ggX5_readNumber_X5_fail
theorem dX5_readNumber_0 : decode cX5_readNumber 0 = .ok (.aload_n 0, 1) := by decide +kernel
theorem dX5_readNumber_1 : decode cX5_readNumber 1 = .ok (.invokevirtual 74, 3) := by decide +kernel
theorem dX5_readNumber_4 : decode cX5_readNumber 4 = .ok (.aload_n 0, 1) := by decide +kernel
theorem dX5_readNumber_5 : decode cX5_readNumber 5 = .ok (.getfield 42, 3) := by decide +kernel
theorem dX5_readNumber_8 : decode cX5_readNumber 8 = .ok (.iconst 4, 1) := by decide +kernel
theorem dX5_readNumber_9 : decode cX5_readNumber 9 = .ok (.if_icmp .eq 9, 3) := by decide +kernel
theorem dX5_readNumber_12 : decode cX5_readNumber 12 = .ok (.aload_n 0, 1) := by decide +kernel
theorem dX5_readNumber_13 : decode cX5_readNumber 13 = .ok (.iconst 1, 1) := by decide +kernel
theorem dX5_readNumber_14 : decode cX5_readNumber 14 = .ok (.invokevirtual 88, 3) := by decide +kernel
theorem dX5_readNumber_17 : decode cX5_readNumber 17 = .ok (.ireturn, 1) := by decide +kernel
theorem dX5_readNumber_18 : decode cX5_readNumber 18 = .ok (.aload_n 0, 1) := by decide +kernel
theorem dX5_readNumber_19 : decode cX5_readNumber 19 = .ok (.getfield 52, 3) := by decide +kernel
theorem dX5_readNumber_22 : decode cX5_readNumber 22 = .ok (.iload_n 1, 1) := by decide +kernel
theorem dX5_readNumber_23 : decode cX5_readNumber 23 = .ok (.if_icmp .lt 11, 3) := by decide +kernel
theorem dX5_readNumber_26 : decode cX5_readNumber 26 = .ok (.aload_n 0, 1) := by decide +kernel
theorem dX5_readNumber_27 : decode cX5_readNumber 27 = .ok (.getfield 52, 3) := by decide +kernel
theorem dX5_readNumber_30 : decode cX5_readNumber 30 = .ok (.iload_n 2, 1) := by decide +kernel
theorem dX5_readNumber_31 : decode cX5_readNumber 31 = .ok (.if_icmp .le 11, 3) := by decide +kernel
theorem dX5_readNumber_34 : decode cX5_readNumber 34 = .ok (.aload_n 0, 1) := by decide +kernel
theorem dX5_readNumber_35 : decode cX5_readNumber 35 = .ok (.iconst 3, 1) := by decide +kernel
theorem dX5_readNumber_36 : decode cX5_readNumber 36 = .ok (.invokevirtual 88, 3) := by decide +kernel
theorem dX5_readNumber_39 : decode cX5_readNumber 39 = .ok (.ifCond .eq 7, 3) := by decide +kernel
theorem dX5_readNumber_42 : decode cX5_readNumber 42 = .ok (.iconst 1, 1) := by decide +kernel
theorem dX5_readNumber_43 : decode cX5_readNumber 43 = .ok (.goto 4, 3) := by decide +kernel
theorem dX5_readNumber_46 : decode cX5_readNumber 46 = .ok (.iconst 0, 1) := by decide +kernel
theorem dX5_readNumber_47 : decode cX5_readNumber 47 = .ok (.ireturn, 1) := by decide +kernel
set_option maxRecDepth 20000 in
theorem ggX5_readSemicolon_X5_readToken : GoodIn wsX5_readSemicolon wsX5_readToken := goodIn_r _ [6, 7, 8, 9, 10, 1, 11, 12, 13, 14, 5, 15, 16, 17, 18, 19, 20, 21, 22, 23, 30, 31, 32, 33, 34, 35, 36, 37, 38, 39, 40] (by decide +kernel) (by decide +kernel)
set_option maxRecDepth 20000 in
theorem gX5_readSemicolon_X5_readToken : GoodIn wsX5_readSemicolon (wsV RX5 74 RX5 yX5_readToken wsX5_readToken) := goodIn_app (goodIn_of _ (by decide +kernel)) ggX5_readSemicolon_X5_readToken
set_option maxRecDepth 20000 in
theorem ggX5_readSemicolon_X5_fail : GoodIn wsX5_readSemicolon wsX5_fail := goodIn_r _ [27, 28, 10, 29, 30, 31, 32, 33, 34, 35, 36, 37, 38, 39, 40] (by decide +kernel) (by decide +kernel)
set_option maxRecDepth 20000 in
theorem gX5_readSemicolon_X5_fail : GoodIn wsX5_readSemicolon (wsV RX5 88 RX5 yX5_fail wsX5_fail) := goodIn_app (goodIn_of _ (by decide +kernel)) ggX5_readSemicolon_X5_fail
theorem dX5_readSemicolon_0 : decode cX5_readSemicolon 0 = .ok (.aload_n 0, 1) := by decide +kernel
theorem dX5_readSemicolon_1 : decode cX5_readSemicolon 1 = .ok (.invokevirtual 74, 3) := by decide +kernel
theorem dX5_readSemicolon_4 : decode cX5_readSemicolon 4 = .ok (.aload_n 0, 1) := by decide +kernel
theorem dX5_readSemicolon_5 : decode cX5_readSemicolon 5 = .ok (.getfield 42, 3) := by decide +kernel
theorem dX5_readSemicolon_8 : decode cX5_readSemicolon 8 = .ok (.iconst 5, 1) := by decide +kernel
theorem dX5_readSemicolon_9 : decode cX5_readSemicolon 9 = .ok (.if_icmp .eq 11, 3) := by decide +kernel
theorem dX5_readSemicolon_12 : decode cX5_readSemicolon 12 = .ok (.aload_n 0, 1) := by decide +kernel
theorem dX5_readSemicolon_13 : decode cX5_readSemicolon 13 = .ok (.iconst 1, 1) := by decide +kernel
theorem dX5_readSemicolon_14 : decode cX5_readSemicolon 14 = .ok (.invokevirtual 88, 3) := by decide +kernel
theorem dX5_readSemicolon_17 : decode cX5_readSemicolon 17 = .ok (.ifCond .eq 7, 3) := by decide +kernel
theorem dX5_readSemicolon_20 : decode cX5_readSemicolon 20 = .ok (.iconst 1, 1) := by decide +kernel
theorem dX5_readSemicolon_21 : decode cX5_readSemicolon 21 = .ok (.goto 4, 3) := by decide +kernel
theorem dX5_readSemicolon_24 : decode cX5_readSemicolon 24 = .ok (.iconst 0, 1) := by decide +kernel
theorem dX5_readSemicolon_25 : decode cX5_readSemicolon 25 = .ok (.ireturn, 1) := by decide +kernel
theorem dX5_fail_0 : decode cX5_fail 0 = .ok (.aload_n 0, 1) := by decide +kernel
theorem dX5_fail_1 : decode cX5_fail 1 = .ok (.iload_n 1, 1) := by decide +kernel
theorem dX5_fail_2 : decode cX5_fail 2 = .ok (.putfield 39, 3) := by decide +kernel
theorem dX5_fail_5 : decode cX5_fail 5 = .ok (.aload_n 0, 1) := by decide +kernel
theorem dX5_fail_6 : decode cX5_fail 6 = .ok (.aload_n 0, 1) := by decide +kernel
theorem dX5_fail_7 : decode cX5_fail 7 = .ok (.getfield 45, 3) := by decide +kernel
theorem dX5_fail_10 : decode cX5_fail 10 = .ok (.putfield 18, 3) := by decide +kernel
theorem dX5_fail_13 : decode cX5_fail 13 = .ok (.iconst 0, 1) := by decide +kernel
theorem dX5_fail_14 : decode cX5_fail 14 = .ok (.ireturn, 1) := by decide +kernel
set_option maxRecDepth 20000 in
theorem ggX5_readToken_X5_kindOf : GoodIn wsX5_readToken wsX5_kindOf := goodIn_r _ [11] (by decide +kernel) (by decide +kernel)
set_option maxRecDepth 20000 in
theorem gX5_readToken_X5_kindOf : GoodIn wsX5_readToken (va_wsS RX5 177 yX5_kindOf wsX5_kindOf) := goodIn_app (goodIn_of _ (by decide +kernel)) ggX5_readToken_X5_kindOf
set_option maxRecDepth 20000 in
theorem ggX5_readToken_X4_read : GoodIn wsX5_readToken wsX4_read := goodIn_r _ [15] (by decide +kernel) (by decide +kernel)
set_option maxRecDepth 20000 in
theorem gX5_readToken_X4_read : GoodIn wsX5_readToken (va_wsS RX5 181 yX4_read wsX4_read) := goodIn_app (goodIn_of _ (by decide +kernel)) ggX5_readToken_X4_read
set_option maxRecDepth 20000 in
theorem ggX5_readToken_X5_valueOf : GoodIn wsX5_readToken wsX5_valueOf := goodIn_r _ [19, 3, 20, 21, 22, 23, 24, 25, 26, 27, 28, 29, 30] (by decide +kernel) (by decide +kernel)
set_option maxRecDepth 20000 in
theorem gX5_readToken_X5_valueOf : GoodIn wsX5_readToken (wsV RX5 185 RX5 yX5_valueOf wsX5_valueOf) := goodIn_app (goodIn_of _ (by decide +kernel)) ggX5_readToken_X5_valueOf
theorem dX5_readToken_0 : decode cX5_readToken 0 = .ok (.aload_n 0, 1) := by decide +kernel
theorem dX5_readToken_1 : decode cX5_readToken 1 = .ok (.getfield 36, 3) := by decide +kernel
theorem dX5_readToken_4 : decode cX5_readToken 4 = .ok (.aload_n 0, 1) := by decide +kernel
theorem dX5_readToken_5 : decode cX5_readToken 5 = .ok (.getfield 33, 3) := by decide +kernel
theorem dX5_readToken_8 : decode cX5_readToken 8 = .ok (.if_icmp .ge 32, 3) := by decide +kernel
theorem dX5_readToken_11 : decode cX5_readToken 11 = .ok (.aload_n 0, 1) := by decide +kernel
theorem dX5_readToken_12 : decode cX5_readToken 12 = .ok (.getfield 29, 3) := by decide +kernel
theorem dX5_readToken_15 : decode cX5_readToken 15 = .ok (.aload_n 0, 1) := by decide +kernel
theorem dX5_readToken_16 : decode cX5_readToken 16 = .ok (.getfield 36, 3) := by decide +kernel
theorem dX5_readToken_19 : decode cX5_readToken 19 = .ok (.baload, 1) := by decide +kernel
theorem dX5_readToken_20 : decode cX5_readToken 20 = .ok (.invokestatic 177, 3) := by decide +kernel
theorem dX5_readToken_23 : decode cX5_readToken 23 = .ok (.iconst 1, 1) := by decide +kernel
theorem dX5_readToken_24 : decode cX5_readToken 24 = .ok (.if_icmp .ne 16, 3) := by decide +kernel
theorem dX5_readToken_27 : decode cX5_readToken 27 = .ok (.aload_n 0, 1) := by decide +kernel
theorem dX5_readToken_28 : decode cX5_readToken 28 = .ok (.dup, 1) := by decide +kernel
theorem dX5_readToken_29 : decode cX5_readToken 29 = .ok (.getfield 36, 3) := by decide +kernel
theorem dX5_readToken_32 : decode cX5_readToken 32 = .ok (.iconst 1, 1) := by decide +kernel
theorem dX5_readToken_33 : decode cX5_readToken 33 = .ok (.iadd, 1) := by decide +kernel
theorem dX5_readToken_34 : decode cX5_readToken 34 = .ok (.putfield 36, 3) := by decide +kernel
theorem dX5_readToken_37 : decode cX5_readToken 37 = .ok (.goto (-37), 3) := by decide +kernel
theorem dX5_readToken_40 : decode cX5_readToken 40 = .ok (.aload_n 0, 1) := by decide +kernel
theorem dX5_readToken_41 : decode cX5_readToken 41 = .ok (.aload_n 0, 1) := by decide +kernel
theorem dX5_readToken_42 : decode cX5_readToken 42 = .ok (.getfield 36, 3) := by decide +kernel
theorem dX5_readToken_45 : decode cX5_readToken 45 = .ok (.putfield 45, 3) := by decide +kernel
theorem dX5_readToken_48 : decode cX5_readToken 48 = .ok (.aload_n 0, 1) := by decide +kernel
theorem dX5_readToken_49 : decode cX5_readToken 49 = .ok (.getfield 36, 3) := by decide +kernel
theorem dX5_readToken_52 : decode cX5_readToken 52 = .ok (.aload_n 0, 1) := by decide +kernel
theorem dX5_readToken_53 : decode cX5_readToken 53 = .ok (.getfield 33, 3) := by decide +kernel
theorem dX5_readToken_56 : decode cX5_readToken 56 = .ok (.if_icmp .lt 9, 3) := by decide +kernel
theorem dX5_readToken_59 : decode cX5_readToken 59 = .ok (.aload_n 0, 1) := by decide +kernel
theorem dX5_readToken_60 : decode cX5_readToken 60 = .ok (.iconst 0, 1) := by decide +kernel
theorem dX5_readToken_61 : decode cX5_readToken 61 = .ok (.putfield 42, 3) := by decide +kernel
theorem dX5_readToken_64 : decode cX5_readToken 64 = .ok (.return_, 1) := by decide +kernel
theorem dX5_readToken_65 : decode cX5_readToken 65 = .ok (.aload_n 0, 1) := by decide +kernel
theorem dX5_readToken_66 : decode cX5_readToken 66 = .ok (.aload_n 0, 1) := by decide +kernel
theorem dX5_readToken_67 : decode cX5_readToken 67 = .ok (.getfield 29, 3) := by decide +kernel
theorem dX5_readToken_70 : decode cX5_readToken 70 = .ok (.aload_n 0, 1) := by decide +kernel
theorem dX5_readToken_71 : decode cX5_readToken 71 = .ok (.getfield 36, 3) := by decide +kernel
theorem dX5_readToken_74 : decode cX5_readToken 74 = .ok (.baload, 1) := by decide +kernel
theorem dX5_readToken_75 : decode cX5_readToken 75 = .ok (.invokestatic 177, 3) := by decide +kernel
theorem dX5_readToken_78 : decode cX5_readToken 78 = .ok (.putfield 42, 3) := by decide +kernel
theorem dX5_readToken_81 : decode cX5_readToken 81 = .ok (.aload_n 0, 1) := by decide +kernel
theorem dX5_readToken_82 : decode cX5_readToken 82 = .ok (.dup, 1) := by decide +kernel
theorem dX5_readToken_83 : decode cX5_readToken 83 = .ok (.getfield 36, 3) := by decide +kernel
theorem dX5_readToken_86 : decode cX5_readToken 86 = .ok (.iconst 1, 1) := by decide +kernel
theorem dX5_readToken_87 : decode cX5_readToken 87 = .ok (.iadd, 1) := by decide +kernel
theorem dX5_readToken_88 : decode cX5_readToken 88 = .ok (.putfield 36, 3) := by decide +kernel
theorem dX5_readToken_91 : decode cX5_readToken 91 = .ok (.aload_n 0, 1) := by decide +kernel
theorem dX5_readToken_92 : decode cX5_readToken 92 = .ok (.getfield 42, 3) := by decide +kernel
theorem dX5_readToken_95 : decode cX5_readToken 95 = .ok (.iconst 3, 1) := by decide +kernel
theorem dX5_readToken_96 : decode cX5_readToken 96 = .ok (.if_icmp .eq 11, 3) := by decide +kernel
theorem dX5_readToken_99 : decode cX5_readToken 99 = .ok (.aload_n 0, 1) := by decide +kernel
theorem dX5_readToken_100 : decode cX5_readToken 100 = .ok (.getfield 42, 3) := by decide +kernel
theorem dX5_readToken_103 : decode cX5_readToken 103 = .ok (.iconst 4, 1) := by decide +kernel
theorem dX5_readToken_104 : decode cX5_readToken 104 = .ok (.if_icmp .ne 7, 3) := by decide +kernel
theorem dX5_readToken_107 : decode cX5_readToken 107 = .ok (.iconst 1, 1) := by decide +kernel
theorem dX5_readToken_108 : decode cX5_readToken 108 = .ok (.goto 4, 3) := by decide +kernel
theorem dX5_readToken_111 : decode cX5_readToken 111 = .ok (.iconst 0, 1) := by decide +kernel
theorem dX5_readToken_112 : decode cX5_readToken 112 = .ok (.istore_n 1, 1) := by decide +kernel
theorem dX5_readToken_113 : decode cX5_readToken 113 = .ok (.iload_n 1, 1) := by decide +kernel
theorem dX5_readToken_114 : decode cX5_readToken 114 = .ok (.ifCond .eq 46, 3) := by decide +kernel
theorem dX5_readToken_117 : decode cX5_readToken 117 = .ok (.aload_n 0, 1) := by decide +kernel
theorem dX5_readToken_118 : decode cX5_readToken 118 = .ok (.getfield 36, 3) := by decide +kernel
theorem dX5_readToken_121 : decode cX5_readToken 121 = .ok (.aload_n 0, 1) := by decide +kernel
theorem dX5_readToken_122 : decode cX5_readToken 122 = .ok (.getfield 33, 3) := by decide +kernel
theorem dX5_readToken_125 : decode cX5_readToken 125 = .ok (.if_icmp .ge 35, 3) := by decide +kernel
theorem dX5_readToken_128 : decode cX5_readToken 128 = .ok (.aload_n 0, 1) := by decide +kernel
theorem dX5_readToken_129 : decode cX5_readToken 129 = .ok (.getfield 29, 3) := by decide +kernel
theorem dX5_readToken_132 : decode cX5_readToken 132 = .ok (.aload_n 0, 1) := by decide +kernel
theorem dX5_readToken_133 : decode cX5_readToken 133 = .ok (.getfield 36, 3) := by decide +kernel
theorem dX5_readToken_136 : decode cX5_readToken 136 = .ok (.baload, 1) := by decide +kernel
theorem dX5_readToken_137 : decode cX5_readToken 137 = .ok (.invokestatic 177, 3) := by decide +kernel
theorem dX5_readToken_140 : decode cX5_readToken 140 = .ok (.aload_n 0, 1) := by decide +kernel
theorem dX5_readToken_141 : decode cX5_readToken 141 = .ok (.getfield 42, 3) := by decide +kernel
theorem dX5_readToken_144 : decode cX5_readToken 144 = .ok (.if_icmp .ne 16, 3) := by decide +kernel
theorem dX5_readToken_147 : decode cX5_readToken 147 = .ok (.aload_n 0, 1) := by decide +kernel
theorem dX5_readToken_148 : decode cX5_readToken 148 = .ok (.dup, 1) := by decide +kernel
theorem dX5_readToken_149 : decode cX5_readToken 149 = .ok (.getfield 36, 3) := by decide +kernel
theorem dX5_readToken_152 : decode cX5_readToken 152 = .ok (.iconst 1, 1) := by decide +kernel
theorem dX5_readToken_153 : decode cX5_readToken 153 = .ok (.iadd, 1) := by decide +kernel
theorem dX5_readToken_154 : decode cX5_readToken 154 = .ok (.putfield 36, 3) := by decide +kernel
theorem dX5_readToken_157 : decode cX5_readToken 157 = .ok (.goto (-44), 3) := by decide +kernel
theorem dX5_readToken_160 : decode cX5_readToken 160 = .ok (.iload_n 1, 1) := by decide +kernel
theorem dX5_readToken_161 : decode cX5_readToken 161 = .ok (.ifCond .eq 34, 3) := by decide +kernel
theorem dX5_readToken_164 : decode cX5_readToken 164 = .ok (.aload_n 0, 1) := by decide +kernel
theorem dX5_readToken_165 : decode cX5_readToken 165 = .ok (.getfield 36, 3) := by decide +kernel
theorem dX5_readToken_168 : decode cX5_readToken 168 = .ok (.aload_n 0, 1) := by decide +kernel
theorem dX5_readToken_169 : decode cX5_readToken 169 = .ok (.getfield 45, 3) := by decide +kernel
theorem dX5_readToken_172 : decode cX5_readToken 172 = .ok (.isub, 1) := by decide +kernel
theorem dX5_readToken_173 : decode cX5_readToken 173 = .ok (.aload_n 0, 1) := by decide +kernel
theorem dX5_readToken_174 : decode cX5_readToken 174 = .ok (.getfield 42, 3) := by decide +kernel
theorem dX5_readToken_177 : decode cX5_readToken 177 = .ok (.iconst 3, 1) := by decide +kernel
theorem dX5_readToken_178 : decode cX5_readToken 178 = .ok (.if_icmp .ne 8, 3) := by decide +kernel
theorem dX5_readToken_181 : decode cX5_readToken 181 = .ok (.bipush 12, 2) := by decide +kernel
theorem dX5_readToken_183 : decode cX5_readToken 183 = .ok (.goto 4, 3) := by decide +kernel
theorem dX5_readToken_186 : decode cX5_readToken 186 = .ok (.iconst 4, 1) := by decide +kernel
theorem dX5_readToken_187 : decode cX5_readToken 187 = .ok (.if_icmp .le 8, 3) := by decide +kernel
theorem dX5_readToken_190 : decode cX5_readToken 190 = .ok (.aload_n 0, 1) := by decide +kernel
theorem dX5_readToken_191 : decode cX5_readToken 191 = .ok (.iconst 2, 1) := by decide +kernel
theorem dX5_readToken_192 : decode cX5_readToken 192 = .ok (.putfield 42, 3) := by decide +kernel
theorem dX5_readToken_195 : decode cX5_readToken 195 = .ok (.aload_n 0, 1) := by decide +kernel
theorem dX5_readToken_196 : decode cX5_readToken 196 = .ok (.getfield 42, 3) := by decide +kernel
theorem dX5_readToken_199 : decode cX5_readToken 199 = .ok (.iconst 3, 1) := by decide +kernel
theorem dX5_readToken_200 : decode cX5_readToken 200 = .ok (.if_icmp .ne 25, 3) := by decide +kernel
theorem dX5_readToken_203 : decode cX5_readToken 203 = .ok (.aload_n 0, 1) := by decide +kernel
theorem dX5_readToken_204 : decode cX5_readToken 204 = .ok (.aload_n 0, 1) := by decide +kernel
theorem dX5_readToken_205 : decode cX5_readToken 205 = .ok (.getfield 29, 3) := by decide +kernel
theorem dX5_readToken_208 : decode cX5_readToken 208 = .ok (.aload_n 0, 1) := by decide +kernel
theorem dX5_readToken_209 : decode cX5_readToken 209 = .ok (.getfield 45, 3) := by decide +kernel
theorem dX5_readToken_212 : decode cX5_readToken 212 = .ok (.aload_n 0, 1) := by decide +kernel
theorem dX5_readToken_213 : decode cX5_readToken 213 = .ok (.getfield 36, 3) := by decide +kernel
theorem dX5_readToken_216 : decode cX5_readToken 216 = .ok (.invokestatic 181, 3) := by decide +kernel
theorem dX5_readToken_219 : decode cX5_readToken 219 = .ok (.putfield 48, 3) := by decide +kernel
theorem dX5_readToken_222 : decode cX5_readToken 222 = .ok (.goto 27, 3) := by decide +kernel
theorem dX5_readToken_225 : decode cX5_readToken 225 = .ok (.aload_n 0, 1) := by decide +kernel
theorem dX5_readToken_226 : decode cX5_readToken 226 = .ok (.getfield 42, 3) := by decide +kernel
theorem dX5_readToken_229 : decode cX5_readToken 229 = .ok (.iconst 4, 1) := by decide +kernel
theorem dX5_readToken_230 : decode cX5_readToken 230 = .ok (.if_icmp .ne 19, 3) := by decide +kernel
theorem dX5_readToken_233 : decode cX5_readToken 233 = .ok (.aload_n 0, 1) := by decide +kernel
theorem dX5_readToken_234 : decode cX5_readToken 234 = .ok (.aload_n 0, 1) := by decide +kernel
theorem dX5_readToken_235 : decode cX5_readToken 235 = .ok (.aload_n 0, 1) := by decide +kernel
theorem dX5_readToken_236 : decode cX5_readToken 236 = .ok (.getfield 45, 3) := by decide +kernel
theorem dX5_readToken_239 : decode cX5_readToken 239 = .ok (.aload_n 0, 1) := by decide +kernel
theorem dX5_readToken_240 : decode cX5_readToken 240 = .ok (.getfield 36, 3) := by decide +kernel
theorem dX5_readToken_243 : decode cX5_readToken 243 = .ok (.invokevirtual 185, 3) := by decide +kernel
theorem dX5_readToken_246 : decode cX5_readToken 246 = .ok (.putfield 52, 3) := by decide +kernel
theorem dX5_readToken_249 : decode cX5_readToken 249 = .ok (.return_, 1) := by decide +kernel
theorem dX5_valueOf_0 : decode cX5_valueOf 0 = .ok (.iconst 0, 1) := by decide +kernel
theorem dX5_valueOf_1 : decode cX5_valueOf 1 = .ok (.istore_n 3, 1) := by decide +kernel
theorem dX5_valueOf_2 : decode cX5_valueOf 2 = .ok (.iload_n 1, 1) := by decide +kernel
theorem dX5_valueOf_3 : decode cX5_valueOf 3 = .ok (.istore 4, 2) := by decide +kernel
theorem dX5_valueOf_5 : decode cX5_valueOf 5 = .ok (.iload 4, 2) := by decide +kernel
theorem dX5_valueOf_7 : decode cX5_valueOf 7 = .ok (.iload_n 2, 1) := by decide +kernel
theorem dX5_valueOf_8 : decode cX5_valueOf 8 = .ok (.if_icmp .ge 25, 3) := by decide +kernel
theorem dX5_valueOf_11 : decode cX5_valueOf 11 = .ok (.iload_n 3, 1) := by decide +kernel
theorem dX5_valueOf_12 : decode cX5_valueOf 12 = .ok (.bipush 10, 2) := by decide +kernel
theorem dX5_valueOf_14 : decode cX5_valueOf 14 = .ok (.imul, 1) := by decide +kernel
theorem dX5_valueOf_15 : decode cX5_valueOf 15 = .ok (.aload_n 0, 1) := by decide +kernel
theorem dX5_valueOf_16 : decode cX5_valueOf 16 = .ok (.getfield 29, 3) := by decide +kernel
theorem dX5_valueOf_19 : decode cX5_valueOf 19 = .ok (.iload 4, 2) := by decide +kernel
theorem dX5_valueOf_21 : decode cX5_valueOf 21 = .ok (.baload, 1) := by decide +kernel
theorem dX5_valueOf_22 : decode cX5_valueOf 22 = .ok (.iadd, 1) := by decide +kernel
theorem dX5_valueOf_23 : decode cX5_valueOf 23 = .ok (.bipush 48, 2) := by decide +kernel
theorem dX5_valueOf_25 : decode cX5_valueOf 25 = .ok (.isub, 1) := by decide +kernel
theorem dX5_valueOf_26 : decode cX5_valueOf 26 = .ok (.istore_n 3, 1) := by decide +kernel
theorem dX5_valueOf_27 : decode cX5_valueOf 27 = .ok (.iinc 4 1, 3) := by decide +kernel
theorem dX5_valueOf_30 : decode cX5_valueOf 30 = .ok (.goto (-25), 3) := by decide +kernel
theorem dX5_valueOf_33 : decode cX5_valueOf 33 = .ok (.iload_n 3, 1) := by decide +kernel
theorem dX5_valueOf_34 : decode cX5_valueOf 34 = .ok (.ireturn, 1) := by decide +kernel
theorem dX5_kindOf_0 : decode cX5_kindOf 0 = .ok (.iload_n 0, 1) := by decide +kernel
theorem dX5_kindOf_1 : decode cX5_kindOf 1 = .ok (.bipush 32, 2) := by decide +kernel
theorem dX5_kindOf_3 : decode cX5_kindOf 3 = .ok (.if_icmp .eq 9, 3) := by decide +kernel
theorem dX5_kindOf_6 : decode cX5_kindOf 6 = .ok (.iload_n 0, 1) := by decide +kernel
theorem dX5_kindOf_7 : decode cX5_kindOf 7 = .ok (.bipush 10, 2) := by decide +kernel
theorem dX5_kindOf_9 : decode cX5_kindOf 9 = .ok (.if_icmp .ne 5, 3) := by decide +kernel
theorem dX5_kindOf_12 : decode cX5_kindOf 12 = .ok (.iconst 1, 1) := by decide +kernel
theorem dX5_kindOf_13 : decode cX5_kindOf 13 = .ok (.ireturn, 1) := by decide +kernel
theorem dX5_kindOf_14 : decode cX5_kindOf 14 = .ok (.iload_n 0, 1) := by decide +kernel
theorem dX5_kindOf_15 : decode cX5_kindOf 15 = .ok (.bipush 97, 2) := by decide +kernel
theorem dX5_kindOf_17 : decode cX5_kindOf 17 = .ok (.if_icmp .lt 11, 3) := by decide +kernel
theorem dX5_kindOf_20 : decode cX5_kindOf 20 = .ok (.iload_n 0, 1) := by decide +kernel
theorem dX5_kindOf_21 : decode cX5_kindOf 21 = .ok (.bipush 122, 2) := by decide +kernel
theorem dX5_kindOf_23 : decode cX5_kindOf 23 = .ok (.if_icmp .gt 5, 3) := by decide +kernel
theorem dX5_kindOf_26 : decode cX5_kindOf 26 = .ok (.iconst 3, 1) := by decide +kernel
theorem dX5_kindOf_27 : decode cX5_kindOf 27 = .ok (.ireturn, 1) := by decide +kernel
theorem dX5_kindOf_28 : decode cX5_kindOf 28 = .ok (.iload_n 0, 1) := by decide +kernel
theorem dX5_kindOf_29 : decode cX5_kindOf 29 = .ok (.bipush 48, 2) := by decide +kernel
theorem dX5_kindOf_31 : decode cX5_kindOf 31 = .ok (.if_icmp .lt 11, 3) := by decide +kernel
theorem dX5_kindOf_34 : decode cX5_kindOf 34 = .ok (.iload_n 0, 1) := by decide +kernel
theorem dX5_kindOf_35 : decode cX5_kindOf 35 = .ok (.bipush 57, 2) := by decide +kernel
theorem dX5_kindOf_37 : decode cX5_kindOf 37 = .ok (.if_icmp .gt 5, 3) := by decide +kernel
theorem dX5_kindOf_40 : decode cX5_kindOf 40 = .ok (.iconst 4, 1) := by decide +kernel
theorem dX5_kindOf_41 : decode cX5_kindOf 41 = .ok (.ireturn, 1) := by decide +kernel
theorem dX5_kindOf_42 : decode cX5_kindOf 42 = .ok (.iload_n 0, 1) := by decide +kernel
theorem dX5_kindOf_43 : decode cX5_kindOf 43 = .ok (.bipush 59, 2) := by decide +kernel
theorem dX5_kindOf_45 : decode cX5_kindOf 45 = .ok (.if_icmp .ne 7, 3) := by decide +kernel
theorem dX5_kindOf_48 : decode cX5_kindOf 48 = .ok (.iconst 5, 1) := by decide +kernel
theorem dX5_kindOf_49 : decode cX5_kindOf 49 = .ok (.goto 4, 3) := by decide +kernel
theorem dX5_kindOf_52 : decode cX5_kindOf 52 = .ok (.iconst 2, 1) := by decide +kernel
theorem dX5_kindOf_53 : decode cX5_kindOf 53 = .ok (.ireturn, 1) := by decide +kernel
