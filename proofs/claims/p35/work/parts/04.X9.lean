set_option maxRecDepth 20000 in
theorem ggX9_init_X1_init : GoodIn wsX9_init wsX1_init := goodIn_r _ [33, 34, 2, 3, 35, 36, 37, 38, 39, 40, 41, 42, 43, 44, 45, 46, 47, 48, 49, 50, 51, 52, 53, 54, 55, 56, 57, 58, 59, 60, 61, 62, 63, 64, 65, 66, 67, 68, 69, 70, 71, 72, 73, 74, 75, 76, 141, 142, 143, 144, 145, 146, 147, 148, 183, 184, 185, 186, 187, 188, 189, 190, 191, 192, 193, 194, 195, 196] (by decide +kernel) (by decide +kernel)
set_option maxRecDepth 20000 in
theorem gX9_init_X1_init : GoodIn wsX9_init (wsX1_init) := ggX9_init_X1_init
set_option maxRecDepth 20000 in
theorem ggX9_init_X5_init : GoodIn wsX9_init wsX5_init := goodIn_r _ [78, 79, 2, 3, 80, 9, 10, 81, 82, 83, 17, 18, 84, 4, 85, 86, 87, 88, 89, 90, 91, 92, 93, 32, 33, 34, 35, 36, 37, 38, 39, 40, 41, 42, 43, 44, 45, 46, 47, 48, 49, 50, 51, 52, 53, 54, 55, 56, 57, 58, 59, 60, 61, 62, 63, 64, 65, 66, 67, 68, 69, 70, 71, 72, 73, 74, 75, 76, 94, 95, 96, 97, 98, 99, 100, 101, 102, 103, 104, 105, 106, 107, 108, 109, 141, 142, 143, 144, 145, 146, 147, 148, 149, 150, 151, 152, 153, 154, 155, 156, 157, 158, 159, 160, 161, 162, 163, 164, 165, 166, 167, 168, 169, 170, 171, 183, 184, 185, 186, 187, 188, 189, 190, 191, 192, 193, 194, 195, 196] (by decide +kernel) (by decide +kernel)
set_option maxRecDepth 20000 in
theorem gX9_init_X5_init_n29 : GoodIn wsX9_init (wsX5_init) := ggX9_init_X5_init
set_option maxRecDepth 20000 in
theorem ggX9_init_X2_init : GoodIn wsX9_init wsX2_init := goodIn_r _ [95, 96, 2, 3, 97, 57, 98, 99, 100, 101, 102, 103, 104, 35, 105, 106, 107, 108, 109, 160, 161, 162, 163, 164, 165, 166, 167, 168, 169, 170, 171] (by decide +kernel) (by decide +kernel)
set_option maxRecDepth 20000 in
theorem gX9_init_X2_init_n36 : GoodIn wsX9_init (wsX2_init) := ggX9_init_X2_init
set_option maxRecDepth 20000 in
theorem ggX9_init_X0_init : GoodIn wsX9_init wsX0_init := goodIn_r _ [111, 112, 2, 3, 113, 114, 115, 116, 17, 18, 117, 118, 57, 119, 35, 120, 121, 122, 94, 95, 96, 97, 98, 99, 100, 101, 102, 103, 104, 105, 106, 107, 108, 109, 172, 173, 174, 175, 176, 177, 178, 179, 180, 160, 161, 162, 163, 164, 165, 166, 167, 168, 169, 170, 171] (by decide +kernel) (by decide +kernel)
set_option maxRecDepth 20000 in
theorem gX9_init_X0_init_n43 : GoodIn wsX9_init (wsX0_init) := ggX9_init_X0_init
set_option maxRecDepth 20000 in
theorem ggX9_init_X3_init : GoodIn wsX9_init wsX3_init := goodIn_r _ [125, 126, 2, 3, 127, 128, 129, 9, 10, 130, 32, 33, 34, 35, 36, 37, 38, 39, 40, 41, 42, 43, 44, 45, 46, 47, 48, 49, 50, 51, 52, 53, 54, 55, 56, 57, 58, 59, 60, 61, 62, 63, 64, 65, 66, 67, 68, 69, 70, 71, 72, 73, 74, 75, 76, 181, 182, 141, 142, 143, 144, 145, 146, 147, 148, 183, 184, 185, 186, 187, 188, 189, 190, 191, 192, 193, 194, 195, 196] (by decide +kernel) (by decide +kernel)
set_option maxRecDepth 20000 in
theorem gX9_init_X3_init : GoodIn wsX9_init (wsX3_init) := ggX9_init_X3_init
theorem dX9_init_0 : decode cX9_init 0 = .ok (.aload_n 0, 1) := by decide +kernel
theorem dX9_init_1 : decode cX9_init 1 = .ok (.invokespecial 1, 3) := by decide +kernel
theorem dX9_init_4 : decode cX9_init 4 = .ok (.aload_n 0, 1) := by decide +kernel
theorem dX9_init_5 : decode cX9_init 5 = .ok (.sipush 600, 3) := by decide +kernel
theorem dX9_init_8 : decode cX9_init 8 = .ok (.newarray .byte, 2) := by decide +kernel
theorem dX9_init_10 : decode cX9_init 10 = .ok (.putfield 9, 3) := by decide +kernel
theorem dX9_init_13 : decode cX9_init 13 = .ok (.aload_n 0, 1) := by decide +kernel
theorem dX9_init_14 : decode cX9_init 14 = .ok (.iconst 0, 1) := by decide +kernel
theorem dX9_init_15 : decode cX9_init 15 = .ok (.putfield 13, 3) := by decide +kernel
theorem dX9_init_18 : decode cX9_init 18 = .ok (.aload_n 0, 1) := by decide +kernel
theorem dX9_init_19 : decode cX9_init 19 = .ok (.iconst (-1), 1) := by decide +kernel
theorem dX9_init_20 : decode cX9_init 20 = .ok (.putfield 17, 3) := by decide +kernel
theorem dX9_init_23 : decode cX9_init 23 = .ok (.aload_n 0, 1) := by decide +kernel
theorem dX9_init_24 : decode cX9_init 24 = .ok (.new 20, 3) := by decide +kernel
theorem dX9_init_27 : decode cX9_init 27 = .ok (.dup, 1) := by decide +kernel
theorem dX9_init_28 : decode cX9_init 28 = .ok (.invokespecial 22, 3) := by decide +kernel
theorem dX9_init_31 : decode cX9_init 31 = .ok (.putfield 23, 3) := by decide +kernel
theorem dX9_init_34 : decode cX9_init 34 = .ok (.aload_n 0, 1) := by decide +kernel
theorem dX9_init_35 : decode cX9_init 35 = .ok (.new 27, 3) := by decide +kernel
theorem dX9_init_38 : decode cX9_init 38 = .ok (.dup, 1) := by decide +kernel
theorem dX9_init_39 : decode cX9_init 39 = .ok (.invokespecial 29, 3) := by decide +kernel
theorem dX9_init_42 : decode cX9_init 42 = .ok (.putfield 30, 3) := by decide +kernel
theorem dX9_init_45 : decode cX9_init 45 = .ok (.aload_n 0, 1) := by decide +kernel
theorem dX9_init_46 : decode cX9_init 46 = .ok (.new 34, 3) := by decide +kernel
theorem dX9_init_49 : decode cX9_init 49 = .ok (.dup, 1) := by decide +kernel
theorem dX9_init_50 : decode cX9_init 50 = .ok (.invokespecial 36, 3) := by decide +kernel
theorem dX9_init_53 : decode cX9_init 53 = .ok (.putfield 37, 3) := by decide +kernel
theorem dX9_init_56 : decode cX9_init 56 = .ok (.aload_n 0, 1) := by decide +kernel
theorem dX9_init_57 : decode cX9_init 57 = .ok (.new 41, 3) := by decide +kernel
theorem dX9_init_60 : decode cX9_init 60 = .ok (.dup, 1) := by decide +kernel
theorem dX9_init_61 : decode cX9_init 61 = .ok (.invokespecial 43, 3) := by decide +kernel
theorem dX9_init_64 : decode cX9_init 64 = .ok (.putfield 44, 3) := by decide +kernel
theorem dX9_init_67 : decode cX9_init 67 = .ok (.aload_n 0, 1) := by decide +kernel
theorem dX9_init_68 : decode cX9_init 68 = .ok (.new 48, 3) := by decide +kernel
theorem dX9_init_71 : decode cX9_init 71 = .ok (.dup, 1) := by decide +kernel
theorem dX9_init_72 : decode cX9_init 72 = .ok (.invokespecial 50, 3) := by decide +kernel
theorem dX9_init_75 : decode cX9_init 75 = .ok (.putfield 51, 3) := by decide +kernel
theorem dX9_init_78 : decode cX9_init 78 = .ok (.aload_n 0, 1) := by decide +kernel
theorem dX9_init_79 : decode cX9_init 79 = .ok (.iconst 2, 1) := by decide +kernel
theorem dX9_init_80 : decode cX9_init 80 = .ok (.anewarray 20, 3) := by decide +kernel
theorem dX9_init_83 : decode cX9_init 83 = .ok (.dup, 1) := by decide +kernel
theorem dX9_init_84 : decode cX9_init 84 = .ok (.iconst 0, 1) := by decide +kernel
theorem dX9_init_85 : decode cX9_init 85 = .ok (.new 20, 3) := by decide +kernel
theorem dX9_init_88 : decode cX9_init 88 = .ok (.dup, 1) := by decide +kernel
theorem dX9_init_89 : decode cX9_init 89 = .ok (.invokespecial 22, 3) := by decide +kernel
theorem dX9_init_92 : decode cX9_init 92 = .ok (.aastore, 1) := by decide +kernel
theorem dX9_init_93 : decode cX9_init 93 = .ok (.dup, 1) := by decide +kernel
theorem dX9_init_94 : decode cX9_init 94 = .ok (.iconst 1, 1) := by decide +kernel
theorem dX9_init_95 : decode cX9_init 95 = .ok (.new 20, 3) := by decide +kernel
theorem dX9_init_98 : decode cX9_init 98 = .ok (.dup, 1) := by decide +kernel
theorem dX9_init_99 : decode cX9_init 99 = .ok (.invokespecial 22, 3) := by decide +kernel
theorem dX9_init_102 : decode cX9_init 102 = .ok (.aastore, 1) := by decide +kernel
theorem dX9_init_103 : decode cX9_init 103 = .ok (.putfield 55, 3) := by decide +kernel
theorem dX9_init_106 : decode cX9_init 106 = .ok (.aload_n 0, 1) := by decide +kernel
theorem dX9_init_107 : decode cX9_init 107 = .ok (.iconst 2, 1) := by decide +kernel
theorem dX9_init_108 : decode cX9_init 108 = .ok (.newarray .boolean, 2) := by decide +kernel
theorem dX9_init_110 : decode cX9_init 110 = .ok (.putfield 59, 3) := by decide +kernel
theorem dX9_init_113 : decode cX9_init 113 = .ok (.return_, 1) := by decide +kernel
set_option maxRecDepth 20000 in
theorem ggX9_append_X9_appendFour : GoodIn wsX9_append wsX9_appendFour := goodIn_r _ [6, 1, 7, 8, 9, 10, 11, 12, 13, 14, 15, 16, 17] (by decide +kernel) (by decide +kernel)
set_option maxRecDepth 20000 in
theorem gX9_append_X9_appendFour : GoodIn wsX9_append (wsV RX9 63 RX9 yX9_appendFour wsX9_appendFour) := goodIn_app (goodIn_of _ (by decide +kernel)) ggX9_append_X9_appendFour
theorem dX9_append_0 : decode cX9_append 0 = .ok (.aload_n 0, 1) := by decide +kernel
theorem dX9_append_1 : decode cX9_append 1 = .ok (.getfield 13, 3) := by decide +kernel
theorem dX9_append_4 : decode cX9_append 4 = .ok (.bipush 20, 2) := by decide +kernel
theorem dX9_append_6 : decode cX9_append 6 = .ok (.iadd, 1) := by decide +kernel
theorem dX9_append_7 : decode cX9_append 7 = .ok (.sipush 600, 3) := by decide +kernel
theorem dX9_append_10 : decode cX9_append 10 = .ok (.if_icmp .le 5, 3) := by decide +kernel
theorem dX9_append_13 : decode cX9_append 13 = .ok (.iconst (-1), 1) := by decide +kernel
theorem dX9_append_14 : decode cX9_append 14 = .ok (.ireturn, 1) := by decide +kernel
theorem dX9_append_15 : decode cX9_append 15 = .ok (.aload_n 0, 1) := by decide +kernel
theorem dX9_append_16 : decode cX9_append 16 = .ok (.iload_n 1, 1) := by decide +kernel
theorem dX9_append_17 : decode cX9_append 17 = .ok (.invokevirtual 63, 3) := by decide +kernel
theorem dX9_append_20 : decode cX9_append 20 = .ok (.aload_n 0, 1) := by decide +kernel
theorem dX9_append_21 : decode cX9_append 21 = .ok (.iload_n 2, 1) := by decide +kernel
theorem dX9_append_22 : decode cX9_append 22 = .ok (.invokevirtual 63, 3) := by decide +kernel
theorem dX9_append_25 : decode cX9_append 25 = .ok (.aload_n 0, 1) := by decide +kernel
theorem dX9_append_26 : decode cX9_append 26 = .ok (.iload_n 3, 1) := by decide +kernel
theorem dX9_append_27 : decode cX9_append 27 = .ok (.invokevirtual 63, 3) := by decide +kernel
theorem dX9_append_30 : decode cX9_append 30 = .ok (.aload_n 0, 1) := by decide +kernel
theorem dX9_append_31 : decode cX9_append 31 = .ok (.iload 4, 2) := by decide +kernel
theorem dX9_append_33 : decode cX9_append 33 = .ok (.invokevirtual 63, 3) := by decide +kernel
theorem dX9_append_36 : decode cX9_append 36 = .ok (.aload_n 0, 1) := by decide +kernel
theorem dX9_append_37 : decode cX9_append 37 = .ok (.iload 5, 2) := by decide +kernel
theorem dX9_append_39 : decode cX9_append 39 = .ok (.invokevirtual 63, 3) := by decide +kernel
theorem dX9_append_42 : decode cX9_append 42 = .ok (.aload_n 0, 1) := by decide +kernel
theorem dX9_append_43 : decode cX9_append 43 = .ok (.getfield 13, 3) := by decide +kernel
theorem dX9_append_46 : decode cX9_append 46 = .ok (.ireturn, 1) := by decide +kernel
set_option maxRecDepth 20000 in
theorem ggX9_parse_X5_readText : GoodIn wsX9_parse wsX5_readText := goodIn_r _ [16, 17, 18, 19, 20, 21, 22, 23, 24, 25, 26, 27, 28, 29, 30, 31, 32, 33, 34, 35, 36, 37, 38, 39, 40, 41, 42, 43, 44, 45, 46, 47, 48, 49, 50, 51, 52, 53, 15, 54, 55, 56, 57, 58, 59, 60, 61, 62, 63, 64, 65, 66, 67, 68, 69, 70, 71, 72, 73, 74, 75, 76, 77, 78, 79, 80, 81, 82, 83, 84, 85, 86, 87, 88, 89, 90, 91, 92, 93, 94, 95, 96, 97, 98, 99, 100, 101, 102, 103, 104, 105, 106, 107, 108, 109, 110, 111, 112, 113, 114, 115, 116, 117, 118, 119, 120, 121, 122, 123, 124, 125, 126, 127, 128, 129, 130, 131, 132, 133, 134, 135, 136, 137, 138, 139, 140, 141, 142, 143, 144, 145, 146, 147, 148, 149, 150, 151, 152, 153, 154, 155, 156, 157, 158, 159, 160, 161, 162, 163, 164, 165, 166, 167, 168, 169, 170, 171, 172, 173, 174, 175, 176, 177, 178, 179, 180, 181, 182, 183, 184, 185, 186, 187, 188, 189, 190, 191, 192, 193, 194, 195, 196, 197, 198, 199, 200, 201, 202, 203, 204, 205, 206, 207, 208, 209, 210, 211, 212, 213, 214, 215, 216, 217, 218, 219, 220, 221, 222, 223, 224, 225, 226, 227, 228, 229, 230, 231, 232, 233, 234, 235, 236, 237, 238, 239, 240, 241, 242, 243, 244, 245, 246, 247, 248, 249, 250, 251, 252, 253, 254, 255, 256, 257, 258, 259, 260, 261, 262, 263, 264, 265, 266, 267, 268, 269, 270, 271, 272, 273, 274, 275, 276, 277, 278, 279, 280, 281, 282, 283, 284, 285, 286, 287, 288, 289, 290, 291, 292, 293, 294, 295, 296, 297, 298, 299, 300, 301, 302, 303, 304, 305, 306, 307, 308, 309, 310, 311, 312, 313, 314, 315, 316, 317, 318, 319, 320, 357, 358, 359, 360, 361, 362, 363, 364, 365, 366, 367, 368, 369, 370, 371, 372, 373, 374, 375, 376, 377, 378, 379, 380, 381, 382, 383, 384, 385, 386, 387, 388, 389, 390, 391, 392, 393, 394, 395, 396, 397, 398, 399, 400, 401, 402, 403, 404, 405] (by decide +kernel) (by decide +kernel)
set_option maxRecDepth 20000 in
theorem gX9_parse_X5_readText : GoodIn wsX9_parse (wsV RX9 70 RX5 yX5_readText wsX5_readText) := goodIn_app (goodIn_of _ (by decide +kernel)) ggX9_parse_X5_readText
set_option maxRecDepth 20000 in
theorem ggX9_parse_X1_copyFrom : GoodIn wsX9_parse wsX1_copyFrom := goodIn_r _ [324, 230, 325, 24, 25, 26, 37, 38, 40, 42, 44, 45, 46, 326, 327, 328, 156, 329, 158, 167, 330, 172, 331, 332, 333, 181, 334, 183, 188, 335, 194, 195, 196, 197, 336, 337, 338, 207, 339, 209, 297, 340, 298, 299, 316, 368, 369, 370, 371, 372, 373, 374, 375, 376, 377, 378, 379, 380, 381, 382, 383, 384, 385, 386, 387, 388, 389] (by decide +kernel) (by decide +kernel)
set_option maxRecDepth 20000 in
theorem gX9_parse_X1_copyFrom : GoodIn wsX9_parse (wsV RX9 80 RX1 yX1_copyFrom wsX1_copyFrom) := goodIn_app (goodIn_of _ (by decide +kernel)) ggX9_parse_X1_copyFrom
set_option maxRecDepth 20000 in
theorem ggX9_parse_X3_forget : GoodIn wsX9_parse wsX3_forget := goodIn_r _ [345, 346, 406, 407] (by decide +kernel) (by decide +kernel)
set_option maxRecDepth 20000 in
theorem gX9_parse_X3_forget : GoodIn wsX9_parse (wsV RX9 84 RX3 yX3_forget wsX3_forget) := goodIn_app (goodIn_of _ (by decide +kernel)) ggX9_parse_X3_forget
theorem dX9_parse_0 : decode cX9_parse 0 = .ok (.iload_n 1, 1) := by decide +kernel
theorem dX9_parse_1 : decode cX9_parse 1 = .ok (.ifCond .lt 11, 3) := by decide +kernel
theorem dX9_parse_4 : decode cX9_parse 4 = .ok (.iload_n 1, 1) := by decide +kernel
theorem dX9_parse_5 : decode cX9_parse 5 = .ok (.aload_n 0, 1) := by decide +kernel
theorem dX9_parse_6 : decode cX9_parse 6 = .ok (.getfield 13, 3) := by decide +kernel
theorem dX9_parse_9 : decode cX9_parse 9 = .ok (.if_icmp .le 11, 3) := by decide +kernel
theorem dX9_parse_12 : decode cX9_parse 12 = .ok (.new 67, 3) := by decide +kernel
theorem dX9_parse_15 : decode cX9_parse 15 = .ok (.dup, 1) := by decide +kernel
theorem dX9_parse_16 : decode cX9_parse 16 = .ok (.invokespecial 69, 3) := by decide +kernel
theorem dX9_parse_19 : decode cX9_parse 19 = .ok (.athrow, 1) := by decide +kernel
theorem dX9_parse_20 : decode cX9_parse 20 = .ok (.aload_n 0, 1) := by decide +kernel
theorem dX9_parse_21 : decode cX9_parse 21 = .ok (.iconst 0, 1) := by decide +kernel
theorem dX9_parse_22 : decode cX9_parse 22 = .ok (.putfield 13, 3) := by decide +kernel
theorem dX9_parse_25 : decode cX9_parse 25 = .ok (.aload_n 0, 1) := by decide +kernel
theorem dX9_parse_26 : decode cX9_parse 26 = .ok (.getfield 30, 3) := by decide +kernel
theorem dX9_parse_29 : decode cX9_parse 29 = .ok (.aload_n 0, 1) := by decide +kernel
theorem dX9_parse_30 : decode cX9_parse 30 = .ok (.getfield 9, 3) := by decide +kernel
theorem dX9_parse_33 : decode cX9_parse 33 = .ok (.iload_n 1, 1) := by decide +kernel
theorem dX9_parse_34 : decode cX9_parse 34 = .ok (.invokevirtual 70, 3) := by decide +kernel
theorem dX9_parse_37 : decode cX9_parse 37 = .ok (.istore_n 2, 1) := by decide +kernel
theorem dX9_parse_38 : decode cX9_parse 38 = .ok (.iload_n 2, 1) := by decide +kernel
theorem dX9_parse_39 : decode cX9_parse 39 = .ok (.ifCond .eq 16, 3) := by decide +kernel
theorem dX9_parse_42 : decode cX9_parse 42 = .ok (.aload_n 0, 1) := by decide +kernel
theorem dX9_parse_43 : decode cX9_parse 43 = .ok (.aload_n 0, 1) := by decide +kernel
theorem dX9_parse_44 : decode cX9_parse 44 = .ok (.getfield 30, 3) := by decide +kernel
theorem dX9_parse_47 : decode cX9_parse 47 = .ok (.getfield 74, 3) := by decide +kernel
theorem dX9_parse_50 : decode cX9_parse 50 = .ok (.putfield 17, 3) := by decide +kernel
theorem dX9_parse_53 : decode cX9_parse 53 = .ok (.iload_n 2, 1) := by decide +kernel
theorem dX9_parse_54 : decode cX9_parse 54 = .ok (.ireturn, 1) := by decide +kernel
theorem dX9_parse_55 : decode cX9_parse 55 = .ok (.aload_n 0, 1) := by decide +kernel
theorem dX9_parse_56 : decode cX9_parse 56 = .ok (.iconst (-1), 1) := by decide +kernel
theorem dX9_parse_57 : decode cX9_parse 57 = .ok (.putfield 17, 3) := by decide +kernel
theorem dX9_parse_60 : decode cX9_parse 60 = .ok (.aload_n 0, 1) := by decide +kernel
theorem dX9_parse_61 : decode cX9_parse 61 = .ok (.getfield 23, 3) := by decide +kernel
theorem dX9_parse_64 : decode cX9_parse 64 = .ok (.aload_n 0, 1) := by decide +kernel
theorem dX9_parse_65 : decode cX9_parse 65 = .ok (.getfield 30, 3) := by decide +kernel
theorem dX9_parse_68 : decode cX9_parse 68 = .ok (.getfield 77, 3) := by decide +kernel
theorem dX9_parse_71 : decode cX9_parse 71 = .ok (.invokevirtual 80, 3) := by decide +kernel
theorem dX9_parse_74 : decode cX9_parse 74 = .ok (.aload_n 0, 1) := by decide +kernel
theorem dX9_parse_75 : decode cX9_parse 75 = .ok (.getfield 51, 3) := by decide +kernel
theorem dX9_parse_78 : decode cX9_parse 78 = .ok (.invokevirtual 84, 3) := by decide +kernel
theorem dX9_parse_81 : decode cX9_parse 81 = .ok (.iconst 0, 1) := by decide +kernel
theorem dX9_parse_82 : decode cX9_parse 82 = .ok (.istore_n 3, 1) := by decide +kernel
theorem dX9_parse_83 : decode cX9_parse 83 = .ok (.iload_n 3, 1) := by decide +kernel
theorem dX9_parse_84 : decode cX9_parse 84 = .ok (.iconst 2, 1) := by decide +kernel
theorem dX9_parse_85 : decode cX9_parse 85 = .ok (.if_icmp .ge 16, 3) := by decide +kernel
theorem dX9_parse_88 : decode cX9_parse 88 = .ok (.aload_n 0, 1) := by decide +kernel
theorem dX9_parse_89 : decode cX9_parse 89 = .ok (.getfield 59, 3) := by decide +kernel
theorem dX9_parse_92 : decode cX9_parse 92 = .ok (.iload_n 3, 1) := by decide +kernel
theorem dX9_parse_93 : decode cX9_parse 93 = .ok (.iconst 0, 1) := by decide +kernel
theorem dX9_parse_94 : decode cX9_parse 94 = .ok (.bastore, 1) := by decide +kernel
theorem dX9_parse_95 : decode cX9_parse 95 = .ok (.iinc 3 1, 3) := by decide +kernel
theorem dX9_parse_98 : decode cX9_parse 98 = .ok (.goto (-15), 3) := by decide +kernel
theorem dX9_parse_101 : decode cX9_parse 101 = .ok (.iconst 0, 1) := by decide +kernel
theorem dX9_parse_102 : decode cX9_parse 102 = .ok (.ireturn, 1) := by decide +kernel
theorem dX9_size_0 : decode cX9_size 0 = .ok (.iload_n 1, 1) := by decide +kernel
theorem dX9_size_1 : decode cX9_size 1 = .ok (.tableswitch 178 0 11 #[63, 74, 85, 96, 104, 112, 120, 130, 140, 150, 160, 170], 63) := by decide +kernel
theorem dX9_size_64 : decode cX9_size 64 = .ok (.aload_n 0, 1) := by decide +kernel
theorem dX9_size_65 : decode cX9_size 65 = .ok (.getfield 23, 3) := by decide +kernel
theorem dX9_size_68 : decode cX9_size 68 = .ok (.getfield 87, 3) := by decide +kernel
theorem dX9_size_71 : decode cX9_size 71 = .ok (.getfield 91, 3) := by decide +kernel
theorem dX9_size_74 : decode cX9_size 74 = .ok (.ireturn, 1) := by decide +kernel
theorem dX9_size_75 : decode cX9_size 75 = .ok (.aload_n 0, 1) := by decide +kernel
theorem dX9_size_76 : decode cX9_size 76 = .ok (.getfield 23, 3) := by decide +kernel
theorem dX9_size_79 : decode cX9_size 79 = .ok (.getfield 96, 3) := by decide +kernel
theorem dX9_size_82 : decode cX9_size 82 = .ok (.getfield 100, 3) := by decide +kernel
theorem dX9_size_85 : decode cX9_size 85 = .ok (.ireturn, 1) := by decide +kernel
theorem dX9_size_86 : decode cX9_size 86 = .ok (.aload_n 0, 1) := by decide +kernel
theorem dX9_size_87 : decode cX9_size 87 = .ok (.getfield 23, 3) := by decide +kernel
theorem dX9_size_90 : decode cX9_size 90 = .ok (.getfield 103, 3) := by decide +kernel
theorem dX9_size_93 : decode cX9_size 93 = .ok (.getfield 107, 3) := by decide +kernel
theorem dX9_size_96 : decode cX9_size 96 = .ok (.ireturn, 1) := by decide +kernel
theorem dX9_size_97 : decode cX9_size 97 = .ok (.aload_n 0, 1) := by decide +kernel
theorem dX9_size_98 : decode cX9_size 98 = .ok (.getfield 23, 3) := by decide +kernel
theorem dX9_size_101 : decode cX9_size 101 = .ok (.getfield 110, 3) := by decide +kernel
theorem dX9_size_104 : decode cX9_size 104 = .ok (.ireturn, 1) := by decide +kernel
theorem dX9_size_105 : decode cX9_size 105 = .ok (.aload_n 0, 1) := by decide +kernel
theorem dX9_size_106 : decode cX9_size 106 = .ok (.getfield 23, 3) := by decide +kernel
theorem dX9_size_109 : decode cX9_size 109 = .ok (.getfield 113, 3) := by decide +kernel
theorem dX9_size_112 : decode cX9_size 112 = .ok (.ireturn, 1) := by decide +kernel
theorem dX9_size_113 : decode cX9_size 113 = .ok (.aload_n 0, 1) := by decide +kernel
theorem dX9_size_114 : decode cX9_size 114 = .ok (.getfield 23, 3) := by decide +kernel
theorem dX9_size_117 : decode cX9_size 117 = .ok (.getfield 116, 3) := by decide +kernel
theorem dX9_size_120 : decode cX9_size 120 = .ok (.ireturn, 1) := by decide +kernel
theorem dX9_size_121 : decode cX9_size 121 = .ok (.aload_n 0, 1) := by decide +kernel
theorem dX9_size_122 : decode cX9_size 122 = .ok (.getfield 23, 3) := by decide +kernel
theorem dX9_size_125 : decode cX9_size 125 = .ok (.getfield 119, 3) := by decide +kernel
theorem dX9_size_128 : decode cX9_size 128 = .ok (.iconst 0, 1) := by decide +kernel
theorem dX9_size_129 : decode cX9_size 129 = .ok (.iaload, 1) := by decide +kernel
theorem dX9_size_130 : decode cX9_size 130 = .ok (.ireturn, 1) := by decide +kernel
theorem dX9_size_131 : decode cX9_size 131 = .ok (.aload_n 0, 1) := by decide +kernel
theorem dX9_size_132 : decode cX9_size 132 = .ok (.getfield 23, 3) := by decide +kernel
theorem dX9_size_135 : decode cX9_size 135 = .ok (.getfield 119, 3) := by decide +kernel
theorem dX9_size_138 : decode cX9_size 138 = .ok (.iconst 1, 1) := by decide +kernel
theorem dX9_size_139 : decode cX9_size 139 = .ok (.iaload, 1) := by decide +kernel
theorem dX9_size_140 : decode cX9_size 140 = .ok (.ireturn, 1) := by decide +kernel
theorem dX9_size_141 : decode cX9_size 141 = .ok (.aload_n 0, 1) := by decide +kernel
theorem dX9_size_142 : decode cX9_size 142 = .ok (.getfield 23, 3) := by decide +kernel
theorem dX9_size_145 : decode cX9_size 145 = .ok (.getfield 119, 3) := by decide +kernel
theorem dX9_size_148 : decode cX9_size 148 = .ok (.iconst 2, 1) := by decide +kernel
theorem dX9_size_149 : decode cX9_size 149 = .ok (.iaload, 1) := by decide +kernel
theorem dX9_size_150 : decode cX9_size 150 = .ok (.ireturn, 1) := by decide +kernel
theorem dX9_size_151 : decode cX9_size 151 = .ok (.aload_n 0, 1) := by decide +kernel
theorem dX9_size_152 : decode cX9_size 152 = .ok (.getfield 23, 3) := by decide +kernel
theorem dX9_size_155 : decode cX9_size 155 = .ok (.getfield 119, 3) := by decide +kernel
theorem dX9_size_158 : decode cX9_size 158 = .ok (.iconst 3, 1) := by decide +kernel
theorem dX9_size_159 : decode cX9_size 159 = .ok (.iaload, 1) := by decide +kernel
theorem dX9_size_160 : decode cX9_size 160 = .ok (.ireturn, 1) := by decide +kernel
theorem dX9_size_161 : decode cX9_size 161 = .ok (.aload_n 0, 1) := by decide +kernel
theorem dX9_size_162 : decode cX9_size 162 = .ok (.getfield 23, 3) := by decide +kernel
theorem dX9_size_165 : decode cX9_size 165 = .ok (.getfield 119, 3) := by decide +kernel
theorem dX9_size_168 : decode cX9_size 168 = .ok (.iconst 4, 1) := by decide +kernel
theorem dX9_size_169 : decode cX9_size 169 = .ok (.iaload, 1) := by decide +kernel
theorem dX9_size_170 : decode cX9_size 170 = .ok (.ireturn, 1) := by decide +kernel
theorem dX9_size_171 : decode cX9_size 171 = .ok (.aload_n 0, 1) := by decide +kernel
theorem dX9_size_172 : decode cX9_size 172 = .ok (.getfield 51, 3) := by decide +kernel
theorem dX9_size_175 : decode cX9_size 175 = .ok (.getfield 123, 3) := by decide +kernel
theorem dX9_size_178 : decode cX9_size 178 = .ok (.ireturn, 1) := by decide +kernel
theorem dX9_size_179 : decode cX9_size 179 = .ok (.new 67, 3) := by decide +kernel
theorem dX9_size_182 : decode cX9_size 182 = .ok (.dup, 1) := by decide +kernel
theorem dX9_size_183 : decode cX9_size 183 = .ok (.invokespecial 69, 3) := by decide +kernel
theorem dX9_size_186 : decode cX9_size 186 = .ok (.athrow, 1) := by decide +kernel
set_option maxRecDepth 20000 in
theorem ggX9_find_X9_takeWord : GoodIn wsX9_find wsX9_takeWord := goodIn_r _ [9, 10, 11, 12, 13, 14, 15, 16, 17, 18, 46, 47, 48, 49, 50, 51, 52, 53, 54, 55] (by decide +kernel) (by decide +kernel)
set_option maxRecDepth 20000 in
theorem gX9_find_X9_takeWord : GoodIn wsX9_find (wsV RX9 124 RX9 yX9_takeWord wsX9_takeWord) := goodIn_app (goodIn_of _ (by decide +kernel)) ggX9_find_X9_takeWord
set_option maxRecDepth 20000 in
theorem ggX9_find_X9_requireBelow : GoodIn wsX9_find wsX9_requireBelow := goodIn_ca (goodIn_r _ [22, 23, 24] (by decide +kernel) (by decide +kernel)) (goodIn_sub (fun _ h => List.mem_cons_of_mem _ (List.mem_append_right _ h)) (by decide +kernel))
set_option maxRecDepth 20000 in
theorem gX9_find_X9_requireBelow : GoodIn wsX9_find (wsV RX9 128 RX9 yX9_requireBelow wsX9_requireBelow) := goodIn_app (goodIn_of _ (by decide +kernel)) ggX9_find_X9_requireBelow
set_option maxRecDepth 20000 in
theorem ggX9_find_X7_numberOf : GoodIn wsX9_find wsX7_numberOf := goodIn_r _ [29, 30, 31, 64, 65, 66] (by decide +kernel) (by decide +kernel)
set_option maxRecDepth 20000 in
theorem gX9_find_X7_numberOf : GoodIn wsX9_find (wsV RX9 132 RX7 yX7_numberOf wsX7_numberOf) := goodIn_app (goodIn_of _ (by decide +kernel)) ggX9_find_X7_numberOf
set_option maxRecDepth 20000 in
theorem ggX9_find_X6_numberOf : GoodIn wsX9_find wsX6_numberOf := goodIn_r _ [36, 37, 38, 67, 68, 69, 70, 71, 72] (by decide +kernel) (by decide +kernel)
set_option maxRecDepth 20000 in
theorem gX9_find_X6_numberOf : GoodIn wsX9_find (wsV RX9 136 RX6 yX6_numberOf wsX6_numberOf) := goodIn_app (goodIn_of _ (by decide +kernel)) ggX9_find_X6_numberOf
set_option maxRecDepth 20000 in
theorem ggX9_find_X8_numberOf : GoodIn wsX9_find wsX8_numberOf := goodIn_r _ [43, 44, 45, 73, 74, 75, 76, 77] (by decide +kernel) (by decide +kernel)
set_option maxRecDepth 20000 in
theorem gX9_find_X8_numberOf : GoodIn wsX9_find (wsV RX9 137 RX8 yX8_numberOf wsX8_numberOf) := goodIn_app (goodIn_of _ (by decide +kernel)) ggX9_find_X8_numberOf
theorem dX9_find_0 : decode cX9_find 0 = .ok (.aload_n 0, 1) := by decide +kernel
theorem dX9_find_1 : decode cX9_find 1 = .ok (.invokevirtual 124, 3) := by decide +kernel
theorem dX9_find_4 : decode cX9_find 4 = .ok (.lstore_n 2, 1) := by decide +kernel
theorem dX9_find_5 : decode cX9_find 5 = .ok (.aload_n 0, 1) := by decide +kernel
theorem dX9_find_6 : decode cX9_find 6 = .ok (.iload_n 1, 1) := by decide +kernel
theorem dX9_find_7 : decode cX9_find 7 = .ok (.iconst 3, 1) := by decide +kernel
theorem dX9_find_8 : decode cX9_find 8 = .ok (.invokevirtual 128, 3) := by decide +kernel
theorem dX9_find_11 : decode cX9_find 11 = .ok (.lload_n 2, 1) := by decide +kernel
theorem dX9_find_12 : decode cX9_find 12 = .ok (.lconst 0, 1) := by decide +kernel
theorem dX9_find_13 : decode cX9_find 13 = .ok (.lcmp, 1) := by decide +kernel
theorem dX9_find_14 : decode cX9_find 14 = .ok (.ifCond .ne 5, 3) := by decide +kernel
theorem dX9_find_17 : decode cX9_find 17 = .ok (.iconst (-1), 1) := by decide +kernel
theorem dX9_find_18 : decode cX9_find 18 = .ok (.ireturn, 1) := by decide +kernel
theorem dX9_find_19 : decode cX9_find 19 = .ok (.iload_n 1, 1) := by decide +kernel
theorem dX9_find_20 : decode cX9_find 20 = .ok (.ifCond .ne 15, 3) := by decide +kernel
theorem dX9_find_23 : decode cX9_find 23 = .ok (.aload_n 0, 1) := by decide +kernel
theorem dX9_find_24 : decode cX9_find 24 = .ok (.getfield 23, 3) := by decide +kernel
theorem dX9_find_27 : decode cX9_find 27 = .ok (.getfield 87, 3) := by decide +kernel
theorem dX9_find_30 : decode cX9_find 30 = .ok (.lload_n 2, 1) := by decide +kernel
theorem dX9_find_31 : decode cX9_find 31 = .ok (.invokevirtual 132, 3) := by decide +kernel
theorem dX9_find_34 : decode cX9_find 34 = .ok (.ireturn, 1) := by decide +kernel
theorem dX9_find_35 : decode cX9_find 35 = .ok (.iload_n 1, 1) := by decide +kernel
theorem dX9_find_36 : decode cX9_find 36 = .ok (.iconst 1, 1) := by decide +kernel
theorem dX9_find_37 : decode cX9_find 37 = .ok (.if_icmp .ne 17, 3) := by decide +kernel
theorem dX9_find_40 : decode cX9_find 40 = .ok (.aload_n 0, 1) := by decide +kernel
theorem dX9_find_41 : decode cX9_find 41 = .ok (.getfield 23, 3) := by decide +kernel
theorem dX9_find_44 : decode cX9_find 44 = .ok (.getfield 96, 3) := by decide +kernel
theorem dX9_find_47 : decode cX9_find 47 = .ok (.lload_n 2, 1) := by decide +kernel
theorem dX9_find_48 : decode cX9_find 48 = .ok (.invokevirtual 136, 3) := by decide +kernel
theorem dX9_find_51 : decode cX9_find 51 = .ok (.goto 14, 3) := by decide +kernel
theorem dX9_find_54 : decode cX9_find 54 = .ok (.aload_n 0, 1) := by decide +kernel
theorem dX9_find_55 : decode cX9_find 55 = .ok (.getfield 23, 3) := by decide +kernel
theorem dX9_find_58 : decode cX9_find 58 = .ok (.getfield 103, 3) := by decide +kernel
theorem dX9_find_61 : decode cX9_find 61 = .ok (.lload_n 2, 1) := by decide +kernel
theorem dX9_find_62 : decode cX9_find 62 = .ok (.invokevirtual 137, 3) := by decide +kernel
theorem dX9_find_65 : decode cX9_find 65 = .ok (.ireturn, 1) := by decide +kernel
set_option maxRecDepth 20000 in
theorem ggX9_user_X9_requireUser : GoodIn wsX9_user wsX9_requireUser := goodIn_ca (goodIn_r _ [11, 12, 13, 3, 4, 14, 55, 56, 57, 58, 59, 60, 61, 62, 63, 64, 65, 66, 67, 68, 69, 70, 71, 72, 73, 74, 75] (by decide +kernel) (by decide +kernel)) (goodIn_sub (fun _ h => List.mem_cons_of_mem _ (List.mem_append_right _ h)) (by decide +kernel))
set_option maxRecDepth 20000 in
theorem gX9_user_X9_requireUser : GoodIn wsX9_user (wsV RX9 138 RX9 yX9_requireUser wsX9_requireUser) := goodIn_app (goodIn_of _ (by decide +kernel)) ggX9_user_X9_requireUser
set_option maxRecDepth 20000 in
theorem ggX9_user_X7_coinsOf : GoodIn wsX9_user wsX7_coinsOf := goodIn_r _ [19, 20, 21, 73, 74, 75] (by decide +kernel) (by decide +kernel)
set_option maxRecDepth 20000 in
theorem gX9_user_X7_coinsOf : GoodIn wsX9_user (wsV RX9 141 RX7 yX7_coinsOf wsX7_coinsOf) := goodIn_app (goodIn_of _ (by decide +kernel)) ggX9_user_X7_coinsOf
set_option maxRecDepth 20000 in
theorem ggX9_user_X8_countOf : GoodIn wsX9_user wsX8_countOf := goodIn_r _ [26, 27, 28, 76, 77, 78, 79, 80] (by decide +kernel) (by decide +kernel)
set_option maxRecDepth 20000 in
theorem gX9_user_X8_countOf : GoodIn wsX9_user (wsV RX9 145 RX8 yX8_countOf wsX8_countOf) := goodIn_app (goodIn_of _ (by decide +kernel)) ggX9_user_X8_countOf
set_option maxRecDepth 20000 in
theorem ggX9_user_X1_heldFor : GoodIn wsX9_user wsX1_heldFor := goodIn_r _ [33, 34, 35, 36, 37, 38, 39, 40, 32, 41, 42, 65, 66, 67, 68, 69, 70, 71, 72, 76, 77, 78, 79, 80] (by decide +kernel) (by decide +kernel)
set_option maxRecDepth 20000 in
theorem gX9_user_X1_heldFor : GoodIn wsX9_user (wsV RX9 148 RX1 yX1_heldFor wsX1_heldFor) := goodIn_app (goodIn_of _ (by decide +kernel)) ggX9_user_X1_heldFor
set_option maxRecDepth 20000 in
theorem ggX9_user_X6_ownedBy : GoodIn wsX9_user wsX6_ownedBy := goodIn_r _ [47, 48, 49, 81, 82, 83, 84, 85, 86] (by decide +kernel) (by decide +kernel)
set_option maxRecDepth 20000 in
theorem gX9_user_X6_ownedBy : GoodIn wsX9_user (wsV RX9 151 RX6 yX6_ownedBy wsX6_ownedBy) := goodIn_app (goodIn_of _ (by decide +kernel)) ggX9_user_X6_ownedBy
set_option maxRecDepth 20000 in
theorem ggX9_user_X6_pricesPaidBy : GoodIn wsX9_user wsX6_pricesPaidBy := goodIn_r _ [53, 48, 49, 54, 81, 82, 83, 84, 85, 86] (by decide +kernel) (by decide +kernel)
set_option maxRecDepth 20000 in
theorem gX9_user_X6_pricesPaidBy : GoodIn wsX9_user (wsV RX9 154 RX6 yX6_pricesPaidBy wsX6_pricesPaidBy) := goodIn_app (goodIn_of _ (by decide +kernel)) ggX9_user_X6_pricesPaidBy
theorem dX9_user_0 : decode cX9_user 0 = .ok (.aload_n 0, 1) := by decide +kernel
theorem dX9_user_1 : decode cX9_user 1 = .ok (.iload_n 1, 1) := by decide +kernel
theorem dX9_user_2 : decode cX9_user 2 = .ok (.invokevirtual 138, 3) := by decide +kernel
theorem dX9_user_5 : decode cX9_user 5 = .ok (.iload_n 2, 1) := by decide +kernel
theorem dX9_user_6 : decode cX9_user 6 = .ok (.tableswitch 91 0 4 #[34, 46, 58, 67, 79], 34) := by decide +kernel
theorem dX9_user_40 : decode cX9_user 40 = .ok (.aload_n 0, 1) := by decide +kernel
theorem dX9_user_41 : decode cX9_user 41 = .ok (.getfield 23, 3) := by decide +kernel
theorem dX9_user_44 : decode cX9_user 44 = .ok (.getfield 87, 3) := by decide +kernel
theorem dX9_user_47 : decode cX9_user 47 = .ok (.iload_n 1, 1) := by decide +kernel
theorem dX9_user_48 : decode cX9_user 48 = .ok (.invokevirtual 141, 3) := by decide +kernel
theorem dX9_user_51 : decode cX9_user 51 = .ok (.ireturn, 1) := by decide +kernel
theorem dX9_user_52 : decode cX9_user 52 = .ok (.aload_n 0, 1) := by decide +kernel
theorem dX9_user_53 : decode cX9_user 53 = .ok (.getfield 23, 3) := by decide +kernel
theorem dX9_user_56 : decode cX9_user 56 = .ok (.getfield 103, 3) := by decide +kernel
theorem dX9_user_59 : decode cX9_user 59 = .ok (.iload_n 1, 1) := by decide +kernel
theorem dX9_user_60 : decode cX9_user 60 = .ok (.invokevirtual 145, 3) := by decide +kernel
theorem dX9_user_63 : decode cX9_user 63 = .ok (.ireturn, 1) := by decide +kernel
theorem dX9_user_64 : decode cX9_user 64 = .ok (.aload_n 0, 1) := by decide +kernel
theorem dX9_user_65 : decode cX9_user 65 = .ok (.getfield 23, 3) := by decide +kernel
theorem dX9_user_68 : decode cX9_user 68 = .ok (.iload_n 1, 1) := by decide +kernel
theorem dX9_user_69 : decode cX9_user 69 = .ok (.invokevirtual 148, 3) := by decide +kernel
theorem dX9_user_72 : decode cX9_user 72 = .ok (.ireturn, 1) := by decide +kernel
theorem dX9_user_73 : decode cX9_user 73 = .ok (.aload_n 0, 1) := by decide +kernel
theorem dX9_user_74 : decode cX9_user 74 = .ok (.getfield 23, 3) := by decide +kernel
theorem dX9_user_77 : decode cX9_user 77 = .ok (.getfield 96, 3) := by decide +kernel
theorem dX9_user_80 : decode cX9_user 80 = .ok (.iload_n 1, 1) := by decide +kernel
theorem dX9_user_81 : decode cX9_user 81 = .ok (.invokevirtual 151, 3) := by decide +kernel
theorem dX9_user_84 : decode cX9_user 84 = .ok (.ireturn, 1) := by decide +kernel
theorem dX9_user_85 : decode cX9_user 85 = .ok (.aload_n 0, 1) := by decide +kernel
theorem dX9_user_86 : decode cX9_user 86 = .ok (.getfield 23, 3) := by decide +kernel
theorem dX9_user_89 : decode cX9_user 89 = .ok (.getfield 96, 3) := by decide +kernel
theorem dX9_user_92 : decode cX9_user 92 = .ok (.iload_n 1, 1) := by decide +kernel
theorem dX9_user_93 : decode cX9_user 93 = .ok (.invokevirtual 154, 3) := by decide +kernel
theorem dX9_user_96 : decode cX9_user 96 = .ok (.ireturn, 1) := by decide +kernel
theorem dX9_user_97 : decode cX9_user 97 = .ok (.new 67, 3) := by decide +kernel
theorem dX9_user_100 : decode cX9_user 100 = .ok (.dup, 1) := by decide +kernel
theorem dX9_user_101 : decode cX9_user 101 = .ok (.invokespecial 69, 3) := by decide +kernel
theorem dX9_user_104 : decode cX9_user 104 = .ok (.athrow, 1) := by decide +kernel
set_option maxRecDepth 20000 in
theorem ggX9_piece_X9_requirePiece : GoodIn wsX9_piece wsX9_requirePiece := goodIn_ca (goodIn_r _ [14, 15, 16, 3, 4, 17, 22, 23, 24, 25, 26, 27, 28, 29, 30, 31, 32, 33, 34, 35, 36, 37, 38, 39, 40, 41, 42, 43, 44, 45] (by decide +kernel) (by decide +kernel)) (goodIn_sub (fun _ h => List.mem_cons_of_mem _ (List.mem_append_right _ h)) (by decide +kernel))
set_option maxRecDepth 20000 in
theorem gX9_piece_X9_requirePiece : GoodIn wsX9_piece (wsV RX9 157 RX9 yX9_requirePiece wsX9_requirePiece) := goodIn_app (goodIn_of _ (by decide +kernel)) ggX9_piece_X9_requirePiece
set_option maxRecDepth 20000 in
theorem ggX9_piece_X4_lengthOf : GoodIn wsX9_piece wsX4_lengthOf := goodIn_r _ [21] (by decide +kernel) (by decide +kernel)
set_option maxRecDepth 20000 in
theorem gX9_piece_X4_lengthOf : GoodIn wsX9_piece (va_wsS RX9 164 yX4_lengthOf wsX4_lengthOf) := goodIn_app (goodIn_of _ (by decide +kernel)) ggX9_piece_X4_lengthOf
theorem dX9_piece_0 : decode cX9_piece 0 = .ok (.aload_n 0, 1) := by decide +kernel
theorem dX9_piece_1 : decode cX9_piece 1 = .ok (.iload_n 1, 1) := by decide +kernel
theorem dX9_piece_2 : decode cX9_piece 2 = .ok (.invokevirtual 157, 3) := by decide +kernel
theorem dX9_piece_5 : decode cX9_piece 5 = .ok (.iload_n 2, 1) := by decide +kernel
theorem dX9_piece_6 : decode cX9_piece 6 = .ok (.tableswitch 121 0 4 #[34, 50, 63, 76, 89], 34) := by decide +kernel
theorem dX9_piece_40 : decode cX9_piece 40 = .ok (.aload_n 0, 1) := by decide +kernel
theorem dX9_piece_41 : decode cX9_piece 41 = .ok (.getfield 23, 3) := by decide +kernel
theorem dX9_piece_44 : decode cX9_piece 44 = .ok (.getfield 96, 3) := by decide +kernel
theorem dX9_piece_47 : decode cX9_piece 47 = .ok (.getfield 160, 3) := by decide +kernel
theorem dX9_piece_50 : decode cX9_piece 50 = .ok (.iload_n 1, 1) := by decide +kernel
theorem dX9_piece_51 : decode cX9_piece 51 = .ok (.laload, 1) := by decide +kernel
theorem dX9_piece_52 : decode cX9_piece 52 = .ok (.invokestatic 164, 3) := by decide +kernel
theorem dX9_piece_55 : decode cX9_piece 55 = .ok (.ireturn, 1) := by decide +kernel
theorem dX9_piece_56 : decode cX9_piece 56 = .ok (.aload_n 0, 1) := by decide +kernel
theorem dX9_piece_57 : decode cX9_piece 57 = .ok (.getfield 23, 3) := by decide +kernel
theorem dX9_piece_60 : decode cX9_piece 60 = .ok (.getfield 96, 3) := by decide +kernel
theorem dX9_piece_63 : decode cX9_piece 63 = .ok (.getfield 169, 3) := by decide +kernel
theorem dX9_piece_66 : decode cX9_piece 66 = .ok (.iload_n 1, 1) := by decide +kernel
theorem dX9_piece_67 : decode cX9_piece 67 = .ok (.iaload, 1) := by decide +kernel
theorem dX9_piece_68 : decode cX9_piece 68 = .ok (.ireturn, 1) := by decide +kernel
theorem dX9_piece_69 : decode cX9_piece 69 = .ok (.aload_n 0, 1) := by decide +kernel
theorem dX9_piece_70 : decode cX9_piece 70 = .ok (.getfield 23, 3) := by decide +kernel
theorem dX9_piece_73 : decode cX9_piece 73 = .ok (.getfield 96, 3) := by decide +kernel
theorem dX9_piece_76 : decode cX9_piece 76 = .ok (.getfield 172, 3) := by decide +kernel
theorem dX9_piece_79 : decode cX9_piece 79 = .ok (.iload_n 1, 1) := by decide +kernel
theorem dX9_piece_80 : decode cX9_piece 80 = .ok (.iaload, 1) := by decide +kernel
theorem dX9_piece_81 : decode cX9_piece 81 = .ok (.ireturn, 1) := by decide +kernel
theorem dX9_piece_82 : decode cX9_piece 82 = .ok (.aload_n 0, 1) := by decide +kernel
theorem dX9_piece_83 : decode cX9_piece 83 = .ok (.getfield 23, 3) := by decide +kernel
theorem dX9_piece_86 : decode cX9_piece 86 = .ok (.getfield 96, 3) := by decide +kernel
theorem dX9_piece_89 : decode cX9_piece 89 = .ok (.getfield 175, 3) := by decide +kernel
theorem dX9_piece_92 : decode cX9_piece 92 = .ok (.iload_n 1, 1) := by decide +kernel
theorem dX9_piece_93 : decode cX9_piece 93 = .ok (.iaload, 1) := by decide +kernel
theorem dX9_piece_94 : decode cX9_piece 94 = .ok (.ireturn, 1) := by decide +kernel
theorem dX9_piece_95 : decode cX9_piece 95 = .ok (.aload_n 0, 1) := by decide +kernel
theorem dX9_piece_96 : decode cX9_piece 96 = .ok (.getfield 23, 3) := by decide +kernel
theorem dX9_piece_99 : decode cX9_piece 99 = .ok (.getfield 96, 3) := by decide +kernel
theorem dX9_piece_102 : decode cX9_piece 102 = .ok (.getfield 175, 3) := by decide +kernel
theorem dX9_piece_105 : decode cX9_piece 105 = .ok (.iload_n 1, 1) := by decide +kernel
theorem dX9_piece_106 : decode cX9_piece 106 = .ok (.iaload, 1) := by decide +kernel
theorem dX9_piece_107 : decode cX9_piece 107 = .ok (.ifCond .le 7, 3) := by decide +kernel
theorem dX9_piece_110 : decode cX9_piece 110 = .ok (.iconst (-1), 1) := by decide +kernel
theorem dX9_piece_111 : decode cX9_piece 111 = .ok (.goto 15, 3) := by decide +kernel
theorem dX9_piece_114 : decode cX9_piece 114 = .ok (.aload_n 0, 1) := by decide +kernel
theorem dX9_piece_115 : decode cX9_piece 115 = .ok (.getfield 23, 3) := by decide +kernel
theorem dX9_piece_118 : decode cX9_piece 118 = .ok (.getfield 96, 3) := by decide +kernel
theorem dX9_piece_121 : decode cX9_piece 121 = .ok (.getfield 178, 3) := by decide +kernel
theorem dX9_piece_124 : decode cX9_piece 124 = .ok (.iload_n 1, 1) := by decide +kernel
theorem dX9_piece_125 : decode cX9_piece 125 = .ok (.iaload, 1) := by decide +kernel
theorem dX9_piece_126 : decode cX9_piece 126 = .ok (.ireturn, 1) := by decide +kernel
theorem dX9_piece_127 : decode cX9_piece 127 = .ok (.new 67, 3) := by decide +kernel
theorem dX9_piece_130 : decode cX9_piece 130 = .ok (.dup, 1) := by decide +kernel
theorem dX9_piece_131 : decode cX9_piece 131 = .ok (.invokespecial 69, 3) := by decide +kernel
theorem dX9_piece_134 : decode cX9_piece 134 = .ok (.athrow, 1) := by decide +kernel
set_option maxRecDepth 20000 in
theorem ggX9_pieceLetter_X9_requirePiece : GoodIn wsX9_pieceLetter wsX9_requirePiece := goodIn_ca (goodIn_r _ [8, 9, 10, 1, 2, 11, 16, 17, 18, 19, 20, 21, 22, 23, 24, 25, 26, 27, 28, 29, 30, 31, 32, 33, 34, 35, 36, 37, 38, 39] (by decide +kernel) (by decide +kernel)) (goodIn_sub (fun _ h => List.mem_cons_of_mem _ (List.mem_append_right _ h)) (by decide +kernel))
set_option maxRecDepth 20000 in
theorem gX9_pieceLetter_X9_requirePiece : GoodIn wsX9_pieceLetter (wsV RX9 157 RX9 yX9_requirePiece wsX9_requirePiece) := goodIn_app (goodIn_of _ (by decide +kernel)) ggX9_pieceLetter_X9_requirePiece
set_option maxRecDepth 20000 in
theorem ggX9_pieceLetter_X4_letterAt : GoodIn wsX9_pieceLetter wsX4_letterAt := goodIn_r _ [15] (by decide +kernel) (by decide +kernel)
set_option maxRecDepth 20000 in
theorem gX9_pieceLetter_X4_letterAt : GoodIn wsX9_pieceLetter (va_wsS RX9 181 yX4_letterAt wsX4_letterAt) := goodIn_app (goodIn_of _ (by decide +kernel)) ggX9_pieceLetter_X4_letterAt
theorem dX9_pieceLetter_0 : decode cX9_pieceLetter 0 = .ok (.aload_n 0, 1) := by decide +kernel
theorem dX9_pieceLetter_1 : decode cX9_pieceLetter 1 = .ok (.iload_n 1, 1) := by decide +kernel
theorem dX9_pieceLetter_2 : decode cX9_pieceLetter 2 = .ok (.invokevirtual 157, 3) := by decide +kernel
theorem dX9_pieceLetter_5 : decode cX9_pieceLetter 5 = .ok (.aload_n 0, 1) := by decide +kernel
theorem dX9_pieceLetter_6 : decode cX9_pieceLetter 6 = .ok (.getfield 23, 3) := by decide +kernel
theorem dX9_pieceLetter_9 : decode cX9_pieceLetter 9 = .ok (.getfield 96, 3) := by decide +kernel
theorem dX9_pieceLetter_12 : decode cX9_pieceLetter 12 = .ok (.getfield 160, 3) := by decide +kernel
theorem dX9_pieceLetter_15 : decode cX9_pieceLetter 15 = .ok (.iload_n 1, 1) := by decide +kernel
theorem dX9_pieceLetter_16 : decode cX9_pieceLetter 16 = .ok (.laload, 1) := by decide +kernel
theorem dX9_pieceLetter_17 : decode cX9_pieceLetter 17 = .ok (.iload_n 2, 1) := by decide +kernel
theorem dX9_pieceLetter_18 : decode cX9_pieceLetter 18 = .ok (.invokestatic 181, 3) := by decide +kernel
theorem dX9_pieceLetter_21 : decode cX9_pieceLetter 21 = .ok (.ireturn, 1) := by decide +kernel
set_option maxRecDepth 20000 in
theorem ggX9_word_X9_requireWord : GoodIn wsX9_word wsX9_requireWord := goodIn_ca (goodIn_r _ [12, 13, 14, 3, 4, 15, 26, 27, 28, 29, 30, 31, 32, 33, 34, 35, 36, 37, 38, 39, 40, 41, 42, 43, 44, 45, 46, 47, 48] (by decide +kernel) (by decide +kernel)) (goodIn_sub (fun _ h => List.mem_cons_of_mem _ (List.mem_append_right _ h)) (by decide +kernel))
set_option maxRecDepth 20000 in
theorem gX9_word_X9_requireWord : GoodIn wsX9_word (wsV RX9 185 RX9 yX9_requireWord wsX9_requireWord) := goodIn_app (goodIn_of _ (by decide +kernel)) ggX9_word_X9_requireWord
set_option maxRecDepth 20000 in
theorem ggX9_word_X4_lengthOf : GoodIn wsX9_word wsX4_lengthOf := goodIn_r _ [19] (by decide +kernel) (by decide +kernel)
set_option maxRecDepth 20000 in
theorem gX9_word_X4_lengthOf : GoodIn wsX9_word (va_wsS RX9 164 yX4_lengthOf wsX4_lengthOf) := goodIn_app (goodIn_of _ (by decide +kernel)) ggX9_word_X4_lengthOf
set_option maxRecDepth 20000 in
theorem ggX9_word_X1_depositsFor : GoodIn wsX9_word wsX1_depositsFor := goodIn_r _ [24, 25, 36, 37, 38, 39, 40, 41, 42, 43] (by decide +kernel) (by decide +kernel)
set_option maxRecDepth 20000 in
theorem gX9_word_X1_depositsFor : GoodIn wsX9_word (wsV RX9 193 RX1 yX1_depositsFor wsX1_depositsFor) := goodIn_app (goodIn_of _ (by decide +kernel)) ggX9_word_X1_depositsFor
theorem dX9_word_0 : decode cX9_word 0 = .ok (.aload_n 0, 1) := by decide +kernel
theorem dX9_word_1 : decode cX9_word 1 = .ok (.iload_n 1, 1) := by decide +kernel
theorem dX9_word_2 : decode cX9_word 2 = .ok (.invokevirtual 185, 3) := by decide +kernel
theorem dX9_word_5 : decode cX9_word 5 = .ok (.iload_n 2, 1) := by decide +kernel
theorem dX9_word_6 : decode cX9_word 6 = .ok (.tableswitch 92 0 3 #[30, 43, 59, 72], 30) := by decide +kernel
theorem dX9_word_36 : decode cX9_word 36 = .ok (.aload_n 0, 1) := by decide +kernel
theorem dX9_word_37 : decode cX9_word 37 = .ok (.getfield 23, 3) := by decide +kernel
theorem dX9_word_40 : decode cX9_word 40 = .ok (.getfield 103, 3) := by decide +kernel
theorem dX9_word_43 : decode cX9_word 43 = .ok (.getfield 188, 3) := by decide +kernel
theorem dX9_word_46 : decode cX9_word 46 = .ok (.iload_n 1, 1) := by decide +kernel
theorem dX9_word_47 : decode cX9_word 47 = .ok (.iaload, 1) := by decide +kernel
theorem dX9_word_48 : decode cX9_word 48 = .ok (.ireturn, 1) := by decide +kernel
theorem dX9_word_49 : decode cX9_word 49 = .ok (.aload_n 0, 1) := by decide +kernel
theorem dX9_word_50 : decode cX9_word 50 = .ok (.getfield 23, 3) := by decide +kernel
theorem dX9_word_53 : decode cX9_word 53 = .ok (.getfield 103, 3) := by decide +kernel
theorem dX9_word_56 : decode cX9_word 56 = .ok (.getfield 189, 3) := by decide +kernel
theorem dX9_word_59 : decode cX9_word 59 = .ok (.iload_n 1, 1) := by decide +kernel
theorem dX9_word_60 : decode cX9_word 60 = .ok (.laload, 1) := by decide +kernel
theorem dX9_word_61 : decode cX9_word 61 = .ok (.invokestatic 164, 3) := by decide +kernel
theorem dX9_word_64 : decode cX9_word 64 = .ok (.ireturn, 1) := by decide +kernel
theorem dX9_word_65 : decode cX9_word 65 = .ok (.aload_n 0, 1) := by decide +kernel
theorem dX9_word_66 : decode cX9_word 66 = .ok (.getfield 23, 3) := by decide +kernel
theorem dX9_word_69 : decode cX9_word 69 = .ok (.getfield 103, 3) := by decide +kernel
theorem dX9_word_72 : decode cX9_word 72 = .ok (.getfield 190, 3) := by decide +kernel
theorem dX9_word_75 : decode cX9_word 75 = .ok (.iload_n 1, 1) := by decide +kernel
theorem dX9_word_76 : decode cX9_word 76 = .ok (.iaload, 1) := by decide +kernel
theorem dX9_word_77 : decode cX9_word 77 = .ok (.ireturn, 1) := by decide +kernel
theorem dX9_word_78 : decode cX9_word 78 = .ok (.aload_n 0, 1) := by decide +kernel
theorem dX9_word_79 : decode cX9_word 79 = .ok (.getfield 23, 3) := by decide +kernel
theorem dX9_word_82 : decode cX9_word 82 = .ok (.aload_n 0, 1) := by decide +kernel
theorem dX9_word_83 : decode cX9_word 83 = .ok (.getfield 23, 3) := by decide +kernel
theorem dX9_word_86 : decode cX9_word 86 = .ok (.getfield 103, 3) := by decide +kernel
theorem dX9_word_89 : decode cX9_word 89 = .ok (.getfield 190, 3) := by decide +kernel
theorem dX9_word_92 : decode cX9_word 92 = .ok (.iload_n 1, 1) := by decide +kernel
theorem dX9_word_93 : decode cX9_word 93 = .ok (.iaload, 1) := by decide +kernel
theorem dX9_word_94 : decode cX9_word 94 = .ok (.invokevirtual 193, 3) := by decide +kernel
theorem dX9_word_97 : decode cX9_word 97 = .ok (.ireturn, 1) := by decide +kernel
theorem dX9_word_98 : decode cX9_word 98 = .ok (.new 67, 3) := by decide +kernel
theorem dX9_word_101 : decode cX9_word 101 = .ok (.dup, 1) := by decide +kernel
theorem dX9_word_102 : decode cX9_word 102 = .ok (.invokespecial 69, 3) := by decide +kernel
theorem dX9_word_105 : decode cX9_word 105 = .ok (.athrow, 1) := by decide +kernel
set_option maxRecDepth 20000 in
theorem ggX9_wordLetter_X9_requireWord : GoodIn wsX9_wordLetter wsX9_requireWord := goodIn_ca (goodIn_r _ [6, 7, 8, 1, 9, 10, 39, 40, 41, 42, 43, 44, 45, 46, 47, 48, 49, 50, 51, 52, 53, 54, 55, 56, 57, 58, 59, 60, 61] (by decide +kernel) (by decide +kernel)) (goodIn_sub (fun _ h => List.mem_cons_of_mem _ (List.mem_append_right _ h)) (by decide +kernel))
set_option maxRecDepth 20000 in
theorem gX9_wordLetter_X9_requireWord : GoodIn wsX9_wordLetter (wsV RX9 185 RX9 yX9_requireWord wsX9_requireWord) := goodIn_app (goodIn_of _ (by decide +kernel)) ggX9_wordLetter_X9_requireWord
set_option maxRecDepth 20000 in
theorem ggX9_wordLetter_X1_madeUp : GoodIn wsX9_wordLetter wsX1_madeUp := goodIn_r _ [15, 16, 17, 18, 19, 20, 21, 22, 23, 24, 25, 26, 27, 28, 29, 30, 31, 32, 33, 34, 35, 49, 50, 51, 52, 53, 54, 55, 56, 57, 58, 59, 60, 61, 62, 63, 64, 65, 66, 67] (by decide +kernel) (by decide +kernel)
set_option maxRecDepth 20000 in
theorem gX9_wordLetter_X1_madeUp : GoodIn wsX9_wordLetter (wsV RX9 196 RX1 yX1_madeUp wsX1_madeUp) := goodIn_app (goodIn_of _ (by decide +kernel)) ggX9_wordLetter_X1_madeUp
set_option maxRecDepth 20000 in
theorem ggX9_wordLetter_X4_letterAt : GoodIn wsX9_wordLetter wsX4_letterAt := goodIn_r _ [38] (by decide +kernel) (by decide +kernel)
set_option maxRecDepth 20000 in
theorem gX9_wordLetter_X4_letterAt : GoodIn wsX9_wordLetter (va_wsS RX9 181 yX4_letterAt wsX4_letterAt) := goodIn_app (goodIn_of _ (by decide +kernel)) ggX9_wordLetter_X4_letterAt
theorem dX9_wordLetter_0 : decode cX9_wordLetter 0 = .ok (.aload_n 0, 1) := by decide +kernel
theorem dX9_wordLetter_1 : decode cX9_wordLetter 1 = .ok (.iload_n 1, 1) := by decide +kernel
theorem dX9_wordLetter_2 : decode cX9_wordLetter 2 = .ok (.invokevirtual 185, 3) := by decide +kernel
theorem dX9_wordLetter_5 : decode cX9_wordLetter 5 = .ok (.aload_n 0, 1) := by decide +kernel
theorem dX9_wordLetter_6 : decode cX9_wordLetter 6 = .ok (.getfield 23, 3) := by decide +kernel
theorem dX9_wordLetter_9 : decode cX9_wordLetter 9 = .ok (.iload_n 1, 1) := by decide +kernel
theorem dX9_wordLetter_10 : decode cX9_wordLetter 10 = .ok (.invokevirtual 196, 3) := by decide +kernel
theorem dX9_wordLetter_13 : decode cX9_wordLetter 13 = .ok (.iload_n 2, 1) := by decide +kernel
theorem dX9_wordLetter_14 : decode cX9_wordLetter 14 = .ok (.invokestatic 181, 3) := by decide +kernel
theorem dX9_wordLetter_17 : decode cX9_wordLetter 17 = .ok (.ireturn, 1) := by decide +kernel
set_option maxRecDepth 20000 in
theorem ggX9_part_X9_requireWord : GoodIn wsX9_part wsX9_requireWord := goodIn_ca (goodIn_r _ [7, 8, 9, 1, 2, 10, 19, 20, 21, 22, 23, 24, 25, 26, 27, 28, 29, 30, 31, 32, 33, 34, 35, 36, 37, 38, 39, 40, 41] (by decide +kernel) (by decide +kernel)) (goodIn_sub (fun _ h => List.mem_cons_of_mem _ (List.mem_append_right _ h)) (by decide +kernel))
set_option maxRecDepth 20000 in
theorem gX9_part_X9_requireWord : GoodIn wsX9_part (wsV RX9 185 RX9 yX9_requireWord wsX9_requireWord) := goodIn_app (goodIn_of _ (by decide +kernel)) ggX9_part_X9_requireWord
set_option maxRecDepth 20000 in
theorem ggX9_part_X8_partAt : GoodIn wsX9_part wsX8_partAt := goodIn_r _ [15, 16, 17, 18, 37, 38, 39, 40, 41] (by decide +kernel) (by decide +kernel)
set_option maxRecDepth 20000 in
theorem gX9_part_X8_partAt : GoodIn wsX9_part (wsV RX9 200 RX8 yX8_partAt wsX8_partAt) := goodIn_app (goodIn_of _ (by decide +kernel)) ggX9_part_X8_partAt
theorem dX9_part_0 : decode cX9_part 0 = .ok (.aload_n 0, 1) := by decide +kernel
theorem dX9_part_1 : decode cX9_part 1 = .ok (.iload_n 1, 1) := by decide +kernel
theorem dX9_part_2 : decode cX9_part 2 = .ok (.invokevirtual 185, 3) := by decide +kernel
theorem dX9_part_5 : decode cX9_part 5 = .ok (.aload_n 0, 1) := by decide +kernel
theorem dX9_part_6 : decode cX9_part 6 = .ok (.getfield 23, 3) := by decide +kernel
theorem dX9_part_9 : decode cX9_part 9 = .ok (.getfield 103, 3) := by decide +kernel
theorem dX9_part_12 : decode cX9_part 12 = .ok (.iload_n 1, 1) := by decide +kernel
theorem dX9_part_13 : decode cX9_part 13 = .ok (.iload_n 2, 1) := by decide +kernel
theorem dX9_part_14 : decode cX9_part 14 = .ok (.invokevirtual 200, 3) := by decide +kernel
theorem dX9_part_17 : decode cX9_part 17 = .ok (.ireturn, 1) := by decide +kernel
set_option maxRecDepth 20000 in
theorem ggX9_quote_X9_takeWord : GoodIn wsX9_quote wsX9_takeWord := goodIn_r _ [10, 11, 12, 13, 14, 15, 16, 17, 18, 19, 107, 108, 109, 110, 111, 112, 113, 114, 115, 116] (by decide +kernel) (by decide +kernel)
set_option maxRecDepth 20000 in
theorem gX9_quote_X9_takeWord : GoodIn wsX9_quote (wsV RX9 124 RX9 yX9_takeWord wsX9_takeWord) := goodIn_app (goodIn_of _ (by decide +kernel)) ggX9_quote_X9_takeWord
set_option maxRecDepth 20000 in
theorem ggX9_quote_X9_requireBelow : GoodIn wsX9_quote wsX9_requireBelow := goodIn_ca (goodIn_r _ [23, 24, 25] (by decide +kernel) (by decide +kernel)) (goodIn_sub (fun _ h => List.mem_cons_of_mem _ (List.mem_append_right _ h)) (by decide +kernel))
set_option maxRecDepth 20000 in
theorem gX9_quote_X9_requireBelow : GoodIn wsX9_quote (wsV RX9 128 RX9 yX9_requireBelow wsX9_requireBelow) := goodIn_app (goodIn_of _ (by decide +kernel)) ggX9_quote_X9_requireBelow
set_option maxRecDepth 20000 in
theorem ggX9_quote_X2_cutCheapest : GoodIn wsX9_quote wsX2_cutCheapest := goodIn_r _ [30, 31, 32, 33, 29, 34, 35, 36, 37, 38, 39, 40, 41, 42, 15, 43, 44, 45, 46, 47, 48, 49, 50, 51, 52, 53, 54, 55, 56, 57, 58, 59, 60, 61, 62, 63, 64, 65, 66, 67, 68, 69, 70, 71, 72, 73, 74, 75, 76, 77, 78, 79, 80, 81, 82, 83, 84, 85, 86, 87, 88, 89, 90, 91, 92, 93, 94, 95, 96, 97, 98, 117, 118, 119, 120, 121, 122, 123, 124, 125, 126, 127, 128, 129, 130, 131, 132, 133, 134, 135, 136, 137, 138, 139, 140, 141, 142] (by decide +kernel) (by decide +kernel)
set_option maxRecDepth 20000 in
theorem gX9_quote_X2_cutCheapest : GoodIn wsX9_quote (wsV RX9 204 RX2 yX2_cutCheapest wsX2_cutCheapest) := goodIn_app (goodIn_of _ (by decide +kernel)) ggX9_quote_X2_cutCheapest
set_option maxRecDepth 20000 in
theorem ggX9_quote_X1_costOf : GoodIn wsX9_quote wsX1_costOf := goodIn_r _ [102, 103, 104, 105, 45, 46, 47, 48, 49, 117, 118, 119, 120, 121, 122, 123, 124, 125, 126, 127, 128, 129, 130, 131, 132, 133, 134, 135, 136] (by decide +kernel) (by decide +kernel)
set_option maxRecDepth 20000 in
theorem gX9_quote_X1_costOf : GoodIn wsX9_quote (wsV RX9 208 RX1 yX1_costOf wsX1_costOf) := goodIn_app (goodIn_of _ (by decide +kernel)) ggX9_quote_X1_costOf
set_option maxRecDepth 20000 in
theorem ggX9_quote_X1_depositsFor : GoodIn wsX9_quote wsX1_depositsFor := goodIn_r _ [48, 49, 129, 130, 131, 132, 133, 134, 135, 136] (by decide +kernel) (by decide +kernel)
set_option maxRecDepth 20000 in
theorem gX9_quote_X1_depositsFor : GoodIn wsX9_quote (wsV RX9 193 RX1 yX1_depositsFor wsX1_depositsFor) := goodIn_app (goodIn_of _ (by decide +kernel)) ggX9_quote_X1_depositsFor
theorem dX9_quote_0 : decode cX9_quote 0 = .ok (.aload_n 0, 1) := by decide +kernel
theorem dX9_quote_1 : decode cX9_quote 1 = .ok (.invokevirtual 124, 3) := by decide +kernel
theorem dX9_quote_4 : decode cX9_quote 4 = .ok (.lstore_n 2, 1) := by decide +kernel
theorem dX9_quote_5 : decode cX9_quote 5 = .ok (.aload_n 0, 1) := by decide +kernel
theorem dX9_quote_6 : decode cX9_quote 6 = .ok (.iload_n 1, 1) := by decide +kernel
theorem dX9_quote_7 : decode cX9_quote 7 = .ok (.iconst 5, 1) := by decide +kernel
theorem dX9_quote_8 : decode cX9_quote 8 = .ok (.invokevirtual 128, 3) := by decide +kernel
theorem dX9_quote_11 : decode cX9_quote 11 = .ok (.lload_n 2, 1) := by decide +kernel
theorem dX9_quote_12 : decode cX9_quote 12 = .ok (.lconst 0, 1) := by decide +kernel
theorem dX9_quote_13 : decode cX9_quote 13 = .ok (.lcmp, 1) := by decide +kernel
theorem dX9_quote_14 : decode cX9_quote 14 = .ok (.ifCond .ne 5, 3) := by decide +kernel
theorem dX9_quote_17 : decode cX9_quote 17 = .ok (.iconst (-1), 1) := by decide +kernel
theorem dX9_quote_18 : decode cX9_quote 18 = .ok (.ireturn, 1) := by decide +kernel
theorem dX9_quote_19 : decode cX9_quote 19 = .ok (.aload_n 0, 1) := by decide +kernel
theorem dX9_quote_20 : decode cX9_quote 20 = .ok (.getfield 37, 3) := by decide +kernel
theorem dX9_quote_23 : decode cX9_quote 23 = .ok (.aload_n 0, 1) := by decide +kernel
theorem dX9_quote_24 : decode cX9_quote 24 = .ok (.getfield 23, 3) := by decide +kernel
theorem dX9_quote_27 : decode cX9_quote 27 = .ok (.lload_n 2, 1) := by decide +kernel
theorem dX9_quote_28 : decode cX9_quote 28 = .ok (.invokevirtual 204, 3) := by decide +kernel
theorem dX9_quote_31 : decode cX9_quote 31 = .ok (.iload_n 1, 1) := by decide +kernel
theorem dX9_quote_32 : decode cX9_quote 32 = .ok (.tableswitch 75 0 3 #[32, 44, 59, 67], 32) := by decide +kernel
theorem dX9_quote_64 : decode cX9_quote 64 = .ok (.aload_n 0, 1) := by decide +kernel
theorem dX9_quote_65 : decode cX9_quote 65 = .ok (.getfield 23, 3) := by decide +kernel
theorem dX9_quote_68 : decode cX9_quote 68 = .ok (.aload_n 0, 1) := by decide +kernel
theorem dX9_quote_69 : decode cX9_quote 69 = .ok (.getfield 37, 3) := by decide +kernel
theorem dX9_quote_72 : decode cX9_quote 72 = .ok (.invokevirtual 208, 3) := by decide +kernel
theorem dX9_quote_75 : decode cX9_quote 75 = .ok (.ireturn, 1) := by decide +kernel
theorem dX9_quote_76 : decode cX9_quote 76 = .ok (.aload_n 0, 1) := by decide +kernel
theorem dX9_quote_77 : decode cX9_quote 77 = .ok (.getfield 23, 3) := by decide +kernel
theorem dX9_quote_80 : decode cX9_quote 80 = .ok (.aload_n 0, 1) := by decide +kernel
theorem dX9_quote_81 : decode cX9_quote 81 = .ok (.getfield 37, 3) := by decide +kernel
theorem dX9_quote_84 : decode cX9_quote 84 = .ok (.getfield 212, 3) := by decide +kernel
theorem dX9_quote_87 : decode cX9_quote 87 = .ok (.invokevirtual 193, 3) := by decide +kernel
theorem dX9_quote_90 : decode cX9_quote 90 = .ok (.ireturn, 1) := by decide +kernel
theorem dX9_quote_91 : decode cX9_quote 91 = .ok (.aload_n 0, 1) := by decide +kernel
theorem dX9_quote_92 : decode cX9_quote 92 = .ok (.getfield 37, 3) := by decide +kernel
theorem dX9_quote_95 : decode cX9_quote 95 = .ok (.getfield 213, 3) := by decide +kernel
theorem dX9_quote_98 : decode cX9_quote 98 = .ok (.ireturn, 1) := by decide +kernel
theorem dX9_quote_99 : decode cX9_quote 99 = .ok (.aload_n 0, 1) := by decide +kernel
theorem dX9_quote_100 : decode cX9_quote 100 = .ok (.getfield 37, 3) := by decide +kernel
theorem dX9_quote_103 : decode cX9_quote 103 = .ok (.getfield 212, 3) := by decide +kernel
theorem dX9_quote_106 : decode cX9_quote 106 = .ok (.ireturn, 1) := by decide +kernel
theorem dX9_quote_107 : decode cX9_quote 107 = .ok (.aload_n 0, 1) := by decide +kernel
theorem dX9_quote_108 : decode cX9_quote 108 = .ok (.getfield 37, 3) := by decide +kernel
theorem dX9_quote_111 : decode cX9_quote 111 = .ok (.getfield 216, 3) := by decide +kernel
theorem dX9_quote_114 : decode cX9_quote 114 = .ok (.ireturn, 1) := by decide +kernel
set_option maxRecDepth 20000 in
theorem ggX9_whyNotStore_X9_takeWord : GoodIn wsX9_whyNotStore wsX9_takeWord := goodIn_r _ [7, 8, 9, 10, 11, 12, 13, 14, 15, 16, 127, 128, 129, 130, 131, 132, 133, 134, 135, 136] (by decide +kernel) (by decide +kernel)
set_option maxRecDepth 20000 in
theorem gX9_whyNotStore_X9_takeWord : GoodIn wsX9_whyNotStore (wsV RX9 124 RX9 yX9_takeWord wsX9_takeWord) := goodIn_app (goodIn_of _ (by decide +kernel)) ggX9_whyNotStore_X9_takeWord
set_option maxRecDepth 20000 in
theorem ggX9_whyNotStore_X9_requireUser : GoodIn wsX9_whyNotStore wsX9_requireUser := goodIn_ca (goodIn_r _ [20, 21, 22, 2, 23, 24, 127, 128, 129, 130, 131, 132, 133, 134, 135, 136, 137, 138, 139, 140, 141, 142, 143, 144, 145, 146, 147] (by decide +kernel) (by decide +kernel)) (goodIn_sub (fun _ h => List.mem_cons_of_mem _ (List.mem_append_right _ h)) (by decide +kernel))
set_option maxRecDepth 20000 in
theorem gX9_whyNotStore_X9_requireUser : GoodIn wsX9_whyNotStore (wsV RX9 138 RX9 yX9_requireUser wsX9_requireUser) := goodIn_app (goodIn_of _ (by decide +kernel)) ggX9_whyNotStore_X9_requireUser
set_option maxRecDepth 20000 in
theorem ggX9_whyNotStore_X2_cutCheapest : GoodIn wsX9_whyNotStore wsX2_cutCheapest := goodIn_r _ [29, 30, 31, 32, 28, 33, 34, 35, 36, 37, 38, 39, 40, 41, 12, 42, 43, 44, 45, 46, 47, 48, 49, 50, 51, 52, 53, 54, 55, 56, 57, 58, 59, 60, 61, 62, 63, 64, 65, 66, 67, 68, 69, 70, 71, 72, 73, 74, 75, 76, 77, 78, 79, 80, 81, 82, 83, 84, 85, 86, 87, 88, 89, 90, 91, 92, 93, 94, 95, 96, 97, 148, 149, 150, 151, 152, 153, 154, 155, 156, 157, 158, 159, 137, 138, 139, 140, 141, 142, 143, 144, 160, 161, 162, 163, 164, 165] (by decide +kernel) (by decide +kernel)
set_option maxRecDepth 20000 in
theorem gX9_whyNotStore_X2_cutCheapest : GoodIn wsX9_whyNotStore (wsV RX9 204 RX2 yX2_cutCheapest wsX2_cutCheapest) := goodIn_app (goodIn_of _ (by decide +kernel)) ggX9_whyNotStore_X2_cutCheapest
set_option maxRecDepth 20000 in
theorem ggX9_whyNotStore_X1_refusal : GoodIn wsX9_whyNotStore wsX1_refusal := goodIn_r _ [101, 102, 103, 104, 105, 106, 107, 108, 109, 110, 111, 112, 113, 114, 115, 116, 117, 118, 119, 120, 121, 122, 46, 123, 124, 125, 126, 44, 45, 47, 48, 137, 138, 139, 140, 141, 142, 143, 144, 160, 161, 162, 163, 164, 165, 148, 149, 150, 151, 152, 153, 154, 155, 156, 157, 158, 159, 166, 167, 168, 169, 170, 145, 146, 147] (by decide +kernel) (by decide +kernel)
set_option maxRecDepth 20000 in
theorem gX9_whyNotStore_X1_refusal : GoodIn wsX9_whyNotStore (wsV RX9 219 RX1 yX1_refusal wsX1_refusal) := goodIn_app (goodIn_of _ (by decide +kernel)) ggX9_whyNotStore_X1_refusal
theorem dX9_whyNotStore_0 : decode cX9_whyNotStore 0 = .ok (.aload_n 0, 1) := by decide +kernel
theorem dX9_whyNotStore_1 : decode cX9_whyNotStore 1 = .ok (.invokevirtual 124, 3) := by decide +kernel
theorem dX9_whyNotStore_4 : decode cX9_whyNotStore 4 = .ok (.lstore_n 2, 1) := by decide +kernel
theorem dX9_whyNotStore_5 : decode cX9_whyNotStore 5 = .ok (.aload_n 0, 1) := by decide +kernel
theorem dX9_whyNotStore_6 : decode cX9_whyNotStore 6 = .ok (.iload_n 1, 1) := by decide +kernel
theorem dX9_whyNotStore_7 : decode cX9_whyNotStore 7 = .ok (.invokevirtual 138, 3) := by decide +kernel
theorem dX9_whyNotStore_10 : decode cX9_whyNotStore 10 = .ok (.lload_n 2, 1) := by decide +kernel
theorem dX9_whyNotStore_11 : decode cX9_whyNotStore 11 = .ok (.lconst 0, 1) := by decide +kernel
theorem dX9_whyNotStore_12 : decode cX9_whyNotStore 12 = .ok (.lcmp, 1) := by decide +kernel
theorem dX9_whyNotStore_13 : decode cX9_whyNotStore 13 = .ok (.ifCond .ne 5, 3) := by decide +kernel
theorem dX9_whyNotStore_16 : decode cX9_whyNotStore 16 = .ok (.iconst 1, 1) := by decide +kernel
theorem dX9_whyNotStore_17 : decode cX9_whyNotStore 17 = .ok (.ireturn, 1) := by decide +kernel
theorem dX9_whyNotStore_18 : decode cX9_whyNotStore 18 = .ok (.aload_n 0, 1) := by decide +kernel
theorem dX9_whyNotStore_19 : decode cX9_whyNotStore 19 = .ok (.getfield 37, 3) := by decide +kernel
theorem dX9_whyNotStore_22 : decode cX9_whyNotStore 22 = .ok (.aload_n 0, 1) := by decide +kernel
theorem dX9_whyNotStore_23 : decode cX9_whyNotStore 23 = .ok (.getfield 23, 3) := by decide +kernel
theorem dX9_whyNotStore_26 : decode cX9_whyNotStore 26 = .ok (.lload_n 2, 1) := by decide +kernel
theorem dX9_whyNotStore_27 : decode cX9_whyNotStore 27 = .ok (.invokevirtual 204, 3) := by decide +kernel
theorem dX9_whyNotStore_30 : decode cX9_whyNotStore 30 = .ok (.aload_n 0, 1) := by decide +kernel
theorem dX9_whyNotStore_31 : decode cX9_whyNotStore 31 = .ok (.getfield 23, 3) := by decide +kernel
theorem dX9_whyNotStore_34 : decode cX9_whyNotStore 34 = .ok (.iload_n 1, 1) := by decide +kernel
theorem dX9_whyNotStore_35 : decode cX9_whyNotStore 35 = .ok (.aload_n 0, 1) := by decide +kernel
theorem dX9_whyNotStore_36 : decode cX9_whyNotStore 36 = .ok (.getfield 37, 3) := by decide +kernel
theorem dX9_whyNotStore_39 : decode cX9_whyNotStore 39 = .ok (.invokevirtual 219, 3) := by decide +kernel
theorem dX9_whyNotStore_42 : decode cX9_whyNotStore 42 = .ok (.ireturn, 1) := by decide +kernel
set_option maxRecDepth 20000 in
theorem ggX9_ways_X9_requireWord : GoodIn wsX9_ways wsX9_requireWord := goodIn_ca (goodIn_r _ [9, 10, 11, 2, 3, 12, 61, 62, 63, 64, 65, 66, 67, 68, 69, 70, 71, 72, 73, 74, 75, 76, 77, 78, 79, 80, 81, 82, 83] (by decide +kernel) (by decide +kernel)) (goodIn_sub (fun _ h => List.mem_cons_of_mem _ (List.mem_append_right _ h)) (by decide +kernel))
set_option maxRecDepth 20000 in
theorem gX9_ways_X9_requireWord : GoodIn wsX9_ways (wsV RX9 185 RX9 yX9_requireWord wsX9_requireWord) := goodIn_app (goodIn_of _ (by decide +kernel)) ggX9_ways_X9_requireWord
set_option maxRecDepth 20000 in
theorem ggX9_ways_X2_countWays : GoodIn wsX9_ways wsX2_countWays := goodIn_r _ [17, 18, 19, 20, 21, 22, 23, 24, 16, 25, 26, 27, 28, 29, 30, 31, 32, 33, 34, 35, 36, 37, 38, 39, 40, 41, 42, 43, 44, 45, 46, 47, 48, 49, 50, 51, 52, 53, 54, 55, 56, 57, 58, 59, 60, 84, 85, 86, 87, 88, 89, 90, 91, 92, 93, 94, 95, 71, 72, 73, 74, 75, 76, 77, 78, 96, 97, 98, 99, 100, 101] (by decide +kernel) (by decide +kernel)
set_option maxRecDepth 20000 in
theorem gX9_ways_X2_countWays : GoodIn wsX9_ways (wsV RX9 223 RX2 yX2_countWays wsX2_countWays) := goodIn_app (goodIn_of _ (by decide +kernel)) ggX9_ways_X2_countWays
theorem dX9_ways_0 : decode cX9_ways 0 = .ok (.aload_n 0, 1) := by decide +kernel
theorem dX9_ways_1 : decode cX9_ways 1 = .ok (.iload_n 1, 1) := by decide +kernel
theorem dX9_ways_2 : decode cX9_ways 2 = .ok (.invokevirtual 185, 3) := by decide +kernel
theorem dX9_ways_5 : decode cX9_ways 5 = .ok (.aload_n 0, 1) := by decide +kernel
theorem dX9_ways_6 : decode cX9_ways 6 = .ok (.getfield 37, 3) := by decide +kernel
theorem dX9_ways_9 : decode cX9_ways 9 = .ok (.aload_n 0, 1) := by decide +kernel
theorem dX9_ways_10 : decode cX9_ways 10 = .ok (.getfield 23, 3) := by decide +kernel
theorem dX9_ways_13 : decode cX9_ways 13 = .ok (.aload_n 0, 1) := by decide +kernel
theorem dX9_ways_14 : decode cX9_ways 14 = .ok (.getfield 23, 3) := by decide +kernel
theorem dX9_ways_17 : decode cX9_ways 17 = .ok (.getfield 103, 3) := by decide +kernel
theorem dX9_ways_20 : decode cX9_ways 20 = .ok (.getfield 189, 3) := by decide +kernel
theorem dX9_ways_23 : decode cX9_ways 23 = .ok (.iload_n 1, 1) := by decide +kernel
theorem dX9_ways_24 : decode cX9_ways 24 = .ok (.laload, 1) := by decide +kernel
theorem dX9_ways_25 : decode cX9_ways 25 = .ok (.invokevirtual 223, 3) := by decide +kernel
theorem dX9_ways_28 : decode cX9_ways 28 = .ok (.ireturn, 1) := by decide +kernel
set_option maxRecDepth 20000 in
theorem ggX9_fewest_X9_requireWord : GoodIn wsX9_fewest wsX9_requireWord := goodIn_ca (goodIn_r _ [5, 6, 7, 8, 9, 10, 82, 83, 84, 85, 86, 87, 88, 89, 90, 91, 92, 93, 94, 95, 96, 97, 98, 99, 100, 101, 102, 103, 104] (by decide +kernel) (by decide +kernel)) (goodIn_sub (fun _ h => List.mem_cons_of_mem _ (List.mem_append_right _ h)) (by decide +kernel))
set_option maxRecDepth 20000 in
theorem gX9_fewest_X9_requireWord : GoodIn wsX9_fewest (wsV RX9 185 RX9 yX9_requireWord wsX9_requireWord) := goodIn_app (goodIn_of _ (by decide +kernel)) ggX9_fewest_X9_requireWord
set_option maxRecDepth 20000 in
theorem ggX9_fewest_X9_fewestPieces : GoodIn wsX9_fewest wsX9_fewestPieces := goodIn_r _ [14, 15, 8, 9, 16, 17, 18, 19, 20, 21, 22, 23, 24, 25, 26, 27, 28, 29, 30, 31, 32, 33, 34, 35, 36, 37, 38, 39, 40, 41, 42, 43, 44, 45, 46, 47, 48, 49, 50, 51, 52, 53, 54, 55, 56, 57, 58, 59, 60, 61, 62, 63, 64, 65, 66, 67, 68, 69, 70, 71, 72, 73, 74, 75, 76, 77, 78, 79, 80, 81, 82, 83, 84, 85, 86, 87, 88, 89, 90, 91, 92, 93, 94, 95, 96, 97, 98, 99, 100, 101, 102, 103, 104, 105, 106, 107, 108, 109, 110, 111, 112, 113, 114, 115, 116, 117, 118, 119, 120, 121, 122] (by decide +kernel) (by decide +kernel)
set_option maxRecDepth 20000 in
theorem gX9_fewest_X9_fewestPieces : GoodIn wsX9_fewest (wsV RX9 227 RX9 yX9_fewestPieces wsX9_fewestPieces) := goodIn_app (goodIn_of _ (by decide +kernel)) ggX9_fewest_X9_fewestPieces
theorem dX9_fewest_0 : decode cX9_fewest 0 = .ok (.aload_n 0, 1) := by decide +kernel
theorem dX9_fewest_1 : decode cX9_fewest 1 = .ok (.iload_n 1, 1) := by decide +kernel
theorem dX9_fewest_2 : decode cX9_fewest 2 = .ok (.invokevirtual 185, 3) := by decide +kernel
theorem dX9_fewest_5 : decode cX9_fewest 5 = .ok (.aload_n 0, 1) := by decide +kernel
theorem dX9_fewest_6 : decode cX9_fewest 6 = .ok (.iload_n 1, 1) := by decide +kernel
theorem dX9_fewest_7 : decode cX9_fewest 7 = .ok (.invokevirtual 227, 3) := by decide +kernel
theorem dX9_fewest_10 : decode cX9_fewest 10 = .ok (.ireturn, 1) := by decide +kernel
set_option maxRecDepth 20000 in
theorem ggX9_saving_X9_requireWord : GoodIn wsX9_saving wsX9_requireWord := goodIn_ca (goodIn_r _ [8, 9, 10, 1, 2, 11, 84, 85, 86, 87, 88, 89, 90, 91, 92, 93, 94, 95, 96, 97, 98, 99, 100, 101, 102, 103, 104, 105, 106] (by decide +kernel) (by decide +kernel)) (goodIn_sub (fun _ h => List.mem_cons_of_mem _ (List.mem_append_right _ h)) (by decide +kernel))
set_option maxRecDepth 20000 in
theorem gX9_saving_X9_requireWord : GoodIn wsX9_saving (wsV RX9 185 RX9 yX9_requireWord wsX9_requireWord) := goodIn_app (goodIn_of _ (by decide +kernel)) ggX9_saving_X9_requireWord
set_option maxRecDepth 20000 in
theorem ggX9_saving_X9_fewestPieces : GoodIn wsX9_saving wsX9_fewestPieces := goodIn_r _ [15, 16, 1, 2, 17, 18, 19, 20, 21, 22, 23, 24, 25, 26, 27, 28, 29, 30, 31, 32, 33, 34, 35, 36, 37, 38, 39, 40, 41, 42, 43, 44, 45, 46, 47, 48, 49, 50, 51, 52, 53, 54, 55, 56, 57, 58, 59, 60, 61, 62, 63, 64, 65, 66, 67, 68, 69, 70, 71, 72, 73, 74, 75, 76, 77, 78, 79, 80, 81, 82, 84, 85, 86, 87, 88, 89, 90, 91, 92, 93, 94, 95, 96, 97, 98, 99, 100, 101, 102, 103, 104, 105, 106, 107, 108, 109, 110, 111, 112, 113, 114, 115, 116, 117, 118, 119, 120, 121, 122, 123, 124] (by decide +kernel) (by decide +kernel)
set_option maxRecDepth 20000 in
theorem gX9_saving_X9_fewestPieces : GoodIn wsX9_saving (wsV RX9 227 RX9 yX9_fewestPieces wsX9_fewestPieces) := goodIn_app (goodIn_of _ (by decide +kernel)) ggX9_saving_X9_fewestPieces
set_option maxRecDepth 20000 in
theorem ggX9_saving_X1_depositsFor : GoodIn wsX9_saving wsX1_depositsFor := goodIn_r _ [42, 43, 94, 95, 96, 97, 98, 99, 100, 101] (by decide +kernel) (by decide +kernel)
set_option maxRecDepth 20000 in
theorem gX9_saving_X1_depositsFor : GoodIn wsX9_saving (wsV RX9 193 RX1 yX1_depositsFor wsX1_depositsFor) := goodIn_app (goodIn_of _ (by decide +kernel)) ggX9_saving_X1_depositsFor
theorem dX9_saving_0 : decode cX9_saving 0 = .ok (.aload_n 0, 1) := by decide +kernel
theorem dX9_saving_1 : decode cX9_saving 1 = .ok (.iload_n 1, 1) := by decide +kernel
theorem dX9_saving_2 : decode cX9_saving 2 = .ok (.invokevirtual 185, 3) := by decide +kernel
theorem dX9_saving_5 : decode cX9_saving 5 = .ok (.aload_n 0, 1) := by decide +kernel
theorem dX9_saving_6 : decode cX9_saving 6 = .ok (.getfield 23, 3) := by decide +kernel
theorem dX9_saving_9 : decode cX9_saving 9 = .ok (.aload_n 0, 1) := by decide +kernel
theorem dX9_saving_10 : decode cX9_saving 10 = .ok (.getfield 23, 3) := by decide +kernel
theorem dX9_saving_13 : decode cX9_saving 13 = .ok (.getfield 103, 3) := by decide +kernel
theorem dX9_saving_16 : decode cX9_saving 16 = .ok (.getfield 190, 3) := by decide +kernel
theorem dX9_saving_19 : decode cX9_saving 19 = .ok (.iload_n 1, 1) := by decide +kernel
theorem dX9_saving_20 : decode cX9_saving 20 = .ok (.iaload, 1) := by decide +kernel
theorem dX9_saving_21 : decode cX9_saving 21 = .ok (.aload_n 0, 1) := by decide +kernel
theorem dX9_saving_22 : decode cX9_saving 22 = .ok (.iload_n 1, 1) := by decide +kernel
theorem dX9_saving_23 : decode cX9_saving 23 = .ok (.invokevirtual 227, 3) := by decide +kernel
theorem dX9_saving_26 : decode cX9_saving 26 = .ok (.isub, 1) := by decide +kernel
theorem dX9_saving_27 : decode cX9_saving 27 = .ok (.invokevirtual 193, 3) := by decide +kernel
theorem dX9_saving_30 : decode cX9_saving 30 = .ok (.ireturn, 1) := by decide +kernel
set_option maxRecDepth 20000 in
theorem ggX9_bestPart_X9_requireWord : GoodIn wsX9_bestPart wsX9_requireWord := goodIn_ca (goodIn_r _ [12, 13, 14, 2, 3, 15, 123, 124, 125, 126, 127, 128, 129, 130, 131, 132, 133, 134, 135, 136, 137, 138, 139, 140, 141, 142, 143, 144, 145] (by decide +kernel) (by decide +kernel)) (goodIn_sub (fun _ h => List.mem_cons_of_mem _ (List.mem_append_left _ (List.mem_append_right _ h))) (by decide +kernel))
set_option maxRecDepth 20000 in
theorem gX9_bestPart_X9_requireWord : GoodIn wsX9_bestPart (wsV RX9 185 RX9 yX9_requireWord wsX9_requireWord) := goodIn_app (goodIn_of _ (by decide +kernel)) ggX9_bestPart_X9_requireWord
set_option maxRecDepth 20000 in
theorem ggX9_bestPart_X9_requireBelow : GoodIn wsX9_bestPart wsX9_requireBelow := goodIn_ca (goodIn_r _ [19, 20, 21] (by decide +kernel) (by decide +kernel)) (goodIn_sub (fun _ h => List.mem_cons_of_mem _ (List.mem_append_right _ h)) (by decide +kernel))
set_option maxRecDepth 20000 in
theorem gX9_bestPart_X9_requireBelow : GoodIn wsX9_bestPart (wsV RX9 128 RX9 yX9_requireBelow wsX9_requireBelow) := goodIn_app (goodIn_of _ (by decide +kernel)) ggX9_bestPart_X9_requireBelow
set_option maxRecDepth 20000 in
theorem ggX9_bestPart_X0_weighParts : GoodIn wsX9_bestPart wsX0_weighParts := goodIn_r _ [26, 27, 28, 29, 30, 31, 32, 33, 34, 35, 36, 37, 25, 38, 39, 40, 41, 42, 43, 44, 45, 46, 47, 48, 49, 50, 51, 52, 53, 54, 55, 56, 57, 58, 59, 60, 61, 62, 63, 64, 65, 66, 67, 68, 69, 70, 71, 72, 73, 74, 75, 76, 77, 78, 79, 80, 81, 82, 83, 84, 85, 86, 87, 88, 89, 90, 91, 92, 93, 94, 95, 96, 97, 98, 99, 100, 101, 102, 103, 104, 105, 106, 107, 108, 109, 110, 111, 112, 113, 114, 115, 116, 117, 118, 119, 120, 121, 122, 133, 134, 135, 136, 137, 138, 139, 140, 141, 142, 143, 144, 145, 146, 147, 148, 149, 150, 151, 152, 153, 154, 155, 156, 157, 158, 159, 160, 161, 162, 163, 164, 165, 166, 167, 168, 169, 170, 171, 172] (by decide +kernel) (by decide +kernel)
set_option maxRecDepth 20000 in
theorem gX9_bestPart_X0_weighParts : GoodIn wsX9_bestPart (wsV RX9 230 RX0 yX0_weighParts wsX0_weighParts) := goodIn_app (goodIn_of _ (by decide +kernel)) ggX9_bestPart_X0_weighParts
theorem dX9_bestPart_0 : decode cX9_bestPart 0 = .ok (.aload_n 0, 1) := by decide +kernel
theorem dX9_bestPart_1 : decode cX9_bestPart 1 = .ok (.iload_n 1, 1) := by decide +kernel
theorem dX9_bestPart_2 : decode cX9_bestPart 2 = .ok (.invokevirtual 185, 3) := by decide +kernel
theorem dX9_bestPart_5 : decode cX9_bestPart 5 = .ok (.aload_n 0, 1) := by decide +kernel
theorem dX9_bestPart_6 : decode cX9_bestPart 6 = .ok (.iload_n 2, 1) := by decide +kernel
theorem dX9_bestPart_7 : decode cX9_bestPart 7 = .ok (.iconst 3, 1) := by decide +kernel
theorem dX9_bestPart_8 : decode cX9_bestPart 8 = .ok (.invokevirtual 128, 3) := by decide +kernel
theorem dX9_bestPart_11 : decode cX9_bestPart 11 = .ok (.aload_n 0, 1) := by decide +kernel
theorem dX9_bestPart_12 : decode cX9_bestPart 12 = .ok (.getfield 44, 3) := by decide +kernel
theorem dX9_bestPart_15 : decode cX9_bestPart 15 = .ok (.aload_n 0, 1) := by decide +kernel
theorem dX9_bestPart_16 : decode cX9_bestPart 16 = .ok (.getfield 23, 3) := by decide +kernel
theorem dX9_bestPart_19 : decode cX9_bestPart 19 = .ok (.aload_n 0, 1) := by decide +kernel
theorem dX9_bestPart_20 : decode cX9_bestPart 20 = .ok (.getfield 23, 3) := by decide +kernel
theorem dX9_bestPart_23 : decode cX9_bestPart 23 = .ok (.getfield 103, 3) := by decide +kernel
theorem dX9_bestPart_26 : decode cX9_bestPart 26 = .ok (.getfield 189, 3) := by decide +kernel
theorem dX9_bestPart_29 : decode cX9_bestPart 29 = .ok (.iload_n 1, 1) := by decide +kernel
theorem dX9_bestPart_30 : decode cX9_bestPart 30 = .ok (.laload, 1) := by decide +kernel
theorem dX9_bestPart_31 : decode cX9_bestPart 31 = .ok (.invokevirtual 230, 3) := by decide +kernel
theorem dX9_bestPart_34 : decode cX9_bestPart 34 = .ok (.aload_n 0, 1) := by decide +kernel
theorem dX9_bestPart_35 : decode cX9_bestPart 35 = .ok (.getfield 44, 3) := by decide +kernel
theorem dX9_bestPart_38 : decode cX9_bestPart 38 = .ok (.getfield 233, 3) := by decide +kernel
theorem dX9_bestPart_41 : decode cX9_bestPart 41 = .ok (.ifCond .ne 5, 3) := by decide +kernel
theorem dX9_bestPart_44 : decode cX9_bestPart 44 = .ok (.iconst (-1), 1) := by decide +kernel
theorem dX9_bestPart_45 : decode cX9_bestPart 45 = .ok (.ireturn, 1) := by decide +kernel
theorem dX9_bestPart_46 : decode cX9_bestPart 46 = .ok (.iload_n 2, 1) := by decide +kernel
theorem dX9_bestPart_47 : decode cX9_bestPart 47 = .ok (.ifCond .ne 11, 3) := by decide +kernel
theorem dX9_bestPart_50 : decode cX9_bestPart 50 = .ok (.aload_n 0, 1) := by decide +kernel
theorem dX9_bestPart_51 : decode cX9_bestPart 51 = .ok (.getfield 44, 3) := by decide +kernel
theorem dX9_bestPart_54 : decode cX9_bestPart 54 = .ok (.getfield 236, 3) := by decide +kernel
theorem dX9_bestPart_57 : decode cX9_bestPart 57 = .ok (.ireturn, 1) := by decide +kernel
theorem dX9_bestPart_58 : decode cX9_bestPart 58 = .ok (.iload_n 2, 1) := by decide +kernel
theorem dX9_bestPart_59 : decode cX9_bestPart 59 = .ok (.iconst 1, 1) := by decide +kernel
theorem dX9_bestPart_60 : decode cX9_bestPart 60 = .ok (.if_icmp .ne 13, 3) := by decide +kernel
theorem dX9_bestPart_63 : decode cX9_bestPart 63 = .ok (.aload_n 0, 1) := by decide +kernel
theorem dX9_bestPart_64 : decode cX9_bestPart 64 = .ok (.getfield 44, 3) := by decide +kernel
theorem dX9_bestPart_67 : decode cX9_bestPart 67 = .ok (.getfield 239, 3) := by decide +kernel
theorem dX9_bestPart_70 : decode cX9_bestPart 70 = .ok (.goto 10, 3) := by decide +kernel
theorem dX9_bestPart_73 : decode cX9_bestPart 73 = .ok (.aload_n 0, 1) := by decide +kernel
theorem dX9_bestPart_74 : decode cX9_bestPart 74 = .ok (.getfield 44, 3) := by decide +kernel
theorem dX9_bestPart_77 : decode cX9_bestPart 77 = .ok (.getfield 233, 3) := by decide +kernel
theorem dX9_bestPart_80 : decode cX9_bestPart 80 = .ok (.ireturn, 1) := by decide +kernel
set_option maxRecDepth 20000 in
theorem ggX9_shared_X9_requireWord : GoodIn wsX9_shared wsX9_requireWord := goodIn_ca (goodIn_r _ [9, 10, 11, 1, 4, 12, 25, 26, 27, 28, 29, 30, 31, 32, 33, 34, 35, 36, 37, 38, 39, 40, 41, 42, 49, 50, 51, 52, 53] (by decide +kernel) (by decide +kernel)) (goodIn_sub (fun _ h => List.mem_cons_of_mem _ (List.mem_append_right _ h)) (by decide +kernel))
set_option maxRecDepth 20000 in
theorem gX9_shared_X9_requireWord : GoodIn wsX9_shared (wsV RX9 185 RX9 yX9_requireWord wsX9_requireWord) := goodIn_app (goodIn_of _ (by decide +kernel)) ggX9_shared_X9_requireWord
set_option maxRecDepth 20000 in
theorem ggX9_shared_X8_usesIn : GoodIn wsX9_shared wsX8_usesIn := goodIn_r _ [17, 18, 19, 20, 21, 16, 22, 23, 24, 49, 50, 51, 52, 53] (by decide +kernel) (by decide +kernel)
set_option maxRecDepth 20000 in
theorem gX9_shared_X8_usesIn : GoodIn wsX9_shared (wsV RX9 242 RX8 yX8_usesIn wsX8_usesIn) := goodIn_app (goodIn_of _ (by decide +kernel)) ggX9_shared_X8_usesIn
theorem dX9_shared_0 : decode cX9_shared 0 = .ok (.aload_n 0, 1) := by decide +kernel
theorem dX9_shared_1 : decode cX9_shared 1 = .ok (.iload_n 1, 1) := by decide +kernel
theorem dX9_shared_2 : decode cX9_shared 2 = .ok (.invokevirtual 185, 3) := by decide +kernel
theorem dX9_shared_5 : decode cX9_shared 5 = .ok (.aload_n 0, 1) := by decide +kernel
theorem dX9_shared_6 : decode cX9_shared 6 = .ok (.iload_n 2, 1) := by decide +kernel
theorem dX9_shared_7 : decode cX9_shared 7 = .ok (.invokevirtual 185, 3) := by decide +kernel
theorem dX9_shared_10 : decode cX9_shared 10 = .ok (.iconst 0, 1) := by decide +kernel
theorem dX9_shared_11 : decode cX9_shared 11 = .ok (.istore_n 3, 1) := by decide +kernel
theorem dX9_shared_12 : decode cX9_shared 12 = .ok (.iconst 0, 1) := by decide +kernel
theorem dX9_shared_13 : decode cX9_shared 13 = .ok (.istore 4, 2) := by decide +kernel
theorem dX9_shared_15 : decode cX9_shared 15 = .ok (.iload 4, 2) := by decide +kernel
theorem dX9_shared_17 : decode cX9_shared 17 = .ok (.aload_n 0, 1) := by decide +kernel
theorem dX9_shared_18 : decode cX9_shared 18 = .ok (.getfield 23, 3) := by decide +kernel
theorem dX9_shared_21 : decode cX9_shared 21 = .ok (.getfield 96, 3) := by decide +kernel
theorem dX9_shared_24 : decode cX9_shared 24 = .ok (.getfield 100, 3) := by decide +kernel
theorem dX9_shared_27 : decode cX9_shared 27 = .ok (.if_icmp .ge 44, 3) := by decide +kernel
theorem dX9_shared_30 : decode cX9_shared 30 = .ok (.aload_n 0, 1) := by decide +kernel
theorem dX9_shared_31 : decode cX9_shared 31 = .ok (.getfield 23, 3) := by decide +kernel
theorem dX9_shared_34 : decode cX9_shared 34 = .ok (.getfield 103, 3) := by decide +kernel
theorem dX9_shared_37 : decode cX9_shared 37 = .ok (.iload_n 1, 1) := by decide +kernel
theorem dX9_shared_38 : decode cX9_shared 38 = .ok (.iload 4, 2) := by decide +kernel
theorem dX9_shared_40 : decode cX9_shared 40 = .ok (.invokevirtual 242, 3) := by decide +kernel
theorem dX9_shared_43 : decode cX9_shared 43 = .ok (.ifCond .le 22, 3) := by decide +kernel
theorem dX9_shared_46 : decode cX9_shared 46 = .ok (.aload_n 0, 1) := by decide +kernel
theorem dX9_shared_47 : decode cX9_shared 47 = .ok (.getfield 23, 3) := by decide +kernel
theorem dX9_shared_50 : decode cX9_shared 50 = .ok (.getfield 103, 3) := by decide +kernel
theorem dX9_shared_53 : decode cX9_shared 53 = .ok (.iload_n 2, 1) := by decide +kernel
theorem dX9_shared_54 : decode cX9_shared 54 = .ok (.iload 4, 2) := by decide +kernel
theorem dX9_shared_56 : decode cX9_shared 56 = .ok (.invokevirtual 242, 3) := by decide +kernel
theorem dX9_shared_59 : decode cX9_shared 59 = .ok (.ifCond .le 6, 3) := by decide +kernel
theorem dX9_shared_62 : decode cX9_shared 62 = .ok (.iinc 3 1, 3) := by decide +kernel
theorem dX9_shared_65 : decode cX9_shared 65 = .ok (.iinc 4 1, 3) := by decide +kernel
theorem dX9_shared_68 : decode cX9_shared 68 = .ok (.goto (-53), 3) := by decide +kernel
theorem dX9_shared_71 : decode cX9_shared 71 = .ok (.iload_n 3, 1) := by decide +kernel
theorem dX9_shared_72 : decode cX9_shared 72 = .ok (.ireturn, 1) := by decide +kernel
set_option maxRecDepth 20000 in
theorem ggX9_favourite_X6_mostUsed : GoodIn wsX9_favourite wsX6_mostUsed := goodIn_r _ [7, 8, 9, 28, 29, 30, 31, 32, 33] (by decide +kernel) (by decide +kernel)
set_option maxRecDepth 20000 in
theorem gX9_favourite_X6_mostUsed : GoodIn wsX9_favourite (wsV RX9 245 RX6 yX6_mostUsed wsX6_mostUsed) := goodIn_app (goodIn_of _ (by decide +kernel)) ggX9_favourite_X6_mostUsed
theorem dX9_favourite_0 : decode cX9_favourite 0 = .ok (.aload_n 0, 1) := by decide +kernel
theorem dX9_favourite_1 : decode cX9_favourite 1 = .ok (.getfield 23, 3) := by decide +kernel
theorem dX9_favourite_4 : decode cX9_favourite 4 = .ok (.getfield 96, 3) := by decide +kernel
theorem dX9_favourite_7 : decode cX9_favourite 7 = .ok (.invokevirtual 245, 3) := by decide +kernel
theorem dX9_favourite_10 : decode cX9_favourite 10 = .ok (.ireturn, 1) := by decide +kernel
set_option maxRecDepth 20000 in
theorem ggX9_richest_X7_coinsOf : GoodIn wsX9_richest wsX7_coinsOf := goodIn_r _ [8, 9, 10, 43, 44, 45] (by decide +kernel) (by decide +kernel)
set_option maxRecDepth 20000 in
theorem gX9_richest_X7_coinsOf : GoodIn wsX9_richest (wsV RX9 141 RX7 yX7_coinsOf wsX7_coinsOf) := goodIn_app (goodIn_of _ (by decide +kernel)) ggX9_richest_X7_coinsOf
set_option maxRecDepth 20000 in
theorem ggX9_richest_X1_heldFor : GoodIn wsX9_richest wsX1_heldFor := goodIn_r _ [15, 16, 17, 18, 19, 20, 21, 22, 14, 23, 24, 35, 36, 37, 38, 39, 40, 41, 42, 46, 47, 48, 49, 50] (by decide +kernel) (by decide +kernel)
set_option maxRecDepth 20000 in
theorem gX9_richest_X1_heldFor : GoodIn wsX9_richest (wsV RX9 148 RX1 yX1_heldFor wsX1_heldFor) := goodIn_app (goodIn_of _ (by decide +kernel)) ggX9_richest_X1_heldFor
theorem dX9_richest_0 : decode cX9_richest 0 = .ok (.iconst (-1), 1) := by decide +kernel
theorem dX9_richest_1 : decode cX9_richest 1 = .ok (.istore_n 1, 1) := by decide +kernel
theorem dX9_richest_2 : decode cX9_richest 2 = .ok (.iconst (-1), 1) := by decide +kernel
theorem dX9_richest_3 : decode cX9_richest 3 = .ok (.istore_n 2, 1) := by decide +kernel
theorem dX9_richest_4 : decode cX9_richest 4 = .ok (.iconst 0, 1) := by decide +kernel
theorem dX9_richest_5 : decode cX9_richest 5 = .ok (.istore_n 3, 1) := by decide +kernel
theorem dX9_richest_6 : decode cX9_richest 6 = .ok (.iload_n 3, 1) := by decide +kernel
theorem dX9_richest_7 : decode cX9_richest 7 = .ok (.aload_n 0, 1) := by decide +kernel
theorem dX9_richest_8 : decode cX9_richest 8 = .ok (.getfield 23, 3) := by decide +kernel
theorem dX9_richest_11 : decode cX9_richest 11 = .ok (.getfield 87, 3) := by decide +kernel
theorem dX9_richest_14 : decode cX9_richest 14 = .ok (.getfield 91, 3) := by decide +kernel
theorem dX9_richest_17 : decode cX9_richest 17 = .ok (.if_icmp .ge 42, 3) := by decide +kernel
theorem dX9_richest_20 : decode cX9_richest 20 = .ok (.aload_n 0, 1) := by decide +kernel
theorem dX9_richest_21 : decode cX9_richest 21 = .ok (.getfield 23, 3) := by decide +kernel
theorem dX9_richest_24 : decode cX9_richest 24 = .ok (.getfield 87, 3) := by decide +kernel
theorem dX9_richest_27 : decode cX9_richest 27 = .ok (.iload_n 3, 1) := by decide +kernel
theorem dX9_richest_28 : decode cX9_richest 28 = .ok (.invokevirtual 141, 3) := by decide +kernel
theorem dX9_richest_31 : decode cX9_richest 31 = .ok (.aload_n 0, 1) := by decide +kernel
theorem dX9_richest_32 : decode cX9_richest 32 = .ok (.getfield 23, 3) := by decide +kernel
theorem dX9_richest_35 : decode cX9_richest 35 = .ok (.iload_n 3, 1) := by decide +kernel
theorem dX9_richest_36 : decode cX9_richest 36 = .ok (.invokevirtual 148, 3) := by decide +kernel
theorem dX9_richest_39 : decode cX9_richest 39 = .ok (.iadd, 1) := by decide +kernel
theorem dX9_richest_40 : decode cX9_richest 40 = .ok (.istore 4, 2) := by decide +kernel
theorem dX9_richest_42 : decode cX9_richest 42 = .ok (.iload 4, 2) := by decide +kernel
theorem dX9_richest_44 : decode cX9_richest 44 = .ok (.iload_n 2, 1) := by decide +kernel
theorem dX9_richest_45 : decode cX9_richest 45 = .ok (.if_icmp .le 8, 3) := by decide +kernel
theorem dX9_richest_48 : decode cX9_richest 48 = .ok (.iload 4, 2) := by decide +kernel
theorem dX9_richest_50 : decode cX9_richest 50 = .ok (.istore_n 2, 1) := by decide +kernel
theorem dX9_richest_51 : decode cX9_richest 51 = .ok (.iload_n 3, 1) := by decide +kernel
theorem dX9_richest_52 : decode cX9_richest 52 = .ok (.istore_n 1, 1) := by decide +kernel
theorem dX9_richest_53 : decode cX9_richest 53 = .ok (.iinc 3 1, 3) := by decide +kernel
theorem dX9_richest_56 : decode cX9_richest 56 = .ok (.goto (-50), 3) := by decide +kernel
theorem dX9_richest_59 : decode cX9_richest 59 = .ok (.iload_n 1, 1) := by decide +kernel
theorem dX9_richest_60 : decode cX9_richest 60 = .ok (.ireturn, 1) := by decide +kernel
set_option maxRecDepth 20000 in
theorem ggX9_isWhole_X1_wordsAreMadeUp : GoodIn wsX9_isWhole wsX1_wordsAreMadeUp := goodIn_r _ [6, 7, 8, 9, 10, 11, 12, 5, 13, 14, 15, 16, 17, 18, 19, 20, 21, 22, 23, 24, 25, 26, 27, 28, 29, 30, 31, 32, 70, 71, 72, 73, 74, 75, 76, 77, 78, 79, 80, 81, 82, 83, 84, 85, 86, 87, 88] (by decide +kernel) (by decide +kernel)
set_option maxRecDepth 20000 in
theorem gX9_isWhole_X1_wordsAreMadeUp : GoodIn wsX9_isWhole (wsV RX9 249 RX1 yX1_wordsAreMadeUp wsX1_wordsAreMadeUp) := goodIn_app (goodIn_of _ (by decide +kernel)) ggX9_isWhole_X1_wordsAreMadeUp
set_option maxRecDepth 20000 in
theorem ggX9_isWhole_X1_usesAreTrue : GoodIn wsX9_isWhole wsX1_usesAreTrue := goodIn_r _ [36, 15, 16, 7, 8, 37, 38, 39, 40, 21, 41, 24, 42, 19, 20, 22, 23, 25, 70, 71, 72, 73, 74, 75, 76, 77, 83, 84, 85, 86, 87, 88, 78, 79, 80, 81, 82] (by decide +kernel) (by decide +kernel)
set_option maxRecDepth 20000 in
theorem gX9_isWhole_X1_usesAreTrue : GoodIn wsX9_isWhole (wsV RX9 253 RX1 yX1_usesAreTrue wsX1_usesAreTrue) := goodIn_app (goodIn_of _ (by decide +kernel)) ggX9_isWhole_X1_usesAreTrue
set_option maxRecDepth 20000 in
theorem ggX9_isWhole_X1_fundIsTrue : GoodIn wsX9_isWhole wsX1_fundIsTrue := goodIn_r _ [46, 47, 48, 49, 50, 51, 52, 5, 53, 7, 8, 54, 14, 55, 56, 57, 58, 59, 70, 71, 72, 73, 74, 75, 76, 77, 89, 90, 91, 78, 79, 80, 81, 82] (by decide +kernel) (by decide +kernel)
set_option maxRecDepth 20000 in
theorem gX9_isWhole_X1_fundIsTrue : GoodIn wsX9_isWhole (wsV RX9 256 RX1 yX1_fundIsTrue wsX1_fundIsTrue) := goodIn_app (goodIn_of _ (by decide +kernel)) ggX9_isWhole_X1_fundIsTrue
theorem dX9_isWhole_0 : decode cX9_isWhole 0 = .ok (.aload_n 0, 1) := by decide +kernel
theorem dX9_isWhole_1 : decode cX9_isWhole 1 = .ok (.getfield 23, 3) := by decide +kernel
theorem dX9_isWhole_4 : decode cX9_isWhole 4 = .ok (.invokevirtual 249, 3) := by decide +kernel
theorem dX9_isWhole_7 : decode cX9_isWhole 7 = .ok (.ifCond .eq 27, 3) := by decide +kernel
theorem dX9_isWhole_10 : decode cX9_isWhole 10 = .ok (.aload_n 0, 1) := by decide +kernel
theorem dX9_isWhole_11 : decode cX9_isWhole 11 = .ok (.getfield 23, 3) := by decide +kernel
theorem dX9_isWhole_14 : decode cX9_isWhole 14 = .ok (.invokevirtual 253, 3) := by decide +kernel
theorem dX9_isWhole_17 : decode cX9_isWhole 17 = .ok (.ifCond .eq 17, 3) := by decide +kernel
theorem dX9_isWhole_20 : decode cX9_isWhole 20 = .ok (.aload_n 0, 1) := by decide +kernel
theorem dX9_isWhole_21 : decode cX9_isWhole 21 = .ok (.getfield 23, 3) := by decide +kernel
theorem dX9_isWhole_24 : decode cX9_isWhole 24 = .ok (.invokevirtual 256, 3) := by decide +kernel
theorem dX9_isWhole_27 : decode cX9_isWhole 27 = .ok (.ifCond .eq 7, 3) := by decide +kernel
theorem dX9_isWhole_30 : decode cX9_isWhole 30 = .ok (.iconst 1, 1) := by decide +kernel
theorem dX9_isWhole_31 : decode cX9_isWhole 31 = .ok (.goto 4, 3) := by decide +kernel
theorem dX9_isWhole_34 : decode cX9_isWhole 34 = .ok (.iconst 0, 1) := by decide +kernel
theorem dX9_isWhole_35 : decode cX9_isWhole 35 = .ok (.ireturn, 1) := by decide +kernel
set_option maxRecDepth 20000 in
theorem ggX9_account_X9_requireBelow : GoodIn wsX9_account wsX9_requireBelow := goodIn_ca (goodIn_r _ [7, 8, 9] (by decide +kernel) (by decide +kernel)) (goodIn_sub (fun _ h => List.mem_cons_of_mem _ (List.mem_append_right _ h)) (by decide +kernel))
set_option maxRecDepth 20000 in
theorem gX9_account_X9_requireBelow : GoodIn wsX9_account (wsV RX9 128 RX9 yX9_requireBelow wsX9_requireBelow) := goodIn_app (goodIn_of _ (by decide +kernel)) ggX9_account_X9_requireBelow
theorem dX9_account_0 : decode cX9_account 0 = .ok (.aload_n 0, 1) := by decide +kernel
theorem dX9_account_1 : decode cX9_account 1 = .ok (.iload_n 1, 1) := by decide +kernel
theorem dX9_account_2 : decode cX9_account 2 = .ok (.bipush 6, 2) := by decide +kernel
theorem dX9_account_4 : decode cX9_account 4 = .ok (.invokevirtual 128, 3) := by decide +kernel
theorem dX9_account_7 : decode cX9_account 7 = .ok (.aload_n 0, 1) := by decide +kernel
theorem dX9_account_8 : decode cX9_account 8 = .ok (.getfield 23, 3) := by decide +kernel
theorem dX9_account_11 : decode cX9_account 11 = .ok (.getfield 259, 3) := by decide +kernel
theorem dX9_account_14 : decode cX9_account 14 = .ok (.iload_n 1, 1) := by decide +kernel
theorem dX9_account_15 : decode cX9_account 15 = .ok (.iaload, 1) := by decide +kernel
theorem dX9_account_16 : decode cX9_account 16 = .ok (.ireturn, 1) := by decide +kernel
set_option maxRecDepth 20000 in
theorem ggX9_store_X9_takeWord : GoodIn wsX9_store wsX9_takeWord := goodIn_r _ [12, 13, 14, 15, 16, 17, 18, 19, 20, 21, 211, 212, 213, 214, 215, 216, 217, 218, 219, 220] (by decide +kernel) (by decide +kernel)
set_option maxRecDepth 20000 in
theorem gX9_store_X9_takeWord : GoodIn wsX9_store (wsV RX9 124 RX9 yX9_takeWord wsX9_takeWord) := goodIn_app (goodIn_of _ (by decide +kernel)) ggX9_store_X9_takeWord
set_option maxRecDepth 20000 in
theorem ggX9_store_X9_requireUser : GoodIn wsX9_store wsX9_requireUser := goodIn_ca (goodIn_r _ [25, 26, 27, 6, 28, 29, 211, 212, 213, 214, 215, 216, 217, 218, 219, 220, 221, 222, 223, 224, 225, 226, 227, 228, 229, 230, 231] (by decide +kernel) (by decide +kernel)) (goodIn_sub (fun _ h => List.mem_cons_of_mem _ (List.mem_append_right _ h)) (by decide +kernel))
set_option maxRecDepth 20000 in
theorem gX9_store_X9_requireUser : GoodIn wsX9_store (wsV RX9 138 RX9 yX9_requireUser wsX9_requireUser) := goodIn_app (goodIn_of _ (by decide +kernel)) ggX9_store_X9_requireUser
set_option maxRecDepth 20000 in
theorem ggX9_store_X2_cutCheapest : GoodIn wsX9_store wsX2_cutCheapest := goodIn_r _ [34, 35, 36, 37, 33, 38, 39, 40, 41, 42, 43, 44, 45, 46, 17, 47, 48, 49, 50, 51, 52, 53, 54, 55, 56, 57, 58, 59, 60, 61, 62, 63, 64, 65, 66, 67, 68, 69, 70, 71, 72, 73, 74, 75, 76, 77, 78, 79, 80, 81, 82, 83, 84, 85, 86, 87, 88, 89, 90, 91, 92, 93, 94, 95, 96, 97, 98, 99, 100, 101, 102, 232, 233, 234, 235, 236, 237, 238, 239, 240, 241, 242, 243, 221, 222, 223, 224, 225, 226, 227, 228, 244, 245, 246, 247, 248, 249] (by decide +kernel) (by decide +kernel)
set_option maxRecDepth 20000 in
theorem gX9_store_X2_cutCheapest : GoodIn wsX9_store (wsV RX9 204 RX2 yX2_cutCheapest wsX2_cutCheapest) := goodIn_app (goodIn_of _ (by decide +kernel)) ggX9_store_X2_cutCheapest
set_option maxRecDepth 20000 in
theorem ggX9_store_X1_refusal : GoodIn wsX9_store wsX1_refusal := goodIn_r _ [106, 107, 108, 109, 110, 111, 112, 113, 114, 115, 116, 117, 118, 119, 120, 121, 122, 123, 124, 125, 126, 127, 51, 128, 129, 130, 131, 49, 50, 52, 53, 221, 222, 223, 224, 225, 226, 227, 228, 244, 245, 246, 247, 248, 249, 232, 233, 234, 235, 236, 237, 238, 239, 240, 241, 242, 243, 250, 251, 252, 253, 254, 229, 230, 231] (by decide +kernel) (by decide +kernel)
set_option maxRecDepth 20000 in
theorem gX9_store_X1_refusal : GoodIn wsX9_store (wsV RX9 219 RX1 yX1_refusal wsX1_refusal) := goodIn_app (goodIn_of _ (by decide +kernel)) ggX9_store_X1_refusal
set_option maxRecDepth 20000 in
theorem ggX9_store_X3_keep : GoodIn wsX9_store wsX3_keep := goodIn_r _ [136, 137, 138, 139, 140, 141, 135, 142, 143, 144, 145, 51, 146, 53, 147, 148, 149, 150, 151, 111, 108, 107, 152, 153, 154, 155, 156, 157, 121, 158, 123, 159, 160, 124, 161, 162, 163, 68, 164, 70, 71, 165, 166, 167, 168, 169, 170, 171, 172, 115, 173, 117, 174, 175, 176, 177, 178, 255, 256, 221, 222, 223, 224, 225, 226, 227, 228, 229, 230, 231, 244, 245, 246, 247, 248, 249, 250, 251, 252, 253, 254] (by decide +kernel) (by decide +kernel)
set_option maxRecDepth 20000 in
theorem gX9_store_X3_keep : GoodIn wsX9_store (wsV RX9 265 RX3 yX3_keep wsX3_keep) := goodIn_app (goodIn_of _ (by decide +kernel)) ggX9_store_X3_keep
set_option maxRecDepth 20000 in
theorem ggX9_store_X1_storeCutting : GoodIn wsX9_store wsX1_storeCutting := goodIn_r _ [182, 107, 130, 108, 183, 111, 154, 151, 184, 185, 186, 115, 187, 117, 174, 176, 177, 188, 66, 67, 68, 69, 70, 71, 189, 190, 191, 51, 192, 153, 152, 193, 46, 17, 47, 194, 73, 74, 75, 53, 195, 196, 197, 121, 198, 123, 124, 199, 200, 201, 202, 166, 167, 168, 169, 203, 204, 205, 206, 178, 207, 208, 209, 210, 131, 49, 50, 52, 221, 222, 223, 224, 225, 226, 227, 228, 232, 233, 234, 235, 236, 237, 238, 239, 240, 241, 242, 243, 250, 251, 252, 253, 254, 244, 245, 246, 247, 248, 249, 229, 230, 231] (by decide +kernel) (by decide +kernel)
set_option maxRecDepth 20000 in
theorem gX9_store_X1_storeCutting : GoodIn wsX9_store (wsV RX9 268 RX1 yX1_storeCutting wsX1_storeCutting) := goodIn_app (goodIn_of _ (by decide +kernel)) ggX9_store_X1_storeCutting
theorem dX9_store_0 : decode cX9_store 0 = .ok (.aload_n 0, 1) := by decide +kernel
theorem dX9_store_1 : decode cX9_store 1 = .ok (.invokevirtual 124, 3) := by decide +kernel
theorem dX9_store_4 : decode cX9_store 4 = .ok (.lstore_n 2, 1) := by decide +kernel
theorem dX9_store_5 : decode cX9_store 5 = .ok (.aload_n 0, 1) := by decide +kernel
theorem dX9_store_6 : decode cX9_store 6 = .ok (.iload_n 1, 1) := by decide +kernel
theorem dX9_store_7 : decode cX9_store 7 = .ok (.invokevirtual 138, 3) := by decide +kernel
theorem dX9_store_10 : decode cX9_store 10 = .ok (.lload_n 2, 1) := by decide +kernel
theorem dX9_store_11 : decode cX9_store 11 = .ok (.lconst 0, 1) := by decide +kernel
theorem dX9_store_12 : decode cX9_store 12 = .ok (.lcmp, 1) := by decide +kernel
theorem dX9_store_13 : decode cX9_store 13 = .ok (.ifCond .ne 11, 3) := by decide +kernel
theorem dX9_store_16 : decode cX9_store 16 = .ok (.new 67, 3) := by decide +kernel
theorem dX9_store_19 : decode cX9_store 19 = .ok (.dup, 1) := by decide +kernel
theorem dX9_store_20 : decode cX9_store 20 = .ok (.invokespecial 69, 3) := by decide +kernel
theorem dX9_store_23 : decode cX9_store 23 = .ok (.athrow, 1) := by decide +kernel
theorem dX9_store_24 : decode cX9_store 24 = .ok (.aload_n 0, 1) := by decide +kernel
theorem dX9_store_25 : decode cX9_store 25 = .ok (.getfield 37, 3) := by decide +kernel
theorem dX9_store_28 : decode cX9_store 28 = .ok (.aload_n 0, 1) := by decide +kernel
theorem dX9_store_29 : decode cX9_store 29 = .ok (.getfield 23, 3) := by decide +kernel
theorem dX9_store_32 : decode cX9_store 32 = .ok (.lload_n 2, 1) := by decide +kernel
theorem dX9_store_33 : decode cX9_store 33 = .ok (.invokevirtual 204, 3) := by decide +kernel
theorem dX9_store_36 : decode cX9_store 36 = .ok (.aload_n 0, 1) := by decide +kernel
theorem dX9_store_37 : decode cX9_store 37 = .ok (.getfield 23, 3) := by decide +kernel
theorem dX9_store_40 : decode cX9_store 40 = .ok (.iload_n 1, 1) := by decide +kernel
theorem dX9_store_41 : decode cX9_store 41 = .ok (.aload_n 0, 1) := by decide +kernel
theorem dX9_store_42 : decode cX9_store 42 = .ok (.getfield 37, 3) := by decide +kernel
theorem dX9_store_45 : decode cX9_store 45 = .ok (.invokevirtual 219, 3) := by decide +kernel
theorem dX9_store_48 : decode cX9_store 48 = .ok (.ifCond .eq 11, 3) := by decide +kernel
theorem dX9_store_51 : decode cX9_store 51 = .ok (.new 262, 3) := by decide +kernel
theorem dX9_store_54 : decode cX9_store 54 = .ok (.dup, 1) := by decide +kernel
theorem dX9_store_55 : decode cX9_store 55 = .ok (.invokespecial 264, 3) := by decide +kernel
theorem dX9_store_58 : decode cX9_store 58 = .ok (.athrow, 1) := by decide +kernel
theorem dX9_store_59 : decode cX9_store 59 = .ok (.aload_n 0, 1) := by decide +kernel
theorem dX9_store_60 : decode cX9_store 60 = .ok (.getfield 51, 3) := by decide +kernel
theorem dX9_store_63 : decode cX9_store 63 = .ok (.aload_n 0, 1) := by decide +kernel
theorem dX9_store_64 : decode cX9_store 64 = .ok (.getfield 23, 3) := by decide +kernel
theorem dX9_store_67 : decode cX9_store 67 = .ok (.invokevirtual 265, 3) := by decide +kernel
theorem dX9_store_70 : decode cX9_store 70 = .ok (.aload_n 0, 1) := by decide +kernel
theorem dX9_store_71 : decode cX9_store 71 = .ok (.getfield 23, 3) := by decide +kernel
theorem dX9_store_74 : decode cX9_store 74 = .ok (.iload_n 1, 1) := by decide +kernel
theorem dX9_store_75 : decode cX9_store 75 = .ok (.lload_n 2, 1) := by decide +kernel
theorem dX9_store_76 : decode cX9_store 76 = .ok (.aload_n 0, 1) := by decide +kernel
theorem dX9_store_77 : decode cX9_store 77 = .ok (.getfield 37, 3) := by decide +kernel
theorem dX9_store_80 : decode cX9_store 80 = .ok (.invokevirtual 268, 3) := by decide +kernel
theorem dX9_store_83 : decode cX9_store 83 = .ok (.ireturn, 1) := by decide +kernel
set_option maxRecDepth 20000 in
theorem ggX9_remove_X9_requireWord : GoodIn wsX9_remove wsX9_requireWord := goodIn_ca (goodIn_r _ [10, 11, 12, 2, 3, 13, 108, 109, 110, 111, 112, 113, 114, 115, 116, 117, 118, 119, 120, 121, 122, 123, 124, 125, 126, 127, 128, 129, 130] (by decide +kernel) (by decide +kernel)) (goodIn_sub (fun _ h => List.mem_cons_of_mem _ (List.mem_append_right _ h)) (by decide +kernel))
set_option maxRecDepth 20000 in
theorem gX9_remove_X9_requireWord : GoodIn wsX9_remove (wsV RX9 185 RX9 yX9_requireWord wsX9_requireWord) := goodIn_app (goodIn_of _ (by decide +kernel)) ggX9_remove_X9_requireWord
set_option maxRecDepth 20000 in
theorem ggX9_remove_X3_keep : GoodIn wsX9_remove wsX3_keep := goodIn_r _ [18, 19, 20, 21, 22, 23, 17, 24, 25, 26, 27, 28, 29, 30, 31, 32, 33, 34, 35, 36, 37, 38, 39, 40, 41, 42, 43, 44, 45, 46, 47, 48, 49, 50, 51, 52, 53, 54, 55, 56, 57, 58, 59, 60, 61, 62, 63, 64, 65, 66, 67, 68, 69, 70, 71, 72, 73, 131, 132, 118, 119, 120, 121, 122, 123, 124, 125, 133, 134, 135, 136, 137, 138, 139, 140, 141, 126, 127, 128, 129, 130] (by decide +kernel) (by decide +kernel)
set_option maxRecDepth 20000 in
theorem gX9_remove_X3_keep : GoodIn wsX9_remove (wsV RX9 265 RX3 yX3_keep wsX3_keep) := goodIn_app (goodIn_of _ (by decide +kernel)) ggX9_remove_X3_keep
set_option maxRecDepth 20000 in
theorem ggX9_remove_X1_endWord : GoodIn wsX9_remove wsX1_endWord := goodIn_r _ [77, 38, 78, 37, 39, 79, 80, 81, 82, 66, 83, 68, 72, 73, 84, 85, 86, 54, 87, 56, 61, 62, 88, 89, 90, 28, 91, 30, 92, 93, 94, 95, 36, 41, 35, 96, 97, 98, 45, 99, 47, 50, 100, 101, 102, 103, 69, 70, 32, 33, 34, 71, 118, 119, 120, 121, 122, 123, 124, 125, 126, 127, 128, 129, 130, 136, 137, 138, 139, 140, 141, 133, 134, 135] (by decide +kernel) (by decide +kernel)
set_option maxRecDepth 20000 in
theorem gX9_remove_X1_endWord : GoodIn wsX9_remove (wsV RX9 272 RX1 yX1_endWord wsX1_endWord) := goodIn_app (goodIn_of _ (by decide +kernel)) ggX9_remove_X1_endWord
set_option maxRecDepth 20000 in
theorem ggX9_remove_X7_coinsOf : GoodIn wsX9_remove wsX7_coinsOf := goodIn_r _ [107, 47, 50, 133, 134, 135] (by decide +kernel) (by decide +kernel)
set_option maxRecDepth 20000 in
theorem gX9_remove_X7_coinsOf : GoodIn wsX9_remove (wsV RX9 141 RX7 yX7_coinsOf wsX7_coinsOf) := goodIn_app (goodIn_of _ (by decide +kernel)) ggX9_remove_X7_coinsOf
theorem dX9_remove_0 : decode cX9_remove 0 = .ok (.aload_n 0, 1) := by decide +kernel
theorem dX9_remove_1 : decode cX9_remove 1 = .ok (.iload_n 1, 1) := by decide +kernel
theorem dX9_remove_2 : decode cX9_remove 2 = .ok (.invokevirtual 185, 3) := by decide +kernel
theorem dX9_remove_5 : decode cX9_remove 5 = .ok (.aload_n 0, 1) := by decide +kernel
theorem dX9_remove_6 : decode cX9_remove 6 = .ok (.getfield 51, 3) := by decide +kernel
theorem dX9_remove_9 : decode cX9_remove 9 = .ok (.aload_n 0, 1) := by decide +kernel
theorem dX9_remove_10 : decode cX9_remove 10 = .ok (.getfield 23, 3) := by decide +kernel
theorem dX9_remove_13 : decode cX9_remove 13 = .ok (.invokevirtual 265, 3) := by decide +kernel
theorem dX9_remove_16 : decode cX9_remove 16 = .ok (.aload_n 0, 1) := by decide +kernel
theorem dX9_remove_17 : decode cX9_remove 17 = .ok (.getfield 23, 3) := by decide +kernel
theorem dX9_remove_20 : decode cX9_remove 20 = .ok (.getfield 103, 3) := by decide +kernel
theorem dX9_remove_23 : decode cX9_remove 23 = .ok (.getfield 188, 3) := by decide +kernel
theorem dX9_remove_26 : decode cX9_remove 26 = .ok (.iload_n 1, 1) := by decide +kernel
theorem dX9_remove_27 : decode cX9_remove 27 = .ok (.iaload, 1) := by decide +kernel
theorem dX9_remove_28 : decode cX9_remove 28 = .ok (.istore_n 2, 1) := by decide +kernel
theorem dX9_remove_29 : decode cX9_remove 29 = .ok (.aload_n 0, 1) := by decide +kernel
theorem dX9_remove_30 : decode cX9_remove 30 = .ok (.getfield 23, 3) := by decide +kernel
theorem dX9_remove_33 : decode cX9_remove 33 = .ok (.iload_n 1, 1) := by decide +kernel
theorem dX9_remove_34 : decode cX9_remove 34 = .ok (.invokevirtual 272, 3) := by decide +kernel
theorem dX9_remove_37 : decode cX9_remove 37 = .ok (.aload_n 0, 1) := by decide +kernel
theorem dX9_remove_38 : decode cX9_remove 38 = .ok (.getfield 23, 3) := by decide +kernel
theorem dX9_remove_41 : decode cX9_remove 41 = .ok (.getfield 87, 3) := by decide +kernel
theorem dX9_remove_44 : decode cX9_remove 44 = .ok (.iload_n 2, 1) := by decide +kernel
theorem dX9_remove_45 : decode cX9_remove 45 = .ok (.invokevirtual 141, 3) := by decide +kernel
theorem dX9_remove_48 : decode cX9_remove 48 = .ok (.ireturn, 1) := by decide +kernel
set_option maxRecDepth 20000 in
theorem ggX9_recut_X9_requireWord : GoodIn wsX9_recut wsX9_requireWord := goodIn_ca (goodIn_r _ [8, 9, 10, 2, 11, 12, 171, 172, 173, 174, 175, 176, 177, 178, 179, 180, 181, 182, 183, 184, 185, 186, 187, 188, 189, 190, 191, 192, 193] (by decide +kernel) (by decide +kernel)) (goodIn_sub (fun _ h => List.mem_cons_of_mem _ (List.mem_append_right _ h)) (by decide +kernel))
set_option maxRecDepth 20000 in
theorem gX9_recut_X9_requireWord : GoodIn wsX9_recut (wsV RX9 185 RX9 yX9_requireWord wsX9_requireWord) := goodIn_app (goodIn_of _ (by decide +kernel)) ggX9_recut_X9_requireWord
set_option maxRecDepth 20000 in
theorem ggX9_recut_X3_keep : GoodIn wsX9_recut wsX3_keep := goodIn_r _ [17, 18, 19, 20, 21, 22, 16, 23, 24, 25, 26, 27, 28, 29, 30, 31, 32, 33, 34, 35, 36, 37, 38, 39, 40, 41, 42, 43, 44, 45, 46, 47, 48, 49, 50, 51, 52, 53, 54, 55, 56, 57, 58, 59, 60, 61, 62, 63, 64, 65, 66, 67, 68, 69, 70, 71, 72, 194, 195, 181, 182, 183, 184, 185, 186, 187, 188, 196, 197, 198, 199, 200, 201, 202, 203, 204, 189, 190, 191, 192, 193] (by decide +kernel) (by decide +kernel)
set_option maxRecDepth 20000 in
theorem gX9_recut_X3_keep : GoodIn wsX9_recut (wsV RX9 265 RX3 yX3_keep wsX3_keep) := goodIn_app (goodIn_of _ (by decide +kernel)) ggX9_recut_X3_keep
set_option maxRecDepth 20000 in
theorem ggX9_recut_X1_cutAnew : GoodIn wsX9_recut wsX1_cutAnew := goodIn_r _ [76, 37, 77, 78, 36, 79, 80, 38, 81, 82, 83, 84, 85, 86, 87, 88, 89, 90, 91, 92, 93, 94, 95, 96, 97, 98, 99, 100, 101, 102, 103, 27, 104, 29, 105, 106, 107, 108, 109, 110, 111, 112, 113, 114, 115, 116, 117, 118, 53, 119, 55, 56, 120, 121, 122, 123, 124, 125, 126, 127, 128, 129, 130, 131, 132, 133, 134, 135, 136, 137, 138, 139, 140, 141, 142, 143, 144, 145, 60, 146, 147, 148, 65, 149, 67, 71, 72, 150, 151, 152, 153, 61, 154, 155, 156, 157, 158, 159, 160, 161, 162, 163, 164, 165, 166, 35, 40, 34, 167, 168, 169, 44, 170, 46, 49, 181, 182, 183, 184, 185, 186, 187, 188, 189, 190, 191, 192, 193, 205, 206, 207, 208, 209, 210, 211, 212, 213, 214, 215, 216, 199, 200, 201, 202, 203, 204, 196, 197, 198] (by decide +kernel) (by decide +kernel)
set_option maxRecDepth 20000 in
theorem gX9_recut_X1_cutAnew : GoodIn wsX9_recut (wsV RX9 275 RX1 yX1_cutAnew wsX1_cutAnew) := goodIn_app (goodIn_of _ (by decide +kernel)) ggX9_recut_X1_cutAnew
theorem dX9_recut_0 : decode cX9_recut 0 = .ok (.aload_n 0, 1) := by decide +kernel
theorem dX9_recut_1 : decode cX9_recut 1 = .ok (.iload_n 1, 1) := by decide +kernel
theorem dX9_recut_2 : decode cX9_recut 2 = .ok (.invokevirtual 185, 3) := by decide +kernel
theorem dX9_recut_5 : decode cX9_recut 5 = .ok (.aload_n 0, 1) := by decide +kernel
theorem dX9_recut_6 : decode cX9_recut 6 = .ok (.getfield 51, 3) := by decide +kernel
theorem dX9_recut_9 : decode cX9_recut 9 = .ok (.aload_n 0, 1) := by decide +kernel
theorem dX9_recut_10 : decode cX9_recut 10 = .ok (.getfield 23, 3) := by decide +kernel
theorem dX9_recut_13 : decode cX9_recut 13 = .ok (.invokevirtual 265, 3) := by decide +kernel
theorem dX9_recut_16 : decode cX9_recut 16 = .ok (.aload_n 0, 1) := by decide +kernel
theorem dX9_recut_17 : decode cX9_recut 17 = .ok (.getfield 23, 3) := by decide +kernel
theorem dX9_recut_20 : decode cX9_recut 20 = .ok (.iload_n 1, 1) := by decide +kernel
theorem dX9_recut_21 : decode cX9_recut 21 = .ok (.aload_n 0, 1) := by decide +kernel
theorem dX9_recut_22 : decode cX9_recut 22 = .ok (.getfield 37, 3) := by decide +kernel
theorem dX9_recut_25 : decode cX9_recut 25 = .ok (.invokevirtual 275, 3) := by decide +kernel
theorem dX9_recut_28 : decode cX9_recut 28 = .ok (.ireturn, 1) := by decide +kernel
set_option maxRecDepth 20000 in
theorem ggX9_recutAll_X3_keep : GoodIn wsX9_recutAll wsX3_keep := goodIn_r _ [10, 11, 12, 13, 14, 15, 9, 16, 17, 18, 19, 20, 21, 22, 23, 24, 25, 26, 27, 28, 29, 30, 31, 32, 33, 34, 35, 36, 37, 38, 39, 40, 41, 42, 43, 44, 45, 46, 47, 48, 49, 50, 51, 52, 53, 54, 55, 56, 57, 58, 59, 60, 61, 62, 63, 64, 65, 187, 188, 174, 175, 176, 177, 178, 179, 180, 181, 189, 190, 191, 192, 193, 194, 195, 196, 197, 182, 183, 184, 185, 186] (by decide +kernel) (by decide +kernel)
set_option maxRecDepth 20000 in
theorem gX9_recutAll_X3_keep : GoodIn wsX9_recutAll (wsV RX9 265 RX3 yX3_keep wsX3_keep) := goodIn_app (goodIn_of _ (by decide +kernel)) ggX9_recutAll_X3_keep
set_option maxRecDepth 20000 in
theorem ggX9_recutAll_X1_cutAnew : GoodIn wsX9_recutAll wsX1_cutAnew := goodIn_r _ [69, 30, 70, 71, 29, 72, 73, 31, 74, 75, 76, 77, 78, 79, 80, 81, 82, 83, 84, 85, 86, 87, 88, 89, 90, 91, 92, 93, 94, 95, 96, 20, 97, 22, 98, 99, 100, 101, 102, 103, 104, 105, 106, 107, 108, 109, 110, 111, 46, 112, 48, 49, 113, 114, 115, 116, 117, 118, 119, 120, 121, 122, 123, 124, 125, 126, 127, 128, 129, 130, 131, 132, 133, 134, 135, 136, 137, 138, 53, 139, 140, 141, 58, 142, 60, 64, 65, 143, 144, 145, 146, 54, 147, 148, 149, 150, 151, 152, 153, 154, 155, 156, 157, 158, 159, 28, 33, 27, 160, 161, 162, 37, 163, 39, 42, 174, 175, 176, 177, 178, 179, 180, 181, 182, 183, 184, 185, 186, 198, 199, 200, 201, 202, 203, 204, 205, 206, 207, 208, 209, 192, 193, 194, 195, 196, 197, 189, 190, 191] (by decide +kernel) (by decide +kernel)
set_option maxRecDepth 20000 in
theorem gX9_recutAll_X1_cutAnew : GoodIn wsX9_recutAll (wsV RX9 275 RX1 yX1_cutAnew wsX1_cutAnew) := goodIn_app (goodIn_of _ (by decide +kernel)) ggX9_recutAll_X1_cutAnew
theorem dX9_recutAll_0 : decode cX9_recutAll 0 = .ok (.aload_n 0, 1) := by decide +kernel
theorem dX9_recutAll_1 : decode cX9_recutAll 1 = .ok (.getfield 51, 3) := by decide +kernel
theorem dX9_recutAll_4 : decode cX9_recutAll 4 = .ok (.aload_n 0, 1) := by decide +kernel
theorem dX9_recutAll_5 : decode cX9_recutAll 5 = .ok (.getfield 23, 3) := by decide +kernel
theorem dX9_recutAll_8 : decode cX9_recutAll 8 = .ok (.invokevirtual 265, 3) := by decide +kernel
theorem dX9_recutAll_11 : decode cX9_recutAll 11 = .ok (.iconst 0, 1) := by decide +kernel
theorem dX9_recutAll_12 : decode cX9_recutAll 12 = .ok (.istore_n 1, 1) := by decide +kernel
theorem dX9_recutAll_13 : decode cX9_recutAll 13 = .ok (.iconst 0, 1) := by decide +kernel
theorem dX9_recutAll_14 : decode cX9_recutAll 14 = .ok (.istore_n 2, 1) := by decide +kernel
theorem dX9_recutAll_15 : decode cX9_recutAll 15 = .ok (.iload_n 2, 1) := by decide +kernel
theorem dX9_recutAll_16 : decode cX9_recutAll 16 = .ok (.aload_n 0, 1) := by decide +kernel
theorem dX9_recutAll_17 : decode cX9_recutAll 17 = .ok (.getfield 23, 3) := by decide +kernel
theorem dX9_recutAll_20 : decode cX9_recutAll 20 = .ok (.getfield 103, 3) := by decide +kernel
theorem dX9_recutAll_23 : decode cX9_recutAll 23 = .ok (.getfield 107, 3) := by decide +kernel
theorem dX9_recutAll_26 : decode cX9_recutAll 26 = .ok (.if_icmp .ge 24, 3) := by decide +kernel
theorem dX9_recutAll_29 : decode cX9_recutAll 29 = .ok (.iload_n 1, 1) := by decide +kernel
theorem dX9_recutAll_30 : decode cX9_recutAll 30 = .ok (.aload_n 0, 1) := by decide +kernel
theorem dX9_recutAll_31 : decode cX9_recutAll 31 = .ok (.getfield 23, 3) := by decide +kernel
theorem dX9_recutAll_34 : decode cX9_recutAll 34 = .ok (.iload_n 2, 1) := by decide +kernel
theorem dX9_recutAll_35 : decode cX9_recutAll 35 = .ok (.aload_n 0, 1) := by decide +kernel
theorem dX9_recutAll_36 : decode cX9_recutAll 36 = .ok (.getfield 37, 3) := by decide +kernel
theorem dX9_recutAll_39 : decode cX9_recutAll 39 = .ok (.invokevirtual 275, 3) := by decide +kernel
theorem dX9_recutAll_42 : decode cX9_recutAll 42 = .ok (.iadd, 1) := by decide +kernel
theorem dX9_recutAll_43 : decode cX9_recutAll 43 = .ok (.istore_n 1, 1) := by decide +kernel
theorem dX9_recutAll_44 : decode cX9_recutAll 44 = .ok (.iinc 2 1, 3) := by decide +kernel
theorem dX9_recutAll_47 : decode cX9_recutAll 47 = .ok (.goto (-32), 3) := by decide +kernel
theorem dX9_recutAll_50 : decode cX9_recutAll 50 = .ok (.iload_n 1, 1) := by decide +kernel
theorem dX9_recutAll_51 : decode cX9_recutAll 51 = .ok (.ireturn, 1) := by decide +kernel
set_option maxRecDepth 20000 in
theorem ggX9_bring_X9_takeWord : GoodIn wsX9_bring wsX9_takeWord := goodIn_r _ [13, 14, 15, 16, 17, 18, 19, 20, 21, 22, 123, 124, 125, 126, 127, 128, 129, 130, 131, 132] (by decide +kernel) (by decide +kernel)
set_option maxRecDepth 20000 in
theorem gX9_bring_X9_takeWord : GoodIn wsX9_bring (wsV RX9 124 RX9 yX9_takeWord wsX9_takeWord) := goodIn_app (goodIn_of _ (by decide +kernel)) ggX9_bring_X9_takeWord
set_option maxRecDepth 20000 in
theorem ggX9_bring_X9_requireUser : GoodIn wsX9_bring wsX9_requireUser := goodIn_ca (goodIn_r _ [26, 27, 28, 5, 7, 29, 123, 124, 125, 126, 127, 128, 129, 130, 131, 132, 133, 134, 135, 136, 137, 138, 139, 140, 141, 142, 143] (by decide +kernel) (by decide +kernel)) (goodIn_sub (fun _ h => List.mem_cons_of_mem _ (List.mem_append_right _ h)) (by decide +kernel))
set_option maxRecDepth 20000 in
theorem gX9_bring_X9_requireUser : GoodIn wsX9_bring (wsV RX9 138 RX9 yX9_requireUser wsX9_requireUser) := goodIn_app (goodIn_of _ (by decide +kernel)) ggX9_bring_X9_requireUser
set_option maxRecDepth 20000 in
theorem ggX9_bring_X4_lengthOf : GoodIn wsX9_bring wsX4_lengthOf := goodIn_r _ [32] (by decide +kernel) (by decide +kernel)
set_option maxRecDepth 20000 in
theorem gX9_bring_X4_lengthOf : GoodIn wsX9_bring (va_wsS RX9 164 yX4_lengthOf wsX4_lengthOf) := goodIn_app (goodIn_of _ (by decide +kernel)) ggX9_bring_X4_lengthOf
set_option maxRecDepth 20000 in
theorem ggX9_bring_X6_numberOf : GoodIn wsX9_bring wsX6_numberOf := goodIn_r _ [37, 38, 39, 144, 145, 146, 147, 148, 149] (by decide +kernel) (by decide +kernel)
set_option maxRecDepth 20000 in
theorem gX9_bring_X6_numberOf : GoodIn wsX9_bring (wsV RX9 136 RX6 yX6_numberOf wsX6_numberOf) := goodIn_app (goodIn_of _ (by decide +kernel)) ggX9_bring_X6_numberOf
set_option maxRecDepth 20000 in
theorem ggX9_bring_X6_isFull : GoodIn wsX9_bring wsX6_isFull := goodIn_r _ [43, 38, 144, 145, 146, 147, 148, 149] (by decide +kernel) (by decide +kernel)
set_option maxRecDepth 20000 in
theorem gX9_bring_X6_isFull : GoodIn wsX9_bring (wsV RX9 278 RX6 yX6_isFull wsX6_isFull) := goodIn_app (goodIn_of _ (by decide +kernel)) ggX9_bring_X6_isFull
set_option maxRecDepth 20000 in
theorem ggX9_bring_X7_coinsOf : GoodIn wsX9_bring wsX7_coinsOf := goodIn_r _ [48, 49, 50, 141, 142, 143] (by decide +kernel) (by decide +kernel)
set_option maxRecDepth 20000 in
theorem gX9_bring_X7_coinsOf : GoodIn wsX9_bring (wsV RX9 141 RX7 yX7_coinsOf wsX7_coinsOf) := goodIn_app (goodIn_of _ (by decide +kernel)) ggX9_bring_X7_coinsOf
set_option maxRecDepth 20000 in
theorem ggX9_bring_X1_newPrice : GoodIn wsX9_bring wsX1_newPrice := goodIn_r _ [55, 56, 133, 134, 135, 136, 137, 138, 139, 140] (by decide +kernel) (by decide +kernel)
set_option maxRecDepth 20000 in
theorem gX9_bring_X1_newPrice : GoodIn wsX9_bring (wsV RX9 281 RX1 yX1_newPrice wsX1_newPrice) := goodIn_app (goodIn_of _ (by decide +kernel)) ggX9_bring_X1_newPrice
set_option maxRecDepth 20000 in
theorem ggX9_bring_X3_keep : GoodIn wsX9_bring wsX3_keep := goodIn_r _ [61, 62, 63, 64, 65, 66, 60, 67, 68, 69, 70, 54, 71, 56, 72, 73, 74, 75, 76, 77, 78, 79, 80, 81, 82, 83, 84, 85, 47, 86, 49, 87, 88, 50, 89, 90, 91, 36, 92, 38, 39, 93, 94, 95, 96, 97, 98, 99, 100, 101, 102, 103, 104, 105, 106, 107, 108, 150, 151, 133, 134, 135, 136, 137, 138, 139, 140, 141, 142, 143, 144, 145, 146, 147, 148, 149, 152, 153, 154, 155, 156] (by decide +kernel) (by decide +kernel)
set_option maxRecDepth 20000 in
theorem gX9_bring_X3_keep : GoodIn wsX9_bring (wsV RX9 265 RX3 yX3_keep wsX3_keep) := goodIn_app (goodIn_of _ (by decide +kernel)) ggX9_bring_X3_keep
set_option maxRecDepth 20000 in
theorem ggX9_bring_X1_buyPiece : GoodIn wsX9_bring wsX1_buyPiece := goodIn_r _ [112, 77, 81, 76, 78, 80, 113, 31, 18, 32, 114, 52, 53, 54, 55, 56, 115, 116, 117, 47, 118, 49, 50, 119, 120, 121, 36, 122, 38, 39, 94, 95, 96, 97, 133, 134, 135, 136, 137, 138, 139, 140, 141, 142, 143, 144, 145, 146, 147, 148, 149] (by decide +kernel) (by decide +kernel)
set_option maxRecDepth 20000 in
theorem gX9_bring_X1_buyPiece : GoodIn wsX9_bring (wsV RX9 284 RX1 yX1_buyPiece wsX1_buyPiece) := goodIn_app (goodIn_of _ (by decide +kernel)) ggX9_bring_X1_buyPiece
theorem dX9_bring_0 : decode cX9_bring 0 = .ok (.aload_n 0, 1) := by decide +kernel
theorem dX9_bring_1 : decode cX9_bring 1 = .ok (.invokevirtual 124, 3) := by decide +kernel
theorem dX9_bring_4 : decode cX9_bring 4 = .ok (.lstore_n 2, 1) := by decide +kernel
theorem dX9_bring_5 : decode cX9_bring 5 = .ok (.aload_n 0, 1) := by decide +kernel
theorem dX9_bring_6 : decode cX9_bring 6 = .ok (.iload_n 1, 1) := by decide +kernel
theorem dX9_bring_7 : decode cX9_bring 7 = .ok (.invokevirtual 138, 3) := by decide +kernel
theorem dX9_bring_10 : decode cX9_bring 10 = .ok (.lload_n 2, 1) := by decide +kernel
theorem dX9_bring_11 : decode cX9_bring 11 = .ok (.invokestatic 164, 3) := by decide +kernel
theorem dX9_bring_14 : decode cX9_bring 14 = .ok (.istore 4, 2) := by decide +kernel
theorem dX9_bring_16 : decode cX9_bring 16 = .ok (.iload 4, 2) := by decide +kernel
theorem dX9_bring_18 : decode cX9_bring 18 = .ok (.ifCond .eq 25, 3) := by decide +kernel
theorem dX9_bring_21 : decode cX9_bring 21 = .ok (.iload 4, 2) := by decide +kernel
theorem dX9_bring_23 : decode cX9_bring 23 = .ok (.bipush 6, 2) := by decide +kernel
theorem dX9_bring_25 : decode cX9_bring 25 = .ok (.if_icmp .gt 18, 3) := by decide +kernel
theorem dX9_bring_28 : decode cX9_bring 28 = .ok (.aload_n 0, 1) := by decide +kernel
theorem dX9_bring_29 : decode cX9_bring 29 = .ok (.getfield 23, 3) := by decide +kernel
theorem dX9_bring_32 : decode cX9_bring 32 = .ok (.getfield 96, 3) := by decide +kernel
theorem dX9_bring_35 : decode cX9_bring 35 = .ok (.lload_n 2, 1) := by decide +kernel
theorem dX9_bring_36 : decode cX9_bring 36 = .ok (.invokevirtual 136, 3) := by decide +kernel
theorem dX9_bring_39 : decode cX9_bring 39 = .ok (.iconst (-1), 1) := by decide +kernel
theorem dX9_bring_40 : decode cX9_bring 40 = .ok (.if_icmp .eq 11, 3) := by decide +kernel
theorem dX9_bring_43 : decode cX9_bring 43 = .ok (.new 67, 3) := by decide +kernel
theorem dX9_bring_46 : decode cX9_bring 46 = .ok (.dup, 1) := by decide +kernel
theorem dX9_bring_47 : decode cX9_bring 47 = .ok (.invokespecial 69, 3) := by decide +kernel
theorem dX9_bring_50 : decode cX9_bring 50 = .ok (.athrow, 1) := by decide +kernel
theorem dX9_bring_51 : decode cX9_bring 51 = .ok (.aload_n 0, 1) := by decide +kernel
theorem dX9_bring_52 : decode cX9_bring 52 = .ok (.getfield 23, 3) := by decide +kernel
theorem dX9_bring_55 : decode cX9_bring 55 = .ok (.getfield 96, 3) := by decide +kernel
theorem dX9_bring_58 : decode cX9_bring 58 = .ok (.invokevirtual 278, 3) := by decide +kernel
theorem dX9_bring_61 : decode cX9_bring 61 = .ok (.ifCond .ne 26, 3) := by decide +kernel
theorem dX9_bring_64 : decode cX9_bring 64 = .ok (.aload_n 0, 1) := by decide +kernel
theorem dX9_bring_65 : decode cX9_bring 65 = .ok (.getfield 23, 3) := by decide +kernel
theorem dX9_bring_68 : decode cX9_bring 68 = .ok (.getfield 87, 3) := by decide +kernel
theorem dX9_bring_71 : decode cX9_bring 71 = .ok (.iload_n 1, 1) := by decide +kernel
theorem dX9_bring_72 : decode cX9_bring 72 = .ok (.invokevirtual 141, 3) := by decide +kernel
theorem dX9_bring_75 : decode cX9_bring 75 = .ok (.aload_n 0, 1) := by decide +kernel
theorem dX9_bring_76 : decode cX9_bring 76 = .ok (.getfield 23, 3) := by decide +kernel
theorem dX9_bring_79 : decode cX9_bring 79 = .ok (.iload 4, 2) := by decide +kernel
theorem dX9_bring_81 : decode cX9_bring 81 = .ok (.invokevirtual 281, 3) := by decide +kernel
theorem dX9_bring_84 : decode cX9_bring 84 = .ok (.if_icmp .ge 11, 3) := by decide +kernel
theorem dX9_bring_87 : decode cX9_bring 87 = .ok (.new 262, 3) := by decide +kernel
theorem dX9_bring_90 : decode cX9_bring 90 = .ok (.dup, 1) := by decide +kernel
theorem dX9_bring_91 : decode cX9_bring 91 = .ok (.invokespecial 264, 3) := by decide +kernel
theorem dX9_bring_94 : decode cX9_bring 94 = .ok (.athrow, 1) := by decide +kernel
theorem dX9_bring_95 : decode cX9_bring 95 = .ok (.aload_n 0, 1) := by decide +kernel
theorem dX9_bring_96 : decode cX9_bring 96 = .ok (.getfield 51, 3) := by decide +kernel
theorem dX9_bring_99 : decode cX9_bring 99 = .ok (.aload_n 0, 1) := by decide +kernel
theorem dX9_bring_100 : decode cX9_bring 100 = .ok (.getfield 23, 3) := by decide +kernel
theorem dX9_bring_103 : decode cX9_bring 103 = .ok (.invokevirtual 265, 3) := by decide +kernel
theorem dX9_bring_106 : decode cX9_bring 106 = .ok (.aload_n 0, 1) := by decide +kernel
theorem dX9_bring_107 : decode cX9_bring 107 = .ok (.getfield 23, 3) := by decide +kernel
theorem dX9_bring_110 : decode cX9_bring 110 = .ok (.iload_n 1, 1) := by decide +kernel
theorem dX9_bring_111 : decode cX9_bring 111 = .ok (.lload_n 2, 1) := by decide +kernel
theorem dX9_bring_112 : decode cX9_bring 112 = .ok (.invokevirtual 284, 3) := by decide +kernel
theorem dX9_bring_115 : decode cX9_bring 115 = .ok (.ireturn, 1) := by decide +kernel
set_option maxRecDepth 20000 in
theorem ggX9_tick_X3_keep : GoodIn wsX9_tick wsX3_keep := goodIn_r _ [9, 10, 11, 12, 13, 14, 8, 15, 16, 17, 18, 19, 20, 21, 22, 23, 24, 25, 26, 27, 28, 29, 30, 31, 32, 33, 34, 35, 36, 37, 38, 39, 40, 41, 42, 43, 44, 45, 46, 47, 48, 49, 50, 51, 52, 53, 54, 55, 56, 57, 58, 59, 60, 61, 62, 63, 64, 102, 103, 104, 105, 106, 107, 108, 109, 110, 111, 112, 113, 114, 115, 116, 117, 118, 119, 120, 121, 122, 123, 124, 125] (by decide +kernel) (by decide +kernel)
set_option maxRecDepth 20000 in
theorem gX9_tick_X3_keep : GoodIn wsX9_tick (wsV RX9 265 RX3 yX3_keep wsX3_keep) := goodIn_app (goodIn_of _ (by decide +kernel)) ggX9_tick_X3_keep
set_option maxRecDepth 20000 in
theorem ggX9_tick_X1_passTick : GoodIn wsX9_tick wsX1_passTick := goodIn_r _ [68, 30, 28, 69, 21, 70, 71, 72, 45, 73, 51, 52, 53, 74, 75, 76, 19, 77, 78, 27, 79, 31, 26, 29, 80, 81, 82, 36, 83, 38, 41, 84, 85, 86, 87, 47, 48, 49, 23, 24, 25, 50, 88, 89, 90, 57, 91, 59, 64, 104, 105, 106, 107, 108, 109, 110, 111, 115, 116, 117, 118, 119, 120, 112, 113, 114, 121, 122, 123, 124, 125] (by decide +kernel) (by decide +kernel)
set_option maxRecDepth 20000 in
theorem gX9_tick_X1_passTick : GoodIn wsX9_tick (wsV RX9 288 RX1 yX1_passTick wsX1_passTick) := goodIn_app (goodIn_of _ (by decide +kernel)) ggX9_tick_X1_passTick
theorem dX9_tick_0 : decode cX9_tick 0 = .ok (.iload_n 1, 1) := by decide +kernel
theorem dX9_tick_1 : decode cX9_tick 1 = .ok (.iconst 1, 1) := by decide +kernel
theorem dX9_tick_2 : decode cX9_tick 2 = .ok (.if_icmp .lt 9, 3) := by decide +kernel
theorem dX9_tick_5 : decode cX9_tick 5 = .ok (.iload_n 1, 1) := by decide +kernel
theorem dX9_tick_6 : decode cX9_tick 6 = .ok (.bipush 30, 2) := by decide +kernel
theorem dX9_tick_8 : decode cX9_tick 8 = .ok (.if_icmp .le 11, 3) := by decide +kernel
theorem dX9_tick_11 : decode cX9_tick 11 = .ok (.new 67, 3) := by decide +kernel
theorem dX9_tick_14 : decode cX9_tick 14 = .ok (.dup, 1) := by decide +kernel
theorem dX9_tick_15 : decode cX9_tick 15 = .ok (.invokespecial 69, 3) := by decide +kernel
theorem dX9_tick_18 : decode cX9_tick 18 = .ok (.athrow, 1) := by decide +kernel
theorem dX9_tick_19 : decode cX9_tick 19 = .ok (.aload_n 0, 1) := by decide +kernel
theorem dX9_tick_20 : decode cX9_tick 20 = .ok (.getfield 51, 3) := by decide +kernel
theorem dX9_tick_23 : decode cX9_tick 23 = .ok (.aload_n 0, 1) := by decide +kernel
theorem dX9_tick_24 : decode cX9_tick 24 = .ok (.getfield 23, 3) := by decide +kernel
theorem dX9_tick_27 : decode cX9_tick 27 = .ok (.invokevirtual 265, 3) := by decide +kernel
theorem dX9_tick_30 : decode cX9_tick 30 = .ok (.iconst 0, 1) := by decide +kernel
theorem dX9_tick_31 : decode cX9_tick 31 = .ok (.istore_n 2, 1) := by decide +kernel
theorem dX9_tick_32 : decode cX9_tick 32 = .ok (.iconst 0, 1) := by decide +kernel
theorem dX9_tick_33 : decode cX9_tick 33 = .ok (.istore_n 3, 1) := by decide +kernel
theorem dX9_tick_34 : decode cX9_tick 34 = .ok (.iload_n 3, 1) := by decide +kernel
theorem dX9_tick_35 : decode cX9_tick 35 = .ok (.iload_n 1, 1) := by decide +kernel
theorem dX9_tick_36 : decode cX9_tick 36 = .ok (.if_icmp .ge 19, 3) := by decide +kernel
theorem dX9_tick_39 : decode cX9_tick 39 = .ok (.iload_n 2, 1) := by decide +kernel
theorem dX9_tick_40 : decode cX9_tick 40 = .ok (.aload_n 0, 1) := by decide +kernel
theorem dX9_tick_41 : decode cX9_tick 41 = .ok (.getfield 23, 3) := by decide +kernel
theorem dX9_tick_44 : decode cX9_tick 44 = .ok (.invokevirtual 288, 3) := by decide +kernel
theorem dX9_tick_47 : decode cX9_tick 47 = .ok (.iadd, 1) := by decide +kernel
theorem dX9_tick_48 : decode cX9_tick 48 = .ok (.istore_n 2, 1) := by decide +kernel
theorem dX9_tick_49 : decode cX9_tick 49 = .ok (.iinc 3 1, 3) := by decide +kernel
theorem dX9_tick_52 : decode cX9_tick 52 = .ok (.goto (-18), 3) := by decide +kernel
theorem dX9_tick_55 : decode cX9_tick 55 = .ok (.iload_n 2, 1) := by decide +kernel
theorem dX9_tick_56 : decode cX9_tick 56 = .ok (.ireturn, 1) := by decide +kernel
set_option maxRecDepth 20000 in
theorem ggX9_pay_X9_requireUser : GoodIn wsX9_pay wsX9_requireUser := goodIn_ca (goodIn_r _ [12, 13, 14, 5, 6, 15, 84, 85, 86, 87, 88, 89, 90, 91, 92, 93, 94, 95, 96, 97, 98, 99, 100, 101, 102, 103, 104] (by decide +kernel) (by decide +kernel)) (goodIn_sub (fun _ h => List.mem_cons_of_mem _ (List.mem_append_right _ h)) (by decide +kernel))
set_option maxRecDepth 20000 in
theorem gX9_pay_X9_requireUser : GoodIn wsX9_pay (wsV RX9 138 RX9 yX9_requireUser wsX9_requireUser) := goodIn_app (goodIn_of _ (by decide +kernel)) ggX9_pay_X9_requireUser
set_option maxRecDepth 20000 in
theorem ggX9_pay_X7_coinsOf : GoodIn wsX9_pay wsX7_coinsOf := goodIn_r _ [20, 21, 22, 102, 103, 104] (by decide +kernel) (by decide +kernel)
set_option maxRecDepth 20000 in
theorem gX9_pay_X7_coinsOf : GoodIn wsX9_pay (wsV RX9 141 RX7 yX7_coinsOf wsX7_coinsOf) := goodIn_app (goodIn_of _ (by decide +kernel)) ggX9_pay_X7_coinsOf
set_option maxRecDepth 20000 in
theorem ggX9_pay_X3_keep : GoodIn wsX9_pay wsX3_keep := goodIn_r _ [27, 28, 29, 30, 31, 32, 26, 33, 34, 35, 36, 37, 38, 39, 40, 41, 42, 43, 44, 45, 46, 47, 48, 49, 50, 51, 52, 53, 19, 54, 21, 55, 56, 22, 57, 58, 59, 60, 61, 62, 63, 64, 65, 66, 67, 68, 69, 70, 71, 72, 73, 74, 75, 76, 77, 78, 79, 105, 106, 94, 95, 96, 97, 98, 99, 100, 101, 102, 103, 104, 107, 108, 109, 110, 111, 112, 113, 114, 115, 116, 117] (by decide +kernel) (by decide +kernel)
set_option maxRecDepth 20000 in
theorem gX9_pay_X3_keep : GoodIn wsX9_pay (wsV RX9 265 RX3 yX3_keep wsX3_keep) := goodIn_app (goodIn_of _ (by decide +kernel)) ggX9_pay_X3_keep
set_option maxRecDepth 20000 in
theorem ggX9_pay_X7_give : GoodIn wsX9_pay wsX7_give := goodIn_r _ [83, 21, 22, 102, 103, 104] (by decide +kernel) (by decide +kernel)
set_option maxRecDepth 20000 in
theorem gX9_pay_X7_give : GoodIn wsX9_pay (wsV RX9 291 RX7 yX7_give wsX7_give) := goodIn_app (goodIn_of _ (by decide +kernel)) ggX9_pay_X7_give
theorem dX9_pay_0 : decode cX9_pay 0 = .ok (.aload_n 0, 1) := by decide +kernel
theorem dX9_pay_1 : decode cX9_pay 1 = .ok (.iload_n 1, 1) := by decide +kernel
theorem dX9_pay_2 : decode cX9_pay 2 = .ok (.invokevirtual 138, 3) := by decide +kernel
theorem dX9_pay_5 : decode cX9_pay 5 = .ok (.aload_n 0, 1) := by decide +kernel
theorem dX9_pay_6 : decode cX9_pay 6 = .ok (.iload_n 2, 1) := by decide +kernel
theorem dX9_pay_7 : decode cX9_pay 7 = .ok (.invokevirtual 138, 3) := by decide +kernel
theorem dX9_pay_10 : decode cX9_pay 10 = .ok (.iload_n 3, 1) := by decide +kernel
theorem dX9_pay_11 : decode cX9_pay 11 = .ok (.ifCond .lt 10, 3) := by decide +kernel
theorem dX9_pay_14 : decode cX9_pay 14 = .ok (.iload_n 3, 1) := by decide +kernel
theorem dX9_pay_15 : decode cX9_pay 15 = .ok (.sipush 9999, 3) := by decide +kernel
theorem dX9_pay_18 : decode cX9_pay 18 = .ok (.if_icmp .le 11, 3) := by decide +kernel
theorem dX9_pay_21 : decode cX9_pay 21 = .ok (.new 67, 3) := by decide +kernel
theorem dX9_pay_24 : decode cX9_pay 24 = .ok (.dup, 1) := by decide +kernel
theorem dX9_pay_25 : decode cX9_pay 25 = .ok (.invokespecial 69, 3) := by decide +kernel
theorem dX9_pay_28 : decode cX9_pay 28 = .ok (.athrow, 1) := by decide +kernel
theorem dX9_pay_29 : decode cX9_pay 29 = .ok (.aload_n 0, 1) := by decide +kernel
theorem dX9_pay_30 : decode cX9_pay 30 = .ok (.getfield 23, 3) := by decide +kernel
theorem dX9_pay_33 : decode cX9_pay 33 = .ok (.getfield 87, 3) := by decide +kernel
theorem dX9_pay_36 : decode cX9_pay 36 = .ok (.iload_n 1, 1) := by decide +kernel
theorem dX9_pay_37 : decode cX9_pay 37 = .ok (.invokevirtual 141, 3) := by decide +kernel
theorem dX9_pay_40 : decode cX9_pay 40 = .ok (.iload_n 3, 1) := by decide +kernel
theorem dX9_pay_41 : decode cX9_pay 41 = .ok (.if_icmp .ge 11, 3) := by decide +kernel
theorem dX9_pay_44 : decode cX9_pay 44 = .ok (.new 262, 3) := by decide +kernel
theorem dX9_pay_47 : decode cX9_pay 47 = .ok (.dup, 1) := by decide +kernel
theorem dX9_pay_48 : decode cX9_pay 48 = .ok (.invokespecial 264, 3) := by decide +kernel
theorem dX9_pay_51 : decode cX9_pay 51 = .ok (.athrow, 1) := by decide +kernel
theorem dX9_pay_52 : decode cX9_pay 52 = .ok (.aload_n 0, 1) := by decide +kernel
theorem dX9_pay_53 : decode cX9_pay 53 = .ok (.getfield 51, 3) := by decide +kernel
theorem dX9_pay_56 : decode cX9_pay 56 = .ok (.aload_n 0, 1) := by decide +kernel
theorem dX9_pay_57 : decode cX9_pay 57 = .ok (.getfield 23, 3) := by decide +kernel
theorem dX9_pay_60 : decode cX9_pay 60 = .ok (.invokevirtual 265, 3) := by decide +kernel
theorem dX9_pay_63 : decode cX9_pay 63 = .ok (.aload_n 0, 1) := by decide +kernel
theorem dX9_pay_64 : decode cX9_pay 64 = .ok (.getfield 23, 3) := by decide +kernel
theorem dX9_pay_67 : decode cX9_pay 67 = .ok (.getfield 87, 3) := by decide +kernel
theorem dX9_pay_70 : decode cX9_pay 70 = .ok (.iload_n 1, 1) := by decide +kernel
theorem dX9_pay_71 : decode cX9_pay 71 = .ok (.iload_n 3, 1) := by decide +kernel
theorem dX9_pay_72 : decode cX9_pay 72 = .ok (.ineg, 1) := by decide +kernel
theorem dX9_pay_73 : decode cX9_pay 73 = .ok (.invokevirtual 291, 3) := by decide +kernel
theorem dX9_pay_76 : decode cX9_pay 76 = .ok (.aload_n 0, 1) := by decide +kernel
theorem dX9_pay_77 : decode cX9_pay 77 = .ok (.getfield 23, 3) := by decide +kernel
theorem dX9_pay_80 : decode cX9_pay 80 = .ok (.getfield 87, 3) := by decide +kernel
theorem dX9_pay_83 : decode cX9_pay 83 = .ok (.iload_n 2, 1) := by decide +kernel
theorem dX9_pay_84 : decode cX9_pay 84 = .ok (.iload_n 3, 1) := by decide +kernel
theorem dX9_pay_85 : decode cX9_pay 85 = .ok (.invokevirtual 291, 3) := by decide +kernel
theorem dX9_pay_88 : decode cX9_pay 88 = .ok (.aload_n 0, 1) := by decide +kernel
theorem dX9_pay_89 : decode cX9_pay 89 = .ok (.getfield 23, 3) := by decide +kernel
theorem dX9_pay_92 : decode cX9_pay 92 = .ok (.getfield 87, 3) := by decide +kernel
theorem dX9_pay_95 : decode cX9_pay 95 = .ok (.iload_n 2, 1) := by decide +kernel
theorem dX9_pay_96 : decode cX9_pay 96 = .ok (.invokevirtual 141, 3) := by decide +kernel
theorem dX9_pay_99 : decode cX9_pay 99 = .ok (.ireturn, 1) := by decide +kernel
theorem dX9_appendFour_0 : decode cX9_appendFour 0 = .ok (.bipush 24, 2) := by decide +kernel
theorem dX9_appendFour_2 : decode cX9_appendFour 2 = .ok (.istore_n 2, 1) := by decide +kernel
theorem dX9_appendFour_3 : decode cX9_appendFour 3 = .ok (.iload_n 2, 1) := by decide +kernel
theorem dX9_appendFour_4 : decode cX9_appendFour 4 = .ok (.ifCond .lt 42, 3) := by decide +kernel
theorem dX9_appendFour_7 : decode cX9_appendFour 7 = .ok (.aload_n 0, 1) := by decide +kernel
theorem dX9_appendFour_8 : decode cX9_appendFour 8 = .ok (.getfield 13, 3) := by decide +kernel
theorem dX9_appendFour_11 : decode cX9_appendFour 11 = .ok (.sipush 600, 3) := by decide +kernel
theorem dX9_appendFour_14 : decode cX9_appendFour 14 = .ok (.if_icmp .ge 32, 3) := by decide +kernel
theorem dX9_appendFour_17 : decode cX9_appendFour 17 = .ok (.aload_n 0, 1) := by decide +kernel
theorem dX9_appendFour_18 : decode cX9_appendFour 18 = .ok (.getfield 9, 3) := by decide +kernel
theorem dX9_appendFour_21 : decode cX9_appendFour 21 = .ok (.aload_n 0, 1) := by decide +kernel
theorem dX9_appendFour_22 : decode cX9_appendFour 22 = .ok (.getfield 13, 3) := by decide +kernel
theorem dX9_appendFour_25 : decode cX9_appendFour 25 = .ok (.iload_n 1, 1) := by decide +kernel
theorem dX9_appendFour_26 : decode cX9_appendFour 26 = .ok (.iload_n 2, 1) := by decide +kernel
theorem dX9_appendFour_27 : decode cX9_appendFour 27 = .ok (.iushr, 1) := by decide +kernel
theorem dX9_appendFour_28 : decode cX9_appendFour 28 = .ok (.i2b, 1) := by decide +kernel
theorem dX9_appendFour_29 : decode cX9_appendFour 29 = .ok (.bastore, 1) := by decide +kernel
theorem dX9_appendFour_30 : decode cX9_appendFour 30 = .ok (.aload_n 0, 1) := by decide +kernel
theorem dX9_appendFour_31 : decode cX9_appendFour 31 = .ok (.dup, 1) := by decide +kernel
theorem dX9_appendFour_32 : decode cX9_appendFour 32 = .ok (.getfield 13, 3) := by decide +kernel
theorem dX9_appendFour_35 : decode cX9_appendFour 35 = .ok (.iconst 1, 1) := by decide +kernel
theorem dX9_appendFour_36 : decode cX9_appendFour 36 = .ok (.iadd, 1) := by decide +kernel
theorem dX9_appendFour_37 : decode cX9_appendFour 37 = .ok (.putfield 13, 3) := by decide +kernel
theorem dX9_appendFour_40 : decode cX9_appendFour 40 = .ok (.iinc 2 (-8), 3) := by decide +kernel
theorem dX9_appendFour_43 : decode cX9_appendFour 43 = .ok (.goto (-40), 3) := by decide +kernel
theorem dX9_appendFour_46 : decode cX9_appendFour 46 = .ok (.return_, 1) := by decide +kernel
set_option maxRecDepth 20000 in
theorem ggX9_takeWord_X4_isLetter : GoodIn wsX9_takeWord wsX4_isLetter := goodIn_r _ [6] (by decide +kernel) (by decide +kernel)
set_option maxRecDepth 20000 in
theorem gX9_takeWord_X4_isLetter : GoodIn wsX9_takeWord (va_wsS RX9 300 yX4_isLetter wsX4_isLetter) := goodIn_app (goodIn_of _ (by decide +kernel)) ggX9_takeWord_X4_isLetter
set_option maxRecDepth 20000 in
theorem ggX9_takeWord_X4_read : GoodIn wsX9_takeWord wsX4_read := goodIn_r _ [9] (by decide +kernel) (by decide +kernel)
set_option maxRecDepth 20000 in
theorem gX9_takeWord_X4_read : GoodIn wsX9_takeWord (va_wsS RX9 304 yX4_read wsX4_read) := goodIn_app (goodIn_of _ (by decide +kernel)) ggX9_takeWord_X4_read
theorem dX9_takeWord_0 : decode cX9_takeWord 0 = .ok (.aload_n 0, 1) := by decide +kernel
theorem dX9_takeWord_1 : decode cX9_takeWord 1 = .ok (.getfield 13, 3) := by decide +kernel
theorem dX9_takeWord_4 : decode cX9_takeWord 4 = .ok (.istore_n 1, 1) := by decide +kernel
theorem dX9_takeWord_5 : decode cX9_takeWord 5 = .ok (.aload_n 0, 1) := by decide +kernel
theorem dX9_takeWord_6 : decode cX9_takeWord 6 = .ok (.iconst 0, 1) := by decide +kernel
theorem dX9_takeWord_7 : decode cX9_takeWord 7 = .ok (.putfield 13, 3) := by decide +kernel
theorem dX9_takeWord_10 : decode cX9_takeWord 10 = .ok (.iconst 0, 1) := by decide +kernel
theorem dX9_takeWord_11 : decode cX9_takeWord 11 = .ok (.istore_n 2, 1) := by decide +kernel
theorem dX9_takeWord_12 : decode cX9_takeWord 12 = .ok (.iload_n 2, 1) := by decide +kernel
theorem dX9_takeWord_13 : decode cX9_takeWord 13 = .ok (.iload_n 1, 1) := by decide +kernel
theorem dX9_takeWord_14 : decode cX9_takeWord 14 = .ok (.if_icmp .ge 21, 3) := by decide +kernel
theorem dX9_takeWord_17 : decode cX9_takeWord 17 = .ok (.aload_n 0, 1) := by decide +kernel
theorem dX9_takeWord_18 : decode cX9_takeWord 18 = .ok (.getfield 9, 3) := by decide +kernel
theorem dX9_takeWord_21 : decode cX9_takeWord 21 = .ok (.iload_n 2, 1) := by decide +kernel
theorem dX9_takeWord_22 : decode cX9_takeWord 22 = .ok (.baload, 1) := by decide +kernel
theorem dX9_takeWord_23 : decode cX9_takeWord 23 = .ok (.invokestatic 300, 3) := by decide +kernel
theorem dX9_takeWord_26 : decode cX9_takeWord 26 = .ok (.ifCond .eq 9, 3) := by decide +kernel
theorem dX9_takeWord_29 : decode cX9_takeWord 29 = .ok (.iinc 2 1, 3) := by decide +kernel
theorem dX9_takeWord_32 : decode cX9_takeWord 32 = .ok (.goto (-20), 3) := by decide +kernel
theorem dX9_takeWord_35 : decode cX9_takeWord 35 = .ok (.iload_n 2, 1) := by decide +kernel
theorem dX9_takeWord_36 : decode cX9_takeWord 36 = .ok (.istore_n 3, 1) := by decide +kernel
theorem dX9_takeWord_37 : decode cX9_takeWord 37 = .ok (.iload_n 3, 1) := by decide +kernel
theorem dX9_takeWord_38 : decode cX9_takeWord 38 = .ok (.iload_n 1, 1) := by decide +kernel
theorem dX9_takeWord_39 : decode cX9_takeWord 39 = .ok (.if_icmp .ge 22, 3) := by decide +kernel
theorem dX9_takeWord_42 : decode cX9_takeWord 42 = .ok (.aload_n 0, 1) := by decide +kernel
theorem dX9_takeWord_43 : decode cX9_takeWord 43 = .ok (.getfield 9, 3) := by decide +kernel
theorem dX9_takeWord_46 : decode cX9_takeWord 46 = .ok (.iload_n 3, 1) := by decide +kernel
theorem dX9_takeWord_47 : decode cX9_takeWord 47 = .ok (.baload, 1) := by decide +kernel
theorem dX9_takeWord_48 : decode cX9_takeWord 48 = .ok (.bipush 32, 2) := by decide +kernel
theorem dX9_takeWord_50 : decode cX9_takeWord 50 = .ok (.if_icmp .eq 5, 3) := by decide +kernel
theorem dX9_takeWord_53 : decode cX9_takeWord 53 = .ok (.lconst 0, 1) := by decide +kernel
theorem dX9_takeWord_54 : decode cX9_takeWord 54 = .ok (.lreturn, 1) := by decide +kernel
theorem dX9_takeWord_55 : decode cX9_takeWord 55 = .ok (.iinc 3 1, 3) := by decide +kernel
theorem dX9_takeWord_58 : decode cX9_takeWord 58 = .ok (.goto (-21), 3) := by decide +kernel
theorem dX9_takeWord_61 : decode cX9_takeWord 61 = .ok (.iload_n 2, 1) := by decide +kernel
theorem dX9_takeWord_62 : decode cX9_takeWord 62 = .ok (.bipush 12, 2) := by decide +kernel
theorem dX9_takeWord_64 : decode cX9_takeWord 64 = .ok (.if_icmp .le 7, 3) := by decide +kernel
theorem dX9_takeWord_67 : decode cX9_takeWord 67 = .ok (.lconst 0, 1) := by decide +kernel
theorem dX9_takeWord_68 : decode cX9_takeWord 68 = .ok (.goto 12, 3) := by decide +kernel
theorem dX9_takeWord_71 : decode cX9_takeWord 71 = .ok (.aload_n 0, 1) := by decide +kernel
theorem dX9_takeWord_72 : decode cX9_takeWord 72 = .ok (.getfield 9, 3) := by decide +kernel
theorem dX9_takeWord_75 : decode cX9_takeWord 75 = .ok (.iconst 0, 1) := by decide +kernel
theorem dX9_takeWord_76 : decode cX9_takeWord 76 = .ok (.iload_n 2, 1) := by decide +kernel
theorem dX9_takeWord_77 : decode cX9_takeWord 77 = .ok (.invokestatic 304, 3) := by decide +kernel
theorem dX9_takeWord_80 : decode cX9_takeWord 80 = .ok (.lreturn, 1) := by decide +kernel
set_option maxRecDepth 20000 in
theorem ggX9_fewestPieces_X2_cutKnown : GoodIn wsX9_fewestPieces wsX2_cutKnown := goodIn_r _ [10, 11, 12, 13, 9, 14, 15, 16, 17, 18, 19, 20, 21, 22, 23, 24, 25, 26, 27, 28, 29, 30, 31, 32, 33, 34, 35, 36, 37, 38, 39, 40, 41, 42, 43, 44, 45, 46, 47, 48, 49, 50, 51, 52, 53, 54, 55, 56, 57, 58, 59, 60, 61, 62, 63, 64, 65, 66, 67, 68, 69, 93, 94, 95, 96, 97, 98, 99, 100, 101, 102, 103, 104, 80, 81, 82, 83, 84, 85, 86, 87, 105, 106, 107, 108, 109, 110] (by decide +kernel) (by decide +kernel)
set_option maxRecDepth 20000 in
theorem gX9_fewestPieces_X2_cutKnown : GoodIn wsX9_fewestPieces (wsV RX9 308 RX2 yX2_cutKnown wsX2_cutKnown) := goodIn_app (goodIn_of _ (by decide +kernel)) ggX9_fewestPieces_X2_cutKnown
theorem dX9_fewestPieces_0 : decode cX9_fewestPieces 0 = .ok (.aload_n 0, 1) := by decide +kernel
theorem dX9_fewestPieces_1 : decode cX9_fewestPieces 1 = .ok (.getfield 37, 3) := by decide +kernel
theorem dX9_fewestPieces_4 : decode cX9_fewestPieces 4 = .ok (.aload_n 0, 1) := by decide +kernel
theorem dX9_fewestPieces_5 : decode cX9_fewestPieces 5 = .ok (.getfield 23, 3) := by decide +kernel
theorem dX9_fewestPieces_8 : decode cX9_fewestPieces 8 = .ok (.aload_n 0, 1) := by decide +kernel
theorem dX9_fewestPieces_9 : decode cX9_fewestPieces 9 = .ok (.getfield 23, 3) := by decide +kernel
theorem dX9_fewestPieces_12 : decode cX9_fewestPieces 12 = .ok (.getfield 103, 3) := by decide +kernel
theorem dX9_fewestPieces_15 : decode cX9_fewestPieces 15 = .ok (.getfield 189, 3) := by decide +kernel
theorem dX9_fewestPieces_18 : decode cX9_fewestPieces 18 = .ok (.iload_n 1, 1) := by decide +kernel
theorem dX9_fewestPieces_19 : decode cX9_fewestPieces 19 = .ok (.laload, 1) := by decide +kernel
theorem dX9_fewestPieces_20 : decode cX9_fewestPieces 20 = .ok (.invokevirtual 308, 3) := by decide +kernel
theorem dX9_fewestPieces_23 : decode cX9_fewestPieces 23 = .ok (.aload_n 0, 1) := by decide +kernel
theorem dX9_fewestPieces_24 : decode cX9_fewestPieces 24 = .ok (.getfield 37, 3) := by decide +kernel
theorem dX9_fewestPieces_27 : decode cX9_fewestPieces 27 = .ok (.getfield 212, 3) := by decide +kernel
theorem dX9_fewestPieces_30 : decode cX9_fewestPieces 30 = .ok (.ireturn, 1) := by decide +kernel
theorem dX9_requireBelow_0 : decode cX9_requireBelow 0 = .ok (.iload_n 1, 1) := by decide +kernel
theorem dX9_requireBelow_1 : decode cX9_requireBelow 1 = .ok (.ifCond .lt 8, 3) := by decide +kernel
theorem dX9_requireBelow_4 : decode cX9_requireBelow 4 = .ok (.iload_n 1, 1) := by decide +kernel
theorem dX9_requireBelow_5 : decode cX9_requireBelow 5 = .ok (.iload_n 2, 1) := by decide +kernel
theorem dX9_requireBelow_6 : decode cX9_requireBelow 6 = .ok (.if_icmp .lt 11, 3) := by decide +kernel
theorem dX9_requireBelow_9 : decode cX9_requireBelow 9 = .ok (.new 67, 3) := by decide +kernel
theorem dX9_requireBelow_12 : decode cX9_requireBelow 12 = .ok (.dup, 1) := by decide +kernel
theorem dX9_requireBelow_13 : decode cX9_requireBelow 13 = .ok (.invokespecial 69, 3) := by decide +kernel
theorem dX9_requireBelow_16 : decode cX9_requireBelow 16 = .ok (.athrow, 1) := by decide +kernel
theorem dX9_requireBelow_17 : decode cX9_requireBelow 17 = .ok (.return_, 1) := by decide +kernel
theorem dX9_requireUser_0 : decode cX9_requireUser 0 = .ok (.iload_n 1, 1) := by decide +kernel
theorem dX9_requireUser_1 : decode cX9_requireUser 1 = .ok (.ifCond .lt 17, 3) := by decide +kernel
theorem dX9_requireUser_4 : decode cX9_requireUser 4 = .ok (.iload_n 1, 1) := by decide +kernel
theorem dX9_requireUser_5 : decode cX9_requireUser 5 = .ok (.aload_n 0, 1) := by decide +kernel
theorem dX9_requireUser_6 : decode cX9_requireUser 6 = .ok (.getfield 23, 3) := by decide +kernel
theorem dX9_requireUser_9 : decode cX9_requireUser 9 = .ok (.getfield 87, 3) := by decide +kernel
theorem dX9_requireUser_12 : decode cX9_requireUser 12 = .ok (.getfield 91, 3) := by decide +kernel
theorem dX9_requireUser_15 : decode cX9_requireUser 15 = .ok (.if_icmp .lt 11, 3) := by decide +kernel
theorem dX9_requireUser_18 : decode cX9_requireUser 18 = .ok (.new 311, 3) := by decide +kernel
theorem dX9_requireUser_21 : decode cX9_requireUser 21 = .ok (.dup, 1) := by decide +kernel
theorem dX9_requireUser_22 : decode cX9_requireUser 22 = .ok (.invokespecial 313, 3) := by decide +kernel
theorem dX9_requireUser_25 : decode cX9_requireUser 25 = .ok (.athrow, 1) := by decide +kernel
theorem dX9_requireUser_26 : decode cX9_requireUser 26 = .ok (.return_, 1) := by decide +kernel
theorem dX9_requirePiece_0 : decode cX9_requirePiece 0 = .ok (.iload_n 1, 1) := by decide +kernel
theorem dX9_requirePiece_1 : decode cX9_requirePiece 1 = .ok (.ifCond .lt 17, 3) := by decide +kernel
theorem dX9_requirePiece_4 : decode cX9_requirePiece 4 = .ok (.iload_n 1, 1) := by decide +kernel
theorem dX9_requirePiece_5 : decode cX9_requirePiece 5 = .ok (.aload_n 0, 1) := by decide +kernel
theorem dX9_requirePiece_6 : decode cX9_requirePiece 6 = .ok (.getfield 23, 3) := by decide +kernel
theorem dX9_requirePiece_9 : decode cX9_requirePiece 9 = .ok (.getfield 96, 3) := by decide +kernel
theorem dX9_requirePiece_12 : decode cX9_requirePiece 12 = .ok (.getfield 100, 3) := by decide +kernel
theorem dX9_requirePiece_15 : decode cX9_requirePiece 15 = .ok (.if_icmp .lt 11, 3) := by decide +kernel
theorem dX9_requirePiece_18 : decode cX9_requirePiece 18 = .ok (.new 311, 3) := by decide +kernel
theorem dX9_requirePiece_21 : decode cX9_requirePiece 21 = .ok (.dup, 1) := by decide +kernel
theorem dX9_requirePiece_22 : decode cX9_requirePiece 22 = .ok (.invokespecial 313, 3) := by decide +kernel
theorem dX9_requirePiece_25 : decode cX9_requirePiece 25 = .ok (.athrow, 1) := by decide +kernel
theorem dX9_requirePiece_26 : decode cX9_requirePiece 26 = .ok (.return_, 1) := by decide +kernel
theorem dX9_requireWord_0 : decode cX9_requireWord 0 = .ok (.iload_n 1, 1) := by decide +kernel
theorem dX9_requireWord_1 : decode cX9_requireWord 1 = .ok (.ifCond .lt 17, 3) := by decide +kernel
theorem dX9_requireWord_4 : decode cX9_requireWord 4 = .ok (.iload_n 1, 1) := by decide +kernel
theorem dX9_requireWord_5 : decode cX9_requireWord 5 = .ok (.aload_n 0, 1) := by decide +kernel
theorem dX9_requireWord_6 : decode cX9_requireWord 6 = .ok (.getfield 23, 3) := by decide +kernel
theorem dX9_requireWord_9 : decode cX9_requireWord 9 = .ok (.getfield 103, 3) := by decide +kernel
theorem dX9_requireWord_12 : decode cX9_requireWord 12 = .ok (.getfield 107, 3) := by decide +kernel
theorem dX9_requireWord_15 : decode cX9_requireWord 15 = .ok (.if_icmp .lt 11, 3) := by decide +kernel
theorem dX9_requireWord_18 : decode cX9_requireWord 18 = .ok (.new 311, 3) := by decide +kernel
theorem dX9_requireWord_21 : decode cX9_requireWord 21 = .ok (.dup, 1) := by decide +kernel
theorem dX9_requireWord_22 : decode cX9_requireWord 22 = .ok (.invokespecial 313, 3) := by decide +kernel
theorem dX9_requireWord_25 : decode cX9_requireWord 25 = .ok (.athrow, 1) := by decide +kernel
theorem dX9_requireWord_26 : decode cX9_requireWord 26 = .ok (.return_, 1) := by decide +kernel
