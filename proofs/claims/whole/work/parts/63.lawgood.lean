set_option maxRecDepth 20000 in
theorem ggL_law_X9_init : GoodIn wsL_law wsX9_init := goodIn_r _ [8, 9, 10, 11, 12, 13, 14, 15, 16, 17, 18, 19, 20, 21, 22, 23, 24, 25, 26, 27, 28, 29, 30, 31, 32, 33, 34, 35, 36, 37, 38, 39, 40, 41, 42, 43, 44, 45, 46, 47, 48, 49, 50, 51, 52, 53, 54, 55, 56, 57, 58, 59, 60, 61, 62, 63, 64, 65, 66, 67, 68, 69, 70, 71, 72, 73, 74, 75, 76, 77, 78, 79, 80, 81, 82, 83, 84, 85, 86, 87, 88, 89, 90, 91, 949, 950, 951, 952, 922, 923, 924, 925, 926, 927, 928, 929, 930, 953, 954, 955, 956, 957, 958, 959, 960, 961, 962, 963, 964, 965, 966, 967, 968, 969, 970, 971, 972, 973, 974] rfl (by decide +kernel)
set_option maxRecDepth 20000 in
theorem gL_law_X9_init : GoodIn wsL_law (wsX9_init) := ggL_law_X9_init
set_option maxRecDepth 20000 in
theorem ggL_law_X10_init : GoodIn wsL_law wsX10_init := goodIn_r _ [94, 95, 10, 11, 51, 96, 97, 98, 99, 100, 101, 62, 102, 103, 104, 105, 106, 107, 108, 109, 931, 932, 933, 934, 935, 936, 937, 938, 939, 940, 941, 942, 943, 944, 945, 946, 947, 948] rfl (by decide +kernel)
set_option maxRecDepth 20000 in
theorem gL_law_X10_init : GoodIn wsL_law (wsX10_init) := ggL_law_X10_init
set_option maxRecDepth 20000 in
theorem ggL_law_X9_step : GoodIn wsL_law wsX9_step := goodIn_r _ [113, 15, 114, 115, 116, 14, 117, 118, 119, 120, 121, 122, 52, 53, 54, 922, 923, 924, 925, 926, 927, 928, 929, 930, 949, 950, 951, 952] rfl (by decide +kernel)
set_option maxRecDepth 20000 in
theorem gL_law_X9_step : GoodIn wsL_law (wsV RL 13 RX9 yX9_step wsX9_step) := goodIn_app (goodIn_r _ [110, 111, 112, 2] rfl (by decide +kernel)) ggL_law_X9_step
set_option maxRecDepth 20000 in
theorem ggL_law_X10_step : GoodIn wsL_law wsX10_step := goodIn_r _ [126, 127, 128, 129, 96, 130, 131, 5, 132, 931, 932, 933, 934, 935, 936, 937, 938, 939, 940, 941, 942, 943, 944, 945, 946, 947, 948] rfl (by decide +kernel)
set_option maxRecDepth 20000 in
theorem gL_law_X10_step : GoodIn wsL_law (wsV RL 17 RX10 yX10_step wsX10_step) := goodIn_app (goodIn_r _ [123, 124, 125, 5] rfl (by decide +kernel)) ggL_law_X10_step
set_option maxRecDepth 20000 in
theorem ggL_law_X9_back : GoodIn wsL_law wsX9_back := goodIn_r _ [136, 15, 114, 115, 116, 14, 117, 118, 137, 138, 139, 140, 922, 923, 924, 925, 926, 927, 928, 929, 930, 949, 950, 951, 952] rfl (by decide +kernel)
set_option maxRecDepth 20000 in
theorem gL_law_X9_back : GoodIn wsL_law (wsV RL 18 RX9 yX9_back wsX9_back) := goodIn_app (goodIn_r _ [133, 134, 135, 2] rfl (by decide +kernel)) ggL_law_X9_back
set_option maxRecDepth 20000 in
theorem ggL_law_X10_back : GoodIn wsL_law wsX10_back := goodIn_r _ [144, 127, 145, 129, 130, 131, 5, 132, 931, 932, 933, 934, 935, 936, 937, 938, 939, 940, 941, 942, 943, 944, 945, 946, 947, 948] rfl (by decide +kernel)
set_option maxRecDepth 20000 in
theorem gL_law_X10_back : GoodIn wsL_law (wsV RL 21 RX10 yX10_back wsX10_back) := goodIn_app (goodIn_r _ [141, 142, 143, 5] rfl (by decide +kernel)) ggL_law_X10_back
set_option maxRecDepth 20000 in
theorem ggL_law_X9_way : GoodIn wsL_law wsX9_way := goodIn_r _ [149, 15, 150, 151, 152, 14, 153, 118, 154, 155, 156, 157, 52, 158, 922, 923, 924, 925, 926, 927, 928, 929, 930, 949, 950, 951, 952] rfl (by decide +kernel)
set_option maxRecDepth 20000 in
theorem gL_law_X9_way : GoodIn wsL_law (wsV RL 22 RX9 yX9_way wsX9_way) := goodIn_app (goodIn_r _ [146, 147, 148, 2] rfl (by decide +kernel)) ggL_law_X9_way
set_option maxRecDepth 20000 in
theorem ggL_law_X10_way : GoodIn wsL_law wsX10_way := goodIn_r _ [162, 127, 129, 96, 130, 131, 5, 132, 931, 932, 933, 934, 935, 936, 937, 938, 939, 940, 941, 942, 943, 944, 945, 946, 947, 948] rfl (by decide +kernel)
set_option maxRecDepth 20000 in
theorem gL_law_X10_way : GoodIn wsL_law (wsV RL 25 RX10 yX10_way wsX10_way) := goodIn_app (goodIn_r _ [159, 160, 161, 5] rfl (by decide +kernel)) ggL_law_X10_way
set_option maxRecDepth 20000 in
theorem ggL_law_X9_place : GoodIn wsL_law wsX9_place := goodIn_r _ [166, 15, 167, 168, 169, 14, 170, 118, 171, 172, 173, 174, 54, 175, 176, 177, 178, 179, 53, 922, 923, 924, 925, 926, 927, 928, 929, 930, 949, 950, 951, 952] rfl (by decide +kernel)
set_option maxRecDepth 20000 in
theorem gL_law_X9_place : GoodIn wsL_law (wsV RL 26 RX9 yX9_place wsX9_place) := goodIn_app (goodIn_r _ [163, 164, 165, 2] rfl (by decide +kernel)) ggL_law_X9_place
set_option maxRecDepth 20000 in
theorem ggL_law_X10_place : GoodIn wsL_law wsX10_place := goodIn_r _ [183, 127, 184, 185, 186, 5, 187, 129, 130, 131, 132, 188, 189, 190, 191, 96, 192, 193, 194, 195, 196, 197, 931, 932, 933, 934, 935, 936, 937, 938, 939, 940, 941, 942, 943, 944, 945, 946, 947, 948] rfl (by decide +kernel)
set_option maxRecDepth 20000 in
theorem gL_law_X10_place : GoodIn wsL_law (wsV RL 30 RX10 yX10_place wsX10_place) := goodIn_app (goodIn_r _ [180, 181, 182, 5] rfl (by decide +kernel)) ggL_law_X10_place
set_option maxRecDepth 20000 in
theorem ggL_law_X9_draw : GoodIn wsL_law wsX9_draw := goodIn_r _ [201, 202, 203, 204, 205, 206, 207, 208, 15, 114, 115, 116, 14, 117, 118, 209, 210, 211, 212, 213, 214, 215, 216, 217, 218, 219, 220, 221, 222, 223, 120, 121, 122, 52, 53, 54, 922, 923, 924, 925, 926, 927, 928, 929, 930, 949, 950, 951, 952] rfl (by decide +kernel)
set_option maxRecDepth 20000 in
theorem gL_law_X9_draw : GoodIn wsL_law (wsV RL 31 RX9 yX9_draw wsX9_draw) := goodIn_app (goodIn_r _ [198, 199, 200, 2] rfl (by decide +kernel)) ggL_law_X9_draw
set_option maxRecDepth 20000 in
theorem ggL_law_X10_draw : GoodIn wsL_law wsX10_draw := goodIn_r _ [227, 127, 228, 145, 129, 96, 130, 131, 5, 132, 229, 230, 231, 232, 233, 234, 235, 236, 237, 195, 196, 197, 192, 193, 194, 931, 932, 933, 934, 935, 936, 937, 938, 939, 940, 941, 942, 943, 944, 945, 946, 947, 948] rfl (by decide +kernel)
set_option maxRecDepth 20000 in
theorem gL_law_X10_draw : GoodIn wsL_law (wsV RL 35 RX10 yX10_draw wsX10_draw) := goodIn_app (goodIn_r _ [224, 225, 226, 5] rfl (by decide +kernel)) ggL_law_X10_draw
set_option maxRecDepth 20000 in
theorem ggL_law_X9_word : GoodIn wsL_law wsX9_word := goodIn_r _ [241] rfl (by decide +kernel)
set_option maxRecDepth 20000 in
theorem gL_law_X9_word : GoodIn wsL_law (wsV RL 36 RX9 yX9_word wsX9_word) := goodIn_app (goodIn_r _ [238, 239, 240, 2] rfl (by decide +kernel)) ggL_law_X9_word
set_option maxRecDepth 20000 in
theorem ggL_law_X10_word : GoodIn wsL_law wsX10_word := goodIn_r _ [245, 127, 145, 130, 131, 5, 132, 931, 932, 933, 934, 935, 936, 937, 938, 939, 940, 941, 942, 943, 944, 945, 946, 947, 948] rfl (by decide +kernel)
set_option maxRecDepth 20000 in
theorem gL_law_X10_word : GoodIn wsL_law (wsV RL 40 RX10 yX10_word wsX10_word) := goodIn_app (goodIn_r _ [242, 243, 244, 5] rfl (by decide +kernel)) ggL_law_X10_word
set_option maxRecDepth 20000 in
theorem ggL_law_X9_straight : GoodIn wsL_law wsX9_straight := goodIn_r _ [249, 19, 15, 250, 251, 252, 2, 253, 167, 168, 169, 14, 170, 118, 254, 255, 256, 18, 257, 258, 259, 260, 261, 262, 263, 264, 265, 266, 267, 268, 155, 156, 157, 52, 158, 151, 152, 153, 269, 270, 271, 272, 58, 273, 274, 275, 276, 277, 278, 279, 280, 281, 282, 283, 284, 922, 923, 924, 925, 926, 927, 928, 929, 930, 949, 950, 951, 952, 953, 954, 955, 956, 957, 958, 959] rfl (by decide +kernel)
set_option maxRecDepth 20000 in
theorem gL_law_X9_straight : GoodIn wsL_law (wsV RL 41 RX9 yX9_straight wsX9_straight) := goodIn_app (goodIn_r _ [246, 247, 248, 2] rfl (by decide +kernel)) ggL_law_X9_straight
set_option maxRecDepth 20000 in
theorem ggL_law_X10_straight : GoodIn wsL_law wsX10_straight := goodIn_r _ [288, 127, 289, 290, 291, 5, 292, 184, 185, 186, 187, 129, 130, 131, 132, 293, 294, 295, 296, 297, 298, 299, 300, 96, 301, 302, 303, 304, 98, 305, 99, 306, 931, 932, 933, 934, 935, 936, 937, 938, 939, 940, 941, 942, 943, 944, 945, 946, 947, 948] rfl (by decide +kernel)
set_option maxRecDepth 20000 in
theorem gL_law_X10_straight : GoodIn wsL_law (wsV RL 44 RX10 yX10_straight wsX10_straight) := goodIn_app (goodIn_r _ [285, 286, 287, 5] rfl (by decide +kernel)) ggL_law_X10_straight
set_option maxRecDepth 20000 in
theorem ggL_law_X9_span : GoodIn wsL_law wsX9_span := goodIn_r _ [310, 19, 15, 250, 251, 252, 2, 253, 167, 168, 169, 14, 170, 118, 254, 255, 256, 18, 257, 258, 259, 260, 261, 262, 263, 264, 265, 266, 267, 268, 155, 156, 157, 52, 158, 151, 152, 153, 269, 270, 271, 272, 58, 273, 274, 275, 276, 311, 282, 283, 284, 312, 313, 314, 315, 316, 317, 318, 319, 203, 204, 205, 320, 321, 322, 323, 324, 325, 326, 922, 923, 924, 925, 926, 927, 928, 929, 930, 949, 950, 951, 952, 953, 954, 955, 956, 957, 958, 959] rfl (by decide +kernel)
set_option maxRecDepth 20000 in
theorem gL_law_X9_span : GoodIn wsL_law (wsV RL 45 RX9 yX9_span wsX9_span) := goodIn_app (goodIn_r _ [307, 308, 309, 2] rfl (by decide +kernel)) ggL_law_X9_span
set_option maxRecDepth 20000 in
theorem ggL_law_X10_span : GoodIn wsL_law wsX10_span := goodIn_r _ [330, 127, 99, 98, 289, 290, 291, 5, 292, 184, 185, 186, 187, 129, 130, 131, 132, 297, 298, 299, 300, 96, 301, 302, 303, 304, 305, 306, 331, 332, 333, 931, 932, 933, 934, 935, 936, 937, 938, 939, 940, 941, 942, 943, 944, 945, 946, 947, 948] rfl (by decide +kernel)
set_option maxRecDepth 20000 in
theorem gL_law_X10_span : GoodIn wsL_law (wsV RL 49 RX10 yX10_span wsX10_span) := goodIn_app (goodIn_r _ [327, 328, 329, 5] rfl (by decide +kernel)) ggL_law_X10_span
set_option maxRecDepth 20000 in
theorem ggL_law_X9_plain : GoodIn wsL_law wsX9_plain := goodIn_r _ [337, 19, 15, 250, 251, 252, 2, 253, 167, 168, 169, 14, 170, 118, 254, 255, 256, 18, 257, 258, 259, 260, 261, 262, 263, 264, 265, 266, 267, 268, 155, 156, 157, 52, 158, 151, 152, 153, 269, 270, 271, 272, 58, 273, 274, 275, 276, 277, 278, 279, 280, 281, 282, 283, 284, 338, 339, 340, 341, 922, 923, 924, 925, 926, 927, 928, 929, 930, 949, 950, 951, 952, 953, 954, 955, 956, 957, 958, 959] rfl (by decide +kernel)
set_option maxRecDepth 20000 in
theorem gL_law_X9_plain : GoodIn wsL_law (wsV RL 50 RX9 yX9_plain wsX9_plain) := goodIn_app (goodIn_r _ [334, 335, 336, 2] rfl (by decide +kernel)) ggL_law_X9_plain
set_option maxRecDepth 20000 in
theorem ggL_law_X10_plain : GoodIn wsL_law wsX10_plain := goodIn_r _ [345, 127, 98, 99, 289, 290, 291, 5, 292, 184, 185, 186, 187, 129, 130, 131, 132, 293, 294, 295, 296, 297, 298, 299, 300, 96, 301, 302, 303, 304, 305, 306, 931, 932, 933, 934, 935, 936, 937, 938, 939, 940, 941, 942, 943, 944, 945, 946, 947, 948] rfl (by decide +kernel)
set_option maxRecDepth 20000 in
theorem gL_law_X10_plain : GoodIn wsL_law (wsV RL 54 RX10 yX10_plain wsX10_plain) := goodIn_app (goodIn_r _ [342, 343, 344, 5] rfl (by decide +kernel)) ggL_law_X10_plain
set_option maxRecDepth 20000 in
theorem ggL_law_X9_longest : GoodIn wsL_law wsX9_longest := goodIn_r _ [349, 15, 19, 114, 115, 116, 14, 117, 118, 350, 351, 352, 18, 353, 258, 259, 260, 261, 262, 263, 264, 265, 266, 267, 354, 268, 155, 156, 157, 52, 158, 151, 152, 153, 269, 270, 271, 272, 58, 273, 274, 275, 276, 355, 278, 279, 280, 281, 282, 283, 284, 922, 923, 924, 925, 926, 927, 928, 929, 930, 949, 950, 951, 952, 953, 954, 955, 956, 957, 958, 959] rfl (by decide +kernel)
set_option maxRecDepth 20000 in
theorem gL_law_X9_longest : GoodIn wsL_law (wsV RL 55 RX9 yX9_longest wsX9_longest) := goodIn_app (goodIn_r _ [346, 347, 348, 2] rfl (by decide +kernel)) ggL_law_X9_longest
set_option maxRecDepth 20000 in
theorem ggL_law_X10_longest : GoodIn wsL_law wsX10_longest := goodIn_r _ [359, 127, 129, 360, 361, 362, 5, 363, 293, 294, 295, 296, 297, 298, 299, 300, 96, 301, 302, 303, 304, 98, 305, 99, 306, 931, 932, 933, 934, 935, 936, 937, 938, 939, 940, 941, 942, 943, 944, 945, 946, 947, 948] rfl (by decide +kernel)
set_option maxRecDepth 20000 in
theorem gL_law_X10_longest : GoodIn wsL_law (wsV RL 59 RX10 yX10_longest wsX10_longest) := goodIn_app (goodIn_r _ [356, 357, 358, 5] rfl (by decide +kernel)) ggL_law_X10_longest
set_option maxRecDepth 20000 in
theorem ggL_law_X9_pieces : GoodIn wsL_law wsX9_pieces := goodIn_r _ [367, 15, 19, 114, 115, 116, 14, 117, 118, 350, 351, 352, 18, 353, 258, 259, 260, 261, 262, 263, 264, 265, 266, 267, 354, 268, 155, 156, 157, 52, 158, 151, 152, 153, 269, 270, 271, 272, 58, 273, 274, 275, 276, 355, 278, 279, 280, 281, 282, 283, 284, 922, 923, 924, 925, 926, 927, 928, 929, 930, 949, 950, 951, 952, 953, 954, 955, 956, 957, 958, 959] rfl (by decide +kernel)
set_option maxRecDepth 20000 in
theorem gL_law_X9_pieces : GoodIn wsL_law (wsV RL 60 RX9 yX9_pieces wsX9_pieces) := goodIn_app (goodIn_r _ [364, 365, 366, 2] rfl (by decide +kernel)) ggL_law_X9_pieces
set_option maxRecDepth 20000 in
theorem ggL_law_X10_pieces : GoodIn wsL_law wsX10_pieces := goodIn_r _ [371, 127, 129, 360, 361, 362, 5, 363, 293, 294, 295, 296, 297, 298, 299, 300, 96, 301, 302, 303, 304, 98, 305, 99, 306, 931, 932, 933, 934, 935, 936, 937, 938, 939, 940, 941, 942, 943, 944, 945, 946, 947, 948] rfl (by decide +kernel)
set_option maxRecDepth 20000 in
theorem gL_law_X10_pieces : GoodIn wsL_law (wsV RL 64 RX10 yX10_pieces wsX10_pieces) := goodIn_app (goodIn_r _ [368, 369, 370, 5] rfl (by decide +kernel)) ggL_law_X10_pieces
set_option maxRecDepth 20000 in
theorem ggL_law_X9_pieceEnd : GoodIn wsL_law wsX9_pieceEnd := goodIn_r _ [375, 15, 19, 114, 115, 116, 14, 117, 118, 350, 351, 352, 18, 353, 258, 259, 260, 261, 262, 263, 264, 265, 266, 267, 354, 268, 155, 156, 157, 52, 158, 151, 152, 153, 269, 270, 271, 272, 58, 273, 274, 275, 276, 355, 278, 279, 280, 281, 282, 283, 284, 922, 923, 924, 925, 926, 927, 928, 929, 930, 949, 950, 951, 952, 953, 954, 955, 956, 957, 958, 959] rfl (by decide +kernel)
set_option maxRecDepth 20000 in
theorem gL_law_X9_pieceEnd : GoodIn wsL_law (wsV RL 65 RX9 yX9_pieceEnd wsX9_pieceEnd) := goodIn_app (goodIn_r _ [372, 373, 374, 2] rfl (by decide +kernel)) ggL_law_X9_pieceEnd
set_option maxRecDepth 20000 in
theorem ggL_law_X10_pieceEnd : GoodIn wsL_law wsX10_pieceEnd := goodIn_r _ [379, 127, 129, 360, 361, 362, 5, 363, 293, 294, 295, 296, 297, 298, 299, 300, 96, 301, 302, 303, 304, 98, 305, 99, 306, 931, 932, 933, 934, 935, 936, 937, 938, 939, 940, 941, 942, 943, 944, 945, 946, 947, 948] rfl (by decide +kernel)
set_option maxRecDepth 20000 in
theorem gL_law_X10_pieceEnd : GoodIn wsL_law (wsV RL 68 RX10 yX10_pieceEnd wsX10_pieceEnd) := goodIn_app (goodIn_r _ [376, 377, 378, 5] rfl (by decide +kernel)) ggL_law_X10_pieceEnd
set_option maxRecDepth 20000 in
theorem ggL_law_X9_ground : GoodIn wsL_law wsX9_ground := goodIn_r _ [383, 23, 384, 385, 386, 22, 387, 64, 65, 63, 388, 389, 390, 391, 922, 923, 924, 925, 926, 927, 928, 929, 930, 960, 961, 962] rfl (by decide +kernel)
set_option maxRecDepth 20000 in
theorem gL_law_X9_ground : GoodIn wsL_law (wsV RL 69 RX9 yX9_ground wsX9_ground) := goodIn_app (goodIn_r _ [380, 381, 382, 2] rfl (by decide +kernel)) ggL_law_X9_ground
set_option maxRecDepth 20000 in
theorem ggL_law_X10_ground : GoodIn wsL_law wsX10_ground := goodIn_r _ [395, 127, 396, 100, 101, 102, 130, 131, 5, 132, 931, 932, 933, 934, 935, 936, 937, 938, 939, 940, 941, 942, 943, 944, 945, 946, 947, 948] rfl (by decide +kernel)
set_option maxRecDepth 20000 in
theorem gL_law_X10_ground : GoodIn wsL_law (wsV RL 72 RX10 yX10_ground wsX10_ground) := goodIn_app (goodIn_r _ [392, 393, 394, 5] rfl (by decide +kernel)) ggL_law_X10_ground
set_option maxRecDepth 20000 in
theorem ggL_law_X9_set : GoodIn wsL_law wsX9_set := goodIn_r _ [400, 23, 401, 402, 403, 22, 404, 405, 389, 390, 391, 64, 65, 406, 407, 408, 409, 63, 410, 411, 412, 413, 414, 922, 923, 924, 925, 926, 927, 928, 929, 930, 960, 961, 962] rfl (by decide +kernel)
set_option maxRecDepth 20000 in
theorem gL_law_X9_set : GoodIn wsL_law (wsV RL 73 RX9 yX9_set wsX9_set) := goodIn_app (goodIn_r _ [397, 398, 399, 2] rfl (by decide +kernel)) ggL_law_X9_set
set_option maxRecDepth 20000 in
theorem ggL_law_X10_set : GoodIn wsL_law wsX10_set := goodIn_r _ [418, 127, 102, 419, 420, 421, 5, 422, 423, 424, 425, 426, 100, 101, 130, 131, 132, 931, 932, 933, 934, 935, 936, 937, 938, 939, 940, 941, 942, 943, 944, 945, 946, 947, 948] rfl (by decide +kernel)
set_option maxRecDepth 20000 in
theorem gL_law_X10_set : GoodIn wsL_law (wsV RL 76 RX10 yX10_set wsX10_set) := goodIn_app (goodIn_r _ [415, 416, 417, 5] rfl (by decide +kernel)) ggL_law_X10_set
set_option maxRecDepth 20000 in
theorem ggL_law_X9_has : GoodIn wsL_law wsX9_has := goodIn_r _ [430, 23, 401, 402, 403, 22, 404, 405, 389, 390, 391, 64, 65, 406, 407, 408, 409, 63, 410, 922, 923, 924, 925, 926, 927, 928, 929, 930, 960, 961, 962] rfl (by decide +kernel)
set_option maxRecDepth 20000 in
theorem gL_law_X9_has : GoodIn wsL_law (wsV RL 77 RX9 yX9_has wsX9_has) := goodIn_app (goodIn_r _ [427, 428, 429, 2] rfl (by decide +kernel)) ggL_law_X9_has
set_option maxRecDepth 20000 in
theorem ggL_law_X10_has : GoodIn wsL_law wsX10_has := goodIn_r _ [434, 127, 102, 419, 420, 421, 5, 422, 423, 424, 425, 426, 100, 101, 130, 131, 132, 931, 932, 933, 934, 935, 936, 937, 938, 939, 940, 941, 942, 943, 944, 945, 946, 947, 948] rfl (by decide +kernel)
set_option maxRecDepth 20000 in
theorem gL_law_X10_has : GoodIn wsL_law (wsV RL 80 RX10 yX10_has wsX10_has) := goodIn_app (goodIn_r _ [431, 432, 433, 5] rfl (by decide +kernel)) ggL_law_X10_has
set_option maxRecDepth 20000 in
theorem ggL_law_X9_fill : GoodIn wsL_law wsX9_fill := goodIn_r _ [438, 23, 31, 15, 27, 401, 402, 403, 22, 404, 405, 389, 390, 391, 64, 65, 439, 440, 441, 30, 442, 75, 443, 444, 445, 446, 447, 448, 449, 450, 451, 115, 116, 14, 117, 118, 452, 177, 178, 179, 53, 175, 168, 169, 170, 453, 172, 173, 174, 54, 454, 455, 456, 457, 458, 459, 460, 461, 462, 463, 464, 465, 466, 467, 468, 469, 470, 471, 26, 472, 473, 474, 204, 475, 69, 476, 477, 478, 479, 480, 70, 481, 482, 483, 484, 485, 486, 487, 488, 71, 489, 490, 491, 492, 493, 494, 495, 496, 497, 498, 499, 500, 501, 502, 503, 504, 505, 506, 507, 508, 412, 413, 414, 63, 410, 509, 510, 511, 512, 513, 407, 408, 409, 922, 923, 924, 925, 926, 927, 928, 929, 930, 960, 961, 962, 966, 949, 950, 951, 952, 963, 964, 965] rfl (by decide +kernel)
set_option maxRecDepth 20000 in
theorem gL_law_X9_fill : GoodIn wsL_law (wsV RL 81 RX9 yX9_fill wsX9_fill) := goodIn_app (goodIn_r _ [435, 436, 437, 2] rfl (by decide +kernel)) ggL_law_X9_fill
set_option maxRecDepth 20000 in
theorem ggL_law_X10_fill : GoodIn wsL_law wsX10_fill := goodIn_r _ [517, 127, 103, 129, 100, 102, 419, 420, 421, 5, 422, 423, 424, 425, 426, 101, 130, 131, 132, 188, 189, 190, 191, 96, 192, 193, 194, 195, 196, 197, 518, 519, 520, 521, 522, 523, 524, 525, 104, 526, 527, 528, 529, 229, 230, 231, 530, 531, 532, 533, 534, 535, 536, 537, 538, 539, 540, 541, 542, 543, 544, 545, 931, 932, 933, 934, 935, 936, 937, 938, 939, 940, 941, 942, 943, 944, 945, 946, 947, 948] rfl (by decide +kernel)
set_option maxRecDepth 20000 in
theorem gL_law_X10_fill : GoodIn wsL_law (wsV RL 84 RX10 yX10_fill wsX10_fill) := goodIn_app (goodIn_r _ [514, 515, 516, 5] rfl (by decide +kernel)) ggL_law_X10_fill
set_option maxRecDepth 20000 in
theorem ggL_law_X9_heap : GoodIn wsL_law wsX9_heap := goodIn_r _ [549, 23, 27, 35, 509, 510, 511, 22, 512, 405, 389, 390, 391, 64, 65, 513, 407, 408, 409, 63, 410, 402, 403, 404, 550, 551, 552, 553, 554, 470, 471, 26, 472, 473, 474, 204, 475, 69, 476, 477, 478, 479, 480, 70, 481, 444, 445, 446, 482, 448, 449, 450, 483, 455, 456, 457, 484, 555, 556, 557, 558, 71, 559, 486, 487, 488, 489, 490, 491, 492, 493, 494, 560, 561, 562, 563, 564, 565, 566, 567, 568, 569, 570, 571, 572, 573, 574, 575, 576, 577, 578, 579, 580, 581, 582, 34, 583, 584, 585, 207, 208, 79, 80, 586, 587, 588, 589, 590, 591, 592, 593, 594, 595, 596, 597, 598, 599, 600, 601, 602, 603, 604, 605, 606, 607, 608, 609, 610, 611, 612, 613, 614, 615, 616, 617, 618, 619, 620, 621, 622, 623, 624, 625, 626, 922, 923, 924, 925, 926, 927, 928, 929, 930, 960, 961, 962, 963, 964, 965, 967, 968, 969] rfl (by decide +kernel)
set_option maxRecDepth 20000 in
theorem gL_law_X9_heap : GoodIn wsL_law (wsV RL 85 RX9 yX9_heap wsX9_heap) := goodIn_app (goodIn_r _ [546, 547, 548, 2] rfl (by decide +kernel)) ggL_law_X9_heap
set_option maxRecDepth 20000 in
theorem ggL_law_X10_heap : GoodIn wsL_law wsX10_heap := goodIn_r _ [630, 127, 542, 543, 544, 5, 545, 102, 423, 424, 425, 426, 100, 101, 631, 632, 633, 634, 104, 522, 523, 524, 525, 103, 526, 527, 528, 529, 229, 230, 231, 530, 531, 532, 533, 635, 636, 637, 638, 534, 535, 536, 537, 538, 539, 540, 541, 639, 640, 641, 642, 195, 196, 197, 192, 193, 194, 643, 644, 645, 646, 518, 519, 520, 521, 130, 131, 132, 647, 648, 649, 650, 651, 652, 653, 654, 655, 656, 657, 658, 107, 659, 660, 661, 662, 663, 664, 665, 666, 931, 932, 933, 934, 935, 936, 937, 938, 939, 940, 941, 942, 943, 944, 945, 946, 947, 948] rfl (by decide +kernel)
set_option maxRecDepth 20000 in
theorem gL_law_X10_heap : GoodIn wsL_law (wsV RL 88 RX10 yX10_heap wsX10_heap) := goodIn_app (goodIn_r _ [627, 628, 629, 5] rfl (by decide +kernel)) ggL_law_X10_heap
set_option maxRecDepth 20000 in
theorem ggL_law_X9_is : GoodIn wsL_law wsX9_is := goodIn_r _ [670, 35, 23, 43, 580, 581, 582, 34, 583, 584, 585, 207, 204, 208, 79, 80, 586, 587, 588, 22, 589, 64, 590, 591, 592, 593, 594, 595, 596, 597, 65, 598, 569, 570, 571, 572, 455, 456, 457, 513, 407, 408, 409, 63, 410, 402, 403, 404, 405, 389, 390, 391, 599, 600, 601, 602, 603, 604, 605, 606, 607, 608, 609, 610, 611, 612, 613, 614, 615, 616, 617, 444, 445, 446, 618, 448, 449, 450, 619, 620, 621, 622, 623, 624, 625, 626, 671, 672, 673, 674, 675, 676, 677, 678, 568, 679, 680, 681, 42, 682, 683, 684, 685, 686, 510, 511, 512, 687, 688, 689, 690, 691, 692, 693, 474, 475, 694, 695, 696, 697, 922, 923, 924, 925, 926, 927, 928, 929, 930, 967, 968, 969, 960, 961, 962, 971, 972, 973] rfl (by decide +kernel)
set_option maxRecDepth 20000 in
theorem gL_law_X9_is : GoodIn wsL_law (wsV RL 89 RX9 yX9_is wsX9_is) := goodIn_app (goodIn_r _ [667, 668, 669, 2] rfl (by decide +kernel)) ggL_law_X9_is
set_option maxRecDepth 20000 in
theorem ggL_law_X10_is : GoodIn wsL_law wsX10_is := goodIn_r _ [701, 127, 647, 648, 649, 5, 650, 102, 651, 652, 653, 654, 100, 101, 643, 644, 645, 646, 518, 519, 520, 521, 130, 131, 132, 655, 656, 657, 658, 107, 659, 660, 661, 662, 423, 424, 425, 426, 663, 664, 665, 666, 702, 703, 704, 705, 706, 707, 708, 709, 710, 711, 712, 713, 542, 543, 544, 545, 931, 932, 933, 934, 935, 936, 937, 938, 939, 940, 941, 942, 943, 944, 945, 946, 947, 948] rfl (by decide +kernel)
set_option maxRecDepth 20000 in
theorem gL_law_X10_is : GoodIn wsL_law (wsV RL 92 RX10 yX10_is wsX10_is) := goodIn_app (goodIn_r _ [698, 699, 700, 5] rfl (by decide +kernel)) ggL_law_X10_is
set_option maxRecDepth 20000 in
theorem ggL_law_X9_disc : GoodIn wsL_law wsX9_disc := goodIn_r _ [717, 43, 23, 679, 680, 681, 42, 682, 683, 684, 685, 686, 510, 511, 22, 512, 405, 389, 390, 391, 64, 65, 513, 407, 408, 409, 63, 410, 402, 403, 404, 687, 595, 596, 597, 688, 587, 588, 589, 689, 690, 691, 692, 207, 204, 208, 693, 474, 475, 694, 695, 444, 445, 446, 696, 448, 449, 450, 697, 718, 719, 720, 721, 722, 723, 724, 725, 726, 727, 728, 729, 922, 923, 924, 925, 926, 927, 928, 929, 930, 971, 972, 973, 960, 961, 962] rfl (by decide +kernel)
set_option maxRecDepth 20000 in
theorem gL_law_X9_disc : GoodIn wsL_law (wsV RL 93 RX9 yX9_disc wsX9_disc) := goodIn_app (goodIn_r _ [714, 715, 716, 2] rfl (by decide +kernel)) ggL_law_X9_disc
set_option maxRecDepth 20000 in
theorem ggL_law_X10_disc : GoodIn wsL_law wsX10_disc := goodIn_r _ [733, 127, 306, 711, 712, 713, 130, 131, 5, 132, 706, 707, 708, 709, 101, 100, 710, 102, 542, 543, 544, 545, 423, 424, 425, 426, 931, 932, 933, 934, 935, 936, 937, 938, 939, 940, 941, 942, 943, 944, 945, 946, 947, 948] rfl (by decide +kernel)
set_option maxRecDepth 20000 in
theorem gL_law_X10_disc : GoodIn wsL_law (wsV RL 96 RX10 yX10_disc wsX10_disc) := goodIn_app (goodIn_r _ [730, 731, 732, 5] rfl (by decide +kernel)) ggL_law_X10_disc
set_option maxRecDepth 20000 in
theorem ggL_law_X9_part : GoodIn wsL_law wsX9_part := goodIn_r _ [737, 23, 27, 401, 402, 403, 22, 404, 405, 389, 390, 391, 64, 65, 406, 407, 408, 409, 63, 410, 550, 551, 552, 553, 554, 470, 471, 26, 472, 473, 474, 204, 475, 69, 476, 477, 478, 479, 480, 70, 481, 444, 445, 446, 482, 448, 449, 450, 483, 455, 456, 457, 484, 738, 501, 502, 503, 922, 923, 924, 925, 926, 927, 928, 929, 930, 960, 961, 962, 963, 964, 965] rfl (by decide +kernel)
set_option maxRecDepth 20000 in
theorem gL_law_X9_part : GoodIn wsL_law (wsV RL 97 RX9 yX9_part wsX9_part) := goodIn_app (goodIn_r _ [734, 735, 736, 2] rfl (by decide +kernel)) ggL_law_X9_part
set_option maxRecDepth 20000 in
theorem ggL_law_X10_part : GoodIn wsL_law wsX10_part := goodIn_r _ [742, 127, 104, 419, 420, 421, 5, 422, 423, 424, 425, 426, 100, 101, 130, 131, 132, 522, 523, 524, 525, 102, 103, 526, 527, 528, 529, 229, 230, 231, 530, 531, 532, 533, 931, 932, 933, 934, 935, 936, 937, 938, 939, 940, 941, 942, 943, 944, 945, 946, 947, 948] rfl (by decide +kernel)
set_option maxRecDepth 20000 in
theorem gL_law_X10_part : GoodIn wsL_law (wsV RL 100 RX10 yX10_part wsX10_part) := goodIn_app (goodIn_r _ [739, 740, 741, 5] rfl (by decide +kernel)) ggL_law_X10_part
set_option maxRecDepth 20000 in
theorem ggL_law_X9_hull : GoodIn wsL_law wsX9_hull := goodIn_r _ [746, 35, 23, 580, 581, 582, 34, 583, 584, 585, 207, 204, 208, 79, 80, 586, 587, 588, 22, 589, 64, 590, 591, 592, 593, 594, 595, 596, 597, 65, 598, 569, 570, 571, 572, 455, 456, 457, 513, 407, 408, 409, 63, 410, 402, 403, 404, 405, 389, 390, 391, 599, 600, 601, 602, 603, 604, 605, 606, 607, 608, 609, 610, 747, 748, 749, 750, 922, 923, 924, 925, 926, 927, 928, 929, 930, 967, 968, 969, 960, 961, 962] rfl (by decide +kernel)
set_option maxRecDepth 20000 in
theorem gL_law_X9_hull : GoodIn wsL_law (wsV RL 101 RX9 yX9_hull wsX9_hull) := goodIn_app (goodIn_r _ [743, 744, 745, 2] rfl (by decide +kernel)) ggL_law_X9_hull
set_option maxRecDepth 20000 in
theorem ggL_law_X10_hull : GoodIn wsL_law wsX10_hull := goodIn_r _ [754, 127, 651, 652, 653, 5, 654, 100, 101, 643, 644, 645, 646, 102, 518, 519, 520, 521, 130, 131, 132, 655, 656, 657, 658, 107, 659, 660, 661, 662, 931, 932, 933, 934, 935, 936, 937, 938, 939, 940, 941, 942, 943, 944, 945, 946, 947, 948] rfl (by decide +kernel)
set_option maxRecDepth 20000 in
theorem gL_law_X10_hull : GoodIn wsL_law (wsV RL 104 RX10 yX10_hull wsX10_hull) := goodIn_app (goodIn_r _ [751, 752, 753, 5] rfl (by decide +kernel)) ggL_law_X10_hull
set_option maxRecDepth 20000 in
theorem ggL_law_X9_corner : GoodIn wsL_law wsX9_corner := goodIn_r _ [758, 35, 23, 580, 581, 582, 34, 583, 584, 585, 207, 204, 208, 79, 80, 586, 587, 588, 22, 589, 64, 590, 591, 592, 593, 594, 595, 596, 597, 65, 598, 569, 570, 571, 572, 455, 456, 457, 513, 407, 408, 409, 63, 410, 402, 403, 404, 405, 389, 390, 391, 599, 600, 601, 602, 603, 604, 605, 606, 607, 608, 609, 610, 747, 748, 749, 750, 759, 760, 761, 762, 763, 922, 923, 924, 925, 926, 927, 928, 929, 930, 967, 968, 969, 960, 961, 962] rfl (by decide +kernel)
set_option maxRecDepth 20000 in
theorem gL_law_X9_corner : GoodIn wsL_law (wsV RL 105 RX9 yX9_corner wsX9_corner) := goodIn_app (goodIn_r _ [755, 756, 757, 2] rfl (by decide +kernel)) ggL_law_X9_corner
set_option maxRecDepth 20000 in
theorem ggL_law_X10_corner : GoodIn wsL_law wsX10_corner := goodIn_r _ [767, 127, 107, 651, 652, 653, 5, 654, 100, 101, 643, 644, 645, 646, 102, 518, 519, 520, 521, 130, 131, 132, 655, 656, 657, 658, 659, 660, 661, 662, 931, 932, 933, 934, 935, 936, 937, 938, 939, 940, 941, 942, 943, 944, 945, 946, 947, 948] rfl (by decide +kernel)
set_option maxRecDepth 20000 in
theorem gL_law_X10_corner : GoodIn wsL_law (wsV RL 108 RX10 yX10_corner wsX10_corner) := goodIn_app (goodIn_r _ [764, 765, 766, 5] rfl (by decide +kernel)) ggL_law_X10_corner
set_option maxRecDepth 20000 in
theorem ggL_law_X9_deep : GoodIn wsL_law wsX9_deep := goodIn_r _ [771, 23, 39, 401, 402, 403, 22, 404, 405, 389, 390, 391, 64, 65, 772, 773, 774, 38, 775, 776, 474, 204, 475, 777, 407, 408, 409, 63, 410, 778, 444, 445, 446, 779, 448, 449, 450, 780, 587, 588, 589, 781, 595, 596, 597, 782, 569, 570, 571, 572, 455, 456, 457, 513, 922, 923, 924, 925, 926, 927, 928, 929, 930, 960, 961, 962] rfl (by decide +kernel)
set_option maxRecDepth 20000 in
theorem gL_law_X9_deep : GoodIn wsL_law (wsV RL 109 RX9 yX9_deep wsX9_deep) := goodIn_app (goodIn_r _ [768, 769, 770, 2] rfl (by decide +kernel)) ggL_law_X9_deep
set_option maxRecDepth 20000 in
theorem ggL_law_X10_deep : GoodIn wsL_law wsX10_deep := goodIn_r _ [786, 127, 419, 420, 421, 5, 422, 423, 424, 425, 426, 100, 101, 130, 131, 132, 787, 788, 789, 790, 102, 710, 643, 644, 645, 646, 518, 519, 520, 521, 931, 932, 933, 934, 935, 936, 937, 938, 939, 940, 941, 942, 943, 944, 945, 946, 947, 948] rfl (by decide +kernel)
set_option maxRecDepth 20000 in
theorem gL_law_X10_deep : GoodIn wsL_law (wsV RL 112 RX10 yX10_deep wsX10_deep) := goodIn_app (goodIn_r _ [783, 784, 785, 5] rfl (by decide +kernel)) ggL_law_X10_deep
set_option maxRecDepth 20000 in
theorem ggL_law_X9_deepest : GoodIn wsL_law wsX9_deepest := goodIn_r _ [794, 23, 39, 388, 389, 390, 22, 391, 64, 65, 772, 773, 774, 38, 775, 776, 474, 204, 475, 777, 407, 408, 409, 63, 410, 402, 403, 404, 405, 778, 444, 445, 446, 779, 448, 449, 450, 780, 587, 588, 589, 781, 595, 596, 597, 782, 569, 570, 571, 572, 455, 456, 457, 513, 922, 923, 924, 925, 926, 927, 928, 929, 930, 960, 961, 962] rfl (by decide +kernel)
set_option maxRecDepth 20000 in
theorem gL_law_X9_deepest : GoodIn wsL_law (wsV RL 113 RX9 yX9_deepest wsX9_deepest) := goodIn_app (goodIn_r _ [791, 792, 793, 2] rfl (by decide +kernel)) ggL_law_X9_deepest
set_option maxRecDepth 20000 in
theorem ggL_law_X10_deepest : GoodIn wsL_law wsX10_deepest := goodIn_r _ [798, 127, 423, 424, 425, 5, 426, 100, 101, 787, 788, 789, 790, 102, 710, 643, 644, 645, 646, 518, 519, 520, 521, 130, 131, 132, 931, 932, 933, 934, 935, 936, 937, 938, 939, 940, 941, 942, 943, 944, 945, 946, 947, 948] rfl (by decide +kernel)
set_option maxRecDepth 20000 in
theorem gL_law_X10_deepest : GoodIn wsL_law (wsV RL 116 RX10 yX10_deepest wsX10_deepest) := goodIn_app (goodIn_r _ [795, 796, 797, 5] rfl (by decide +kernel)) ggL_law_X10_deepest
set_option maxRecDepth 20000 in
theorem ggL_law_X9_needed : GoodIn wsL_law wsX9_needed := goodIn_r _ [802, 23, 39, 401, 402, 403, 22, 404, 405, 389, 390, 391, 64, 65, 803, 804, 805, 38, 806, 84, 807, 808, 773, 774, 775, 776, 474, 204, 475, 777, 407, 408, 409, 63, 410, 778, 444, 445, 446, 779, 448, 449, 450, 780, 587, 588, 589, 781, 595, 596, 597, 782, 569, 570, 571, 572, 455, 456, 457, 513, 809, 810, 811, 812, 813, 814, 815, 816, 922, 923, 924, 925, 926, 927, 928, 929, 930, 960, 961, 962, 970] rfl (by decide +kernel)
set_option maxRecDepth 20000 in
theorem gL_law_X9_needed : GoodIn wsL_law (wsV RL 117 RX9 yX9_needed wsX9_needed) := goodIn_app (goodIn_r _ [799, 800, 801, 2] rfl (by decide +kernel)) ggL_law_X9_needed
set_option maxRecDepth 20000 in
theorem ggL_law_X10_needed : GoodIn wsL_law wsX10_needed := goodIn_r _ [820, 127, 419, 420, 421, 5, 422, 423, 424, 425, 426, 100, 101, 130, 131, 132, 821, 822, 823, 824, 105, 787, 788, 789, 790, 102, 710, 643, 644, 645, 646, 518, 519, 520, 521, 825, 826, 827, 828, 829, 931, 932, 933, 934, 935, 936, 937, 938, 939, 940, 941, 942, 943, 944, 945, 946, 947, 948] rfl (by decide +kernel)
set_option maxRecDepth 20000 in
theorem gL_law_X10_needed : GoodIn wsL_law (wsV RL 120 RX10 yX10_needed wsX10_needed) := goodIn_app (goodIn_r _ [817, 818, 819, 5] rfl (by decide +kernel)) ggL_law_X10_needed
set_option maxRecDepth 20000 in
theorem ggL_law_X9_balls : GoodIn wsL_law wsX9_balls := goodIn_r _ [833, 39, 23, 803, 804, 805, 38, 806, 84, 807, 389, 390, 22, 391, 64, 65, 808, 773, 774, 775, 776, 474, 204, 475, 777, 407, 408, 409, 63, 410, 402, 403, 404, 405, 778, 444, 445, 446, 779, 448, 449, 450, 780, 587, 588, 589, 781, 595, 596, 597, 782, 569, 570, 571, 572, 455, 456, 457, 513, 388, 809, 810, 811, 812, 813, 814, 815, 816, 922, 923, 924, 925, 926, 927, 928, 929, 930, 970, 960, 961, 962] rfl (by decide +kernel)
set_option maxRecDepth 20000 in
theorem gL_law_X9_balls : GoodIn wsL_law (wsV RL 121 RX9 yX9_balls wsX9_balls) := goodIn_app (goodIn_r _ [830, 831, 832, 2] rfl (by decide +kernel)) ggL_law_X9_balls
set_option maxRecDepth 20000 in
theorem ggL_law_X10_balls : GoodIn wsL_law wsX10_balls := goodIn_r _ [837, 127, 821, 822, 823, 5, 824, 105, 423, 424, 425, 426, 100, 101, 787, 788, 789, 790, 102, 710, 643, 644, 645, 646, 518, 519, 520, 521, 130, 131, 132, 825, 826, 827, 828, 829, 931, 932, 933, 934, 935, 936, 937, 938, 939, 940, 941, 942, 943, 944, 945, 946, 947, 948] rfl (by decide +kernel)
set_option maxRecDepth 20000 in
theorem gL_law_X10_balls : GoodIn wsL_law (wsV RL 124 RX10 yX10_balls wsX10_balls) := goodIn_app (goodIn_r _ [834, 835, 836, 5] rfl (by decide +kernel)) ggL_law_X10_balls
set_option maxRecDepth 20000 in
theorem ggL_law_X9_loose : GoodIn wsL_law wsX9_loose := goodIn_r _ [841, 23, 47, 401, 402, 403, 22, 404, 405, 389, 390, 391, 64, 65, 842, 843, 844, 46, 845, 846, 407, 408, 409, 63, 410, 847, 565, 566, 567, 493, 444, 445, 446, 494, 448, 449, 450, 568, 569, 570, 571, 572, 455, 456, 457, 513, 848, 849, 850, 851, 852, 853, 854, 855, 856, 922, 923, 924, 925, 926, 927, 928, 929, 930, 960, 961, 962] rfl (by decide +kernel)
set_option maxRecDepth 20000 in
theorem gL_law_X9_loose : GoodIn wsL_law (wsV RL 125 RX9 yX9_loose wsX9_loose) := goodIn_app (goodIn_r _ [838, 839, 840, 2] rfl (by decide +kernel)) ggL_law_X9_loose
set_option maxRecDepth 20000 in
theorem ggL_law_X10_loose : GoodIn wsL_law wsX10_loose := goodIn_r _ [860, 127, 419, 420, 421, 5, 422, 423, 424, 425, 426, 100, 101, 130, 131, 132, 861, 862, 863, 864, 102, 865, 866, 867, 868, 108, 643, 644, 645, 646, 518, 519, 520, 521, 869, 870, 871, 872, 109, 229, 230, 231, 931, 932, 933, 934, 935, 936, 937, 938, 939, 940, 941, 942, 943, 944, 945, 946, 947, 948] rfl (by decide +kernel)
set_option maxRecDepth 20000 in
theorem gL_law_X10_loose : GoodIn wsL_law (wsV RL 128 RX10 yX10_loose wsX10_loose) := goodIn_app (goodIn_r _ [857, 858, 859, 5] rfl (by decide +kernel)) ggL_law_X10_loose
set_option maxRecDepth 20000 in
theorem ggL_law_X9_thinning : GoodIn wsL_law wsX9_thinning := goodIn_r _ [876, 47, 23, 877, 878, 879, 46, 880, 91, 881, 389, 390, 22, 391, 64, 65, 846, 407, 408, 409, 63, 410, 402, 403, 404, 405, 847, 565, 566, 567, 493, 444, 445, 446, 494, 448, 449, 450, 568, 569, 570, 571, 572, 455, 456, 457, 513, 882, 883, 884, 885, 574, 575, 576, 577, 578, 579, 848, 849, 850, 851, 852, 853, 854, 855, 856, 886, 412, 413, 414, 922, 923, 924, 925, 926, 927, 928, 929, 930, 974, 960, 961, 962] rfl (by decide +kernel)
set_option maxRecDepth 20000 in
theorem gL_law_X9_thinning : GoodIn wsL_law (wsV RL 129 RX9 yX9_thinning wsX9_thinning) := goodIn_app (goodIn_r _ [873, 874, 875, 2] rfl (by decide +kernel)) ggL_law_X9_thinning
set_option maxRecDepth 20000 in
theorem ggL_law_X10_thinning : GoodIn wsL_law wsX10_thinning := goodIn_r _ [890, 127, 891, 892, 893, 5, 894, 100, 106, 102, 423, 424, 425, 426, 101, 643, 644, 645, 646, 518, 519, 520, 521, 130, 131, 132, 861, 862, 863, 864, 865, 866, 867, 868, 108, 869, 870, 871, 872, 109, 229, 230, 231, 931, 932, 933, 934, 935, 936, 937, 938, 939, 940, 941, 942, 943, 944, 945, 946, 947, 948] rfl (by decide +kernel)
set_option maxRecDepth 20000 in
theorem gL_law_X10_thinning : GoodIn wsL_law (wsV RL 132 RX10 yX10_thinning wsX10_thinning) := goodIn_app (goodIn_r _ [887, 888, 889, 5] rfl (by decide +kernel)) ggL_law_X10_thinning
set_option maxRecDepth 20000 in
theorem ggL_law_X9_thin : GoodIn wsL_law wsX9_thin := goodIn_r _ [898, 47, 23, 877, 878, 879, 46, 880, 91, 881, 389, 390, 22, 391, 64, 65, 846, 407, 408, 409, 63, 410, 402, 403, 404, 405, 847, 565, 566, 567, 493, 444, 445, 446, 494, 448, 449, 450, 568, 569, 570, 571, 572, 455, 456, 457, 513, 882, 883, 884, 885, 574, 575, 576, 577, 578, 579, 848, 849, 850, 851, 852, 853, 854, 855, 856, 886, 412, 413, 414, 922, 923, 924, 925, 926, 927, 928, 929, 930, 974, 960, 961, 962] rfl (by decide +kernel)
set_option maxRecDepth 20000 in
theorem gL_law_X9_thin : GoodIn wsL_law (wsV RL 133 RX9 yX9_thin wsX9_thin) := goodIn_app (goodIn_r _ [895, 896, 897, 2] rfl (by decide +kernel)) ggL_law_X9_thin
set_option maxRecDepth 20000 in
theorem ggL_law_X10_thin : GoodIn wsL_law wsX10_thin := goodIn_r _ [902, 127, 891, 892, 893, 5, 894, 100, 106, 102, 423, 424, 425, 426, 101, 643, 644, 645, 646, 518, 519, 520, 521, 130, 131, 132, 861, 862, 863, 864, 865, 866, 867, 868, 108, 869, 870, 871, 872, 109, 229, 230, 231, 931, 932, 933, 934, 935, 936, 937, 938, 939, 940, 941, 942, 943, 944, 945, 946, 947, 948] rfl (by decide +kernel)
set_option maxRecDepth 20000 in
theorem gL_law_X10_thin : GoodIn wsL_law (wsV RL 136 RX10 yX10_thin wsX10_thin) := goodIn_app (goodIn_r _ [899, 900, 901, 5] rfl (by decide +kernel)) ggL_law_X10_thin
set_option maxRecDepth 20000 in
theorem ggL_law_X9_count : GoodIn wsL_law wsX9_count := goodIn_r _ [906, 15, 23, 114, 115, 116, 14, 117, 118, 907, 587, 588, 22, 589, 64, 908, 595, 596, 597, 65, 909, 910, 911, 912, 52, 913, 914, 915, 916, 405, 389, 390, 391, 513, 407, 408, 409, 63, 410, 402, 403, 404, 917, 490, 491, 492, 493, 444, 445, 446, 494, 448, 449, 450, 922, 923, 924, 925, 926, 927, 928, 929, 930, 949, 950, 951, 952, 960, 961, 962] rfl (by decide +kernel)
set_option maxRecDepth 20000 in
theorem gL_law_X9_count : GoodIn wsL_law (wsV RL 137 RX9 yX9_count wsX9_count) := goodIn_app (goodIn_r _ [903, 904, 905, 2] rfl (by decide +kernel)) ggL_law_X9_count
set_option maxRecDepth 20000 in
theorem ggL_law_X10_count : GoodIn wsL_law wsX10_count := goodIn_r _ [921, 127, 129, 96, 102, 100, 101, 423, 424, 425, 5, 426, 538, 539, 540, 541, 931, 932, 933, 934, 935, 936, 937, 938, 939, 940, 941, 942, 943, 944, 945, 946, 947, 948] rfl (by decide +kernel)
set_option maxRecDepth 20000 in
theorem gL_law_X10_count : GoodIn wsL_law (wsV RL 140 RX10 yX10_count wsX10_count) := goodIn_app (goodIn_r _ [918, 919, 920, 5] rfl (by decide +kernel)) ggL_law_X10_count
