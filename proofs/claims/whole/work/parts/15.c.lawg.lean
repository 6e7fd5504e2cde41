set_option maxRecDepth 20000 in
theorem ggL_law_X4_init : GoodIn wsL_law wsX4_init := goodIn_r _ [9, 10, 11, 12, 13, 14, 15, 16, 17, 18, 19, 20, 21, 22, 23, 24, 25, 26, 27, 28, 29, 30, 31, 32, 33, 34, 35, 36, 37, 38, 39, 40, 41, 6, 42, 43, 44, 45, 46, 47, 48, 49, 50, 51, 52, 53, 54, 55, 56, 57, 58, 59, 60, 61, 62, 63, 64, 65, 66, 67, 68, 69, 70, 71, 72, 73, 74, 75, 76, 77, 78, 79, 80, 81, 82, 83, 84, 85, 86, 87, 88, 89, 90, 91, 92, 93, 94, 95, 96, 97, 98, 99, 100, 101, 102, 103, 104, 105, 106, 107, 108, 109, 110, 111, 112, 113, 114, 115, 116, 117, 118, 119, 120, 121, 122, 123, 124, 125, 126, 127, 128, 129, 130, 131, 132, 133, 134, 135, 136, 137, 138, 961, 962, 928, 929, 930, 931, 932, 933, 934, 935, 936, 963, 964, 965, 966, 967, 968, 969, 970, 971, 972, 973, 974, 975, 976, 977, 978, 979, 980, 981, 982, 983, 984] (by decide +kernel) (by decide +kernel)
set_option maxRecDepth 20000 in
theorem gL_law_X4_init : GoodIn wsL_law (wsX4_init) := ggL_law_X4_init
set_option maxRecDepth 20000 in
theorem ggL_law_X5_init : GoodIn wsL_law wsX5_init := goodIn_r _ [141, 142, 11, 12, 143, 40, 144, 145, 146, 147, 148, 149, 150, 151, 152, 153, 154, 155, 156, 157, 158, 159, 160, 161, 162, 163, 164, 165, 166, 167, 5, 168, 937, 938, 939, 940, 941, 942, 943, 944, 945, 946, 947, 948, 949, 950, 951, 952, 953, 954, 955, 956, 957, 958, 959, 960] (by decide +kernel) (by decide +kernel)
set_option maxRecDepth 20000 in
theorem gL_law_X5_init : GoodIn wsL_law (wsX5_init) := ggL_law_X5_init
set_option maxRecDepth 20000 in
theorem ggL_law_L_divide : GoodIn wsL_law wsL_divide := goodIn_ca (goodIn_ca (goodIn_ca (goodIn_r _ [172, 173, 174, 175, 176, 177, 178, 2, 179, 180, 181, 182, 183, 24, 16, 20, 25, 26, 34, 35, 36, 184, 185, 186, 187, 188, 189, 190, 191, 192, 193, 194, 195, 196, 197, 19, 198, 92, 199, 200, 201, 15, 202, 41, 203, 204, 205, 206, 207, 208, 209, 210, 211, 212, 213, 214, 215, 216, 217, 218, 47, 219, 220, 221, 222, 223, 224, 225, 226, 227, 23, 228, 61, 229, 230, 231, 232, 233, 234, 235, 236, 237, 238, 239, 240, 241, 242, 243, 244, 245, 246, 247, 248, 249, 250, 251, 62, 252, 253, 121, 254, 255, 256, 257, 258, 259, 260, 261, 262, 263, 264, 265, 70, 71, 72, 73, 11, 12, 40, 74, 75, 76, 77, 78, 79, 80, 81, 82, 83, 84, 85, 86, 87, 88, 89, 90, 91, 93, 94, 95, 96, 97, 98, 99, 100, 101, 102, 103, 104, 46, 105, 106, 107, 108, 109, 110, 111, 112, 113, 114, 115, 116, 117, 118, 119, 120, 122, 123, 124, 125, 126, 127, 128, 129, 130, 131, 132, 133, 134, 135, 136, 137, 138, 266, 267, 268, 269, 270, 271, 272, 273, 274, 928, 929, 930, 931, 932, 933, 934, 935, 936, 977, 978, 979, 980, 981, 982, 983, 984, 963, 964, 965, 961, 962, 966, 967] (by decide +kernel) (by decide +kernel)) (goodIn_sub (fun _ h => List.mem_append_left _ (List.mem_append_left _ (List.mem_append_right _ h))) (by decide +kernel))) (goodIn_sub (fun _ h => List.mem_append_left _ (List.mem_append_right _ h)) (by decide +kernel))) (goodIn_sub (fun _ h => List.mem_append_right _ h) (by decide +kernel))
set_option maxRecDepth 20000 in
theorem gL_law_L_divide : GoodIn wsL_law (va_wsS RL 92 yL_divide wsL_divide) := goodIn_app (goodIn_of _ (by decide +kernel)) ggL_law_L_divide
set_option maxRecDepth 20000 in
theorem ggL_law_X5_divide : GoodIn wsL_law wsX5_divide := goodIn_r _ [278, 148, 143, 144, 145, 146, 279, 280, 281, 5, 282, 283, 284, 285, 286, 287, 288, 289, 290, 291, 292, 293, 294, 295, 296, 158, 297, 298, 299, 300, 301, 302, 303, 159, 160, 304, 305, 306, 307, 308, 309, 310, 311, 165, 166, 167, 168, 153, 154, 937, 938, 939, 940, 941, 942, 943, 944, 945, 946, 947, 948, 949, 950, 951, 952, 953, 954, 955, 956, 957, 958, 959, 960] (by decide +kernel) (by decide +kernel)
set_option maxRecDepth 20000 in
theorem gL_law_X5_divide : GoodIn wsL_law (wsV RL 97 RX5 yX5_divide wsX5_divide) := goodIn_app (goodIn_of _ (by decide +kernel)) ggL_law_X5_divide
set_option maxRecDepth 20000 in
theorem ggL_law_X5_thrown : GoodIn wsL_law wsX5_thrown := goodIn_r _ [315, 311, 937, 938, 939, 940, 941, 942, 943, 944, 945, 946, 947, 948, 949, 950, 951, 952, 953, 954, 955, 956, 957, 958, 959, 960] (by decide +kernel) (by decide +kernel)
set_option maxRecDepth 20000 in
theorem gL_law_X5_thrown : GoodIn wsL_law (wsV RL 98 RX5 yX5_thrown wsX5_thrown) := goodIn_app (goodIn_of _ (by decide +kernel)) ggL_law_X5_thrown
set_option maxRecDepth 20000 in
theorem ggL_law_L_give : GoodIn wsL_law wsL_give := goodIn_ca (goodIn_ca (goodIn_r _ [318, 173, 175, 319, 320, 321, 2, 322, 182, 183, 16, 24, 323, 324, 325, 326, 188, 189, 327, 230, 231, 15, 232, 41, 184, 185, 186, 187, 20, 190, 191, 192, 193, 194, 195, 196, 197, 19, 198, 92, 199, 200, 201, 202, 203, 204, 205, 206, 207, 208, 209, 210, 211, 212, 213, 214, 215, 216, 217, 218, 47, 328, 329, 330, 331, 332, 225, 226, 227, 23, 228, 61, 229, 333, 334, 335, 336, 244, 245, 246, 247, 248, 249, 250, 251, 62, 252, 253, 121, 254, 255, 256, 257, 258, 259, 260, 261, 262, 263, 264, 265, 337, 338, 339, 340, 274, 83, 84, 36, 85, 79, 76, 977, 978, 979, 980, 981, 982, 983, 984, 928, 929, 930, 931, 932, 933, 934, 935, 936, 961, 962, 963, 964, 965, 966, 967] (by decide +kernel) (by decide +kernel)) (goodIn_sub (fun _ h => List.mem_append_left _ (List.mem_append_right _ h)) (by decide +kernel))) (goodIn_sub (fun _ h => List.mem_append_right _ h) (by decide +kernel))
set_option maxRecDepth 20000 in
theorem gL_law_L_give : GoodIn wsL_law (va_wsS RL 102 yL_give wsL_give) := goodIn_app (goodIn_of _ (by decide +kernel)) ggL_law_L_give
set_option maxRecDepth 20000 in
theorem ggL_law_X5_give : GoodIn wsL_law wsX5_give := goodIn_r _ [344, 144, 148, 145, 345, 346, 5, 347, 283, 284, 285, 279, 280, 281, 282, 143, 348, 349, 350, 351, 304, 305, 306, 352, 353, 354, 355, 158, 300, 301, 302, 303, 159, 160, 307, 308, 309, 310, 311, 165, 166, 167, 168, 153, 154, 937, 938, 939, 940, 941, 942, 943, 944, 945, 946, 947, 948, 949, 950, 951, 952, 953, 954, 955, 956, 957, 958, 959, 960] (by decide +kernel) (by decide +kernel)
set_option maxRecDepth 20000 in
theorem gL_law_X5_give : GoodIn wsL_law (wsV RL 104 RX5 yX5_give wsX5_give) := goodIn_app (goodIn_of _ (by decide +kernel)) ggL_law_X5_give
set_option maxRecDepth 20000 in
theorem ggL_law_L_join : GoodIn wsL_law wsL_join := goodIn_ca (goodIn_ca (goodIn_r _ [358, 173, 175, 359, 360, 361, 2, 362, 182, 183, 16, 24, 184, 185, 186, 187, 188, 189, 20, 190, 191, 192, 193, 194, 195, 196, 197, 19, 198, 92, 199, 200, 201, 15, 202, 41, 203, 204, 205, 206, 207, 208, 209, 210, 211, 212, 213, 214, 215, 216, 217, 218, 47, 363, 364, 365, 366, 367, 329, 330, 331, 332, 230, 231, 232, 225, 226, 227, 23, 228, 61, 229, 266, 267, 268, 269, 270, 271, 272, 273, 274, 83, 84, 36, 85, 79, 76, 368, 369, 370, 371, 372, 373, 374, 375, 376, 377, 378, 379, 380, 381, 382, 977, 978, 979, 980, 981, 982, 983, 984, 928, 929, 930, 931, 932, 933, 934, 935, 936, 963, 964, 965, 961, 962, 966, 967] (by decide +kernel) (by decide +kernel)) (goodIn_sub (fun _ h => List.mem_append_left _ (List.mem_append_right _ h)) (by decide +kernel))) (goodIn_sub (fun _ h => List.mem_append_right _ h) (by decide +kernel))
set_option maxRecDepth 20000 in
theorem gL_law_L_join : GoodIn wsL_law (va_wsS RL 105 yL_join wsL_join) := goodIn_app (goodIn_of _ (by decide +kernel)) ggL_law_L_join
set_option maxRecDepth 20000 in
theorem ggL_law_X5_join : GoodIn wsL_law wsX5_join := goodIn_r _ [386, 144, 148, 145, 279, 280, 281, 5, 282, 143, 283, 284, 285, 348, 349, 350, 351, 304, 305, 306, 307, 308, 309, 310, 311, 165, 166, 167, 168, 153, 154, 937, 938, 939, 940, 941, 942, 943, 944, 945, 946, 947, 948, 949, 950, 951, 952, 953, 954, 955, 956, 957, 958, 959, 960] (by decide +kernel) (by decide +kernel)
set_option maxRecDepth 20000 in
theorem gL_law_X5_join : GoodIn wsL_law (wsV RL 107 RX5 yX5_join wsX5_join) := goodIn_app (goodIn_of _ (by decide +kernel)) ggL_law_X5_join
set_option maxRecDepth 20000 in
theorem ggL_law_L_colour : GoodIn wsL_law wsL_colour := goodIn_ca (goodIn_ca (goodIn_ca (goodIn_r _ [389, 173, 174, 175, 390, 391, 392, 2, 393, 182, 183, 184, 185, 186, 187, 188, 189, 16, 20, 190, 191, 192, 193, 194, 195, 196, 197, 19, 198, 92, 199, 200, 201, 15, 202, 41, 203, 204, 205, 206, 207, 208, 209, 210, 211, 212, 213, 214, 215, 216, 217, 218, 47, 394, 395, 396, 180, 181, 274, 83, 84, 36, 85, 79, 76, 977, 978, 979, 980, 981, 982, 983, 984, 928, 929, 930, 931, 932, 933, 934, 935, 936, 963, 964, 965, 961, 962] (by decide +kernel) (by decide +kernel)) (goodIn_sub (fun _ h => List.mem_append_left _ (List.mem_append_right _ h)) (by decide +kernel))) (goodIn_sub (fun _ h => List.mem_append_right _ h) (by decide +kernel))) (goodIn_sub (fun _ h => List.mem_append_left _ (List.mem_append_left _ (List.mem_append_right _ h))) (by decide +kernel))
set_option maxRecDepth 20000 in
theorem gL_law_L_colour : GoodIn wsL_law (va_wsS RL 108 yL_colour wsL_colour) := goodIn_app (goodIn_of _ (by decide +kernel)) ggL_law_L_colour
set_option maxRecDepth 20000 in
theorem ggL_law_X5_colour : GoodIn wsL_law wsX5_colour := goodIn_r _ [400, 148, 146, 279, 280, 281, 5, 282, 143, 145, 283, 284, 285, 307, 308, 309, 310, 311, 165, 166, 167, 168, 153, 154, 937, 938, 939, 940, 941, 942, 943, 944, 945, 946, 947, 948, 949, 950, 951, 952, 953, 954, 955, 956, 957, 958, 959, 960] (by decide +kernel) (by decide +kernel)
set_option maxRecDepth 20000 in
theorem gL_law_X5_colour : GoodIn wsL_law (wsV RL 110 RX5 yX5_colour wsX5_colour) := goodIn_app (goodIn_of _ (by decide +kernel)) ggL_law_X5_colour
set_option maxRecDepth 20000 in
theorem ggL_law_X4_finish : GoodIn wsL_law wsX4_finish := goodIn_r _ [404, 20, 190, 16, 195, 196, 197, 19, 198, 92, 203, 204, 205, 206, 207, 208, 209, 210, 211, 212, 213, 214, 215, 216, 217, 218, 47, 199, 200, 201, 15, 202, 41, 274, 83, 84, 36, 85, 79, 76, 928, 929, 930, 931, 932, 933, 934, 935, 936, 977, 978, 979, 980, 981, 982, 983, 984, 963, 964, 965, 961, 962] (by decide +kernel) (by decide +kernel)
set_option maxRecDepth 20000 in
theorem gL_law_X4_finish : GoodIn wsL_law (wsV RL 111 RX4 yX4_finish wsX4_finish) := goodIn_app (goodIn_of _ (by decide +kernel)) ggL_law_X4_finish
set_option maxRecDepth 20000 in
theorem ggL_law_X5_finish : GoodIn wsL_law wsX5_finish := goodIn_r _ [408, 311, 143, 145, 148, 165, 166, 167, 5, 168, 153, 154, 937, 938, 939, 940, 941, 942, 943, 944, 945, 946, 947, 948, 949, 950, 951, 952, 953, 954, 955, 956, 957, 958, 959, 960] (by decide +kernel) (by decide +kernel)
set_option maxRecDepth 20000 in
theorem gL_law_X5_finish : GoodIn wsL_law (wsV RL 114 RX5 yX5_finish wsX5_finish) := goodIn_app (goodIn_of _ (by decide +kernel)) ggL_law_X5_finish
set_option maxRecDepth 20000 in
theorem ggL_law_L_heart : GoodIn wsL_law wsL_heart := goodIn_ca (goodIn_r _ [411, 174, 412, 413, 414, 2, 415, 180, 181, 31, 928, 929, 930, 931, 932, 933, 934, 935, 936] (by decide +kernel) (by decide +kernel)) (goodIn_sub (fun _ h => List.mem_append_left _ (List.mem_append_left _ (List.mem_append_right _ h))) (by decide +kernel))
set_option maxRecDepth 20000 in
theorem gL_law_L_heart : GoodIn wsL_law (va_wsS RL 115 yL_heart wsL_heart) := goodIn_app (goodIn_of _ (by decide +kernel)) ggL_law_L_heart
set_option maxRecDepth 20000 in
theorem ggL_law_X5_heart : GoodIn wsL_law wsX5_heart := goodIn_r _ [419, 155, 283, 284, 5, 285, 307, 308, 309, 310, 311, 937, 938, 939, 940, 941, 942, 943, 944, 945, 946, 947, 948, 949, 950, 951, 952, 953, 954, 955, 956, 957, 958, 959, 960] (by decide +kernel) (by decide +kernel)
set_option maxRecDepth 20000 in
theorem gL_law_X5_heart : GoodIn wsL_law (wsV RL 118 RX5 yX5_heart wsX5_heart) := goodIn_app (goodIn_of _ (by decide +kernel)) ggL_law_X5_heart
set_option maxRecDepth 20000 in
theorem ggL_law_L_sheet : GoodIn wsL_law wsL_sheet := goodIn_ca (goodIn_r _ [422, 174, 423, 424, 425, 2, 426, 180, 181, 32, 928, 929, 930, 931, 932, 933, 934, 935, 936] (by decide +kernel) (by decide +kernel)) (goodIn_sub (fun _ h => List.mem_append_left _ (List.mem_append_left _ (List.mem_append_right _ h))) (by decide +kernel))
set_option maxRecDepth 20000 in
theorem gL_law_L_sheet : GoodIn wsL_law (va_wsS RL 119 yL_sheet wsL_sheet) := goodIn_app (goodIn_of _ (by decide +kernel)) ggL_law_L_sheet
set_option maxRecDepth 20000 in
theorem ggL_law_X5_sheet : GoodIn wsL_law wsX5_sheet := goodIn_r _ [430, 156, 283, 284, 5, 285, 307, 308, 309, 310, 311, 937, 938, 939, 940, 941, 942, 943, 944, 945, 946, 947, 948, 949, 950, 951, 952, 953, 954, 955, 956, 957, 958, 959, 960] (by decide +kernel) (by decide +kernel)
set_option maxRecDepth 20000 in
theorem gL_law_X5_sheet : GoodIn wsL_law (wsV RL 121 RX5 yX5_sheet wsX5_sheet) := goodIn_app (goodIn_of _ (by decide +kernel)) ggL_law_X5_sheet
set_option maxRecDepth 20000 in
theorem ggL_law_L_bar : GoodIn wsL_law wsL_bar := goodIn_ca (goodIn_ca (goodIn_r _ [433, 173, 175, 434, 435, 436, 2, 437, 182, 183, 33, 438, 439, 440, 188, 189, 222, 223, 224, 441, 442, 443, 444, 445, 377, 378, 379, 380, 381, 382, 928, 929, 930, 931, 932, 933, 934, 935, 936] (by decide +kernel) (by decide +kernel)) (goodIn_sub (fun _ h => List.mem_append_left _ (List.mem_append_right _ h)) (by decide +kernel))) (goodIn_sub (fun _ h => List.mem_append_right _ h) (by decide +kernel))
set_option maxRecDepth 20000 in
theorem gL_law_L_bar : GoodIn wsL_law (va_wsS RL 122 yL_bar wsL_bar) := goodIn_app (goodIn_of _ (by decide +kernel)) ggL_law_L_bar
set_option maxRecDepth 20000 in
theorem ggL_law_X5_bar : GoodIn wsL_law wsX5_bar := goodIn_r _ [449, 157, 283, 284, 5, 285, 450, 451, 452, 453, 307, 308, 309, 310, 311, 937, 938, 939, 940, 941, 942, 943, 944, 945, 946, 947, 948, 949, 950, 951, 952, 953, 954, 955, 956, 957, 958, 959, 960] (by decide +kernel) (by decide +kernel)
set_option maxRecDepth 20000 in
theorem gL_law_X5_bar : GoodIn wsL_law (wsV RL 124 RX5 yX5_bar wsX5_bar) := goodIn_app (goodIn_of _ (by decide +kernel)) ggL_law_X5_bar
set_option maxRecDepth 20000 in
theorem ggL_law_L_paint : GoodIn wsL_law wsL_paint := goodIn_ca (goodIn_ca (goodIn_ca (goodIn_r _ [456, 173, 174, 175, 457, 458, 459, 2, 460, 180, 181, 182, 183, 184, 185, 186, 187, 188, 189, 16, 20, 190, 191, 192, 193, 194, 195, 196, 197, 19, 198, 92, 199, 200, 201, 15, 202, 41, 203, 204, 205, 206, 207, 208, 209, 210, 211, 212, 213, 214, 215, 216, 217, 218, 47, 461, 462, 463, 36, 464, 78, 74, 75, 82, 83, 84, 85, 79, 76, 977, 978, 979, 980, 981, 982, 983, 984, 928, 929, 930, 931, 932, 933, 934, 935, 936, 963, 964, 965, 961, 962] (by decide +kernel) (by decide +kernel)) (goodIn_sub (fun _ h => List.mem_append_left _ (List.mem_append_left _ (List.mem_append_right _ h))) (by decide +kernel))) (goodIn_sub (fun _ h => List.mem_append_left _ (List.mem_append_right _ h)) (by decide +kernel))) (goodIn_sub (fun _ h => List.mem_append_right _ h) (by decide +kernel))
set_option maxRecDepth 20000 in
theorem gL_law_L_paint : GoodIn wsL_law (va_wsS RL 125 yL_paint wsL_paint) := goodIn_app (goodIn_of _ (by decide +kernel)) ggL_law_L_paint
set_option maxRecDepth 20000 in
theorem ggL_law_X5_paint : GoodIn wsL_law wsX5_paint := goodIn_r _ [468, 150, 151, 152, 279, 280, 281, 5, 282, 143, 145, 283, 284, 285, 307, 308, 309, 310, 311, 165, 166, 167, 168, 153, 154, 937, 938, 939, 940, 941, 942, 943, 944, 945, 946, 947, 948, 949, 950, 951, 952, 953, 954, 955, 956, 957, 958, 959, 960] (by decide +kernel) (by decide +kernel)
set_option maxRecDepth 20000 in
theorem gL_law_X5_paint : GoodIn wsL_law (wsV RL 127 RX5 yX5_paint wsX5_paint) := goodIn_app (goodIn_of _ (by decide +kernel)) ggL_law_X5_paint
set_option maxRecDepth 20000 in
theorem ggL_law_L_fire : GoodIn wsL_law wsL_fire := goodIn_ca (goodIn_ca (goodIn_r _ [471, 173, 174, 472, 473, 474, 2, 475, 180, 181, 184, 185, 186, 187, 188, 189, 16, 20, 190, 191, 192, 193, 194, 195, 196, 197, 19, 198, 92, 199, 200, 201, 15, 202, 41, 203, 204, 205, 206, 207, 208, 209, 210, 211, 212, 213, 214, 215, 216, 217, 218, 47, 476, 477, 478, 36, 479, 78, 74, 75, 480, 481, 482, 483, 82, 83, 84, 85, 79, 76, 928, 929, 930, 931, 932, 933, 934, 935, 936, 963, 964, 965, 961, 962, 977, 978, 979, 980, 981, 982, 983, 984] (by decide +kernel) (by decide +kernel)) (goodIn_sub (fun _ h => List.mem_append_left _ (List.mem_append_left _ (List.mem_append_right _ h))) (by decide +kernel))) (goodIn_sub (fun _ h => List.mem_append_right _ h) (by decide +kernel))
set_option maxRecDepth 20000 in
theorem gL_law_L_fire : GoodIn wsL_law (va_wsS RL 128 yL_fire wsL_fire) := goodIn_app (goodIn_of _ (by decide +kernel)) ggL_law_L_fire
set_option maxRecDepth 20000 in
theorem ggL_law_X5_fire : GoodIn wsL_law wsX5_fire := goodIn_r _ [487, 150, 151, 152, 279, 280, 281, 5, 282, 143, 145, 283, 284, 285, 307, 308, 309, 310, 311, 165, 166, 167, 168, 153, 154, 937, 938, 939, 940, 941, 942, 943, 944, 945, 946, 947, 948, 949, 950, 951, 952, 953, 954, 955, 956, 957, 958, 959, 960] (by decide +kernel) (by decide +kernel)
set_option maxRecDepth 20000 in
theorem gL_law_X5_fire : GoodIn wsL_law (wsV RL 130 RX5 yX5_fire wsX5_fire) := goodIn_app (goodIn_of _ (by decide +kernel)) ggL_law_X5_fire
set_option maxRecDepth 20000 in
theorem ggL_law_L_crack : GoodIn wsL_law wsL_crack := goodIn_ca (goodIn_r _ [490, 173, 491, 492, 493, 2, 494, 323, 324, 325, 326, 188, 189, 16, 327, 230, 231, 15, 232, 41, 184, 185, 186, 187, 20, 190, 191, 192, 193, 194, 195, 196, 197, 19, 198, 92, 199, 200, 201, 202, 203, 204, 205, 206, 207, 208, 209, 210, 211, 212, 213, 214, 215, 216, 217, 218, 47, 274, 83, 84, 36, 85, 79, 76, 977, 978, 979, 980, 981, 982, 983, 984, 928, 929, 930, 931, 932, 933, 934, 935, 936, 961, 962, 963, 964, 965] (by decide +kernel) (by decide +kernel)) (goodIn_sub (fun _ h => List.mem_append_right _ h) (by decide +kernel))
set_option maxRecDepth 20000 in
theorem gL_law_L_crack : GoodIn wsL_law (va_wsS RL 131 yL_crack wsL_crack) := goodIn_app (goodIn_of _ (by decide +kernel)) ggL_law_L_crack
set_option maxRecDepth 20000 in
theorem ggL_law_X5_crack : GoodIn wsL_law wsX5_crack := goodIn_r _ [498, 149, 144, 345, 346, 5, 347, 283, 284, 285, 307, 308, 309, 310, 311, 165, 166, 167, 168, 153, 154, 937, 938, 939, 940, 941, 942, 943, 944, 945, 946, 947, 948, 949, 950, 951, 952, 953, 954, 955, 956, 957, 958, 959, 960] (by decide +kernel) (by decide +kernel)
set_option maxRecDepth 20000 in
theorem gL_law_X5_crack : GoodIn wsL_law (wsV RL 133 RX5 yX5_crack wsX5_crack) := goodIn_app (goodIn_of _ (by decide +kernel)) ggL_law_X5_crack
set_option maxRecDepth 20000 in
theorem ggL_law_L_mend : GoodIn wsL_law wsL_mend := goodIn_ca (goodIn_ca (goodIn_r _ [501, 173, 175, 502, 503, 504, 2, 505, 182, 183, 184, 185, 186, 187, 188, 189, 16, 20, 190, 191, 192, 193, 194, 195, 196, 197, 19, 198, 92, 199, 200, 201, 15, 202, 41, 203, 204, 205, 206, 207, 208, 209, 210, 211, 212, 213, 214, 215, 216, 217, 218, 47, 274, 83, 84, 36, 85, 79, 76, 506, 507, 508, 509, 977, 978, 979, 980, 981, 982, 983, 984, 928, 929, 930, 931, 932, 933, 934, 935, 936, 963, 964, 965, 961, 962] (by decide +kernel) (by decide +kernel)) (goodIn_sub (fun _ h => List.mem_append_left _ (List.mem_append_right _ h)) (by decide +kernel))) (goodIn_sub (fun _ h => List.mem_append_right _ h) (by decide +kernel))
set_option maxRecDepth 20000 in
theorem gL_law_L_mend : GoodIn wsL_law (va_wsS RL 134 yL_mend wsL_mend) := goodIn_app (goodIn_of _ (by decide +kernel)) ggL_law_L_mend
set_option maxRecDepth 20000 in
theorem ggL_law_X5_mend : GoodIn wsL_law wsX5_mend := goodIn_r _ [513, 149, 279, 280, 281, 5, 282, 143, 145, 283, 284, 285, 307, 308, 309, 310, 311, 165, 166, 167, 168, 153, 154, 514, 515, 516, 517, 937, 938, 939, 940, 941, 942, 943, 944, 945, 946, 947, 948, 949, 950, 951, 952, 953, 954, 955, 956, 957, 958, 959, 960] (by decide +kernel) (by decide +kernel)
set_option maxRecDepth 20000 in
theorem gL_law_X5_mend : GoodIn wsL_law (wsV RL 136 RX5 yX5_mend wsX5_mend) := goodIn_app (goodIn_of _ (by decide +kernel)) ggL_law_X5_mend
set_option maxRecDepth 20000 in
theorem ggL_law_L_replace : GoodIn wsL_law wsL_replace := goodIn_ca (goodIn_ca (goodIn_ca (goodIn_r _ [520, 173, 174, 175, 521, 522, 523, 2, 524, 182, 183, 184, 185, 186, 187, 188, 189, 16, 20, 190, 191, 192, 193, 194, 195, 196, 197, 19, 198, 92, 199, 200, 201, 15, 202, 41, 203, 204, 205, 206, 207, 208, 209, 210, 211, 212, 213, 214, 215, 216, 217, 218, 47, 394, 395, 396, 180, 181, 525, 526, 527, 36, 528, 81, 77, 80, 78, 274, 83, 84, 85, 79, 76, 977, 978, 979, 980, 981, 982, 983, 984, 928, 929, 930, 931, 932, 933, 934, 935, 936, 963, 964, 965, 961, 962] (by decide +kernel) (by decide +kernel)) (goodIn_sub (fun _ h => List.mem_append_left _ (List.mem_append_right _ h)) (by decide +kernel))) (goodIn_sub (fun _ h => List.mem_append_right _ h) (by decide +kernel))) (goodIn_sub (fun _ h => List.mem_append_left _ (List.mem_append_left _ (List.mem_append_right _ h))) (by decide +kernel))
set_option maxRecDepth 20000 in
theorem gL_law_L_replace : GoodIn wsL_law (va_wsS RL 137 yL_replace wsL_replace) := goodIn_app (goodIn_of _ (by decide +kernel)) ggL_law_L_replace
set_option maxRecDepth 20000 in
theorem ggL_law_X5_replace : GoodIn wsL_law wsX5_replace := goodIn_r _ [532, 148, 149, 146, 150, 279, 280, 281, 5, 282, 143, 145, 283, 284, 285, 307, 308, 309, 310, 311, 165, 166, 167, 168, 153, 154, 937, 938, 939, 940, 941, 942, 943, 944, 945, 946, 947, 948, 949, 950, 951, 952, 953, 954, 955, 956, 957, 958, 959, 960] (by decide +kernel) (by decide +kernel)
set_option maxRecDepth 20000 in
theorem gL_law_X5_replace : GoodIn wsL_law (wsV RL 139 RX5 yX5_replace wsX5_replace) := goodIn_app (goodIn_of _ (by decide +kernel)) ggL_law_X5_replace
set_option maxRecDepth 20000 in
theorem ggL_law_X4_pieces : GoodIn wsL_law wsX4_pieces := goodIn_r _ [536, 16, 537, 538, 539, 15, 540, 41, 541, 542, 543, 544, 545, 546, 547, 928, 929, 930, 931, 932, 933, 934, 935, 936, 961, 962] (by decide +kernel) (by decide +kernel)
set_option maxRecDepth 20000 in
theorem gL_law_X4_pieces : GoodIn wsL_law (wsV RL 140 RX4 yX4_pieces wsX4_pieces) := goodIn_app (goodIn_of _ (by decide +kernel)) ggL_law_X4_pieces
set_option maxRecDepth 20000 in
theorem ggL_law_X5_pieces : GoodIn wsL_law wsX5_pieces := goodIn_r _ [551, 311, 143, 145, 937, 938, 939, 940, 941, 942, 943, 944, 945, 946, 947, 948, 949, 950, 951, 952, 953, 954, 955, 956, 957, 958, 959, 960] (by decide +kernel) (by decide +kernel)
set_option maxRecDepth 20000 in
theorem gL_law_X5_pieces : GoodIn wsL_law (wsV RL 143 RX5 yX5_pieces wsX5_pieces) := goodIn_app (goodIn_of _ (by decide +kernel)) ggL_law_X5_pieces
set_option maxRecDepth 20000 in
theorem ggL_law_L_pieceOf : GoodIn wsL_law wsL_pieceOf := goodIn_ca (goodIn_r _ [554, 173, 555, 556, 557, 2, 558, 323, 324, 325, 326, 188, 189, 16, 327, 230, 231, 15, 232, 41, 928, 929, 930, 931, 932, 933, 934, 935, 936, 961, 962] (by decide +kernel) (by decide +kernel)) (goodIn_sub (fun _ h => List.mem_append_right _ h) (by decide +kernel))
set_option maxRecDepth 20000 in
theorem gL_law_L_pieceOf : GoodIn wsL_law (va_wsS RL 144 yL_pieceOf wsL_pieceOf) := goodIn_app (goodIn_of _ (by decide +kernel)) ggL_law_L_pieceOf
set_option maxRecDepth 20000 in
theorem ggL_law_X5_pieceOf : GoodIn wsL_law wsX5_pieceOf := goodIn_r _ [562, 144, 345, 346, 5, 347, 283, 284, 285, 307, 308, 309, 310, 311, 937, 938, 939, 940, 941, 942, 943, 944, 945, 946, 947, 948, 949, 950, 951, 952, 953, 954, 955, 956, 957, 958, 959, 960] (by decide +kernel) (by decide +kernel)
set_option maxRecDepth 20000 in
theorem gL_law_X5_pieceOf : GoodIn wsL_law (wsV RL 146 RX5 yX5_pieceOf wsX5_pieceOf) := goodIn_app (goodIn_of _ (by decide +kernel)) ggL_law_X5_pieceOf
set_option maxRecDepth 20000 in
theorem ggL_law_L_piece : GoodIn wsL_law wsL_piece := goodIn_ca (goodIn_ca (goodIn_r _ [565, 173, 174, 566, 567, 568, 2, 569, 180, 181, 184, 185, 186, 187, 188, 189, 16, 20, 190, 191, 192, 193, 194, 195, 196, 197, 19, 198, 92, 199, 200, 201, 15, 202, 41, 203, 204, 205, 206, 207, 208, 209, 210, 211, 212, 213, 214, 215, 216, 217, 218, 47, 368, 369, 370, 371, 24, 225, 226, 227, 23, 228, 61, 229, 230, 231, 232, 372, 373, 374, 375, 376, 377, 378, 379, 380, 381, 382, 570, 571, 572, 573, 574, 575, 576, 577, 578, 579, 580, 581, 582, 583, 584, 585, 223, 224, 586, 587, 588, 589, 590, 591, 592, 593, 594, 481, 482, 36, 483, 78, 75, 977, 978, 979, 980, 981, 982, 983, 984, 928, 929, 930, 931, 932, 933, 934, 935, 936, 963, 964, 965, 961, 962, 966, 967] (by decide +kernel) (by decide +kernel)) (goodIn_sub (fun _ h => List.mem_append_left _ (List.mem_append_left _ (List.mem_append_right _ h))) (by decide +kernel))) (goodIn_sub (fun _ h => List.mem_append_right _ h) (by decide +kernel))
set_option maxRecDepth 20000 in
theorem gL_law_L_piece : GoodIn wsL_law (va_wsS RL 147 yL_piece wsL_piece) := goodIn_app (goodIn_of _ (by decide +kernel)) ggL_law_L_piece
set_option maxRecDepth 20000 in
theorem ggL_law_X5_piece : GoodIn wsL_law wsX5_piece := goodIn_r _ [598, 146, 148, 149, 150, 279, 280, 281, 5, 282, 143, 145, 283, 284, 285, 307, 308, 309, 310, 311, 352, 353, 354, 355, 158, 144, 599, 600, 601, 602, 603, 604, 605, 606, 607, 608, 609, 610, 611, 612, 613, 614, 615, 616, 617, 618, 152, 937, 938, 939, 940, 941, 942, 943, 944, 945, 946, 947, 948, 949, 950, 951, 952, 953, 954, 955, 956, 957, 958, 959, 960] (by decide +kernel) (by decide +kernel)
set_option maxRecDepth 20000 in
theorem gL_law_X5_piece : GoodIn wsL_law (wsV RL 149 RX5 yX5_piece wsX5_piece) := goodIn_app (goodIn_of _ (by decide +kernel)) ggL_law_X5_piece
set_option maxRecDepth 20000 in
theorem ggL_law_L_bestLine : GoodIn wsL_law wsL_bestLine := goodIn_ca (goodIn_r _ [621, 173, 622, 623, 624, 2, 625, 24, 16, 184, 185, 186, 187, 188, 189, 20, 190, 191, 192, 193, 194, 195, 196, 197, 19, 198, 92, 199, 200, 201, 15, 202, 41, 203, 204, 205, 206, 207, 208, 209, 210, 211, 212, 213, 214, 215, 216, 217, 218, 47, 225, 226, 227, 23, 228, 61, 229, 230, 231, 232, 219, 220, 221, 222, 223, 224, 626, 627, 628, 629, 630, 631, 632, 633, 376, 377, 378, 379, 380, 381, 382, 634, 635, 636, 637, 638, 639, 640, 641, 25, 26, 233, 234, 235, 236, 237, 238, 239, 240, 241, 242, 243, 642, 643, 644, 645, 646, 571, 572, 573, 574, 575, 576, 577, 578, 579, 580, 581, 582, 583, 584, 585, 647, 245, 246, 247, 248, 249, 250, 251, 62, 252, 253, 121, 254, 255, 256, 257, 258, 259, 260, 261, 262, 263, 264, 265, 928, 929, 930, 931, 932, 933, 934, 935, 936, 963, 964, 965, 961, 962, 966, 967] (by decide +kernel) (by decide +kernel)) (goodIn_sub (fun _ h => List.mem_append_right _ h) (by decide +kernel))
set_option maxRecDepth 20000 in
theorem gL_law_L_bestLine : GoodIn wsL_law (va_wsS RL 150 yL_bestLine wsL_bestLine) := goodIn_app (goodIn_of _ (by decide +kernel)) ggL_law_L_bestLine
set_option maxRecDepth 20000 in
theorem ggL_law_X5_bestLine : GoodIn wsL_law wsX5_bestLine := goodIn_r _ [651, 279, 280, 281, 5, 282, 143, 145, 283, 284, 285, 307, 308, 309, 310, 311, 293, 294, 295, 296, 158, 144, 297, 298, 299, 300, 301, 302, 303, 159, 160, 304, 305, 306, 599, 600, 601, 602, 603, 604, 605, 606, 607, 608, 609, 610, 652, 653, 654, 655, 937, 938, 939, 940, 941, 942, 943, 944, 945, 946, 947, 948, 949, 950, 951, 952, 953, 954, 955, 956, 957, 958, 959, 960] (by decide +kernel) (by decide +kernel)
set_option maxRecDepth 20000 in
theorem gL_law_X5_bestLine : GoodIn wsL_law (wsV RL 152 RX5 yX5_bestLine wsX5_bestLine) := goodIn_app (goodIn_of _ (by decide +kernel)) ggL_law_X5_bestLine
set_option maxRecDepth 20000 in
theorem ggL_law_X4_lead : GoodIn wsL_law wsX4_lead := goodIn_r _ [659, 16, 660, 661, 662, 15, 663, 332, 230, 231, 232, 41, 664, 665, 666, 928, 929, 930, 931, 932, 933, 934, 935, 936, 961, 962] (by decide +kernel) (by decide +kernel)
set_option maxRecDepth 20000 in
theorem gL_law_X4_lead : GoodIn wsL_law (wsV RL 153 RX4 yX4_lead wsX4_lead) := goodIn_app (goodIn_of _ (by decide +kernel)) ggL_law_X4_lead
set_option maxRecDepth 20000 in
theorem ggL_law_X5_lead : GoodIn wsL_law wsX5_lead := goodIn_r _ [670, 311, 671, 672, 673, 5, 674, 675, 676, 677, 678, 144, 283, 284, 285, 937, 938, 939, 940, 941, 942, 943, 944, 945, 946, 947, 948, 949, 950, 951, 952, 953, 954, 955, 956, 957, 958, 959, 960] (by decide +kernel) (by decide +kernel)
set_option maxRecDepth 20000 in
theorem gL_law_X5_lead : GoodIn wsL_law (wsV RL 156 RX5 yX5_lead wsX5_lead) := goodIn_app (goodIn_of _ (by decide +kernel)) ggL_law_X5_lead
set_option maxRecDepth 20000 in
theorem ggL_law_X4_joints : GoodIn wsL_law wsX4_joints := goodIn_r _ [682, 16, 683, 684, 685, 15, 686, 687, 688, 689, 690, 332, 230, 231, 232, 41, 664, 665, 666, 928, 929, 930, 931, 932, 933, 934, 935, 936, 961, 962] (by decide +kernel) (by decide +kernel)
set_option maxRecDepth 20000 in
theorem gL_law_X4_joints : GoodIn wsL_law (wsV RL 157 RX4 yX4_joints wsX4_joints) := goodIn_app (goodIn_of _ (by decide +kernel)) ggL_law_X4_joints
set_option maxRecDepth 20000 in
theorem ggL_law_X5_joints : GoodIn wsL_law wsX5_joints := goodIn_r _ [694, 311, 675, 676, 677, 5, 678, 144, 283, 284, 285, 937, 938, 939, 940, 941, 942, 943, 944, 945, 946, 947, 948, 949, 950, 951, 952, 953, 954, 955, 956, 957, 958, 959, 960] (by decide +kernel) (by decide +kernel)
set_option maxRecDepth 20000 in
theorem gL_law_X5_joints : GoodIn wsL_law (wsV RL 160 RX5 yX5_joints wsX5_joints) := goodIn_app (goodIn_of _ (by decide +kernel)) ggL_law_X5_joints
set_option maxRecDepth 20000 in
theorem ggL_law_X4_weight : GoodIn wsL_law wsX4_weight := goodIn_r _ [698, 31, 16, 660, 661, 662, 15, 663, 332, 230, 231, 232, 41, 664, 665, 666, 928, 929, 930, 931, 932, 933, 934, 935, 936, 961, 962] (by decide +kernel) (by decide +kernel)
set_option maxRecDepth 20000 in
theorem gL_law_X4_weight : GoodIn wsL_law (wsV RL 161 RX4 yX4_weight wsX4_weight) := goodIn_app (goodIn_of _ (by decide +kernel)) ggL_law_X4_weight
set_option maxRecDepth 20000 in
theorem ggL_law_X5_weight : GoodIn wsL_law wsX5_weight := goodIn_r _ [702, 311, 155, 671, 672, 673, 5, 674, 675, 676, 677, 678, 144, 283, 284, 285, 937, 938, 939, 940, 941, 942, 943, 944, 945, 946, 947, 948, 949, 950, 951, 952, 953, 954, 955, 956, 957, 958, 959, 960] (by decide +kernel) (by decide +kernel)
set_option maxRecDepth 20000 in
theorem gL_law_X5_weight : GoodIn wsL_law (wsV RL 164 RX5 yX5_weight wsX5_weight) := goodIn_app (goodIn_of _ (by decide +kernel)) ggL_law_X5_weight
set_option maxRecDepth 20000 in
theorem ggL_law_X4_assembled : GoodIn wsL_law wsX4_assembled := goodIn_r _ [706, 16, 707, 708, 709, 15, 710, 711, 712, 713, 714, 715, 42, 716, 717, 121, 718, 332, 230, 231, 232, 41, 719, 720, 721, 722, 723, 2, 724, 725, 538, 539, 540, 726, 727, 728, 729, 928, 929, 930, 931, 932, 933, 934, 935, 936, 961, 962] (by decide +kernel) (by decide +kernel)
set_option maxRecDepth 20000 in
theorem gL_law_X4_assembled : GoodIn wsL_law (wsV RL 165 RX4 yX4_assembled wsX4_assembled) := goodIn_app (goodIn_of _ (by decide +kernel)) ggL_law_X4_assembled
set_option maxRecDepth 20000 in
theorem ggL_law_X5_assembled : GoodIn wsL_law wsX5_assembled := goodIn_r _ [733, 311, 143, 161, 145, 162, 734, 735, 736, 5, 737, 144, 304, 305, 306, 283, 284, 285, 937, 938, 939, 940, 941, 942, 943, 944, 945, 946, 947, 948, 949, 950, 951, 952, 953, 954, 955, 956, 957, 958, 959, 960] (by decide +kernel) (by decide +kernel)
set_option maxRecDepth 20000 in
theorem gL_law_X5_assembled : GoodIn wsL_law (wsV RL 168 RX5 yX5_assembled wsX5_assembled) := goodIn_app (goodIn_of _ (by decide +kernel)) ggL_law_X5_assembled
set_option maxRecDepth 20000 in
theorem ggL_law_L_sheets : GoodIn wsL_law wsL_sheets := goodIn_ca (goodIn_r _ [740, 174, 741, 742, 743, 2, 744, 30, 394, 395, 396, 180, 181, 745, 746, 747, 748, 20, 190, 16, 32, 749, 750, 751, 29, 752, 69, 753, 754, 755, 253, 121, 254, 195, 196, 197, 19, 198, 92, 203, 204, 205, 206, 207, 208, 209, 210, 211, 212, 213, 214, 215, 216, 217, 218, 47, 199, 200, 201, 15, 202, 41, 368, 369, 370, 371, 24, 225, 226, 227, 23, 228, 61, 229, 230, 231, 232, 586, 587, 588, 589, 590, 591, 592, 593, 376, 377, 378, 379, 380, 381, 382, 756, 757, 758, 759, 67, 68, 66, 723, 724, 760, 761, 762, 763, 764, 765, 766, 767, 768, 769, 770, 771, 772, 773, 774, 775, 776, 777, 778, 928, 929, 930, 931, 932, 933, 934, 935, 936, 968, 969, 970, 971, 972, 973, 974, 975, 976, 977, 978, 979, 980, 981, 982, 983, 984, 963, 964, 965, 961, 962, 966, 967] (by decide +kernel) (by decide +kernel)) (goodIn_sub (fun _ h => List.mem_append_left _ (List.mem_append_left _ (List.mem_append_right _ h))) (by decide +kernel))
set_option maxRecDepth 20000 in
theorem gL_law_L_sheets : GoodIn wsL_law (va_wsS RL 169 yL_sheets wsL_sheets) := goodIn_app (goodIn_of _ (by decide +kernel)) ggL_law_L_sheets
set_option maxRecDepth 20000 in
theorem ggL_law_X5_sheets : GoodIn wsL_law wsX5_sheets := goodIn_r _ [782, 783, 283, 284, 5, 285, 307, 308, 309, 310, 311, 784, 785, 786, 787, 788, 143, 164, 163, 156, 145, 789, 790, 791, 792, 146, 611, 612, 613, 614, 144, 937, 938, 939, 940, 941, 942, 943, 944, 945, 946, 947, 948, 949, 950, 951, 952, 953, 954, 955, 956, 957, 958, 959, 960] (by decide +kernel) (by decide +kernel)
set_option maxRecDepth 20000 in
theorem gL_law_X5_sheets : GoodIn wsL_law (wsV RL 171 RX5 yX5_sheets wsX5_sheets) := goodIn_app (goodIn_of _ (by decide +kernel)) ggL_law_X5_sheets
set_option maxRecDepth 20000 in
theorem ggL_law_L_laid : GoodIn wsL_law wsL_laid := goodIn_ca (goodIn_r _ [795, 173, 796, 797, 798, 2, 799, 30, 184, 185, 186, 187, 188, 189, 16, 20, 190, 191, 192, 193, 194, 195, 196, 197, 19, 198, 92, 199, 200, 201, 15, 202, 41, 203, 204, 205, 206, 207, 208, 209, 210, 211, 212, 213, 214, 215, 216, 217, 218, 47, 745, 746, 747, 748, 32, 749, 750, 751, 29, 752, 69, 753, 754, 755, 253, 121, 254, 368, 369, 370, 371, 24, 225, 226, 227, 23, 228, 61, 229, 230, 231, 232, 586, 587, 588, 589, 590, 591, 592, 593, 376, 377, 378, 379, 380, 381, 382, 756, 757, 758, 759, 67, 68, 66, 723, 724, 760, 761, 762, 763, 764, 765, 766, 767, 768, 769, 770, 771, 772, 773, 774, 775, 776, 777, 778, 800, 801, 802, 803, 977, 978, 979, 980, 981, 982, 983, 984, 928, 929, 930, 931, 932, 933, 934, 935, 936, 963, 964, 965, 961, 962, 968, 969, 970, 971, 972, 973, 974, 975, 976, 966, 967] (by decide +kernel) (by decide +kernel)) (goodIn_sub (fun _ h => List.mem_append_right _ h) (by decide +kernel))
set_option maxRecDepth 20000 in
theorem gL_law_L_laid : GoodIn wsL_law (va_wsS RL 172 yL_laid wsL_laid) := goodIn_app (goodIn_of _ (by decide +kernel)) ggL_law_L_laid
set_option maxRecDepth 20000 in
theorem ggL_law_X5_laid : GoodIn wsL_law wsX5_laid := goodIn_r _ [807, 146, 163, 279, 280, 281, 5, 282, 143, 145, 283, 284, 285, 307, 308, 309, 310, 311, 784, 785, 786, 787, 783, 788, 164, 156, 789, 790, 791, 792, 611, 612, 613, 614, 144, 937, 938, 939, 940, 941, 942, 943, 944, 945, 946, 947, 948, 949, 950, 951, 952, 953, 954, 955, 956, 957, 958, 959, 960] (by decide +kernel) (by decide +kernel)
set_option maxRecDepth 20000 in
theorem gL_law_X5_laid : GoodIn wsL_law (wsV RL 174 RX5 yX5_laid wsX5_laid) := goodIn_app (goodIn_of _ (by decide +kernel)) ggL_law_X5_laid
set_option maxRecDepth 20000 in
theorem ggL_law_L_waste : GoodIn wsL_law wsL_waste := goodIn_ca (goodIn_r _ [810, 174, 811, 812, 813, 2, 814, 30, 32, 20, 394, 395, 396, 180, 181, 745, 746, 747, 748, 190, 16, 749, 750, 751, 29, 752, 69, 753, 754, 755, 253, 121, 254, 195, 196, 197, 19, 198, 92, 203, 204, 205, 206, 207, 208, 209, 210, 211, 212, 213, 214, 215, 216, 217, 218, 47, 199, 200, 201, 15, 202, 41, 368, 369, 370, 371, 24, 225, 226, 227, 23, 228, 61, 229, 230, 231, 232, 586, 587, 588, 589, 590, 591, 592, 593, 376, 377, 378, 379, 380, 381, 382, 756, 757, 758, 759, 67, 68, 66, 723, 724, 760, 761, 762, 763, 764, 765, 766, 767, 768, 769, 770, 771, 772, 773, 774, 775, 776, 777, 778, 800, 801, 802, 803, 372, 373, 374, 375, 928, 929, 930, 931, 932, 933, 934, 935, 936, 968, 969, 970, 971, 972, 973, 974, 975, 976, 977, 978, 979, 980, 981, 982, 983, 984, 963, 964, 965, 961, 962, 966, 967] (by decide +kernel) (by decide +kernel)) (goodIn_sub (fun _ h => List.mem_append_left _ (List.mem_append_left _ (List.mem_append_right _ h))) (by decide +kernel))
set_option maxRecDepth 20000 in
theorem gL_law_L_waste : GoodIn wsL_law (va_wsS RL 175 yL_waste wsL_waste) := goodIn_app (goodIn_of _ (by decide +kernel)) ggL_law_L_waste
set_option maxRecDepth 20000 in
theorem ggL_law_X5_waste : GoodIn wsL_law wsX5_waste := goodIn_r _ [818, 783, 156, 788, 283, 284, 5, 285, 307, 308, 309, 310, 311, 784, 785, 786, 787, 143, 164, 163, 145, 789, 790, 791, 792, 146, 611, 612, 613, 614, 144, 937, 938, 939, 940, 941, 942, 943, 944, 945, 946, 947, 948, 949, 950, 951, 952, 953, 954, 955, 956, 957, 958, 959, 960] (by decide +kernel) (by decide +kernel)
set_option maxRecDepth 20000 in
theorem gL_law_X5_waste : GoodIn wsL_law (wsV RL 177 RX5 yX5_waste wsX5_waste) := goodIn_app (goodIn_of _ (by decide +kernel)) ggL_law_X5_waste
set_option maxRecDepth 20000 in
theorem ggL_law_L_floor : GoodIn wsL_law wsL_floor := goodIn_ca (goodIn_r _ [821, 174, 822, 823, 824, 2, 825, 826, 827, 828, 180, 181, 829, 830, 831, 832, 833, 834, 835, 836, 107, 837, 838, 839, 840, 841, 842, 843, 844, 845, 846, 847, 848, 16, 20, 190, 327, 230, 231, 15, 232, 41, 191, 192, 193, 194, 195, 196, 197, 19, 198, 92, 203, 204, 205, 206, 207, 208, 209, 210, 211, 212, 213, 214, 215, 216, 217, 218, 47, 928, 929, 930, 931, 932, 933, 934, 935, 936, 977, 978, 979, 980, 981, 982, 983, 984, 961, 962, 963, 964, 965] (by decide +kernel) (by decide +kernel)) (goodIn_sub (fun _ h => List.mem_append_left _ (List.mem_append_left _ (List.mem_append_right _ h))) (by decide +kernel))
set_option maxRecDepth 20000 in
theorem gL_law_L_floor : GoodIn wsL_law (va_wsS RL 178 yL_floor wsL_floor) := goodIn_app (goodIn_of _ (by decide +kernel)) ggL_law_L_floor
set_option maxRecDepth 20000 in
theorem ggL_law_X5_floor : GoodIn wsL_law wsX5_floor := goodIn_r _ [852, 283, 284, 5, 285, 307, 308, 309, 310, 311, 853, 854, 855, 856, 146, 144, 857, 858, 859, 937, 938, 939, 940, 941, 942, 943, 944, 945, 946, 947, 948, 949, 950, 951, 952, 953, 954, 955, 956, 957, 958, 959, 960] (by decide +kernel) (by decide +kernel)
set_option maxRecDepth 20000 in
theorem gL_law_X5_floor : GoodIn wsL_law (wsV RL 181 RX5 yX5_floor wsX5_floor) := goodIn_app (goodIn_of _ (by decide +kernel)) ggL_law_X5_floor
set_option maxRecDepth 20000 in
theorem ggL_law_L_floorAnew : GoodIn wsL_law wsL_floorAnew := goodIn_ca (goodIn_r _ [862, 174, 863, 864, 865, 2, 866, 867, 868, 106, 107, 108, 869, 133, 134, 826, 827, 828, 180, 181, 838, 839, 840, 841, 842, 843, 844, 832, 833, 834, 835, 836, 837, 845, 846, 847, 848, 16, 20, 190, 327, 230, 231, 15, 232, 41, 191, 192, 193, 194, 195, 196, 197, 19, 198, 92, 203, 204, 205, 206, 207, 208, 209, 210, 211, 212, 213, 214, 215, 216, 217, 218, 47, 928, 929, 930, 931, 932, 933, 934, 935, 936, 977, 978, 979, 980, 981, 982, 983, 984, 961, 962, 963, 964, 965] (by decide +kernel) (by decide +kernel)) (goodIn_sub (fun _ h => List.mem_append_left _ (List.mem_append_left _ (List.mem_append_right _ h))) (by decide +kernel))
set_option maxRecDepth 20000 in
theorem gL_law_L_floorAnew : GoodIn wsL_law (va_wsS RL 182 yL_floorAnew wsL_floorAnew) := goodIn_app (goodIn_of _ (by decide +kernel)) ggL_law_L_floorAnew
set_option maxRecDepth 20000 in
theorem ggL_law_X5_floorAnew : GoodIn wsL_law wsX5_floorAnew := goodIn_r _ [873, 283, 284, 5, 285, 307, 308, 309, 310, 311, 853, 854, 855, 856, 146, 144, 857, 858, 859, 937, 938, 939, 940, 941, 942, 943, 944, 945, 946, 947, 948, 949, 950, 951, 952, 953, 954, 955, 956, 957, 958, 959, 960] (by decide +kernel) (by decide +kernel)
set_option maxRecDepth 20000 in
theorem gL_law_X5_floorAnew : GoodIn wsL_law (wsV RL 184 RX5 yX5_floorAnew wsX5_floorAnew) := goodIn_app (goodIn_of _ (by decide +kernel)) ggL_law_X5_floorAnew
set_option maxRecDepth 20000 in
theorem ggL_law_L_crosses : GoodIn wsL_law wsL_crosses := goodIn_ca (goodIn_r _ [876, 173, 877, 878, 879, 2, 880, 16, 438, 439, 440, 188, 189, 222, 223, 224, 881, 882, 883, 15, 884, 332, 230, 231, 232, 41, 885, 542, 543, 544, 545, 546, 547, 928, 929, 930, 931, 932, 933, 934, 935, 936, 961, 962] (by decide +kernel) (by decide +kernel)) (goodIn_sub (fun _ h => List.mem_append_right _ h) (by decide +kernel))
set_option maxRecDepth 20000 in
theorem gL_law_L_crosses : GoodIn wsL_law (va_wsS RL 185 yL_crosses wsL_crosses) := goodIn_app (goodIn_of _ (by decide +kernel)) ggL_law_L_crosses
set_option maxRecDepth 20000 in
theorem ggL_law_X5_crosses : GoodIn wsL_law wsX5_crosses := goodIn_r _ [889, 143, 161, 283, 284, 5, 285, 307, 308, 309, 310, 311, 675, 676, 677, 678, 144, 937, 938, 939, 940, 941, 942, 943, 944, 945, 946, 947, 948, 949, 950, 951, 952, 953, 954, 955, 956, 957, 958, 959, 960] (by decide +kernel) (by decide +kernel)
set_option maxRecDepth 20000 in
theorem gL_law_X5_crosses : GoodIn wsL_law (wsV RL 187 RX5 yX5_crosses wsX5_crosses) := goodIn_app (goodIn_of _ (by decide +kernel)) ggL_law_X5_crosses
set_option maxRecDepth 20000 in
theorem ggL_law_L_bends : GoodIn wsL_law wsL_bends := goodIn_ca (goodIn_ca (goodIn_r _ [892, 173, 174, 893, 894, 895, 2, 896, 188, 189, 180, 181, 33, 445, 377, 378, 379, 380, 381, 382, 897, 898, 899, 900, 441, 442, 443, 444, 928, 929, 930, 931, 932, 933, 934, 935, 936] (by decide +kernel) (by decide +kernel)) (goodIn_sub (fun _ h => List.mem_append_right _ h) (by decide +kernel))) (goodIn_sub (fun _ h => List.mem_append_left _ (List.mem_append_left _ (List.mem_append_right _ h))) (by decide +kernel))
set_option maxRecDepth 20000 in
theorem gL_law_L_bends : GoodIn wsL_law (va_wsS RL 188 yL_bends wsL_bends) := goodIn_app (goodIn_of _ (by decide +kernel)) ggL_law_L_bends
set_option maxRecDepth 20000 in
theorem ggL_law_X5_bends : GoodIn wsL_law wsX5_bends := goodIn_r _ [904, 157, 450, 451, 452, 5, 453, 283, 284, 285, 307, 308, 309, 310, 311, 937, 938, 939, 940, 941, 942, 943, 944, 945, 946, 947, 948, 949, 950, 951, 952, 953, 954, 955, 956, 957, 958, 959, 960] (by decide +kernel) (by decide +kernel)
set_option maxRecDepth 20000 in
theorem gL_law_X5_bends : GoodIn wsL_law (wsV RL 190 RX5 yX5_bends wsX5_bends) := goodIn_app (goodIn_of _ (by decide +kernel)) ggL_law_X5_bends
set_option maxRecDepth 20000 in
theorem ggL_law_X4_isShut : GoodIn wsL_law wsX4_isShut := goodIn_r _ [908, 506, 507, 508, 2, 509, 20, 190, 16, 195, 196, 197, 19, 198, 92, 203, 204, 205, 206, 207, 208, 209, 210, 211, 212, 213, 214, 215, 216, 217, 218, 47, 199, 200, 201, 15, 202, 41, 928, 929, 930, 931, 932, 933, 934, 935, 936, 977, 978, 979, 980, 981, 982, 983, 984, 963, 964, 965, 961, 962] (by decide +kernel) (by decide +kernel)
set_option maxRecDepth 20000 in
theorem gL_law_X4_isShut : GoodIn wsL_law (wsV RL 191 RX4 yX4_isShut wsX4_isShut) := goodIn_app (goodIn_of _ (by decide +kernel)) ggL_law_X4_isShut
set_option maxRecDepth 20000 in
theorem ggL_law_X5_isShut : GoodIn wsL_law wsX5_isShut := goodIn_r _ [912, 311, 514, 515, 516, 5, 517, 143, 145, 149, 937, 938, 939, 940, 941, 942, 943, 944, 945, 946, 947, 948, 949, 950, 951, 952, 953, 954, 955, 956, 957, 958, 959, 960] (by decide +kernel) (by decide +kernel)
set_option maxRecDepth 20000 in
theorem gL_law_X5_isShut : GoodIn wsL_law (wsV RL 195 RX5 yX5_isShut wsX5_isShut) := goodIn_app (goodIn_of _ (by decide +kernel)) ggL_law_X5_isShut
set_option maxRecDepth 20000 in
theorem ggL_law_L_history : GoodIn wsL_law wsL_history := goodIn_ca (goodIn_r _ [915, 173, 916, 917, 918, 2, 919, 188, 189, 20, 190, 191, 192, 193, 194, 195, 196, 197, 19, 198, 92, 203, 204, 205, 206, 207, 208, 209, 210, 211, 212, 213, 214, 215, 216, 217, 218, 47, 920, 921, 922, 36, 923, 79, 76, 928, 929, 930, 931, 932, 933, 934, 935, 936, 963, 964, 965, 977, 978, 979, 980, 981, 982, 983, 984] (by decide +kernel) (by decide +kernel)) (goodIn_sub (fun _ h => List.mem_append_right _ h) (by decide +kernel))
set_option maxRecDepth 20000 in
theorem gL_law_L_history : GoodIn wsL_law (va_wsS RL 196 yL_history wsL_history) := goodIn_app (goodIn_of _ (by decide +kernel)) ggL_law_L_history
set_option maxRecDepth 20000 in
theorem ggL_law_X5_history : GoodIn wsL_law wsX5_history := goodIn_r _ [927, 143, 153, 154, 283, 284, 5, 285, 307, 308, 309, 310, 311, 937, 938, 939, 940, 941, 942, 943, 944, 945, 946, 947, 948, 949, 950, 951, 952, 953, 954, 955, 956, 957, 958, 959, 960] (by decide +kernel) (by decide +kernel)
set_option maxRecDepth 20000 in
theorem gL_law_X5_history : GoodIn wsL_law (wsV RL 198 RX5 yX5_history wsX5_history) := goodIn_app (goodIn_of _ (by decide +kernel)) ggL_law_X5_history
