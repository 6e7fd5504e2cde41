set_option maxRecDepth 20000 in
theorem ggL_act_L_low : GoodIn wsL_act wsL_low := goodIn_r _ [4, 5] (by decide +kernel) (by decide +kernel)
set_option maxRecDepth 20000 in
theorem gL_act_L_low : GoodIn wsL_act (va_wsS RL 90 yL_low wsL_low) := goodIn_app (goodIn_of _ (by decide +kernel)) ggL_act_L_low
set_option maxRecDepth 20000 in
theorem ggL_act_L_divide : GoodIn wsL_act wsL_divide := goodIn_ca (goodIn_ca (goodIn_ca (goodIn_r _ [8, 9, 10, 11, 12, 13, 14, 15, 16, 17, 18, 19, 20, 21, 22, 23, 24, 25, 26, 27, 28, 29, 30, 31, 32, 33, 34, 35, 36, 37, 38, 39, 40, 41, 42, 43, 44, 45, 46, 47, 48, 49, 50, 51, 52, 53, 54, 55, 56, 57, 58, 59, 60, 61, 62, 63, 64, 65, 66, 67, 68, 69, 70, 71, 72, 73, 74, 75, 76, 77, 78, 79, 80, 81, 82, 83, 84, 85, 86, 87, 88, 89, 90, 91, 92, 93, 94, 95, 96, 97, 98, 99, 100, 101, 102, 103, 104, 105, 106, 107, 108, 109, 110, 111, 112, 113, 114, 115, 116, 117, 118, 119, 120, 121, 122, 123, 124, 125, 126, 127, 128, 129, 130, 131, 132, 133, 134, 135, 136, 137, 138, 139, 140, 141, 142, 143, 144, 145, 146, 147, 148, 149, 150, 151, 152, 153, 154, 155, 156, 157, 158, 159, 160, 161, 162, 163, 164, 165, 166, 167, 168, 169, 170, 171, 172, 173, 174, 175, 176, 177, 178, 179, 180, 181, 182, 183, 184, 185, 186, 187, 188, 189, 190, 191, 192, 193, 194, 195, 196, 197, 198, 199, 200, 574, 575, 576, 577, 578, 579, 580, 581, 582, 583, 584, 585, 586, 587, 588, 589, 590, 591, 592, 593, 594, 595, 596, 597] (by decide +kernel) (by decide +kernel)) (goodIn_sub (fun _ h => List.mem_cons_of_mem _ (List.mem_append_left _ (List.mem_append_left _ (List.mem_append_right _ h)))) (by decide +kernel))) (goodIn_sub (fun _ h => List.mem_cons_of_mem _ (List.mem_append_left _ (List.mem_append_right _ h))) (by decide +kernel))) (goodIn_sub (fun _ h => List.mem_cons_of_mem _ (List.mem_append_right _ h)) (by decide +kernel))
set_option maxRecDepth 20000 in
theorem gL_act_L_divide : GoodIn wsL_act (va_wsS RL 95 yL_divide wsL_divide) := goodIn_app (goodIn_of _ (by decide +kernel)) ggL_act_L_divide
set_option maxRecDepth 20000 in
theorem ggL_act_L_give : GoodIn wsL_act wsL_give := goodIn_ca (goodIn_ca (goodIn_r _ [203, 9, 11, 12, 204, 205, 206, 16, 207, 20, 21, 23, 22, 208, 209, 210, 211, 34, 35, 212, 83, 84, 50, 85, 52, 30, 31, 32, 33, 24, 36, 37, 38, 39, 40, 41, 42, 43, 44, 45, 46, 47, 48, 49, 51, 53, 54, 55, 56, 57, 58, 59, 60, 61, 62, 63, 64, 65, 66, 67, 68, 69, 213, 214, 215, 216, 217, 76, 77, 78, 79, 80, 81, 82, 218, 219, 220, 221, 97, 98, 99, 100, 101, 102, 103, 104, 105, 106, 107, 108, 109, 110, 111, 112, 113, 114, 115, 116, 117, 118, 119, 120, 222, 223, 224, 225, 200, 137, 138, 29, 139, 133, 130, 583, 584, 585, 586, 587, 588, 589, 590, 574, 575, 576, 577, 578, 579, 580, 581, 582, 594, 595, 591, 592, 593, 596, 597] (by decide +kernel) (by decide +kernel)) (goodIn_sub (fun _ h => List.mem_cons_of_mem _ (List.mem_append_left _ (List.mem_append_right _ h))) (by decide +kernel))) (goodIn_sub (fun _ h => List.mem_cons_of_mem _ (List.mem_append_right _ h)) (by decide +kernel))
set_option maxRecDepth 20000 in
theorem gL_act_L_give : GoodIn wsL_act (va_wsS RL 98 yL_give wsL_give) := goodIn_app (goodIn_of _ (by decide +kernel)) ggL_act_L_give
set_option maxRecDepth 20000 in
theorem ggL_act_L_join : GoodIn wsL_act wsL_join := goodIn_ca (goodIn_ca (goodIn_r _ [228, 9, 11, 12, 229, 230, 231, 16, 232, 20, 21, 23, 22, 30, 31, 32, 33, 34, 35, 24, 36, 37, 38, 39, 40, 41, 42, 43, 44, 45, 46, 47, 48, 49, 50, 51, 52, 53, 54, 55, 56, 57, 58, 59, 60, 61, 62, 63, 64, 65, 66, 67, 68, 69, 233, 234, 235, 236, 237, 214, 215, 216, 217, 83, 84, 85, 76, 77, 78, 79, 80, 81, 82, 192, 193, 194, 195, 196, 197, 198, 199, 200, 137, 138, 29, 139, 133, 130, 238, 239, 240, 241, 242, 243, 244, 245, 246, 247, 248, 249, 250, 251, 252, 583, 584, 585, 586, 587, 588, 589, 590, 574, 575, 576, 577, 578, 579, 580, 581, 582, 591, 592, 593, 594, 595, 596, 597] (by decide +kernel) (by decide +kernel)) (goodIn_sub (fun _ h => List.mem_cons_of_mem _ (List.mem_append_left _ (List.mem_append_right _ h))) (by decide +kernel))) (goodIn_sub (fun _ h => List.mem_cons_of_mem _ (List.mem_append_right _ h)) (by decide +kernel))
set_option maxRecDepth 20000 in
theorem gL_act_L_join : GoodIn wsL_act (va_wsS RL 100 yL_join wsL_join) := goodIn_app (goodIn_of _ (by decide +kernel)) ggL_act_L_join
set_option maxRecDepth 20000 in
theorem ggL_act_L_colour : GoodIn wsL_act wsL_colour := goodIn_ca (goodIn_ca (goodIn_ca (goodIn_r _ [255, 9, 10, 11, 12, 256, 257, 258, 16, 259, 20, 21, 30, 31, 32, 33, 34, 35, 23, 24, 36, 37, 38, 39, 40, 41, 42, 43, 44, 45, 46, 47, 48, 49, 50, 51, 52, 53, 54, 55, 56, 57, 58, 59, 60, 61, 62, 63, 64, 65, 66, 67, 68, 69, 260, 261, 262, 18, 19, 200, 137, 138, 29, 139, 133, 130, 583, 584, 585, 586, 587, 588, 589, 590, 574, 575, 576, 577, 578, 579, 580, 581, 582, 591, 592, 593, 594, 595] (by decide +kernel) (by decide +kernel)) (goodIn_sub (fun _ h => List.mem_cons_of_mem _ (List.mem_append_left _ (List.mem_append_right _ h))) (by decide +kernel))) (goodIn_sub (fun _ h => List.mem_cons_of_mem _ (List.mem_append_right _ h)) (by decide +kernel))) (goodIn_sub (fun _ h => List.mem_cons_of_mem _ (List.mem_append_left _ (List.mem_append_left _ (List.mem_append_right _ h)))) (by decide +kernel))
set_option maxRecDepth 20000 in
theorem gL_act_L_colour : GoodIn wsL_act (va_wsS RL 102 yL_colour wsL_colour) := goodIn_app (goodIn_of _ (by decide +kernel)) ggL_act_L_colour
set_option maxRecDepth 20000 in
theorem ggL_act_X4_finish : GoodIn wsL_act wsX4_finish := goodIn_r _ [266, 24, 36, 23, 41, 42, 43, 44, 45, 46, 53, 54, 55, 56, 57, 58, 59, 60, 61, 62, 63, 64, 65, 66, 67, 68, 69, 47, 48, 49, 50, 51, 52, 200, 137, 138, 29, 139, 133, 130, 574, 575, 576, 577, 578, 579, 580, 581, 582, 583, 584, 585, 586, 587, 588, 589, 590, 591, 592, 593, 594, 595] (by decide +kernel) (by decide +kernel)
set_option maxRecDepth 20000 in
theorem gL_act_X4_finish : GoodIn wsL_act (wsV RL 104 RX4 yX4_finish wsX4_finish) := goodIn_app (goodIn_of _ (by decide +kernel)) ggL_act_X4_finish
set_option maxRecDepth 20000 in
theorem ggL_act_L_heart : GoodIn wsL_act wsL_heart := goodIn_ca (goodIn_r _ [269, 10, 12, 270, 271, 272, 16, 273, 18, 19, 274, 574, 575, 576, 577, 578, 579, 580, 581, 582] (by decide +kernel) (by decide +kernel)) (goodIn_sub (fun _ h => List.mem_cons_of_mem _ (List.mem_append_left _ (List.mem_append_left _ (List.mem_append_right _ h)))) (by decide +kernel))
set_option maxRecDepth 20000 in
theorem gL_act_L_heart : GoodIn wsL_act (va_wsS RL 108 yL_heart wsL_heart) := goodIn_app (goodIn_of _ (by decide +kernel)) ggL_act_L_heart
set_option maxRecDepth 20000 in
theorem ggL_act_L_sheet : GoodIn wsL_act wsL_sheet := goodIn_ca (goodIn_r _ [277, 10, 12, 278, 279, 280, 16, 281, 18, 19, 282, 574, 575, 576, 577, 578, 579, 580, 581, 582] (by decide +kernel) (by decide +kernel)) (goodIn_sub (fun _ h => List.mem_cons_of_mem _ (List.mem_append_left _ (List.mem_append_left _ (List.mem_append_right _ h)))) (by decide +kernel))
set_option maxRecDepth 20000 in
theorem gL_act_L_sheet : GoodIn wsL_act (va_wsS RL 111 yL_sheet wsL_sheet) := goodIn_app (goodIn_of _ (by decide +kernel)) ggL_act_L_sheet
set_option maxRecDepth 20000 in
theorem ggL_act_L_bar : GoodIn wsL_act wsL_bar := goodIn_ca (goodIn_ca (goodIn_r _ [285, 9, 11, 12, 286, 287, 288, 16, 289, 20, 21, 290, 291, 292, 293, 34, 35, 73, 74, 75, 294, 295, 296, 297, 298, 247, 248, 249, 250, 251, 252, 574, 575, 576, 577, 578, 579, 580, 581, 582] (by decide +kernel) (by decide +kernel)) (goodIn_sub (fun _ h => List.mem_cons_of_mem _ (List.mem_append_left _ (List.mem_append_right _ h))) (by decide +kernel))) (goodIn_sub (fun _ h => List.mem_cons_of_mem _ (List.mem_append_right _ h)) (by decide +kernel))
set_option maxRecDepth 20000 in
theorem gL_act_L_bar : GoodIn wsL_act (va_wsS RL 113 yL_bar wsL_bar) := goodIn_app (goodIn_of _ (by decide +kernel)) ggL_act_L_bar
set_option maxRecDepth 20000 in
theorem ggL_act_L_paint : GoodIn wsL_act wsL_paint := goodIn_ca (goodIn_ca (goodIn_ca (goodIn_r _ [301, 9, 10, 11, 12, 302, 303, 304, 16, 305, 18, 19, 20, 21, 30, 31, 32, 33, 34, 35, 23, 24, 36, 37, 38, 39, 40, 41, 42, 43, 44, 45, 46, 47, 48, 49, 50, 51, 52, 53, 54, 55, 56, 57, 58, 59, 60, 61, 62, 63, 64, 65, 66, 67, 68, 69, 306, 307, 308, 29, 309, 132, 128, 129, 136, 137, 138, 139, 133, 130, 583, 584, 585, 586, 587, 588, 589, 590, 574, 575, 576, 577, 578, 579, 580, 581, 582, 591, 592, 593, 594, 595] (by decide +kernel) (by decide +kernel)) (goodIn_sub (fun _ h => List.mem_cons_of_mem _ (List.mem_append_left _ (List.mem_append_left _ (List.mem_append_right _ h)))) (by decide +kernel))) (goodIn_sub (fun _ h => List.mem_cons_of_mem _ (List.mem_append_left _ (List.mem_append_right _ h))) (by decide +kernel))) (goodIn_sub (fun _ h => List.mem_cons_of_mem _ (List.mem_append_right _ h)) (by decide +kernel))
set_option maxRecDepth 20000 in
theorem gL_act_L_paint : GoodIn wsL_act (va_wsS RL 115 yL_paint wsL_paint) := goodIn_app (goodIn_of _ (by decide +kernel)) ggL_act_L_paint
set_option maxRecDepth 20000 in
theorem ggL_act_L_fire : GoodIn wsL_act wsL_fire := goodIn_ca (goodIn_ca (goodIn_r _ [312, 9, 10, 12, 313, 314, 315, 16, 316, 18, 19, 30, 31, 32, 33, 34, 35, 23, 24, 36, 37, 38, 39, 40, 41, 42, 43, 44, 45, 46, 47, 48, 49, 50, 51, 52, 53, 54, 55, 56, 57, 58, 59, 60, 61, 62, 63, 64, 65, 66, 67, 68, 69, 317, 318, 319, 29, 320, 132, 128, 129, 321, 322, 323, 324, 136, 137, 138, 139, 133, 130, 574, 575, 576, 577, 578, 579, 580, 581, 582, 591, 592, 593, 594, 595, 583, 584, 585, 586, 587, 588, 589, 590] (by decide +kernel) (by decide +kernel)) (goodIn_sub (fun _ h => List.mem_cons_of_mem _ (List.mem_append_left _ (List.mem_append_left _ (List.mem_append_right _ h)))) (by decide +kernel))) (goodIn_sub (fun _ h => List.mem_cons_of_mem _ (List.mem_append_right _ h)) (by decide +kernel))
set_option maxRecDepth 20000 in
theorem gL_act_L_fire : GoodIn wsL_act (va_wsS RL 117 yL_fire wsL_fire) := goodIn_app (goodIn_of _ (by decide +kernel)) ggL_act_L_fire
set_option maxRecDepth 20000 in
theorem ggL_act_L_crack : GoodIn wsL_act wsL_crack := goodIn_ca (goodIn_r _ [327, 9, 12, 328, 329, 330, 16, 331, 208, 209, 210, 211, 34, 35, 23, 212, 83, 84, 50, 85, 52, 30, 31, 32, 33, 24, 36, 37, 38, 39, 40, 41, 42, 43, 44, 45, 46, 47, 48, 49, 51, 53, 54, 55, 56, 57, 58, 59, 60, 61, 62, 63, 64, 65, 66, 67, 68, 69, 200, 137, 138, 29, 139, 133, 130, 583, 584, 585, 586, 587, 588, 589, 590, 574, 575, 576, 577, 578, 579, 580, 581, 582, 594, 595, 591, 592, 593] (by decide +kernel) (by decide +kernel)) (goodIn_sub (fun _ h => List.mem_cons_of_mem _ (List.mem_append_right _ h)) (by decide +kernel))
set_option maxRecDepth 20000 in
theorem gL_act_L_crack : GoodIn wsL_act (va_wsS RL 119 yL_crack wsL_crack) := goodIn_app (goodIn_of _ (by decide +kernel)) ggL_act_L_crack
set_option maxRecDepth 20000 in
theorem ggL_act_L_mend : GoodIn wsL_act wsL_mend := goodIn_ca (goodIn_ca (goodIn_r _ [334, 9, 11, 12, 335, 336, 337, 16, 338, 20, 21, 30, 31, 32, 33, 34, 35, 23, 24, 36, 37, 38, 39, 40, 41, 42, 43, 44, 45, 46, 47, 48, 49, 50, 51, 52, 53, 54, 55, 56, 57, 58, 59, 60, 61, 62, 63, 64, 65, 66, 67, 68, 69, 200, 137, 138, 29, 139, 133, 130, 339, 340, 341, 342, 583, 584, 585, 586, 587, 588, 589, 590, 574, 575, 576, 577, 578, 579, 580, 581, 582, 591, 592, 593, 594, 595] (by decide +kernel) (by decide +kernel)) (goodIn_sub (fun _ h => List.mem_cons_of_mem _ (List.mem_append_left _ (List.mem_append_right _ h))) (by decide +kernel))) (goodIn_sub (fun _ h => List.mem_cons_of_mem _ (List.mem_append_right _ h)) (by decide +kernel))
set_option maxRecDepth 20000 in
theorem gL_act_L_mend : GoodIn wsL_act (va_wsS RL 121 yL_mend wsL_mend) := goodIn_app (goodIn_of _ (by decide +kernel)) ggL_act_L_mend
set_option maxRecDepth 20000 in
theorem ggL_act_L_replace : GoodIn wsL_act wsL_replace := goodIn_ca (goodIn_ca (goodIn_ca (goodIn_r _ [345, 9, 10, 11, 12, 346, 347, 348, 16, 349, 20, 21, 30, 31, 32, 33, 34, 35, 23, 24, 36, 37, 38, 39, 40, 41, 42, 43, 44, 45, 46, 47, 48, 49, 50, 51, 52, 53, 54, 55, 56, 57, 58, 59, 60, 61, 62, 63, 64, 65, 66, 67, 68, 69, 260, 261, 262, 18, 19, 350, 351, 352, 29, 353, 135, 131, 134, 132, 200, 137, 138, 139, 133, 130, 583, 584, 585, 586, 587, 588, 589, 590, 574, 575, 576, 577, 578, 579, 580, 581, 582, 591, 592, 593, 594, 595] (by decide +kernel) (by decide +kernel)) (goodIn_sub (fun _ h => List.mem_cons_of_mem _ (List.mem_append_left _ (List.mem_append_right _ h))) (by decide +kernel))) (goodIn_sub (fun _ h => List.mem_cons_of_mem _ (List.mem_append_right _ h)) (by decide +kernel))) (goodIn_sub (fun _ h => List.mem_cons_of_mem _ (List.mem_append_left _ (List.mem_append_left _ (List.mem_append_right _ h)))) (by decide +kernel))
set_option maxRecDepth 20000 in
theorem gL_act_L_replace : GoodIn wsL_act (va_wsS RL 123 yL_replace wsL_replace) := goodIn_app (goodIn_of _ (by decide +kernel)) ggL_act_L_replace
set_option maxRecDepth 20000 in
theorem ggL_act_L_best : GoodIn wsL_act wsL_best := goodIn_ca (goodIn_r _ [356, 9, 12, 357, 358, 359, 16, 360, 22, 23, 30, 31, 32, 33, 34, 35, 24, 36, 37, 38, 39, 40, 41, 42, 43, 44, 45, 46, 47, 48, 49, 50, 51, 52, 53, 54, 55, 56, 57, 58, 59, 60, 61, 62, 63, 64, 65, 66, 67, 68, 69, 76, 77, 78, 79, 80, 81, 82, 83, 84, 85, 70, 71, 72, 73, 74, 75, 361, 362, 363, 364, 365, 366, 367, 368, 246, 247, 248, 249, 250, 251, 252, 369, 370, 371, 372, 373, 374, 375, 376, 25, 26, 86, 87, 88, 89, 90, 91, 92, 93, 94, 95, 96, 377, 378, 379, 380, 381, 382, 383, 384, 385, 386, 387, 388, 389, 390, 391, 392, 393, 394, 395, 396, 397, 98, 99, 100, 101, 102, 103, 104, 105, 106, 107, 108, 109, 110, 111, 112, 113, 114, 115, 116, 117, 118, 119, 120, 574, 575, 576, 577, 578, 579, 580, 581, 582, 591, 592, 593, 594, 595, 596, 597] (by decide +kernel) (by decide +kernel)) (goodIn_sub (fun _ h => List.mem_cons_of_mem _ (List.mem_append_right _ h)) (by decide +kernel))
set_option maxRecDepth 20000 in
theorem gL_act_L_best : GoodIn wsL_act (va_wsS RL 125 yL_best wsL_best) := goodIn_app (goodIn_of _ (by decide +kernel)) ggL_act_L_best
set_option maxRecDepth 20000 in
theorem ggL_act_L_pieceOf : GoodIn wsL_act wsL_pieceOf := goodIn_ca (goodIn_r _ [400, 9, 12, 401, 402, 403, 16, 404, 208, 209, 210, 211, 34, 35, 23, 212, 83, 84, 50, 85, 52, 574, 575, 576, 577, 578, 579, 580, 581, 582, 594, 595] (by decide +kernel) (by decide +kernel)) (goodIn_sub (fun _ h => List.mem_cons_of_mem _ (List.mem_append_right _ h)) (by decide +kernel))
set_option maxRecDepth 20000 in
theorem gL_act_L_pieceOf : GoodIn wsL_act (va_wsS RL 128 yL_pieceOf wsL_pieceOf) := goodIn_app (goodIn_of _ (by decide +kernel)) ggL_act_L_pieceOf
set_option maxRecDepth 20000 in
theorem ggL_act_X4_assembled : GoodIn wsL_act wsX4_assembled := goodIn_r _ [408, 23, 409, 410, 411, 50, 412, 413, 414, 415, 416, 417, 418, 419, 420, 108, 421, 217, 83, 84, 85, 52, 422, 423, 424, 425, 426, 16, 427, 428, 429, 430, 431, 432, 433, 434, 435, 574, 575, 576, 577, 578, 579, 580, 581, 582, 594, 595] (by decide +kernel) (by decide +kernel)
set_option maxRecDepth 20000 in
theorem gL_act_X4_assembled : GoodIn wsL_act (wsV RL 130 RX4 yX4_assembled wsX4_assembled) := goodIn_app (goodIn_of _ (by decide +kernel)) ggL_act_X4_assembled
set_option maxRecDepth 20000 in
theorem ggL_act_L_history : GoodIn wsL_act wsL_history := goodIn_ca (goodIn_r _ [438, 9, 12, 439, 440, 441, 16, 442, 34, 35, 24, 36, 37, 38, 39, 40, 41, 42, 43, 44, 45, 46, 53, 54, 55, 56, 57, 58, 59, 60, 61, 62, 63, 64, 65, 66, 67, 68, 69, 443, 444, 445, 29, 446, 133, 130, 574, 575, 576, 577, 578, 579, 580, 581, 582, 591, 592, 593, 583, 584, 585, 586, 587, 588, 589, 590] (by decide +kernel) (by decide +kernel)) (goodIn_sub (fun _ h => List.mem_cons_of_mem _ (List.mem_append_right _ h)) (by decide +kernel))
set_option maxRecDepth 20000 in
theorem gL_act_L_history : GoodIn wsL_act (va_wsS RL 133 yL_history wsL_history) := goodIn_app (goodIn_of _ (by decide +kernel)) ggL_act_L_history
set_option maxRecDepth 20000 in
theorem ggL_act_L_laid : GoodIn wsL_act wsL_laid := goodIn_ca (goodIn_r _ [449, 9, 12, 450, 451, 452, 16, 453, 454, 30, 31, 32, 33, 34, 35, 23, 24, 36, 37, 38, 39, 40, 41, 42, 43, 44, 45, 46, 47, 48, 49, 50, 51, 52, 53, 54, 55, 56, 57, 58, 59, 60, 61, 62, 63, 64, 65, 66, 67, 68, 69, 455, 456, 457, 458, 282, 459, 460, 461, 462, 463, 464, 465, 466, 467, 107, 108, 109, 238, 239, 240, 241, 22, 76, 77, 78, 79, 80, 81, 82, 83, 84, 85, 468, 469, 470, 471, 472, 473, 474, 475, 246, 247, 248, 249, 250, 251, 252, 476, 477, 478, 479, 480, 481, 482, 426, 427, 483, 484, 485, 486, 487, 488, 489, 490, 491, 492, 493, 494, 495, 496, 497, 498, 499, 500, 501, 502, 503, 504, 505, 583, 584, 585, 586, 587, 588, 589, 590, 574, 575, 576, 577, 578, 579, 580, 581, 582, 591, 592, 593, 594, 595, 598, 599, 600, 601, 602, 603, 604, 605, 606, 596, 597] (by decide +kernel) (by decide +kernel)) (goodIn_sub (fun _ h => List.mem_cons_of_mem _ (List.mem_append_right _ h)) (by decide +kernel))
set_option maxRecDepth 20000 in
theorem gL_act_L_laid : GoodIn wsL_act (va_wsS RL 135 yL_laid wsL_laid) := goodIn_app (goodIn_of _ (by decide +kernel)) ggL_act_L_laid
set_option maxRecDepth 20000 in
theorem ggL_act_L_crosses : GoodIn wsL_act wsL_crosses := goodIn_ca (goodIn_r _ [508, 9, 12, 509, 510, 511, 16, 512, 23, 291, 292, 293, 34, 35, 73, 74, 75, 513, 514, 515, 50, 516, 217, 83, 84, 85, 52, 517, 518, 519, 520, 521, 522, 523, 574, 575, 576, 577, 578, 579, 580, 581, 582, 594, 595] (by decide +kernel) (by decide +kernel)) (goodIn_sub (fun _ h => List.mem_cons_of_mem _ (List.mem_append_right _ h)) (by decide +kernel))
set_option maxRecDepth 20000 in
theorem gL_act_L_crosses : GoodIn wsL_act (va_wsS RL 137 yL_crosses wsL_crosses) := goodIn_app (goodIn_of _ (by decide +kernel)) ggL_act_L_crosses
set_option maxRecDepth 20000 in
theorem ggL_act_L_bends : GoodIn wsL_act wsL_bends := goodIn_ca (goodIn_ca (goodIn_r _ [526, 9, 10, 12, 527, 528, 529, 16, 530, 34, 35, 18, 19, 290, 298, 247, 248, 249, 250, 251, 252, 531, 532, 533, 534, 294, 295, 296, 297, 574, 575, 576, 577, 578, 579, 580, 581, 582] (by decide +kernel) (by decide +kernel)) (goodIn_sub (fun _ h => List.mem_cons_of_mem _ (List.mem_append_right _ h)) (by decide +kernel))) (goodIn_sub (fun _ h => List.mem_cons_of_mem _ (List.mem_append_left _ (List.mem_append_left _ (List.mem_append_right _ h)))) (by decide +kernel))
set_option maxRecDepth 20000 in
theorem gL_act_L_bends : GoodIn wsL_act (va_wsS RL 139 yL_bends wsL_bends) := goodIn_app (goodIn_of _ (by decide +kernel)) ggL_act_L_bends
set_option maxRecDepth 20000 in
theorem ggL_act_L_piece : GoodIn wsL_act wsL_piece := goodIn_ca (goodIn_ca (goodIn_r _ [537, 9, 10, 12, 538, 539, 540, 16, 541, 18, 19, 30, 31, 32, 33, 34, 35, 23, 24, 36, 37, 38, 39, 40, 41, 42, 43, 44, 45, 46, 47, 48, 49, 50, 51, 52, 53, 54, 55, 56, 57, 58, 59, 60, 61, 62, 63, 64, 65, 66, 67, 68, 69, 238, 239, 240, 241, 22, 76, 77, 78, 79, 80, 81, 82, 83, 84, 85, 242, 243, 244, 245, 246, 247, 248, 249, 250, 251, 252, 542, 382, 383, 384, 385, 386, 387, 388, 389, 390, 391, 392, 393, 394, 395, 396, 74, 75, 468, 469, 470, 471, 472, 473, 474, 475, 543, 322, 323, 29, 324, 132, 129, 583, 584, 585, 586, 587, 588, 589, 590, 574, 575, 576, 577, 578, 579, 580, 581, 582, 591, 592, 593, 594, 595, 596, 597] (by decide +kernel) (by decide +kernel)) (goodIn_sub (fun _ h => List.mem_cons_of_mem _ (List.mem_append_left _ (List.mem_append_left _ (List.mem_append_right _ h)))) (by decide +kernel))) (goodIn_sub (fun _ h => List.mem_cons_of_mem _ (List.mem_append_right _ h)) (by decide +kernel))
set_option maxRecDepth 20000 in
theorem gL_act_L_piece : GoodIn wsL_act (va_wsS RL 141 yL_piece wsL_piece) := goodIn_app (goodIn_of _ (by decide +kernel)) ggL_act_L_piece
set_option maxRecDepth 20000 in
theorem ggL_act_L_floor : GoodIn wsL_act wsL_floor := goodIn_ca (goodIn_r _ [546, 10, 12, 547, 548, 549, 16, 550, 551, 552, 553, 18, 19, 554, 555, 556, 557, 558, 559, 560, 561, 161, 562, 563, 564, 565, 566, 567, 568, 569, 570, 571, 572, 573, 23, 24, 36, 212, 83, 84, 50, 85, 52, 37, 38, 39, 40, 41, 42, 43, 44, 45, 46, 53, 54, 55, 56, 57, 58, 59, 60, 61, 62, 63, 64, 65, 66, 67, 68, 69, 574, 575, 576, 577, 578, 579, 580, 581, 582, 583, 584, 585, 586, 587, 588, 589, 590, 594, 595, 591, 592, 593] (by decide +kernel) (by decide +kernel)) (goodIn_sub (fun _ h => List.mem_cons_of_mem _ (List.mem_append_left _ (List.mem_append_left _ (List.mem_append_right _ h)))) (by decide +kernel))
set_option maxRecDepth 20000 in
theorem gL_act_L_floor : GoodIn wsL_act (va_wsS RL 143 yL_floor wsL_floor) := goodIn_app (goodIn_of _ (by decide +kernel)) ggL_act_L_floor
theorem dL_act_0 : decode cL_act 0 = .ok (.iload_n 1, 1) := by decide +kernel
theorem dL_act_1 : decode cL_act 1 = .ok (.bipush 26, 2) := by decide +kernel
theorem dL_act_3 : decode cL_act 3 = .ok (.ishr, 1) := by decide +kernel
theorem dL_act_4 : decode cL_act 4 = .ok (.bipush 14, 2) := by decide +kernel
theorem dL_act_6 : decode cL_act 6 = .ok (.invokestatic 90, 3) := by decide +kernel
theorem dL_act_9 : decode cL_act 9 = .ok (.ifCond .ne 7, 3) := by decide +kernel
theorem dL_act_12 : decode cL_act 12 = .ok (.iconst 1, 1) := by decide +kernel
theorem dL_act_13 : decode cL_act 13 = .ok (.goto 4, 3) := by decide +kernel
theorem dL_act_16 : decode cL_act 16 = .ok (.iconst 0, 1) := by decide +kernel
theorem dL_act_17 : decode cL_act 17 = .ok (.istore_n 3, 1) := by decide +kernel
theorem dL_act_18 : decode cL_act 18 = .ok (.iload_n 3, 1) := by decide +kernel
theorem dL_act_19 : decode cL_act 19 = .ok (.ifCond .eq 16, 3) := by decide +kernel
theorem dL_act_22 : decode cL_act 22 = .ok (.iload_n 1, 1) := by decide +kernel
theorem dL_act_23 : decode cL_act 23 = .ok (.iconst 5, 1) := by decide +kernel
theorem dL_act_24 : decode cL_act 24 = .ok (.ishr, 1) := by decide +kernel
theorem dL_act_25 : decode cL_act 25 = .ok (.bipush 64, 2) := by decide +kernel
theorem dL_act_27 : decode cL_act 27 = .ok (.invokestatic 90, 3) := by decide +kernel
theorem dL_act_30 : decode cL_act 30 = .ok (.iconst 2, 1) := by decide +kernel
theorem dL_act_31 : decode cL_act 31 = .ok (.isub, 1) := by decide +kernel
theorem dL_act_32 : decode cL_act 32 = .ok (.goto 10, 3) := by decide +kernel
theorem dL_act_35 : decode cL_act 35 = .ok (.iload_n 1, 1) := by decide +kernel
theorem dL_act_36 : decode cL_act 36 = .ok (.iconst 5, 1) := by decide +kernel
theorem dL_act_37 : decode cL_act 37 = .ok (.ishr, 1) := by decide +kernel
theorem dL_act_38 : decode cL_act 38 = .ok (.iconst 5, 1) := by decide +kernel
theorem dL_act_39 : decode cL_act 39 = .ok (.invokestatic 90, 3) := by decide +kernel
theorem dL_act_42 : decode cL_act 42 = .ok (.istore 4, 2) := by decide +kernel
theorem dL_act_44 : decode cL_act 44 = .ok (.iload_n 3, 1) := by decide +kernel
theorem dL_act_45 : decode cL_act 45 = .ok (.ifCond .eq 17, 3) := by decide +kernel
theorem dL_act_48 : decode cL_act 48 = .ok (.iload_n 1, 1) := by decide +kernel
theorem dL_act_49 : decode cL_act 49 = .ok (.bipush 11, 2) := by decide +kernel
theorem dL_act_51 : decode cL_act 51 = .ok (.ishr, 1) := by decide +kernel
theorem dL_act_52 : decode cL_act 52 = .ok (.bipush 64, 2) := by decide +kernel
theorem dL_act_54 : decode cL_act 54 = .ok (.invokestatic 90, 3) := by decide +kernel
theorem dL_act_57 : decode cL_act 57 = .ok (.iconst 2, 1) := by decide +kernel
theorem dL_act_58 : decode cL_act 58 = .ok (.isub, 1) := by decide +kernel
theorem dL_act_59 : decode cL_act 59 = .ok (.goto 11, 3) := by decide +kernel
theorem dL_act_62 : decode cL_act 62 = .ok (.iload_n 1, 1) := by decide +kernel
theorem dL_act_63 : decode cL_act 63 = .ok (.bipush 11, 2) := by decide +kernel
theorem dL_act_65 : decode cL_act 65 = .ok (.ishr, 1) := by decide +kernel
theorem dL_act_66 : decode cL_act 66 = .ok (.iconst 5, 1) := by decide +kernel
theorem dL_act_67 : decode cL_act 67 = .ok (.invokestatic 90, 3) := by decide +kernel
theorem dL_act_70 : decode cL_act 70 = .ok (.istore 5, 2) := by decide +kernel
theorem dL_act_72 : decode cL_act 72 = .ok (.iload_n 3, 1) := by decide +kernel
theorem dL_act_73 : decode cL_act 73 = .ok (.ifCond .eq 10, 3) := by decide +kernel
theorem dL_act_76 : decode cL_act 76 = .ok (.iload_n 1, 1) := by decide +kernel
theorem dL_act_77 : decode cL_act 77 = .ok (.bipush 8, 2) := by decide +kernel
theorem dL_act_79 : decode cL_act 79 = .ok (.ishr, 1) := by decide +kernel
theorem dL_act_80 : decode cL_act 80 = .ok (.goto 13, 3) := by decide +kernel
theorem dL_act_83 : decode cL_act 83 = .ok (.iload_n 1, 1) := by decide +kernel
theorem dL_act_84 : decode cL_act 84 = .ok (.bipush 8, 2) := by decide +kernel
theorem dL_act_86 : decode cL_act 86 = .ok (.ishr, 1) := by decide +kernel
theorem dL_act_87 : decode cL_act 87 = .ok (.sipush 256, 3) := by decide +kernel
theorem dL_act_90 : decode cL_act 90 = .ok (.invokestatic 90, 3) := by decide +kernel
theorem dL_act_93 : decode cL_act 93 = .ok (.istore 6, 2) := by decide +kernel
theorem dL_act_95 : decode cL_act 95 = .ok (.iload_n 3, 1) := by decide +kernel
theorem dL_act_96 : decode cL_act 96 = .ok (.ifCond .eq 10, 3) := by decide +kernel
theorem dL_act_99 : decode cL_act 99 = .ok (.iload_n 1, 1) := by decide +kernel
theorem dL_act_100 : decode cL_act 100 = .ok (.bipush 14, 2) := by decide +kernel
theorem dL_act_102 : decode cL_act 102 = .ok (.ishr, 1) := by decide +kernel
theorem dL_act_103 : decode cL_act 103 = .ok (.goto 12, 3) := by decide +kernel
theorem dL_act_106 : decode cL_act 106 = .ok (.iload_n 1, 1) := by decide +kernel
theorem dL_act_107 : decode cL_act 107 = .ok (.bipush 14, 2) := by decide +kernel
theorem dL_act_109 : decode cL_act 109 = .ok (.ishr, 1) := by decide +kernel
theorem dL_act_110 : decode cL_act 110 = .ok (.bipush 8, 2) := by decide +kernel
theorem dL_act_112 : decode cL_act 112 = .ok (.invokestatic 90, 3) := by decide +kernel
theorem dL_act_115 : decode cL_act 115 = .ok (.istore 7, 2) := by decide +kernel
theorem dL_act_117 : decode cL_act 117 = .ok (.iload_n 1, 1) := by decide +kernel
theorem dL_act_118 : decode cL_act 118 = .ok (.bipush 32, 2) := by decide +kernel
theorem dL_act_120 : decode cL_act 120 = .ok (.invokestatic 90, 3) := by decide +kernel
theorem dL_act_123 : decode cL_act 123 = .ok (.tableswitch 536 0 26 #[121, 121, 121, 121, 121, 146, 146, 146, 146, 155, 164, 164, 173, 216, 241, 264, 264, 294, 324, 324, 331, 338, 347, 372, 414, 454, 494], 121) := by decide +kernel
theorem dL_act_244 : decode cL_act 244 = .ok (.aload_n 0, 1) := by decide +kernel
theorem dL_act_245 : decode cL_act 245 = .ok (.iload 4, 2) := by decide +kernel
theorem dL_act_247 : decode cL_act 247 = .ok (.iload_n 3, 1) := by decide +kernel
theorem dL_act_248 : decode cL_act 248 = .ok (.ifCond .eq 8, 3) := by decide +kernel
theorem dL_act_251 : decode cL_act 251 = .ok (.iload 7, 2) := by decide +kernel
theorem dL_act_253 : decode cL_act 253 = .ok (.goto 12, 3) := by decide +kernel
theorem dL_act_256 : decode cL_act 256 = .ok (.iload_n 1, 1) := by decide +kernel
theorem dL_act_257 : decode cL_act 257 = .ok (.bipush 8, 2) := by decide +kernel
theorem dL_act_259 : decode cL_act 259 = .ok (.ishr, 1) := by decide +kernel
theorem dL_act_260 : decode cL_act 260 = .ok (.bipush 31, 2) := by decide +kernel
theorem dL_act_262 : decode cL_act 262 = .ok (.invokestatic 90, 3) := by decide +kernel
theorem dL_act_265 : decode cL_act 265 = .ok (.invokestatic 95, 3) := by decide +kernel
theorem dL_act_268 : decode cL_act 268 = .ok (.ireturn, 1) := by decide +kernel
theorem dL_act_269 : decode cL_act 269 = .ok (.aload_n 0, 1) := by decide +kernel
theorem dL_act_270 : decode cL_act 270 = .ok (.iload 6, 2) := by decide +kernel
theorem dL_act_272 : decode cL_act 272 = .ok (.iload 4, 2) := by decide +kernel
theorem dL_act_274 : decode cL_act 274 = .ok (.invokestatic 98, 3) := by decide +kernel
theorem dL_act_277 : decode cL_act 277 = .ok (.ireturn, 1) := by decide +kernel
theorem dL_act_278 : decode cL_act 278 = .ok (.aload_n 0, 1) := by decide +kernel
theorem dL_act_279 : decode cL_act 279 = .ok (.iload 4, 2) := by decide +kernel
theorem dL_act_281 : decode cL_act 281 = .ok (.iload 5, 2) := by decide +kernel
theorem dL_act_283 : decode cL_act 283 = .ok (.invokestatic 100, 3) := by decide +kernel
theorem dL_act_286 : decode cL_act 286 = .ok (.ireturn, 1) := by decide +kernel
theorem dL_act_287 : decode cL_act 287 = .ok (.aload_n 0, 1) := by decide +kernel
theorem dL_act_288 : decode cL_act 288 = .ok (.iload 4, 2) := by decide +kernel
theorem dL_act_290 : decode cL_act 290 = .ok (.iload 7, 2) := by decide +kernel
theorem dL_act_292 : decode cL_act 292 = .ok (.invokestatic 102, 3) := by decide +kernel
theorem dL_act_295 : decode cL_act 295 = .ok (.ireturn, 1) := by decide +kernel
theorem dL_act_296 : decode cL_act 296 = .ok (.iload_n 1, 1) := by decide +kernel
theorem dL_act_297 : decode cL_act 297 = .ok (.bipush 14, 2) := by decide +kernel
theorem dL_act_299 : decode cL_act 299 = .ok (.ishr, 1) := by decide +kernel
theorem dL_act_300 : decode cL_act 300 = .ok (.bipush 6, 2) := by decide +kernel
theorem dL_act_302 : decode cL_act 302 = .ok (.invokestatic 90, 3) := by decide +kernel
theorem dL_act_305 : decode cL_act 305 = .ok (.ifCond .ne 10, 3) := by decide +kernel
theorem dL_act_308 : decode cL_act 308 = .ok (.aload_n 0, 1) := by decide +kernel
theorem dL_act_309 : decode cL_act 309 = .ok (.invokevirtual 104, 3) := by decide +kernel
theorem dL_act_312 : decode cL_act 312 = .ok (.goto 26, 3) := by decide +kernel
theorem dL_act_315 : decode cL_act 315 = .ok (.aload_n 0, 1) := by decide +kernel
theorem dL_act_316 : decode cL_act 316 = .ok (.iload_n 3, 1) := by decide +kernel
theorem dL_act_317 : decode cL_act 317 = .ok (.ifCond .eq 8, 3) := by decide +kernel
theorem dL_act_320 : decode cL_act 320 = .ok (.iload 7, 2) := by decide +kernel
theorem dL_act_322 : decode cL_act 322 = .ok (.goto 13, 3) := by decide +kernel
theorem dL_act_325 : decode cL_act 325 = .ok (.iload_n 1, 1) := by decide +kernel
theorem dL_act_326 : decode cL_act 326 = .ok (.bipush 15, 2) := by decide +kernel
theorem dL_act_328 : decode cL_act 328 = .ok (.ishr, 1) := by decide +kernel
theorem dL_act_329 : decode cL_act 329 = .ok (.iconst 5, 1) := by decide +kernel
theorem dL_act_330 : decode cL_act 330 = .ok (.invokestatic 90, 3) := by decide +kernel
theorem dL_act_333 : decode cL_act 333 = .ok (.iconst 1, 1) := by decide +kernel
theorem dL_act_334 : decode cL_act 334 = .ok (.iadd, 1) := by decide +kernel
theorem dL_act_335 : decode cL_act 335 = .ok (.invokestatic 108, 3) := by decide +kernel
theorem dL_act_338 : decode cL_act 338 = .ok (.ireturn, 1) := by decide +kernel
theorem dL_act_339 : decode cL_act 339 = .ok (.aload_n 0, 1) := by decide +kernel
theorem dL_act_340 : decode cL_act 340 = .ok (.iload_n 3, 1) := by decide +kernel
theorem dL_act_341 : decode cL_act 341 = .ok (.ifCond .eq 8, 3) := by decide +kernel
theorem dL_act_344 : decode cL_act 344 = .ok (.iload 7, 2) := by decide +kernel
theorem dL_act_346 : decode cL_act 346 = .ok (.goto 14, 3) := by decide +kernel
theorem dL_act_349 : decode cL_act 349 = .ok (.iconst 4, 1) := by decide +kernel
theorem dL_act_350 : decode cL_act 350 = .ok (.iload_n 1, 1) := by decide +kernel
theorem dL_act_351 : decode cL_act 351 = .ok (.bipush 14, 2) := by decide +kernel
theorem dL_act_353 : decode cL_act 353 = .ok (.ishr, 1) := by decide +kernel
theorem dL_act_354 : decode cL_act 354 = .ok (.bipush 37, 2) := by decide +kernel
theorem dL_act_356 : decode cL_act 356 = .ok (.invokestatic 90, 3) := by decide +kernel
theorem dL_act_359 : decode cL_act 359 = .ok (.iadd, 1) := by decide +kernel
theorem dL_act_360 : decode cL_act 360 = .ok (.invokestatic 111, 3) := by decide +kernel
theorem dL_act_363 : decode cL_act 363 = .ok (.ireturn, 1) := by decide +kernel
theorem dL_act_364 : decode cL_act 364 = .ok (.aload_n 0, 1) := by decide +kernel
theorem dL_act_365 : decode cL_act 365 = .ok (.iload_n 3, 1) := by decide +kernel
theorem dL_act_366 : decode cL_act 366 = .ok (.ifCond .eq 8, 3) := by decide +kernel
theorem dL_act_369 : decode cL_act 369 = .ok (.iload 7, 2) := by decide +kernel
theorem dL_act_371 : decode cL_act 371 = .ok (.goto 12, 3) := by decide +kernel
theorem dL_act_374 : decode cL_act 374 = .ok (.iload_n 1, 1) := by decide +kernel
theorem dL_act_375 : decode cL_act 375 = .ok (.bipush 14, 2) := by decide +kernel
theorem dL_act_377 : decode cL_act 377 = .ok (.ishr, 1) := by decide +kernel
theorem dL_act_378 : decode cL_act 378 = .ok (.bipush 15, 2) := by decide +kernel
theorem dL_act_380 : decode cL_act 380 = .ok (.invokestatic 90, 3) := by decide +kernel
theorem dL_act_383 : decode cL_act 383 = .ok (.invokestatic 113, 3) := by decide +kernel
theorem dL_act_386 : decode cL_act 386 = .ok (.ireturn, 1) := by decide +kernel
theorem dL_act_387 : decode cL_act 387 = .ok (.aload_n 0, 1) := by decide +kernel
theorem dL_act_388 : decode cL_act 388 = .ok (.iload 4, 2) := by decide +kernel
theorem dL_act_390 : decode cL_act 390 = .ok (.iload_n 3, 1) := by decide +kernel
theorem dL_act_391 : decode cL_act 391 = .ok (.ifCond .eq 8, 3) := by decide +kernel
theorem dL_act_394 : decode cL_act 394 = .ok (.iload 7, 2) := by decide +kernel
theorem dL_act_396 : decode cL_act 396 = .ok (.goto 17, 3) := by decide +kernel
theorem dL_act_399 : decode cL_act 399 = .ok (.sipush 500, 3) := by decide +kernel
theorem dL_act_402 : decode cL_act 402 = .ok (.iload_n 1, 1) := by decide +kernel
theorem dL_act_403 : decode cL_act 403 = .ok (.bipush 14, 2) := by decide +kernel
theorem dL_act_405 : decode cL_act 405 = .ok (.ishr, 1) := by decide +kernel
theorem dL_act_406 : decode cL_act 406 = .ok (.sipush 201, 3) := by decide +kernel
theorem dL_act_409 : decode cL_act 409 = .ok (.invokestatic 90, 3) := by decide +kernel
theorem dL_act_412 : decode cL_act 412 = .ok (.iadd, 1) := by decide +kernel
theorem dL_act_413 : decode cL_act 413 = .ok (.invokestatic 115, 3) := by decide +kernel
theorem dL_act_416 : decode cL_act 416 = .ok (.ireturn, 1) := by decide +kernel
theorem dL_act_417 : decode cL_act 417 = .ok (.aload_n 0, 1) := by decide +kernel
theorem dL_act_418 : decode cL_act 418 = .ok (.iload 4, 2) := by decide +kernel
theorem dL_act_420 : decode cL_act 420 = .ok (.iload_n 3, 1) := by decide +kernel
theorem dL_act_421 : decode cL_act 421 = .ok (.ifCond .eq 8, 3) := by decide +kernel
theorem dL_act_424 : decode cL_act 424 = .ok (.iload 7, 2) := by decide +kernel
theorem dL_act_426 : decode cL_act 426 = .ok (.goto 17, 3) := by decide +kernel
theorem dL_act_429 : decode cL_act 429 = .ok (.sipush 500, 3) := by decide +kernel
theorem dL_act_432 : decode cL_act 432 = .ok (.iload_n 1, 1) := by decide +kernel
theorem dL_act_433 : decode cL_act 433 = .ok (.bipush 14, 2) := by decide +kernel
theorem dL_act_435 : decode cL_act 435 = .ok (.ishr, 1) := by decide +kernel
theorem dL_act_436 : decode cL_act 436 = .ok (.sipush 251, 3) := by decide +kernel
theorem dL_act_439 : decode cL_act 439 = .ok (.invokestatic 90, 3) := by decide +kernel
theorem dL_act_442 : decode cL_act 442 = .ok (.iadd, 1) := by decide +kernel
theorem dL_act_443 : decode cL_act 443 = .ok (.invokestatic 117, 3) := by decide +kernel
theorem dL_act_446 : decode cL_act 446 = .ok (.ireturn, 1) := by decide +kernel
theorem dL_act_447 : decode cL_act 447 = .ok (.aload_n 0, 1) := by decide +kernel
theorem dL_act_448 : decode cL_act 448 = .ok (.iload 6, 2) := by decide +kernel
theorem dL_act_450 : decode cL_act 450 = .ok (.invokestatic 119, 3) := by decide +kernel
theorem dL_act_453 : decode cL_act 453 = .ok (.ireturn, 1) := by decide +kernel
theorem dL_act_454 : decode cL_act 454 = .ok (.aload_n 0, 1) := by decide +kernel
theorem dL_act_455 : decode cL_act 455 = .ok (.iload 4, 2) := by decide +kernel
theorem dL_act_457 : decode cL_act 457 = .ok (.invokestatic 121, 3) := by decide +kernel
theorem dL_act_460 : decode cL_act 460 = .ok (.ireturn, 1) := by decide +kernel
theorem dL_act_461 : decode cL_act 461 = .ok (.aload_n 0, 1) := by decide +kernel
theorem dL_act_462 : decode cL_act 462 = .ok (.iload 4, 2) := by decide +kernel
theorem dL_act_464 : decode cL_act 464 = .ok (.iload 7, 2) := by decide +kernel
theorem dL_act_466 : decode cL_act 466 = .ok (.invokestatic 123, 3) := by decide +kernel
theorem dL_act_469 : decode cL_act 469 = .ok (.ireturn, 1) := by decide +kernel
theorem dL_act_470 : decode cL_act 470 = .ok (.iload_n 2, 1) := by decide +kernel
theorem dL_act_471 : decode cL_act 471 = .ok (.bipush 16, 2) := by decide +kernel
theorem dL_act_473 : decode cL_act 473 = .ok (.irem, 1) := by decide +kernel
theorem dL_act_474 : decode cL_act 474 = .ok (.bipush 9, 2) := by decide +kernel
theorem dL_act_476 : decode cL_act 476 = .ok (.if_icmp .ne 12, 3) := by decide +kernel
theorem dL_act_479 : decode cL_act 479 = .ok (.aload_n 0, 1) := by decide +kernel
theorem dL_act_480 : decode cL_act 480 = .ok (.iload 4, 2) := by decide +kernel
theorem dL_act_482 : decode cL_act 482 = .ok (.invokestatic 125, 3) := by decide +kernel
theorem dL_act_485 : decode cL_act 485 = .ok (.goto 9, 3) := by decide +kernel
theorem dL_act_488 : decode cL_act 488 = .ok (.aload_n 0, 1) := by decide +kernel
theorem dL_act_489 : decode cL_act 489 = .ok (.iload 6, 2) := by decide +kernel
theorem dL_act_491 : decode cL_act 491 = .ok (.invokestatic 128, 3) := by decide +kernel
theorem dL_act_494 : decode cL_act 494 = .ok (.ireturn, 1) := by decide +kernel
theorem dL_act_495 : decode cL_act 495 = .ok (.iload_n 2, 1) := by decide +kernel
theorem dL_act_496 : decode cL_act 496 = .ok (.bipush 8, 2) := by decide +kernel
theorem dL_act_498 : decode cL_act 498 = .ok (.irem, 1) := by decide +kernel
theorem dL_act_499 : decode cL_act 499 = .ok (.iconst 3, 1) := by decide +kernel
theorem dL_act_500 : decode cL_act 500 = .ok (.if_icmp .ne 12, 3) := by decide +kernel
theorem dL_act_503 : decode cL_act 503 = .ok (.aload_n 0, 1) := by decide +kernel
theorem dL_act_504 : decode cL_act 504 = .ok (.iload 5, 2) := by decide +kernel
theorem dL_act_506 : decode cL_act 506 = .ok (.invokevirtual 130, 3) := by decide +kernel
theorem dL_act_509 : decode cL_act 509 = .ok (.goto 27, 3) := by decide +kernel
theorem dL_act_512 : decode cL_act 512 = .ok (.aload_n 0, 1) := by decide +kernel
theorem dL_act_513 : decode cL_act 513 = .ok (.iload 4, 2) := by decide +kernel
theorem dL_act_515 : decode cL_act 515 = .ok (.iload_n 3, 1) := by decide +kernel
theorem dL_act_516 : decode cL_act 516 = .ok (.ifCond .eq 8, 3) := by decide +kernel
theorem dL_act_519 : decode cL_act 519 = .ok (.iload 5, 2) := by decide +kernel
theorem dL_act_521 : decode cL_act 521 = .ok (.goto 12, 3) := by decide +kernel
theorem dL_act_524 : decode cL_act 524 = .ok (.iload_n 1, 1) := by decide +kernel
theorem dL_act_525 : decode cL_act 525 = .ok (.bipush 11, 2) := by decide +kernel
theorem dL_act_527 : decode cL_act 527 = .ok (.ishr, 1) := by decide +kernel
theorem dL_act_528 : decode cL_act 528 = .ok (.bipush 8, 2) := by decide +kernel
theorem dL_act_530 : decode cL_act 530 = .ok (.invokestatic 90, 3) := by decide +kernel
theorem dL_act_533 : decode cL_act 533 = .ok (.invokestatic 133, 3) := by decide +kernel
theorem dL_act_536 : decode cL_act 536 = .ok (.ireturn, 1) := by decide +kernel
theorem dL_act_537 : decode cL_act 537 = .ok (.iload_n 2, 1) := by decide +kernel
theorem dL_act_538 : decode cL_act 538 = .ok (.bipush 8, 2) := by decide +kernel
theorem dL_act_540 : decode cL_act 540 = .ok (.irem, 1) := by decide +kernel
theorem dL_act_541 : decode cL_act 541 = .ok (.iconst 5, 1) := by decide +kernel
theorem dL_act_542 : decode cL_act 542 = .ok (.if_icmp .ne 12, 3) := by decide +kernel
theorem dL_act_545 : decode cL_act 545 = .ok (.aload_n 0, 1) := by decide +kernel
theorem dL_act_546 : decode cL_act 546 = .ok (.iload 4, 2) := by decide +kernel
theorem dL_act_548 : decode cL_act 548 = .ok (.invokestatic 135, 3) := by decide +kernel
theorem dL_act_551 : decode cL_act 551 = .ok (.goto 25, 3) := by decide +kernel
theorem dL_act_554 : decode cL_act 554 = .ok (.aload_n 0, 1) := by decide +kernel
theorem dL_act_555 : decode cL_act 555 = .ok (.iload_n 3, 1) := by decide +kernel
theorem dL_act_556 : decode cL_act 556 = .ok (.ifCond .eq 8, 3) := by decide +kernel
theorem dL_act_559 : decode cL_act 559 = .ok (.iload 7, 2) := by decide +kernel
theorem dL_act_561 : decode cL_act 561 = .ok (.goto 12, 3) := by decide +kernel
theorem dL_act_564 : decode cL_act 564 = .ok (.iload_n 1, 1) := by decide +kernel
theorem dL_act_565 : decode cL_act 565 = .ok (.bipush 14, 2) := by decide +kernel
theorem dL_act_567 : decode cL_act 567 = .ok (.ishr, 1) := by decide +kernel
theorem dL_act_568 : decode cL_act 568 = .ok (.bipush 15, 2) := by decide +kernel
theorem dL_act_570 : decode cL_act 570 = .ok (.invokestatic 90, 3) := by decide +kernel
theorem dL_act_573 : decode cL_act 573 = .ok (.invokestatic 137, 3) := by decide +kernel
theorem dL_act_576 : decode cL_act 576 = .ok (.ireturn, 1) := by decide +kernel
theorem dL_act_577 : decode cL_act 577 = .ok (.aload_n 0, 1) := by decide +kernel
theorem dL_act_578 : decode cL_act 578 = .ok (.iload_n 3, 1) := by decide +kernel
theorem dL_act_579 : decode cL_act 579 = .ok (.ifCond .eq 8, 3) := by decide +kernel
theorem dL_act_582 : decode cL_act 582 = .ok (.iload 7, 2) := by decide +kernel
theorem dL_act_584 : decode cL_act 584 = .ok (.goto 11, 3) := by decide +kernel
theorem dL_act_587 : decode cL_act 587 = .ok (.iload_n 1, 1) := by decide +kernel
theorem dL_act_588 : decode cL_act 588 = .ok (.bipush 14, 2) := by decide +kernel
theorem dL_act_590 : decode cL_act 590 = .ok (.ishr, 1) := by decide +kernel
theorem dL_act_591 : decode cL_act 591 = .ok (.iconst 4, 1) := by decide +kernel
theorem dL_act_592 : decode cL_act 592 = .ok (.invokestatic 90, 3) := by decide +kernel
theorem dL_act_595 : decode cL_act 595 = .ok (.iload_n 3, 1) := by decide +kernel
theorem dL_act_596 : decode cL_act 596 = .ok (.ifCond .eq 8, 3) := by decide +kernel
theorem dL_act_599 : decode cL_act 599 = .ok (.iload 6, 2) := by decide +kernel
theorem dL_act_601 : decode cL_act 601 = .ok (.goto 12, 3) := by decide +kernel
theorem dL_act_604 : decode cL_act 604 = .ok (.iload_n 1, 1) := by decide +kernel
theorem dL_act_605 : decode cL_act 605 = .ok (.bipush 8, 2) := by decide +kernel
theorem dL_act_607 : decode cL_act 607 = .ok (.ishr, 1) := by decide +kernel
theorem dL_act_608 : decode cL_act 608 = .ok (.bipush 10, 2) := by decide +kernel
theorem dL_act_610 : decode cL_act 610 = .ok (.invokestatic 90, 3) := by decide +kernel
theorem dL_act_613 : decode cL_act 613 = .ok (.invokestatic 139, 3) := by decide +kernel
theorem dL_act_616 : decode cL_act 616 = .ok (.ireturn, 1) := by decide +kernel
theorem dL_act_617 : decode cL_act 617 = .ok (.iload_n 2, 1) := by decide +kernel
theorem dL_act_618 : decode cL_act 618 = .ok (.iconst 4, 1) := by decide +kernel
theorem dL_act_619 : decode cL_act 619 = .ok (.irem, 1) := by decide +kernel
theorem dL_act_620 : decode cL_act 620 = .ok (.iconst 1, 1) := by decide +kernel
theorem dL_act_621 : decode cL_act 621 = .ok (.if_icmp .ne 30, 3) := by decide +kernel
theorem dL_act_624 : decode cL_act 624 = .ok (.aload_n 0, 1) := by decide +kernel
theorem dL_act_625 : decode cL_act 625 = .ok (.iload 4, 2) := by decide +kernel
theorem dL_act_627 : decode cL_act 627 = .ok (.iload_n 3, 1) := by decide +kernel
theorem dL_act_628 : decode cL_act 628 = .ok (.ifCond .eq 8, 3) := by decide +kernel
theorem dL_act_631 : decode cL_act 631 = .ok (.iload 7, 2) := by decide +kernel
theorem dL_act_633 : decode cL_act 633 = .ok (.goto 12, 3) := by decide +kernel
theorem dL_act_636 : decode cL_act 636 = .ok (.iload_n 1, 1) := by decide +kernel
theorem dL_act_637 : decode cL_act 637 = .ok (.bipush 14, 2) := by decide +kernel
theorem dL_act_639 : decode cL_act 639 = .ok (.ishr, 1) := by decide +kernel
theorem dL_act_640 : decode cL_act 640 = .ok (.bipush 10, 2) := by decide +kernel
theorem dL_act_642 : decode cL_act 642 = .ok (.invokestatic 90, 3) := by decide +kernel
theorem dL_act_645 : decode cL_act 645 = .ok (.invokestatic 141, 3) := by decide +kernel
theorem dL_act_648 : decode cL_act 648 = .ok (.goto 10, 3) := by decide +kernel
theorem dL_act_651 : decode cL_act 651 = .ok (.aload_n 0, 1) := by decide +kernel
theorem dL_act_652 : decode cL_act 652 = .ok (.iload 4, 2) := by decide +kernel
theorem dL_act_654 : decode cL_act 654 = .ok (.iconst 0, 1) := by decide +kernel
theorem dL_act_655 : decode cL_act 655 = .ok (.invokestatic 133, 3) := by decide +kernel
theorem dL_act_658 : decode cL_act 658 = .ok (.ireturn, 1) := by decide +kernel
theorem dL_act_659 : decode cL_act 659 = .ok (.aload_n 0, 1) := by decide +kernel
theorem dL_act_660 : decode cL_act 660 = .ok (.iload_n 1, 1) := by decide +kernel
theorem dL_act_661 : decode cL_act 661 = .ok (.bipush 8, 2) := by decide +kernel
theorem dL_act_663 : decode cL_act 663 = .ok (.ishr, 1) := by decide +kernel
theorem dL_act_664 : decode cL_act 664 = .ok (.bipush 70, 2) := by decide +kernel
theorem dL_act_666 : decode cL_act 666 = .ok (.invokestatic 90, 3) := by decide +kernel
theorem dL_act_669 : decode cL_act 669 = .ok (.iload_n 1, 1) := by decide +kernel
theorem dL_act_670 : decode cL_act 670 = .ok (.bipush 14, 2) := by decide +kernel
theorem dL_act_672 : decode cL_act 672 = .ok (.ishr, 1) := by decide +kernel
theorem dL_act_673 : decode cL_act 673 = .ok (.bipush 16, 2) := by decide +kernel
theorem dL_act_675 : decode cL_act 675 = .ok (.invokestatic 90, 3) := by decide +kernel
theorem dL_act_678 : decode cL_act 678 = .ok (.iload_n 3, 1) := by decide +kernel
theorem dL_act_679 : decode cL_act 679 = .ok (.ifCond .eq 8, 3) := by decide +kernel
theorem dL_act_682 : decode cL_act 682 = .ok (.iload 7, 2) := by decide +kernel
theorem dL_act_684 : decode cL_act 684 = .ok (.goto 15, 3) := by decide +kernel
theorem dL_act_687 : decode cL_act 687 = .ok (.bipush 7, 2) := by decide +kernel
theorem dL_act_689 : decode cL_act 689 = .ok (.iload_n 1, 1) := by decide +kernel
theorem dL_act_690 : decode cL_act 690 = .ok (.bipush 17, 2) := by decide +kernel
theorem dL_act_692 : decode cL_act 692 = .ok (.ishr, 1) := by decide +kernel
theorem dL_act_693 : decode cL_act 693 = .ok (.bipush 11, 2) := by decide +kernel
theorem dL_act_695 : decode cL_act 695 = .ok (.invokestatic 90, 3) := by decide +kernel
theorem dL_act_698 : decode cL_act 698 = .ok (.iadd, 1) := by decide +kernel
theorem dL_act_699 : decode cL_act 699 = .ok (.invokestatic 143, 3) := by decide +kernel
theorem dL_act_702 : decode cL_act 702 = .ok (.ireturn, 1) := by decide +kernel
set_option maxRecDepth 20000 in
theorem ggL_areAlike_X4_pieces : GoodIn wsL_areAlike wsX4_pieces := goodIn_r _ [5, 6, 7, 8, 9, 10, 11, 12, 13, 14, 15, 16, 17, 18, 19, 257, 258, 259, 260, 261, 262, 263, 264, 265, 266, 267] (by decide +kernel) (by decide +kernel)
set_option maxRecDepth 20000 in
theorem gL_areAlike_X4_pieces : GoodIn wsL_areAlike (wsV RL 146 RX4 yX4_pieces wsX4_pieces) := goodIn_app (goodIn_of _ (by decide +kernel)) ggL_areAlike_X4_pieces
set_option maxRecDepth 20000 in
theorem ggL_areAlike_X4_lead : GoodIn wsL_areAlike wsX4_lead := goodIn_r _ [23, 6, 24, 25, 26, 10, 27, 28, 29, 30, 31, 12, 32, 33, 34, 257, 258, 259, 260, 261, 262, 263, 264, 265, 266, 267] (by decide +kernel) (by decide +kernel)
set_option maxRecDepth 20000 in
theorem gL_areAlike_X4_lead : GoodIn wsL_areAlike (wsV RL 149 RX4 yX4_lead wsX4_lead) := goodIn_app (goodIn_of _ (by decide +kernel)) ggL_areAlike_X4_lead
set_option maxRecDepth 20000 in
theorem ggL_areAlike_X4_joints : GoodIn wsL_areAlike wsX4_joints := goodIn_r _ [38, 6, 39, 40, 41, 10, 42, 43, 44, 45, 46, 28, 29, 30, 31, 12, 32, 33, 34, 257, 258, 259, 260, 261, 262, 263, 264, 265, 266, 267] (by decide +kernel) (by decide +kernel)
set_option maxRecDepth 20000 in
theorem gL_areAlike_X4_joints : GoodIn wsL_areAlike (wsV RL 152 RX4 yX4_joints wsX4_joints) := goodIn_app (goodIn_of _ (by decide +kernel)) ggL_areAlike_X4_joints
set_option maxRecDepth 20000 in
theorem ggL_areAlike_X4_weight : GoodIn wsL_areAlike wsX4_weight := goodIn_r _ [50, 51, 6, 24, 25, 26, 10, 27, 28, 29, 30, 31, 12, 32, 33, 34, 257, 258, 259, 260, 261, 262, 263, 264, 265, 266, 267] (by decide +kernel) (by decide +kernel)
set_option maxRecDepth 20000 in
theorem gL_areAlike_X4_weight : GoodIn wsL_areAlike (wsV RL 155 RX4 yX4_weight wsX4_weight) := goodIn_app (goodIn_of _ (by decide +kernel)) ggL_areAlike_X4_weight
set_option maxRecDepth 20000 in
theorem ggL_areAlike_X4_isShut : GoodIn wsL_areAlike wsX4_isShut := goodIn_r _ [55, 56, 57, 58, 4, 59, 60, 61, 6, 62, 63, 64, 65, 66, 67, 68, 69, 70, 71, 72, 73, 74, 75, 76, 77, 78, 79, 80, 81, 82, 83, 84, 85, 86, 87, 10, 88, 12, 257, 258, 259, 260, 261, 262, 263, 264, 265, 268, 269, 270, 271, 272, 273, 274, 275, 276, 277, 278, 266, 267] (by decide +kernel) (by decide +kernel)
set_option maxRecDepth 20000 in
theorem gL_areAlike_X4_isShut : GoodIn wsL_areAlike (wsV RL 158 RX4 yX4_isShut wsX4_isShut) := goodIn_app (goodIn_of _ (by decide +kernel)) ggL_areAlike_X4_isShut
set_option maxRecDepth 20000 in
theorem ggL_areAlike_L_low : GoodIn wsL_areAlike wsL_low := goodIn_r _ [92, 93] (by decide +kernel) (by decide +kernel)
set_option maxRecDepth 20000 in
theorem gL_areAlike_L_low : GoodIn wsL_areAlike (va_wsS RL 90 yL_low wsL_low) := goodIn_app (goodIn_of _ (by decide +kernel)) ggL_areAlike_L_low
set_option maxRecDepth 20000 in
theorem ggL_areAlike_L_pieceOf : GoodIn wsL_areAlike wsL_pieceOf := goodIn_ca (goodIn_r _ [96, 97, 98, 99, 100, 101, 4, 102, 103, 104, 105, 106, 107, 108, 6, 109, 29, 30, 10, 31, 12, 257, 258, 259, 260, 261, 262, 263, 264, 265, 266, 267] (by decide +kernel) (by decide +kernel)) (goodIn_sub (fun _ h => List.mem_cons_of_mem _ (List.mem_append_left _ (List.mem_append_right _ h))) (by decide +kernel))
set_option maxRecDepth 20000 in
theorem gL_areAlike_L_pieceOf : GoodIn wsL_areAlike (va_wsS RL 128 yL_pieceOf wsL_pieceOf) := goodIn_app (goodIn_of _ (by decide +kernel)) ggL_areAlike_L_pieceOf
set_option maxRecDepth 20000 in
theorem ggL_areAlike_L_history : GoodIn wsL_areAlike wsL_history := goodIn_ca (goodIn_r _ [112, 97, 98, 113, 114, 115, 4, 116, 107, 108, 60, 61, 117, 118, 119, 120, 62, 63, 64, 65, 66, 67, 68, 69, 70, 71, 72, 73, 74, 75, 76, 77, 78, 79, 80, 81, 82, 83, 84, 121, 122, 123, 124, 125, 126, 127, 257, 258, 259, 260, 261, 262, 263, 264, 265, 276, 277, 278, 268, 269, 270, 271, 272, 273, 274, 275] (by decide +kernel) (by decide +kernel)) (goodIn_sub (fun _ h => List.mem_cons_of_mem _ (List.mem_append_left _ (List.mem_append_right _ h))) (by decide +kernel))
set_option maxRecDepth 20000 in
theorem gL_areAlike_L_history : GoodIn wsL_areAlike (va_wsS RL 133 yL_history wsL_history) := goodIn_app (goodIn_of _ (by decide +kernel)) ggL_areAlike_L_history
set_option maxRecDepth 20000 in
theorem ggL_areAlike_L_crosses : GoodIn wsL_areAlike wsL_crosses := goodIn_ca (goodIn_r _ [130, 97, 98, 131, 132, 133, 4, 134, 6, 135, 136, 137, 107, 108, 138, 139, 140, 141, 142, 143, 10, 144, 28, 29, 30, 31, 12, 145, 14, 15, 16, 17, 18, 19, 257, 258, 259, 260, 261, 262, 263, 264, 265, 266, 267] (by decide +kernel) (by decide +kernel)) (goodIn_sub (fun _ h => List.mem_cons_of_mem _ (List.mem_append_left _ (List.mem_append_right _ h))) (by decide +kernel))
set_option maxRecDepth 20000 in
theorem gL_areAlike_L_crosses : GoodIn wsL_areAlike (va_wsS RL 137 yL_crosses wsL_crosses) := goodIn_app (goodIn_of _ (by decide +kernel)) ggL_areAlike_L_crosses
set_option maxRecDepth 20000 in
theorem ggL_areAlike_L_bends : GoodIn wsL_areAlike wsL_bends := goodIn_ca (goodIn_ca (goodIn_r _ [148, 97, 149, 98, 150, 151, 152, 4, 153, 107, 108, 154, 155, 156, 157, 158, 159, 160, 161, 162, 163, 164, 165, 166, 167, 168, 169, 170, 171, 257, 258, 259, 260, 261, 262, 263, 264, 265] (by decide +kernel) (by decide +kernel)) (goodIn_sub (fun _ h => List.mem_cons_of_mem _ (List.mem_append_left _ (List.mem_append_right _ h))) (by decide +kernel))) (goodIn_sub (fun _ h => List.mem_cons_of_mem _ (List.mem_append_right _ h)) (by decide +kernel))
set_option maxRecDepth 20000 in
theorem gL_areAlike_L_bends : GoodIn wsL_areAlike (va_wsS RL 139 yL_bends wsL_bends) := goodIn_app (goodIn_of _ (by decide +kernel)) ggL_areAlike_L_bends
set_option maxRecDepth 20000 in
theorem ggL_areAlike_L_waste : GoodIn wsL_areAlike wsL_waste := goodIn_ca (goodIn_r _ [174, 149, 98, 175, 176, 177, 4, 178, 179, 180, 60, 181, 182, 183, 154, 155, 184, 185, 186, 187, 61, 6, 188, 189, 190, 191, 192, 193, 194, 195, 196, 197, 198, 199, 62, 63, 64, 65, 66, 67, 68, 69, 70, 71, 72, 73, 74, 75, 76, 77, 78, 79, 80, 81, 82, 83, 84, 85, 86, 87, 10, 88, 12, 200, 201, 202, 203, 204, 205, 206, 207, 208, 209, 210, 211, 29, 30, 31, 212, 213, 214, 215, 216, 217, 218, 219, 220, 158, 159, 160, 161, 162, 163, 221, 222, 223, 224, 225, 226, 227, 228, 229, 230, 231, 232, 233, 234, 235, 236, 237, 238, 239, 240, 241, 242, 243, 244, 245, 246, 247, 248, 249, 250, 251, 252, 253, 254, 255, 256, 257, 258, 259, 260, 261, 262, 263, 264, 265, 279, 280, 281, 282, 283, 284, 285, 286, 287, 268, 269, 270, 271, 272, 273, 274, 275, 276, 277, 278, 266, 267, 288, 289] (by decide +kernel) (by decide +kernel)) (goodIn_sub (fun _ h => List.mem_cons_of_mem _ (List.mem_append_right _ h)) (by decide +kernel))
set_option maxRecDepth 20000 in
theorem gL_areAlike_L_waste : GoodIn wsL_areAlike (va_wsS RL 162 yL_waste wsL_waste) := goodIn_app (goodIn_of _ (by decide +kernel)) ggL_areAlike_L_waste
theorem dL_areAlike_0 : decode cL_areAlike 0 = .ok (.aload_n 0, 1) := by decide +kernel
theorem dL_areAlike_1 : decode cL_areAlike 1 = .ok (.invokevirtual 146, 3) := by decide +kernel
theorem dL_areAlike_4 : decode cL_areAlike 4 = .ok (.aload_n 1, 1) := by decide +kernel
theorem dL_areAlike_5 : decode cL_areAlike 5 = .ok (.invokevirtual 146, 3) := by decide +kernel
theorem dL_areAlike_8 : decode cL_areAlike 8 = .ok (.if_icmp .ne 51, 3) := by decide +kernel
theorem dL_areAlike_11 : decode cL_areAlike 11 = .ok (.aload_n 0, 1) := by decide +kernel
theorem dL_areAlike_12 : decode cL_areAlike 12 = .ok (.invokevirtual 149, 3) := by decide +kernel
theorem dL_areAlike_15 : decode cL_areAlike 15 = .ok (.aload_n 1, 1) := by decide +kernel
theorem dL_areAlike_16 : decode cL_areAlike 16 = .ok (.invokevirtual 149, 3) := by decide +kernel
theorem dL_areAlike_19 : decode cL_areAlike 19 = .ok (.if_icmp .ne 40, 3) := by decide +kernel
theorem dL_areAlike_22 : decode cL_areAlike 22 = .ok (.aload_n 0, 1) := by decide +kernel
theorem dL_areAlike_23 : decode cL_areAlike 23 = .ok (.invokevirtual 152, 3) := by decide +kernel
theorem dL_areAlike_26 : decode cL_areAlike 26 = .ok (.aload_n 1, 1) := by decide +kernel
theorem dL_areAlike_27 : decode cL_areAlike 27 = .ok (.invokevirtual 152, 3) := by decide +kernel
theorem dL_areAlike_30 : decode cL_areAlike 30 = .ok (.if_icmp .ne 29, 3) := by decide +kernel
theorem dL_areAlike_33 : decode cL_areAlike 33 = .ok (.aload_n 0, 1) := by decide +kernel
theorem dL_areAlike_34 : decode cL_areAlike 34 = .ok (.invokevirtual 155, 3) := by decide +kernel
theorem dL_areAlike_37 : decode cL_areAlike 37 = .ok (.aload_n 1, 1) := by decide +kernel
theorem dL_areAlike_38 : decode cL_areAlike 38 = .ok (.invokevirtual 155, 3) := by decide +kernel
theorem dL_areAlike_41 : decode cL_areAlike 41 = .ok (.if_icmp .ne 18, 3) := by decide +kernel
theorem dL_areAlike_44 : decode cL_areAlike 44 = .ok (.aload_n 0, 1) := by decide +kernel
theorem dL_areAlike_45 : decode cL_areAlike 45 = .ok (.invokevirtual 158, 3) := by decide +kernel
theorem dL_areAlike_48 : decode cL_areAlike 48 = .ok (.aload_n 1, 1) := by decide +kernel
theorem dL_areAlike_49 : decode cL_areAlike 49 = .ok (.invokevirtual 158, 3) := by decide +kernel
theorem dL_areAlike_52 : decode cL_areAlike 52 = .ok (.if_icmp .ne 7, 3) := by decide +kernel
theorem dL_areAlike_55 : decode cL_areAlike 55 = .ok (.iconst 1, 1) := by decide +kernel
theorem dL_areAlike_56 : decode cL_areAlike 56 = .ok (.goto 4, 3) := by decide +kernel
theorem dL_areAlike_59 : decode cL_areAlike 59 = .ok (.iconst 0, 1) := by decide +kernel
theorem dL_areAlike_60 : decode cL_areAlike 60 = .ok (.istore_n 3, 1) := by decide +kernel
theorem dL_areAlike_61 : decode cL_areAlike 61 = .ok (.iconst 0, 1) := by decide +kernel
theorem dL_areAlike_62 : decode cL_areAlike 62 = .ok (.istore 4, 2) := by decide +kernel
theorem dL_areAlike_64 : decode cL_areAlike 64 = .ok (.iload 4, 2) := by decide +kernel
theorem dL_areAlike_66 : decode cL_areAlike 66 = .ok (.iconst 5, 1) := by decide +kernel
theorem dL_areAlike_67 : decode cL_areAlike 67 = .ok (.if_icmp .ge 119, 3) := by decide +kernel
theorem dL_areAlike_70 : decode cL_areAlike 70 = .ok (.iload_n 3, 1) := by decide +kernel
theorem dL_areAlike_71 : decode cL_areAlike 71 = .ok (.ifCond .eq 115, 3) := by decide +kernel
theorem dL_areAlike_74 : decode cL_areAlike 74 = .ok (.aload_n 0, 1) := by decide +kernel
theorem dL_areAlike_75 : decode cL_areAlike 75 = .ok (.iload_n 2, 1) := by decide +kernel
theorem dL_areAlike_76 : decode cL_areAlike 76 = .ok (.bipush 53, 2) := by decide +kernel
theorem dL_areAlike_78 : decode cL_areAlike 78 = .ok (.iload 4, 2) := by decide +kernel
theorem dL_areAlike_80 : decode cL_areAlike 80 = .ok (.imul, 1) := by decide +kernel
theorem dL_areAlike_81 : decode cL_areAlike 81 = .ok (.iadd, 1) := by decide +kernel
theorem dL_areAlike_82 : decode cL_areAlike 82 = .ok (.sipush 256, 3) := by decide +kernel
theorem dL_areAlike_85 : decode cL_areAlike 85 = .ok (.invokestatic 90, 3) := by decide +kernel
theorem dL_areAlike_88 : decode cL_areAlike 88 = .ok (.invokestatic 128, 3) := by decide +kernel
theorem dL_areAlike_91 : decode cL_areAlike 91 = .ok (.aload_n 1, 1) := by decide +kernel
theorem dL_areAlike_92 : decode cL_areAlike 92 = .ok (.iload_n 2, 1) := by decide +kernel
theorem dL_areAlike_93 : decode cL_areAlike 93 = .ok (.bipush 53, 2) := by decide +kernel
theorem dL_areAlike_95 : decode cL_areAlike 95 = .ok (.iload 4, 2) := by decide +kernel
theorem dL_areAlike_97 : decode cL_areAlike 97 = .ok (.imul, 1) := by decide +kernel
theorem dL_areAlike_98 : decode cL_areAlike 98 = .ok (.iadd, 1) := by decide +kernel
theorem dL_areAlike_99 : decode cL_areAlike 99 = .ok (.sipush 256, 3) := by decide +kernel
theorem dL_areAlike_102 : decode cL_areAlike 102 = .ok (.invokestatic 90, 3) := by decide +kernel
theorem dL_areAlike_105 : decode cL_areAlike 105 = .ok (.invokestatic 128, 3) := by decide +kernel
theorem dL_areAlike_108 : decode cL_areAlike 108 = .ok (.if_icmp .ne 70, 3) := by decide +kernel
theorem dL_areAlike_111 : decode cL_areAlike 111 = .ok (.aload_n 0, 1) := by decide +kernel
theorem dL_areAlike_112 : decode cL_areAlike 112 = .ok (.iload 4, 2) := by decide +kernel
theorem dL_areAlike_114 : decode cL_areAlike 114 = .ok (.iload_n 2, 1) := by decide +kernel
theorem dL_areAlike_115 : decode cL_areAlike 115 = .ok (.iconst 3, 1) := by decide +kernel
theorem dL_areAlike_116 : decode cL_areAlike 116 = .ok (.ishr, 1) := by decide +kernel
theorem dL_areAlike_117 : decode cL_areAlike 117 = .ok (.iconst 5, 1) := by decide +kernel
theorem dL_areAlike_118 : decode cL_areAlike 118 = .ok (.invokestatic 90, 3) := by decide +kernel
theorem dL_areAlike_121 : decode cL_areAlike 121 = .ok (.invokestatic 133, 3) := by decide +kernel
theorem dL_areAlike_124 : decode cL_areAlike 124 = .ok (.aload_n 1, 1) := by decide +kernel
theorem dL_areAlike_125 : decode cL_areAlike 125 = .ok (.iload 4, 2) := by decide +kernel
theorem dL_areAlike_127 : decode cL_areAlike 127 = .ok (.iload_n 2, 1) := by decide +kernel
theorem dL_areAlike_128 : decode cL_areAlike 128 = .ok (.iconst 3, 1) := by decide +kernel
theorem dL_areAlike_129 : decode cL_areAlike 129 = .ok (.ishr, 1) := by decide +kernel
theorem dL_areAlike_130 : decode cL_areAlike 130 = .ok (.iconst 5, 1) := by decide +kernel
theorem dL_areAlike_131 : decode cL_areAlike 131 = .ok (.invokestatic 90, 3) := by decide +kernel
theorem dL_areAlike_134 : decode cL_areAlike 134 = .ok (.invokestatic 133, 3) := by decide +kernel
theorem dL_areAlike_137 : decode cL_areAlike 137 = .ok (.if_icmp .ne 41, 3) := by decide +kernel
theorem dL_areAlike_140 : decode cL_areAlike 140 = .ok (.aload_n 0, 1) := by decide +kernel
theorem dL_areAlike_141 : decode cL_areAlike 141 = .ok (.iload 4, 2) := by decide +kernel
theorem dL_areAlike_143 : decode cL_areAlike 143 = .ok (.invokestatic 137, 3) := by decide +kernel
theorem dL_areAlike_146 : decode cL_areAlike 146 = .ok (.aload_n 1, 1) := by decide +kernel
theorem dL_areAlike_147 : decode cL_areAlike 147 = .ok (.iload 4, 2) := by decide +kernel
theorem dL_areAlike_149 : decode cL_areAlike 149 = .ok (.invokestatic 137, 3) := by decide +kernel
theorem dL_areAlike_152 : decode cL_areAlike 152 = .ok (.if_icmp .ne 26, 3) := by decide +kernel
theorem dL_areAlike_155 : decode cL_areAlike 155 = .ok (.aload_n 0, 1) := by decide +kernel
theorem dL_areAlike_156 : decode cL_areAlike 156 = .ok (.iload 4, 2) := by decide +kernel
theorem dL_areAlike_158 : decode cL_areAlike 158 = .ok (.bipush 9, 2) := by decide +kernel
theorem dL_areAlike_160 : decode cL_areAlike 160 = .ok (.invokestatic 139, 3) := by decide +kernel
theorem dL_areAlike_163 : decode cL_areAlike 163 = .ok (.aload_n 1, 1) := by decide +kernel
theorem dL_areAlike_164 : decode cL_areAlike 164 = .ok (.iload 4, 2) := by decide +kernel
theorem dL_areAlike_166 : decode cL_areAlike 166 = .ok (.bipush 9, 2) := by decide +kernel
theorem dL_areAlike_168 : decode cL_areAlike 168 = .ok (.invokestatic 139, 3) := by decide +kernel
theorem dL_areAlike_171 : decode cL_areAlike 171 = .ok (.if_icmp .ne 7, 3) := by decide +kernel
theorem dL_areAlike_174 : decode cL_areAlike 174 = .ok (.iconst 1, 1) := by decide +kernel
theorem dL_areAlike_175 : decode cL_areAlike 175 = .ok (.goto 4, 3) := by decide +kernel
theorem dL_areAlike_178 : decode cL_areAlike 178 = .ok (.iconst 0, 1) := by decide +kernel
theorem dL_areAlike_179 : decode cL_areAlike 179 = .ok (.istore_n 3, 1) := by decide +kernel
theorem dL_areAlike_180 : decode cL_areAlike 180 = .ok (.iinc 4 1, 3) := by decide +kernel
theorem dL_areAlike_183 : decode cL_areAlike 183 = .ok (.goto (-119), 3) := by decide +kernel
theorem dL_areAlike_186 : decode cL_areAlike 186 = .ok (.iload_n 3, 1) := by decide +kernel
theorem dL_areAlike_187 : decode cL_areAlike 187 = .ok (.ifCond .eq 32, 3) := by decide +kernel
theorem dL_areAlike_190 : decode cL_areAlike 190 = .ok (.aload_n 0, 1) := by decide +kernel
theorem dL_areAlike_191 : decode cL_areAlike 191 = .ok (.iload_n 2, 1) := by decide +kernel
theorem dL_areAlike_192 : decode cL_areAlike 192 = .ok (.iconst 5, 1) := by decide +kernel
theorem dL_areAlike_193 : decode cL_areAlike 193 = .ok (.ishr, 1) := by decide +kernel
theorem dL_areAlike_194 : decode cL_areAlike 194 = .ok (.iconst 3, 1) := by decide +kernel
theorem dL_areAlike_195 : decode cL_areAlike 195 = .ok (.invokestatic 90, 3) := by decide +kernel
theorem dL_areAlike_198 : decode cL_areAlike 198 = .ok (.invokestatic 162, 3) := by decide +kernel
theorem dL_areAlike_201 : decode cL_areAlike 201 = .ok (.aload_n 1, 1) := by decide +kernel
theorem dL_areAlike_202 : decode cL_areAlike 202 = .ok (.iload_n 2, 1) := by decide +kernel
theorem dL_areAlike_203 : decode cL_areAlike 203 = .ok (.iconst 5, 1) := by decide +kernel
theorem dL_areAlike_204 : decode cL_areAlike 204 = .ok (.ishr, 1) := by decide +kernel
theorem dL_areAlike_205 : decode cL_areAlike 205 = .ok (.iconst 3, 1) := by decide +kernel
theorem dL_areAlike_206 : decode cL_areAlike 206 = .ok (.invokestatic 90, 3) := by decide +kernel
theorem dL_areAlike_209 : decode cL_areAlike 209 = .ok (.invokestatic 162, 3) := by decide +kernel
theorem dL_areAlike_212 : decode cL_areAlike 212 = .ok (.if_icmp .ne 7, 3) := by decide +kernel
theorem dL_areAlike_215 : decode cL_areAlike 215 = .ok (.iconst 1, 1) := by decide +kernel
theorem dL_areAlike_216 : decode cL_areAlike 216 = .ok (.goto 4, 3) := by decide +kernel
theorem dL_areAlike_219 : decode cL_areAlike 219 = .ok (.iconst 0, 1) := by decide +kernel
theorem dL_areAlike_220 : decode cL_areAlike 220 = .ok (.ireturn, 1) := by decide +kernel
set_option maxRecDepth 20000 in
theorem ggL_isSo_L_piece : GoodIn wsL_isSo wsL_piece := goodIn_ca (goodIn_ca (goodIn_r _ [5, 6, 7, 1, 8, 9, 10, 11, 12, 13, 14, 15, 16, 17, 18, 19, 20, 21, 22, 23, 24, 25, 26, 27, 28, 29, 30, 31, 32, 33, 34, 35, 36, 37, 38, 39, 40, 41, 42, 43, 44, 45, 46, 47, 48, 49, 50, 51, 52, 53, 54, 55, 56, 57, 58, 59, 60, 61, 62, 63, 64, 65, 66, 67, 68, 69, 70, 71, 72, 73, 74, 75, 76, 77, 78, 79, 80, 81, 82, 83, 84, 85, 86, 87, 88, 89, 90, 91, 92, 93, 94, 95, 96, 97, 98, 99, 100, 101, 102, 103, 104, 105, 106, 107, 108, 109, 110, 111, 112, 113, 114, 115, 235, 236, 237, 238, 239, 240, 241, 242, 243, 244, 245, 246, 247, 248, 249, 250, 251, 252, 253, 254, 255, 256, 257, 258] (by decide +kernel) (by decide +kernel)) (goodIn_sub (fun _ h => List.mem_cons_of_mem _ (List.mem_append_left _ (List.mem_append_right _ h))) (by decide +kernel))) (goodIn_sub (fun _ h => List.mem_cons_of_mem _ (List.mem_append_right _ h)) (by decide +kernel))
set_option maxRecDepth 20000 in
theorem gL_isSo_L_piece : GoodIn wsL_isSo (va_wsS RL 141 yL_piece wsL_piece) := goodIn_app (goodIn_of _ (by decide +kernel)) ggL_isSo_L_piece
set_option maxRecDepth 20000 in
theorem ggL_isSo_L_history : GoodIn wsL_isSo wsL_history := goodIn_ca (goodIn_r _ [118, 6, 1, 119, 120, 121, 11, 122, 19, 20, 22, 23, 24, 25, 26, 27, 28, 29, 30, 31, 32, 33, 40, 41, 42, 43, 44, 45, 46, 47, 48, 49, 50, 51, 52, 53, 54, 55, 56, 123, 124, 125, 112, 126, 127, 128, 243, 244, 245, 246, 247, 248, 249, 250, 251, 252, 253, 254, 235, 236, 237, 238, 239, 240, 241, 242] (by decide +kernel) (by decide +kernel)) (goodIn_sub (fun _ h => List.mem_cons_of_mem _ (List.mem_append_right _ h)) (by decide +kernel))
set_option maxRecDepth 20000 in
theorem gL_isSo_L_history : GoodIn wsL_isSo (va_wsS RL 133 yL_history wsL_history) := goodIn_app (goodIn_of _ (by decide +kernel)) ggL_isSo_L_history
set_option maxRecDepth 20000 in
theorem ggL_isSo_L_low : GoodIn wsL_isSo wsL_low := goodIn_r _ [131, 132] (by decide +kernel) (by decide +kernel)
set_option maxRecDepth 20000 in
theorem gL_isSo_L_low : GoodIn wsL_isSo (va_wsS RL 90 yL_low wsL_low) := goodIn_app (goodIn_of _ (by decide +kernel)) ggL_isSo_L_low
set_option maxRecDepth 20000 in
theorem ggL_isSo_L_floor : GoodIn wsL_isSo wsL_floor := goodIn_ca (goodIn_r _ [135, 7, 1, 136, 137, 138, 11, 139, 140, 141, 142, 13, 14, 143, 144, 145, 146, 147, 148, 149, 150, 151, 152, 153, 154, 155, 156, 157, 158, 159, 160, 161, 162, 163, 21, 22, 23, 164, 69, 70, 37, 71, 39, 24, 25, 26, 27, 28, 29, 30, 31, 32, 33, 40, 41, 42, 43, 44, 45, 46, 47, 48, 49, 50, 51, 52, 53, 54, 55, 56, 243, 244, 245, 246, 247, 248, 249, 250, 251, 235, 236, 237, 238, 239, 240, 241, 242, 255, 256, 252, 253, 254] (by decide +kernel) (by decide +kernel)) (goodIn_sub (fun _ h => List.mem_cons_of_mem _ (List.mem_append_left _ (List.mem_append_right _ h))) (by decide +kernel))
set_option maxRecDepth 20000 in
theorem gL_isSo_L_floor : GoodIn wsL_isSo (va_wsS RL 143 yL_floor wsL_floor) := goodIn_app (goodIn_of _ (by decide +kernel)) ggL_isSo_L_floor
set_option maxRecDepth 20000 in
theorem ggL_isSo_L_anew : GoodIn wsL_isSo wsL_anew := goodIn_ca (goodIn_r _ [167, 7, 1, 168, 169, 170, 11, 171, 172, 173, 174, 151, 175, 176, 177, 178, 140, 141, 142, 13, 14, 153, 154, 155, 156, 157, 158, 159, 146, 147, 148, 149, 150, 152, 160, 161, 162, 163, 21, 22, 23, 164, 69, 70, 37, 71, 39, 24, 25, 26, 27, 28, 29, 30, 31, 32, 33, 40, 41, 42, 43, 44, 45, 46, 47, 48, 49, 50, 51, 52, 53, 54, 55, 56, 243, 244, 245, 246, 247, 248, 249, 250, 251, 235, 236, 237, 238, 239, 240, 241, 242, 255, 256, 252, 253, 254] (by decide +kernel) (by decide +kernel)) (goodIn_sub (fun _ h => List.mem_cons_of_mem _ (List.mem_append_left _ (List.mem_append_right _ h))) (by decide +kernel))
set_option maxRecDepth 20000 in
theorem gL_isSo_L_anew : GoodIn wsL_isSo (va_wsS RL 164 yL_anew wsL_anew) := goodIn_app (goodIn_of _ (by decide +kernel)) ggL_isSo_L_anew
set_option maxRecDepth 20000 in
theorem ggL_isSo_X4_assembled : GoodIn wsL_isSo wsX4_assembled := goodIn_r _ [182, 21, 183, 184, 185, 37, 186, 187, 188, 189, 190, 191, 192, 193, 194, 195, 196, 197, 69, 70, 71, 39, 198, 199, 200, 201, 202, 11, 203, 204, 205, 206, 207, 208, 209, 210, 211, 243, 244, 245, 246, 247, 248, 249, 250, 251, 255, 256] (by decide +kernel) (by decide +kernel)
set_option maxRecDepth 20000 in
theorem gL_isSo_X4_assembled : GoodIn wsL_isSo (wsV RL 130 RX4 yX4_assembled wsX4_assembled) := goodIn_app (goodIn_of _ (by decide +kernel)) ggL_isSo_X4_assembled
set_option maxRecDepth 20000 in
theorem ggL_isSo_X4_pieces : GoodIn wsL_isSo wsX4_pieces := goodIn_r _ [215, 21, 216, 205, 206, 37, 207, 39, 217, 218, 219, 220, 221, 222, 223, 243, 244, 245, 246, 247, 248, 249, 250, 251, 255, 256] (by decide +kernel) (by decide +kernel)
set_option maxRecDepth 20000 in
theorem gL_isSo_X4_pieces : GoodIn wsL_isSo (wsV RL 146 RX4 yX4_pieces wsX4_pieces) := goodIn_app (goodIn_of _ (by decide +kernel)) ggL_isSo_X4_pieces
set_option maxRecDepth 20000 in
theorem ggL_isSo_X4_lead : GoodIn wsL_isSo wsX4_lead := goodIn_r _ [227, 21, 228, 229, 230, 37, 231, 197, 69, 70, 71, 39, 232, 233, 234, 243, 244, 245, 246, 247, 248, 249, 250, 251, 255, 256] (by decide +kernel) (by decide +kernel)
set_option maxRecDepth 20000 in
theorem gL_isSo_X4_lead : GoodIn wsL_isSo (wsV RL 149 RX4 yX4_lead wsX4_lead) := goodIn_app (goodIn_of _ (by decide +kernel)) ggL_isSo_X4_lead
theorem dL_isSo_0 : decode cL_isSo 0 = .ok (.iconst 0, 1) := by decide +kernel
theorem dL_isSo_1 : decode cL_isSo 1 = .ok (.istore_n 2, 1) := by decide +kernel
theorem dL_isSo_2 : decode cL_isSo 2 = .ok (.iconst 0, 1) := by decide +kernel
theorem dL_isSo_3 : decode cL_isSo 3 = .ok (.istore_n 3, 1) := by decide +kernel
theorem dL_isSo_4 : decode cL_isSo 4 = .ok (.iconst 1, 1) := by decide +kernel
theorem dL_isSo_5 : decode cL_isSo 5 = .ok (.istore 4, 2) := by decide +kernel
theorem dL_isSo_7 : decode cL_isSo 7 = .ok (.iconst 0, 1) := by decide +kernel
theorem dL_isSo_8 : decode cL_isSo 8 = .ok (.istore 5, 2) := by decide +kernel
theorem dL_isSo_10 : decode cL_isSo 10 = .ok (.iload 5, 2) := by decide +kernel
theorem dL_isSo_12 : decode cL_isSo 12 = .ok (.bipush 60, 2) := by decide +kernel
theorem dL_isSo_14 : decode cL_isSo 14 = .ok (.if_icmp .ge 80, 3) := by decide +kernel
theorem dL_isSo_17 : decode cL_isSo 17 = .ok (.iload 4, 2) := by decide +kernel
theorem dL_isSo_19 : decode cL_isSo 19 = .ok (.ifCond .eq 75, 3) := by decide +kernel
theorem dL_isSo_22 : decode cL_isSo 22 = .ok (.aload_n 0, 1) := by decide +kernel
theorem dL_isSo_23 : decode cL_isSo 23 = .ok (.iload 5, 2) := by decide +kernel
theorem dL_isSo_25 : decode cL_isSo 25 = .ok (.iconst 0, 1) := by decide +kernel
theorem dL_isSo_26 : decode cL_isSo 26 = .ok (.invokestatic 141, 3) := by decide +kernel
theorem dL_isSo_29 : decode cL_isSo 29 = .ok (.istore 6, 2) := by decide +kernel
theorem dL_isSo_31 : decode cL_isSo 31 = .ok (.iload_n 2, 1) := by decide +kernel
theorem dL_isSo_32 : decode cL_isSo 32 = .ok (.iload 6, 2) := by decide +kernel
theorem dL_isSo_34 : decode cL_isSo 34 = .ok (.ifCond .ge 7, 3) := by decide +kernel
theorem dL_isSo_37 : decode cL_isSo 37 = .ok (.iconst 0, 1) := by decide +kernel
theorem dL_isSo_38 : decode cL_isSo 38 = .ok (.goto 5, 3) := by decide +kernel
theorem dL_isSo_41 : decode cL_isSo 41 = .ok (.iload 6, 2) := by decide +kernel
theorem dL_isSo_43 : decode cL_isSo 43 = .ok (.iadd, 1) := by decide +kernel
theorem dL_isSo_44 : decode cL_isSo 44 = .ok (.istore_n 2, 1) := by decide +kernel
theorem dL_isSo_45 : decode cL_isSo 45 = .ok (.iload_n 3, 1) := by decide +kernel
theorem dL_isSo_46 : decode cL_isSo 46 = .ok (.iload 6, 2) := by decide +kernel
theorem dL_isSo_48 : decode cL_isSo 48 = .ok (.ifCond .ge 7, 3) := by decide +kernel
theorem dL_isSo_51 : decode cL_isSo 51 = .ok (.iconst 0, 1) := by decide +kernel
theorem dL_isSo_52 : decode cL_isSo 52 = .ok (.goto 4, 3) := by decide +kernel
theorem dL_isSo_55 : decode cL_isSo 55 = .ok (.iconst 1, 1) := by decide +kernel
theorem dL_isSo_56 : decode cL_isSo 56 = .ok (.iadd, 1) := by decide +kernel
theorem dL_isSo_57 : decode cL_isSo 57 = .ok (.istore_n 3, 1) := by decide +kernel
theorem dL_isSo_58 : decode cL_isSo 58 = .ok (.iload 6, 2) := by decide +kernel
theorem dL_isSo_60 : decode cL_isSo 60 = .ok (.ldc 16, 2) := by decide +kernel
theorem dL_isSo_62 : decode cL_isSo 62 = .ok (.if_icmp .eq 19, 3) := by decide +kernel
theorem dL_isSo_65 : decode cL_isSo 65 = .ok (.iload 6, 2) := by decide +kernel
theorem dL_isSo_67 : decode cL_isSo 67 = .ok (.ifCond .le 18, 3) := by decide +kernel
theorem dL_isSo_70 : decode cL_isSo 70 = .ok (.aload_n 0, 1) := by decide +kernel
theorem dL_isSo_71 : decode cL_isSo 71 = .ok (.iload 5, 2) := by decide +kernel
theorem dL_isSo_73 : decode cL_isSo 73 = .ok (.iconst 0, 1) := by decide +kernel
theorem dL_isSo_74 : decode cL_isSo 74 = .ok (.invokestatic 133, 3) := by decide +kernel
theorem dL_isSo_77 : decode cL_isSo 77 = .ok (.iconst 1, 1) := by decide +kernel
theorem dL_isSo_78 : decode cL_isSo 78 = .ok (.if_icmp .ne 7, 3) := by decide +kernel
theorem dL_isSo_81 : decode cL_isSo 81 = .ok (.iconst 1, 1) := by decide +kernel
theorem dL_isSo_82 : decode cL_isSo 82 = .ok (.goto 4, 3) := by decide +kernel
theorem dL_isSo_85 : decode cL_isSo 85 = .ok (.iconst 0, 1) := by decide +kernel
theorem dL_isSo_86 : decode cL_isSo 86 = .ok (.istore 4, 2) := by decide +kernel
theorem dL_isSo_88 : decode cL_isSo 88 = .ok (.iinc 5 1, 3) := by decide +kernel
theorem dL_isSo_91 : decode cL_isSo 91 = .ok (.goto (-81), 3) := by decide +kernel
theorem dL_isSo_94 : decode cL_isSo 94 = .ok (.iconst 0, 1) := by decide +kernel
theorem dL_isSo_95 : decode cL_isSo 95 = .ok (.istore 5, 2) := by decide +kernel
theorem dL_isSo_97 : decode cL_isSo 97 = .ok (.iload 5, 2) := by decide +kernel
theorem dL_isSo_99 : decode cL_isSo 99 = .ok (.bipush 12, 2) := by decide +kernel
theorem dL_isSo_101 : decode cL_isSo 101 = .ok (.if_icmp .ge 62, 3) := by decide +kernel
theorem dL_isSo_104 : decode cL_isSo 104 = .ok (.iload 4, 2) := by decide +kernel
theorem dL_isSo_106 : decode cL_isSo 106 = .ok (.ifCond .eq 57, 3) := by decide +kernel
theorem dL_isSo_109 : decode cL_isSo 109 = .ok (.bipush 7, 2) := by decide +kernel
theorem dL_isSo_111 : decode cL_isSo 111 = .ok (.iload_n 1, 1) := by decide +kernel
theorem dL_isSo_112 : decode cL_isSo 112 = .ok (.iload 5, 2) := by decide +kernel
theorem dL_isSo_114 : decode cL_isSo 114 = .ok (.iadd, 1) := by decide +kernel
theorem dL_isSo_115 : decode cL_isSo 115 = .ok (.bipush 11, 2) := by decide +kernel
theorem dL_isSo_117 : decode cL_isSo 117 = .ok (.invokestatic 90, 3) := by decide +kernel
theorem dL_isSo_120 : decode cL_isSo 120 = .ok (.iadd, 1) := by decide +kernel
theorem dL_isSo_121 : decode cL_isSo 121 = .ok (.istore 6, 2) := by decide +kernel
theorem dL_isSo_123 : decode cL_isSo 123 = .ok (.aload_n 0, 1) := by decide +kernel
theorem dL_isSo_124 : decode cL_isSo 124 = .ok (.iconst 4, 1) := by decide +kernel
theorem dL_isSo_125 : decode cL_isSo 125 = .ok (.iload 5, 2) := by decide +kernel
theorem dL_isSo_127 : decode cL_isSo 127 = .ok (.imul, 1) := by decide +kernel
theorem dL_isSo_128 : decode cL_isSo 128 = .ok (.iload 5, 2) := by decide +kernel
theorem dL_isSo_130 : decode cL_isSo 130 = .ok (.iload 6, 2) := by decide +kernel
theorem dL_isSo_132 : decode cL_isSo 132 = .ok (.invokestatic 143, 3) := by decide +kernel
theorem dL_isSo_135 : decode cL_isSo 135 = .ok (.aload_n 0, 1) := by decide +kernel
theorem dL_isSo_136 : decode cL_isSo 136 = .ok (.iconst 4, 1) := by decide +kernel
theorem dL_isSo_137 : decode cL_isSo 137 = .ok (.iload 5, 2) := by decide +kernel
theorem dL_isSo_139 : decode cL_isSo 139 = .ok (.imul, 1) := by decide +kernel
theorem dL_isSo_140 : decode cL_isSo 140 = .ok (.iload 5, 2) := by decide +kernel
theorem dL_isSo_142 : decode cL_isSo 142 = .ok (.iload 6, 2) := by decide +kernel
theorem dL_isSo_144 : decode cL_isSo 144 = .ok (.invokestatic 164, 3) := by decide +kernel
theorem dL_isSo_147 : decode cL_isSo 147 = .ok (.if_icmp .ne 7, 3) := by decide +kernel
theorem dL_isSo_150 : decode cL_isSo 150 = .ok (.iconst 1, 1) := by decide +kernel
theorem dL_isSo_151 : decode cL_isSo 151 = .ok (.goto 4, 3) := by decide +kernel
theorem dL_isSo_154 : decode cL_isSo 154 = .ok (.iconst 0, 1) := by decide +kernel
theorem dL_isSo_155 : decode cL_isSo 155 = .ok (.istore 4, 2) := by decide +kernel
theorem dL_isSo_157 : decode cL_isSo 157 = .ok (.iinc 5 1, 3) := by decide +kernel
theorem dL_isSo_160 : decode cL_isSo 160 = .ok (.goto (-63), 3) := by decide +kernel
theorem dL_isSo_163 : decode cL_isSo 163 = .ok (.aload_n 0, 1) := by decide +kernel
theorem dL_isSo_164 : decode cL_isSo 164 = .ok (.iconst 0, 1) := by decide +kernel
theorem dL_isSo_165 : decode cL_isSo 165 = .ok (.invokevirtual 130, 3) := by decide +kernel
theorem dL_isSo_168 : decode cL_isSo 168 = .ok (.istore 5, 2) := by decide +kernel
theorem dL_isSo_170 : decode cL_isSo 170 = .ok (.iload 4, 2) := by decide +kernel
theorem dL_isSo_172 : decode cL_isSo 172 = .ok (.ifCond .eq 110, 3) := by decide +kernel
theorem dL_isSo_175 : decode cL_isSo 175 = .ok (.iload_n 2, 1) := by decide +kernel
theorem dL_isSo_176 : decode cL_isSo 176 = .ok (.sipush 256, 3) := by decide +kernel
theorem dL_isSo_179 : decode cL_isSo 179 = .ok (.if_icmp .ne 103, 3) := by decide +kernel
theorem dL_isSo_182 : decode cL_isSo 182 = .ok (.iload_n 3, 1) := by decide +kernel
theorem dL_isSo_183 : decode cL_isSo 183 = .ok (.aload_n 0, 1) := by decide +kernel
theorem dL_isSo_184 : decode cL_isSo 184 = .ok (.invokevirtual 146, 3) := by decide +kernel
theorem dL_isSo_187 : decode cL_isSo 187 = .ok (.if_icmp .ne 95, 3) := by decide +kernel
theorem dL_isSo_190 : decode cL_isSo 190 = .ok (.aload_n 0, 1) := by decide +kernel
theorem dL_isSo_191 : decode cL_isSo 191 = .ok (.invokevirtual 149, 3) := by decide +kernel
theorem dL_isSo_194 : decode cL_isSo 194 = .ok (.bipush 64, 2) := by decide +kernel
theorem dL_isSo_196 : decode cL_isSo 196 = .ok (.if_icmp .lt 86, 3) := by decide +kernel
theorem dL_isSo_199 : decode cL_isSo 199 = .ok (.aload_n 0, 1) := by decide +kernel
theorem dL_isSo_200 : decode cL_isSo 200 = .ok (.invokevirtual 149, 3) := by decide +kernel
theorem dL_isSo_203 : decode cL_isSo 203 = .ok (.bipush 64, 2) := by decide +kernel
theorem dL_isSo_205 : decode cL_isSo 205 = .ok (.if_icmp .ne 7, 3) := by decide +kernel
theorem dL_isSo_208 : decode cL_isSo 208 = .ok (.iconst 1, 1) := by decide +kernel
theorem dL_isSo_209 : decode cL_isSo 209 = .ok (.goto 4, 3) := by decide +kernel
theorem dL_isSo_212 : decode cL_isSo 212 = .ok (.iconst 0, 1) := by decide +kernel
theorem dL_isSo_213 : decode cL_isSo 213 = .ok (.iload_n 3, 1) := by decide +kernel
theorem dL_isSo_214 : decode cL_isSo 214 = .ok (.iconst 1, 1) := by decide +kernel
theorem dL_isSo_215 : decode cL_isSo 215 = .ok (.if_icmp .ne 7, 3) := by decide +kernel
theorem dL_isSo_218 : decode cL_isSo 218 = .ok (.iconst 1, 1) := by decide +kernel
theorem dL_isSo_219 : decode cL_isSo 219 = .ok (.goto 4, 3) := by decide +kernel
theorem dL_isSo_222 : decode cL_isSo 222 = .ok (.iconst 0, 1) := by decide +kernel
theorem dL_isSo_223 : decode cL_isSo 223 = .ok (.if_icmp .ne 59, 3) := by decide +kernel
theorem dL_isSo_226 : decode cL_isSo 226 = .ok (.aload_n 0, 1) := by decide +kernel
theorem dL_isSo_227 : decode cL_isSo 227 = .ok (.iload_n 3, 1) := by decide +kernel
theorem dL_isSo_228 : decode cL_isSo 228 = .ok (.invokevirtual 130, 3) := by decide +kernel
theorem dL_isSo_231 : decode cL_isSo 231 = .ok (.iconst (-1), 1) := by decide +kernel
theorem dL_isSo_232 : decode cL_isSo 232 = .ok (.if_icmp .ne 50, 3) := by decide +kernel
theorem dL_isSo_235 : decode cL_isSo 235 = .ok (.iload 5, 2) := by decide +kernel
theorem dL_isSo_237 : decode cL_isSo 237 = .ok (.iconst (-1), 1) := by decide +kernel
theorem dL_isSo_238 : decode cL_isSo 238 = .ok (.if_icmp .ne 7, 3) := by decide +kernel
theorem dL_isSo_241 : decode cL_isSo 241 = .ok (.iconst 1, 1) := by decide +kernel
theorem dL_isSo_242 : decode cL_isSo 242 = .ok (.goto 4, 3) := by decide +kernel
theorem dL_isSo_245 : decode cL_isSo 245 = .ok (.iconst 0, 1) := by decide +kernel
theorem dL_isSo_246 : decode cL_isSo 246 = .ok (.aload_n 0, 1) := by decide +kernel
theorem dL_isSo_247 : decode cL_isSo 247 = .ok (.iload_n 3, 1) := by decide +kernel
theorem dL_isSo_248 : decode cL_isSo 248 = .ok (.iconst 1, 1) := by decide +kernel
theorem dL_isSo_249 : decode cL_isSo 249 = .ok (.isub, 1) := by decide +kernel
theorem dL_isSo_250 : decode cL_isSo 250 = .ok (.invokevirtual 130, 3) := by decide +kernel
theorem dL_isSo_253 : decode cL_isSo 253 = .ok (.iconst (-1), 1) := by decide +kernel
theorem dL_isSo_254 : decode cL_isSo 254 = .ok (.if_icmp .ne 7, 3) := by decide +kernel
theorem dL_isSo_257 : decode cL_isSo 257 = .ok (.iconst 1, 1) := by decide +kernel
theorem dL_isSo_258 : decode cL_isSo 258 = .ok (.goto 4, 3) := by decide +kernel
theorem dL_isSo_261 : decode cL_isSo 261 = .ok (.iconst 0, 1) := by decide +kernel
theorem dL_isSo_262 : decode cL_isSo 262 = .ok (.if_icmp .ne 20, 3) := by decide +kernel
theorem dL_isSo_265 : decode cL_isSo 265 = .ok (.aload_n 0, 1) := by decide +kernel
theorem dL_isSo_266 : decode cL_isSo 266 = .ok (.iconst 4, 1) := by decide +kernel
theorem dL_isSo_267 : decode cL_isSo 267 = .ok (.iconst 4, 1) := by decide +kernel
theorem dL_isSo_268 : decode cL_isSo 268 = .ok (.bipush 6, 2) := by decide +kernel
theorem dL_isSo_270 : decode cL_isSo 270 = .ok (.invokestatic 143, 3) := by decide +kernel
theorem dL_isSo_273 : decode cL_isSo 273 = .ok (.ldc 16, 2) := by decide +kernel
theorem dL_isSo_275 : decode cL_isSo 275 = .ok (.if_icmp .ne 7, 3) := by decide +kernel
theorem dL_isSo_278 : decode cL_isSo 278 = .ok (.iconst 1, 1) := by decide +kernel
theorem dL_isSo_279 : decode cL_isSo 279 = .ok (.goto 4, 3) := by decide +kernel
theorem dL_isSo_282 : decode cL_isSo 282 = .ok (.iconst 0, 1) := by decide +kernel
theorem dL_isSo_283 : decode cL_isSo 283 = .ok (.ireturn, 1) := by decide +kernel
