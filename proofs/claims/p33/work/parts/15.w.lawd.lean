set_option maxRecDepth 20000 in
theorem ggL_law_X4_init : GoodIn wsL_law wsX4_init := goodIn_r _ [6, 7, 8, 9, 10, 11, 12, 13, 14, 15, 16, 17, 18, 19, 20, 21, 22, 23, 24, 25, 26, 27, 28, 29, 30, 31, 32, 33, 34, 35, 36, 37, 38, 39, 40, 41, 42, 43, 44, 45, 46, 47, 48, 49, 50, 51, 52, 53, 54, 55, 56, 57, 58, 59, 60, 61, 62, 63, 64, 65, 66, 67, 68, 69, 70, 71, 72, 73, 74, 75, 76, 77, 78, 79, 80, 81, 82, 83, 84, 85, 86, 87, 88, 89, 90, 91, 92, 93, 94, 95, 96, 97, 98, 99, 100, 101, 102, 103, 104, 105, 106, 107, 108, 109, 110, 111, 112, 113, 114, 115, 116, 117, 118, 119, 120, 121, 122, 123, 124, 125, 126, 127, 128, 129, 130, 131, 132, 133, 134, 135, 136, 685, 686, 676, 677, 678, 679, 680, 681, 682, 683, 684, 687, 688, 689, 690, 691, 692, 693, 694, 695, 696, 697, 698, 699, 700, 701, 702, 703, 704, 705, 706, 707, 708] (by decide +kernel) (by decide +kernel)
set_option maxRecDepth 20000 in
theorem gL_law_X4_init : GoodIn wsL_law (wsX4_init) := ggL_law_X4_init
set_option maxRecDepth 20000 in
theorem ggL_law_L_cell : GoodIn wsL_law wsL_cell := goodIn_r _ [140] (by decide +kernel) (by decide +kernel)
set_option maxRecDepth 20000 in
theorem gL_law_L_cell : GoodIn wsL_law (va_wsS RL 168 yL_cell wsL_cell) := goodIn_app (goodIn_of _ (by decide +kernel)) ggL_law_L_cell
set_option maxRecDepth 100000 in
theorem ga_head : GoodIn wsL_law [.code yL_act cL_act 8 (some .int)] := goodIn_sub (mem_ix [143] rfl) (by decide +kernel)
set_option maxRecDepth 100000 in
theorem ga_wsL_act_r1 : GoodIn wsL_law wsL_act_r1 := goodIn_sub (mem_ix [144, 145, 139, 146, 147, 148, 149, 150, 151, 152, 153, 3, 154, 155, 156, 2, 157, 158, 159, 160, 161, 21, 13, 17] rfl) (by decide +kernel)
set_option maxRecDepth 100000 in
theorem ga_wsL_act_r2 : GoodIn wsL_law wsL_act_r2 := goodIn_sub (mem_ix [22, 23, 31, 32, 33, 162, 163, 164, 165, 166, 167, 168, 169, 170, 171, 172, 173, 174, 175, 16, 176, 90, 177, 178] rfl) (by decide +kernel)
set_option maxRecDepth 100000 in
theorem ga_wsL_act_r3 : GoodIn wsL_law wsL_act_r3 := goodIn_sub (mem_ix [179, 12, 180, 38, 181, 182, 183, 184, 185, 186, 187, 188, 189, 190, 191, 192, 193, 194, 195, 196, 45, 197, 198, 199] rfl) (by decide +kernel)
set_option maxRecDepth 100000 in
theorem ga_wsL_act_r4 : GoodIn wsL_law wsL_act_r4 := goodIn_sub (mem_ix [200, 201, 202, 203, 204, 205, 20, 206, 59, 207, 208, 209, 210, 211, 212, 213, 214, 215, 216, 217, 218, 219, 220, 221] rfl) (by decide +kernel)
set_option maxRecDepth 100000 in
theorem ga_wsL_act_r5 : GoodIn wsL_law wsL_act_r5 := goodIn_sub (mem_ix [222, 223, 224, 225, 226, 227, 228, 229, 60, 230, 231, 119, 232, 233, 234, 235, 236, 237, 238, 239, 240, 241, 242, 243] rfl) (by decide +kernel)
set_option maxRecDepth 100000 in
theorem ga_wsL_act_r6 : GoodIn wsL_law wsL_act_r6 := goodIn_sub (mem_ix [68, 69, 70, 71, 8, 9, 37, 72, 73, 74, 75, 76, 77, 78, 79, 80, 81, 82, 83, 84, 85, 86, 87, 88] rfl) (by decide +kernel)
set_option maxRecDepth 100000 in
theorem ga_wsL_act_r7 : GoodIn wsL_law wsL_act_r7 := goodIn_sub (mem_ix [89, 91, 92, 93, 94, 95, 96, 97, 98, 99, 100, 101, 102, 44, 103, 104, 105, 106, 107, 108, 109, 110, 111, 112] rfl) (by decide +kernel)
set_option maxRecDepth 100000 in
theorem ga_wsL_act_r8 : GoodIn wsL_law wsL_act_r8 := goodIn_sub (mem_ix [113, 114, 115, 116, 117, 118, 120, 121, 122, 123, 124, 125, 126, 127, 128, 129, 130, 131, 132, 133, 134, 135, 136, 244] rfl) (by decide +kernel)
set_option maxRecDepth 100000 in
theorem ga_wsL_act_r9 : GoodIn wsL_law wsL_act_r9 := goodIn_sub (mem_ix [245, 246, 247, 248, 249, 250, 251, 252, 253, 254, 255, 256, 257, 258, 259, 260, 261, 262, 263, 264, 265, 266, 267, 268] rfl) (by decide +kernel)
set_option maxRecDepth 100000 in
theorem ga_wsL_act_r10 : GoodIn wsL_law wsL_act_r10 := goodIn_sub (mem_ix [269, 270, 271, 272, 273, 274, 275, 276, 277, 278, 279, 280, 281, 282, 283, 284, 285, 286, 287, 288, 289, 290, 291, 292] rfl) (by decide +kernel)
set_option maxRecDepth 100000 in
theorem ga_wsL_act_r11 : GoodIn wsL_law wsL_act_r11 := goodIn_sub (mem_ix [293, 294, 295, 296, 297, 298, 299, 300, 301, 302, 303, 304, 305, 306, 307, 308, 309, 310, 311, 312, 313, 314, 315, 316] rfl) (by decide +kernel)
set_option maxRecDepth 100000 in
theorem ga_wsL_act_r12 : GoodIn wsL_law wsL_act_r12 := goodIn_sub (mem_ix [317, 318, 319, 320, 321, 322, 323, 324, 325, 28, 326, 327, 328, 329, 330, 331, 332, 29, 333, 334, 335, 336, 337, 338] rfl) (by decide +kernel)
set_option maxRecDepth 100000 in
theorem ga_wsL_act_r13 : GoodIn wsL_law wsL_act_r13 := goodIn_sub (mem_ix [339, 30, 340, 341, 342, 343, 344, 345, 346, 347, 348, 349, 350, 351, 352, 353, 354, 355, 356, 357, 358, 359, 360, 361] rfl) (by decide +kernel)
set_option maxRecDepth 100000 in
theorem ga_wsL_act_r14 : GoodIn wsL_law wsL_act_r14 := goodIn_sub (mem_ix [362, 363, 364, 365, 366, 367, 368, 369, 370, 371, 372, 373, 374, 375, 376, 377, 378, 379, 380, 381, 382, 383, 384, 385] rfl) (by decide +kernel)
set_option maxRecDepth 100000 in
theorem ga_wsL_act_r15 : GoodIn wsL_law wsL_act_r15 := goodIn_sub (mem_ix [386, 387, 388, 389, 390, 391, 392, 393, 394, 395, 396, 397, 398, 399, 400, 401, 402, 403, 404, 405, 406, 407, 408, 409] rfl) (by decide +kernel)
set_option maxRecDepth 100000 in
theorem ga_wsL_act_r16 : GoodIn wsL_law wsL_act_r16 := goodIn_sub (mem_ix [410, 411, 412, 413, 414, 415, 416, 417, 418, 419, 420, 421, 422, 423, 424, 425, 426, 427, 428, 429, 430, 431, 432, 433] rfl) (by decide +kernel)
set_option maxRecDepth 100000 in
theorem ga_wsL_act_r17 : GoodIn wsL_law wsL_act_r17 := goodIn_sub (mem_ix [434, 435, 436, 437, 438, 439, 440, 441, 442, 443, 444, 445, 446, 447, 448, 449, 450, 451, 452, 453, 454, 455, 456, 457] rfl) (by decide +kernel)
set_option maxRecDepth 100000 in
theorem ga_wsL_act_r18 : GoodIn wsL_law wsL_act_r18 := goodIn_sub (mem_ix [458, 459, 460, 461, 462, 463, 464, 465, 466, 40, 467, 468, 469, 470, 471, 472, 473, 474, 475, 476, 477, 478, 479, 480] rfl) (by decide +kernel)
set_option maxRecDepth 100000 in
theorem ga_wsL_act_r19 : GoodIn wsL_law wsL_act_r19 := goodIn_sub (mem_ix [481, 482, 483, 484, 485, 486, 487, 488, 489, 490, 491, 492, 493, 494, 495, 496, 497, 498, 499, 500, 501, 27, 502, 503] rfl) (by decide +kernel)
set_option maxRecDepth 100000 in
theorem ga_wsL_act_r20 : GoodIn wsL_law wsL_act_r20 := goodIn_sub (mem_ix [504, 505, 506, 507, 508, 26, 509, 67, 510, 511, 512, 513, 514, 515, 516, 517, 518, 519, 520, 521, 522, 523, 524, 65] rfl) (by decide +kernel)
set_option maxRecDepth 100000 in
theorem ga_wsL_act_r21 : GoodIn wsL_law wsL_act_r21 := goodIn_sub (mem_ix [66, 64, 525, 526, 527, 528, 529, 530, 531, 532, 533, 534, 535, 536, 537, 538, 539, 540, 541, 542, 543, 544, 545, 546] rfl) (by decide +kernel)
set_option maxRecDepth 100000 in
theorem ga_wsL_act_r22 : GoodIn wsL_law wsL_act_r22 := goodIn_sub (mem_ix [547, 548, 549, 550, 551, 552, 553, 554, 555, 556, 557, 558, 559, 560, 561, 562, 563, 564, 565, 566, 567, 568, 569, 570] rfl) (by decide +kernel)
set_option maxRecDepth 100000 in
theorem ga_wsL_act_r23 : GoodIn wsL_law wsL_act_r23 := goodIn_sub (mem_ix [571, 572, 573, 574, 575, 576, 577, 578, 579, 580, 581, 582, 583, 584, 585, 586, 587, 588, 589, 590, 591, 592, 593, 594] rfl) (by decide +kernel)
set_option maxRecDepth 100000 in
theorem ga_wsL_act_r24 : GoodIn wsL_law wsL_act_r24 := goodIn_sub (mem_ix [595, 596, 597, 598, 599, 600, 601, 602, 603, 604, 605, 606, 607, 608, 609, 610, 611, 612, 613, 614, 615] rfl) (by decide +kernel)
set_option maxRecDepth 100000 in
theorem ga_wsX40 : GoodIn wsL_law wsX40 := goodIn_sub (mem_ix [676, 677, 678, 679, 680, 681, 682, 683, 684] rfl) (by decide +kernel)
set_option maxRecDepth 100000 in
theorem ga_wsX20 : GoodIn wsL_law wsX20 := goodIn_sub (mem_ix [701, 702, 703, 704, 705, 706, 707, 708] rfl) (by decide +kernel)
set_option maxRecDepth 100000 in
theorem ga_wsJx4a65c0 : GoodIn wsL_law wsJx4a65c0 := goodIn_sub (mem_ix [687, 688, 689] rfl) (by decide +kernel)
set_option maxRecDepth 100000 in
theorem ga_wsX00 : GoodIn wsL_law wsX00 := goodIn_sub (mem_ix [685, 686] rfl) (by decide +kernel)
set_option maxRecDepth 100000 in
theorem ga_wsX30 : GoodIn wsL_law wsX30 := goodIn_sub (mem_ix [690, 691] rfl) (by decide +kernel)
set_option maxRecDepth 100000 in
theorem ga_wsX10 : GoodIn wsL_law wsX10 := goodIn_sub (mem_ix [692, 693, 694, 695, 696, 697, 698, 699, 700] rfl) (by decide +kernel)
theorem ggL_law_L_act : GoodIn wsL_law wsL_act := goodIn_app (a := [.code yL_act cL_act 8 (some .int)]) ga_head (goodIn_app (goodIn_app (goodIn_app (goodIn_app (goodIn_app (goodIn_app (goodIn_app (goodIn_app (goodIn_app (goodIn_app ga_wsL_act_r1 (goodIn_app ga_wsL_act_r2 (goodIn_app ga_wsL_act_r3 (goodIn_app ga_wsL_act_r4 (goodIn_app ga_wsL_act_r5 (goodIn_app ga_wsL_act_r6 (goodIn_app ga_wsL_act_r7 (goodIn_app ga_wsL_act_r8 (goodIn_app ga_wsL_act_r9 (goodIn_app ga_wsL_act_r10 (goodIn_app ga_wsL_act_r11 (goodIn_app ga_wsL_act_r12 (goodIn_app ga_wsL_act_r13 (goodIn_app ga_wsL_act_r14 (goodIn_app ga_wsL_act_r15 (goodIn_app ga_wsL_act_r16 (goodIn_app ga_wsL_act_r17 (goodIn_app ga_wsL_act_r18 (goodIn_app ga_wsL_act_r19 (goodIn_app ga_wsL_act_r20 (goodIn_app ga_wsL_act_r21 (goodIn_app ga_wsL_act_r22 (goodIn_app ga_wsL_act_r23 ga_wsL_act_r24))))))))))))))))))))))) ga_wsX40) ga_wsX20) ga_wsJx4a65c0) ga_wsX00) ga_wsX30) ga_wsX10) (goodIn_sub (fun _ h => List.mem_append_left _ (List.mem_append_left _ (List.mem_append_right _ h))) (by decide +kernel))) (goodIn_sub (fun _ h => List.mem_append_left _ (List.mem_append_right _ h)) (by decide +kernel))) (goodIn_sub (fun _ h => List.mem_append_right _ h) (by decide +kernel)))
set_option maxRecDepth 20000 in
theorem gL_law_L_act : GoodIn wsL_law (va_wsS RL 172 yL_act wsL_act) := goodIn_app (goodIn_of _ (by decide +kernel)) ggL_law_L_act
set_option maxRecDepth 20000 in
theorem ggL_law_L_areAlike : GoodIn wsL_law wsL_areAlike := goodIn_ca (goodIn_ca (goodIn_r _ [618, 619, 620, 621, 2, 622, 13, 623, 477, 478, 12, 479, 38, 624, 560, 561, 562, 563, 564, 565, 625, 626, 627, 628, 629, 630, 631, 632, 269, 208, 209, 210, 633, 634, 635, 636, 637, 638, 639, 640, 641, 642, 643, 644, 645, 646, 647, 648, 649, 650, 651, 28, 652, 653, 654, 655, 388, 389, 390, 391, 17, 168, 173, 174, 175, 16, 176, 90, 181, 182, 183, 184, 185, 186, 187, 188, 189, 190, 191, 192, 193, 194, 195, 196, 45, 177, 178, 179, 180, 144, 145, 139, 146, 147, 447, 448, 449, 151, 3, 450, 451, 452, 453, 260, 261, 262, 263, 166, 167, 264, 484, 485, 486, 487, 488, 489, 490, 169, 170, 171, 172, 491, 492, 493, 33, 494, 77, 74, 548, 549, 550, 551, 552, 553, 554, 340, 341, 342, 200, 201, 202, 555, 556, 557, 558, 559, 566, 567, 568, 152, 569, 570, 571, 572, 158, 159, 30, 347, 299, 300, 301, 302, 303, 304, 573, 574, 575, 576, 343, 344, 345, 346, 656, 657, 658, 659, 660, 661, 662, 27, 29, 312, 313, 314, 502, 503, 504, 505, 506, 507, 508, 26, 509, 67, 510, 511, 512, 231, 119, 232, 290, 291, 292, 293, 21, 203, 204, 205, 20, 206, 59, 207, 513, 514, 515, 516, 517, 518, 519, 520, 298, 521, 522, 523, 524, 65, 66, 64, 474, 475, 525, 526, 527, 528, 529, 530, 531, 532, 533, 534, 535, 536, 537, 538, 539, 540, 541, 542, 543, 544, 545, 546, 547, 294, 295, 296, 297, 676, 677, 678, 679, 680, 681, 682, 683, 684, 685, 686, 701, 702, 703, 704, 705, 706, 707, 708, 687, 688, 689, 692, 693, 694, 695, 696, 697, 698, 699, 700, 690, 691] (by decide +kernel) (by decide +kernel)) (goodIn_sub (fun _ h => List.mem_append_right _ h) (by decide +kernel))) (goodIn_sub (fun _ h => List.mem_append_left _ (List.mem_append_left _ (List.mem_append_right _ h))) (by decide +kernel))
set_option maxRecDepth 20000 in
theorem gL_law_L_areAlike : GoodIn wsL_law (va_wsS RL 175 yL_areAlike wsL_areAlike) := goodIn_app (goodIn_of _ (by decide +kernel)) ggL_law_L_areAlike
set_option maxRecDepth 20000 in
theorem ggL_law_L_isSo : GoodIn wsL_law wsL_isSo := goodIn_ca (goodIn_ca (goodIn_r _ [665, 3, 577, 578, 139, 579, 151, 152, 580, 581, 582, 2, 583, 158, 159, 162, 163, 164, 165, 166, 167, 13, 17, 168, 169, 170, 171, 172, 173, 174, 175, 16, 176, 90, 177, 178, 179, 12, 180, 38, 181, 182, 183, 184, 185, 186, 187, 188, 189, 190, 191, 192, 193, 194, 195, 196, 45, 290, 291, 292, 293, 21, 203, 204, 205, 20, 206, 59, 207, 208, 209, 210, 294, 295, 296, 297, 298, 299, 300, 301, 302, 303, 304, 584, 431, 432, 433, 434, 435, 436, 437, 438, 439, 440, 441, 442, 443, 444, 445, 201, 202, 513, 514, 515, 516, 517, 518, 519, 520, 585, 371, 372, 33, 373, 76, 73, 484, 485, 486, 487, 488, 489, 490, 491, 492, 493, 494, 77, 74, 144, 145, 146, 147, 586, 587, 588, 589, 590, 591, 592, 593, 594, 595, 596, 597, 598, 599, 600, 601, 602, 603, 105, 604, 605, 606, 607, 608, 609, 610, 611, 612, 613, 614, 615, 264, 666, 667, 668, 669, 670, 671, 672, 673, 674, 104, 106, 675, 131, 132, 454, 455, 456, 457, 458, 459, 460, 461, 462, 463, 464, 465, 466, 40, 467, 468, 119, 469, 269, 470, 471, 472, 473, 474, 475, 476, 477, 478, 479, 480, 481, 482, 483, 619, 620, 621, 622, 623, 624, 560, 561, 562, 563, 564, 565, 625, 626, 627, 628, 629, 630, 631, 632, 633, 634, 635, 701, 702, 703, 704, 705, 706, 707, 708, 676, 677, 678, 679, 680, 681, 682, 683, 684, 687, 688, 689, 685, 686, 690, 691] (by decide +kernel) (by decide +kernel)) (goodIn_sub (fun _ h => List.mem_append_left _ (List.mem_append_left _ (List.mem_append_right _ h))) (by decide +kernel))) (goodIn_sub (fun _ h => List.mem_append_right _ h) (by decide +kernel))
set_option maxRecDepth 20000 in
theorem gL_law_L_isSo : GoodIn wsL_law (va_wsS RL 179 yL_isSo wsL_isSo) := goodIn_app (goodIn_of _ (by decide +kernel)) ggL_law_L_isSo
theorem dL_law_0 : decode cL_law 0 = .ok (.new 9, 3) := by decide +kernel
theorem dL_law_3 : decode cL_law 3 = .ok (.dup, 1) := by decide +kernel
theorem dL_law_4 : decode cL_law 4 = .ok (.invokespecial 167, 3) := by decide +kernel
theorem dL_law_7 : decode cL_law 7 = .ok (.astore_n 1, 1) := by decide +kernel
theorem dL_law_8 : decode cL_law 8 = .ok (.new 9, 3) := by decide +kernel
theorem dL_law_11 : decode cL_law 11 = .ok (.dup, 1) := by decide +kernel
theorem dL_law_12 : decode cL_law 12 = .ok (.invokespecial 167, 3) := by decide +kernel
theorem dL_law_15 : decode cL_law 15 = .ok (.astore_n 2, 1) := by decide +kernel
theorem dL_law_16 : decode cL_law 16 = .ok (.iconst 0, 1) := by decide +kernel
theorem dL_law_17 : decode cL_law 17 = .ok (.istore_n 3, 1) := by decide +kernel
theorem dL_law_18 : decode cL_law 18 = .ok (.iload_n 3, 1) := by decide +kernel
theorem dL_law_19 : decode cL_law 19 = .ok (.bipush 80, 2) := by decide +kernel
theorem dL_law_21 : decode cL_law 21 = .ok (.if_icmp .ge 97, 3) := by decide +kernel
theorem dL_law_24 : decode cL_law 24 = .ok (.aload_n 0, 1) := by decide +kernel
theorem dL_law_25 : decode cL_law 25 = .ok (.iload_n 3, 1) := by decide +kernel
theorem dL_law_26 : decode cL_law 26 = .ok (.invokestatic 168, 3) := by decide +kernel
theorem dL_law_29 : decode cL_law 29 = .ok (.istore 4, 2) := by decide +kernel
theorem dL_law_31 : decode cL_law 31 = .ok (.aload_n 1, 1) := by decide +kernel
theorem dL_law_32 : decode cL_law 32 = .ok (.iload 4, 2) := by decide +kernel
theorem dL_law_34 : decode cL_law 34 = .ok (.iload_n 3, 1) := by decide +kernel
theorem dL_law_35 : decode cL_law 35 = .ok (.invokestatic 172, 3) := by decide +kernel
theorem dL_law_38 : decode cL_law 38 = .ok (.istore 5, 2) := by decide +kernel
theorem dL_law_40 : decode cL_law 40 = .ok (.iload 5, 2) := by decide +kernel
theorem dL_law_42 : decode cL_law 42 = .ok (.ldc 16, 2) := by decide +kernel
theorem dL_law_44 : decode cL_law 44 = .ok (.if_icmp .eq 15, 3) := by decide +kernel
theorem dL_law_47 : decode cL_law 47 = .ok (.aload_n 2, 1) := by decide +kernel
theorem dL_law_48 : decode cL_law 48 = .ok (.iload 4, 2) := by decide +kernel
theorem dL_law_50 : decode cL_law 50 = .ok (.iload_n 3, 1) := by decide +kernel
theorem dL_law_51 : decode cL_law 51 = .ok (.invokestatic 172, 3) := by decide +kernel
theorem dL_law_54 : decode cL_law 54 = .ok (.iload 5, 2) := by decide +kernel
theorem dL_law_56 : decode cL_law 56 = .ok (.if_icmp .ne 54, 3) := by decide +kernel
theorem dL_law_59 : decode cL_law 59 = .ok (.iload_n 3, 1) := by decide +kernel
theorem dL_law_60 : decode cL_law 60 = .ok (.bipush 20, 2) := by decide +kernel
theorem dL_law_62 : decode cL_law 62 = .ok (.irem, 1) := by decide +kernel
theorem dL_law_63 : decode cL_law 63 = .ok (.bipush 19, 2) := by decide +kernel
theorem dL_law_65 : decode cL_law 65 = .ok (.if_icmp .ne 15, 3) := by decide +kernel
theorem dL_law_68 : decode cL_law 68 = .ok (.aload_n 1, 1) := by decide +kernel
theorem dL_law_69 : decode cL_law 69 = .ok (.aload_n 2, 1) := by decide +kernel
theorem dL_law_70 : decode cL_law 70 = .ok (.iload 4, 2) := by decide +kernel
theorem dL_law_72 : decode cL_law 72 = .ok (.iconst 3, 1) := by decide +kernel
theorem dL_law_73 : decode cL_law 73 = .ok (.ishr, 1) := by decide +kernel
theorem dL_law_74 : decode cL_law 74 = .ok (.invokestatic 175, 3) := by decide +kernel
theorem dL_law_77 : decode cL_law 77 = .ok (.ifCond .eq 33, 3) := by decide +kernel
theorem dL_law_80 : decode cL_law 80 = .ok (.iload_n 3, 1) := by decide +kernel
theorem dL_law_81 : decode cL_law 81 = .ok (.bipush 44, 2) := by decide +kernel
theorem dL_law_83 : decode cL_law 83 = .ok (.if_icmp .ne 12, 3) := by decide +kernel
theorem dL_law_86 : decode cL_law 86 = .ok (.aload_n 1, 1) := by decide +kernel
theorem dL_law_87 : decode cL_law 87 = .ok (.iload 4, 2) := by decide +kernel
theorem dL_law_89 : decode cL_law 89 = .ok (.invokestatic 179, 3) := by decide +kernel
theorem dL_law_92 : decode cL_law 92 = .ok (.ifCond .eq 18, 3) := by decide +kernel
theorem dL_law_95 : decode cL_law 95 = .ok (.iload_n 3, 1) := by decide +kernel
theorem dL_law_96 : decode cL_law 96 = .ok (.bipush 79, 2) := by decide +kernel
theorem dL_law_98 : decode cL_law 98 = .ok (.if_icmp .ne 14, 3) := by decide +kernel
theorem dL_law_101 : decode cL_law 101 = .ok (.aload_n 1, 1) := by decide +kernel
theorem dL_law_102 : decode cL_law 102 = .ok (.iload 4, 2) := by decide +kernel
theorem dL_law_104 : decode cL_law 104 = .ok (.invokestatic 179, 3) := by decide +kernel
theorem dL_law_107 : decode cL_law 107 = .ok (.ifCond .ne 5, 3) := by decide +kernel
theorem dL_law_110 : decode cL_law 110 = .ok (.iconst 0, 1) := by decide +kernel
theorem dL_law_111 : decode cL_law 111 = .ok (.ireturn, 1) := by decide +kernel
theorem dL_law_112 : decode cL_law 112 = .ok (.iinc 3 1, 3) := by decide +kernel
theorem dL_law_115 : decode cL_law 115 = .ok (.goto (-97), 3) := by decide +kernel
theorem dL_law_118 : decode cL_law 118 = .ok (.iconst 1, 1) := by decide +kernel
theorem dL_law_119 : decode cL_law 119 = .ok (.ireturn, 1) := by decide +kernel
