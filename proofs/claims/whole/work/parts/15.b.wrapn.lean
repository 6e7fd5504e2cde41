set_option maxRecDepth 20000 in
theorem ggL_divide_X4_divide : GoodIn wsL_divide wsX4_divide := goodIn_ca (goodIn_ca (goodIn_ca (goodIn_r _ [8, 9, 10, 11, 12, 13, 14, 15, 16, 17, 18, 19, 20, 21, 22, 23, 7, 24, 25, 26, 27, 28, 29, 30, 31, 32, 33, 34, 35, 36, 37, 38, 39, 40, 41, 42, 43, 44, 45, 46, 47, 48, 49, 50, 51, 52, 53, 54, 55, 56, 57, 58, 59, 60, 61, 62, 63, 64, 65, 66, 67, 68, 69, 70, 71, 72, 73, 74, 75, 76, 77, 78, 79, 80, 81, 82, 83, 84, 85, 86, 87, 88, 89, 90, 91, 92, 93, 94, 95, 96, 97, 98, 99, 100, 101, 102, 103, 104, 105, 106, 107, 108, 109, 110, 111, 112, 113, 114, 115, 116, 117, 118, 119, 120, 121, 122, 123, 124, 125, 126, 127, 128, 129, 130, 131, 132, 133, 134, 135, 136, 137, 138, 139, 140, 141, 142, 143, 144, 145, 146, 147, 148, 149, 150, 151, 152, 153, 154, 155, 156, 157, 158, 159, 160, 161, 162, 163, 164, 165, 166, 167, 168, 169, 170, 171, 172, 173, 174, 175, 176, 177, 178, 179, 180, 181, 182, 183, 184, 185, 186, 187, 188, 189, 190, 191, 192, 193, 194, 195, 196, 197, 198, 199, 200, 201, 202, 203, 204, 205, 206, 207, 208, 209, 210, 211, 212, 213, 214, 215] (by decide +kernel) (by decide +kernel)) (goodIn_sub (fun _ h => List.mem_cons_of_mem _ (List.mem_append_left _ (List.mem_append_left _ (List.mem_append_right _ h)))) (by decide +kernel))) (goodIn_sub (fun _ h => List.mem_cons_of_mem _ (List.mem_append_left _ (List.mem_append_right _ h))) (by decide +kernel))) (goodIn_sub (fun _ h => List.mem_cons_of_mem _ (List.mem_append_right _ h)) (by decide +kernel))
set_option maxRecDepth 20000 in
theorem gL_divide_X4_divide : GoodIn wsL_divide (wsV RL 7 RX4 yX4_divide wsX4_divide) := goodIn_app (goodIn_of _ (by decide +kernel)) ggL_divide_X4_divide
theorem dL_divide_0 : decode cL_divide 0 = .ok (.aload_n 3, 1) := by decide +kernel
theorem dL_divide_1 : decode cL_divide 1 = .ok (.iconst 0, 1) := by decide +kernel
theorem dL_divide_2 : decode cL_divide 2 = .ok (.aload_n 0, 1) := by decide +kernel
theorem dL_divide_3 : decode cL_divide 3 = .ok (.iload_n 1, 1) := by decide +kernel
theorem dL_divide_4 : decode cL_divide 4 = .ok (.iload_n 2, 1) := by decide +kernel
theorem dL_divide_5 : decode cL_divide 5 = .ok (.invokevirtual 7, 3) := by decide +kernel
theorem dL_divide_8 : decode cL_divide 8 = .ok (.i2l, 1) := by decide +kernel
theorem dL_divide_9 : decode cL_divide 9 = .ok (.lastore, 1) := by decide +kernel
theorem dL_divide_10 : decode cL_divide 10 = .ok (.goto 15, 3) := by decide +kernel
theorem dL_divide_13 : decode cL_divide 13 = .ok (.astore 4, 2) := by decide +kernel
theorem dL_divide_15 : decode cL_divide 15 = .ok (.iconst 1, 1) := by decide +kernel
theorem dL_divide_16 : decode cL_divide 16 = .ok (.ireturn, 1) := by decide +kernel
theorem dL_divide_17 : decode cL_divide 17 = .ok (.astore 4, 2) := by decide +kernel
theorem dL_divide_19 : decode cL_divide 19 = .ok (.iconst 2, 1) := by decide +kernel
theorem dL_divide_20 : decode cL_divide 20 = .ok (.ireturn, 1) := by decide +kernel
theorem dL_divide_21 : decode cL_divide 21 = .ok (.astore 4, 2) := by decide +kernel
theorem dL_divide_23 : decode cL_divide 23 = .ok (.iconst 3, 1) := by decide +kernel
theorem dL_divide_24 : decode cL_divide 24 = .ok (.ireturn, 1) := by decide +kernel
theorem dL_divide_25 : decode cL_divide 25 = .ok (.iconst 0, 1) := by decide +kernel
theorem dL_divide_26 : decode cL_divide 26 = .ok (.ireturn, 1) := by decide +kernel
set_option maxRecDepth 20000 in
theorem ggL_give_X4_give : GoodIn wsL_give wsX4_give := goodIn_ca (goodIn_ca (goodIn_r _ [7, 8, 9, 10, 11, 12, 13, 14, 6, 15, 16, 17, 18, 19, 20, 21, 22, 23, 24, 25, 26, 27, 28, 29, 30, 31, 32, 33, 34, 35, 36, 37, 38, 39, 40, 41, 42, 43, 44, 45, 46, 47, 48, 49, 50, 51, 52, 53, 54, 55, 56, 57, 58, 59, 60, 61, 62, 63, 64, 65, 66, 67, 68, 69, 70, 71, 72, 73, 74, 75, 76, 77, 78, 79, 80, 81, 82, 83, 84, 85, 86, 87, 88, 89, 90, 91, 92, 93, 94, 95, 96, 97, 98, 99, 100, 101, 102, 103, 104, 105, 106, 107, 108, 109, 110, 111, 112, 113, 114, 115, 116, 117, 118, 119, 120, 121, 122, 123, 124, 125, 126, 127, 128, 129, 130, 131, 132, 133, 134, 135] (by decide +kernel) (by decide +kernel)) (goodIn_sub (fun _ h => List.mem_cons_of_mem _ (List.mem_append_left _ (List.mem_append_right _ h))) (by decide +kernel))) (goodIn_sub (fun _ h => List.mem_cons_of_mem _ (List.mem_append_right _ h)) (by decide +kernel))
set_option maxRecDepth 20000 in
theorem gL_give_X4_give : GoodIn wsL_give (wsV RL 19 RX4 yX4_give wsX4_give) := goodIn_app (goodIn_of _ (by decide +kernel)) ggL_give_X4_give
theorem dL_give_0 : decode cL_give 0 = .ok (.aload_n 3, 1) := by decide +kernel
theorem dL_give_1 : decode cL_give 1 = .ok (.iconst 0, 1) := by decide +kernel
theorem dL_give_2 : decode cL_give 2 = .ok (.aload_n 0, 1) := by decide +kernel
theorem dL_give_3 : decode cL_give 3 = .ok (.iload_n 1, 1) := by decide +kernel
theorem dL_give_4 : decode cL_give 4 = .ok (.iload_n 2, 1) := by decide +kernel
theorem dL_give_5 : decode cL_give 5 = .ok (.invokevirtual 19, 3) := by decide +kernel
theorem dL_give_8 : decode cL_give 8 = .ok (.i2l, 1) := by decide +kernel
theorem dL_give_9 : decode cL_give 9 = .ok (.lastore, 1) := by decide +kernel
theorem dL_give_10 : decode cL_give 10 = .ok (.goto 11, 3) := by decide +kernel
theorem dL_give_13 : decode cL_give 13 = .ok (.astore 4, 2) := by decide +kernel
theorem dL_give_15 : decode cL_give 15 = .ok (.iconst 1, 1) := by decide +kernel
theorem dL_give_16 : decode cL_give 16 = .ok (.ireturn, 1) := by decide +kernel
theorem dL_give_17 : decode cL_give 17 = .ok (.astore 4, 2) := by decide +kernel
theorem dL_give_19 : decode cL_give 19 = .ok (.iconst 2, 1) := by decide +kernel
theorem dL_give_20 : decode cL_give 20 = .ok (.ireturn, 1) := by decide +kernel
theorem dL_give_21 : decode cL_give 21 = .ok (.iconst 0, 1) := by decide +kernel
theorem dL_give_22 : decode cL_give 22 = .ok (.ireturn, 1) := by decide +kernel
set_option maxRecDepth 20000 in
theorem ggL_join_X4_join : GoodIn wsL_join wsX4_join := goodIn_ca (goodIn_ca (goodIn_r _ [7, 8, 9, 10, 11, 12, 13, 14, 6, 15, 16, 17, 18, 19, 20, 21, 22, 23, 24, 25, 26, 27, 28, 29, 30, 31, 32, 33, 34, 35, 36, 37, 38, 39, 40, 41, 42, 43, 44, 45, 46, 47, 48, 49, 50, 51, 52, 53, 54, 55, 56, 57, 58, 59, 60, 61, 62, 63, 64, 65, 66, 67, 68, 69, 70, 71, 72, 73, 74, 75, 76, 77, 78, 79, 80, 81, 82, 83, 84, 85, 86, 87, 88, 89, 90, 91, 92, 93, 94, 95, 96, 97, 98, 99, 100, 101, 102, 103, 104, 105, 106, 107, 108, 109, 110, 111, 112, 113, 114, 115, 116, 117, 118, 119, 120, 121, 122, 123, 124, 125] (by decide +kernel) (by decide +kernel)) (goodIn_sub (fun _ h => List.mem_cons_of_mem _ (List.mem_append_left _ (List.mem_append_right _ h))) (by decide +kernel))) (goodIn_sub (fun _ h => List.mem_cons_of_mem _ (List.mem_append_right _ h)) (by decide +kernel))
set_option maxRecDepth 20000 in
theorem gL_join_X4_join : GoodIn wsL_join (wsV RL 22 RX4 yX4_join wsX4_join) := goodIn_app (goodIn_of _ (by decide +kernel)) ggL_join_X4_join
theorem dL_join_0 : decode cL_join 0 = .ok (.aload_n 3, 1) := by decide +kernel
theorem dL_join_1 : decode cL_join 1 = .ok (.iconst 0, 1) := by decide +kernel
theorem dL_join_2 : decode cL_join 2 = .ok (.aload_n 0, 1) := by decide +kernel
theorem dL_join_3 : decode cL_join 3 = .ok (.iload_n 1, 1) := by decide +kernel
theorem dL_join_4 : decode cL_join 4 = .ok (.iload_n 2, 1) := by decide +kernel
theorem dL_join_5 : decode cL_join 5 = .ok (.invokevirtual 22, 3) := by decide +kernel
theorem dL_join_8 : decode cL_join 8 = .ok (.i2l, 1) := by decide +kernel
theorem dL_join_9 : decode cL_join 9 = .ok (.lastore, 1) := by decide +kernel
theorem dL_join_10 : decode cL_join 10 = .ok (.goto 11, 3) := by decide +kernel
theorem dL_join_13 : decode cL_join 13 = .ok (.astore 4, 2) := by decide +kernel
theorem dL_join_15 : decode cL_join 15 = .ok (.iconst 1, 1) := by decide +kernel
theorem dL_join_16 : decode cL_join 16 = .ok (.ireturn, 1) := by decide +kernel
theorem dL_join_17 : decode cL_join 17 = .ok (.astore 4, 2) := by decide +kernel
theorem dL_join_19 : decode cL_join 19 = .ok (.iconst 2, 1) := by decide +kernel
theorem dL_join_20 : decode cL_join 20 = .ok (.ireturn, 1) := by decide +kernel
theorem dL_join_21 : decode cL_join 21 = .ok (.iconst 0, 1) := by decide +kernel
theorem dL_join_22 : decode cL_join 22 = .ok (.ireturn, 1) := by decide +kernel
set_option maxRecDepth 20000 in
theorem ggL_colour_X4_colour : GoodIn wsL_colour wsX4_colour := goodIn_ca (goodIn_ca (goodIn_ca (goodIn_r _ [8, 9, 10, 11, 12, 13, 7, 14, 15, 16, 17, 18, 19, 20, 21, 22, 23, 24, 25, 26, 27, 28, 29, 30, 31, 32, 33, 34, 35, 36, 37, 38, 39, 40, 41, 42, 43, 44, 45, 46, 47, 48, 49, 50, 51, 52, 53, 54, 55, 56, 57, 58, 59, 60, 61, 62, 63, 64, 65, 66, 67, 68, 69, 70, 71, 72, 73, 74, 75, 76, 77, 78, 79, 80, 81, 82, 83, 84, 85, 86] (by decide +kernel) (by decide +kernel)) (goodIn_sub (fun _ h => List.mem_cons_of_mem _ (List.mem_append_left _ (List.mem_append_left _ (List.mem_append_right _ h)))) (by decide +kernel))) (goodIn_sub (fun _ h => List.mem_cons_of_mem _ (List.mem_append_left _ (List.mem_append_right _ h))) (by decide +kernel))) (goodIn_sub (fun _ h => List.mem_cons_of_mem _ (List.mem_append_right _ h)) (by decide +kernel))
set_option maxRecDepth 20000 in
theorem gL_colour_X4_colour : GoodIn wsL_colour (wsV RL 25 RX4 yX4_colour wsX4_colour) := goodIn_app (goodIn_of _ (by decide +kernel)) ggL_colour_X4_colour
theorem dL_colour_0 : decode cL_colour 0 = .ok (.aload_n 3, 1) := by decide +kernel
theorem dL_colour_1 : decode cL_colour 1 = .ok (.iconst 0, 1) := by decide +kernel
theorem dL_colour_2 : decode cL_colour 2 = .ok (.aload_n 0, 1) := by decide +kernel
theorem dL_colour_3 : decode cL_colour 3 = .ok (.iload_n 1, 1) := by decide +kernel
theorem dL_colour_4 : decode cL_colour 4 = .ok (.iload_n 2, 1) := by decide +kernel
theorem dL_colour_5 : decode cL_colour 5 = .ok (.invokevirtual 25, 3) := by decide +kernel
theorem dL_colour_8 : decode cL_colour 8 = .ok (.i2l, 1) := by decide +kernel
theorem dL_colour_9 : decode cL_colour 9 = .ok (.lastore, 1) := by decide +kernel
theorem dL_colour_10 : decode cL_colour 10 = .ok (.goto 15, 3) := by decide +kernel
theorem dL_colour_13 : decode cL_colour 13 = .ok (.astore 4, 2) := by decide +kernel
theorem dL_colour_15 : decode cL_colour 15 = .ok (.iconst 1, 1) := by decide +kernel
theorem dL_colour_16 : decode cL_colour 16 = .ok (.ireturn, 1) := by decide +kernel
theorem dL_colour_17 : decode cL_colour 17 = .ok (.astore 4, 2) := by decide +kernel
theorem dL_colour_19 : decode cL_colour 19 = .ok (.iconst 2, 1) := by decide +kernel
theorem dL_colour_20 : decode cL_colour 20 = .ok (.ireturn, 1) := by decide +kernel
theorem dL_colour_21 : decode cL_colour 21 = .ok (.astore 4, 2) := by decide +kernel
theorem dL_colour_23 : decode cL_colour 23 = .ok (.iconst 3, 1) := by decide +kernel
theorem dL_colour_24 : decode cL_colour 24 = .ok (.ireturn, 1) := by decide +kernel
theorem dL_colour_25 : decode cL_colour 25 = .ok (.iconst 0, 1) := by decide +kernel
theorem dL_colour_26 : decode cL_colour 26 = .ok (.ireturn, 1) := by decide +kernel
set_option maxRecDepth 20000 in
theorem ggL_heart_X4_heart : GoodIn wsL_heart wsX4_heart := goodIn_ca (goodIn_r _ [6, 7, 8, 9, 10, 11, 12, 13, 14, 15, 16, 17, 18] (by decide +kernel) (by decide +kernel)) (goodIn_sub (fun _ h => List.mem_cons_of_mem _ (List.mem_append_right _ h)) (by decide +kernel))
set_option maxRecDepth 20000 in
theorem gL_heart_X4_heart : GoodIn wsL_heart (wsV RL 28 RX4 yX4_heart wsX4_heart) := goodIn_app (goodIn_of _ (by decide +kernel)) ggL_heart_X4_heart
theorem dL_heart_0 : decode cL_heart 0 = .ok (.aload_n 2, 1) := by decide +kernel
theorem dL_heart_1 : decode cL_heart 1 = .ok (.iconst 0, 1) := by decide +kernel
theorem dL_heart_2 : decode cL_heart 2 = .ok (.aload_n 0, 1) := by decide +kernel
theorem dL_heart_3 : decode cL_heart 3 = .ok (.iload_n 1, 1) := by decide +kernel
theorem dL_heart_4 : decode cL_heart 4 = .ok (.invokevirtual 28, 3) := by decide +kernel
theorem dL_heart_7 : decode cL_heart 7 = .ok (.i2l, 1) := by decide +kernel
theorem dL_heart_8 : decode cL_heart 8 = .ok (.lastore, 1) := by decide +kernel
theorem dL_heart_9 : decode cL_heart 9 = .ok (.goto 6, 3) := by decide +kernel
theorem dL_heart_12 : decode cL_heart 12 = .ok (.astore_n 3, 1) := by decide +kernel
theorem dL_heart_13 : decode cL_heart 13 = .ok (.iconst 1, 1) := by decide +kernel
theorem dL_heart_14 : decode cL_heart 14 = .ok (.ireturn, 1) := by decide +kernel
theorem dL_heart_15 : decode cL_heart 15 = .ok (.iconst 0, 1) := by decide +kernel
theorem dL_heart_16 : decode cL_heart 16 = .ok (.ireturn, 1) := by decide +kernel
set_option maxRecDepth 20000 in
theorem ggL_sheet_X4_sheet : GoodIn wsL_sheet wsX4_sheet := goodIn_ca (goodIn_r _ [6, 7, 8, 9, 10, 11, 12, 13, 14, 15, 16, 17, 18] (by decide +kernel) (by decide +kernel)) (goodIn_sub (fun _ h => List.mem_cons_of_mem _ (List.mem_append_right _ h)) (by decide +kernel))
set_option maxRecDepth 20000 in
theorem gL_sheet_X4_sheet : GoodIn wsL_sheet (wsV RL 32 RX4 yX4_sheet wsX4_sheet) := goodIn_app (goodIn_of _ (by decide +kernel)) ggL_sheet_X4_sheet
theorem dL_sheet_0 : decode cL_sheet 0 = .ok (.aload_n 2, 1) := by decide +kernel
theorem dL_sheet_1 : decode cL_sheet 1 = .ok (.iconst 0, 1) := by decide +kernel
theorem dL_sheet_2 : decode cL_sheet 2 = .ok (.aload_n 0, 1) := by decide +kernel
theorem dL_sheet_3 : decode cL_sheet 3 = .ok (.iload_n 1, 1) := by decide +kernel
theorem dL_sheet_4 : decode cL_sheet 4 = .ok (.invokevirtual 32, 3) := by decide +kernel
theorem dL_sheet_7 : decode cL_sheet 7 = .ok (.i2l, 1) := by decide +kernel
theorem dL_sheet_8 : decode cL_sheet 8 = .ok (.lastore, 1) := by decide +kernel
theorem dL_sheet_9 : decode cL_sheet 9 = .ok (.goto 6, 3) := by decide +kernel
theorem dL_sheet_12 : decode cL_sheet 12 = .ok (.astore_n 3, 1) := by decide +kernel
theorem dL_sheet_13 : decode cL_sheet 13 = .ok (.iconst 1, 1) := by decide +kernel
theorem dL_sheet_14 : decode cL_sheet 14 = .ok (.ireturn, 1) := by decide +kernel
theorem dL_sheet_15 : decode cL_sheet 15 = .ok (.iconst 0, 1) := by decide +kernel
theorem dL_sheet_16 : decode cL_sheet 16 = .ok (.ireturn, 1) := by decide +kernel
set_option maxRecDepth 20000 in
theorem ggL_bar_X4_bar : GoodIn wsL_bar wsX4_bar := goodIn_ca (goodIn_ca (goodIn_r _ [7, 8, 9, 10, 11, 12, 6, 13, 14, 15, 16, 17, 18, 19, 20, 21, 22, 23, 24, 25, 26, 27, 28, 29, 30, 31, 32, 33, 34, 35, 36, 37, 38] (by decide +kernel) (by decide +kernel)) (goodIn_sub (fun _ h => List.mem_cons_of_mem _ (List.mem_append_left _ (List.mem_append_right _ h))) (by decide +kernel))) (goodIn_sub (fun _ h => List.mem_cons_of_mem _ (List.mem_append_right _ h)) (by decide +kernel))
set_option maxRecDepth 20000 in
theorem gL_bar_X4_bar : GoodIn wsL_bar (wsV RL 35 RX4 yX4_bar wsX4_bar) := goodIn_app (goodIn_of _ (by decide +kernel)) ggL_bar_X4_bar
theorem dL_bar_0 : decode cL_bar 0 = .ok (.aload_n 2, 1) := by decide +kernel
theorem dL_bar_1 : decode cL_bar 1 = .ok (.iconst 0, 1) := by decide +kernel
theorem dL_bar_2 : decode cL_bar 2 = .ok (.aload_n 0, 1) := by decide +kernel
theorem dL_bar_3 : decode cL_bar 3 = .ok (.iload_n 1, 1) := by decide +kernel
theorem dL_bar_4 : decode cL_bar 4 = .ok (.invokevirtual 35, 3) := by decide +kernel
theorem dL_bar_7 : decode cL_bar 7 = .ok (.ifCond .eq 7, 3) := by decide +kernel
theorem dL_bar_10 : decode cL_bar 10 = .ok (.lconst 1, 1) := by decide +kernel
theorem dL_bar_11 : decode cL_bar 11 = .ok (.goto 4, 3) := by decide +kernel
theorem dL_bar_14 : decode cL_bar 14 = .ok (.lconst 0, 1) := by decide +kernel
theorem dL_bar_15 : decode cL_bar 15 = .ok (.lastore, 1) := by decide +kernel
theorem dL_bar_16 : decode cL_bar 16 = .ok (.goto 9, 3) := by decide +kernel
theorem dL_bar_19 : decode cL_bar 19 = .ok (.astore_n 3, 1) := by decide +kernel
theorem dL_bar_20 : decode cL_bar 20 = .ok (.iconst 1, 1) := by decide +kernel
theorem dL_bar_21 : decode cL_bar 21 = .ok (.ireturn, 1) := by decide +kernel
theorem dL_bar_22 : decode cL_bar 22 = .ok (.astore_n 3, 1) := by decide +kernel
theorem dL_bar_23 : decode cL_bar 23 = .ok (.iconst 2, 1) := by decide +kernel
theorem dL_bar_24 : decode cL_bar 24 = .ok (.ireturn, 1) := by decide +kernel
theorem dL_bar_25 : decode cL_bar 25 = .ok (.iconst 0, 1) := by decide +kernel
theorem dL_bar_26 : decode cL_bar 26 = .ok (.ireturn, 1) := by decide +kernel
set_option maxRecDepth 20000 in
theorem ggL_paint_X4_paint : GoodIn wsL_paint wsX4_paint := goodIn_ca (goodIn_ca (goodIn_ca (goodIn_r _ [8, 9, 10, 11, 12, 13, 14, 15, 7, 16, 17, 18, 19, 20, 21, 22, 23, 24, 25, 26, 27, 28, 29, 30, 31, 32, 33, 34, 35, 36, 37, 38, 39, 40, 41, 42, 43, 44, 45, 46, 47, 48, 49, 50, 51, 52, 53, 54, 55, 56, 57, 58, 59, 60, 61, 62, 63, 64, 65, 66, 67, 68, 69, 70, 71, 72, 73, 74, 75, 76, 77, 78, 79, 80, 81, 82, 83, 84, 85, 86, 87, 88, 89, 90] (by decide +kernel) (by decide +kernel)) (goodIn_sub (fun _ h => List.mem_cons_of_mem _ (List.mem_append_left _ (List.mem_append_left _ (List.mem_append_right _ h)))) (by decide +kernel))) (goodIn_sub (fun _ h => List.mem_cons_of_mem _ (List.mem_append_left _ (List.mem_append_right _ h))) (by decide +kernel))) (goodIn_sub (fun _ h => List.mem_cons_of_mem _ (List.mem_append_right _ h)) (by decide +kernel))
set_option maxRecDepth 20000 in
theorem gL_paint_X4_paint : GoodIn wsL_paint (wsV RL 39 RX4 yX4_paint wsX4_paint) := goodIn_app (goodIn_of _ (by decide +kernel)) ggL_paint_X4_paint
theorem dL_paint_0 : decode cL_paint 0 = .ok (.aload_n 3, 1) := by decide +kernel
theorem dL_paint_1 : decode cL_paint 1 = .ok (.iconst 0, 1) := by decide +kernel
theorem dL_paint_2 : decode cL_paint 2 = .ok (.aload_n 0, 1) := by decide +kernel
theorem dL_paint_3 : decode cL_paint 3 = .ok (.iload_n 1, 1) := by decide +kernel
theorem dL_paint_4 : decode cL_paint 4 = .ok (.iload_n 2, 1) := by decide +kernel
theorem dL_paint_5 : decode cL_paint 5 = .ok (.invokevirtual 39, 3) := by decide +kernel
theorem dL_paint_8 : decode cL_paint 8 = .ok (.i2l, 1) := by decide +kernel
theorem dL_paint_9 : decode cL_paint 9 = .ok (.lastore, 1) := by decide +kernel
theorem dL_paint_10 : decode cL_paint 10 = .ok (.goto 15, 3) := by decide +kernel
theorem dL_paint_13 : decode cL_paint 13 = .ok (.astore 4, 2) := by decide +kernel
theorem dL_paint_15 : decode cL_paint 15 = .ok (.iconst 1, 1) := by decide +kernel
theorem dL_paint_16 : decode cL_paint 16 = .ok (.ireturn, 1) := by decide +kernel
theorem dL_paint_17 : decode cL_paint 17 = .ok (.astore 4, 2) := by decide +kernel
theorem dL_paint_19 : decode cL_paint 19 = .ok (.iconst 2, 1) := by decide +kernel
theorem dL_paint_20 : decode cL_paint 20 = .ok (.ireturn, 1) := by decide +kernel
theorem dL_paint_21 : decode cL_paint 21 = .ok (.astore 4, 2) := by decide +kernel
theorem dL_paint_23 : decode cL_paint 23 = .ok (.iconst 3, 1) := by decide +kernel
theorem dL_paint_24 : decode cL_paint 24 = .ok (.ireturn, 1) := by decide +kernel
theorem dL_paint_25 : decode cL_paint 25 = .ok (.iconst 0, 1) := by decide +kernel
theorem dL_paint_26 : decode cL_paint 26 = .ok (.ireturn, 1) := by decide +kernel
set_option maxRecDepth 20000 in
theorem ggL_fire_X4_fire : GoodIn wsL_fire wsX4_fire := goodIn_ca (goodIn_ca (goodIn_r _ [7, 8, 9, 10, 11, 12, 6, 13, 14, 15, 16, 17, 18, 19, 20, 21, 22, 23, 24, 25, 26, 27, 28, 29, 30, 31, 32, 33, 34, 35, 36, 37, 38, 39, 40, 41, 42, 43, 44, 45, 46, 47, 48, 49, 50, 51, 52, 53, 54, 55, 56, 57, 58, 59, 60, 61, 62, 63, 64, 65, 66, 67, 68, 69, 70, 71, 72, 73, 74, 75, 76, 77, 78, 79, 80, 81, 82, 83, 84, 85, 86, 87, 88, 89, 90, 91] (by decide +kernel) (by decide +kernel)) (goodIn_sub (fun _ h => List.mem_cons_of_mem _ (List.mem_append_left _ (List.mem_append_right _ h))) (by decide +kernel))) (goodIn_sub (fun _ h => List.mem_cons_of_mem _ (List.mem_append_right _ h)) (by decide +kernel))
set_option maxRecDepth 20000 in
theorem gL_fire_X4_fire : GoodIn wsL_fire (wsV RL 42 RX4 yX4_fire wsX4_fire) := goodIn_app (goodIn_of _ (by decide +kernel)) ggL_fire_X4_fire
theorem dL_fire_0 : decode cL_fire 0 = .ok (.aload_n 3, 1) := by decide +kernel
theorem dL_fire_1 : decode cL_fire 1 = .ok (.iconst 0, 1) := by decide +kernel
theorem dL_fire_2 : decode cL_fire 2 = .ok (.aload_n 0, 1) := by decide +kernel
theorem dL_fire_3 : decode cL_fire 3 = .ok (.iload_n 1, 1) := by decide +kernel
theorem dL_fire_4 : decode cL_fire 4 = .ok (.iload_n 2, 1) := by decide +kernel
theorem dL_fire_5 : decode cL_fire 5 = .ok (.invokevirtual 42, 3) := by decide +kernel
theorem dL_fire_8 : decode cL_fire 8 = .ok (.i2l, 1) := by decide +kernel
theorem dL_fire_9 : decode cL_fire 9 = .ok (.lastore, 1) := by decide +kernel
theorem dL_fire_10 : decode cL_fire 10 = .ok (.goto 11, 3) := by decide +kernel
theorem dL_fire_13 : decode cL_fire 13 = .ok (.astore 4, 2) := by decide +kernel
theorem dL_fire_15 : decode cL_fire 15 = .ok (.iconst 1, 1) := by decide +kernel
theorem dL_fire_16 : decode cL_fire 16 = .ok (.ireturn, 1) := by decide +kernel
theorem dL_fire_17 : decode cL_fire 17 = .ok (.astore 4, 2) := by decide +kernel
theorem dL_fire_19 : decode cL_fire 19 = .ok (.iconst 2, 1) := by decide +kernel
theorem dL_fire_20 : decode cL_fire 20 = .ok (.ireturn, 1) := by decide +kernel
theorem dL_fire_21 : decode cL_fire 21 = .ok (.iconst 0, 1) := by decide +kernel
theorem dL_fire_22 : decode cL_fire 22 = .ok (.ireturn, 1) := by decide +kernel
set_option maxRecDepth 20000 in
theorem ggL_crack_X4_crack : GoodIn wsL_crack wsX4_crack := goodIn_ca (goodIn_r _ [6, 7, 8, 9, 5, 10, 11, 12, 13, 14, 15, 16, 17, 18, 19, 20, 21, 22, 23, 24, 25, 26, 27, 28, 29, 30, 31, 32, 33, 34, 35, 36, 37, 38, 39, 40, 41, 42, 43, 44, 45, 46, 47, 48, 49, 50, 51, 52, 53, 54, 55, 56, 57, 58, 59, 60, 61, 62, 63, 64, 65, 66, 67, 68, 69, 70, 71, 72, 73, 74, 75, 76, 77, 78, 79, 80, 81, 82, 83, 84, 85] (by decide +kernel) (by decide +kernel)) (goodIn_sub (fun _ h => List.mem_cons_of_mem _ (List.mem_append_right _ h)) (by decide +kernel))
set_option maxRecDepth 20000 in
theorem gL_crack_X4_crack : GoodIn wsL_crack (wsV RL 45 RX4 yX4_crack wsX4_crack) := goodIn_app (goodIn_of _ (by decide +kernel)) ggL_crack_X4_crack
theorem dL_crack_0 : decode cL_crack 0 = .ok (.aload_n 2, 1) := by decide +kernel
theorem dL_crack_1 : decode cL_crack 1 = .ok (.iconst 0, 1) := by decide +kernel
theorem dL_crack_2 : decode cL_crack 2 = .ok (.aload_n 0, 1) := by decide +kernel
theorem dL_crack_3 : decode cL_crack 3 = .ok (.iload_n 1, 1) := by decide +kernel
theorem dL_crack_4 : decode cL_crack 4 = .ok (.invokevirtual 45, 3) := by decide +kernel
theorem dL_crack_7 : decode cL_crack 7 = .ok (.i2l, 1) := by decide +kernel
theorem dL_crack_8 : decode cL_crack 8 = .ok (.lastore, 1) := by decide +kernel
theorem dL_crack_9 : decode cL_crack 9 = .ok (.goto 6, 3) := by decide +kernel
theorem dL_crack_12 : decode cL_crack 12 = .ok (.astore_n 3, 1) := by decide +kernel
theorem dL_crack_13 : decode cL_crack 13 = .ok (.iconst 1, 1) := by decide +kernel
theorem dL_crack_14 : decode cL_crack 14 = .ok (.ireturn, 1) := by decide +kernel
theorem dL_crack_15 : decode cL_crack 15 = .ok (.iconst 0, 1) := by decide +kernel
theorem dL_crack_16 : decode cL_crack 16 = .ok (.ireturn, 1) := by decide +kernel
set_option maxRecDepth 20000 in
theorem ggL_mend_X4_mend : GoodIn wsL_mend wsX4_mend := goodIn_ca (goodIn_ca (goodIn_r _ [7, 8, 9, 10, 11, 12, 6, 13, 14, 15, 16, 17, 18, 19, 20, 21, 22, 23, 24, 25, 26, 27, 28, 29, 30, 31, 32, 33, 34, 35, 36, 37, 38, 39, 40, 41, 42, 43, 44, 45, 46, 47, 48, 49, 50, 51, 52, 53, 54, 55, 56, 57, 58, 59, 60, 61, 62, 63, 64, 65, 66, 67, 68, 69, 70, 71, 72, 73, 74, 75, 76, 77, 78, 79, 80, 81, 82, 83, 84] (by decide +kernel) (by decide +kernel)) (goodIn_sub (fun _ h => List.mem_cons_of_mem _ (List.mem_append_left _ (List.mem_append_right _ h))) (by decide +kernel))) (goodIn_sub (fun _ h => List.mem_cons_of_mem _ (List.mem_append_right _ h)) (by decide +kernel))
set_option maxRecDepth 20000 in
theorem gL_mend_X4_mend : GoodIn wsL_mend (wsV RL 48 RX4 yX4_mend wsX4_mend) := goodIn_app (goodIn_of _ (by decide +kernel)) ggL_mend_X4_mend
theorem dL_mend_0 : decode cL_mend 0 = .ok (.aload_n 2, 1) := by decide +kernel
theorem dL_mend_1 : decode cL_mend 1 = .ok (.iconst 0, 1) := by decide +kernel
theorem dL_mend_2 : decode cL_mend 2 = .ok (.aload_n 0, 1) := by decide +kernel
theorem dL_mend_3 : decode cL_mend 3 = .ok (.iload_n 1, 1) := by decide +kernel
theorem dL_mend_4 : decode cL_mend 4 = .ok (.invokevirtual 48, 3) := by decide +kernel
theorem dL_mend_7 : decode cL_mend 7 = .ok (.i2l, 1) := by decide +kernel
theorem dL_mend_8 : decode cL_mend 8 = .ok (.lastore, 1) := by decide +kernel
theorem dL_mend_9 : decode cL_mend 9 = .ok (.goto 9, 3) := by decide +kernel
theorem dL_mend_12 : decode cL_mend 12 = .ok (.astore_n 3, 1) := by decide +kernel
theorem dL_mend_13 : decode cL_mend 13 = .ok (.iconst 1, 1) := by decide +kernel
theorem dL_mend_14 : decode cL_mend 14 = .ok (.ireturn, 1) := by decide +kernel
theorem dL_mend_15 : decode cL_mend 15 = .ok (.astore_n 3, 1) := by decide +kernel
theorem dL_mend_16 : decode cL_mend 16 = .ok (.iconst 2, 1) := by decide +kernel
theorem dL_mend_17 : decode cL_mend 17 = .ok (.ireturn, 1) := by decide +kernel
theorem dL_mend_18 : decode cL_mend 18 = .ok (.iconst 0, 1) := by decide +kernel
theorem dL_mend_19 : decode cL_mend 19 = .ok (.ireturn, 1) := by decide +kernel
set_option maxRecDepth 20000 in
theorem ggL_replace_X4_replace : GoodIn wsL_replace wsX4_replace := goodIn_ca (goodIn_ca (goodIn_ca (goodIn_r _ [8, 9, 10, 11, 12, 13, 7, 14, 15, 16, 17, 18, 19, 20, 21, 22, 23, 24, 25, 26, 27, 28, 29, 30, 31, 32, 33, 34, 35, 36, 37, 38, 39, 40, 41, 42, 43, 44, 45, 46, 47, 48, 49, 50, 51, 52, 53, 54, 55, 56, 57, 58, 59, 60, 61, 62, 63, 64, 65, 66, 67, 68, 69, 70, 71, 72, 73, 74, 75, 76, 77, 78, 79, 80, 81, 82, 83, 84, 85, 86, 87, 88, 89, 90, 91, 92, 93, 94] (by decide +kernel) (by decide +kernel)) (goodIn_sub (fun _ h => List.mem_cons_of_mem _ (List.mem_append_left _ (List.mem_append_left _ (List.mem_append_right _ h)))) (by decide +kernel))) (goodIn_sub (fun _ h => List.mem_cons_of_mem _ (List.mem_append_left _ (List.mem_append_right _ h))) (by decide +kernel))) (goodIn_sub (fun _ h => List.mem_cons_of_mem _ (List.mem_append_right _ h)) (by decide +kernel))
set_option maxRecDepth 20000 in
theorem gL_replace_X4_replace : GoodIn wsL_replace (wsV RL 51 RX4 yX4_replace wsX4_replace) := goodIn_app (goodIn_of _ (by decide +kernel)) ggL_replace_X4_replace
theorem dL_replace_0 : decode cL_replace 0 = .ok (.aload_n 3, 1) := by decide +kernel
theorem dL_replace_1 : decode cL_replace 1 = .ok (.iconst 0, 1) := by decide +kernel
theorem dL_replace_2 : decode cL_replace 2 = .ok (.aload_n 0, 1) := by decide +kernel
theorem dL_replace_3 : decode cL_replace 3 = .ok (.iload_n 1, 1) := by decide +kernel
theorem dL_replace_4 : decode cL_replace 4 = .ok (.iload_n 2, 1) := by decide +kernel
theorem dL_replace_5 : decode cL_replace 5 = .ok (.invokevirtual 51, 3) := by decide +kernel
theorem dL_replace_8 : decode cL_replace 8 = .ok (.i2l, 1) := by decide +kernel
theorem dL_replace_9 : decode cL_replace 9 = .ok (.lastore, 1) := by decide +kernel
theorem dL_replace_10 : decode cL_replace 10 = .ok (.goto 15, 3) := by decide +kernel
theorem dL_replace_13 : decode cL_replace 13 = .ok (.astore 4, 2) := by decide +kernel
theorem dL_replace_15 : decode cL_replace 15 = .ok (.iconst 1, 1) := by decide +kernel
theorem dL_replace_16 : decode cL_replace 16 = .ok (.ireturn, 1) := by decide +kernel
theorem dL_replace_17 : decode cL_replace 17 = .ok (.astore 4, 2) := by decide +kernel
theorem dL_replace_19 : decode cL_replace 19 = .ok (.iconst 2, 1) := by decide +kernel
theorem dL_replace_20 : decode cL_replace 20 = .ok (.ireturn, 1) := by decide +kernel
theorem dL_replace_21 : decode cL_replace 21 = .ok (.astore 4, 2) := by decide +kernel
theorem dL_replace_23 : decode cL_replace 23 = .ok (.iconst 3, 1) := by decide +kernel
theorem dL_replace_24 : decode cL_replace 24 = .ok (.ireturn, 1) := by decide +kernel
theorem dL_replace_25 : decode cL_replace 25 = .ok (.iconst 0, 1) := by decide +kernel
theorem dL_replace_26 : decode cL_replace 26 = .ok (.ireturn, 1) := by decide +kernel
set_option maxRecDepth 20000 in
theorem ggL_pieceOf_X4_pieceOf : GoodIn wsL_pieceOf wsX4_pieceOf := goodIn_ca (goodIn_r _ [6, 7, 8, 9, 5, 10, 11, 12, 13, 14, 15, 16, 17, 18, 19, 20, 21, 22, 23, 24, 25, 26, 27, 28, 29, 30] (by decide +kernel) (by decide +kernel)) (goodIn_sub (fun _ h => List.mem_cons_of_mem _ (List.mem_append_right _ h)) (by decide +kernel))
set_option maxRecDepth 20000 in
theorem gL_pieceOf_X4_pieceOf : GoodIn wsL_pieceOf (wsV RL 54 RX4 yX4_pieceOf wsX4_pieceOf) := goodIn_app (goodIn_of _ (by decide +kernel)) ggL_pieceOf_X4_pieceOf
theorem dL_pieceOf_0 : decode cL_pieceOf 0 = .ok (.aload_n 2, 1) := by decide +kernel
theorem dL_pieceOf_1 : decode cL_pieceOf 1 = .ok (.iconst 0, 1) := by decide +kernel
theorem dL_pieceOf_2 : decode cL_pieceOf 2 = .ok (.aload_n 0, 1) := by decide +kernel
theorem dL_pieceOf_3 : decode cL_pieceOf 3 = .ok (.iload_n 1, 1) := by decide +kernel
theorem dL_pieceOf_4 : decode cL_pieceOf 4 = .ok (.invokevirtual 54, 3) := by decide +kernel
theorem dL_pieceOf_7 : decode cL_pieceOf 7 = .ok (.i2l, 1) := by decide +kernel
theorem dL_pieceOf_8 : decode cL_pieceOf 8 = .ok (.lastore, 1) := by decide +kernel
theorem dL_pieceOf_9 : decode cL_pieceOf 9 = .ok (.goto 6, 3) := by decide +kernel
theorem dL_pieceOf_12 : decode cL_pieceOf 12 = .ok (.astore_n 3, 1) := by decide +kernel
theorem dL_pieceOf_13 : decode cL_pieceOf 13 = .ok (.iconst 1, 1) := by decide +kernel
theorem dL_pieceOf_14 : decode cL_pieceOf 14 = .ok (.ireturn, 1) := by decide +kernel
theorem dL_pieceOf_15 : decode cL_pieceOf 15 = .ok (.iconst 0, 1) := by decide +kernel
theorem dL_pieceOf_16 : decode cL_pieceOf 16 = .ok (.ireturn, 1) := by decide +kernel
set_option maxRecDepth 20000 in
theorem ggL_piece_X4_piece : GoodIn wsL_piece wsX4_piece := goodIn_ca (goodIn_ca (goodIn_r _ [7, 8, 9, 10, 11, 12, 6, 13, 14, 15, 16, 17, 18, 19, 20, 21, 22, 23, 24, 25, 26, 27, 28, 29, 30, 31, 32, 33, 34, 35, 36, 37, 38, 39, 40, 41, 42, 43, 44, 45, 46, 47, 48, 49, 50, 51, 52, 53, 54, 55, 56, 57, 58, 59, 60, 61, 62, 63, 64, 65, 66, 67, 68, 69, 70, 71, 72, 73, 74, 75, 76, 77, 78, 79, 80, 81, 82, 83, 84, 85, 86, 87, 88, 89, 90, 91, 92, 93, 94, 95, 96, 97, 98, 99, 100, 101, 102, 103, 104, 105, 106, 107, 108, 109, 110, 111, 112, 113, 114, 115, 116, 117, 118, 119, 120, 121, 122, 123, 124, 125, 126, 127, 128, 129, 130, 131, 132, 133, 134] (by decide +kernel) (by decide +kernel)) (goodIn_sub (fun _ h => List.mem_cons_of_mem _ (List.mem_append_left _ (List.mem_append_right _ h))) (by decide +kernel))) (goodIn_sub (fun _ h => List.mem_cons_of_mem _ (List.mem_append_right _ h)) (by decide +kernel))
set_option maxRecDepth 20000 in
theorem gL_piece_X4_piece : GoodIn wsL_piece (wsV RL 57 RX4 yX4_piece wsX4_piece) := goodIn_app (goodIn_of _ (by decide +kernel)) ggL_piece_X4_piece
theorem dL_piece_0 : decode cL_piece 0 = .ok (.aload_n 3, 1) := by decide +kernel
theorem dL_piece_1 : decode cL_piece 1 = .ok (.iconst 0, 1) := by decide +kernel
theorem dL_piece_2 : decode cL_piece 2 = .ok (.aload_n 0, 1) := by decide +kernel
theorem dL_piece_3 : decode cL_piece 3 = .ok (.iload_n 1, 1) := by decide +kernel
theorem dL_piece_4 : decode cL_piece 4 = .ok (.iload_n 2, 1) := by decide +kernel
theorem dL_piece_5 : decode cL_piece 5 = .ok (.invokevirtual 57, 3) := by decide +kernel
theorem dL_piece_8 : decode cL_piece 8 = .ok (.i2l, 1) := by decide +kernel
theorem dL_piece_9 : decode cL_piece 9 = .ok (.lastore, 1) := by decide +kernel
theorem dL_piece_10 : decode cL_piece 10 = .ok (.goto 11, 3) := by decide +kernel
theorem dL_piece_13 : decode cL_piece 13 = .ok (.astore 4, 2) := by decide +kernel
theorem dL_piece_15 : decode cL_piece 15 = .ok (.iconst 1, 1) := by decide +kernel
theorem dL_piece_16 : decode cL_piece 16 = .ok (.ireturn, 1) := by decide +kernel
theorem dL_piece_17 : decode cL_piece 17 = .ok (.astore 4, 2) := by decide +kernel
theorem dL_piece_19 : decode cL_piece 19 = .ok (.iconst 2, 1) := by decide +kernel
theorem dL_piece_20 : decode cL_piece 20 = .ok (.ireturn, 1) := by decide +kernel
theorem dL_piece_21 : decode cL_piece 21 = .ok (.iconst 0, 1) := by decide +kernel
theorem dL_piece_22 : decode cL_piece 22 = .ok (.ireturn, 1) := by decide +kernel
set_option maxRecDepth 20000 in
theorem ggL_bestLine_X4_bestLine : GoodIn wsL_bestLine wsX4_bestLine := goodIn_ca (goodIn_r _ [6, 7, 8, 9, 10, 11, 5, 12, 13, 14, 15, 16, 17, 18, 19, 20, 21, 22, 23, 24, 25, 26, 27, 28, 29, 30, 31, 32, 33, 34, 35, 36, 37, 38, 39, 40, 41, 42, 43, 44, 45, 46, 47, 48, 49, 50, 51, 52, 53, 54, 55, 56, 57, 58, 59, 60, 61, 62, 63, 64, 65, 66, 67, 68, 69, 70, 71, 72, 73, 74, 75, 76, 77, 78, 79, 80, 81, 82, 83, 84, 85, 86, 87, 88, 89, 90, 91, 92, 93, 94, 95, 96, 97, 98, 99, 100, 101, 102, 103, 104, 105, 106, 107, 108, 109, 110, 111, 112, 113, 114, 115, 116, 117, 118, 119, 120, 121, 122, 123, 124, 125, 126, 127, 128, 129, 130, 131, 132, 133, 134, 135, 136, 137, 138, 139, 140, 141, 142, 143, 144, 145, 146, 147, 148, 149, 150, 151, 152, 153, 154, 155, 156, 157, 158, 159, 160, 161] (by decide +kernel) (by decide +kernel)) (goodIn_sub (fun _ h => List.mem_cons_of_mem _ (List.mem_append_right _ h)) (by decide +kernel))
set_option maxRecDepth 20000 in
theorem gL_bestLine_X4_bestLine : GoodIn wsL_bestLine (wsV RL 60 RX4 yX4_bestLine wsX4_bestLine) := goodIn_app (goodIn_of _ (by decide +kernel)) ggL_bestLine_X4_bestLine
theorem dL_bestLine_0 : decode cL_bestLine 0 = .ok (.aload_n 2, 1) := by decide +kernel
theorem dL_bestLine_1 : decode cL_bestLine 1 = .ok (.iconst 0, 1) := by decide +kernel
theorem dL_bestLine_2 : decode cL_bestLine 2 = .ok (.aload_n 0, 1) := by decide +kernel
theorem dL_bestLine_3 : decode cL_bestLine 3 = .ok (.iload_n 1, 1) := by decide +kernel
theorem dL_bestLine_4 : decode cL_bestLine 4 = .ok (.invokevirtual 60, 3) := by decide +kernel
theorem dL_bestLine_7 : decode cL_bestLine 7 = .ok (.i2l, 1) := by decide +kernel
theorem dL_bestLine_8 : decode cL_bestLine 8 = .ok (.lastore, 1) := by decide +kernel
theorem dL_bestLine_9 : decode cL_bestLine 9 = .ok (.goto 6, 3) := by decide +kernel
theorem dL_bestLine_12 : decode cL_bestLine 12 = .ok (.astore_n 3, 1) := by decide +kernel
theorem dL_bestLine_13 : decode cL_bestLine 13 = .ok (.iconst 1, 1) := by decide +kernel
theorem dL_bestLine_14 : decode cL_bestLine 14 = .ok (.ireturn, 1) := by decide +kernel
theorem dL_bestLine_15 : decode cL_bestLine 15 = .ok (.iconst 0, 1) := by decide +kernel
theorem dL_bestLine_16 : decode cL_bestLine 16 = .ok (.ireturn, 1) := by decide +kernel
set_option maxRecDepth 20000 in
theorem ggL_sheets_X4_sheets : GoodIn wsL_sheets wsX4_sheets := goodIn_ca (goodIn_r _ [6, 7, 8, 9, 5, 10, 11, 12, 13, 14, 15, 16, 17, 18, 19, 20, 21, 22, 23, 24, 25, 26, 27, 28, 29, 30, 31, 32, 33, 34, 35, 36, 37, 38, 39, 40, 41, 42, 43, 44, 45, 46, 47, 48, 49, 50, 51, 52, 53, 54, 55, 56, 57, 58, 59, 60, 61, 62, 63, 64, 65, 66, 67, 68, 69, 70, 71, 72, 73, 74, 75, 76, 77, 78, 79, 80, 81, 82, 83, 84, 85, 86, 87, 88, 89, 90, 91, 92, 93, 94, 95, 96, 97, 98, 99, 100, 101, 102, 103, 104, 105, 106, 107, 108, 109, 110, 111, 112, 113, 114, 115, 116, 117, 118, 119, 120, 121, 122, 123, 124, 125, 126, 127, 128, 129, 130, 131, 132, 133, 134, 135, 136, 137, 138, 139, 140, 141, 142, 143, 144, 145, 146, 147, 148, 149, 150, 151, 152] (by decide +kernel) (by decide +kernel)) (goodIn_sub (fun _ h => List.mem_cons_of_mem _ (List.mem_append_right _ h)) (by decide +kernel))
set_option maxRecDepth 20000 in
theorem gL_sheets_X4_sheets : GoodIn wsL_sheets (wsV RL 63 RX4 yX4_sheets wsX4_sheets) := goodIn_app (goodIn_of _ (by decide +kernel)) ggL_sheets_X4_sheets
theorem dL_sheets_0 : decode cL_sheets 0 = .ok (.aload_n 2, 1) := by decide +kernel
theorem dL_sheets_1 : decode cL_sheets 1 = .ok (.iconst 0, 1) := by decide +kernel
theorem dL_sheets_2 : decode cL_sheets 2 = .ok (.aload_n 0, 1) := by decide +kernel
theorem dL_sheets_3 : decode cL_sheets 3 = .ok (.iload_n 1, 1) := by decide +kernel
theorem dL_sheets_4 : decode cL_sheets 4 = .ok (.invokevirtual 63, 3) := by decide +kernel
theorem dL_sheets_7 : decode cL_sheets 7 = .ok (.i2l, 1) := by decide +kernel
theorem dL_sheets_8 : decode cL_sheets 8 = .ok (.lastore, 1) := by decide +kernel
theorem dL_sheets_9 : decode cL_sheets 9 = .ok (.goto 6, 3) := by decide +kernel
theorem dL_sheets_12 : decode cL_sheets 12 = .ok (.astore_n 3, 1) := by decide +kernel
theorem dL_sheets_13 : decode cL_sheets 13 = .ok (.iconst 1, 1) := by decide +kernel
theorem dL_sheets_14 : decode cL_sheets 14 = .ok (.ireturn, 1) := by decide +kernel
theorem dL_sheets_15 : decode cL_sheets 15 = .ok (.iconst 0, 1) := by decide +kernel
theorem dL_sheets_16 : decode cL_sheets 16 = .ok (.ireturn, 1) := by decide +kernel
set_option maxRecDepth 20000 in
theorem ggL_laid_X4_laid : GoodIn wsL_laid wsX4_laid := goodIn_ca (goodIn_r _ [6, 7, 8, 9, 10, 5, 11, 12, 13, 14, 15, 16, 17, 18, 19, 20, 21, 22, 23, 24, 25, 26, 27, 28, 29, 30, 31, 32, 33, 34, 35, 36, 37, 38, 39, 40, 41, 42, 43, 44, 45, 46, 47, 48, 49, 50, 51, 52, 53, 54, 55, 56, 57, 58, 59, 60, 61, 62, 63, 64, 65, 66, 67, 68, 69, 70, 71, 72, 73, 74, 75, 76, 77, 78, 79, 80, 81, 82, 83, 84, 85, 86, 87, 88, 89, 90, 91, 92, 93, 94, 95, 96, 97, 98, 99, 100, 101, 102, 103, 104, 105, 106, 107, 108, 109, 110, 111, 112, 113, 114, 115, 116, 117, 118, 119, 120, 121, 122, 123, 124, 125, 126, 127, 128, 129, 130, 131, 132, 133, 134, 135, 136, 137, 138, 139, 140, 141, 142, 143, 144, 145, 146, 147, 148, 149, 150, 151, 152, 153, 154, 155, 156, 157, 158, 159, 160, 161] (by decide +kernel) (by decide +kernel)) (goodIn_sub (fun _ h => List.mem_cons_of_mem _ (List.mem_append_right _ h)) (by decide +kernel))
set_option maxRecDepth 20000 in
theorem gL_laid_X4_laid : GoodIn wsL_laid (wsV RL 66 RX4 yX4_laid wsX4_laid) := goodIn_app (goodIn_of _ (by decide +kernel)) ggL_laid_X4_laid
theorem dL_laid_0 : decode cL_laid 0 = .ok (.aload_n 2, 1) := by decide +kernel
theorem dL_laid_1 : decode cL_laid 1 = .ok (.iconst 0, 1) := by decide +kernel
theorem dL_laid_2 : decode cL_laid 2 = .ok (.aload_n 0, 1) := by decide +kernel
theorem dL_laid_3 : decode cL_laid 3 = .ok (.iload_n 1, 1) := by decide +kernel
theorem dL_laid_4 : decode cL_laid 4 = .ok (.invokevirtual 66, 3) := by decide +kernel
theorem dL_laid_7 : decode cL_laid 7 = .ok (.i2l, 1) := by decide +kernel
theorem dL_laid_8 : decode cL_laid 8 = .ok (.lastore, 1) := by decide +kernel
theorem dL_laid_9 : decode cL_laid 9 = .ok (.goto 6, 3) := by decide +kernel
theorem dL_laid_12 : decode cL_laid 12 = .ok (.astore_n 3, 1) := by decide +kernel
theorem dL_laid_13 : decode cL_laid 13 = .ok (.iconst 1, 1) := by decide +kernel
theorem dL_laid_14 : decode cL_laid 14 = .ok (.ireturn, 1) := by decide +kernel
theorem dL_laid_15 : decode cL_laid 15 = .ok (.iconst 0, 1) := by decide +kernel
theorem dL_laid_16 : decode cL_laid 16 = .ok (.ireturn, 1) := by decide +kernel
set_option maxRecDepth 20000 in
theorem ggL_waste_X4_waste : GoodIn wsL_waste wsX4_waste := goodIn_ca (goodIn_r _ [6, 7, 8, 9, 10, 11, 5, 12, 13, 14, 15, 16, 17, 18, 19, 20, 21, 22, 23, 24, 25, 26, 27, 28, 29, 30, 31, 32, 33, 34, 35, 36, 37, 38, 39, 40, 41, 42, 43, 44, 45, 46, 47, 48, 49, 50, 51, 52, 53, 54, 55, 56, 57, 58, 59, 60, 61, 62, 63, 64, 65, 66, 67, 68, 69, 70, 71, 72, 73, 74, 75, 76, 77, 78, 79, 80, 81, 82, 83, 84, 85, 86, 87, 88, 89, 90, 91, 92, 93, 94, 95, 96, 97, 98, 99, 100, 101, 102, 103, 104, 105, 106, 107, 108, 109, 110, 111, 112, 113, 114, 115, 116, 117, 118, 119, 120, 121, 122, 123, 124, 125, 126, 127, 128, 129, 130, 131, 132, 133, 134, 135, 136, 137, 138, 139, 140, 141, 142, 143, 144, 145, 146, 147, 148, 149, 150, 151, 152, 153, 154, 155, 156, 157, 158, 159, 160] (by decide +kernel) (by decide +kernel)) (goodIn_sub (fun _ h => List.mem_cons_of_mem _ (List.mem_append_right _ h)) (by decide +kernel))
set_option maxRecDepth 20000 in
theorem gL_waste_X4_waste : GoodIn wsL_waste (wsV RL 69 RX4 yX4_waste wsX4_waste) := goodIn_app (goodIn_of _ (by decide +kernel)) ggL_waste_X4_waste
theorem dL_waste_0 : decode cL_waste 0 = .ok (.aload_n 2, 1) := by decide +kernel
theorem dL_waste_1 : decode cL_waste 1 = .ok (.iconst 0, 1) := by decide +kernel
theorem dL_waste_2 : decode cL_waste 2 = .ok (.aload_n 0, 1) := by decide +kernel
theorem dL_waste_3 : decode cL_waste 3 = .ok (.iload_n 1, 1) := by decide +kernel
theorem dL_waste_4 : decode cL_waste 4 = .ok (.invokevirtual 69, 3) := by decide +kernel
theorem dL_waste_7 : decode cL_waste 7 = .ok (.i2l, 1) := by decide +kernel
theorem dL_waste_8 : decode cL_waste 8 = .ok (.lastore, 1) := by decide +kernel
theorem dL_waste_9 : decode cL_waste 9 = .ok (.goto 6, 3) := by decide +kernel
theorem dL_waste_12 : decode cL_waste 12 = .ok (.astore_n 3, 1) := by decide +kernel
theorem dL_waste_13 : decode cL_waste 13 = .ok (.iconst 1, 1) := by decide +kernel
theorem dL_waste_14 : decode cL_waste 14 = .ok (.ireturn, 1) := by decide +kernel
theorem dL_waste_15 : decode cL_waste 15 = .ok (.iconst 0, 1) := by decide +kernel
theorem dL_waste_16 : decode cL_waste 16 = .ok (.ireturn, 1) := by decide +kernel
set_option maxRecDepth 20000 in
theorem ggL_floor_X4_floor : GoodIn wsL_floor wsX4_floor := goodIn_ca (goodIn_r _ [6, 7, 8, 5, 9, 10, 11, 12, 13, 14, 15, 16, 17, 18, 19, 20, 21, 22, 23, 24, 25, 26, 27, 28, 29, 30, 31, 32, 33, 34, 35, 36, 37, 38, 39, 40, 41, 42, 43, 44, 45, 46, 47, 48, 49, 50, 51, 52, 53, 54, 55, 56, 57, 58, 59, 60, 61, 62, 63, 64, 65, 66, 67, 68, 69, 70, 71, 72, 73, 74, 75, 76, 77, 78, 79, 80, 81, 82, 83, 84, 85, 86, 87, 88, 89, 90] (by decide +kernel) (by decide +kernel)) (goodIn_sub (fun _ h => List.mem_cons_of_mem _ (List.mem_append_right _ h)) (by decide +kernel))
set_option maxRecDepth 20000 in
theorem gL_floor_X4_floor : GoodIn wsL_floor (wsV RL 72 RX4 yX4_floor wsX4_floor) := goodIn_app (goodIn_of _ (by decide +kernel)) ggL_floor_X4_floor
theorem dL_floor_0 : decode cL_floor 0 = .ok (.aload 4, 2) := by decide +kernel
theorem dL_floor_2 : decode cL_floor 2 = .ok (.iconst 0, 1) := by decide +kernel
theorem dL_floor_3 : decode cL_floor 3 = .ok (.aload_n 0, 1) := by decide +kernel
theorem dL_floor_4 : decode cL_floor 4 = .ok (.iload_n 1, 1) := by decide +kernel
theorem dL_floor_5 : decode cL_floor 5 = .ok (.iload_n 2, 1) := by decide +kernel
theorem dL_floor_6 : decode cL_floor 6 = .ok (.iload_n 3, 1) := by decide +kernel
theorem dL_floor_7 : decode cL_floor 7 = .ok (.invokevirtual 72, 3) := by decide +kernel
theorem dL_floor_10 : decode cL_floor 10 = .ok (.i2l, 1) := by decide +kernel
theorem dL_floor_11 : decode cL_floor 11 = .ok (.lastore, 1) := by decide +kernel
theorem dL_floor_12 : decode cL_floor 12 = .ok (.goto 7, 3) := by decide +kernel
theorem dL_floor_15 : decode cL_floor 15 = .ok (.astore 5, 2) := by decide +kernel
theorem dL_floor_17 : decode cL_floor 17 = .ok (.iconst 1, 1) := by decide +kernel
theorem dL_floor_18 : decode cL_floor 18 = .ok (.ireturn, 1) := by decide +kernel
theorem dL_floor_19 : decode cL_floor 19 = .ok (.iconst 0, 1) := by decide +kernel
theorem dL_floor_20 : decode cL_floor 20 = .ok (.ireturn, 1) := by decide +kernel
set_option maxRecDepth 20000 in
theorem ggL_floorAnew_X4_floorAnew : GoodIn wsL_floorAnew wsX4_floorAnew := goodIn_ca (goodIn_r _ [6, 7, 8, 9, 10, 11, 12, 13, 14, 15, 16, 5, 17, 18, 19, 20, 21, 22, 23, 24, 25, 26, 27, 28, 29, 30, 31, 32, 33, 34, 35, 36, 37, 38, 39, 40, 41, 42, 43, 44, 45, 46, 47, 48, 49, 50, 51, 52, 53, 54, 55, 56, 57, 58, 59, 60, 61, 62, 63, 64, 65, 66, 67, 68, 69, 70, 71, 72, 73, 74, 75, 76, 77, 78, 79, 80, 81, 82, 83, 84, 85, 86, 87, 88, 89, 90, 91, 92, 93, 94] (by decide +kernel) (by decide +kernel)) (goodIn_sub (fun _ h => List.mem_cons_of_mem _ (List.mem_append_right _ h)) (by decide +kernel))
set_option maxRecDepth 20000 in
theorem gL_floorAnew_X4_floorAnew : GoodIn wsL_floorAnew (wsV RL 76 RX4 yX4_floorAnew wsX4_floorAnew) := goodIn_app (goodIn_of _ (by decide +kernel)) ggL_floorAnew_X4_floorAnew
theorem dL_floorAnew_0 : decode cL_floorAnew 0 = .ok (.aload 4, 2) := by decide +kernel
theorem dL_floorAnew_2 : decode cL_floorAnew 2 = .ok (.iconst 0, 1) := by decide +kernel
theorem dL_floorAnew_3 : decode cL_floorAnew 3 = .ok (.aload_n 0, 1) := by decide +kernel
theorem dL_floorAnew_4 : decode cL_floorAnew 4 = .ok (.iload_n 1, 1) := by decide +kernel
theorem dL_floorAnew_5 : decode cL_floorAnew 5 = .ok (.iload_n 2, 1) := by decide +kernel
theorem dL_floorAnew_6 : decode cL_floorAnew 6 = .ok (.iload_n 3, 1) := by decide +kernel
theorem dL_floorAnew_7 : decode cL_floorAnew 7 = .ok (.invokevirtual 76, 3) := by decide +kernel
theorem dL_floorAnew_10 : decode cL_floorAnew 10 = .ok (.i2l, 1) := by decide +kernel
theorem dL_floorAnew_11 : decode cL_floorAnew 11 = .ok (.lastore, 1) := by decide +kernel
theorem dL_floorAnew_12 : decode cL_floorAnew 12 = .ok (.goto 7, 3) := by decide +kernel
theorem dL_floorAnew_15 : decode cL_floorAnew 15 = .ok (.astore 5, 2) := by decide +kernel
theorem dL_floorAnew_17 : decode cL_floorAnew 17 = .ok (.iconst 1, 1) := by decide +kernel
theorem dL_floorAnew_18 : decode cL_floorAnew 18 = .ok (.ireturn, 1) := by decide +kernel
theorem dL_floorAnew_19 : decode cL_floorAnew 19 = .ok (.iconst 0, 1) := by decide +kernel
theorem dL_floorAnew_20 : decode cL_floorAnew 20 = .ok (.ireturn, 1) := by decide +kernel
set_option maxRecDepth 20000 in
theorem ggL_crosses_X4_crosses : GoodIn wsL_crosses wsX4_crosses := goodIn_ca (goodIn_r _ [6, 7, 8, 9, 5, 10, 11, 12, 13, 14, 15, 16, 17, 18, 19, 20, 21, 22, 23, 24, 25, 26, 27, 28, 29, 30, 31, 32, 33, 34, 35, 36, 37, 38, 39, 40, 41, 42, 43] (by decide +kernel) (by decide +kernel)) (goodIn_sub (fun _ h => List.mem_cons_of_mem _ (List.mem_append_right _ h)) (by decide +kernel))
set_option maxRecDepth 20000 in
theorem gL_crosses_X4_crosses : GoodIn wsL_crosses (wsV RL 79 RX4 yX4_crosses wsX4_crosses) := goodIn_app (goodIn_of _ (by decide +kernel)) ggL_crosses_X4_crosses
theorem dL_crosses_0 : decode cL_crosses 0 = .ok (.aload_n 2, 1) := by decide +kernel
theorem dL_crosses_1 : decode cL_crosses 1 = .ok (.iconst 0, 1) := by decide +kernel
theorem dL_crosses_2 : decode cL_crosses 2 = .ok (.aload_n 0, 1) := by decide +kernel
theorem dL_crosses_3 : decode cL_crosses 3 = .ok (.iload_n 1, 1) := by decide +kernel
theorem dL_crosses_4 : decode cL_crosses 4 = .ok (.invokevirtual 79, 3) := by decide +kernel
theorem dL_crosses_7 : decode cL_crosses 7 = .ok (.i2l, 1) := by decide +kernel
theorem dL_crosses_8 : decode cL_crosses 8 = .ok (.lastore, 1) := by decide +kernel
theorem dL_crosses_9 : decode cL_crosses 9 = .ok (.goto 6, 3) := by decide +kernel
theorem dL_crosses_12 : decode cL_crosses 12 = .ok (.astore_n 3, 1) := by decide +kernel
theorem dL_crosses_13 : decode cL_crosses 13 = .ok (.iconst 1, 1) := by decide +kernel
theorem dL_crosses_14 : decode cL_crosses 14 = .ok (.ireturn, 1) := by decide +kernel
theorem dL_crosses_15 : decode cL_crosses 15 = .ok (.iconst 0, 1) := by decide +kernel
theorem dL_crosses_16 : decode cL_crosses 16 = .ok (.ireturn, 1) := by decide +kernel
set_option maxRecDepth 20000 in
theorem ggL_bends_X4_bends : GoodIn wsL_bends wsX4_bends := goodIn_ca (goodIn_ca (goodIn_r _ [7, 8, 9, 10, 11, 12, 13, 14, 15, 16, 17, 18, 19, 20, 21, 22, 6, 23, 24, 25, 26, 27, 28, 29, 30, 31, 32, 33, 34, 35, 36] (by decide +kernel) (by decide +kernel)) (goodIn_sub (fun _ h => List.mem_cons_of_mem _ (List.mem_append_left _ (List.mem_append_right _ h))) (by decide +kernel))) (goodIn_sub (fun _ h => List.mem_cons_of_mem _ (List.mem_append_right _ h)) (by decide +kernel))
set_option maxRecDepth 20000 in
theorem gL_bends_X4_bends : GoodIn wsL_bends (wsV RL 82 RX4 yX4_bends wsX4_bends) := goodIn_app (goodIn_of _ (by decide +kernel)) ggL_bends_X4_bends
theorem dL_bends_0 : decode cL_bends 0 = .ok (.aload_n 3, 1) := by decide +kernel
theorem dL_bends_1 : decode cL_bends 1 = .ok (.iconst 0, 1) := by decide +kernel
theorem dL_bends_2 : decode cL_bends 2 = .ok (.aload_n 0, 1) := by decide +kernel
theorem dL_bends_3 : decode cL_bends 3 = .ok (.iload_n 1, 1) := by decide +kernel
theorem dL_bends_4 : decode cL_bends 4 = .ok (.iload_n 2, 1) := by decide +kernel
theorem dL_bends_5 : decode cL_bends 5 = .ok (.invokevirtual 82, 3) := by decide +kernel
theorem dL_bends_8 : decode cL_bends 8 = .ok (.i2l, 1) := by decide +kernel
theorem dL_bends_9 : decode cL_bends 9 = .ok (.lastore, 1) := by decide +kernel
theorem dL_bends_10 : decode cL_bends 10 = .ok (.goto 11, 3) := by decide +kernel
theorem dL_bends_13 : decode cL_bends 13 = .ok (.astore 4, 2) := by decide +kernel
theorem dL_bends_15 : decode cL_bends 15 = .ok (.iconst 1, 1) := by decide +kernel
theorem dL_bends_16 : decode cL_bends 16 = .ok (.ireturn, 1) := by decide +kernel
theorem dL_bends_17 : decode cL_bends 17 = .ok (.astore 4, 2) := by decide +kernel
theorem dL_bends_19 : decode cL_bends 19 = .ok (.iconst 2, 1) := by decide +kernel
theorem dL_bends_20 : decode cL_bends 20 = .ok (.ireturn, 1) := by decide +kernel
theorem dL_bends_21 : decode cL_bends 21 = .ok (.iconst 0, 1) := by decide +kernel
theorem dL_bends_22 : decode cL_bends 22 = .ok (.ireturn, 1) := by decide +kernel
set_option maxRecDepth 20000 in
theorem ggL_history_X4_history : GoodIn wsL_history wsX4_history := goodIn_ca (goodIn_r _ [6, 7, 8, 9, 10, 11, 12, 13, 5, 14, 15, 16, 17, 18, 19, 20, 21, 22, 23, 24, 25, 26, 27, 28, 29, 30, 31, 32, 33, 34, 35, 36, 37, 38, 39, 40, 41, 42, 43, 44, 45, 46, 47, 48, 49, 50, 51, 52, 53, 54, 55, 56, 57, 58, 59, 60, 61, 62, 63, 64] (by decide +kernel) (by decide +kernel)) (goodIn_sub (fun _ h => List.mem_cons_of_mem _ (List.mem_append_right _ h)) (by decide +kernel))
set_option maxRecDepth 20000 in
theorem gL_history_X4_history : GoodIn wsL_history (wsV RL 85 RX4 yX4_history wsX4_history) := goodIn_app (goodIn_of _ (by decide +kernel)) ggL_history_X4_history
theorem dL_history_0 : decode cL_history 0 = .ok (.aload_n 3, 1) := by decide +kernel
theorem dL_history_1 : decode cL_history 1 = .ok (.iconst 0, 1) := by decide +kernel
theorem dL_history_2 : decode cL_history 2 = .ok (.aload_n 0, 1) := by decide +kernel
theorem dL_history_3 : decode cL_history 3 = .ok (.iload_n 1, 1) := by decide +kernel
theorem dL_history_4 : decode cL_history 4 = .ok (.iload_n 2, 1) := by decide +kernel
theorem dL_history_5 : decode cL_history 5 = .ok (.invokevirtual 85, 3) := by decide +kernel
theorem dL_history_8 : decode cL_history 8 = .ok (.i2l, 1) := by decide +kernel
theorem dL_history_9 : decode cL_history 9 = .ok (.lastore, 1) := by decide +kernel
theorem dL_history_10 : decode cL_history 10 = .ok (.goto 7, 3) := by decide +kernel
theorem dL_history_13 : decode cL_history 13 = .ok (.astore 4, 2) := by decide +kernel
theorem dL_history_15 : decode cL_history 15 = .ok (.iconst 1, 1) := by decide +kernel
theorem dL_history_16 : decode cL_history 16 = .ok (.ireturn, 1) := by decide +kernel
theorem dL_history_17 : decode cL_history 17 = .ok (.iconst 0, 1) := by decide +kernel
theorem dL_history_18 : decode cL_history 18 = .ok (.ireturn, 1) := by decide +kernel
