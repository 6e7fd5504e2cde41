theorem dL_cell_0 : decode cL_cell 0 = .ok (.iload_n 1, 1) := by decide +kernel
theorem dL_cell_1 : decode cL_cell 1 = .ok (.aload_n 0, 1) := by decide +kernel
theorem dL_cell_2 : decode cL_cell 2 = .ok (.arraylength, 1) := by decide +kernel
theorem dL_cell_3 : decode cL_cell 3 = .ok (.if_icmp .ge 9, 3) := by decide +kernel
theorem dL_cell_6 : decode cL_cell 6 = .ok (.aload_n 0, 1) := by decide +kernel
theorem dL_cell_7 : decode cL_cell 7 = .ok (.iload_n 1, 1) := by decide +kernel
theorem dL_cell_8 : decode cL_cell 8 = .ok (.iaload, 1) := by decide +kernel
theorem dL_cell_9 : decode cL_cell 9 = .ok (.goto 17, 3) := by decide +kernel
theorem dL_cell_12 : decode cL_cell 12 = .ok (.sipush 7919, 3) := by decide +kernel
theorem dL_cell_15 : decode cL_cell 15 = .ok (.iload_n 1, 1) := by decide +kernel
theorem dL_cell_16 : decode cL_cell 16 = .ok (.sipush 2027, 3) := by decide +kernel
theorem dL_cell_19 : decode cL_cell 19 = .ok (.iadd, 1) := by decide +kernel
theorem dL_cell_20 : decode cL_cell 20 = .ok (.imul, 1) := by decide +kernel
theorem dL_cell_21 : decode cL_cell 21 = .ok (.iload_n 1, 1) := by decide +kernel
theorem dL_cell_22 : decode cL_cell 22 = .ok (.bipush 31, 2) := by decide +kernel
theorem dL_cell_24 : decode cL_cell 24 = .ok (.iadd, 1) := by decide +kernel
theorem dL_cell_25 : decode cL_cell 25 = .ok (.imul, 1) := by decide +kernel
theorem dL_cell_26 : decode cL_cell 26 = .ok (.ireturn, 1) := by decide +kernel
theorem dL_low_0 : decode cL_low 0 = .ok (.iload_n 0, 1) := by decide +kernel
theorem dL_low_1 : decode cL_low 1 = .ok (.ldc 7, 2) := by decide +kernel
theorem dL_low_3 : decode cL_low 3 = .ok (.iand, 1) := by decide +kernel
theorem dL_low_4 : decode cL_low 4 = .ok (.iload_n 1, 1) := by decide +kernel
theorem dL_low_5 : decode cL_low 5 = .ok (.irem, 1) := by decide +kernel
theorem dL_low_6 : decode cL_low 6 = .ok (.ireturn, 1) := by decide +kernel
set_option maxRecDepth 20000 in
theorem ggL_divide_X4_divide : GoodIn wsL_divide wsX4_divide := goodIn_ca (goodIn_ca (goodIn_ca (goodIn_r _ [9, 10, 11, 12, 13, 14, 15, 16, 17, 18, 19, 20, 21, 22, 23, 24, 8, 25, 26, 27, 28, 29, 30, 31, 32, 33, 34, 35, 36, 37, 38, 39, 40, 41, 42, 43, 44, 45, 46, 47, 48, 49, 50, 51, 52, 53, 54, 55, 56, 57, 58, 59, 60, 61, 62, 63, 64, 65, 66, 67, 68, 69, 70, 71, 72, 73, 74, 75, 76, 77, 78, 79, 80, 81, 82, 83, 84, 85, 86, 87, 88, 89, 90, 91, 92, 93, 94, 95, 96, 97, 98, 99, 100, 101, 102, 103, 104, 105, 106, 107, 108, 109, 110, 111, 112, 113, 114, 115, 116, 117, 118, 119, 120, 121, 122, 123, 124, 125, 126, 127, 128, 129, 130, 131, 132, 133, 134, 135, 136, 137, 138, 139, 140, 141, 142, 143, 144, 145, 146, 147, 148, 149, 150, 151, 152, 153, 154, 155, 156, 157, 158, 159, 160, 161, 162, 163, 164, 165, 166, 167, 168, 169, 170, 171, 172, 173, 174, 175, 176, 177, 178, 179, 180, 181, 182, 183, 184, 185, 186, 187, 188, 189, 190, 191, 192, 193, 194, 195, 196, 197, 198, 199, 200, 201, 202, 203, 204, 205, 206, 207, 208, 209, 210, 211, 212, 213, 214, 215, 216] (by decide +kernel) (by decide +kernel)) (goodIn_sub (fun _ h => List.mem_cons_of_mem _ (List.mem_append_left _ (List.mem_append_left _ (List.mem_append_right _ h)))) (by decide +kernel))) (goodIn_sub (fun _ h => List.mem_cons_of_mem _ (List.mem_append_left _ (List.mem_append_right _ h))) (by decide +kernel))) (goodIn_sub (fun _ h => List.mem_cons_of_mem _ (List.mem_append_right _ h)) (by decide +kernel))
set_option maxRecDepth 20000 in
theorem gL_divide_X4_divide : GoodIn wsL_divide (wsV RL 8 RX4 yX4_divide wsX4_divide) := goodIn_app (goodIn_of _ (by decide +kernel)) ggL_divide_X4_divide
theorem dL_divide_0 : decode cL_divide 0 = .ok (.aload_n 0, 1) := by decide +kernel
theorem dL_divide_1 : decode cL_divide 1 = .ok (.iload_n 1, 1) := by decide +kernel
theorem dL_divide_2 : decode cL_divide 2 = .ok (.iload_n 2, 1) := by decide +kernel
theorem dL_divide_3 : decode cL_divide 3 = .ok (.invokevirtual 8, 3) := by decide +kernel
theorem dL_divide_6 : decode cL_divide 6 = .ok (.ireturn, 1) := by decide +kernel
theorem dL_divide_7 : decode cL_divide 7 = .ok (.astore_n 3, 1) := by decide +kernel
theorem dL_divide_8 : decode cL_divide 8 = .ok (.ldc 16, 2) := by decide +kernel
theorem dL_divide_10 : decode cL_divide 10 = .ok (.ireturn, 1) := by decide +kernel
theorem dL_divide_11 : decode cL_divide 11 = .ok (.astore_n 3, 1) := by decide +kernel
theorem dL_divide_12 : decode cL_divide 12 = .ok (.ldc 16, 2) := by decide +kernel
theorem dL_divide_14 : decode cL_divide 14 = .ok (.ireturn, 1) := by decide +kernel
theorem dL_divide_15 : decode cL_divide 15 = .ok (.astore_n 3, 1) := by decide +kernel
theorem dL_divide_16 : decode cL_divide 16 = .ok (.ldc 16, 2) := by decide +kernel
theorem dL_divide_18 : decode cL_divide 18 = .ok (.ireturn, 1) := by decide +kernel
set_option maxRecDepth 20000 in
theorem ggL_give_X4_give : GoodIn wsL_give wsX4_give := goodIn_ca (goodIn_ca (goodIn_r _ [8, 9, 10, 11, 12, 13, 14, 15, 7, 16, 17, 18, 19, 20, 21, 22, 23, 24, 25, 26, 27, 28, 29, 30, 31, 32, 33, 34, 35, 36, 37, 38, 39, 40, 41, 42, 43, 44, 45, 46, 47, 48, 49, 50, 51, 52, 53, 54, 55, 56, 57, 58, 59, 60, 61, 62, 63, 64, 65, 66, 67, 68, 69, 70, 71, 72, 73, 74, 75, 76, 77, 78, 79, 80, 81, 82, 83, 84, 85, 86, 87, 88, 89, 90, 91, 92, 93, 94, 95, 96, 97, 98, 99, 100, 101, 102, 103, 104, 105, 106, 107, 108, 109, 110, 111, 112, 113, 114, 115, 116, 117, 118, 119, 120, 121, 122, 123, 124, 125, 126, 127, 128, 129, 130, 131, 132, 133, 134, 135, 136] (by decide +kernel) (by decide +kernel)) (goodIn_sub (fun _ h => List.mem_cons_of_mem _ (List.mem_append_left _ (List.mem_append_right _ h))) (by decide +kernel))) (goodIn_sub (fun _ h => List.mem_cons_of_mem _ (List.mem_append_right _ h)) (by decide +kernel))
set_option maxRecDepth 20000 in
theorem gL_give_X4_give : GoodIn wsL_give (wsV RL 21 RX4 yX4_give wsX4_give) := goodIn_app (goodIn_of _ (by decide +kernel)) ggL_give_X4_give
theorem dL_give_0 : decode cL_give 0 = .ok (.aload_n 0, 1) := by decide +kernel
theorem dL_give_1 : decode cL_give 1 = .ok (.iload_n 1, 1) := by decide +kernel
theorem dL_give_2 : decode cL_give 2 = .ok (.iload_n 2, 1) := by decide +kernel
theorem dL_give_3 : decode cL_give 3 = .ok (.invokevirtual 21, 3) := by decide +kernel
theorem dL_give_6 : decode cL_give 6 = .ok (.ireturn, 1) := by decide +kernel
theorem dL_give_7 : decode cL_give 7 = .ok (.astore_n 3, 1) := by decide +kernel
theorem dL_give_8 : decode cL_give 8 = .ok (.ldc 16, 2) := by decide +kernel
theorem dL_give_10 : decode cL_give 10 = .ok (.ireturn, 1) := by decide +kernel
theorem dL_give_11 : decode cL_give 11 = .ok (.astore_n 3, 1) := by decide +kernel
theorem dL_give_12 : decode cL_give 12 = .ok (.ldc 16, 2) := by decide +kernel
theorem dL_give_14 : decode cL_give 14 = .ok (.ireturn, 1) := by decide +kernel
set_option maxRecDepth 20000 in
theorem ggL_join_X4_join : GoodIn wsL_join wsX4_join := goodIn_ca (goodIn_ca (goodIn_r _ [8, 9, 10, 11, 12, 13, 14, 15, 7, 16, 17, 18, 19, 20, 21, 22, 23, 24, 25, 26, 27, 28, 29, 30, 31, 32, 33, 34, 35, 36, 37, 38, 39, 40, 41, 42, 43, 44, 45, 46, 47, 48, 49, 50, 51, 52, 53, 54, 55, 56, 57, 58, 59, 60, 61, 62, 63, 64, 65, 66, 67, 68, 69, 70, 71, 72, 73, 74, 75, 76, 77, 78, 79, 80, 81, 82, 83, 84, 85, 86, 87, 88, 89, 90, 91, 92, 93, 94, 95, 96, 97, 98, 99, 100, 101, 102, 103, 104, 105, 106, 107, 108, 109, 110, 111, 112, 113, 114, 115, 116, 117, 118, 119, 120, 121, 122, 123, 124, 125, 126] (by decide +kernel) (by decide +kernel)) (goodIn_sub (fun _ h => List.mem_cons_of_mem _ (List.mem_append_left _ (List.mem_append_right _ h))) (by decide +kernel))) (goodIn_sub (fun _ h => List.mem_cons_of_mem _ (List.mem_append_right _ h)) (by decide +kernel))
set_option maxRecDepth 20000 in
theorem gL_join_X4_join : GoodIn wsL_join (wsV RL 24 RX4 yX4_join wsX4_join) := goodIn_app (goodIn_of _ (by decide +kernel)) ggL_join_X4_join
theorem dL_join_0 : decode cL_join 0 = .ok (.aload_n 0, 1) := by decide +kernel
theorem dL_join_1 : decode cL_join 1 = .ok (.iload_n 1, 1) := by decide +kernel
theorem dL_join_2 : decode cL_join 2 = .ok (.iload_n 2, 1) := by decide +kernel
theorem dL_join_3 : decode cL_join 3 = .ok (.invokevirtual 24, 3) := by decide +kernel
theorem dL_join_6 : decode cL_join 6 = .ok (.ireturn, 1) := by decide +kernel
theorem dL_join_7 : decode cL_join 7 = .ok (.astore_n 3, 1) := by decide +kernel
theorem dL_join_8 : decode cL_join 8 = .ok (.ldc 16, 2) := by decide +kernel
theorem dL_join_10 : decode cL_join 10 = .ok (.ireturn, 1) := by decide +kernel
theorem dL_join_11 : decode cL_join 11 = .ok (.astore_n 3, 1) := by decide +kernel
theorem dL_join_12 : decode cL_join 12 = .ok (.ldc 16, 2) := by decide +kernel
theorem dL_join_14 : decode cL_join 14 = .ok (.ireturn, 1) := by decide +kernel
set_option maxRecDepth 20000 in
theorem ggL_colour_X4_colour : GoodIn wsL_colour wsX4_colour := goodIn_ca (goodIn_ca (goodIn_ca (goodIn_r _ [9, 10, 11, 12, 13, 14, 8, 15, 16, 17, 18, 19, 20, 21, 22, 23, 24, 25, 26, 27, 28, 29, 30, 31, 32, 33, 34, 35, 36, 37, 38, 39, 40, 41, 42, 43, 44, 45, 46, 47, 48, 49, 50, 51, 52, 53, 54, 55, 56, 57, 58, 59, 60, 61, 62, 63, 64, 65, 66, 67, 68, 69, 70, 71, 72, 73, 74, 75, 76, 77, 78, 79, 80, 81, 82, 83, 84, 85, 86, 87] (by decide +kernel) (by decide +kernel)) (goodIn_sub (fun _ h => List.mem_cons_of_mem _ (List.mem_append_left _ (List.mem_append_left _ (List.mem_append_right _ h)))) (by decide +kernel))) (goodIn_sub (fun _ h => List.mem_cons_of_mem _ (List.mem_append_left _ (List.mem_append_right _ h))) (by decide +kernel))) (goodIn_sub (fun _ h => List.mem_cons_of_mem _ (List.mem_append_right _ h)) (by decide +kernel))
set_option maxRecDepth 20000 in
theorem gL_colour_X4_colour : GoodIn wsL_colour (wsV RL 27 RX4 yX4_colour wsX4_colour) := goodIn_app (goodIn_of _ (by decide +kernel)) ggL_colour_X4_colour
theorem dL_colour_0 : decode cL_colour 0 = .ok (.aload_n 0, 1) := by decide +kernel
theorem dL_colour_1 : decode cL_colour 1 = .ok (.iload_n 1, 1) := by decide +kernel
theorem dL_colour_2 : decode cL_colour 2 = .ok (.iload_n 2, 1) := by decide +kernel
theorem dL_colour_3 : decode cL_colour 3 = .ok (.invokevirtual 27, 3) := by decide +kernel
theorem dL_colour_6 : decode cL_colour 6 = .ok (.ireturn, 1) := by decide +kernel
theorem dL_colour_7 : decode cL_colour 7 = .ok (.astore_n 3, 1) := by decide +kernel
theorem dL_colour_8 : decode cL_colour 8 = .ok (.ldc 16, 2) := by decide +kernel
theorem dL_colour_10 : decode cL_colour 10 = .ok (.ireturn, 1) := by decide +kernel
theorem dL_colour_11 : decode cL_colour 11 = .ok (.astore_n 3, 1) := by decide +kernel
theorem dL_colour_12 : decode cL_colour 12 = .ok (.ldc 16, 2) := by decide +kernel
theorem dL_colour_14 : decode cL_colour 14 = .ok (.ireturn, 1) := by decide +kernel
theorem dL_colour_15 : decode cL_colour 15 = .ok (.astore_n 3, 1) := by decide +kernel
theorem dL_colour_16 : decode cL_colour 16 = .ok (.ldc 16, 2) := by decide +kernel
theorem dL_colour_18 : decode cL_colour 18 = .ok (.ireturn, 1) := by decide +kernel
set_option maxRecDepth 20000 in
theorem ggL_heart_X4_heart : GoodIn wsL_heart wsX4_heart := goodIn_ca (goodIn_r _ [7, 8, 9, 10, 11, 12, 13, 14, 15, 16, 17, 18, 19] (by decide +kernel) (by decide +kernel)) (goodIn_sub (fun _ h => List.mem_cons_of_mem _ (List.mem_append_right _ h)) (by decide +kernel))
set_option maxRecDepth 20000 in
theorem gL_heart_X4_heart : GoodIn wsL_heart (wsV RL 30 RX4 yX4_heart wsX4_heart) := goodIn_app (goodIn_of _ (by decide +kernel)) ggL_heart_X4_heart
theorem dL_heart_0 : decode cL_heart 0 = .ok (.aload_n 0, 1) := by decide +kernel
theorem dL_heart_1 : decode cL_heart 1 = .ok (.iload_n 1, 1) := by decide +kernel
theorem dL_heart_2 : decode cL_heart 2 = .ok (.invokevirtual 30, 3) := by decide +kernel
theorem dL_heart_5 : decode cL_heart 5 = .ok (.ireturn, 1) := by decide +kernel
theorem dL_heart_6 : decode cL_heart 6 = .ok (.astore_n 2, 1) := by decide +kernel
theorem dL_heart_7 : decode cL_heart 7 = .ok (.ldc 16, 2) := by decide +kernel
theorem dL_heart_9 : decode cL_heart 9 = .ok (.ireturn, 1) := by decide +kernel
set_option maxRecDepth 20000 in
theorem ggL_sheet_X4_sheet : GoodIn wsL_sheet wsX4_sheet := goodIn_ca (goodIn_r _ [7, 8, 9, 10, 11, 12, 13, 14, 15, 16, 17, 18, 19] (by decide +kernel) (by decide +kernel)) (goodIn_sub (fun _ h => List.mem_cons_of_mem _ (List.mem_append_right _ h)) (by decide +kernel))
set_option maxRecDepth 20000 in
theorem gL_sheet_X4_sheet : GoodIn wsL_sheet (wsV RL 34 RX4 yX4_sheet wsX4_sheet) := goodIn_app (goodIn_of _ (by decide +kernel)) ggL_sheet_X4_sheet
theorem dL_sheet_0 : decode cL_sheet 0 = .ok (.aload_n 0, 1) := by decide +kernel
theorem dL_sheet_1 : decode cL_sheet 1 = .ok (.iload_n 1, 1) := by decide +kernel
theorem dL_sheet_2 : decode cL_sheet 2 = .ok (.invokevirtual 34, 3) := by decide +kernel
theorem dL_sheet_5 : decode cL_sheet 5 = .ok (.ireturn, 1) := by decide +kernel
theorem dL_sheet_6 : decode cL_sheet 6 = .ok (.astore_n 2, 1) := by decide +kernel
theorem dL_sheet_7 : decode cL_sheet 7 = .ok (.ldc 16, 2) := by decide +kernel
theorem dL_sheet_9 : decode cL_sheet 9 = .ok (.ireturn, 1) := by decide +kernel
set_option maxRecDepth 20000 in
theorem ggL_bar_X4_bar : GoodIn wsL_bar wsX4_bar := goodIn_ca (goodIn_ca (goodIn_r _ [8, 9, 10, 11, 12, 13, 7, 14, 15, 16, 17, 18, 19, 20, 21, 22, 23, 24, 25, 26, 27, 28, 29, 30, 31, 32, 33, 34, 35, 36, 37, 38, 39] (by decide +kernel) (by decide +kernel)) (goodIn_sub (fun _ h => List.mem_cons_of_mem _ (List.mem_append_left _ (List.mem_append_right _ h))) (by decide +kernel))) (goodIn_sub (fun _ h => List.mem_cons_of_mem _ (List.mem_append_right _ h)) (by decide +kernel))
set_option maxRecDepth 20000 in
theorem gL_bar_X4_bar : GoodIn wsL_bar (wsV RL 37 RX4 yX4_bar wsX4_bar) := goodIn_app (goodIn_of _ (by decide +kernel)) ggL_bar_X4_bar
theorem dL_bar_0 : decode cL_bar 0 = .ok (.aload_n 0, 1) := by decide +kernel
theorem dL_bar_1 : decode cL_bar 1 = .ok (.iload_n 1, 1) := by decide +kernel
theorem dL_bar_2 : decode cL_bar 2 = .ok (.invokevirtual 37, 3) := by decide +kernel
theorem dL_bar_5 : decode cL_bar 5 = .ok (.ifCond .eq 7, 3) := by decide +kernel
theorem dL_bar_8 : decode cL_bar 8 = .ok (.iconst 1, 1) := by decide +kernel
theorem dL_bar_9 : decode cL_bar 9 = .ok (.goto 4, 3) := by decide +kernel
theorem dL_bar_12 : decode cL_bar 12 = .ok (.iconst 0, 1) := by decide +kernel
theorem dL_bar_13 : decode cL_bar 13 = .ok (.ireturn, 1) := by decide +kernel
theorem dL_bar_14 : decode cL_bar 14 = .ok (.astore_n 2, 1) := by decide +kernel
theorem dL_bar_15 : decode cL_bar 15 = .ok (.ldc 16, 2) := by decide +kernel
theorem dL_bar_17 : decode cL_bar 17 = .ok (.ireturn, 1) := by decide +kernel
theorem dL_bar_18 : decode cL_bar 18 = .ok (.astore_n 2, 1) := by decide +kernel
theorem dL_bar_19 : decode cL_bar 19 = .ok (.ldc 16, 2) := by decide +kernel
theorem dL_bar_21 : decode cL_bar 21 = .ok (.ireturn, 1) := by decide +kernel
set_option maxRecDepth 20000 in
theorem ggL_paint_X4_paint : GoodIn wsL_paint wsX4_paint := goodIn_ca (goodIn_ca (goodIn_ca (goodIn_r _ [9, 10, 11, 12, 13, 14, 15, 16, 8, 17, 18, 19, 20, 21, 22, 23, 24, 25, 26, 27, 28, 29, 30, 31, 32, 33, 34, 35, 36, 37, 38, 39, 40, 41, 42, 43, 44, 45, 46, 47, 48, 49, 50, 51, 52, 53, 54, 55, 56, 57, 58, 59, 60, 61, 62, 63, 64, 65, 66, 67, 68, 69, 70, 71, 72, 73, 74, 75, 76, 77, 78, 79, 80, 81, 82, 83, 84, 85, 86, 87, 88, 89, 90, 91] (by decide +kernel) (by decide +kernel)) (goodIn_sub (fun _ h => List.mem_cons_of_mem _ (List.mem_append_left _ (List.mem_append_left _ (List.mem_append_right _ h)))) (by decide +kernel))) (goodIn_sub (fun _ h => List.mem_cons_of_mem _ (List.mem_append_left _ (List.mem_append_right _ h))) (by decide +kernel))) (goodIn_sub (fun _ h => List.mem_cons_of_mem _ (List.mem_append_right _ h)) (by decide +kernel))
set_option maxRecDepth 20000 in
theorem gL_paint_X4_paint : GoodIn wsL_paint (wsV RL 41 RX4 yX4_paint wsX4_paint) := goodIn_app (goodIn_of _ (by decide +kernel)) ggL_paint_X4_paint
theorem dL_paint_0 : decode cL_paint 0 = .ok (.aload_n 0, 1) := by decide +kernel
theorem dL_paint_1 : decode cL_paint 1 = .ok (.iload_n 1, 1) := by decide +kernel
theorem dL_paint_2 : decode cL_paint 2 = .ok (.iload_n 2, 1) := by decide +kernel
theorem dL_paint_3 : decode cL_paint 3 = .ok (.invokevirtual 41, 3) := by decide +kernel
theorem dL_paint_6 : decode cL_paint 6 = .ok (.ireturn, 1) := by decide +kernel
theorem dL_paint_7 : decode cL_paint 7 = .ok (.astore_n 3, 1) := by decide +kernel
theorem dL_paint_8 : decode cL_paint 8 = .ok (.ldc 16, 2) := by decide +kernel
theorem dL_paint_10 : decode cL_paint 10 = .ok (.ireturn, 1) := by decide +kernel
theorem dL_paint_11 : decode cL_paint 11 = .ok (.astore_n 3, 1) := by decide +kernel
theorem dL_paint_12 : decode cL_paint 12 = .ok (.ldc 16, 2) := by decide +kernel
theorem dL_paint_14 : decode cL_paint 14 = .ok (.ireturn, 1) := by decide +kernel
theorem dL_paint_15 : decode cL_paint 15 = .ok (.astore_n 3, 1) := by decide +kernel
theorem dL_paint_16 : decode cL_paint 16 = .ok (.ldc 16, 2) := by decide +kernel
theorem dL_paint_18 : decode cL_paint 18 = .ok (.ireturn, 1) := by decide +kernel
set_option maxRecDepth 20000 in
theorem ggL_fire_X4_fire : GoodIn wsL_fire wsX4_fire := goodIn_ca (goodIn_ca (goodIn_r _ [8, 9, 10, 11, 12, 13, 7, 14, 15, 16, 17, 18, 19, 20, 21, 22, 23, 24, 25, 26, 27, 28, 29, 30, 31, 32, 33, 34, 35, 36, 37, 38, 39, 40, 41, 42, 43, 44, 45, 46, 47, 48, 49, 50, 51, 52, 53, 54, 55, 56, 57, 58, 59, 60, 61, 62, 63, 64, 65, 66, 67, 68, 69, 70, 71, 72, 73, 74, 75, 76, 77, 78, 79, 80, 81, 82, 83, 84, 85, 86, 87, 88, 89, 90, 91, 92] (by decide +kernel) (by decide +kernel)) (goodIn_sub (fun _ h => List.mem_cons_of_mem _ (List.mem_append_left _ (List.mem_append_right _ h))) (by decide +kernel))) (goodIn_sub (fun _ h => List.mem_cons_of_mem _ (List.mem_append_right _ h)) (by decide +kernel))
set_option maxRecDepth 20000 in
theorem gL_fire_X4_fire : GoodIn wsL_fire (wsV RL 44 RX4 yX4_fire wsX4_fire) := goodIn_app (goodIn_of _ (by decide +kernel)) ggL_fire_X4_fire
theorem dL_fire_0 : decode cL_fire 0 = .ok (.aload_n 0, 1) := by decide +kernel
theorem dL_fire_1 : decode cL_fire 1 = .ok (.iload_n 1, 1) := by decide +kernel
theorem dL_fire_2 : decode cL_fire 2 = .ok (.iload_n 2, 1) := by decide +kernel
theorem dL_fire_3 : decode cL_fire 3 = .ok (.invokevirtual 44, 3) := by decide +kernel
theorem dL_fire_6 : decode cL_fire 6 = .ok (.ireturn, 1) := by decide +kernel
theorem dL_fire_7 : decode cL_fire 7 = .ok (.astore_n 3, 1) := by decide +kernel
theorem dL_fire_8 : decode cL_fire 8 = .ok (.ldc 16, 2) := by decide +kernel
theorem dL_fire_10 : decode cL_fire 10 = .ok (.ireturn, 1) := by decide +kernel
theorem dL_fire_11 : decode cL_fire 11 = .ok (.astore_n 3, 1) := by decide +kernel
theorem dL_fire_12 : decode cL_fire 12 = .ok (.ldc 16, 2) := by decide +kernel
theorem dL_fire_14 : decode cL_fire 14 = .ok (.ireturn, 1) := by decide +kernel
set_option maxRecDepth 20000 in
theorem ggL_crack_X4_crack : GoodIn wsL_crack wsX4_crack := goodIn_ca (goodIn_r _ [7, 8, 9, 10, 6, 11, 12, 13, 14, 15, 16, 17, 18, 19, 20, 21, 22, 23, 24, 25, 26, 27, 28, 29, 30, 31, 32, 33, 34, 35, 36, 37, 38, 39, 40, 41, 42, 43, 44, 45, 46, 47, 48, 49, 50, 51, 52, 53, 54, 55, 56, 57, 58, 59, 60, 61, 62, 63, 64, 65, 66, 67, 68, 69, 70, 71, 72, 73, 74, 75, 76, 77, 78, 79, 80, 81, 82, 83, 84, 85, 86] (by decide +kernel) (by decide +kernel)) (goodIn_sub (fun _ h => List.mem_cons_of_mem _ (List.mem_append_right _ h)) (by decide +kernel))
set_option maxRecDepth 20000 in
theorem gL_crack_X4_crack : GoodIn wsL_crack (wsV RL 47 RX4 yX4_crack wsX4_crack) := goodIn_app (goodIn_of _ (by decide +kernel)) ggL_crack_X4_crack
theorem dL_crack_0 : decode cL_crack 0 = .ok (.aload_n 0, 1) := by decide +kernel
theorem dL_crack_1 : decode cL_crack 1 = .ok (.iload_n 1, 1) := by decide +kernel
theorem dL_crack_2 : decode cL_crack 2 = .ok (.invokevirtual 47, 3) := by decide +kernel
theorem dL_crack_5 : decode cL_crack 5 = .ok (.ireturn, 1) := by decide +kernel
theorem dL_crack_6 : decode cL_crack 6 = .ok (.astore_n 2, 1) := by decide +kernel
theorem dL_crack_7 : decode cL_crack 7 = .ok (.ldc 16, 2) := by decide +kernel
theorem dL_crack_9 : decode cL_crack 9 = .ok (.ireturn, 1) := by decide +kernel
set_option maxRecDepth 20000 in
theorem ggL_mend_X4_mend : GoodIn wsL_mend wsX4_mend := goodIn_ca (goodIn_ca (goodIn_r _ [8, 9, 10, 11, 12, 13, 7, 14, 15, 16, 17, 18, 19, 20, 21, 22, 23, 24, 25, 26, 27, 28, 29, 30, 31, 32, 33, 34, 35, 36, 37, 38, 39, 40, 41, 42, 43, 44, 45, 46, 47, 48, 49, 50, 51, 52, 53, 54, 55, 56, 57, 58, 59, 60, 61, 62, 63, 64, 65, 66, 67, 68, 69, 70, 71, 72, 73, 74, 75, 76, 77, 78, 79, 80, 81, 82, 83, 84, 85] (by decide +kernel) (by decide +kernel)) (goodIn_sub (fun _ h => List.mem_cons_of_mem _ (List.mem_append_left _ (List.mem_append_right _ h))) (by decide +kernel))) (goodIn_sub (fun _ h => List.mem_cons_of_mem _ (List.mem_append_right _ h)) (by decide +kernel))
set_option maxRecDepth 20000 in
theorem gL_mend_X4_mend : GoodIn wsL_mend (wsV RL 50 RX4 yX4_mend wsX4_mend) := goodIn_app (goodIn_of _ (by decide +kernel)) ggL_mend_X4_mend
theorem dL_mend_0 : decode cL_mend 0 = .ok (.aload_n 0, 1) := by decide +kernel
theorem dL_mend_1 : decode cL_mend 1 = .ok (.iload_n 1, 1) := by decide +kernel
theorem dL_mend_2 : decode cL_mend 2 = .ok (.invokevirtual 50, 3) := by decide +kernel
theorem dL_mend_5 : decode cL_mend 5 = .ok (.ireturn, 1) := by decide +kernel
theorem dL_mend_6 : decode cL_mend 6 = .ok (.astore_n 2, 1) := by decide +kernel
theorem dL_mend_7 : decode cL_mend 7 = .ok (.ldc 16, 2) := by decide +kernel
theorem dL_mend_9 : decode cL_mend 9 = .ok (.ireturn, 1) := by decide +kernel
theorem dL_mend_10 : decode cL_mend 10 = .ok (.astore_n 2, 1) := by decide +kernel
theorem dL_mend_11 : decode cL_mend 11 = .ok (.ldc 16, 2) := by decide +kernel
theorem dL_mend_13 : decode cL_mend 13 = .ok (.ireturn, 1) := by decide +kernel
set_option maxRecDepth 20000 in
theorem ggL_replace_X4_replace : GoodIn wsL_replace wsX4_replace := goodIn_ca (goodIn_ca (goodIn_ca (goodIn_r _ [9, 10, 11, 12, 13, 14, 8, 15, 16, 17, 18, 19, 20, 21, 22, 23, 24, 25, 26, 27, 28, 29, 30, 31, 32, 33, 34, 35, 36, 37, 38, 39, 40, 41, 42, 43, 44, 45, 46, 47, 48, 49, 50, 51, 52, 53, 54, 55, 56, 57, 58, 59, 60, 61, 62, 63, 64, 65, 66, 67, 68, 69, 70, 71, 72, 73, 74, 75, 76, 77, 78, 79, 80, 81, 82, 83, 84, 85, 86, 87, 88, 89, 90, 91, 92, 93, 94, 95] (by decide +kernel) (by decide +kernel)) (goodIn_sub (fun _ h => List.mem_cons_of_mem _ (List.mem_append_left _ (List.mem_append_left _ (List.mem_append_right _ h)))) (by decide +kernel))) (goodIn_sub (fun _ h => List.mem_cons_of_mem _ (List.mem_append_left _ (List.mem_append_right _ h))) (by decide +kernel))) (goodIn_sub (fun _ h => List.mem_cons_of_mem _ (List.mem_append_right _ h)) (by decide +kernel))
set_option maxRecDepth 20000 in
theorem gL_replace_X4_replace : GoodIn wsL_replace (wsV RL 53 RX4 yX4_replace wsX4_replace) := goodIn_app (goodIn_of _ (by decide +kernel)) ggL_replace_X4_replace
theorem dL_replace_0 : decode cL_replace 0 = .ok (.aload_n 0, 1) := by decide +kernel
theorem dL_replace_1 : decode cL_replace 1 = .ok (.iload_n 1, 1) := by decide +kernel
theorem dL_replace_2 : decode cL_replace 2 = .ok (.iload_n 2, 1) := by decide +kernel
theorem dL_replace_3 : decode cL_replace 3 = .ok (.invokevirtual 53, 3) := by decide +kernel
theorem dL_replace_6 : decode cL_replace 6 = .ok (.ireturn, 1) := by decide +kernel
theorem dL_replace_7 : decode cL_replace 7 = .ok (.astore_n 3, 1) := by decide +kernel
theorem dL_replace_8 : decode cL_replace 8 = .ok (.ldc 16, 2) := by decide +kernel
theorem dL_replace_10 : decode cL_replace 10 = .ok (.ireturn, 1) := by decide +kernel
theorem dL_replace_11 : decode cL_replace 11 = .ok (.astore_n 3, 1) := by decide +kernel
theorem dL_replace_12 : decode cL_replace 12 = .ok (.ldc 16, 2) := by decide +kernel
theorem dL_replace_14 : decode cL_replace 14 = .ok (.ireturn, 1) := by decide +kernel
theorem dL_replace_15 : decode cL_replace 15 = .ok (.astore_n 3, 1) := by decide +kernel
theorem dL_replace_16 : decode cL_replace 16 = .ok (.ldc 16, 2) := by decide +kernel
theorem dL_replace_18 : decode cL_replace 18 = .ok (.ireturn, 1) := by decide +kernel
set_option maxRecDepth 20000 in
theorem ggL_pieceOf_X4_pieceOf : GoodIn wsL_pieceOf wsX4_pieceOf := goodIn_ca (goodIn_r _ [7, 8, 9, 10, 6, 11, 12, 13, 14, 15, 16, 17, 18, 19, 20, 21, 22, 23, 24, 25, 26, 27, 28, 29, 30, 31] (by decide +kernel) (by decide +kernel)) (goodIn_sub (fun _ h => List.mem_cons_of_mem _ (List.mem_append_right _ h)) (by decide +kernel))
set_option maxRecDepth 20000 in
theorem gL_pieceOf_X4_pieceOf : GoodIn wsL_pieceOf (wsV RL 56 RX4 yX4_pieceOf wsX4_pieceOf) := goodIn_app (goodIn_of _ (by decide +kernel)) ggL_pieceOf_X4_pieceOf
theorem dL_pieceOf_0 : decode cL_pieceOf 0 = .ok (.aload_n 0, 1) := by decide +kernel
theorem dL_pieceOf_1 : decode cL_pieceOf 1 = .ok (.iload_n 1, 1) := by decide +kernel
theorem dL_pieceOf_2 : decode cL_pieceOf 2 = .ok (.invokevirtual 56, 3) := by decide +kernel
theorem dL_pieceOf_5 : decode cL_pieceOf 5 = .ok (.ireturn, 1) := by decide +kernel
theorem dL_pieceOf_6 : decode cL_pieceOf 6 = .ok (.astore_n 2, 1) := by decide +kernel
theorem dL_pieceOf_7 : decode cL_pieceOf 7 = .ok (.ldc 16, 2) := by decide +kernel
theorem dL_pieceOf_9 : decode cL_pieceOf 9 = .ok (.ireturn, 1) := by decide +kernel
set_option maxRecDepth 20000 in
theorem ggL_piece_X4_piece : GoodIn wsL_piece wsX4_piece := goodIn_ca (goodIn_ca (goodIn_r _ [8, 9, 10, 11, 12, 13, 7, 14, 15, 16, 17, 18, 19, 20, 21, 22, 23, 24, 25, 26, 27, 28, 29, 30, 31, 32, 33, 34, 35, 36, 37, 38, 39, 40, 41, 42, 43, 44, 45, 46, 47, 48, 49, 50, 51, 52, 53, 54, 55, 56, 57, 58, 59, 60, 61, 62, 63, 64, 65, 66, 67, 68, 69, 70, 71, 72, 73, 74, 75, 76, 77, 78, 79, 80, 81, 82, 83, 84, 85, 86, 87, 88, 89, 90, 91, 92, 93, 94, 95, 96, 97, 98, 99, 100, 101, 102, 103, 104, 105, 106, 107, 108, 109, 110, 111, 112, 113, 114, 115, 116, 117, 118, 119, 120, 121, 122, 123, 124, 125, 126, 127, 128, 129, 130, 131, 132, 133, 134, 135] (by decide +kernel) (by decide +kernel)) (goodIn_sub (fun _ h => List.mem_cons_of_mem _ (List.mem_append_left _ (List.mem_append_right _ h))) (by decide +kernel))) (goodIn_sub (fun _ h => List.mem_cons_of_mem _ (List.mem_append_right _ h)) (by decide +kernel))
set_option maxRecDepth 20000 in
theorem gL_piece_X4_piece : GoodIn wsL_piece (wsV RL 59 RX4 yX4_piece wsX4_piece) := goodIn_app (goodIn_of _ (by decide +kernel)) ggL_piece_X4_piece
theorem dL_piece_0 : decode cL_piece 0 = .ok (.aload_n 0, 1) := by decide +kernel
theorem dL_piece_1 : decode cL_piece 1 = .ok (.iload_n 1, 1) := by decide +kernel
theorem dL_piece_2 : decode cL_piece 2 = .ok (.iload_n 2, 1) := by decide +kernel
theorem dL_piece_3 : decode cL_piece 3 = .ok (.invokevirtual 59, 3) := by decide +kernel
theorem dL_piece_6 : decode cL_piece 6 = .ok (.ireturn, 1) := by decide +kernel
theorem dL_piece_7 : decode cL_piece 7 = .ok (.astore_n 3, 1) := by decide +kernel
theorem dL_piece_8 : decode cL_piece 8 = .ok (.ldc 16, 2) := by decide +kernel
theorem dL_piece_10 : decode cL_piece 10 = .ok (.ireturn, 1) := by decide +kernel
theorem dL_piece_11 : decode cL_piece 11 = .ok (.astore_n 3, 1) := by decide +kernel
theorem dL_piece_12 : decode cL_piece 12 = .ok (.ldc 16, 2) := by decide +kernel
theorem dL_piece_14 : decode cL_piece 14 = .ok (.ireturn, 1) := by decide +kernel
set_option maxRecDepth 20000 in
theorem ggL_best_X4_bestLine : GoodIn wsL_best wsX4_bestLine := goodIn_ca (goodIn_r _ [7, 8, 9, 10, 11, 12, 6, 13, 14, 15, 16, 17, 18, 19, 20, 21, 22, 23, 24, 25, 26, 27, 28, 29, 30, 31, 32, 33, 34, 35, 36, 37, 38, 39, 40, 41, 42, 43, 44, 45, 46, 47, 48, 49, 50, 51, 52, 53, 54, 55, 56, 57, 58, 59, 60, 61, 62, 63, 64, 65, 66, 67, 68, 69, 70, 71, 72, 73, 74, 75, 76, 77, 78, 79, 80, 81, 82, 83, 84, 85, 86, 87, 88, 89, 90, 91, 92, 93, 94, 95, 96, 97, 98, 99, 100, 101, 102, 103, 104, 105, 106, 107, 108, 109, 110, 111, 112, 113, 114, 115, 116, 117, 118, 119, 120, 121, 122, 123, 124, 125, 126, 127, 128, 129, 130, 131, 132, 133, 134, 135, 136, 137, 138, 139, 140, 141, 142, 143, 144, 145, 146, 147, 148, 149, 150, 151, 152, 153, 154, 155, 156, 157, 158, 159, 160, 161, 162] (by decide +kernel) (by decide +kernel)) (goodIn_sub (fun _ h => List.mem_cons_of_mem _ (List.mem_append_right _ h)) (by decide +kernel))
set_option maxRecDepth 20000 in
theorem gL_best_X4_bestLine : GoodIn wsL_best (wsV RL 62 RX4 yX4_bestLine wsX4_bestLine) := goodIn_app (goodIn_of _ (by decide +kernel)) ggL_best_X4_bestLine
theorem dL_best_0 : decode cL_best 0 = .ok (.aload_n 0, 1) := by decide +kernel
theorem dL_best_1 : decode cL_best 1 = .ok (.iload_n 1, 1) := by decide +kernel
theorem dL_best_2 : decode cL_best 2 = .ok (.invokevirtual 62, 3) := by decide +kernel
theorem dL_best_5 : decode cL_best 5 = .ok (.ireturn, 1) := by decide +kernel
theorem dL_best_6 : decode cL_best 6 = .ok (.astore_n 2, 1) := by decide +kernel
theorem dL_best_7 : decode cL_best 7 = .ok (.ldc 16, 2) := by decide +kernel
theorem dL_best_9 : decode cL_best 9 = .ok (.ireturn, 1) := by decide +kernel
set_option maxRecDepth 20000 in
theorem ggL_laid_X4_laid : GoodIn wsL_laid wsX4_laid := goodIn_ca (goodIn_r _ [7, 8, 9, 10, 11, 6, 12, 13, 14, 15, 16, 17, 18, 19, 20, 21, 22, 23, 24, 25, 26, 27, 28, 29, 30, 31, 32, 33, 34, 35, 36, 37, 38, 39, 40, 41, 42, 43, 44, 45, 46, 47, 48, 49, 50, 51, 52, 53, 54, 55, 56, 57, 58, 59, 60, 61, 62, 63, 64, 65, 66, 67, 68, 69, 70, 71, 72, 73, 74, 75, 76, 77, 78, 79, 80, 81, 82, 83, 84, 85, 86, 87, 88, 89, 90, 91, 92, 93, 94, 95, 96, 97, 98, 99, 100, 101, 102, 103, 104, 105, 106, 107, 108, 109, 110, 111, 112, 113, 114, 115, 116, 117, 118, 119, 120, 121, 122, 123, 124, 125, 126, 127, 128, 129, 130, 131, 132, 133, 134, 135, 136, 137, 138, 139, 140, 141, 142, 143, 144, 145, 146, 147, 148, 149, 150, 151, 152, 153, 154, 155, 156, 157, 158, 159, 160, 161, 162] (by decide +kernel) (by decide +kernel)) (goodIn_sub (fun _ h => List.mem_cons_of_mem _ (List.mem_append_right _ h)) (by decide +kernel))
set_option maxRecDepth 20000 in
theorem gL_laid_X4_laid : GoodIn wsL_laid (wsV RL 68 RX4 yX4_laid wsX4_laid) := goodIn_app (goodIn_of _ (by decide +kernel)) ggL_laid_X4_laid
theorem dL_laid_0 : decode cL_laid 0 = .ok (.aload_n 0, 1) := by decide +kernel
theorem dL_laid_1 : decode cL_laid 1 = .ok (.iload_n 1, 1) := by decide +kernel
theorem dL_laid_2 : decode cL_laid 2 = .ok (.invokevirtual 68, 3) := by decide +kernel
theorem dL_laid_5 : decode cL_laid 5 = .ok (.ireturn, 1) := by decide +kernel
theorem dL_laid_6 : decode cL_laid 6 = .ok (.astore_n 2, 1) := by decide +kernel
theorem dL_laid_7 : decode cL_laid 7 = .ok (.ldc 16, 2) := by decide +kernel
theorem dL_laid_9 : decode cL_laid 9 = .ok (.ireturn, 1) := by decide +kernel
set_option maxRecDepth 20000 in
theorem ggL_waste_X4_waste : GoodIn wsL_waste wsX4_waste := goodIn_ca (goodIn_r _ [7, 8, 9, 10, 11, 12, 6, 13, 14, 15, 16, 17, 18, 19, 20, 21, 22, 23, 24, 25, 26, 27, 28, 29, 30, 31, 32, 33, 34, 35, 36, 37, 38, 39, 40, 41, 42, 43, 44, 45, 46, 47, 48, 49, 50, 51, 52, 53, 54, 55, 56, 57, 58, 59, 60, 61, 62, 63, 64, 65, 66, 67, 68, 69, 70, 71, 72, 73, 74, 75, 76, 77, 78, 79, 80, 81, 82, 83, 84, 85, 86, 87, 88, 89, 90, 91, 92, 93, 94, 95, 96, 97, 98, 99, 100, 101, 102, 103, 104, 105, 106, 107, 108, 109, 110, 111, 112, 113, 114, 115, 116, 117, 118, 119, 120, 121, 122, 123, 124, 125, 126, 127, 128, 129, 130, 131, 132, 133, 134, 135, 136, 137, 138, 139, 140, 141, 142, 143, 144, 145, 146, 147, 148, 149, 150, 151, 152, 153, 154, 155, 156, 157, 158, 159, 160, 161] (by decide +kernel) (by decide +kernel)) (goodIn_sub (fun _ h => List.mem_cons_of_mem _ (List.mem_append_right _ h)) (by decide +kernel))
set_option maxRecDepth 20000 in
theorem gL_waste_X4_waste : GoodIn wsL_waste (wsV RL 71 RX4 yX4_waste wsX4_waste) := goodIn_app (goodIn_of _ (by decide +kernel)) ggL_waste_X4_waste
theorem dL_waste_0 : decode cL_waste 0 = .ok (.aload_n 0, 1) := by decide +kernel
theorem dL_waste_1 : decode cL_waste 1 = .ok (.iload_n 1, 1) := by decide +kernel
theorem dL_waste_2 : decode cL_waste 2 = .ok (.invokevirtual 71, 3) := by decide +kernel
theorem dL_waste_5 : decode cL_waste 5 = .ok (.ireturn, 1) := by decide +kernel
theorem dL_waste_6 : decode cL_waste 6 = .ok (.astore_n 2, 1) := by decide +kernel
theorem dL_waste_7 : decode cL_waste 7 = .ok (.ldc 16, 2) := by decide +kernel
theorem dL_waste_9 : decode cL_waste 9 = .ok (.ireturn, 1) := by decide +kernel
set_option maxRecDepth 20000 in
theorem ggL_floor_X4_floor : GoodIn wsL_floor wsX4_floor := goodIn_ca (goodIn_r _ [7, 8, 9, 6, 10, 11, 12, 13, 14, 15, 16, 17, 18, 19, 20, 21, 22, 23, 24, 25, 26, 27, 28, 29, 30, 31, 32, 33, 34, 35, 36, 37, 38, 39, 40, 41, 42, 43, 44, 45, 46, 47, 48, 49, 50, 51, 52, 53, 54, 55, 56, 57, 58, 59, 60, 61, 62, 63, 64, 65, 66, 67, 68, 69, 70, 71, 72, 73, 74, 75, 76, 77, 78, 79, 80, 81, 82, 83, 84, 85, 86, 87, 88, 89, 90, 91] (by decide +kernel) (by decide +kernel)) (goodIn_sub (fun _ h => List.mem_cons_of_mem _ (List.mem_append_right _ h)) (by decide +kernel))
set_option maxRecDepth 20000 in
theorem gL_floor_X4_floor : GoodIn wsL_floor (wsV RL 74 RX4 yX4_floor wsX4_floor) := goodIn_app (goodIn_of _ (by decide +kernel)) ggL_floor_X4_floor
theorem dL_floor_0 : decode cL_floor 0 = .ok (.aload_n 0, 1) := by decide +kernel
theorem dL_floor_1 : decode cL_floor 1 = .ok (.iload_n 1, 1) := by decide +kernel
theorem dL_floor_2 : decode cL_floor 2 = .ok (.iload_n 2, 1) := by decide +kernel
theorem dL_floor_3 : decode cL_floor 3 = .ok (.iload_n 3, 1) := by decide +kernel
theorem dL_floor_4 : decode cL_floor 4 = .ok (.invokevirtual 74, 3) := by decide +kernel
theorem dL_floor_7 : decode cL_floor 7 = .ok (.ireturn, 1) := by decide +kernel
theorem dL_floor_8 : decode cL_floor 8 = .ok (.astore 4, 2) := by decide +kernel
theorem dL_floor_10 : decode cL_floor 10 = .ok (.ldc 16, 2) := by decide +kernel
theorem dL_floor_12 : decode cL_floor 12 = .ok (.ireturn, 1) := by decide +kernel
set_option maxRecDepth 20000 in
theorem ggL_anew_X4_floorAnew : GoodIn wsL_anew wsX4_floorAnew := goodIn_ca (goodIn_r _ [7, 8, 9, 10, 11, 12, 13, 14, 15, 16, 17, 6, 18, 19, 20, 21, 22, 23, 24, 25, 26, 27, 28, 29, 30, 31, 32, 33, 34, 35, 36, 37, 38, 39, 40, 41, 42, 43, 44, 45, 46, 47, 48, 49, 50, 51, 52, 53, 54, 55, 56, 57, 58, 59, 60, 61, 62, 63, 64, 65, 66, 67, 68, 69, 70, 71, 72, 73, 74, 75, 76, 77, 78, 79, 80, 81, 82, 83, 84, 85, 86, 87, 88, 89, 90, 91, 92, 93, 94, 95] (by decide +kernel) (by decide +kernel)) (goodIn_sub (fun _ h => List.mem_cons_of_mem _ (List.mem_append_right _ h)) (by decide +kernel))
set_option maxRecDepth 20000 in
theorem gL_anew_X4_floorAnew : GoodIn wsL_anew (wsV RL 78 RX4 yX4_floorAnew wsX4_floorAnew) := goodIn_app (goodIn_of _ (by decide +kernel)) ggL_anew_X4_floorAnew
theorem dL_anew_0 : decode cL_anew 0 = .ok (.aload_n 0, 1) := by decide +kernel
theorem dL_anew_1 : decode cL_anew 1 = .ok (.iload_n 1, 1) := by decide +kernel
theorem dL_anew_2 : decode cL_anew 2 = .ok (.iload_n 2, 1) := by decide +kernel
theorem dL_anew_3 : decode cL_anew 3 = .ok (.iload_n 3, 1) := by decide +kernel
theorem dL_anew_4 : decode cL_anew 4 = .ok (.invokevirtual 78, 3) := by decide +kernel
theorem dL_anew_7 : decode cL_anew 7 = .ok (.ireturn, 1) := by decide +kernel
theorem dL_anew_8 : decode cL_anew 8 = .ok (.astore 4, 2) := by decide +kernel
theorem dL_anew_10 : decode cL_anew 10 = .ok (.ldc 16, 2) := by decide +kernel
theorem dL_anew_12 : decode cL_anew 12 = .ok (.ireturn, 1) := by decide +kernel
set_option maxRecDepth 20000 in
theorem ggL_crosses_X4_crosses : GoodIn wsL_crosses wsX4_crosses := goodIn_ca (goodIn_r _ [7, 8, 9, 10, 6, 11, 12, 13, 14, 15, 16, 17, 18, 19, 20, 21, 22, 23, 24, 25, 26, 27, 28, 29, 30, 31, 32, 33, 34, 35, 36, 37, 38, 39, 40, 41, 42, 43, 44] (by decide +kernel) (by decide +kernel)) (goodIn_sub (fun _ h => List.mem_cons_of_mem _ (List.mem_append_right _ h)) (by decide +kernel))
set_option maxRecDepth 20000 in
theorem gL_crosses_X4_crosses : GoodIn wsL_crosses (wsV RL 81 RX4 yX4_crosses wsX4_crosses) := goodIn_app (goodIn_of _ (by decide +kernel)) ggL_crosses_X4_crosses
theorem dL_crosses_0 : decode cL_crosses 0 = .ok (.aload_n 0, 1) := by decide +kernel
theorem dL_crosses_1 : decode cL_crosses 1 = .ok (.iload_n 1, 1) := by decide +kernel
theorem dL_crosses_2 : decode cL_crosses 2 = .ok (.invokevirtual 81, 3) := by decide +kernel
theorem dL_crosses_5 : decode cL_crosses 5 = .ok (.ireturn, 1) := by decide +kernel
theorem dL_crosses_6 : decode cL_crosses 6 = .ok (.astore_n 2, 1) := by decide +kernel
theorem dL_crosses_7 : decode cL_crosses 7 = .ok (.ldc 16, 2) := by decide +kernel
theorem dL_crosses_9 : decode cL_crosses 9 = .ok (.ireturn, 1) := by decide +kernel
set_option maxRecDepth 20000 in
theorem ggL_bends_X4_bends : GoodIn wsL_bends wsX4_bends := goodIn_ca (goodIn_ca (goodIn_r _ [8, 9, 10, 11, 12, 13, 14, 15, 16, 17, 18, 19, 20, 21, 22, 23, 7, 24, 25, 26, 27, 28, 29, 30, 31, 32, 33, 34, 35, 36, 37] (by decide +kernel) (by decide +kernel)) (goodIn_sub (fun _ h => List.mem_cons_of_mem _ (List.mem_append_left _ (List.mem_append_right _ h))) (by decide +kernel))) (goodIn_sub (fun _ h => List.mem_cons_of_mem _ (List.mem_append_right _ h)) (by decide +kernel))
set_option maxRecDepth 20000 in
theorem gL_bends_X4_bends : GoodIn wsL_bends (wsV RL 84 RX4 yX4_bends wsX4_bends) := goodIn_app (goodIn_of _ (by decide +kernel)) ggL_bends_X4_bends
theorem dL_bends_0 : decode cL_bends 0 = .ok (.aload_n 0, 1) := by decide +kernel
theorem dL_bends_1 : decode cL_bends 1 = .ok (.iload_n 1, 1) := by decide +kernel
theorem dL_bends_2 : decode cL_bends 2 = .ok (.iload_n 2, 1) := by decide +kernel
theorem dL_bends_3 : decode cL_bends 3 = .ok (.invokevirtual 84, 3) := by decide +kernel
theorem dL_bends_6 : decode cL_bends 6 = .ok (.ireturn, 1) := by decide +kernel
theorem dL_bends_7 : decode cL_bends 7 = .ok (.astore_n 3, 1) := by decide +kernel
theorem dL_bends_8 : decode cL_bends 8 = .ok (.ldc 16, 2) := by decide +kernel
theorem dL_bends_10 : decode cL_bends 10 = .ok (.ireturn, 1) := by decide +kernel
theorem dL_bends_11 : decode cL_bends 11 = .ok (.astore_n 3, 1) := by decide +kernel
theorem dL_bends_12 : decode cL_bends 12 = .ok (.ldc 16, 2) := by decide +kernel
theorem dL_bends_14 : decode cL_bends 14 = .ok (.ireturn, 1) := by decide +kernel
set_option maxRecDepth 20000 in
theorem ggL_history_X4_history : GoodIn wsL_history wsX4_history := goodIn_ca (goodIn_r _ [7, 8, 9, 10, 11, 12, 13, 14, 6, 15, 16, 17, 18, 19, 20, 21, 22, 23, 24, 25, 26, 27, 28, 29, 30, 31, 32, 33, 34, 35, 36, 37, 38, 39, 40, 41, 42, 43, 44, 45, 46, 47, 48, 49, 50, 51, 52, 53, 54, 55, 56, 57, 58, 59, 60, 61, 62, 63, 64, 65] (by decide +kernel) (by decide +kernel)) (goodIn_sub (fun _ h => List.mem_cons_of_mem _ (List.mem_append_right _ h)) (by decide +kernel))
set_option maxRecDepth 20000 in
theorem gL_history_X4_history : GoodIn wsL_history (wsV RL 87 RX4 yX4_history wsX4_history) := goodIn_app (goodIn_of _ (by decide +kernel)) ggL_history_X4_history
theorem dL_history_0 : decode cL_history 0 = .ok (.aload_n 0, 1) := by decide +kernel
theorem dL_history_1 : decode cL_history 1 = .ok (.iload_n 1, 1) := by decide +kernel
theorem dL_history_2 : decode cL_history 2 = .ok (.iload_n 2, 1) := by decide +kernel
theorem dL_history_3 : decode cL_history 3 = .ok (.invokevirtual 87, 3) := by decide +kernel
theorem dL_history_6 : decode cL_history 6 = .ok (.ireturn, 1) := by decide +kernel
theorem dL_history_7 : decode cL_history 7 = .ok (.astore_n 3, 1) := by decide +kernel
theorem dL_history_8 : decode cL_history 8 = .ok (.ldc 16, 2) := by decide +kernel
theorem dL_history_10 : decode cL_history 10 = .ok (.ireturn, 1) := by decide +kernel
