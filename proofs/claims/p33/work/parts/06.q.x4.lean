set_option maxRecDepth 20000 in
theorem ggX4_init_X0_init : GoodIn wsX4_init wsX0_init := goodIn_r _ [29, 30, 2, 3, 31, 32, 33, 34, 131, 132] (by decide +kernel) (by decide +kernel)
set_option maxRecDepth 20000 in
theorem gX4_init_X0_init_n11 : GoodIn wsX4_init (wsX0_init) := ggX4_init_X0_init
set_option maxRecDepth 20000 in
theorem ggX4_init_Jx4a65c_init_da8c8 : GoodIn wsX4_init wsJx4a65c_init_da8c8 := goodIn_r _ [37, 38, 39, 40, 41, 42, 43, 44, 45, 46, 47, 48, 49, 2, 3, 142, 143, 144] (by decide +kernel) (by decide +kernel)
set_option maxRecDepth 20000 in
theorem gX4_init_Jx4a65c_init_da8c8 : GoodIn wsX4_init (wsJx4a65c_init_da8c8) := ggX4_init_Jx4a65c_init_da8c8
set_option maxRecDepth 20000 in
theorem ggX4_init_X3_init : GoodIn wsX4_init wsX3_init := goodIn_r _ [51, 52, 2, 3, 31, 53, 54, 145, 146] (by decide +kernel) (by decide +kernel)
set_option maxRecDepth 20000 in
theorem gX4_init_X3_init_n25 : GoodIn wsX4_init (wsX3_init) := ggX4_init_X3_init
set_option maxRecDepth 20000 in
theorem ggX4_init_X1_init : GoodIn wsX4_init wsX1_init := goodIn_r _ [56, 57, 2, 3, 31, 58, 59, 60, 61, 147, 148, 149, 150, 151, 152, 153, 154, 155] (by decide +kernel) (by decide +kernel)
set_option maxRecDepth 20000 in
theorem gX4_init_X1_init_n38 : GoodIn wsX4_init (wsX1_init) := ggX4_init_X1_init
set_option maxRecDepth 20000 in
theorem ggX4_init_X2_init : GoodIn wsX4_init wsX2_init := goodIn_r _ [64, 65, 2, 3, 31, 66, 67, 68, 69, 70, 71, 72, 73, 74, 75, 76, 27, 77, 156, 157, 158, 159, 160, 161, 162, 163] (by decide +kernel) (by decide +kernel)
set_option maxRecDepth 20000 in
theorem gX4_init_X2_init : GoodIn wsX4_init (wsX2_init) := ggX4_init_X2_init
set_option maxRecDepth 20000 in
theorem ggX4_init_Jx4a65c_add_9ea2d : GoodIn wsX4_init wsJx4a65c_add_9ea2d := goodIn_r _ [81, 82, 83, 39, 84, 85, 86, 87, 10, 88, 89, 90, 91, 92, 93, 94, 95, 96, 38, 97, 98, 99, 100, 101, 102, 103, 104, 105, 106, 107, 108, 109, 110, 111, 112, 113, 114, 115, 116, 117, 118, 119, 120, 121, 122, 123, 124, 125, 126, 127, 128, 129, 130, 142, 143, 144] (by decide +kernel) (by decide +kernel)
set_option maxRecDepth 20000 in
theorem gX4_init_Jx4a65c_add_9ea2d : GoodIn wsX4_init (wsV RX4 58 RJx4a65c yJx4a65c_add_9ea2d wsJx4a65c_add_9ea2d) := goodIn_app (goodIn_of _ (by decide +kernel)) ggX4_init_Jx4a65c_add_9ea2d
theorem dX4_init_0 : decode cX4_init 0 = .ok (.aload_n 0, 1) := by decide +kernel
theorem dX4_init_1 : decode cX4_init 1 = .ok (.invokespecial 3, 3) := by decide +kernel
theorem dX4_init_4 : decode cX4_init 4 = .ok (.aload_n 0, 1) := by decide +kernel
theorem dX4_init_5 : decode cX4_init 5 = .ok (.new 9, 3) := by decide +kernel
theorem dX4_init_8 : decode cX4_init 8 = .ok (.dup, 1) := by decide +kernel
theorem dX4_init_9 : decode cX4_init 9 = .ok (.invokespecial 11, 3) := by decide +kernel
theorem dX4_init_12 : decode cX4_init 12 = .ok (.putfield 12, 3) := by decide +kernel
theorem dX4_init_15 : decode cX4_init 15 = .ok (.aload_n 0, 1) := by decide +kernel
theorem dX4_init_16 : decode cX4_init 16 = .ok (.new 16, 3) := by decide +kernel
theorem dX4_init_19 : decode cX4_init 19 = .ok (.dup, 1) := by decide +kernel
theorem dX4_init_20 : decode cX4_init 20 = .ok (.invokespecial 18, 3) := by decide +kernel
theorem dX4_init_23 : decode cX4_init 23 = .ok (.putfield 19, 3) := by decide +kernel
theorem dX4_init_26 : decode cX4_init 26 = .ok (.aload_n 0, 1) := by decide +kernel
theorem dX4_init_27 : decode cX4_init 27 = .ok (.new 23, 3) := by decide +kernel
theorem dX4_init_30 : decode cX4_init 30 = .ok (.dup, 1) := by decide +kernel
theorem dX4_init_31 : decode cX4_init 31 = .ok (.invokespecial 25, 3) := by decide +kernel
theorem dX4_init_34 : decode cX4_init 34 = .ok (.putfield 26, 3) := by decide +kernel
theorem dX4_init_37 : decode cX4_init 37 = .ok (.aload_n 0, 1) := by decide +kernel
theorem dX4_init_38 : decode cX4_init 38 = .ok (.new 23, 3) := by decide +kernel
theorem dX4_init_41 : decode cX4_init 41 = .ok (.dup, 1) := by decide +kernel
theorem dX4_init_42 : decode cX4_init 42 = .ok (.invokespecial 25, 3) := by decide +kernel
theorem dX4_init_45 : decode cX4_init 45 = .ok (.putfield 30, 3) := by decide +kernel
theorem dX4_init_48 : decode cX4_init 48 = .ok (.aload_n 0, 1) := by decide +kernel
theorem dX4_init_49 : decode cX4_init 49 = .ok (.new 23, 3) := by decide +kernel
theorem dX4_init_52 : decode cX4_init 52 = .ok (.dup, 1) := by decide +kernel
theorem dX4_init_53 : decode cX4_init 53 = .ok (.invokespecial 25, 3) := by decide +kernel
theorem dX4_init_56 : decode cX4_init 56 = .ok (.putfield 33, 3) := by decide +kernel
theorem dX4_init_59 : decode cX4_init 59 = .ok (.aload_n 0, 1) := by decide +kernel
theorem dX4_init_60 : decode cX4_init 60 = .ok (.new 36, 3) := by decide +kernel
theorem dX4_init_63 : decode cX4_init 63 = .ok (.dup, 1) := by decide +kernel
theorem dX4_init_64 : decode cX4_init 64 = .ok (.invokespecial 38, 3) := by decide +kernel
theorem dX4_init_67 : decode cX4_init 67 = .ok (.putfield 39, 3) := by decide +kernel
theorem dX4_init_70 : decode cX4_init 70 = .ok (.aload_n 0, 1) := by decide +kernel
theorem dX4_init_71 : decode cX4_init 71 = .ok (.iconst 2, 1) := by decide +kernel
theorem dX4_init_72 : decode cX4_init 72 = .ok (.putfield 43, 3) := by decide +kernel
theorem dX4_init_75 : decode cX4_init 75 = .ok (.aload_n 0, 1) := by decide +kernel
theorem dX4_init_76 : decode cX4_init 76 = .ok (.bipush 20, 2) := by decide +kernel
theorem dX4_init_78 : decode cX4_init 78 = .ok (.putfield 47, 3) := by decide +kernel
theorem dX4_init_81 : decode cX4_init 81 = .ok (.aload_n 0, 1) := by decide +kernel
theorem dX4_init_82 : decode cX4_init 82 = .ok (.iconst 0, 1) := by decide +kernel
theorem dX4_init_83 : decode cX4_init 83 = .ok (.putfield 50, 3) := by decide +kernel
theorem dX4_init_86 : decode cX4_init 86 = .ok (.aload_n 0, 1) := by decide +kernel
theorem dX4_init_87 : decode cX4_init 87 = .ok (.getfield 19, 3) := by decide +kernel
theorem dX4_init_90 : decode cX4_init 90 = .ok (.new 53, 3) := by decide +kernel
theorem dX4_init_93 : decode cX4_init 93 = .ok (.dup, 1) := by decide +kernel
theorem dX4_init_94 : decode cX4_init 94 = .ok (.iconst 0, 1) := by decide +kernel
theorem dX4_init_95 : decode cX4_init 95 = .ok (.invokespecial 55, 3) := by decide +kernel
theorem dX4_init_98 : decode cX4_init 98 = .ok (.invokevirtual 58, 3) := by decide +kernel
theorem dX4_init_101 : decode cX4_init 101 = .ok (.pop, 1) := by decide +kernel
theorem dX4_init_102 : decode cX4_init 102 = .ok (.return_, 1) := by decide +kernel
set_option maxRecDepth 20000 in
theorem ggX4_divide_X4_thePiece : GoodIn wsX4_divide wsX4_thePiece := goodIn_ca (goodIn_r _ [17, 18, 19, 6, 7, 20, 21, 22, 23, 16, 24, 25, 26, 27, 28, 29, 30, 31, 32, 33, 34, 35, 36, 37, 38, 39, 40, 41, 42, 43, 44, 45, 46, 47, 48, 49, 50, 51, 52, 53, 185, 186, 187, 188, 189, 190, 191, 192, 193, 202, 203, 204, 205, 206] (by decide +kernel) (by decide +kernel)) (goodIn_sub (fun _ h => List.mem_cons_of_mem _ (List.mem_append_right _ h)) (by decide +kernel))
set_option maxRecDepth 20000 in
theorem gX4_divide_X4_thePiece : GoodIn wsX4_divide (wsV RX4 62 RX4 yX4_thePiece wsX4_thePiece) := goodIn_app (goodIn_of _ (by decide +kernel)) ggX4_divide_X4_thePiece
set_option maxRecDepth 20000 in
theorem ggX4_divide_X4_isLine : GoodIn wsX4_divide wsX4_isLine := goodIn_r _ [56, 57, 58, 16, 59] (by decide +kernel) (by decide +kernel)
set_option maxRecDepth 20000 in
theorem gX4_divide_X4_isLine : GoodIn wsX4_divide (va_wsS RX4 66 yX4_isLine wsX4_isLine) := goodIn_app (goodIn_of _ (by decide +kernel)) ggX4_divide_X4_isLine
set_option maxRecDepth 20000 in
theorem ggX4_divide_X3_trace : GoodIn wsX4_divide wsX3_trace := goodIn_r _ [64, 65, 66, 67, 68, 34, 69, 36, 207, 208, 205, 206] (by decide +kernel) (by decide +kernel)
set_option maxRecDepth 20000 in
theorem gX4_divide_X3_trace : GoodIn wsX4_divide (wsV RX4 77 RX3 yX3_trace wsX3_trace) := goodIn_app (goodIn_of _ (by decide +kernel)) ggX4_divide_X3_trace
set_option maxRecDepth 20000 in
theorem ggX4_divide_X4_splitWhole : GoodIn wsX4_divide wsX4_splitWhole := goodIn_r _ [73, 8, 5, 9, 74, 75, 76, 63, 77, 65, 78, 79, 80, 185, 186, 187, 188, 189, 190, 191, 192, 193, 207, 208] (by decide +kernel) (by decide +kernel)
set_option maxRecDepth 20000 in
theorem gX4_divide_X4_splitWhole : GoodIn wsX4_divide (wsV RX4 81 RX4 yX4_splitWhole wsX4_splitWhole) := goodIn_app (goodIn_of _ (by decide +kernel)) ggX4_divide_X4_splitWhole
set_option maxRecDepth 20000 in
theorem ggX4_divide_Jx4a65c_size_8abf5 : GoodIn wsX4_divide wsJx4a65c_size_8abf5 := goodIn_r _ [29, 30, 202, 203, 204] (by decide +kernel) (by decide +kernel)
set_option maxRecDepth 20000 in
theorem gX4_divide_Jx4a65c_size_8abf5 : GoodIn wsX4_divide (wsV RX4 88 RJx4a65c yJx4a65c_size_8abf5 wsJx4a65c_size_8abf5) := goodIn_app (goodIn_of _ (by decide +kernel)) ggX4_divide_Jx4a65c_size_8abf5
set_option maxRecDepth 20000 in
theorem ggX4_divide_X3_isOnePart : GoodIn wsX4_divide wsX3_isOnePart := goodIn_r _ [84, 85, 86, 87, 63, 88, 89, 65, 90, 91, 92, 93, 94, 95, 96, 97, 98, 99, 100, 101, 102, 103, 104, 207, 208] (by decide +kernel) (by decide +kernel)
set_option maxRecDepth 20000 in
theorem gX4_divide_X3_isOnePart : GoodIn wsX4_divide (wsV RX4 92 RX3 yX3_isOnePart wsX3_isOnePart) := goodIn_app (goodIn_of _ (by decide +kernel)) ggX4_divide_X3_isOnePart
set_option maxRecDepth 20000 in
theorem ggX4_divide_X2_init : GoodIn wsX4_divide wsX2_init := goodIn_r _ [107, 108, 109, 110, 111, 112, 113, 114, 115, 116, 117, 118, 119, 120, 121, 122, 12, 123, 194, 195, 196, 197, 198, 199, 200, 201] (by decide +kernel) (by decide +kernel)
set_option maxRecDepth 20000 in
theorem gX4_divide_X2_init : GoodIn wsX4_divide (wsX2_init) := ggX4_divide_X2_init
set_option maxRecDepth 20000 in
theorem ggX4_divide_Jx4a65c_add_9ea2d : GoodIn wsX4_divide wsJx4a65c_add_9ea2d := goodIn_r _ [127, 128, 129, 53, 30, 130, 131, 132, 28, 133, 134, 135, 136, 137, 138, 139, 140, 141, 142, 143, 144, 145, 146, 147, 148, 149, 150, 151, 152, 153, 154, 155, 156, 157, 158, 92, 159, 160, 161, 162, 163, 164, 165, 166, 167, 168, 169, 170, 171, 172, 173, 174, 175, 202, 203, 204] (by decide +kernel) (by decide +kernel)
set_option maxRecDepth 20000 in
theorem gX4_divide_Jx4a65c_add_9ea2d : GoodIn wsX4_divide (wsV RX4 58 RJx4a65c yJx4a65c_add_9ea2d wsJx4a65c_add_9ea2d) := goodIn_app (goodIn_of _ (by decide +kernel)) ggX4_divide_Jx4a65c_add_9ea2d
set_option maxRecDepth 20000 in
theorem ggX4_divide_X0_hand_ : GoodIn wsX4_divide wsX0_hand_ := goodIn_r _ [179, 36, 180, 181, 182, 63, 183, 65, 205, 206, 207, 208] (by decide +kernel) (by decide +kernel)
set_option maxRecDepth 20000 in
theorem gX4_divide_X0_hand_ : GoodIn wsX4_divide (wsV RX4 104 RX0 yX0_hand_ wsX0_hand_) := goodIn_app (goodIn_of _ (by decide +kernel)) ggX4_divide_X0_hand_
set_option maxRecDepth 20000 in
theorem ggX4_divide_X2_note : GoodIn wsX4_divide wsX2_note := goodIn_r _ [123, 117, 114, 194, 195, 196, 197, 198, 199, 200, 201] (by decide +kernel) (by decide +kernel)
set_option maxRecDepth 20000 in
theorem gX4_divide_X2_note : GoodIn wsX4_divide (wsV RX4 108 RX2 yX2_note wsX2_note) := goodIn_app (goodIn_of _ (by decide +kernel)) ggX4_divide_X2_note
theorem dX4_divide_0 : decode cX4_divide 0 = .ok (.aload_n 0, 1) := by decide +kernel
theorem dX4_divide_1 : decode cX4_divide 1 = .ok (.iload_n 1, 1) := by decide +kernel
theorem dX4_divide_2 : decode cX4_divide 2 = .ok (.invokevirtual 62, 3) := by decide +kernel
theorem dX4_divide_5 : decode cX4_divide 5 = .ok (.astore_n 3, 1) := by decide +kernel
theorem dX4_divide_6 : decode cX4_divide 6 = .ok (.iload_n 2, 1) := by decide +kernel
theorem dX4_divide_7 : decode cX4_divide 7 = .ok (.invokestatic 66, 3) := by decide +kernel
theorem dX4_divide_10 : decode cX4_divide 10 = .ok (.ifCond .ne 13, 3) := by decide +kernel
theorem dX4_divide_13 : decode cX4_divide 13 = .ok (.new 70, 3) := by decide +kernel
theorem dX4_divide_16 : decode cX4_divide 16 = .ok (.dup, 1) := by decide +kernel
theorem dX4_divide_17 : decode cX4_divide 17 = .ok (.ldc 72, 2) := by decide +kernel
theorem dX4_divide_19 : decode cX4_divide 19 = .ok (.invokespecial 74, 3) := by decide +kernel
theorem dX4_divide_22 : decode cX4_divide 22 = .ok (.athrow, 1) := by decide +kernel
theorem dX4_divide_23 : decode cX4_divide 23 = .ok (.aload_n 0, 1) := by decide +kernel
theorem dX4_divide_24 : decode cX4_divide 24 = .ok (.getfield 26, 3) := by decide +kernel
theorem dX4_divide_27 : decode cX4_divide 27 = .ok (.aload_n 0, 1) := by decide +kernel
theorem dX4_divide_28 : decode cX4_divide 28 = .ok (.getfield 12, 3) := by decide +kernel
theorem dX4_divide_31 : decode cX4_divide 31 = .ok (.iload_n 1, 1) := by decide +kernel
theorem dX4_divide_32 : decode cX4_divide 32 = .ok (.invokevirtual 77, 3) := by decide +kernel
theorem dX4_divide_35 : decode cX4_divide 35 = .ok (.aload_n 0, 1) := by decide +kernel
theorem dX4_divide_36 : decode cX4_divide 36 = .ok (.iload_n 2, 1) := by decide +kernel
theorem dX4_divide_37 : decode cX4_divide 37 = .ok (.invokevirtual 81, 3) := by decide +kernel
theorem dX4_divide_40 : decode cX4_divide 40 = .ok (.aload_n 3, 1) := by decide +kernel
theorem dX4_divide_41 : decode cX4_divide 41 = .ok (.getfield 84, 3) := by decide +kernel
theorem dX4_divide_44 : decode cX4_divide 44 = .ok (.ifCond .ne 35, 3) := by decide +kernel
theorem dX4_divide_47 : decode cX4_divide 47 = .ok (.aload_n 0, 1) := by decide +kernel
theorem dX4_divide_48 : decode cX4_divide 48 = .ok (.getfield 19, 3) := by decide +kernel
theorem dX4_divide_51 : decode cX4_divide 51 = .ok (.invokevirtual 88, 3) := by decide +kernel
theorem dX4_divide_54 : decode cX4_divide 54 = .ok (.bipush 60, 2) := by decide +kernel
theorem dX4_divide_56 : decode cX4_divide 56 = .ok (.if_icmp .ge 23, 3) := by decide +kernel
theorem dX4_divide_59 : decode cX4_divide 59 = .ok (.aload_n 0, 1) := by decide +kernel
theorem dX4_divide_60 : decode cX4_divide 60 = .ok (.getfield 30, 3) := by decide +kernel
theorem dX4_divide_63 : decode cX4_divide 63 = .ok (.invokevirtual 92, 3) := by decide +kernel
theorem dX4_divide_66 : decode cX4_divide 66 = .ok (.ifCond .eq 13, 3) := by decide +kernel
theorem dX4_divide_69 : decode cX4_divide 69 = .ok (.aload_n 0, 1) := by decide +kernel
theorem dX4_divide_70 : decode cX4_divide 70 = .ok (.getfield 33, 3) := by decide +kernel
theorem dX4_divide_73 : decode cX4_divide 73 = .ok (.invokevirtual 92, 3) := by decide +kernel
theorem dX4_divide_76 : decode cX4_divide 76 = .ok (.ifCond .ne 13, 3) := by decide +kernel
theorem dX4_divide_79 : decode cX4_divide 79 = .ok (.new 96, 3) := by decide +kernel
theorem dX4_divide_82 : decode cX4_divide 82 = .ok (.dup, 1) := by decide +kernel
theorem dX4_divide_83 : decode cX4_divide 83 = .ok (.ldc 98, 2) := by decide +kernel
theorem dX4_divide_85 : decode cX4_divide 85 = .ok (.invokespecial 100, 3) := by decide +kernel
theorem dX4_divide_88 : decode cX4_divide 88 = .ok (.athrow, 1) := by decide +kernel
theorem dX4_divide_89 : decode cX4_divide 89 = .ok (.aload_n 0, 1) := by decide +kernel
theorem dX4_divide_90 : decode cX4_divide 90 = .ok (.getfield 19, 3) := by decide +kernel
theorem dX4_divide_93 : decode cX4_divide 93 = .ok (.invokevirtual 88, 3) := by decide +kernel
theorem dX4_divide_96 : decode cX4_divide 96 = .ok (.istore 4, 2) := by decide +kernel
theorem dX4_divide_98 : decode cX4_divide 98 = .ok (.aload_n 0, 1) := by decide +kernel
theorem dX4_divide_99 : decode cX4_divide 99 = .ok (.getfield 19, 3) := by decide +kernel
theorem dX4_divide_102 : decode cX4_divide 102 = .ok (.new 53, 3) := by decide +kernel
theorem dX4_divide_105 : decode cX4_divide 105 = .ok (.dup, 1) := by decide +kernel
theorem dX4_divide_106 : decode cX4_divide 106 = .ok (.aload_n 3, 1) := by decide +kernel
theorem dX4_divide_107 : decode cX4_divide 107 = .ok (.getfield 101, 3) := by decide +kernel
theorem dX4_divide_110 : decode cX4_divide 110 = .ok (.invokespecial 55, 3) := by decide +kernel
theorem dX4_divide_113 : decode cX4_divide 113 = .ok (.invokevirtual 58, 3) := by decide +kernel
theorem dX4_divide_116 : decode cX4_divide 116 = .ok (.pop, 1) := by decide +kernel
theorem dX4_divide_117 : decode cX4_divide 117 = .ok (.aload_n 0, 1) := by decide +kernel
theorem dX4_divide_118 : decode cX4_divide 118 = .ok (.getfield 12, 3) := by decide +kernel
theorem dX4_divide_121 : decode cX4_divide 121 = .ok (.aload_n 0, 1) := by decide +kernel
theorem dX4_divide_122 : decode cX4_divide 122 = .ok (.getfield 33, 3) := by decide +kernel
theorem dX4_divide_125 : decode cX4_divide 125 = .ok (.iload 4, 2) := by decide +kernel
theorem dX4_divide_127 : decode cX4_divide 127 = .ok (.invokevirtual 104, 3) := by decide +kernel
theorem dX4_divide_130 : decode cX4_divide 130 = .ok (.aload_n 3, 1) := by decide +kernel
theorem dX4_divide_131 : decode cX4_divide 131 = .ok (.iconst 2, 1) := by decide +kernel
theorem dX4_divide_132 : decode cX4_divide 132 = .ok (.invokevirtual 108, 3) := by decide +kernel
theorem dX4_divide_135 : decode cX4_divide 135 = .ok (.iload 4, 2) := by decide +kernel
theorem dX4_divide_137 : decode cX4_divide 137 = .ok (.ireturn, 1) := by decide +kernel
set_option maxRecDepth 20000 in
theorem ggX4_give_X4_theOwner : GoodIn wsX4_give wsX4_theOwner := goodIn_ca (goodIn_r _ [9, 10, 11, 3, 12, 13, 14, 15, 16, 17, 114, 115, 116, 117, 118, 119, 120, 121, 122, 123, 124] (by decide +kernel) (by decide +kernel)) (goodIn_sub (fun _ h => List.mem_cons_of_mem _ (List.mem_append_right _ h)) (by decide +kernel))
set_option maxRecDepth 20000 in
theorem gX4_give_X4_theOwner : GoodIn wsX4_give (wsV RX4 111 RX4 yX4_theOwner wsX4_theOwner) := goodIn_app (goodIn_of _ (by decide +kernel)) ggX4_give_X4_theOwner
set_option maxRecDepth 20000 in
theorem ggX4_give_X4_thePiece : GoodIn wsX4_give wsX4_thePiece := goodIn_ca (goodIn_r _ [21, 10, 11, 3, 22, 23, 24, 25, 26, 8, 27, 28, 29, 30, 31, 32, 33, 34, 35, 36, 15, 37, 17, 38, 39, 40, 41, 42, 43, 44, 45, 46, 47, 48, 49, 50, 51, 52, 53, 54, 114, 115, 116, 117, 118, 119, 120, 121, 122, 125, 126, 127, 123, 124] (by decide +kernel) (by decide +kernel)) (goodIn_sub (fun _ h => List.mem_cons_of_mem _ (List.mem_append_right _ h)) (by decide +kernel))
set_option maxRecDepth 20000 in
theorem gX4_give_X4_thePiece : GoodIn wsX4_give (wsV RX4 62 RX4 yX4_thePiece wsX4_thePiece) := goodIn_app (goodIn_of _ (by decide +kernel)) ggX4_give_X4_thePiece
set_option maxRecDepth 20000 in
theorem ggX4_give_X0_touches : GoodIn wsX4_give wsX0_touches := goodIn_r _ [58, 59, 13, 14, 15, 16, 17, 123, 124] (by decide +kernel) (by decide +kernel)
set_option maxRecDepth 20000 in
theorem gX4_give_X0_touches : GoodIn wsX4_give (wsV RX4 115 RX0 yX0_touches wsX0_touches) := goodIn_app (goodIn_of _ (by decide +kernel)) ggX4_give_X0_touches
set_option maxRecDepth 20000 in
theorem ggX4_give_X3_trace : GoodIn wsX4_give wsX3_trace := goodIn_r _ [64, 65, 66, 13, 14, 15, 16, 17, 128, 129, 123, 124] (by decide +kernel) (by decide +kernel)
set_option maxRecDepth 20000 in
theorem gX4_give_X3_trace : GoodIn wsX4_give (wsV RX4 77 RX3 yX3_trace wsX3_trace) := goodIn_app (goodIn_of _ (by decide +kernel)) ggX4_give_X3_trace
set_option maxRecDepth 20000 in
theorem ggX4_give_X3_leave : GoodIn wsX4_give wsX3_leave := goodIn_r _ [70, 65, 128, 129] (by decide +kernel) (by decide +kernel)
set_option maxRecDepth 20000 in
theorem gX4_give_X3_leave : GoodIn wsX4_give (wsV RX4 121 RX3 yX3_leave wsX3_leave) := goodIn_app (goodIn_of _ (by decide +kernel)) ggX4_give_X3_leave
set_option maxRecDepth 20000 in
theorem ggX4_give_X3_isOnePart : GoodIn wsX4_give wsX3_isOnePart := goodIn_r _ [74, 75, 76, 77, 63, 78, 79, 65, 80, 81, 82, 83, 84, 85, 86, 87, 88, 89, 90, 91, 92, 93, 94, 128, 129] (by decide +kernel) (by decide +kernel)
set_option maxRecDepth 20000 in
theorem gX4_give_X3_isOnePart : GoodIn wsX4_give (wsV RX4 92 RX3 yX3_isOnePart wsX3_isOnePart) := goodIn_app (goodIn_of _ (by decide +kernel)) ggX4_give_X3_isOnePart
set_option maxRecDepth 20000 in
theorem ggX4_give_X0_hand : GoodIn wsX4_give wsX0_hand := goodIn_r _ [98, 17, 123, 124] (by decide +kernel) (by decide +kernel)
set_option maxRecDepth 20000 in
theorem gX4_give_X0_hand : GoodIn wsX4_give (wsV RX4 126 RX0 yX0_hand wsX0_hand) := goodIn_app (goodIn_of _ (by decide +kernel)) ggX4_give_X0_hand
set_option maxRecDepth 20000 in
theorem ggX4_give_X2_note : GoodIn wsX4_give wsX2_note := goodIn_r _ [103, 104, 105, 106, 107, 108, 109, 110, 111, 112, 113] (by decide +kernel) (by decide +kernel)
set_option maxRecDepth 20000 in
theorem gX4_give_X2_note : GoodIn wsX4_give (wsV RX4 108 RX2 yX2_note wsX2_note) := goodIn_app (goodIn_of _ (by decide +kernel)) ggX4_give_X2_note
theorem dX4_give_0 : decode cX4_give 0 = .ok (.aload_n 0, 1) := by decide +kernel
theorem dX4_give_1 : decode cX4_give 1 = .ok (.iload_n 1, 1) := by decide +kernel
theorem dX4_give_2 : decode cX4_give 2 = .ok (.invokevirtual 111, 3) := by decide +kernel
theorem dX4_give_5 : decode cX4_give 5 = .ok (.istore_n 3, 1) := by decide +kernel
theorem dX4_give_6 : decode cX4_give 6 = .ok (.aload_n 0, 1) := by decide +kernel
theorem dX4_give_7 : decode cX4_give 7 = .ok (.iload_n 3, 1) := by decide +kernel
theorem dX4_give_8 : decode cX4_give 8 = .ok (.invokevirtual 62, 3) := by decide +kernel
theorem dX4_give_11 : decode cX4_give 11 = .ok (.astore 4, 2) := by decide +kernel
theorem dX4_give_13 : decode cX4_give 13 = .ok (.aload_n 0, 1) := by decide +kernel
theorem dX4_give_14 : decode cX4_give 14 = .ok (.iload_n 2, 1) := by decide +kernel
theorem dX4_give_15 : decode cX4_give 15 = .ok (.invokevirtual 62, 3) := by decide +kernel
theorem dX4_give_18 : decode cX4_give 18 = .ok (.astore 5, 2) := by decide +kernel
theorem dX4_give_20 : decode cX4_give 20 = .ok (.iload_n 3, 1) := by decide +kernel
theorem dX4_give_21 : decode cX4_give 21 = .ok (.iload_n 2, 1) := by decide +kernel
theorem dX4_give_22 : decode cX4_give 22 = .ok (.if_icmp .eq 31, 3) := by decide +kernel
theorem dX4_give_25 : decode cX4_give 25 = .ok (.aload 4, 2) := by decide +kernel
theorem dX4_give_27 : decode cX4_give 27 = .ok (.getfield 84, 3) := by decide +kernel
theorem dX4_give_30 : decode cX4_give 30 = .ok (.ifCond .ne 23, 3) := by decide +kernel
theorem dX4_give_33 : decode cX4_give 33 = .ok (.aload 5, 2) := by decide +kernel
theorem dX4_give_35 : decode cX4_give 35 = .ok (.getfield 84, 3) := by decide +kernel
theorem dX4_give_38 : decode cX4_give 38 = .ok (.ifCond .ne 15, 3) := by decide +kernel
theorem dX4_give_41 : decode cX4_give 41 = .ok (.aload_n 0, 1) := by decide +kernel
theorem dX4_give_42 : decode cX4_give 42 = .ok (.getfield 12, 3) := by decide +kernel
theorem dX4_give_45 : decode cX4_give 45 = .ok (.iload_n 1, 1) := by decide +kernel
theorem dX4_give_46 : decode cX4_give 46 = .ok (.iload_n 2, 1) := by decide +kernel
theorem dX4_give_47 : decode cX4_give 47 = .ok (.invokevirtual 115, 3) := by decide +kernel
theorem dX4_give_50 : decode cX4_give 50 = .ok (.ifCond .ne 13, 3) := by decide +kernel
theorem dX4_give_53 : decode cX4_give 53 = .ok (.new 96, 3) := by decide +kernel
theorem dX4_give_56 : decode cX4_give 56 = .ok (.dup, 1) := by decide +kernel
theorem dX4_give_57 : decode cX4_give 57 = .ok (.ldc 119, 2) := by decide +kernel
theorem dX4_give_59 : decode cX4_give 59 = .ok (.invokespecial 100, 3) := by decide +kernel
theorem dX4_give_62 : decode cX4_give 62 = .ok (.athrow, 1) := by decide +kernel
theorem dX4_give_63 : decode cX4_give 63 = .ok (.aload_n 0, 1) := by decide +kernel
theorem dX4_give_64 : decode cX4_give 64 = .ok (.getfield 26, 3) := by decide +kernel
theorem dX4_give_67 : decode cX4_give 67 = .ok (.aload_n 0, 1) := by decide +kernel
theorem dX4_give_68 : decode cX4_give 68 = .ok (.getfield 12, 3) := by decide +kernel
theorem dX4_give_71 : decode cX4_give 71 = .ok (.iload_n 3, 1) := by decide +kernel
theorem dX4_give_72 : decode cX4_give 72 = .ok (.invokevirtual 77, 3) := by decide +kernel
theorem dX4_give_75 : decode cX4_give 75 = .ok (.aload_n 0, 1) := by decide +kernel
theorem dX4_give_76 : decode cX4_give 76 = .ok (.getfield 26, 3) := by decide +kernel
theorem dX4_give_79 : decode cX4_give 79 = .ok (.iload_n 1, 1) := by decide +kernel
theorem dX4_give_80 : decode cX4_give 80 = .ok (.invokevirtual 121, 3) := by decide +kernel
theorem dX4_give_83 : decode cX4_give 83 = .ok (.aload_n 0, 1) := by decide +kernel
theorem dX4_give_84 : decode cX4_give 84 = .ok (.getfield 26, 3) := by decide +kernel
theorem dX4_give_87 : decode cX4_give 87 = .ok (.invokevirtual 92, 3) := by decide +kernel
theorem dX4_give_90 : decode cX4_give 90 = .ok (.ifCond .ne 13, 3) := by decide +kernel
theorem dX4_give_93 : decode cX4_give 93 = .ok (.new 96, 3) := by decide +kernel
theorem dX4_give_96 : decode cX4_give 96 = .ok (.dup, 1) := by decide +kernel
theorem dX4_give_97 : decode cX4_give 97 = .ok (.ldc 124, 2) := by decide +kernel
theorem dX4_give_99 : decode cX4_give 99 = .ok (.invokespecial 100, 3) := by decide +kernel
theorem dX4_give_102 : decode cX4_give 102 = .ok (.athrow, 1) := by decide +kernel
theorem dX4_give_103 : decode cX4_give 103 = .ok (.aload_n 0, 1) := by decide +kernel
theorem dX4_give_104 : decode cX4_give 104 = .ok (.getfield 12, 3) := by decide +kernel
theorem dX4_give_107 : decode cX4_give 107 = .ok (.iload_n 1, 1) := by decide +kernel
theorem dX4_give_108 : decode cX4_give 108 = .ok (.iload_n 2, 1) := by decide +kernel
theorem dX4_give_109 : decode cX4_give 109 = .ok (.invokevirtual 126, 3) := by decide +kernel
theorem dX4_give_112 : decode cX4_give 112 = .ok (.aload 4, 2) := by decide +kernel
theorem dX4_give_114 : decode cX4_give 114 = .ok (.iconst 2, 1) := by decide +kernel
theorem dX4_give_115 : decode cX4_give 115 = .ok (.invokevirtual 108, 3) := by decide +kernel
theorem dX4_give_118 : decode cX4_give 118 = .ok (.aload 5, 2) := by decide +kernel
theorem dX4_give_120 : decode cX4_give 120 = .ok (.iconst 2, 1) := by decide +kernel
theorem dX4_give_121 : decode cX4_give 121 = .ok (.invokevirtual 108, 3) := by decide +kernel
theorem dX4_give_124 : decode cX4_give 124 = .ok (.iload_n 3, 1) := by decide +kernel
theorem dX4_give_125 : decode cX4_give 125 = .ok (.ireturn, 1) := by decide +kernel
set_option maxRecDepth 20000 in
theorem ggX4_join_X4_thePiece : GoodIn wsX4_join wsX4_thePiece := goodIn_ca (goodIn_r _ [9, 10, 11, 3, 12, 13, 14, 15, 16, 8, 17, 18, 19, 20, 21, 22, 23, 24, 25, 26, 27, 28, 29, 30, 31, 32, 33, 34, 35, 36, 37, 38, 39, 40, 41, 42, 43, 44, 45, 46, 104, 105, 106, 107, 108, 109, 110, 111, 112, 113, 114, 115, 116, 117] (by decide +kernel) (by decide +kernel)) (goodIn_sub (fun _ h => List.mem_cons_of_mem _ (List.mem_append_right _ h)) (by decide +kernel))
set_option maxRecDepth 20000 in
theorem gX4_join_X4_thePiece : GoodIn wsX4_join (wsV RX4 62 RX4 yX4_thePiece wsX4_thePiece) := goodIn_app (goodIn_of _ (by decide +kernel)) ggX4_join_X4_thePiece
set_option maxRecDepth 20000 in
theorem ggX4_join_X0_adjoin : GoodIn wsX4_join wsX0_adjoin := goodIn_r _ [50, 29, 51, 52, 53, 27, 54, 55, 56, 57, 58, 116, 117] (by decide +kernel) (by decide +kernel)
set_option maxRecDepth 20000 in
theorem gX4_join_X0_adjoin : GoodIn wsX4_join (wsV RX4 129 RX0 yX0_adjoin wsX0_adjoin) := goodIn_app (goodIn_of _ (by decide +kernel)) ggX4_join_X0_adjoin
set_option maxRecDepth 20000 in
theorem ggX4_join_X3_trace : GoodIn wsX4_join wsX3_trace := goodIn_r _ [63, 64, 65, 56, 57, 27, 58, 29, 118, 119, 116, 117] (by decide +kernel) (by decide +kernel)
set_option maxRecDepth 20000 in
theorem gX4_join_X3_trace : GoodIn wsX4_join (wsV RX4 77 RX3 yX3_trace wsX3_trace) := goodIn_app (goodIn_of _ (by decide +kernel)) ggX4_join_X3_trace
set_option maxRecDepth 20000 in
theorem ggX4_join_X0_hand_ : GoodIn wsX4_join wsX0_hand_ := goodIn_r _ [69, 29, 70, 71, 72, 62, 73, 64, 116, 117, 118, 119] (by decide +kernel) (by decide +kernel)
set_option maxRecDepth 20000 in
theorem gX4_join_X0_hand_ : GoodIn wsX4_join (wsV RX4 104 RX0 yX0_hand_ wsX0_hand_) := goodIn_app (goodIn_of _ (by decide +kernel)) ggX4_join_X0_hand_
set_option maxRecDepth 20000 in
theorem ggX4_join_X2_note : GoodIn wsX4_join wsX2_note := goodIn_r _ [78, 79, 80, 96, 97, 98, 99, 100, 101, 102, 103] (by decide +kernel) (by decide +kernel)
set_option maxRecDepth 20000 in
theorem gX4_join_X2_note : GoodIn wsX4_join (wsV RX4 108 RX2 yX2_note wsX2_note) := goodIn_app (goodIn_of _ (by decide +kernel)) ggX4_join_X2_note
set_option maxRecDepth 20000 in
theorem ggX4_join_X4_shapeOf : GoodIn wsX4_join wsX4_shapeOf := goodIn_r _ [84, 4, 3, 59, 60, 61, 62, 63, 64, 65, 56, 57, 27, 58, 29, 104, 105, 106, 107, 108, 109, 110, 111, 112, 118, 119, 116, 117] (by decide +kernel) (by decide +kernel)
set_option maxRecDepth 20000 in
theorem gX4_join_X4_shapeOf : GoodIn wsX4_join (wsV RX4 134 RX4 yX4_shapeOf wsX4_shapeOf) := goodIn_app (goodIn_of _ (by decide +kernel)) ggX4_join_X4_shapeOf
set_option maxRecDepth 20000 in
theorem ggX4_join_X3_cellCount : GoodIn wsX4_join wsX3_cellCount := goodIn_r _ [88, 64, 89, 90, 91, 92, 93, 94, 95, 118, 119] (by decide +kernel) (by decide +kernel)
set_option maxRecDepth 20000 in
theorem gX4_join_X3_cellCount : GoodIn wsX4_join (wsV RX4 138 RX3 yX3_cellCount wsX3_cellCount) := goodIn_app (goodIn_of _ (by decide +kernel)) ggX4_join_X3_cellCount
theorem dX4_join_0 : decode cX4_join 0 = .ok (.aload_n 0, 1) := by decide +kernel
theorem dX4_join_1 : decode cX4_join 1 = .ok (.iload_n 1, 1) := by decide +kernel
theorem dX4_join_2 : decode cX4_join 2 = .ok (.invokevirtual 62, 3) := by decide +kernel
theorem dX4_join_5 : decode cX4_join 5 = .ok (.astore_n 3, 1) := by decide +kernel
theorem dX4_join_6 : decode cX4_join 6 = .ok (.aload_n 0, 1) := by decide +kernel
theorem dX4_join_7 : decode cX4_join 7 = .ok (.iload_n 2, 1) := by decide +kernel
theorem dX4_join_8 : decode cX4_join 8 = .ok (.invokevirtual 62, 3) := by decide +kernel
theorem dX4_join_11 : decode cX4_join 11 = .ok (.astore 4, 2) := by decide +kernel
theorem dX4_join_13 : decode cX4_join 13 = .ok (.iload_n 1, 1) := by decide +kernel
theorem dX4_join_14 : decode cX4_join 14 = .ok (.iload_n 2, 1) := by decide +kernel
theorem dX4_join_15 : decode cX4_join 15 = .ok (.if_icmp .eq 30, 3) := by decide +kernel
theorem dX4_join_18 : decode cX4_join 18 = .ok (.aload_n 3, 1) := by decide +kernel
theorem dX4_join_19 : decode cX4_join 19 = .ok (.getfield 84, 3) := by decide +kernel
theorem dX4_join_22 : decode cX4_join 22 = .ok (.ifCond .ne 23, 3) := by decide +kernel
theorem dX4_join_25 : decode cX4_join 25 = .ok (.aload 4, 2) := by decide +kernel
theorem dX4_join_27 : decode cX4_join 27 = .ok (.getfield 84, 3) := by decide +kernel
theorem dX4_join_30 : decode cX4_join 30 = .ok (.ifCond .ne 15, 3) := by decide +kernel
theorem dX4_join_33 : decode cX4_join 33 = .ok (.aload_n 0, 1) := by decide +kernel
theorem dX4_join_34 : decode cX4_join 34 = .ok (.getfield 12, 3) := by decide +kernel
theorem dX4_join_37 : decode cX4_join 37 = .ok (.iload_n 1, 1) := by decide +kernel
theorem dX4_join_38 : decode cX4_join 38 = .ok (.iload_n 2, 1) := by decide +kernel
theorem dX4_join_39 : decode cX4_join 39 = .ok (.invokevirtual 129, 3) := by decide +kernel
theorem dX4_join_42 : decode cX4_join 42 = .ok (.ifCond .ne 13, 3) := by decide +kernel
theorem dX4_join_45 : decode cX4_join 45 = .ok (.new 96, 3) := by decide +kernel
theorem dX4_join_48 : decode cX4_join 48 = .ok (.dup, 1) := by decide +kernel
theorem dX4_join_49 : decode cX4_join 49 = .ok (.ldc 132, 2) := by decide +kernel
theorem dX4_join_51 : decode cX4_join 51 = .ok (.invokespecial 100, 3) := by decide +kernel
theorem dX4_join_54 : decode cX4_join 54 = .ok (.athrow, 1) := by decide +kernel
theorem dX4_join_55 : decode cX4_join 55 = .ok (.aload_n 0, 1) := by decide +kernel
theorem dX4_join_56 : decode cX4_join 56 = .ok (.getfield 26, 3) := by decide +kernel
theorem dX4_join_59 : decode cX4_join 59 = .ok (.aload_n 0, 1) := by decide +kernel
theorem dX4_join_60 : decode cX4_join 60 = .ok (.getfield 12, 3) := by decide +kernel
theorem dX4_join_63 : decode cX4_join 63 = .ok (.iload_n 2, 1) := by decide +kernel
theorem dX4_join_64 : decode cX4_join 64 = .ok (.invokevirtual 77, 3) := by decide +kernel
theorem dX4_join_67 : decode cX4_join 67 = .ok (.aload_n 0, 1) := by decide +kernel
theorem dX4_join_68 : decode cX4_join 68 = .ok (.getfield 12, 3) := by decide +kernel
theorem dX4_join_71 : decode cX4_join 71 = .ok (.aload_n 0, 1) := by decide +kernel
theorem dX4_join_72 : decode cX4_join 72 = .ok (.getfield 26, 3) := by decide +kernel
theorem dX4_join_75 : decode cX4_join 75 = .ok (.iload_n 1, 1) := by decide +kernel
theorem dX4_join_76 : decode cX4_join 76 = .ok (.invokevirtual 104, 3) := by decide +kernel
theorem dX4_join_79 : decode cX4_join 79 = .ok (.aload_n 3, 1) := by decide +kernel
theorem dX4_join_80 : decode cX4_join 80 = .ok (.iconst 2, 1) := by decide +kernel
theorem dX4_join_81 : decode cX4_join 81 = .ok (.invokevirtual 108, 3) := by decide +kernel
theorem dX4_join_84 : decode cX4_join 84 = .ok (.aload 4, 2) := by decide +kernel
theorem dX4_join_86 : decode cX4_join 86 = .ok (.iconst 2, 1) := by decide +kernel
theorem dX4_join_87 : decode cX4_join 87 = .ok (.invokevirtual 108, 3) := by decide +kernel
theorem dX4_join_90 : decode cX4_join 90 = .ok (.aload_n 0, 1) := by decide +kernel
theorem dX4_join_91 : decode cX4_join 91 = .ok (.iload_n 1, 1) := by decide +kernel
theorem dX4_join_92 : decode cX4_join 92 = .ok (.invokevirtual 134, 3) := by decide +kernel
theorem dX4_join_95 : decode cX4_join 95 = .ok (.invokevirtual 138, 3) := by decide +kernel
theorem dX4_join_98 : decode cX4_join 98 = .ok (.ireturn, 1) := by decide +kernel
set_option maxRecDepth 20000 in
theorem ggX4_colour_X4_thePiece : GoodIn wsX4_colour wsX4_thePiece := goodIn_ca (goodIn_r _ [7, 8, 9, 10, 11, 12, 13, 14, 15, 6, 16, 17, 18, 19, 20, 21, 22, 23, 24, 25, 26, 27, 28, 29, 30, 31, 32, 33, 34, 35, 36, 37, 38, 39, 40, 41, 42, 43, 44, 45, 66, 67, 68, 69, 70, 71, 72, 73, 74, 75, 76, 77, 78, 79] (by decide +kernel) (by decide +kernel)) (goodIn_sub (fun _ h => List.mem_cons_of_mem _ (List.mem_append_left _ (List.mem_append_right _ h))) (by decide +kernel))
set_option maxRecDepth 20000 in
theorem gX4_colour_X4_thePiece : GoodIn wsX4_colour (wsV RX4 62 RX4 yX4_thePiece wsX4_thePiece) := goodIn_app (goodIn_of _ (by decide +kernel)) ggX4_colour_X4_thePiece
set_option maxRecDepth 20000 in
theorem ggX4_colour_X4_testColour : GoodIn wsX4_colour wsX4_testColour := goodIn_ca (goodIn_r _ [48, 49, 50] (by decide +kernel) (by decide +kernel)) (goodIn_sub (fun _ h => List.mem_cons_of_mem _ (List.mem_append_right _ h)) (by decide +kernel))
set_option maxRecDepth 20000 in
theorem gX4_colour_X4_testColour : GoodIn wsX4_colour (va_wsS RX4 141 yX4_testColour wsX4_testColour) := goodIn_app (goodIn_of _ (by decide +kernel)) ggX4_colour_X4_testColour
set_option maxRecDepth 20000 in
theorem ggX4_colour_X2_note : GoodIn wsX4_colour wsX2_note := goodIn_r _ [55, 56, 57, 58, 59, 60, 61, 62, 63, 64, 65] (by decide +kernel) (by decide +kernel)
set_option maxRecDepth 20000 in
theorem gX4_colour_X2_note : GoodIn wsX4_colour (wsV RX4 108 RX2 yX2_note wsX2_note) := goodIn_app (goodIn_of _ (by decide +kernel)) ggX4_colour_X2_note
theorem dX4_colour_0 : decode cX4_colour 0 = .ok (.aload_n 0, 1) := by decide +kernel
theorem dX4_colour_1 : decode cX4_colour 1 = .ok (.iload_n 1, 1) := by decide +kernel
theorem dX4_colour_2 : decode cX4_colour 2 = .ok (.invokevirtual 62, 3) := by decide +kernel
theorem dX4_colour_5 : decode cX4_colour 5 = .ok (.astore_n 3, 1) := by decide +kernel
theorem dX4_colour_6 : decode cX4_colour 6 = .ok (.iload_n 2, 1) := by decide +kernel
theorem dX4_colour_7 : decode cX4_colour 7 = .ok (.invokestatic 141, 3) := by decide +kernel
theorem dX4_colour_10 : decode cX4_colour 10 = .ok (.aload_n 3, 1) := by decide +kernel
theorem dX4_colour_11 : decode cX4_colour 11 = .ok (.getfield 84, 3) := by decide +kernel
theorem dX4_colour_14 : decode cX4_colour 14 = .ok (.ifCond .eq 13, 3) := by decide +kernel
theorem dX4_colour_17 : decode cX4_colour 17 = .ok (.new 96, 3) := by decide +kernel
theorem dX4_colour_20 : decode cX4_colour 20 = .ok (.dup, 1) := by decide +kernel
theorem dX4_colour_21 : decode cX4_colour 21 = .ok (.ldc 144, 2) := by decide +kernel
theorem dX4_colour_23 : decode cX4_colour 23 = .ok (.invokespecial 100, 3) := by decide +kernel
theorem dX4_colour_26 : decode cX4_colour 26 = .ok (.athrow, 1) := by decide +kernel
theorem dX4_colour_27 : decode cX4_colour 27 = .ok (.aload_n 3, 1) := by decide +kernel
theorem dX4_colour_28 : decode cX4_colour 28 = .ok (.getfield 101, 3) := by decide +kernel
theorem dX4_colour_31 : decode cX4_colour 31 = .ok (.istore 4, 2) := by decide +kernel
theorem dX4_colour_33 : decode cX4_colour 33 = .ok (.iload_n 2, 1) := by decide +kernel
theorem dX4_colour_34 : decode cX4_colour 34 = .ok (.iload 4, 2) := by decide +kernel
theorem dX4_colour_36 : decode cX4_colour 36 = .ok (.if_icmp .eq 13, 3) := by decide +kernel
theorem dX4_colour_39 : decode cX4_colour 39 = .ok (.aload_n 3, 1) := by decide +kernel
theorem dX4_colour_40 : decode cX4_colour 40 = .ok (.iload_n 2, 1) := by decide +kernel
theorem dX4_colour_41 : decode cX4_colour 41 = .ok (.putfield 101, 3) := by decide +kernel
theorem dX4_colour_44 : decode cX4_colour 44 = .ok (.aload_n 3, 1) := by decide +kernel
theorem dX4_colour_45 : decode cX4_colour 45 = .ok (.iconst 3, 1) := by decide +kernel
theorem dX4_colour_46 : decode cX4_colour 46 = .ok (.invokevirtual 108, 3) := by decide +kernel
theorem dX4_colour_49 : decode cX4_colour 49 = .ok (.iload 4, 2) := by decide +kernel
theorem dX4_colour_51 : decode cX4_colour 51 = .ok (.ireturn, 1) := by decide +kernel
set_option maxRecDepth 20000 in
theorem ggX4_finish_Jx4a65c_size_8abf5 : GoodIn wsX4_finish wsJx4a65c_size_8abf5 := goodIn_r _ [8, 9, 57, 58, 59] (by decide +kernel) (by decide +kernel)
set_option maxRecDepth 20000 in
theorem gX4_finish_Jx4a65c_size_8abf5 : GoodIn wsX4_finish (wsV RX4 88 RJx4a65c yJx4a65c_size_8abf5 wsJx4a65c_size_8abf5) := goodIn_app (goodIn_of _ (by decide +kernel)) ggX4_finish_Jx4a65c_size_8abf5
set_option maxRecDepth 20000 in
theorem ggX4_finish_Jx4a65c_get_915e3 : GoodIn wsX4_finish wsJx4a65c_get_915e3 := goodIn_r _ [13, 9, 14, 15, 16, 17, 18, 19, 20, 21, 22, 23, 24, 7, 25, 26, 57, 58, 59] (by decide +kernel) (by decide +kernel)
set_option maxRecDepth 20000 in
theorem gX4_finish_Jx4a65c_get_915e3 : GoodIn wsX4_finish (wsV RX4 146 RJx4a65c yJx4a65c_get_915e3 wsJx4a65c_get_915e3) := goodIn_app (goodIn_of _ (by decide +kernel)) ggX4_finish_Jx4a65c_get_915e3
set_option maxRecDepth 20000 in
theorem ggX4_finish_X0_holds : GoodIn wsX4_finish wsX0_holds := goodIn_r _ [31, 32, 60, 61] (by decide +kernel) (by decide +kernel)
set_option maxRecDepth 20000 in
theorem gX4_finish_X0_holds : GoodIn wsX4_finish (wsV RX4 150 RX0 yX0_holds wsX0_holds) := goodIn_app (goodIn_of _ (by decide +kernel)) ggX4_finish_X0_holds
set_option maxRecDepth 20000 in
theorem ggX4_finish_X2_note : GoodIn wsX4_finish wsX2_note := goodIn_r _ [37, 38, 39, 49, 50, 51, 52, 53, 54, 55, 56] (by decide +kernel) (by decide +kernel)
set_option maxRecDepth 20000 in
theorem gX4_finish_X2_note : GoodIn wsX4_finish (wsV RX4 108 RX2 yX2_note wsX2_note) := goodIn_app (goodIn_of _ (by decide +kernel)) ggX4_finish_X2_note
theorem dX4_finish_0 : decode cX4_finish 0 = .ok (.iconst 0, 1) := by decide +kernel
theorem dX4_finish_1 : decode cX4_finish 1 = .ok (.istore_n 1, 1) := by decide +kernel
theorem dX4_finish_2 : decode cX4_finish 2 = .ok (.iconst 0, 1) := by decide +kernel
theorem dX4_finish_3 : decode cX4_finish 3 = .ok (.istore_n 2, 1) := by decide +kernel
theorem dX4_finish_4 : decode cX4_finish 4 = .ok (.iload_n 2, 1) := by decide +kernel
theorem dX4_finish_5 : decode cX4_finish 5 = .ok (.aload_n 0, 1) := by decide +kernel
theorem dX4_finish_6 : decode cX4_finish 6 = .ok (.getfield 19, 3) := by decide +kernel
theorem dX4_finish_9 : decode cX4_finish 9 = .ok (.invokevirtual 88, 3) := by decide +kernel
theorem dX4_finish_12 : decode cX4_finish 12 = .ok (.if_icmp .ge 53, 3) := by decide +kernel
theorem dX4_finish_15 : decode cX4_finish 15 = .ok (.aload_n 0, 1) := by decide +kernel
theorem dX4_finish_16 : decode cX4_finish 16 = .ok (.getfield 19, 3) := by decide +kernel
theorem dX4_finish_19 : decode cX4_finish 19 = .ok (.iload_n 2, 1) := by decide +kernel
theorem dX4_finish_20 : decode cX4_finish 20 = .ok (.invokevirtual 146, 3) := by decide +kernel
theorem dX4_finish_23 : decode cX4_finish 23 = .ok (.checkcast 53, 3) := by decide +kernel
theorem dX4_finish_26 : decode cX4_finish 26 = .ok (.astore_n 3, 1) := by decide +kernel
theorem dX4_finish_27 : decode cX4_finish 27 = .ok (.aload_n 3, 1) := by decide +kernel
theorem dX4_finish_28 : decode cX4_finish 28 = .ok (.getfield 84, 3) := by decide +kernel
theorem dX4_finish_31 : decode cX4_finish 31 = .ok (.ifCond .ne 28, 3) := by decide +kernel
theorem dX4_finish_34 : decode cX4_finish 34 = .ok (.aload_n 0, 1) := by decide +kernel
theorem dX4_finish_35 : decode cX4_finish 35 = .ok (.getfield 12, 3) := by decide +kernel
theorem dX4_finish_38 : decode cX4_finish 38 = .ok (.iload_n 2, 1) := by decide +kernel
theorem dX4_finish_39 : decode cX4_finish 39 = .ok (.invokevirtual 150, 3) := by decide +kernel
theorem dX4_finish_42 : decode cX4_finish 42 = .ok (.ifCond .eq 17, 3) := by decide +kernel
theorem dX4_finish_45 : decode cX4_finish 45 = .ok (.aload_n 3, 1) := by decide +kernel
theorem dX4_finish_46 : decode cX4_finish 46 = .ok (.iconst 1, 1) := by decide +kernel
theorem dX4_finish_47 : decode cX4_finish 47 = .ok (.putfield 84, 3) := by decide +kernel
theorem dX4_finish_50 : decode cX4_finish 50 = .ok (.aload_n 3, 1) := by decide +kernel
theorem dX4_finish_51 : decode cX4_finish 51 = .ok (.bipush 6, 2) := by decide +kernel
theorem dX4_finish_53 : decode cX4_finish 53 = .ok (.invokevirtual 108, 3) := by decide +kernel
theorem dX4_finish_56 : decode cX4_finish 56 = .ok (.iinc 1 1, 3) := by decide +kernel
theorem dX4_finish_59 : decode cX4_finish 59 = .ok (.iinc 2 1, 3) := by decide +kernel
theorem dX4_finish_62 : decode cX4_finish 62 = .ok (.goto (-58), 3) := by decide +kernel
theorem dX4_finish_65 : decode cX4_finish 65 = .ok (.iload_n 1, 1) := by decide +kernel
theorem dX4_finish_66 : decode cX4_finish 66 = .ok (.ireturn, 1) := by decide +kernel
theorem dX4_heart_0 : decode cX4_heart 0 = .ok (.iload_n 1, 1) := by decide +kernel
theorem dX4_heart_1 : decode cX4_heart 1 = .ok (.iconst 1, 1) := by decide +kernel
theorem dX4_heart_2 : decode cX4_heart 2 = .ok (.if_icmp .lt 8, 3) := by decide +kernel
theorem dX4_heart_5 : decode cX4_heart 5 = .ok (.iload_n 1, 1) := by decide +kernel
theorem dX4_heart_6 : decode cX4_heart 6 = .ok (.iconst 5, 1) := by decide +kernel
theorem dX4_heart_7 : decode cX4_heart 7 = .ok (.if_icmp .le 13, 3) := by decide +kernel
theorem dX4_heart_10 : decode cX4_heart 10 = .ok (.new 70, 3) := by decide +kernel
theorem dX4_heart_13 : decode cX4_heart 13 = .ok (.dup, 1) := by decide +kernel
theorem dX4_heart_14 : decode cX4_heart 14 = .ok (.ldc 153, 2) := by decide +kernel
theorem dX4_heart_16 : decode cX4_heart 16 = .ok (.invokespecial 74, 3) := by decide +kernel
theorem dX4_heart_19 : decode cX4_heart 19 = .ok (.athrow, 1) := by decide +kernel
theorem dX4_heart_20 : decode cX4_heart 20 = .ok (.aload_n 0, 1) := by decide +kernel
theorem dX4_heart_21 : decode cX4_heart 21 = .ok (.getfield 43, 3) := by decide +kernel
theorem dX4_heart_24 : decode cX4_heart 24 = .ok (.istore_n 2, 1) := by decide +kernel
theorem dX4_heart_25 : decode cX4_heart 25 = .ok (.aload_n 0, 1) := by decide +kernel
theorem dX4_heart_26 : decode cX4_heart 26 = .ok (.iload_n 1, 1) := by decide +kernel
theorem dX4_heart_27 : decode cX4_heart 27 = .ok (.putfield 43, 3) := by decide +kernel
theorem dX4_heart_30 : decode cX4_heart 30 = .ok (.iload_n 2, 1) := by decide +kernel
theorem dX4_heart_31 : decode cX4_heart 31 = .ok (.ireturn, 1) := by decide +kernel
theorem dX4_sheet_0 : decode cX4_sheet 0 = .ok (.iload_n 1, 1) := by decide +kernel
theorem dX4_sheet_1 : decode cX4_sheet 1 = .ok (.iconst 4, 1) := by decide +kernel
theorem dX4_sheet_2 : decode cX4_sheet 2 = .ok (.if_icmp .lt 9, 3) := by decide +kernel
theorem dX4_sheet_5 : decode cX4_sheet 5 = .ok (.iload_n 1, 1) := by decide +kernel
theorem dX4_sheet_6 : decode cX4_sheet 6 = .ok (.bipush 40, 2) := by decide +kernel
theorem dX4_sheet_8 : decode cX4_sheet 8 = .ok (.if_icmp .le 13, 3) := by decide +kernel
theorem dX4_sheet_11 : decode cX4_sheet 11 = .ok (.new 70, 3) := by decide +kernel
theorem dX4_sheet_14 : decode cX4_sheet 14 = .ok (.dup, 1) := by decide +kernel
theorem dX4_sheet_15 : decode cX4_sheet 15 = .ok (.ldc 155, 2) := by decide +kernel
theorem dX4_sheet_17 : decode cX4_sheet 17 = .ok (.invokespecial 74, 3) := by decide +kernel
theorem dX4_sheet_20 : decode cX4_sheet 20 = .ok (.athrow, 1) := by decide +kernel
theorem dX4_sheet_21 : decode cX4_sheet 21 = .ok (.aload_n 0, 1) := by decide +kernel
theorem dX4_sheet_22 : decode cX4_sheet 22 = .ok (.getfield 47, 3) := by decide +kernel
theorem dX4_sheet_25 : decode cX4_sheet 25 = .ok (.istore_n 2, 1) := by decide +kernel
theorem dX4_sheet_26 : decode cX4_sheet 26 = .ok (.aload_n 0, 1) := by decide +kernel
theorem dX4_sheet_27 : decode cX4_sheet 27 = .ok (.iload_n 1, 1) := by decide +kernel
theorem dX4_sheet_28 : decode cX4_sheet 28 = .ok (.putfield 47, 3) := by decide +kernel
theorem dX4_sheet_31 : decode cX4_sheet 31 = .ok (.iload_n 2, 1) := by decide +kernel
theorem dX4_sheet_32 : decode cX4_sheet 32 = .ok (.ireturn, 1) := by decide +kernel
set_option maxRecDepth 20000 in
theorem ggX4_bar_X4_testRowLine : GoodIn wsX4_bar wsX4_testRowLine := goodIn_ca (goodIn_r _ [7, 8, 9, 10, 11, 6, 12] (by decide +kernel) (by decide +kernel)) (goodIn_sub (fun _ h => List.mem_cons_of_mem _ (List.mem_append_right _ h)) (by decide +kernel))
set_option maxRecDepth 20000 in
theorem gX4_bar_X4_testRowLine : GoodIn wsX4_bar (va_wsS RX4 157 yX4_testRowLine wsX4_testRowLine) := goodIn_app (goodIn_of _ (by decide +kernel)) ggX4_bar_X4_testRowLine
set_option maxRecDepth 20000 in
theorem ggX4_bar_X4_hasBar : GoodIn wsX4_bar wsX4_hasBar := goodIn_r _ [16, 3, 24, 25, 26, 27, 28, 29, 30, 31, 32] (by decide +kernel) (by decide +kernel)
set_option maxRecDepth 20000 in
theorem gX4_bar_X4_hasBar : GoodIn wsX4_bar (wsV RX4 160 RX4 yX4_hasBar wsX4_hasBar) := goodIn_app (goodIn_of _ (by decide +kernel)) ggX4_bar_X4_hasBar
set_option maxRecDepth 20000 in
theorem ggX4_bar_J6_bitCount_0f7a4 : GoodIn wsX4_bar wsJ6_bitCount_0f7a4 := goodIn_r _ [20, 21, 22, 23] (by decide +kernel) (by decide +kernel)
set_option maxRecDepth 20000 in
theorem gX4_bar_J6_bitCount_0f7a4 : GoodIn wsX4_bar (va_wsS RX4 163 yJ6_bitCount_0f7a4 wsJ6_bitCount_0f7a4) := goodIn_app (goodIn_of _ (by decide +kernel)) ggX4_bar_J6_bitCount_0f7a4
theorem dX4_bar_0 : decode cX4_bar 0 = .ok (.iload_n 1, 1) := by decide +kernel
theorem dX4_bar_1 : decode cX4_bar 1 = .ok (.invokestatic 157, 3) := by decide +kernel
theorem dX4_bar_4 : decode cX4_bar 4 = .ok (.aload_n 0, 1) := by decide +kernel
theorem dX4_bar_5 : decode cX4_bar 5 = .ok (.iload_n 1, 1) := by decide +kernel
theorem dX4_bar_6 : decode cX4_bar 6 = .ok (.invokevirtual 160, 3) := by decide +kernel
theorem dX4_bar_9 : decode cX4_bar 9 = .ok (.istore_n 2, 1) := by decide +kernel
theorem dX4_bar_10 : decode cX4_bar 10 = .ok (.iload_n 2, 1) := by decide +kernel
theorem dX4_bar_11 : decode cX4_bar 11 = .ok (.ifCond .ne 24, 3) := by decide +kernel
theorem dX4_bar_14 : decode cX4_bar 14 = .ok (.aload_n 0, 1) := by decide +kernel
theorem dX4_bar_15 : decode cX4_bar 15 = .ok (.getfield 50, 3) := by decide +kernel
theorem dX4_bar_18 : decode cX4_bar 18 = .ok (.invokestatic 163, 3) := by decide +kernel
theorem dX4_bar_21 : decode cX4_bar 21 = .ok (.iconst 5, 1) := by decide +kernel
theorem dX4_bar_22 : decode cX4_bar 22 = .ok (.if_icmp .lt 13, 3) := by decide +kernel
theorem dX4_bar_25 : decode cX4_bar 25 = .ok (.new 96, 3) := by decide +kernel
theorem dX4_bar_28 : decode cX4_bar 28 = .ok (.dup, 1) := by decide +kernel
theorem dX4_bar_29 : decode cX4_bar 29 = .ok (.ldc 168, 2) := by decide +kernel
theorem dX4_bar_31 : decode cX4_bar 31 = .ok (.invokespecial 100, 3) := by decide +kernel
theorem dX4_bar_34 : decode cX4_bar 34 = .ok (.athrow, 1) := by decide +kernel
theorem dX4_bar_35 : decode cX4_bar 35 = .ok (.aload_n 0, 1) := by decide +kernel
theorem dX4_bar_36 : decode cX4_bar 36 = .ok (.dup, 1) := by decide +kernel
theorem dX4_bar_37 : decode cX4_bar 37 = .ok (.getfield 50, 3) := by decide +kernel
theorem dX4_bar_40 : decode cX4_bar 40 = .ok (.iconst 1, 1) := by decide +kernel
theorem dX4_bar_41 : decode cX4_bar 41 = .ok (.iload_n 1, 1) := by decide +kernel
theorem dX4_bar_42 : decode cX4_bar 42 = .ok (.ishl, 1) := by decide +kernel
theorem dX4_bar_43 : decode cX4_bar 43 = .ok (.ixor, 1) := by decide +kernel
theorem dX4_bar_44 : decode cX4_bar 44 = .ok (.putfield 50, 3) := by decide +kernel
theorem dX4_bar_47 : decode cX4_bar 47 = .ok (.iload_n 2, 1) := by decide +kernel
theorem dX4_bar_48 : decode cX4_bar 48 = .ok (.ireturn, 1) := by decide +kernel
set_option maxRecDepth 20000 in
theorem ggX4_paint_X4_thePiece : GoodIn wsX4_paint wsX4_thePiece := goodIn_ca (goodIn_r _ [9, 10, 11, 12, 13, 14, 15, 16, 17, 8, 18, 19, 20, 21, 22, 23, 24, 25, 26, 27, 28, 29, 30, 31, 32, 33, 34, 35, 36, 37, 38, 39, 40, 41, 42, 43, 44, 45, 46, 47, 70, 71, 72, 73, 74, 75, 76, 77, 78, 79, 80, 81, 82, 83] (by decide +kernel) (by decide +kernel)) (goodIn_sub (fun _ h => List.mem_cons_of_mem _ (List.mem_append_right _ h)) (by decide +kernel))
set_option maxRecDepth 20000 in
theorem gX4_paint_X4_thePiece : GoodIn wsX4_paint (wsV RX4 62 RX4 yX4_thePiece wsX4_thePiece) := goodIn_app (goodIn_of _ (by decide +kernel)) ggX4_paint_X4_thePiece
set_option maxRecDepth 20000 in
theorem ggX4_paint_X2_addLayer : GoodIn wsX4_paint wsX2_addLayer := goodIn_r _ [52, 53, 54, 55, 56, 57, 58, 51, 59, 60, 61, 62, 63, 64, 65, 66, 67, 68, 69] (by decide +kernel) (by decide +kernel)
set_option maxRecDepth 20000 in
theorem gX4_paint_X2_addLayer : GoodIn wsX4_paint (wsV RX4 177 RX2 yX2_addLayer wsX2_addLayer) := goodIn_app (goodIn_of _ (by decide +kernel)) ggX4_paint_X2_addLayer
theorem dX4_paint_0 : decode cX4_paint 0 = .ok (.aload_n 0, 1) := by decide +kernel
theorem dX4_paint_1 : decode cX4_paint 1 = .ok (.iload_n 1, 1) := by decide +kernel
theorem dX4_paint_2 : decode cX4_paint 2 = .ok (.invokevirtual 62, 3) := by decide +kernel
theorem dX4_paint_5 : decode cX4_paint 5 = .ok (.astore_n 3, 1) := by decide +kernel
theorem dX4_paint_6 : decode cX4_paint 6 = .ok (.iload_n 2, 1) := by decide +kernel
theorem dX4_paint_7 : decode cX4_paint 7 = .ok (.sipush 500, 3) := by decide +kernel
theorem dX4_paint_10 : decode cX4_paint 10 = .ok (.if_icmp .lt 10, 3) := by decide +kernel
theorem dX4_paint_13 : decode cX4_paint 13 = .ok (.iload_n 2, 1) := by decide +kernel
theorem dX4_paint_14 : decode cX4_paint 14 = .ok (.sipush 700, 3) := by decide +kernel
theorem dX4_paint_17 : decode cX4_paint 17 = .ok (.if_icmp .le 13, 3) := by decide +kernel
theorem dX4_paint_20 : decode cX4_paint 20 = .ok (.new 70, 3) := by decide +kernel
theorem dX4_paint_23 : decode cX4_paint 23 = .ok (.dup, 1) := by decide +kernel
theorem dX4_paint_24 : decode cX4_paint 24 = .ok (.ldc 170, 2) := by decide +kernel
theorem dX4_paint_26 : decode cX4_paint 26 = .ok (.invokespecial 74, 3) := by decide +kernel
theorem dX4_paint_29 : decode cX4_paint 29 = .ok (.athrow, 1) := by decide +kernel
theorem dX4_paint_30 : decode cX4_paint 30 = .ok (.aload_n 3, 1) := by decide +kernel
theorem dX4_paint_31 : decode cX4_paint 31 = .ok (.getfield 172, 3) := by decide +kernel
theorem dX4_paint_34 : decode cX4_paint 34 = .ok (.iconst 5, 1) := by decide +kernel
theorem dX4_paint_35 : decode cX4_paint 35 = .ok (.if_icmp .lt 13, 3) := by decide +kernel
theorem dX4_paint_38 : decode cX4_paint 38 = .ok (.new 96, 3) := by decide +kernel
theorem dX4_paint_41 : decode cX4_paint 41 = .ok (.dup, 1) := by decide +kernel
theorem dX4_paint_42 : decode cX4_paint 42 = .ok (.ldc 175, 2) := by decide +kernel
theorem dX4_paint_44 : decode cX4_paint 44 = .ok (.invokespecial 100, 3) := by decide +kernel
theorem dX4_paint_47 : decode cX4_paint 47 = .ok (.athrow, 1) := by decide +kernel
theorem dX4_paint_48 : decode cX4_paint 48 = .ok (.aload_n 3, 1) := by decide +kernel
theorem dX4_paint_49 : decode cX4_paint 49 = .ok (.iload_n 2, 1) := by decide +kernel
theorem dX4_paint_50 : decode cX4_paint 50 = .ok (.invokevirtual 177, 3) := by decide +kernel
theorem dX4_paint_53 : decode cX4_paint 53 = .ok (.aload_n 3, 1) := by decide +kernel
theorem dX4_paint_54 : decode cX4_paint 54 = .ok (.getfield 172, 3) := by decide +kernel
theorem dX4_paint_57 : decode cX4_paint 57 = .ok (.ireturn, 1) := by decide +kernel
set_option maxRecDepth 20000 in
theorem ggX4_fire_X4_thePiece : GoodIn wsX4_fire wsX4_thePiece := goodIn_ca (goodIn_r _ [7, 8, 9, 10, 11, 12, 13, 14, 15, 6, 16, 17, 18, 19, 20, 21, 22, 23, 24, 25, 26, 27, 28, 29, 30, 31, 32, 33, 34, 35, 36, 37, 38, 39, 40, 41, 42, 43, 44, 45, 64, 65, 66, 67, 68, 69, 70, 71, 72, 73, 74, 75, 76, 77] (by decide +kernel) (by decide +kernel)) (goodIn_sub (fun _ h => List.mem_cons_of_mem _ (List.mem_append_right _ h)) (by decide +kernel))
set_option maxRecDepth 20000 in
theorem gX4_fire_X4_thePiece : GoodIn wsX4_fire (wsV RX4 62 RX4 yX4_thePiece wsX4_thePiece) := goodIn_app (goodIn_of _ (by decide +kernel)) ggX4_fire_X4_thePiece
set_option maxRecDepth 20000 in
theorem ggX4_fire_X2_bearHeat : GoodIn wsX4_fire wsX2_bearHeat := goodIn_r _ [50, 51, 52, 53, 54, 55, 56, 49, 57, 58, 59, 60, 61, 62, 63, 78, 79, 80, 81, 82, 83, 84, 85] (by decide +kernel) (by decide +kernel)
set_option maxRecDepth 20000 in
theorem gX4_fire_X2_bearHeat : GoodIn wsX4_fire (wsV RX4 180 RX2 yX2_bearHeat wsX2_bearHeat) := goodIn_app (goodIn_of _ (by decide +kernel)) ggX4_fire_X2_bearHeat
theorem dX4_fire_0 : decode cX4_fire 0 = .ok (.aload_n 0, 1) := by decide +kernel
theorem dX4_fire_1 : decode cX4_fire 1 = .ok (.iload_n 1, 1) := by decide +kernel
theorem dX4_fire_2 : decode cX4_fire 2 = .ok (.invokevirtual 62, 3) := by decide +kernel
theorem dX4_fire_5 : decode cX4_fire 5 = .ok (.astore_n 3, 1) := by decide +kernel
theorem dX4_fire_6 : decode cX4_fire 6 = .ok (.iload_n 2, 1) := by decide +kernel
theorem dX4_fire_7 : decode cX4_fire 7 = .ok (.sipush 500, 3) := by decide +kernel
theorem dX4_fire_10 : decode cX4_fire 10 = .ok (.if_icmp .lt 10, 3) := by decide +kernel
theorem dX4_fire_13 : decode cX4_fire 13 = .ok (.iload_n 2, 1) := by decide +kernel
theorem dX4_fire_14 : decode cX4_fire 14 = .ok (.sipush 750, 3) := by decide +kernel
theorem dX4_fire_17 : decode cX4_fire 17 = .ok (.if_icmp .le 13, 3) := by decide +kernel
theorem dX4_fire_20 : decode cX4_fire 20 = .ok (.new 70, 3) := by decide +kernel
theorem dX4_fire_23 : decode cX4_fire 23 = .ok (.dup, 1) := by decide +kernel
theorem dX4_fire_24 : decode cX4_fire 24 = .ok (.ldc 170, 2) := by decide +kernel
theorem dX4_fire_26 : decode cX4_fire 26 = .ok (.invokespecial 74, 3) := by decide +kernel
theorem dX4_fire_29 : decode cX4_fire 29 = .ok (.athrow, 1) := by decide +kernel
theorem dX4_fire_30 : decode cX4_fire 30 = .ok (.aload_n 3, 1) := by decide +kernel
theorem dX4_fire_31 : decode cX4_fire 31 = .ok (.iload_n 2, 1) := by decide +kernel
theorem dX4_fire_32 : decode cX4_fire 32 = .ok (.invokevirtual 180, 3) := by decide +kernel
theorem dX4_fire_35 : decode cX4_fire 35 = .ok (.ireturn, 1) := by decide +kernel
set_option maxRecDepth 20000 in
theorem ggX4_crack_X4_theOwner : GoodIn wsX4_crack wsX4_theOwner := goodIn_ca (goodIn_r _ [5, 6, 7, 8, 9, 10, 11, 12, 13, 14, 67, 68, 69, 70, 71, 72, 73, 74, 75, 76, 77] (by decide +kernel) (by decide +kernel)) (goodIn_sub (fun _ h => List.mem_cons_of_mem _ (List.mem_append_right _ h)) (by decide +kernel))
set_option maxRecDepth 20000 in
theorem gX4_crack_X4_theOwner : GoodIn wsX4_crack (wsV RX4 111 RX4 yX4_theOwner wsX4_theOwner) := goodIn_app (goodIn_of _ (by decide +kernel)) ggX4_crack_X4_theOwner
set_option maxRecDepth 20000 in
theorem ggX4_crack_X4_thePiece : GoodIn wsX4_crack wsX4_thePiece := goodIn_ca (goodIn_r _ [18, 6, 7, 8, 19, 20, 21, 22, 23, 4, 24, 25, 26, 27, 28, 29, 30, 31, 32, 33, 12, 34, 14, 35, 36, 37, 38, 39, 40, 41, 42, 43, 44, 45, 46, 47, 48, 49, 50, 51, 67, 68, 69, 70, 71, 72, 73, 74, 75, 78, 79, 80, 76, 77] (by decide +kernel) (by decide +kernel)) (goodIn_sub (fun _ h => List.mem_cons_of_mem _ (List.mem_append_right _ h)) (by decide +kernel))
set_option maxRecDepth 20000 in
theorem gX4_crack_X4_thePiece : GoodIn wsX4_crack (wsV RX4 62 RX4 yX4_thePiece wsX4_thePiece) := goodIn_app (goodIn_of _ (by decide +kernel)) ggX4_crack_X4_thePiece
set_option maxRecDepth 20000 in
theorem ggX4_crack_X2_note : GoodIn wsX4_crack wsX2_note := goodIn_r _ [56, 57, 58, 59, 60, 61, 62, 63, 64, 65, 66] (by decide +kernel) (by decide +kernel)
set_option maxRecDepth 20000 in
theorem gX4_crack_X2_note : GoodIn wsX4_crack (wsV RX4 108 RX2 yX2_note wsX2_note) := goodIn_app (goodIn_of _ (by decide +kernel)) ggX4_crack_X2_note
theorem dX4_crack_0 : decode cX4_crack 0 = .ok (.aload_n 0, 1) := by decide +kernel
theorem dX4_crack_1 : decode cX4_crack 1 = .ok (.iload_n 1, 1) := by decide +kernel
theorem dX4_crack_2 : decode cX4_crack 2 = .ok (.invokevirtual 111, 3) := by decide +kernel
theorem dX4_crack_5 : decode cX4_crack 5 = .ok (.istore_n 2, 1) := by decide +kernel
theorem dX4_crack_6 : decode cX4_crack 6 = .ok (.aload_n 0, 1) := by decide +kernel
theorem dX4_crack_7 : decode cX4_crack 7 = .ok (.iload_n 2, 1) := by decide +kernel
theorem dX4_crack_8 : decode cX4_crack 8 = .ok (.invokevirtual 62, 3) := by decide +kernel
theorem dX4_crack_11 : decode cX4_crack 11 = .ok (.astore_n 3, 1) := by decide +kernel
theorem dX4_crack_12 : decode cX4_crack 12 = .ok (.aload_n 3, 1) := by decide +kernel
theorem dX4_crack_13 : decode cX4_crack 13 = .ok (.iconst 1, 1) := by decide +kernel
theorem dX4_crack_14 : decode cX4_crack 14 = .ok (.putfield 183, 3) := by decide +kernel
theorem dX4_crack_17 : decode cX4_crack 17 = .ok (.aload_n 3, 1) := by decide +kernel
theorem dX4_crack_18 : decode cX4_crack 18 = .ok (.bipush 7, 2) := by decide +kernel
theorem dX4_crack_20 : decode cX4_crack 20 = .ok (.invokevirtual 108, 3) := by decide +kernel
theorem dX4_crack_23 : decode cX4_crack 23 = .ok (.iload_n 2, 1) := by decide +kernel
theorem dX4_crack_24 : decode cX4_crack 24 = .ok (.ireturn, 1) := by decide +kernel
set_option maxRecDepth 20000 in
theorem ggX4_mend_X4_thePiece : GoodIn wsX4_mend wsX4_thePiece := goodIn_ca (goodIn_r _ [7, 8, 9, 10, 11, 12, 13, 14, 15, 6, 16, 17, 18, 19, 20, 21, 22, 23, 24, 25, 26, 27, 28, 29, 30, 31, 32, 33, 34, 35, 36, 37, 38, 39, 40, 41, 42, 43, 44, 45, 65, 66, 67, 68, 69, 70, 71, 72, 73, 74, 75, 76, 77, 78] (by decide +kernel) (by decide +kernel)) (goodIn_sub (fun _ h => List.mem_cons_of_mem _ (List.mem_append_right _ h)) (by decide +kernel))
set_option maxRecDepth 20000 in
theorem gX4_mend_X4_thePiece : GoodIn wsX4_mend (wsV RX4 62 RX4 yX4_thePiece wsX4_thePiece) := goodIn_app (goodIn_of _ (by decide +kernel)) ggX4_mend_X4_thePiece
set_option maxRecDepth 20000 in
theorem ggX4_mend_X2_note : GoodIn wsX4_mend wsX2_note := goodIn_r _ [50, 51, 52, 57, 58, 59, 60, 61, 62, 63, 64] (by decide +kernel) (by decide +kernel)
set_option maxRecDepth 20000 in
theorem gX4_mend_X2_note : GoodIn wsX4_mend (wsV RX4 108 RX2 yX2_note wsX2_note) := goodIn_app (goodIn_of _ (by decide +kernel)) ggX4_mend_X2_note
set_option maxRecDepth 20000 in
theorem ggX4_mend_X4_brokenPieces : GoodIn wsX4_mend wsX4_brokenPieces := goodIn_r _ [56, 11, 12, 10, 17, 18, 19, 20, 21, 22, 29, 30, 31, 32, 33, 34, 35, 36, 37, 38, 39, 40, 41, 42, 43, 44, 45, 23, 24, 25, 26, 27, 28, 65, 66, 67, 68, 69, 70, 71, 72, 73, 57, 58, 59, 60, 61, 62, 63, 64, 74, 75, 76, 77, 78] (by decide +kernel) (by decide +kernel)
set_option maxRecDepth 20000 in
theorem gX4_mend_X4_brokenPieces : GoodIn wsX4_mend (wsV RX4 188 RX4 yX4_brokenPieces wsX4_brokenPieces) := goodIn_app (goodIn_of _ (by decide +kernel)) ggX4_mend_X4_brokenPieces
theorem dX4_mend_0 : decode cX4_mend 0 = .ok (.aload_n 0, 1) := by decide +kernel
theorem dX4_mend_1 : decode cX4_mend 1 = .ok (.iload_n 1, 1) := by decide +kernel
theorem dX4_mend_2 : decode cX4_mend 2 = .ok (.invokevirtual 62, 3) := by decide +kernel
theorem dX4_mend_5 : decode cX4_mend 5 = .ok (.astore_n 2, 1) := by decide +kernel
theorem dX4_mend_6 : decode cX4_mend 6 = .ok (.aload_n 2, 1) := by decide +kernel
theorem dX4_mend_7 : decode cX4_mend 7 = .ok (.getfield 183, 3) := by decide +kernel
theorem dX4_mend_10 : decode cX4_mend 10 = .ok (.iconst 1, 1) := by decide +kernel
theorem dX4_mend_11 : decode cX4_mend 11 = .ok (.if_icmp .eq 13, 3) := by decide +kernel
theorem dX4_mend_14 : decode cX4_mend 14 = .ok (.new 96, 3) := by decide +kernel
theorem dX4_mend_17 : decode cX4_mend 17 = .ok (.dup, 1) := by decide +kernel
theorem dX4_mend_18 : decode cX4_mend 18 = .ok (.ldc 186, 2) := by decide +kernel
theorem dX4_mend_20 : decode cX4_mend 20 = .ok (.invokespecial 100, 3) := by decide +kernel
theorem dX4_mend_23 : decode cX4_mend 23 = .ok (.athrow, 1) := by decide +kernel
theorem dX4_mend_24 : decode cX4_mend 24 = .ok (.aload_n 2, 1) := by decide +kernel
theorem dX4_mend_25 : decode cX4_mend 25 = .ok (.iconst 2, 1) := by decide +kernel
theorem dX4_mend_26 : decode cX4_mend 26 = .ok (.putfield 183, 3) := by decide +kernel
theorem dX4_mend_29 : decode cX4_mend 29 = .ok (.aload_n 2, 1) := by decide +kernel
theorem dX4_mend_30 : decode cX4_mend 30 = .ok (.bipush 8, 2) := by decide +kernel
theorem dX4_mend_32 : decode cX4_mend 32 = .ok (.invokevirtual 108, 3) := by decide +kernel
theorem dX4_mend_35 : decode cX4_mend 35 = .ok (.aload_n 0, 1) := by decide +kernel
theorem dX4_mend_36 : decode cX4_mend 36 = .ok (.invokevirtual 188, 3) := by decide +kernel
theorem dX4_mend_39 : decode cX4_mend 39 = .ok (.ireturn, 1) := by decide +kernel
set_option maxRecDepth 20000 in
theorem ggX4_replace_X4_thePiece : GoodIn wsX4_replace wsX4_thePiece := goodIn_ca (goodIn_r _ [7, 8, 9, 10, 11, 12, 13, 14, 15, 6, 16, 17, 18, 19, 20, 21, 22, 23, 24, 25, 26, 27, 28, 29, 30, 31, 32, 33, 34, 35, 36, 37, 38, 39, 40, 41, 42, 43, 44, 45, 74, 75, 76, 77, 78, 79, 80, 81, 82, 83, 84, 85, 86, 87] (by decide +kernel) (by decide +kernel)) (goodIn_sub (fun _ h => List.mem_cons_of_mem _ (List.mem_append_left _ (List.mem_append_right _ h))) (by decide +kernel))
set_option maxRecDepth 20000 in
theorem gX4_replace_X4_thePiece : GoodIn wsX4_replace (wsV RX4 62 RX4 yX4_thePiece wsX4_thePiece) := goodIn_app (goodIn_of _ (by decide +kernel)) ggX4_replace_X4_thePiece
set_option maxRecDepth 20000 in
theorem ggX4_replace_X4_testColour : GoodIn wsX4_replace wsX4_testColour := goodIn_ca (goodIn_r _ [48, 49, 50] (by decide +kernel) (by decide +kernel)) (goodIn_sub (fun _ h => List.mem_cons_of_mem _ (List.mem_append_right _ h)) (by decide +kernel))
set_option maxRecDepth 20000 in
theorem gX4_replace_X4_testColour : GoodIn wsX4_replace (va_wsS RX4 141 yX4_testColour wsX4_testColour) := goodIn_app (goodIn_of _ (by decide +kernel)) ggX4_replace_X4_testColour
set_option maxRecDepth 20000 in
theorem ggX4_replace_X2_makeAnew : GoodIn wsX4_replace wsX2_makeAnew := goodIn_r _ [55, 56, 57, 58, 59, 66, 67, 68, 69, 70, 71, 72, 73] (by decide +kernel) (by decide +kernel)
set_option maxRecDepth 20000 in
theorem gX4_replace_X2_makeAnew : GoodIn wsX4_replace (wsV RX4 193 RX2 yX2_makeAnew wsX2_makeAnew) := goodIn_app (goodIn_of _ (by decide +kernel)) ggX4_replace_X2_makeAnew
set_option maxRecDepth 20000 in
theorem ggX4_replace_X2_note : GoodIn wsX4_replace wsX2_note := goodIn_r _ [63, 64, 65, 66, 67, 68, 69, 70, 71, 72, 73] (by decide +kernel) (by decide +kernel)
set_option maxRecDepth 20000 in
theorem gX4_replace_X2_note : GoodIn wsX4_replace (wsV RX4 108 RX2 yX2_note wsX2_note) := goodIn_app (goodIn_of _ (by decide +kernel)) ggX4_replace_X2_note
theorem dX4_replace_0 : decode cX4_replace 0 = .ok (.aload_n 0, 1) := by decide +kernel
theorem dX4_replace_1 : decode cX4_replace 1 = .ok (.iload_n 1, 1) := by decide +kernel
theorem dX4_replace_2 : decode cX4_replace 2 = .ok (.invokevirtual 62, 3) := by decide +kernel
theorem dX4_replace_5 : decode cX4_replace 5 = .ok (.astore_n 3, 1) := by decide +kernel
theorem dX4_replace_6 : decode cX4_replace 6 = .ok (.iload_n 2, 1) := by decide +kernel
theorem dX4_replace_7 : decode cX4_replace 7 = .ok (.invokestatic 141, 3) := by decide +kernel
theorem dX4_replace_10 : decode cX4_replace 10 = .ok (.aload_n 3, 1) := by decide +kernel
theorem dX4_replace_11 : decode cX4_replace 11 = .ok (.getfield 84, 3) := by decide +kernel
theorem dX4_replace_14 : decode cX4_replace 14 = .ok (.ifCond .eq 21, 3) := by decide +kernel
theorem dX4_replace_17 : decode cX4_replace 17 = .ok (.aload_n 3, 1) := by decide +kernel
theorem dX4_replace_18 : decode cX4_replace 18 = .ok (.getfield 183, 3) := by decide +kernel
theorem dX4_replace_21 : decode cX4_replace 21 = .ok (.iconst 1, 1) := by decide +kernel
theorem dX4_replace_22 : decode cX4_replace 22 = .ok (.if_icmp .eq 13, 3) := by decide +kernel
theorem dX4_replace_25 : decode cX4_replace 25 = .ok (.new 96, 3) := by decide +kernel
theorem dX4_replace_28 : decode cX4_replace 28 = .ok (.dup, 1) := by decide +kernel
theorem dX4_replace_29 : decode cX4_replace 29 = .ok (.ldc 191, 2) := by decide +kernel
theorem dX4_replace_31 : decode cX4_replace 31 = .ok (.invokespecial 100, 3) := by decide +kernel
theorem dX4_replace_34 : decode cX4_replace 34 = .ok (.athrow, 1) := by decide +kernel
theorem dX4_replace_35 : decode cX4_replace 35 = .ok (.aload_n 3, 1) := by decide +kernel
theorem dX4_replace_36 : decode cX4_replace 36 = .ok (.getfield 101, 3) := by decide +kernel
theorem dX4_replace_39 : decode cX4_replace 39 = .ok (.istore 4, 2) := by decide +kernel
theorem dX4_replace_41 : decode cX4_replace 41 = .ok (.aload_n 3, 1) := by decide +kernel
theorem dX4_replace_42 : decode cX4_replace 42 = .ok (.iload_n 2, 1) := by decide +kernel
theorem dX4_replace_43 : decode cX4_replace 43 = .ok (.invokevirtual 193, 3) := by decide +kernel
theorem dX4_replace_46 : decode cX4_replace 46 = .ok (.aload_n 3, 1) := by decide +kernel
theorem dX4_replace_47 : decode cX4_replace 47 = .ok (.bipush 9, 2) := by decide +kernel
theorem dX4_replace_49 : decode cX4_replace 49 = .ok (.invokevirtual 108, 3) := by decide +kernel
theorem dX4_replace_52 : decode cX4_replace 52 = .ok (.iload 4, 2) := by decide +kernel
theorem dX4_replace_54 : decode cX4_replace 54 = .ok (.ireturn, 1) := by decide +kernel
set_option maxRecDepth 20000 in
theorem ggX4_pieces_X0_present : GoodIn wsX4_pieces wsX0_present := goodIn_r _ [6, 7, 24, 25] (by decide +kernel) (by decide +kernel)
set_option maxRecDepth 20000 in
theorem gX4_pieces_X0_present : GoodIn wsX4_pieces (wsV RX4 196 RX0 yX0_present wsX0_present) := goodIn_app (goodIn_of _ (by decide +kernel)) ggX4_pieces_X0_present
set_option maxRecDepth 20000 in
theorem ggX4_pieces_J13_bitCount_95d88 : GoodIn wsX4_pieces wsJ13_bitCount_95d88 := goodIn_r _ [11, 12, 13, 14] (by decide +kernel) (by decide +kernel)
set_option maxRecDepth 20000 in
theorem gX4_pieces_J13_bitCount_95d88 : GoodIn wsX4_pieces (va_wsS RX4 200 yJ13_bitCount_95d88 wsJ13_bitCount_95d88) := goodIn_app (goodIn_of _ (by decide +kernel)) ggX4_pieces_J13_bitCount_95d88
theorem dX4_pieces_0 : decode cX4_pieces 0 = .ok (.aload_n 0, 1) := by decide +kernel
theorem dX4_pieces_1 : decode cX4_pieces 1 = .ok (.getfield 12, 3) := by decide +kernel
theorem dX4_pieces_4 : decode cX4_pieces 4 = .ok (.invokevirtual 196, 3) := by decide +kernel
theorem dX4_pieces_7 : decode cX4_pieces 7 = .ok (.invokestatic 200, 3) := by decide +kernel
theorem dX4_pieces_10 : decode cX4_pieces 10 = .ok (.ireturn, 1) := by decide +kernel
set_option maxRecDepth 20000 in
theorem ggX4_pieceOf_X4_theOwner : GoodIn wsX4_pieceOf wsX4_theOwner := goodIn_ca (goodIn_r _ [5, 6, 7, 8, 9, 10, 11, 12, 13, 14, 15, 16, 17, 18, 19, 20, 21, 22, 23, 24, 25] (by decide +kernel) (by decide +kernel)) (goodIn_sub (fun _ h => List.mem_cons_of_mem _ (List.mem_append_right _ h)) (by decide +kernel))
set_option maxRecDepth 20000 in
theorem gX4_pieceOf_X4_theOwner : GoodIn wsX4_pieceOf (wsV RX4 111 RX4 yX4_theOwner wsX4_theOwner) := goodIn_app (goodIn_of _ (by decide +kernel)) ggX4_pieceOf_X4_theOwner
theorem dX4_pieceOf_0 : decode cX4_pieceOf 0 = .ok (.aload_n 0, 1) := by decide +kernel
theorem dX4_pieceOf_1 : decode cX4_pieceOf 1 = .ok (.iload_n 1, 1) := by decide +kernel
theorem dX4_pieceOf_2 : decode cX4_pieceOf 2 = .ok (.invokevirtual 111, 3) := by decide +kernel
theorem dX4_pieceOf_5 : decode cX4_pieceOf 5 = .ok (.ireturn, 1) := by decide +kernel
set_option maxRecDepth 20000 in
theorem ggX4_piece_X4_thePiece : GoodIn wsX4_piece wsX4_thePiece := goodIn_ca (goodIn_r _ [7, 8, 9, 10, 11, 12, 13, 14, 15, 6, 16, 17, 18, 19, 20, 21, 22, 23, 24, 25, 26, 27, 28, 29, 30, 31, 32, 33, 34, 35, 36, 37, 38, 39, 40, 41, 42, 43, 44, 45, 113, 114, 115, 116, 117, 118, 119, 120, 121, 122, 123, 124, 125, 126] (by decide +kernel) (by decide +kernel)) (goodIn_sub (fun _ h => List.mem_cons_of_mem _ (List.mem_append_right _ h)) (by decide +kernel))
set_option maxRecDepth 20000 in
theorem gX4_piece_X4_thePiece : GoodIn wsX4_piece (wsV RX4 62 RX4 yX4_thePiece wsX4_thePiece) := goodIn_app (goodIn_of _ (by decide +kernel)) ggX4_piece_X4_thePiece
set_option maxRecDepth 20000 in
theorem ggX4_piece_X4_shapeOf : GoodIn wsX4_piece wsX4_shapeOf := goodIn_r _ [49, 50, 10, 51, 52, 53, 54, 55, 56, 57, 58, 59, 26, 60, 28, 113, 114, 115, 116, 117, 118, 119, 120, 121, 127, 128, 125, 126] (by decide +kernel) (by decide +kernel)
set_option maxRecDepth 20000 in
theorem gX4_piece_X4_shapeOf : GoodIn wsX4_piece (wsV RX4 134 RX4 yX4_shapeOf wsX4_shapeOf) := goodIn_app (goodIn_of _ (by decide +kernel)) ggX4_piece_X4_shapeOf
set_option maxRecDepth 20000 in
theorem ggX4_piece_X3_cellCount : GoodIn wsX4_piece wsX3_cellCount := goodIn_r _ [64, 56, 65, 66, 67, 68, 69, 70, 71, 127, 128] (by decide +kernel) (by decide +kernel)
set_option maxRecDepth 20000 in
theorem gX4_piece_X3_cellCount : GoodIn wsX4_piece (wsV RX4 138 RX3 yX3_cellCount wsX3_cellCount) := goodIn_app (goodIn_of _ (by decide +kernel)) ggX4_piece_X3_cellCount
set_option maxRecDepth 20000 in
theorem ggX4_piece_X3_cutFault : GoodIn wsX4_piece wsX3_cutFault := goodIn_r _ [75, 76, 77, 78, 54, 79, 56, 80, 81, 82, 83, 84, 85, 86, 87, 88, 6, 89, 127, 128] (by decide +kernel) (by decide +kernel)
set_option maxRecDepth 20000 in
theorem gX4_piece_X3_cutFault : GoodIn wsX4_piece (wsV RX4 205 RX3 yX3_cutFault wsX3_cutFault) := goodIn_app (goodIn_of _ (by decide +kernel)) ggX4_piece_X3_cutFault
set_option maxRecDepth 20000 in
theorem ggX4_piece_X3_height : GoodIn wsX4_piece wsX3_height := goodIn_r _ [93, 56, 127, 128] (by decide +kernel) (by decide +kernel)
set_option maxRecDepth 20000 in
theorem gX4_piece_X3_height : GoodIn wsX4_piece (wsV RX4 208 RX3 yX3_height wsX3_height) := goodIn_app (goodIn_of _ (by decide +kernel)) ggX4_piece_X3_height
set_option maxRecDepth 20000 in
theorem ggX4_piece_X3_width : GoodIn wsX4_piece wsX3_width := goodIn_r _ [97, 56, 65, 66, 67, 68, 69, 70, 71, 127, 128] (by decide +kernel) (by decide +kernel)
set_option maxRecDepth 20000 in
theorem gX4_piece_X3_width : GoodIn wsX4_piece (wsV RX4 211 RX3 yX3_width wsX3_width) := goodIn_app (goodIn_of _ (by decide +kernel)) ggX4_piece_X3_width
set_option maxRecDepth 20000 in
theorem ggX4_piece_X2_layersThatAre : GoodIn wsX4_piece wsX2_layersThatAre := goodIn_r _ [102, 103, 104, 105, 106, 107, 108, 109, 110, 111, 112] (by decide +kernel) (by decide +kernel)
set_option maxRecDepth 20000 in
theorem gX4_piece_X2_layersThatAre : GoodIn wsX4_piece (wsV RX4 214 RX2 yX2_layersThatAre wsX2_layersThatAre) := goodIn_app (goodIn_of _ (by decide +kernel)) ggX4_piece_X2_layersThatAre
theorem dX4_piece_0 : decode cX4_piece 0 = .ok (.aload_n 0, 1) := by decide +kernel
theorem dX4_piece_1 : decode cX4_piece 1 = .ok (.iload_n 1, 1) := by decide +kernel
theorem dX4_piece_2 : decode cX4_piece 2 = .ok (.invokevirtual 62, 3) := by decide +kernel
theorem dX4_piece_5 : decode cX4_piece 5 = .ok (.astore_n 3, 1) := by decide +kernel
theorem dX4_piece_6 : decode cX4_piece 6 = .ok (.iload_n 2, 1) := by decide +kernel
theorem dX4_piece_7 : decode cX4_piece 7 = .ok (.tableswitch 129 0 9 #[53, 62, 67, 80, 85, 94, 103, 112, 117, 123], 53) := by decide +kernel
theorem dX4_piece_60 : decode cX4_piece 60 = .ok (.aload_n 0, 1) := by decide +kernel
theorem dX4_piece_61 : decode cX4_piece 61 = .ok (.iload_n 1, 1) := by decide +kernel
theorem dX4_piece_62 : decode cX4_piece 62 = .ok (.invokevirtual 134, 3) := by decide +kernel
theorem dX4_piece_65 : decode cX4_piece 65 = .ok (.invokevirtual 138, 3) := by decide +kernel
theorem dX4_piece_68 : decode cX4_piece 68 = .ok (.ireturn, 1) := by decide +kernel
theorem dX4_piece_69 : decode cX4_piece 69 = .ok (.aload_n 3, 1) := by decide +kernel
theorem dX4_piece_70 : decode cX4_piece 70 = .ok (.getfield 101, 3) := by decide +kernel
theorem dX4_piece_73 : decode cX4_piece 73 = .ok (.ireturn, 1) := by decide +kernel
theorem dX4_piece_74 : decode cX4_piece 74 = .ok (.aload_n 3, 1) := by decide +kernel
theorem dX4_piece_75 : decode cX4_piece 75 = .ok (.getfield 84, 3) := by decide +kernel
theorem dX4_piece_78 : decode cX4_piece 78 = .ok (.ifCond .eq 7, 3) := by decide +kernel
theorem dX4_piece_81 : decode cX4_piece 81 = .ok (.iconst 1, 1) := by decide +kernel
theorem dX4_piece_82 : decode cX4_piece 82 = .ok (.goto 4, 3) := by decide +kernel
theorem dX4_piece_85 : decode cX4_piece 85 = .ok (.iconst 0, 1) := by decide +kernel
theorem dX4_piece_86 : decode cX4_piece 86 = .ok (.ireturn, 1) := by decide +kernel
theorem dX4_piece_87 : decode cX4_piece 87 = .ok (.aload_n 3, 1) := by decide +kernel
theorem dX4_piece_88 : decode cX4_piece 88 = .ok (.getfield 183, 3) := by decide +kernel
theorem dX4_piece_91 : decode cX4_piece 91 = .ok (.ireturn, 1) := by decide +kernel
theorem dX4_piece_92 : decode cX4_piece 92 = .ok (.aload_n 0, 1) := by decide +kernel
theorem dX4_piece_93 : decode cX4_piece 93 = .ok (.iload_n 1, 1) := by decide +kernel
theorem dX4_piece_94 : decode cX4_piece 94 = .ok (.invokevirtual 134, 3) := by decide +kernel
theorem dX4_piece_97 : decode cX4_piece 97 = .ok (.invokevirtual 205, 3) := by decide +kernel
theorem dX4_piece_100 : decode cX4_piece 100 = .ok (.ireturn, 1) := by decide +kernel
theorem dX4_piece_101 : decode cX4_piece 101 = .ok (.aload_n 0, 1) := by decide +kernel
theorem dX4_piece_102 : decode cX4_piece 102 = .ok (.iload_n 1, 1) := by decide +kernel
theorem dX4_piece_103 : decode cX4_piece 103 = .ok (.invokevirtual 134, 3) := by decide +kernel
theorem dX4_piece_106 : decode cX4_piece 106 = .ok (.invokevirtual 208, 3) := by decide +kernel
theorem dX4_piece_109 : decode cX4_piece 109 = .ok (.ireturn, 1) := by decide +kernel
theorem dX4_piece_110 : decode cX4_piece 110 = .ok (.aload_n 0, 1) := by decide +kernel
theorem dX4_piece_111 : decode cX4_piece 111 = .ok (.iload_n 1, 1) := by decide +kernel
theorem dX4_piece_112 : decode cX4_piece 112 = .ok (.invokevirtual 134, 3) := by decide +kernel
theorem dX4_piece_115 : decode cX4_piece 115 = .ok (.invokevirtual 211, 3) := by decide +kernel
theorem dX4_piece_118 : decode cX4_piece 118 = .ok (.ireturn, 1) := by decide +kernel
theorem dX4_piece_119 : decode cX4_piece 119 = .ok (.aload_n 3, 1) := by decide +kernel
theorem dX4_piece_120 : decode cX4_piece 120 = .ok (.getfield 172, 3) := by decide +kernel
theorem dX4_piece_123 : decode cX4_piece 123 = .ok (.ireturn, 1) := by decide +kernel
theorem dX4_piece_124 : decode cX4_piece 124 = .ok (.aload_n 3, 1) := by decide +kernel
theorem dX4_piece_125 : decode cX4_piece 125 = .ok (.iconst 1, 1) := by decide +kernel
theorem dX4_piece_126 : decode cX4_piece 126 = .ok (.invokevirtual 214, 3) := by decide +kernel
theorem dX4_piece_129 : decode cX4_piece 129 = .ok (.ireturn, 1) := by decide +kernel
theorem dX4_piece_130 : decode cX4_piece 130 = .ok (.aload_n 3, 1) := by decide +kernel
theorem dX4_piece_131 : decode cX4_piece 131 = .ok (.iconst 2, 1) := by decide +kernel
theorem dX4_piece_132 : decode cX4_piece 132 = .ok (.invokevirtual 214, 3) := by decide +kernel
theorem dX4_piece_135 : decode cX4_piece 135 = .ok (.ireturn, 1) := by decide +kernel
theorem dX4_piece_136 : decode cX4_piece 136 = .ok (.new 70, 3) := by decide +kernel
theorem dX4_piece_139 : decode cX4_piece 139 = .ok (.dup, 1) := by decide +kernel
theorem dX4_piece_140 : decode cX4_piece 140 = .ok (.ldc 217, 2) := by decide +kernel
theorem dX4_piece_142 : decode cX4_piece 142 = .ok (.invokespecial 74, 3) := by decide +kernel
theorem dX4_piece_145 : decode cX4_piece 145 = .ok (.athrow, 1) := by decide +kernel
set_option maxRecDepth 20000 in
theorem ggX4_bestLine_X4_thePiece : GoodIn wsX4_bestLine wsX4_thePiece := goodIn_ca (goodIn_r _ [7, 8, 9, 2, 10, 11, 12, 13, 14, 6, 15, 16, 17, 18, 19, 20, 21, 22, 23, 24, 25, 26, 27, 28, 29, 30, 31, 32, 33, 34, 35, 36, 37, 38, 39, 40, 41, 42, 43, 44, 141, 142, 143, 144, 145, 146, 147, 148, 149, 150, 151, 152, 153, 154] (by decide +kernel) (by decide +kernel)) (goodIn_sub (fun _ h => List.mem_cons_of_mem _ (List.mem_append_right _ h)) (by decide +kernel))
set_option maxRecDepth 20000 in
theorem gX4_bestLine_X4_thePiece : GoodIn wsX4_bestLine (wsV RX4 62 RX4 yX4_thePiece wsX4_thePiece) := goodIn_app (goodIn_of _ (by decide +kernel)) ggX4_bestLine_X4_thePiece
set_option maxRecDepth 20000 in
theorem ggX4_bestLine_X3_trace : GoodIn wsX4_bestLine wsX3_trace := goodIn_r _ [49, 50, 51, 52, 53, 25, 54, 27, 155, 156, 153, 154] (by decide +kernel) (by decide +kernel)
set_option maxRecDepth 20000 in
theorem gX4_bestLine_X3_trace : GoodIn wsX4_bestLine (wsV RX4 77 RX3 yX3_trace wsX3_trace) := goodIn_app (goodIn_of _ (by decide +kernel)) ggX4_bestLine_X3_trace
set_option maxRecDepth 20000 in
theorem ggX4_bestLine_X4_isLine : GoodIn wsX4_bestLine wsX4_isLine := goodIn_r _ [57, 58, 59, 6, 60] (by decide +kernel) (by decide +kernel)
set_option maxRecDepth 20000 in
theorem gX4_bestLine_X4_isLine : GoodIn wsX4_bestLine (va_wsS RX4 66 yX4_isLine wsX4_isLine) := goodIn_app (goodIn_of _ (by decide +kernel)) ggX4_bestLine_X4_isLine
set_option maxRecDepth 20000 in
theorem ggX4_bestLine_X3_sidesAlong : GoodIn wsX4_bestLine wsX3_sidesAlong := goodIn_r _ [64, 59, 6, 60, 65, 66, 67, 48, 68, 50, 69, 70, 71, 72, 73, 74, 75, 76, 77, 78, 79, 155, 156] (by decide +kernel) (by decide +kernel)
set_option maxRecDepth 20000 in
theorem gX4_bestLine_X3_sidesAlong : GoodIn wsX4_bestLine (wsV RX4 219 RX3 yX3_sidesAlong wsX3_sidesAlong) := goodIn_app (goodIn_of _ (by decide +kernel)) ggX4_bestLine_X3_sidesAlong
set_option maxRecDepth 20000 in
theorem ggX4_bestLine_X4_partsAreGood : GoodIn wsX4_bestLine wsX4_partsAreGood := goodIn_r _ [83, 84, 85, 86, 87, 88, 6, 89, 1, 90, 91, 92, 48, 93, 50, 94, 95, 96, 97, 98, 99, 100, 101, 102, 103, 104, 105, 106, 107, 108, 109, 110, 111, 112, 113, 114, 115, 116, 59, 60, 117, 118, 119, 120, 121, 122, 123, 124, 125, 126, 127, 128, 129, 130, 131, 132, 133, 134, 135, 136, 137, 138, 139, 140, 141, 142, 143, 144, 145, 146, 147, 148, 149, 155, 156] (by decide +kernel) (by decide +kernel)
set_option maxRecDepth 20000 in
theorem gX4_bestLine_X4_partsAreGood : GoodIn wsX4_bestLine (wsV RX4 222 RX4 yX4_partsAreGood wsX4_partsAreGood) := goodIn_app (goodIn_of _ (by decide +kernel)) ggX4_bestLine_X4_partsAreGood
theorem dX4_bestLine_0 : decode cX4_bestLine 0 = .ok (.aload_n 0, 1) := by decide +kernel
theorem dX4_bestLine_1 : decode cX4_bestLine 1 = .ok (.iload_n 1, 1) := by decide +kernel
theorem dX4_bestLine_2 : decode cX4_bestLine 2 = .ok (.invokevirtual 62, 3) := by decide +kernel
theorem dX4_bestLine_5 : decode cX4_bestLine 5 = .ok (.pop, 1) := by decide +kernel
theorem dX4_bestLine_6 : decode cX4_bestLine 6 = .ok (.aload_n 0, 1) := by decide +kernel
theorem dX4_bestLine_7 : decode cX4_bestLine 7 = .ok (.getfield 26, 3) := by decide +kernel
theorem dX4_bestLine_10 : decode cX4_bestLine 10 = .ok (.aload_n 0, 1) := by decide +kernel
theorem dX4_bestLine_11 : decode cX4_bestLine 11 = .ok (.getfield 12, 3) := by decide +kernel
theorem dX4_bestLine_14 : decode cX4_bestLine 14 = .ok (.iload_n 1, 1) := by decide +kernel
theorem dX4_bestLine_15 : decode cX4_bestLine 15 = .ok (.invokevirtual 77, 3) := by decide +kernel
theorem dX4_bestLine_18 : decode cX4_bestLine 18 = .ok (.iconst (-1), 1) := by decide +kernel
theorem dX4_bestLine_19 : decode cX4_bestLine 19 = .ok (.istore_n 2, 1) := by decide +kernel
theorem dX4_bestLine_20 : decode cX4_bestLine 20 = .ok (.sipush 256, 3) := by decide +kernel
theorem dX4_bestLine_23 : decode cX4_bestLine 23 = .ok (.istore_n 3, 1) := by decide +kernel
theorem dX4_bestLine_24 : decode cX4_bestLine 24 = .ok (.iconst 0, 1) := by decide +kernel
theorem dX4_bestLine_25 : decode cX4_bestLine 25 = .ok (.istore 4, 2) := by decide +kernel
theorem dX4_bestLine_27 : decode cX4_bestLine 27 = .ok (.iload 4, 2) := by decide +kernel
theorem dX4_bestLine_29 : decode cX4_bestLine 29 = .ok (.bipush 32, 2) := by decide +kernel
theorem dX4_bestLine_31 : decode cX4_bestLine 31 = .ok (.if_icmp .ge 52, 3) := by decide +kernel
theorem dX4_bestLine_34 : decode cX4_bestLine 34 = .ok (.iload 4, 2) := by decide +kernel
theorem dX4_bestLine_36 : decode cX4_bestLine 36 = .ok (.invokestatic 66, 3) := by decide +kernel
theorem dX4_bestLine_39 : decode cX4_bestLine 39 = .ok (.ifCond .eq 38, 3) := by decide +kernel
theorem dX4_bestLine_42 : decode cX4_bestLine 42 = .ok (.aload_n 0, 1) := by decide +kernel
theorem dX4_bestLine_43 : decode cX4_bestLine 43 = .ok (.getfield 26, 3) := by decide +kernel
theorem dX4_bestLine_46 : decode cX4_bestLine 46 = .ok (.iload 4, 2) := by decide +kernel
theorem dX4_bestLine_48 : decode cX4_bestLine 48 = .ok (.invokevirtual 219, 3) := by decide +kernel
theorem dX4_bestLine_51 : decode cX4_bestLine 51 = .ok (.iload_n 3, 1) := by decide +kernel
theorem dX4_bestLine_52 : decode cX4_bestLine 52 = .ok (.if_icmp .ge 25, 3) := by decide +kernel
theorem dX4_bestLine_55 : decode cX4_bestLine 55 = .ok (.aload_n 0, 1) := by decide +kernel
theorem dX4_bestLine_56 : decode cX4_bestLine 56 = .ok (.iload 4, 2) := by decide +kernel
theorem dX4_bestLine_58 : decode cX4_bestLine 58 = .ok (.invokevirtual 222, 3) := by decide +kernel
theorem dX4_bestLine_61 : decode cX4_bestLine 61 = .ok (.ifCond .eq 16, 3) := by decide +kernel
theorem dX4_bestLine_64 : decode cX4_bestLine 64 = .ok (.iload 4, 2) := by decide +kernel
theorem dX4_bestLine_66 : decode cX4_bestLine 66 = .ok (.istore_n 2, 1) := by decide +kernel
theorem dX4_bestLine_67 : decode cX4_bestLine 67 = .ok (.aload_n 0, 1) := by decide +kernel
theorem dX4_bestLine_68 : decode cX4_bestLine 68 = .ok (.getfield 26, 3) := by decide +kernel
theorem dX4_bestLine_71 : decode cX4_bestLine 71 = .ok (.iload 4, 2) := by decide +kernel
theorem dX4_bestLine_73 : decode cX4_bestLine 73 = .ok (.invokevirtual 219, 3) := by decide +kernel
theorem dX4_bestLine_76 : decode cX4_bestLine 76 = .ok (.istore_n 3, 1) := by decide +kernel
theorem dX4_bestLine_77 : decode cX4_bestLine 77 = .ok (.iinc 4 1, 3) := by decide +kernel
theorem dX4_bestLine_80 : decode cX4_bestLine 80 = .ok (.goto (-53), 3) := by decide +kernel
theorem dX4_bestLine_83 : decode cX4_bestLine 83 = .ok (.iload_n 2, 1) := by decide +kernel
theorem dX4_bestLine_84 : decode cX4_bestLine 84 = .ok (.ireturn, 1) := by decide +kernel
set_option maxRecDepth 20000 in
theorem ggX4_lead_X0_leadLength : GoodIn wsX4_lead wsX0_leadLength := goodIn_r _ [6, 7, 8, 9, 5, 10, 11, 12, 13, 14, 24, 25] (by decide +kernel) (by decide +kernel)
set_option maxRecDepth 20000 in
theorem gX4_lead_X0_leadLength : GoodIn wsX4_lead (wsV RX4 225 RX0 yX0_leadLength wsX0_leadLength) := goodIn_app (goodIn_of _ (by decide +kernel)) ggX4_lead_X0_leadLength
theorem dX4_lead_0 : decode cX4_lead 0 = .ok (.aload_n 0, 1) := by decide +kernel
theorem dX4_lead_1 : decode cX4_lead 1 = .ok (.getfield 12, 3) := by decide +kernel
theorem dX4_lead_4 : decode cX4_lead 4 = .ok (.invokevirtual 225, 3) := by decide +kernel
theorem dX4_lead_7 : decode cX4_lead 7 = .ok (.ireturn, 1) := by decide +kernel
set_option maxRecDepth 20000 in
theorem ggX4_joints_X0_jointCount : GoodIn wsX4_joints wsX0_jointCount := goodIn_r _ [6, 7, 8, 9, 5, 10, 11, 12, 13, 14, 15, 16, 17, 18, 28, 29] (by decide +kernel) (by decide +kernel)
set_option maxRecDepth 20000 in
theorem gX4_joints_X0_jointCount : GoodIn wsX4_joints (wsV RX4 228 RX0 yX0_jointCount wsX0_jointCount) := goodIn_app (goodIn_of _ (by decide +kernel)) ggX4_joints_X0_jointCount
theorem dX4_joints_0 : decode cX4_joints 0 = .ok (.aload_n 0, 1) := by decide +kernel
theorem dX4_joints_1 : decode cX4_joints 1 = .ok (.getfield 12, 3) := by decide +kernel
theorem dX4_joints_4 : decode cX4_joints 4 = .ok (.invokevirtual 228, 3) := by decide +kernel
theorem dX4_joints_7 : decode cX4_joints 7 = .ok (.ireturn, 1) := by decide +kernel
set_option maxRecDepth 20000 in
theorem ggX4_weight_X0_leadLength : GoodIn wsX4_weight wsX0_leadLength := goodIn_r _ [7, 8, 9, 10, 6, 11, 12, 13, 14, 15, 25, 26] (by decide +kernel) (by decide +kernel)
set_option maxRecDepth 20000 in
theorem gX4_weight_X0_leadLength : GoodIn wsX4_weight (wsV RX4 225 RX0 yX0_leadLength wsX0_leadLength) := goodIn_app (goodIn_of _ (by decide +kernel)) ggX4_weight_X0_leadLength
theorem dX4_weight_0 : decode cX4_weight 0 = .ok (.sipush 768, 3) := by decide +kernel
theorem dX4_weight_3 : decode cX4_weight 3 = .ok (.aload_n 0, 1) := by decide +kernel
theorem dX4_weight_4 : decode cX4_weight 4 = .ok (.getfield 43, 3) := by decide +kernel
theorem dX4_weight_7 : decode cX4_weight 7 = .ok (.aload_n 0, 1) := by decide +kernel
theorem dX4_weight_8 : decode cX4_weight 8 = .ok (.getfield 12, 3) := by decide +kernel
theorem dX4_weight_11 : decode cX4_weight 11 = .ok (.invokevirtual 225, 3) := by decide +kernel
theorem dX4_weight_14 : decode cX4_weight 14 = .ok (.imul, 1) := by decide +kernel
theorem dX4_weight_15 : decode cX4_weight 15 = .ok (.iadd, 1) := by decide +kernel
theorem dX4_weight_16 : decode cX4_weight 16 = .ok (.ireturn, 1) := by decide +kernel
set_option maxRecDepth 20000 in
theorem ggX4_assembled_X0_putInAt : GoodIn wsX4_assembled wsX0_putInAt := goodIn_r _ [6, 7, 8, 9, 10, 5, 11, 12, 13, 14, 15, 16, 17, 18, 19, 20, 21, 22, 23, 24, 25, 26, 27, 28, 29, 30, 31, 32, 33, 34, 35, 36, 46, 47] (by decide +kernel) (by decide +kernel)
set_option maxRecDepth 20000 in
theorem gX4_assembled_X0_putInAt : GoodIn wsX4_assembled (wsV RX4 231 RX0 yX0_putInAt wsX0_putInAt) := goodIn_app (goodIn_of _ (by decide +kernel)) ggX4_assembled_X0_putInAt
theorem dX4_assembled_0 : decode cX4_assembled 0 = .ok (.aload_n 0, 1) := by decide +kernel
theorem dX4_assembled_1 : decode cX4_assembled 1 = .ok (.getfield 12, 3) := by decide +kernel
theorem dX4_assembled_4 : decode cX4_assembled 4 = .ok (.iload_n 1, 1) := by decide +kernel
theorem dX4_assembled_5 : decode cX4_assembled 5 = .ok (.invokevirtual 231, 3) := by decide +kernel
theorem dX4_assembled_8 : decode cX4_assembled 8 = .ok (.ireturn, 1) := by decide +kernel
set_option maxRecDepth 20000 in
theorem ggX4_laid_X4_thePiece : GoodIn wsX4_laid wsX4_thePiece := goodIn_ca (goodIn_r _ [6, 7, 8, 9, 10, 11, 12, 13, 14, 5, 15, 16, 17, 18, 19, 20, 21, 22, 23, 24, 25, 26, 27, 28, 29, 30, 31, 32, 33, 34, 35, 36, 37, 38, 39, 40, 41, 42, 43, 44, 132, 133, 134, 135, 136, 137, 138, 139, 140, 141, 142, 143, 144, 145] (by decide +kernel) (by decide +kernel)) (goodIn_sub (fun _ h => List.mem_cons_of_mem _ (List.mem_append_right _ h)) (by decide +kernel))
set_option maxRecDepth 20000 in
theorem gX4_laid_X4_thePiece : GoodIn wsX4_laid (wsV RX4 62 RX4 yX4_thePiece wsX4_thePiece) := goodIn_app (goodIn_of _ (by decide +kernel)) ggX4_laid_X4_thePiece
set_option maxRecDepth 20000 in
theorem ggX4_laid_X4_layColour : GoodIn wsX4_laid wsX4_layColour := goodIn_r _ [48, 1, 10, 11, 9, 49, 50, 51, 52, 53, 54, 55, 56, 57, 58, 59, 60, 61, 16, 17, 18, 19, 20, 21, 28, 29, 30, 31, 32, 33, 34, 35, 36, 37, 38, 39, 40, 41, 42, 43, 44, 22, 23, 24, 25, 26, 27, 62, 63, 64, 5, 65, 66, 67, 68, 69, 70, 71, 72, 73, 74, 75, 76, 77, 78, 79, 80, 81, 82, 83, 84, 85, 86, 87, 88, 89, 90, 91, 92, 93, 94, 95, 96, 97, 98, 99, 100, 101, 102, 103, 104, 105, 106, 107, 108, 109, 110, 111, 112, 113, 114, 115, 116, 117, 118, 119, 132, 133, 134, 135, 136, 137, 138, 139, 140, 124, 125, 126, 127, 128, 129, 130, 131, 146, 147, 148, 149, 150, 151, 152, 153, 154, 141, 142, 143, 144, 145, 155, 156] (by decide +kernel) (by decide +kernel)
set_option maxRecDepth 20000 in
theorem gX4_laid_X4_layColour : GoodIn wsX4_laid (wsV RX4 234 RX4 yX4_layColour wsX4_layColour) := goodIn_app (goodIn_of _ (by decide +kernel)) ggX4_laid_X4_layColour
set_option maxRecDepth 20000 in
theorem ggX4_laid_X1_spotOf : GoodIn wsX4_laid wsX1_spotOf := goodIn_r _ [123, 55, 99, 5, 100, 146, 147, 148, 149, 150, 151, 152, 153, 154] (by decide +kernel) (by decide +kernel)
set_option maxRecDepth 20000 in
theorem gX4_laid_X1_spotOf : GoodIn wsX4_laid (wsV RX4 240 RX1 yX1_spotOf wsX1_spotOf) := goodIn_app (goodIn_of _ (by decide +kernel)) ggX4_laid_X1_spotOf
theorem dX4_laid_0 : decode cX4_laid 0 = .ok (.aload_n 0, 1) := by decide +kernel
theorem dX4_laid_1 : decode cX4_laid 1 = .ok (.iload_n 1, 1) := by decide +kernel
theorem dX4_laid_2 : decode cX4_laid 2 = .ok (.invokevirtual 62, 3) := by decide +kernel
theorem dX4_laid_5 : decode cX4_laid 5 = .ok (.astore_n 2, 1) := by decide +kernel
theorem dX4_laid_6 : decode cX4_laid 6 = .ok (.aload_n 0, 1) := by decide +kernel
theorem dX4_laid_7 : decode cX4_laid 7 = .ok (.aload_n 2, 1) := by decide +kernel
theorem dX4_laid_8 : decode cX4_laid 8 = .ok (.getfield 101, 3) := by decide +kernel
theorem dX4_laid_11 : decode cX4_laid 11 = .ok (.invokevirtual 234, 3) := by decide +kernel
theorem dX4_laid_14 : decode cX4_laid 14 = .ok (.aload_n 0, 1) := by decide +kernel
theorem dX4_laid_15 : decode cX4_laid 15 = .ok (.getfield 39, 3) := by decide +kernel
theorem dX4_laid_18 : decode cX4_laid 18 = .ok (.iload_n 1, 1) := by decide +kernel
theorem dX4_laid_19 : decode cX4_laid 19 = .ok (.invokevirtual 240, 3) := by decide +kernel
theorem dX4_laid_22 : decode cX4_laid 22 = .ok (.ireturn, 1) := by decide +kernel
set_option maxRecDepth 20000 in
theorem ggX4_waste_X4_testColour : GoodIn wsX4_waste wsX4_testColour := goodIn_ca (goodIn_r _ [7, 8, 9] (by decide +kernel) (by decide +kernel)) (goodIn_sub (fun _ h => List.mem_cons_of_mem _ (List.mem_append_right _ h)) (by decide +kernel))
set_option maxRecDepth 20000 in
theorem gX4_waste_X4_testColour : GoodIn wsX4_waste (va_wsS RX4 141 yX4_testColour wsX4_testColour) := goodIn_app (goodIn_of _ (by decide +kernel)) ggX4_waste_X4_testColour
set_option maxRecDepth 20000 in
theorem ggX4_waste_X4_layColour : GoodIn wsX4_waste wsX4_layColour := goodIn_r _ [13, 1, 3, 14, 15, 2, 16, 17, 18, 19, 20, 21, 22, 23, 24, 25, 26, 27, 28, 29, 30, 31, 32, 33, 34, 35, 36, 37, 38, 39, 40, 41, 42, 43, 44, 45, 46, 47, 48, 49, 50, 51, 52, 53, 54, 55, 56, 57, 58, 59, 6, 60, 61, 62, 63, 64, 65, 66, 67, 68, 69, 70, 71, 72, 73, 74, 75, 76, 77, 78, 79, 80, 81, 82, 83, 84, 85, 86, 87, 88, 89, 90, 91, 92, 93, 94, 95, 96, 97, 98, 99, 100, 101, 102, 103, 104, 105, 106, 107, 108, 109, 110, 111, 112, 113, 114, 123, 124, 125, 126, 127, 128, 129, 130, 131, 141, 142, 143, 144, 145, 146, 147, 148, 132, 133, 134, 135, 136, 137, 138, 139, 140, 149, 150, 151, 152, 153, 154, 155] (by decide +kernel) (by decide +kernel)
set_option maxRecDepth 20000 in
theorem gX4_waste_X4_layColour : GoodIn wsX4_waste (wsV RX4 234 RX4 yX4_layColour wsX4_layColour) := goodIn_app (goodIn_of _ (by decide +kernel)) ggX4_waste_X4_layColour
set_option maxRecDepth 20000 in
theorem ggX4_waste_Jx4a65c_size_8abf5 : GoodIn wsX4_waste wsJx4a65c_size_8abf5 := goodIn_r _ [32, 33, 149, 150, 151] (by decide +kernel) (by decide +kernel)
set_option maxRecDepth 20000 in
theorem gX4_waste_Jx4a65c_size_8abf5 : GoodIn wsX4_waste (wsV RX4 88 RJx4a65c yJx4a65c_size_8abf5 wsJx4a65c_size_8abf5) := goodIn_app (goodIn_of _ (by decide +kernel)) ggX4_waste_Jx4a65c_size_8abf5
set_option maxRecDepth 20000 in
theorem ggX4_waste_X1_spotOf : GoodIn wsX4_waste wsX1_spotOf := goodIn_r _ [118, 21, 94, 6, 95, 132, 133, 134, 135, 136, 137, 138, 139, 140] (by decide +kernel) (by decide +kernel)
set_option maxRecDepth 20000 in
theorem gX4_waste_X1_spotOf : GoodIn wsX4_waste (wsV RX4 240 RX1 yX1_spotOf wsX1_spotOf) := goodIn_app (goodIn_of _ (by decide +kernel)) ggX4_waste_X1_spotOf
set_option maxRecDepth 20000 in
theorem ggX4_waste_X4_shapeOf : GoodIn wsX4_waste wsX4_shapeOf := goodIn_r _ [60, 61, 15, 62, 63, 64, 65, 66, 67, 68, 69, 70, 54, 71, 56, 123, 124, 125, 126, 127, 128, 129, 130, 131, 154, 155, 152, 153] (by decide +kernel) (by decide +kernel)
set_option maxRecDepth 20000 in
theorem gX4_waste_X4_shapeOf : GoodIn wsX4_waste (wsV RX4 134 RX4 yX4_shapeOf wsX4_shapeOf) := goodIn_app (goodIn_of _ (by decide +kernel)) ggX4_waste_X4_shapeOf
set_option maxRecDepth 20000 in
theorem ggX4_waste_X3_cellCount : GoodIn wsX4_waste wsX3_cellCount := goodIn_r _ [122, 67, 80, 81, 82, 83, 84, 85, 86, 154, 155] (by decide +kernel) (by decide +kernel)
set_option maxRecDepth 20000 in
theorem gX4_waste_X3_cellCount : GoodIn wsX4_waste (wsV RX4 138 RX3 yX3_cellCount wsX3_cellCount) := goodIn_app (goodIn_of _ (by decide +kernel)) ggX4_waste_X3_cellCount
theorem dX4_waste_0 : decode cX4_waste 0 = .ok (.iload_n 1, 1) := by decide +kernel
theorem dX4_waste_1 : decode cX4_waste 1 = .ok (.invokestatic 141, 3) := by decide +kernel
theorem dX4_waste_4 : decode cX4_waste 4 = .ok (.aload_n 0, 1) := by decide +kernel
theorem dX4_waste_5 : decode cX4_waste 5 = .ok (.iload_n 1, 1) := by decide +kernel
theorem dX4_waste_6 : decode cX4_waste 6 = .ok (.invokevirtual 234, 3) := by decide +kernel
theorem dX4_waste_9 : decode cX4_waste 9 = .ok (.aload_n 0, 1) := by decide +kernel
theorem dX4_waste_10 : decode cX4_waste 10 = .ok (.getfield 39, 3) := by decide +kernel
theorem dX4_waste_13 : decode cX4_waste 13 = .ok (.getfield 237, 3) := by decide +kernel
theorem dX4_waste_16 : decode cX4_waste 16 = .ok (.bipush 20, 2) := by decide +kernel
theorem dX4_waste_18 : decode cX4_waste 18 = .ok (.imul, 1) := by decide +kernel
theorem dX4_waste_19 : decode cX4_waste 19 = .ok (.aload_n 0, 1) := by decide +kernel
theorem dX4_waste_20 : decode cX4_waste 20 = .ok (.getfield 47, 3) := by decide +kernel
theorem dX4_waste_23 : decode cX4_waste 23 = .ok (.imul, 1) := by decide +kernel
theorem dX4_waste_24 : decode cX4_waste 24 = .ok (.istore_n 2, 1) := by decide +kernel
theorem dX4_waste_25 : decode cX4_waste 25 = .ok (.iconst 0, 1) := by decide +kernel
theorem dX4_waste_26 : decode cX4_waste 26 = .ok (.istore_n 3, 1) := by decide +kernel
theorem dX4_waste_27 : decode cX4_waste 27 = .ok (.iload_n 3, 1) := by decide +kernel
theorem dX4_waste_28 : decode cX4_waste 28 = .ok (.aload_n 0, 1) := by decide +kernel
theorem dX4_waste_29 : decode cX4_waste 29 = .ok (.getfield 19, 3) := by decide +kernel
theorem dX4_waste_32 : decode cX4_waste 32 = .ok (.invokevirtual 88, 3) := by decide +kernel
theorem dX4_waste_35 : decode cX4_waste 35 = .ok (.if_icmp .ge 32, 3) := by decide +kernel
theorem dX4_waste_38 : decode cX4_waste 38 = .ok (.aload_n 0, 1) := by decide +kernel
theorem dX4_waste_39 : decode cX4_waste 39 = .ok (.getfield 39, 3) := by decide +kernel
theorem dX4_waste_42 : decode cX4_waste 42 = .ok (.iload_n 3, 1) := by decide +kernel
theorem dX4_waste_43 : decode cX4_waste 43 = .ok (.invokevirtual 240, 3) := by decide +kernel
theorem dX4_waste_46 : decode cX4_waste 46 = .ok (.iconst (-1), 1) := by decide +kernel
theorem dX4_waste_47 : decode cX4_waste 47 = .ok (.if_icmp .eq 14, 3) := by decide +kernel
theorem dX4_waste_50 : decode cX4_waste 50 = .ok (.iload_n 2, 1) := by decide +kernel
theorem dX4_waste_51 : decode cX4_waste 51 = .ok (.aload_n 0, 1) := by decide +kernel
theorem dX4_waste_52 : decode cX4_waste 52 = .ok (.iload_n 3, 1) := by decide +kernel
theorem dX4_waste_53 : decode cX4_waste 53 = .ok (.invokevirtual 134, 3) := by decide +kernel
theorem dX4_waste_56 : decode cX4_waste 56 = .ok (.invokevirtual 138, 3) := by decide +kernel
theorem dX4_waste_59 : decode cX4_waste 59 = .ok (.isub, 1) := by decide +kernel
theorem dX4_waste_60 : decode cX4_waste 60 = .ok (.istore_n 2, 1) := by decide +kernel
theorem dX4_waste_61 : decode cX4_waste 61 = .ok (.iinc 3 1, 3) := by decide +kernel
theorem dX4_waste_64 : decode cX4_waste 64 = .ok (.goto (-37), 3) := by decide +kernel
theorem dX4_waste_67 : decode cX4_waste 67 = .ok (.iload_n 2, 1) := by decide +kernel
theorem dX4_waste_68 : decode cX4_waste 68 = .ok (.ireturn, 1) := by decide +kernel
set_option maxRecDepth 20000 in
theorem ggX4_floor_X4_testHour : GoodIn wsX4_floor wsX4_testHour := goodIn_ca (goodIn_r _ [4, 5, 6] (by decide +kernel) (by decide +kernel)) (goodIn_sub (fun _ h => List.mem_cons_of_mem _ (List.mem_append_right _ h)) (by decide +kernel))
set_option maxRecDepth 20000 in
theorem gX4_floor_X4_testHour : GoodIn wsX4_floor (va_wsS RX4 243 yX4_testHour wsX4_testHour) := goodIn_app (goodIn_of _ (by decide +kernel)) ggX4_floor_X4_testHour
set_option maxRecDepth 20000 in
theorem ggX4_floor_X4_depthOf : GoodIn wsX4_floor wsX4_depthOf := goodIn_r _ [9, 10, 11, 3, 12, 13, 14, 15, 16] (by decide +kernel) (by decide +kernel)
set_option maxRecDepth 20000 in
theorem gX4_floor_X4_depthOf : GoodIn wsX4_floor (va_wsS RX4 246 yX4_depthOf wsX4_depthOf) := goodIn_app (goodIn_of _ (by decide +kernel)) ggX4_floor_X4_depthOf
set_option maxRecDepth 20000 in
theorem ggX4_floor_X4_drift : GoodIn wsX4_floor wsX4_drift := goodIn_r _ [19, 20, 21, 22, 23] (by decide +kernel) (by decide +kernel)
set_option maxRecDepth 20000 in
theorem gX4_floor_X4_drift : GoodIn wsX4_floor (va_wsS RX4 250 yX4_drift wsX4_drift) := goodIn_app (goodIn_of _ (by decide +kernel)) ggX4_floor_X4_drift
set_option maxRecDepth 20000 in
theorem ggX4_floor_X4_colourBit : GoodIn wsX4_floor wsX4_colourBit := goodIn_r _ [27, 28, 29, 30, 31, 32, 33, 34, 35, 36, 37, 38, 39, 3, 40, 41, 42, 43, 44, 45, 46, 47, 48, 49, 50, 51, 52, 53, 54, 55, 56, 57, 58, 59, 60, 61, 62, 63, 64, 65, 66, 67, 68, 69, 70, 71, 72, 73, 74, 75, 76, 77, 78, 79, 80, 81, 82, 83, 84, 85] (by decide +kernel) (by decide +kernel)
set_option maxRecDepth 20000 in
theorem gX4_floor_X4_colourBit : GoodIn wsX4_floor (wsV RX4 253 RX4 yX4_colourBit wsX4_colourBit) := goodIn_app (goodIn_of _ (by decide +kernel)) ggX4_floor_X4_colourBit
theorem dX4_floor_0 : decode cX4_floor 0 = .ok (.iload_n 3, 1) := by decide +kernel
theorem dX4_floor_1 : decode cX4_floor 1 = .ok (.invokestatic 243, 3) := by decide +kernel
theorem dX4_floor_4 : decode cX4_floor 4 = .ok (.iconst 0, 1) := by decide +kernel
theorem dX4_floor_5 : decode cX4_floor 5 = .ok (.istore 4, 2) := by decide +kernel
theorem dX4_floor_7 : decode cX4_floor 7 = .ok (.iconst 0, 1) := by decide +kernel
theorem dX4_floor_8 : decode cX4_floor 8 = .ok (.istore 5, 2) := by decide +kernel
theorem dX4_floor_10 : decode cX4_floor 10 = .ok (.iload 5, 2) := by decide +kernel
theorem dX4_floor_12 : decode cX4_floor 12 = .ok (.bipush 16, 2) := by decide +kernel
theorem dX4_floor_14 : decode cX4_floor 14 = .ok (.if_icmp .ge 65, 3) := by decide +kernel
theorem dX4_floor_17 : decode cX4_floor 17 = .ok (.iload 5, 2) := by decide +kernel
theorem dX4_floor_19 : decode cX4_floor 19 = .ok (.iload_n 3, 1) := by decide +kernel
theorem dX4_floor_20 : decode cX4_floor 20 = .ok (.invokestatic 246, 3) := by decide +kernel
theorem dX4_floor_23 : decode cX4_floor 23 = .ok (.istore 6, 2) := by decide +kernel
theorem dX4_floor_25 : decode cX4_floor 25 = .ok (.iconst 0, 1) := by decide +kernel
theorem dX4_floor_26 : decode cX4_floor 26 = .ok (.istore 7, 2) := by decide +kernel
theorem dX4_floor_28 : decode cX4_floor 28 = .ok (.iload 7, 2) := by decide +kernel
theorem dX4_floor_30 : decode cX4_floor 30 = .ok (.bipush 16, 2) := by decide +kernel
theorem dX4_floor_32 : decode cX4_floor 32 = .ok (.if_icmp .ge 41, 3) := by decide +kernel
theorem dX4_floor_35 : decode cX4_floor 35 = .ok (.iload 6, 2) := by decide +kernel
theorem dX4_floor_37 : decode cX4_floor 37 = .ok (.iload_n 1, 1) := by decide +kernel
theorem dX4_floor_38 : decode cX4_floor 38 = .ok (.if_icmp .ne 29, 3) := by decide +kernel
theorem dX4_floor_41 : decode cX4_floor 41 = .ok (.iload 7, 2) := by decide +kernel
theorem dX4_floor_43 : decode cX4_floor 43 = .ok (.iload 6, 2) := by decide +kernel
theorem dX4_floor_45 : decode cX4_floor 45 = .ok (.iload_n 3, 1) := by decide +kernel
theorem dX4_floor_46 : decode cX4_floor 46 = .ok (.invokestatic 250, 3) := by decide +kernel
theorem dX4_floor_49 : decode cX4_floor 49 = .ok (.iadd, 1) := by decide +kernel
theorem dX4_floor_50 : decode cX4_floor 50 = .ok (.iload_n 2, 1) := by decide +kernel
theorem dX4_floor_51 : decode cX4_floor 51 = .ok (.if_icmp .ne 16, 3) := by decide +kernel
theorem dX4_floor_54 : decode cX4_floor 54 = .ok (.iload 4, 2) := by decide +kernel
theorem dX4_floor_56 : decode cX4_floor 56 = .ok (.aload_n 0, 1) := by decide +kernel
theorem dX4_floor_57 : decode cX4_floor 57 = .ok (.iload 5, 2) := by decide +kernel
theorem dX4_floor_59 : decode cX4_floor 59 = .ok (.iload 7, 2) := by decide +kernel
theorem dX4_floor_61 : decode cX4_floor 61 = .ok (.invokevirtual 253, 3) := by decide +kernel
theorem dX4_floor_64 : decode cX4_floor 64 = .ok (.ior, 1) := by decide +kernel
theorem dX4_floor_65 : decode cX4_floor 65 = .ok (.istore 4, 2) := by decide +kernel
theorem dX4_floor_67 : decode cX4_floor 67 = .ok (.iinc 7 1, 3) := by decide +kernel
theorem dX4_floor_70 : decode cX4_floor 70 = .ok (.goto (-42), 3) := by decide +kernel
theorem dX4_floor_73 : decode cX4_floor 73 = .ok (.iinc 5 1, 3) := by decide +kernel
theorem dX4_floor_76 : decode cX4_floor 76 = .ok (.goto (-66), 3) := by decide +kernel
theorem dX4_floor_79 : decode cX4_floor 79 = .ok (.iload 4, 2) := by decide +kernel
theorem dX4_floor_81 : decode cX4_floor 81 = .ok (.ireturn, 1) := by decide +kernel
set_option maxRecDepth 20000 in
theorem ggX4_floorAnew_X4_testHour : GoodIn wsX4_floorAnew wsX4_testHour := goodIn_ca (goodIn_r _ [12, 13, 14] (by decide +kernel) (by decide +kernel)) (goodIn_sub (fun _ h => List.mem_cons_of_mem _ (List.mem_append_right _ h)) (by decide +kernel))
set_option maxRecDepth 20000 in
theorem gX4_floorAnew_X4_testHour : GoodIn wsX4_floorAnew (va_wsS RX4 243 yX4_testHour wsX4_testHour) := goodIn_app (goodIn_of _ (by decide +kernel)) ggX4_floorAnew_X4_testHour
set_option maxRecDepth 20000 in
theorem ggX4_floorAnew_X4_drift : GoodIn wsX4_floorAnew wsX4_drift := goodIn_r _ [17, 18, 19, 20, 21] (by decide +kernel) (by decide +kernel)
set_option maxRecDepth 20000 in
theorem gX4_floorAnew_X4_drift : GoodIn wsX4_floorAnew (va_wsS RX4 250 yX4_drift wsX4_drift) := goodIn_app (goodIn_of _ (by decide +kernel)) ggX4_floorAnew_X4_drift
set_option maxRecDepth 20000 in
theorem ggX4_floorAnew_X4_sunAt : GoodIn wsX4_floorAnew wsX4_sunAt := goodIn_r _ [24, 25, 26, 4, 27] (by decide +kernel) (by decide +kernel)
set_option maxRecDepth 20000 in
theorem gX4_floorAnew_X4_sunAt : GoodIn wsX4_floorAnew (va_wsS RX4 258 yX4_sunAt wsX4_sunAt) := goodIn_app (goodIn_of _ (by decide +kernel)) ggX4_floorAnew_X4_sunAt
set_option maxRecDepth 20000 in
theorem ggX4_floorAnew_X4_colourBit : GoodIn wsX4_floorAnew wsX4_colourBit := goodIn_r _ [31, 32, 33, 34, 35, 36, 37, 38, 39, 40, 41, 42, 43, 11, 44, 45, 46, 47, 48, 49, 50, 51, 52, 53, 54, 55, 56, 57, 58, 59, 60, 61, 62, 63, 64, 65, 66, 67, 68, 69, 70, 71, 72, 73, 74, 75, 76, 77, 78, 79, 80, 81, 82, 83, 84, 85, 86, 87, 88, 89] (by decide +kernel) (by decide +kernel)
set_option maxRecDepth 20000 in
theorem gX4_floorAnew_X4_colourBit : GoodIn wsX4_floorAnew (wsV RX4 253 RX4 yX4_colourBit wsX4_colourBit) := goodIn_app (goodIn_of _ (by decide +kernel)) ggX4_floorAnew_X4_colourBit
theorem dX4_floorAnew_0 : decode cX4_floorAnew 0 = .ok (.iload_n 3, 1) := by decide +kernel
theorem dX4_floorAnew_1 : decode cX4_floorAnew 1 = .ok (.invokestatic 243, 3) := by decide +kernel
theorem dX4_floorAnew_4 : decode cX4_floorAnew 4 = .ok (.iload_n 1, 1) := by decide +kernel
theorem dX4_floorAnew_5 : decode cX4_floorAnew 5 = .ok (.ifCond .lt 9, 3) := by decide +kernel
theorem dX4_floorAnew_8 : decode cX4_floorAnew 8 = .ok (.iload_n 1, 1) := by decide +kernel
theorem dX4_floorAnew_9 : decode cX4_floorAnew 9 = .ok (.bipush 64, 2) := by decide +kernel
theorem dX4_floorAnew_11 : decode cX4_floorAnew 11 = .ok (.if_icmp .le 5, 3) := by decide +kernel
theorem dX4_floorAnew_14 : decode cX4_floorAnew 14 = .ok (.iconst 0, 1) := by decide +kernel
theorem dX4_floorAnew_15 : decode cX4_floorAnew 15 = .ok (.ireturn, 1) := by decide +kernel
theorem dX4_floorAnew_16 : decode cX4_floorAnew 16 = .ok (.iload_n 2, 1) := by decide +kernel
theorem dX4_floorAnew_17 : decode cX4_floorAnew 17 = .ok (.i2l, 1) := by decide +kernel
theorem dX4_floorAnew_18 : decode cX4_floorAnew 18 = .ok (.iload_n 1, 1) := by decide +kernel
theorem dX4_floorAnew_19 : decode cX4_floorAnew 19 = .ok (.iload_n 3, 1) := by decide +kernel
theorem dX4_floorAnew_20 : decode cX4_floorAnew 20 = .ok (.invokestatic 250, 3) := by decide +kernel
theorem dX4_floorAnew_23 : decode cX4_floorAnew 23 = .ok (.i2l, 1) := by decide +kernel
theorem dX4_floorAnew_24 : decode cX4_floorAnew 24 = .ok (.lsub, 1) := by decide +kernel
theorem dX4_floorAnew_25 : decode cX4_floorAnew 25 = .ok (.lstore 4, 2) := by decide +kernel
theorem dX4_floorAnew_27 : decode cX4_floorAnew 27 = .ok (.lload 4, 2) := by decide +kernel
theorem dX4_floorAnew_29 : decode cX4_floorAnew 29 = .ok (.lconst 0, 1) := by decide +kernel
theorem dX4_floorAnew_30 : decode cX4_floorAnew 30 = .ok (.lcmp, 1) := by decide +kernel
theorem dX4_floorAnew_31 : decode cX4_floorAnew 31 = .ok (.ifCond .lt 12, 3) := by decide +kernel
theorem dX4_floorAnew_34 : decode cX4_floorAnew 34 = .ok (.lload 4, 2) := by decide +kernel
theorem dX4_floorAnew_36 : decode cX4_floorAnew 36 = .ok (.ldc2_w 256, 3) := by decide +kernel
theorem dX4_floorAnew_39 : decode cX4_floorAnew 39 = .ok (.lcmp, 1) := by decide +kernel
theorem dX4_floorAnew_40 : decode cX4_floorAnew 40 = .ok (.ifCond .lt 5, 3) := by decide +kernel
theorem dX4_floorAnew_43 : decode cX4_floorAnew 43 = .ok (.iconst 0, 1) := by decide +kernel
theorem dX4_floorAnew_44 : decode cX4_floorAnew 44 = .ok (.ireturn, 1) := by decide +kernel
theorem dX4_floorAnew_45 : decode cX4_floorAnew 45 = .ok (.iload_n 3, 1) := by decide +kernel
theorem dX4_floorAnew_46 : decode cX4_floorAnew 46 = .ok (.invokestatic 258, 3) := by decide +kernel
theorem dX4_floorAnew_49 : decode cX4_floorAnew 49 = .ok (.istore 6, 2) := by decide +kernel
theorem dX4_floorAnew_51 : decode cX4_floorAnew 51 = .ok (.iconst 1, 1) := by decide +kernel
theorem dX4_floorAnew_52 : decode cX4_floorAnew 52 = .ok (.iload 6, 2) := by decide +kernel
theorem dX4_floorAnew_54 : decode cX4_floorAnew 54 = .ok (.iload_n 1, 1) := by decide +kernel
theorem dX4_floorAnew_55 : decode cX4_floorAnew 55 = .ok (.imul, 1) := by decide +kernel
theorem dX4_floorAnew_56 : decode cX4_floorAnew 56 = .ok (.iconst 4, 1) := by decide +kernel
theorem dX4_floorAnew_57 : decode cX4_floorAnew 57 = .ok (.iadd, 1) := by decide +kernel
theorem dX4_floorAnew_58 : decode cX4_floorAnew 58 = .ok (.iconst 1, 1) := by decide +kernel
theorem dX4_floorAnew_59 : decode cX4_floorAnew 59 = .ok (.isub, 1) := by decide +kernel
theorem dX4_floorAnew_60 : decode cX4_floorAnew 60 = .ok (.iconst 4, 1) := by decide +kernel
theorem dX4_floorAnew_61 : decode cX4_floorAnew 61 = .ok (.idiv, 1) := by decide +kernel
theorem dX4_floorAnew_62 : decode cX4_floorAnew 62 = .ok (.invokestatic 261, 3) := by decide +kernel
theorem dX4_floorAnew_65 : decode cX4_floorAnew 65 = .ok (.istore 7, 2) := by decide +kernel
theorem dX4_floorAnew_67 : decode cX4_floorAnew 67 = .ok (.bipush 16, 2) := by decide +kernel
theorem dX4_floorAnew_69 : decode cX4_floorAnew 69 = .ok (.iload 6, 2) := by decide +kernel
theorem dX4_floorAnew_71 : decode cX4_floorAnew 71 = .ok (.iload_n 1, 1) := by decide +kernel
theorem dX4_floorAnew_72 : decode cX4_floorAnew 72 = .ok (.iconst 1, 1) := by decide +kernel
theorem dX4_floorAnew_73 : decode cX4_floorAnew 73 = .ok (.iadd, 1) := by decide +kernel
theorem dX4_floorAnew_74 : decode cX4_floorAnew 74 = .ok (.imul, 1) := by decide +kernel
theorem dX4_floorAnew_75 : decode cX4_floorAnew 75 = .ok (.iconst 1, 1) := by decide +kernel
theorem dX4_floorAnew_76 : decode cX4_floorAnew 76 = .ok (.isub, 1) := by decide +kernel
theorem dX4_floorAnew_77 : decode cX4_floorAnew 77 = .ok (.iconst 4, 1) := by decide +kernel
theorem dX4_floorAnew_78 : decode cX4_floorAnew 78 = .ok (.idiv, 1) := by decide +kernel
theorem dX4_floorAnew_79 : decode cX4_floorAnew 79 = .ok (.invokestatic 266, 3) := by decide +kernel
theorem dX4_floorAnew_82 : decode cX4_floorAnew 82 = .ok (.istore 8, 2) := by decide +kernel
theorem dX4_floorAnew_84 : decode cX4_floorAnew 84 = .ok (.iconst 0, 1) := by decide +kernel
theorem dX4_floorAnew_85 : decode cX4_floorAnew 85 = .ok (.istore 9, 2) := by decide +kernel
theorem dX4_floorAnew_87 : decode cX4_floorAnew 87 = .ok (.iload 7, 2) := by decide +kernel
theorem dX4_floorAnew_89 : decode cX4_floorAnew 89 = .ok (.istore 10, 2) := by decide +kernel
theorem dX4_floorAnew_91 : decode cX4_floorAnew 91 = .ok (.iload 10, 2) := by decide +kernel
theorem dX4_floorAnew_93 : decode cX4_floorAnew 93 = .ok (.iload 8, 2) := by decide +kernel
theorem dX4_floorAnew_95 : decode cX4_floorAnew 95 = .ok (.if_icmp .gt 26, 3) := by decide +kernel
theorem dX4_floorAnew_98 : decode cX4_floorAnew 98 = .ok (.iload 9, 2) := by decide +kernel
theorem dX4_floorAnew_100 : decode cX4_floorAnew 100 = .ok (.aload_n 0, 1) := by decide +kernel
theorem dX4_floorAnew_101 : decode cX4_floorAnew 101 = .ok (.bipush 16, 2) := by decide +kernel
theorem dX4_floorAnew_103 : decode cX4_floorAnew 103 = .ok (.iload 10, 2) := by decide +kernel
theorem dX4_floorAnew_105 : decode cX4_floorAnew 105 = .ok (.isub, 1) := by decide +kernel
theorem dX4_floorAnew_106 : decode cX4_floorAnew 106 = .ok (.lload 4, 2) := by decide +kernel
theorem dX4_floorAnew_108 : decode cX4_floorAnew 108 = .ok (.l2i, 1) := by decide +kernel
theorem dX4_floorAnew_109 : decode cX4_floorAnew 109 = .ok (.invokevirtual 253, 3) := by decide +kernel
theorem dX4_floorAnew_112 : decode cX4_floorAnew 112 = .ok (.ior, 1) := by decide +kernel
theorem dX4_floorAnew_113 : decode cX4_floorAnew 113 = .ok (.istore 9, 2) := by decide +kernel
theorem dX4_floorAnew_115 : decode cX4_floorAnew 115 = .ok (.iinc 10 1, 3) := by decide +kernel
theorem dX4_floorAnew_118 : decode cX4_floorAnew 118 = .ok (.goto (-27), 3) := by decide +kernel
theorem dX4_floorAnew_121 : decode cX4_floorAnew 121 = .ok (.iload 9, 2) := by decide +kernel
theorem dX4_floorAnew_123 : decode cX4_floorAnew 123 = .ok (.ireturn, 1) := by decide +kernel
set_option maxRecDepth 20000 in
theorem ggX4_crosses_X4_testRowLine : GoodIn wsX4_crosses wsX4_testRowLine := goodIn_ca (goodIn_r _ [5, 6, 7, 8, 9, 4, 10] (by decide +kernel) (by decide +kernel)) (goodIn_sub (fun _ h => List.mem_cons_of_mem _ (List.mem_append_right _ h)) (by decide +kernel))
set_option maxRecDepth 20000 in
theorem gX4_crosses_X4_testRowLine : GoodIn wsX4_crosses (va_wsS RX4 157 yX4_testRowLine wsX4_testRowLine) := goodIn_app (goodIn_of _ (by decide +kernel)) ggX4_crosses_X4_testRowLine
set_option maxRecDepth 20000 in
theorem ggX4_crosses_X0_crossedBehind : GoodIn wsX4_crosses wsX0_crossedBehind := goodIn_r _ [15, 16, 17, 18, 14, 19, 20, 21, 22, 23, 24, 25, 26, 27, 37, 38] (by decide +kernel) (by decide +kernel)
set_option maxRecDepth 20000 in
theorem gX4_crosses_X0_crossedBehind : GoodIn wsX4_crosses (wsV RX4 269 RX0 yX0_crossedBehind wsX0_crossedBehind) := goodIn_app (goodIn_of _ (by decide +kernel)) ggX4_crosses_X0_crossedBehind
theorem dX4_crosses_0 : decode cX4_crosses 0 = .ok (.iload_n 1, 1) := by decide +kernel
theorem dX4_crosses_1 : decode cX4_crosses 1 = .ok (.invokestatic 157, 3) := by decide +kernel
theorem dX4_crosses_4 : decode cX4_crosses 4 = .ok (.aload_n 0, 1) := by decide +kernel
theorem dX4_crosses_5 : decode cX4_crosses 5 = .ok (.getfield 12, 3) := by decide +kernel
theorem dX4_crosses_8 : decode cX4_crosses 8 = .ok (.iload_n 1, 1) := by decide +kernel
theorem dX4_crosses_9 : decode cX4_crosses 9 = .ok (.invokevirtual 269, 3) := by decide +kernel
theorem dX4_crosses_12 : decode cX4_crosses 12 = .ok (.ireturn, 1) := by decide +kernel
set_option maxRecDepth 20000 in
theorem ggX4_bends_J6_bitCount_0f7a4 : GoodIn wsX4_bends wsJ6_bitCount_0f7a4 := goodIn_r _ [9, 10, 11, 12] (by decide +kernel) (by decide +kernel)
set_option maxRecDepth 20000 in
theorem gX4_bends_J6_bitCount_0f7a4 : GoodIn wsX4_bends (va_wsS RX4 163 yJ6_bitCount_0f7a4 wsJ6_bitCount_0f7a4) := goodIn_app (goodIn_of _ (by decide +kernel)) ggX4_bends_J6_bitCount_0f7a4
set_option maxRecDepth 20000 in
theorem ggX4_bends_X4_rowsOf : GoodIn wsX4_bends wsX4_rowsOf := goodIn_r _ [17, 18, 19, 20, 16, 21, 5, 22, 23, 24, 25, 26, 27, 28, 29, 30] (by decide +kernel) (by decide +kernel)
set_option maxRecDepth 20000 in
theorem gX4_bends_X4_rowsOf : GoodIn wsX4_bends (wsV RX4 279 RX4 yX4_rowsOf wsX4_rowsOf) := goodIn_app (goodIn_of _ (by decide +kernel)) ggX4_bends_X4_rowsOf
theorem dX4_bends_0 : decode cX4_bends 0 = .ok (.iload_n 1, 1) := by decide +kernel
theorem dX4_bends_1 : decode cX4_bends 1 = .ok (.ifCond .lt 14, 3) := by decide +kernel
theorem dX4_bends_4 : decode cX4_bends 4 = .ok (.iload_n 1, 1) := by decide +kernel
theorem dX4_bends_5 : decode cX4_bends 5 = .ok (.aload_n 0, 1) := by decide +kernel
theorem dX4_bends_6 : decode cX4_bends 6 = .ok (.getfield 50, 3) := by decide +kernel
theorem dX4_bends_9 : decode cX4_bends 9 = .ok (.invokestatic 163, 3) := by decide +kernel
theorem dX4_bends_12 : decode cX4_bends 12 = .ok (.if_icmp .le 14, 3) := by decide +kernel
theorem dX4_bends_15 : decode cX4_bends 15 = .ok (.new 272, 3) := by decide +kernel
theorem dX4_bends_18 : decode cX4_bends 18 = .ok (.dup, 1) := by decide +kernel
theorem dX4_bends_19 : decode cX4_bends 19 = .ok (.ldc_w 274, 3) := by decide +kernel
theorem dX4_bends_22 : decode cX4_bends 22 = .ok (.invokespecial 276, 3) := by decide +kernel
theorem dX4_bends_25 : decode cX4_bends 25 = .ok (.athrow, 1) := by decide +kernel
theorem dX4_bends_26 : decode cX4_bends 26 = .ok (.iload_n 2, 1) := by decide +kernel
theorem dX4_bends_27 : decode cX4_bends 27 = .ok (.ifCond .lt 9, 3) := by decide +kernel
theorem dX4_bends_30 : decode cX4_bends 30 = .ok (.iload_n 2, 1) := by decide +kernel
theorem dX4_bends_31 : decode cX4_bends 31 = .ok (.bipush 9, 2) := by decide +kernel
theorem dX4_bends_33 : decode cX4_bends 33 = .ok (.if_icmp .le 14, 3) := by decide +kernel
theorem dX4_bends_36 : decode cX4_bends 36 = .ok (.new 70, 3) := by decide +kernel
theorem dX4_bends_39 : decode cX4_bends 39 = .ok (.dup, 1) := by decide +kernel
theorem dX4_bends_40 : decode cX4_bends 40 = .ok (.ldc_w 277, 3) := by decide +kernel
theorem dX4_bends_43 : decode cX4_bends 43 = .ok (.invokespecial 74, 3) := by decide +kernel
theorem dX4_bends_46 : decode cX4_bends 46 = .ok (.athrow, 1) := by decide +kernel
theorem dX4_bends_47 : decode cX4_bends 47 = .ok (.aload_n 0, 1) := by decide +kernel
theorem dX4_bends_48 : decode cX4_bends 48 = .ok (.iload_n 1, 1) := by decide +kernel
theorem dX4_bends_49 : decode cX4_bends 49 = .ok (.invokevirtual 279, 3) := by decide +kernel
theorem dX4_bends_52 : decode cX4_bends 52 = .ok (.istore_n 3, 1) := by decide +kernel
theorem dX4_bends_53 : decode cX4_bends 53 = .ok (.iload_n 2, 1) := by decide +kernel
theorem dX4_bends_54 : decode cX4_bends 54 = .ok (.iload_n 3, 1) := by decide +kernel
theorem dX4_bends_55 : decode cX4_bends 55 = .ok (.imul, 1) := by decide +kernel
theorem dX4_bends_56 : decode cX4_bends 56 = .ok (.iload_n 3, 1) := by decide +kernel
theorem dX4_bends_57 : decode cX4_bends 57 = .ok (.imul, 1) := by decide +kernel
theorem dX4_bends_58 : decode cX4_bends 58 = .ok (.iload_n 3, 1) := by decide +kernel
theorem dX4_bends_59 : decode cX4_bends 59 = .ok (.imul, 1) := by decide +kernel
theorem dX4_bends_60 : decode cX4_bends 60 = .ok (.bipush 64, 2) := by decide +kernel
theorem dX4_bends_62 : decode cX4_bends 62 = .ok (.idiv, 1) := by decide +kernel
theorem dX4_bends_63 : decode cX4_bends 63 = .ok (.ireturn, 1) := by decide +kernel
set_option maxRecDepth 20000 in
theorem ggX4_isShut_X4_brokenPieces : GoodIn wsX4_isShut wsX4_brokenPieces := goodIn_r _ [5, 6, 7, 8, 9, 10, 11, 12, 13, 14, 15, 16, 17, 18, 19, 20, 21, 22, 23, 24, 25, 26, 27, 28, 29, 30, 31, 32, 33, 34, 35, 36, 37, 38, 39, 40, 41, 42, 43, 44, 45, 46, 47, 48, 49, 50, 51, 52, 53, 54, 55, 56, 57, 58, 59] (by decide +kernel) (by decide +kernel)
set_option maxRecDepth 20000 in
theorem gX4_isShut_X4_brokenPieces : GoodIn wsX4_isShut (wsV RX4 188 RX4 yX4_brokenPieces wsX4_brokenPieces) := goodIn_app (goodIn_of _ (by decide +kernel)) ggX4_isShut_X4_brokenPieces
theorem dX4_isShut_0 : decode cX4_isShut 0 = .ok (.aload_n 0, 1) := by decide +kernel
theorem dX4_isShut_1 : decode cX4_isShut 1 = .ok (.invokevirtual 188, 3) := by decide +kernel
theorem dX4_isShut_4 : decode cX4_isShut 4 = .ok (.ifCond .ne 7, 3) := by decide +kernel
theorem dX4_isShut_7 : decode cX4_isShut 7 = .ok (.iconst 1, 1) := by decide +kernel
theorem dX4_isShut_8 : decode cX4_isShut 8 = .ok (.goto 4, 3) := by decide +kernel
theorem dX4_isShut_11 : decode cX4_isShut 11 = .ok (.iconst 0, 1) := by decide +kernel
theorem dX4_isShut_12 : decode cX4_isShut 12 = .ok (.ireturn, 1) := by decide +kernel
set_option maxRecDepth 20000 in
theorem ggX4_history_X4_isMade : GoodIn wsX4_history wsX4_isMade := goodIn_r _ [9, 3, 10, 11, 12, 13, 14, 15, 40, 41, 42, 43, 44, 45, 46, 47, 48, 49, 50, 51] (by decide +kernel) (by decide +kernel)
set_option maxRecDepth 20000 in
theorem gX4_history_X4_isMade : GoodIn wsX4_history (wsV RX4 282 RX4 yX4_isMade wsX4_isMade) := goodIn_app (goodIn_of _ (by decide +kernel)) ggX4_history_X4_isMade
set_option maxRecDepth 20000 in
theorem ggX4_history_Jx4a65c_get_915e3 : GoodIn wsX4_history wsJx4a65c_get_915e3 := goodIn_r _ [19, 15, 20, 21, 22, 23, 24, 25, 26, 27, 28, 29, 30, 13, 31, 32, 49, 50, 51] (by decide +kernel) (by decide +kernel)
set_option maxRecDepth 20000 in
theorem gX4_history_Jx4a65c_get_915e3 : GoodIn wsX4_history (wsV RX4 146 RJx4a65c yJx4a65c_get_915e3 wsJx4a65c_get_915e3) := goodIn_app (goodIn_of _ (by decide +kernel)) ggX4_history_Jx4a65c_get_915e3
set_option maxRecDepth 20000 in
theorem ggX4_history_X2_thingAt : GoodIn wsX4_history wsX2_thingAt := goodIn_r _ [37, 38, 39, 52, 53, 54, 55, 56, 57, 58, 59] (by decide +kernel) (by decide +kernel)
set_option maxRecDepth 20000 in
theorem gX4_history_X2_thingAt : GoodIn wsX4_history (wsV RX4 287 RX2 yX2_thingAt wsX2_thingAt) := goodIn_app (goodIn_of _ (by decide +kernel)) ggX4_history_X2_thingAt
theorem dX4_history_0 : decode cX4_history 0 = .ok (.aload_n 0, 1) := by decide +kernel
theorem dX4_history_1 : decode cX4_history 1 = .ok (.iload_n 1, 1) := by decide +kernel
theorem dX4_history_2 : decode cX4_history 2 = .ok (.invokevirtual 282, 3) := by decide +kernel
theorem dX4_history_5 : decode cX4_history 5 = .ok (.ifCond .eq 7, 3) := by decide +kernel
theorem dX4_history_8 : decode cX4_history 8 = .ok (.iload_n 2, 1) := by decide +kernel
theorem dX4_history_9 : decode cX4_history 9 = .ok (.ifCond .ge 14, 3) := by decide +kernel
theorem dX4_history_12 : decode cX4_history 12 = .ok (.new 272, 3) := by decide +kernel
theorem dX4_history_15 : decode cX4_history 15 = .ok (.dup, 1) := by decide +kernel
theorem dX4_history_16 : decode cX4_history 16 = .ok (.ldc_w 285, 3) := by decide +kernel
theorem dX4_history_19 : decode cX4_history 19 = .ok (.invokespecial 276, 3) := by decide +kernel
theorem dX4_history_22 : decode cX4_history 22 = .ok (.athrow, 1) := by decide +kernel
theorem dX4_history_23 : decode cX4_history 23 = .ok (.aload_n 0, 1) := by decide +kernel
theorem dX4_history_24 : decode cX4_history 24 = .ok (.getfield 19, 3) := by decide +kernel
theorem dX4_history_27 : decode cX4_history 27 = .ok (.iload_n 1, 1) := by decide +kernel
theorem dX4_history_28 : decode cX4_history 28 = .ok (.invokevirtual 146, 3) := by decide +kernel
theorem dX4_history_31 : decode cX4_history 31 = .ok (.checkcast 53, 3) := by decide +kernel
theorem dX4_history_34 : decode cX4_history 34 = .ok (.iload_n 2, 1) := by decide +kernel
theorem dX4_history_35 : decode cX4_history 35 = .ok (.invokevirtual 287, 3) := by decide +kernel
theorem dX4_history_38 : decode cX4_history 38 = .ok (.ireturn, 1) := by decide +kernel
theorem dX4_isRowLine_0 : decode cX4_isRowLine 0 = .ok (.iload_n 0, 1) := by decide +kernel
theorem dX4_isRowLine_1 : decode cX4_isRowLine 1 = .ok (.ifCond .lt 13, 3) := by decide +kernel
theorem dX4_isRowLine_4 : decode cX4_isRowLine 4 = .ok (.iload_n 0, 1) := by decide +kernel
theorem dX4_isRowLine_5 : decode cX4_isRowLine 5 = .ok (.bipush 15, 2) := by decide +kernel
theorem dX4_isRowLine_7 : decode cX4_isRowLine 7 = .ok (.if_icmp .ge 7, 3) := by decide +kernel
theorem dX4_isRowLine_10 : decode cX4_isRowLine 10 = .ok (.iconst 1, 1) := by decide +kernel
theorem dX4_isRowLine_11 : decode cX4_isRowLine 11 = .ok (.goto 4, 3) := by decide +kernel
theorem dX4_isRowLine_14 : decode cX4_isRowLine 14 = .ok (.iconst 0, 1) := by decide +kernel
theorem dX4_isRowLine_15 : decode cX4_isRowLine 15 = .ok (.ireturn, 1) := by decide +kernel
set_option maxRecDepth 20000 in
theorem ggX4_isLine_X4_isRowLine : GoodIn wsX4_isLine wsX4_isRowLine := goodIn_r _ [4] (by decide +kernel) (by decide +kernel)
set_option maxRecDepth 20000 in
theorem gX4_isLine_X4_isRowLine : GoodIn wsX4_isLine (va_wsS RX4 290 yX4_isRowLine wsX4_isRowLine) := goodIn_app (goodIn_of _ (by decide +kernel)) ggX4_isLine_X4_isRowLine
theorem dX4_isLine_0 : decode cX4_isLine 0 = .ok (.iload_n 0, 1) := by decide +kernel
theorem dX4_isLine_1 : decode cX4_isLine 1 = .ok (.invokestatic 290, 3) := by decide +kernel
theorem dX4_isLine_4 : decode cX4_isLine 4 = .ok (.ifCond .ne 13, 3) := by decide +kernel
theorem dX4_isLine_7 : decode cX4_isLine 7 = .ok (.iload_n 0, 1) := by decide +kernel
theorem dX4_isLine_8 : decode cX4_isLine 8 = .ok (.bipush 16, 2) := by decide +kernel
theorem dX4_isLine_10 : decode cX4_isLine 10 = .ok (.isub, 1) := by decide +kernel
theorem dX4_isLine_11 : decode cX4_isLine 11 = .ok (.invokestatic 290, 3) := by decide +kernel
theorem dX4_isLine_14 : decode cX4_isLine 14 = .ok (.ifCond .eq 7, 3) := by decide +kernel
theorem dX4_isLine_17 : decode cX4_isLine 17 = .ok (.iconst 1, 1) := by decide +kernel
theorem dX4_isLine_18 : decode cX4_isLine 18 = .ok (.goto 4, 3) := by decide +kernel
theorem dX4_isLine_21 : decode cX4_isLine 21 = .ok (.iconst 0, 1) := by decide +kernel
theorem dX4_isLine_22 : decode cX4_isLine 22 = .ok (.ireturn, 1) := by decide +kernel
theorem dX4_isNumber_0 : decode cX4_isNumber 0 = .ok (.iload_n 0, 1) := by decide +kernel
theorem dX4_isNumber_1 : decode cX4_isNumber 1 = .ok (.ifCond .lt 13, 3) := by decide +kernel
theorem dX4_isNumber_4 : decode cX4_isNumber 4 = .ok (.iload_n 0, 1) := by decide +kernel
theorem dX4_isNumber_5 : decode cX4_isNumber 5 = .ok (.bipush 60, 2) := by decide +kernel
theorem dX4_isNumber_7 : decode cX4_isNumber 7 = .ok (.if_icmp .ge 7, 3) := by decide +kernel
theorem dX4_isNumber_10 : decode cX4_isNumber 10 = .ok (.iconst 1, 1) := by decide +kernel
theorem dX4_isNumber_11 : decode cX4_isNumber 11 = .ok (.goto 4, 3) := by decide +kernel
theorem dX4_isNumber_14 : decode cX4_isNumber 14 = .ok (.iconst 0, 1) := by decide +kernel
theorem dX4_isNumber_15 : decode cX4_isNumber 15 = .ok (.ireturn, 1) := by decide +kernel
set_option maxRecDepth 20000 in
theorem ggX4_isMade_Jx4a65c_size_8abf5 : GoodIn wsX4_isMade wsJx4a65c_size_8abf5 := goodIn_r _ [6, 7, 17, 18, 19] (by decide +kernel) (by decide +kernel)
set_option maxRecDepth 20000 in
theorem gX4_isMade_Jx4a65c_size_8abf5 : GoodIn wsX4_isMade (wsV RX4 88 RJx4a65c yJx4a65c_size_8abf5 wsJx4a65c_size_8abf5) := goodIn_app (goodIn_of _ (by decide +kernel)) ggX4_isMade_Jx4a65c_size_8abf5
theorem dX4_isMade_0 : decode cX4_isMade 0 = .ok (.iload_n 1, 1) := by decide +kernel
theorem dX4_isMade_1 : decode cX4_isMade 1 = .ok (.ifCond .lt 18, 3) := by decide +kernel
theorem dX4_isMade_4 : decode cX4_isMade 4 = .ok (.iload_n 1, 1) := by decide +kernel
theorem dX4_isMade_5 : decode cX4_isMade 5 = .ok (.aload_n 0, 1) := by decide +kernel
theorem dX4_isMade_6 : decode cX4_isMade 6 = .ok (.getfield 19, 3) := by decide +kernel
theorem dX4_isMade_9 : decode cX4_isMade 9 = .ok (.invokevirtual 88, 3) := by decide +kernel
theorem dX4_isMade_12 : decode cX4_isMade 12 = .ok (.if_icmp .ge 7, 3) := by decide +kernel
theorem dX4_isMade_15 : decode cX4_isMade 15 = .ok (.iconst 1, 1) := by decide +kernel
theorem dX4_isMade_16 : decode cX4_isMade 16 = .ok (.goto 4, 3) := by decide +kernel
theorem dX4_isMade_19 : decode cX4_isMade 19 = .ok (.iconst 0, 1) := by decide +kernel
theorem dX4_isMade_20 : decode cX4_isMade 20 = .ok (.ireturn, 1) := by decide +kernel
set_option maxRecDepth 20000 in
theorem ggX4_thePiece_X4_isMade : GoodIn wsX4_thePiece wsX4_isMade := goodIn_r _ [10, 4, 11, 12, 13, 14, 15, 16, 40, 41, 42, 43, 44, 45, 46, 47, 48, 49, 50, 51] (by decide +kernel) (by decide +kernel)
set_option maxRecDepth 20000 in
theorem gX4_thePiece_X4_isMade : GoodIn wsX4_thePiece (wsV RX4 282 RX4 yX4_isMade wsX4_isMade) := goodIn_app (goodIn_of _ (by decide +kernel)) ggX4_thePiece_X4_isMade
set_option maxRecDepth 20000 in
theorem ggX4_thePiece_X0_holds : GoodIn wsX4_thePiece wsX0_holds := goodIn_r _ [21, 22, 52, 53] (by decide +kernel) (by decide +kernel)
set_option maxRecDepth 20000 in
theorem gX4_thePiece_X0_holds : GoodIn wsX4_thePiece (wsV RX4 150 RX0 yX0_holds wsX0_holds) := goodIn_app (goodIn_of _ (by decide +kernel)) ggX4_thePiece_X0_holds
set_option maxRecDepth 20000 in
theorem ggX4_thePiece_Jx4a65c_get_915e3 : GoodIn wsX4_thePiece wsJx4a65c_get_915e3 := goodIn_r _ [26, 16, 27, 28, 29, 30, 31, 32, 33, 34, 35, 36, 37, 14, 38, 39, 49, 50, 51] (by decide +kernel) (by decide +kernel)
set_option maxRecDepth 20000 in
theorem gX4_thePiece_Jx4a65c_get_915e3 : GoodIn wsX4_thePiece (wsV RX4 146 RJx4a65c yJx4a65c_get_915e3 wsJx4a65c_get_915e3) := goodIn_app (goodIn_of _ (by decide +kernel)) ggX4_thePiece_Jx4a65c_get_915e3
theorem dX4_thePiece_0 : decode cX4_thePiece 0 = .ok (.aload_n 0, 1) := by decide +kernel
theorem dX4_thePiece_1 : decode cX4_thePiece 1 = .ok (.iload_n 1, 1) := by decide +kernel
theorem dX4_thePiece_2 : decode cX4_thePiece 2 = .ok (.invokevirtual 282, 3) := by decide +kernel
theorem dX4_thePiece_5 : decode cX4_thePiece 5 = .ok (.ifCond .eq 14, 3) := by decide +kernel
theorem dX4_thePiece_8 : decode cX4_thePiece 8 = .ok (.aload_n 0, 1) := by decide +kernel
theorem dX4_thePiece_9 : decode cX4_thePiece 9 = .ok (.getfield 12, 3) := by decide +kernel
theorem dX4_thePiece_12 : decode cX4_thePiece 12 = .ok (.iload_n 1, 1) := by decide +kernel
theorem dX4_thePiece_13 : decode cX4_thePiece 13 = .ok (.invokevirtual 150, 3) := by decide +kernel
theorem dX4_thePiece_16 : decode cX4_thePiece 16 = .ok (.ifCond .ne 14, 3) := by decide +kernel
theorem dX4_thePiece_19 : decode cX4_thePiece 19 = .ok (.new 272, 3) := by decide +kernel
theorem dX4_thePiece_22 : decode cX4_thePiece 22 = .ok (.dup, 1) := by decide +kernel
theorem dX4_thePiece_23 : decode cX4_thePiece 23 = .ok (.ldc_w 293, 3) := by decide +kernel
theorem dX4_thePiece_26 : decode cX4_thePiece 26 = .ok (.invokespecial 276, 3) := by decide +kernel
theorem dX4_thePiece_29 : decode cX4_thePiece 29 = .ok (.athrow, 1) := by decide +kernel
theorem dX4_thePiece_30 : decode cX4_thePiece 30 = .ok (.aload_n 0, 1) := by decide +kernel
theorem dX4_thePiece_31 : decode cX4_thePiece 31 = .ok (.getfield 19, 3) := by decide +kernel
theorem dX4_thePiece_34 : decode cX4_thePiece 34 = .ok (.iload_n 1, 1) := by decide +kernel
theorem dX4_thePiece_35 : decode cX4_thePiece 35 = .ok (.invokevirtual 146, 3) := by decide +kernel
theorem dX4_thePiece_38 : decode cX4_thePiece 38 = .ok (.checkcast 53, 3) := by decide +kernel
theorem dX4_thePiece_41 : decode cX4_thePiece 41 = .ok (.areturn, 1) := by decide +kernel
set_option maxRecDepth 20000 in
theorem ggX4_theOwner_X0_ownerAt : GoodIn wsX4_theOwner wsX0_ownerAt := goodIn_r _ [8, 9, 19, 20] (by decide +kernel) (by decide +kernel)
set_option maxRecDepth 20000 in
theorem gX4_theOwner_X0_ownerAt : GoodIn wsX4_theOwner (wsV RX4 297 RX0 yX0_ownerAt wsX0_ownerAt) := goodIn_app (goodIn_of _ (by decide +kernel)) ggX4_theOwner_X0_ownerAt
theorem dX4_theOwner_0 : decode cX4_theOwner 0 = .ok (.iload_n 1, 1) := by decide +kernel
theorem dX4_theOwner_1 : decode cX4_theOwner 1 = .ok (.ifCond .lt 10, 3) := by decide +kernel
theorem dX4_theOwner_4 : decode cX4_theOwner 4 = .ok (.iload_n 1, 1) := by decide +kernel
theorem dX4_theOwner_5 : decode cX4_theOwner 5 = .ok (.sipush 256, 3) := by decide +kernel
theorem dX4_theOwner_8 : decode cX4_theOwner 8 = .ok (.if_icmp .lt 14, 3) := by decide +kernel
theorem dX4_theOwner_11 : decode cX4_theOwner 11 = .ok (.new 272, 3) := by decide +kernel
theorem dX4_theOwner_14 : decode cX4_theOwner 14 = .ok (.dup, 1) := by decide +kernel
theorem dX4_theOwner_15 : decode cX4_theOwner 15 = .ok (.ldc_w 295, 3) := by decide +kernel
theorem dX4_theOwner_18 : decode cX4_theOwner 18 = .ok (.invokespecial 276, 3) := by decide +kernel
theorem dX4_theOwner_21 : decode cX4_theOwner 21 = .ok (.athrow, 1) := by decide +kernel
theorem dX4_theOwner_22 : decode cX4_theOwner 22 = .ok (.aload_n 0, 1) := by decide +kernel
theorem dX4_theOwner_23 : decode cX4_theOwner 23 = .ok (.getfield 12, 3) := by decide +kernel
theorem dX4_theOwner_26 : decode cX4_theOwner 26 = .ok (.iload_n 1, 1) := by decide +kernel
theorem dX4_theOwner_27 : decode cX4_theOwner 27 = .ok (.bipush 16, 2) := by decide +kernel
theorem dX4_theOwner_29 : decode cX4_theOwner 29 = .ok (.idiv, 1) := by decide +kernel
theorem dX4_theOwner_30 : decode cX4_theOwner 30 = .ok (.iload_n 1, 1) := by decide +kernel
theorem dX4_theOwner_31 : decode cX4_theOwner 31 = .ok (.bipush 16, 2) := by decide +kernel
theorem dX4_theOwner_33 : decode cX4_theOwner 33 = .ok (.irem, 1) := by decide +kernel
theorem dX4_theOwner_34 : decode cX4_theOwner 34 = .ok (.invokevirtual 297, 3) := by decide +kernel
theorem dX4_theOwner_37 : decode cX4_theOwner 37 = .ok (.ireturn, 1) := by decide +kernel
theorem dX4_testColour_0 : decode cX4_testColour 0 = .ok (.iload_n 0, 1) := by decide +kernel
theorem dX4_testColour_1 : decode cX4_testColour 1 = .ok (.ifCond .lt 9, 3) := by decide +kernel
theorem dX4_testColour_4 : decode cX4_testColour 4 = .ok (.iload_n 0, 1) := by decide +kernel
theorem dX4_testColour_5 : decode cX4_testColour 5 = .ok (.bipush 8, 2) := by decide +kernel
theorem dX4_testColour_7 : decode cX4_testColour 7 = .ok (.if_icmp .lt 14, 3) := by decide +kernel
theorem dX4_testColour_10 : decode cX4_testColour 10 = .ok (.new 70, 3) := by decide +kernel
theorem dX4_testColour_13 : decode cX4_testColour 13 = .ok (.dup, 1) := by decide +kernel
theorem dX4_testColour_14 : decode cX4_testColour 14 = .ok (.ldc_w 300, 3) := by decide +kernel
theorem dX4_testColour_17 : decode cX4_testColour 17 = .ok (.invokespecial 74, 3) := by decide +kernel
theorem dX4_testColour_20 : decode cX4_testColour 20 = .ok (.athrow, 1) := by decide +kernel
theorem dX4_testColour_21 : decode cX4_testColour 21 = .ok (.return_, 1) := by decide +kernel
set_option maxRecDepth 20000 in
theorem ggX4_testRowLine_X4_isRowLine : GoodIn wsX4_testRowLine wsX4_isRowLine := goodIn_r _ [6] (by decide +kernel) (by decide +kernel)
set_option maxRecDepth 20000 in
theorem gX4_testRowLine_X4_isRowLine : GoodIn wsX4_testRowLine (va_wsS RX4 290 yX4_isRowLine wsX4_isRowLine) := goodIn_app (goodIn_of _ (by decide +kernel)) ggX4_testRowLine_X4_isRowLine
theorem dX4_testRowLine_0 : decode cX4_testRowLine 0 = .ok (.iload_n 0, 1) := by decide +kernel
theorem dX4_testRowLine_1 : decode cX4_testRowLine 1 = .ok (.invokestatic 290, 3) := by decide +kernel
theorem dX4_testRowLine_4 : decode cX4_testRowLine 4 = .ok (.ifCond .ne 13, 3) := by decide +kernel
theorem dX4_testRowLine_7 : decode cX4_testRowLine 7 = .ok (.new 272, 3) := by decide +kernel
theorem dX4_testRowLine_10 : decode cX4_testRowLine 10 = .ok (.dup, 1) := by decide +kernel
theorem dX4_testRowLine_11 : decode cX4_testRowLine 11 = .ok (.ldc 72, 2) := by decide +kernel
theorem dX4_testRowLine_13 : decode cX4_testRowLine 13 = .ok (.invokespecial 276, 3) := by decide +kernel
theorem dX4_testRowLine_16 : decode cX4_testRowLine 16 = .ok (.athrow, 1) := by decide +kernel
theorem dX4_testRowLine_17 : decode cX4_testRowLine 17 = .ok (.return_, 1) := by decide +kernel
theorem dX4_testHour_0 : decode cX4_testHour 0 = .ok (.iload_n 0, 1) := by decide +kernel
theorem dX4_testHour_1 : decode cX4_testHour 1 = .ok (.bipush 7, 2) := by decide +kernel
theorem dX4_testHour_3 : decode cX4_testHour 3 = .ok (.if_icmp .lt 9, 3) := by decide +kernel
theorem dX4_testHour_6 : decode cX4_testHour 6 = .ok (.iload_n 0, 1) := by decide +kernel
theorem dX4_testHour_7 : decode cX4_testHour 7 = .ok (.bipush 17, 2) := by decide +kernel
theorem dX4_testHour_9 : decode cX4_testHour 9 = .ok (.if_icmp .le 14, 3) := by decide +kernel
theorem dX4_testHour_12 : decode cX4_testHour 12 = .ok (.new 70, 3) := by decide +kernel
theorem dX4_testHour_15 : decode cX4_testHour 15 = .ok (.dup, 1) := by decide +kernel
theorem dX4_testHour_16 : decode cX4_testHour 16 = .ok (.ldc_w 302, 3) := by decide +kernel
theorem dX4_testHour_19 : decode cX4_testHour 19 = .ok (.invokespecial 74, 3) := by decide +kernel
theorem dX4_testHour_22 : decode cX4_testHour 22 = .ok (.athrow, 1) := by decide +kernel
theorem dX4_testHour_23 : decode cX4_testHour 23 = .ok (.return_, 1) := by decide +kernel
set_option maxRecDepth 20000 in
theorem ggX4_shapeOf_X3_trace : GoodIn wsX4_shapeOf wsX3_trace := goodIn_r _ [7, 8, 9, 10, 11, 12, 13, 14, 24, 25, 26, 27] (by decide +kernel) (by decide +kernel)
set_option maxRecDepth 20000 in
theorem gX4_shapeOf_X3_trace : GoodIn wsX4_shapeOf (wsV RX4 77 RX3 yX3_trace wsX3_trace) := goodIn_app (goodIn_of _ (by decide +kernel)) ggX4_shapeOf_X3_trace
theorem dX4_shapeOf_0 : decode cX4_shapeOf 0 = .ok (.aload_n 0, 1) := by decide +kernel
theorem dX4_shapeOf_1 : decode cX4_shapeOf 1 = .ok (.getfield 26, 3) := by decide +kernel
theorem dX4_shapeOf_4 : decode cX4_shapeOf 4 = .ok (.aload_n 0, 1) := by decide +kernel
theorem dX4_shapeOf_5 : decode cX4_shapeOf 5 = .ok (.getfield 12, 3) := by decide +kernel
theorem dX4_shapeOf_8 : decode cX4_shapeOf 8 = .ok (.iload_n 1, 1) := by decide +kernel
theorem dX4_shapeOf_9 : decode cX4_shapeOf 9 = .ok (.invokevirtual 77, 3) := by decide +kernel
theorem dX4_shapeOf_12 : decode cX4_shapeOf 12 = .ok (.aload_n 0, 1) := by decide +kernel
theorem dX4_shapeOf_13 : decode cX4_shapeOf 13 = .ok (.getfield 26, 3) := by decide +kernel
theorem dX4_shapeOf_16 : decode cX4_shapeOf 16 = .ok (.areturn, 1) := by decide +kernel
set_option maxRecDepth 20000 in
theorem ggX4_splitWhole_X3_takeSide : GoodIn wsX4_splitWhole wsX3_takeSide := goodIn_r _ [8, 9, 10, 11, 7, 12, 22, 23] (by decide +kernel) (by decide +kernel)
set_option maxRecDepth 20000 in
theorem gX4_splitWhole_X3_takeSide : GoodIn wsX4_splitWhole (wsV RX4 304 RX3 yX3_takeSide wsX3_takeSide) := goodIn_app (goodIn_of _ (by decide +kernel)) ggX4_splitWhole_X3_takeSide
theorem dX4_splitWhole_0 : decode cX4_splitWhole 0 = .ok (.aload_n 0, 1) := by decide +kernel
theorem dX4_splitWhole_1 : decode cX4_splitWhole 1 = .ok (.getfield 30, 3) := by decide +kernel
theorem dX4_splitWhole_4 : decode cX4_splitWhole 4 = .ok (.aload_n 0, 1) := by decide +kernel
theorem dX4_splitWhole_5 : decode cX4_splitWhole 5 = .ok (.getfield 26, 3) := by decide +kernel
theorem dX4_splitWhole_8 : decode cX4_splitWhole 8 = .ok (.iload_n 1, 1) := by decide +kernel
theorem dX4_splitWhole_9 : decode cX4_splitWhole 9 = .ok (.iconst 0, 1) := by decide +kernel
theorem dX4_splitWhole_10 : decode cX4_splitWhole 10 = .ok (.invokevirtual 304, 3) := by decide +kernel
theorem dX4_splitWhole_13 : decode cX4_splitWhole 13 = .ok (.aload_n 0, 1) := by decide +kernel
theorem dX4_splitWhole_14 : decode cX4_splitWhole 14 = .ok (.getfield 33, 3) := by decide +kernel
theorem dX4_splitWhole_17 : decode cX4_splitWhole 17 = .ok (.aload_n 0, 1) := by decide +kernel
theorem dX4_splitWhole_18 : decode cX4_splitWhole 18 = .ok (.getfield 26, 3) := by decide +kernel
theorem dX4_splitWhole_21 : decode cX4_splitWhole 21 = .ok (.iload_n 1, 1) := by decide +kernel
theorem dX4_splitWhole_22 : decode cX4_splitWhole 22 = .ok (.iconst 1, 1) := by decide +kernel
theorem dX4_splitWhole_23 : decode cX4_splitWhole 23 = .ok (.invokevirtual 304, 3) := by decide +kernel
theorem dX4_splitWhole_26 : decode cX4_splitWhole 26 = .ok (.return_, 1) := by decide +kernel
set_option maxRecDepth 20000 in
theorem ggX4_partsAreGood_X4_splitWhole : GoodIn wsX4_partsAreGood wsX4_splitWhole := goodIn_r _ [7, 1, 8, 2, 9, 10, 11, 12, 13, 14, 15, 16, 17, 64, 65, 66, 67, 68, 69, 70, 71, 72, 73, 74] (by decide +kernel) (by decide +kernel)
set_option maxRecDepth 20000 in
theorem gX4_partsAreGood_X4_splitWhole : GoodIn wsX4_partsAreGood (wsV RX4 81 RX4 yX4_splitWhole wsX4_splitWhole) := goodIn_app (goodIn_of _ (by decide +kernel)) ggX4_partsAreGood_X4_splitWhole
set_option maxRecDepth 20000 in
theorem ggX4_partsAreGood_X3_isGoodPart : GoodIn wsX4_partsAreGood wsX3_isGoodPart := goodIn_r _ [21, 22, 23, 24, 12, 25, 26, 27, 28, 29, 14, 30, 31, 32, 33, 34, 35, 36, 37, 38, 6, 39, 40, 41, 42, 43, 44, 45, 46, 47, 48, 49, 50, 51, 52, 53, 54, 55, 56, 57, 58, 59, 60, 61, 62, 63, 73, 74] (by decide +kernel) (by decide +kernel)
set_option maxRecDepth 20000 in
theorem gX4_partsAreGood_X3_isGoodPart : GoodIn wsX4_partsAreGood (wsV RX4 308 RX3 yX3_isGoodPart wsX3_isGoodPart) := goodIn_app (goodIn_of _ (by decide +kernel)) ggX4_partsAreGood_X3_isGoodPart
theorem dX4_partsAreGood_0 : decode cX4_partsAreGood 0 = .ok (.aload_n 0, 1) := by decide +kernel
theorem dX4_partsAreGood_1 : decode cX4_partsAreGood 1 = .ok (.iload_n 1, 1) := by decide +kernel
theorem dX4_partsAreGood_2 : decode cX4_partsAreGood 2 = .ok (.invokevirtual 81, 3) := by decide +kernel
theorem dX4_partsAreGood_5 : decode cX4_partsAreGood 5 = .ok (.aload_n 0, 1) := by decide +kernel
theorem dX4_partsAreGood_6 : decode cX4_partsAreGood 6 = .ok (.getfield 30, 3) := by decide +kernel
theorem dX4_partsAreGood_9 : decode cX4_partsAreGood 9 = .ok (.invokevirtual 308, 3) := by decide +kernel
theorem dX4_partsAreGood_12 : decode cX4_partsAreGood 12 = .ok (.ifCond .eq 17, 3) := by decide +kernel
theorem dX4_partsAreGood_15 : decode cX4_partsAreGood 15 = .ok (.aload_n 0, 1) := by decide +kernel
theorem dX4_partsAreGood_16 : decode cX4_partsAreGood 16 = .ok (.getfield 33, 3) := by decide +kernel
theorem dX4_partsAreGood_19 : decode cX4_partsAreGood 19 = .ok (.invokevirtual 308, 3) := by decide +kernel
theorem dX4_partsAreGood_22 : decode cX4_partsAreGood 22 = .ok (.ifCond .eq 7, 3) := by decide +kernel
theorem dX4_partsAreGood_25 : decode cX4_partsAreGood 25 = .ok (.iconst 1, 1) := by decide +kernel
theorem dX4_partsAreGood_26 : decode cX4_partsAreGood 26 = .ok (.goto 4, 3) := by decide +kernel
theorem dX4_partsAreGood_29 : decode cX4_partsAreGood 29 = .ok (.iconst 0, 1) := by decide +kernel
theorem dX4_partsAreGood_30 : decode cX4_partsAreGood 30 = .ok (.ireturn, 1) := by decide +kernel
set_option maxRecDepth 20000 in
theorem ggX4_brokenPieces_Jx4a65c_size_8abf5 : GoodIn wsX4_brokenPieces wsJx4a65c_size_8abf5 := goodIn_r _ [8, 9, 50, 51, 52] (by decide +kernel) (by decide +kernel)
set_option maxRecDepth 20000 in
theorem gX4_brokenPieces_Jx4a65c_size_8abf5 : GoodIn wsX4_brokenPieces (wsV RX4 88 RJx4a65c yJx4a65c_size_8abf5 wsJx4a65c_size_8abf5) := goodIn_app (goodIn_of _ (by decide +kernel)) ggX4_brokenPieces_Jx4a65c_size_8abf5
set_option maxRecDepth 20000 in
theorem ggX4_brokenPieces_Jx4a65c_get_915e3 : GoodIn wsX4_brokenPieces wsJx4a65c_get_915e3 := goodIn_r _ [13, 9, 14, 15, 16, 17, 18, 19, 20, 21, 22, 23, 24, 7, 25, 26, 50, 51, 52] (by decide +kernel) (by decide +kernel)
set_option maxRecDepth 20000 in
theorem gX4_brokenPieces_Jx4a65c_get_915e3 : GoodIn wsX4_brokenPieces (wsV RX4 146 RJx4a65c yJx4a65c_get_915e3 wsJx4a65c_get_915e3) := goodIn_app (goodIn_of _ (by decide +kernel)) ggX4_brokenPieces_Jx4a65c_get_915e3
set_option maxRecDepth 20000 in
theorem ggX4_brokenPieces_X0_holds : GoodIn wsX4_brokenPieces wsX0_holds := goodIn_r _ [31, 32, 53, 54] (by decide +kernel) (by decide +kernel)
set_option maxRecDepth 20000 in
theorem gX4_brokenPieces_X0_holds : GoodIn wsX4_brokenPieces (wsV RX4 150 RX0 yX0_holds wsX0_holds) := goodIn_app (goodIn_of _ (by decide +kernel)) ggX4_brokenPieces_X0_holds
theorem dX4_brokenPieces_0 : decode cX4_brokenPieces 0 = .ok (.iconst 0, 1) := by decide +kernel
theorem dX4_brokenPieces_1 : decode cX4_brokenPieces 1 = .ok (.istore_n 1, 1) := by decide +kernel
theorem dX4_brokenPieces_2 : decode cX4_brokenPieces 2 = .ok (.iconst 0, 1) := by decide +kernel
theorem dX4_brokenPieces_3 : decode cX4_brokenPieces 3 = .ok (.istore_n 2, 1) := by decide +kernel
theorem dX4_brokenPieces_4 : decode cX4_brokenPieces 4 = .ok (.iload_n 2, 1) := by decide +kernel
theorem dX4_brokenPieces_5 : decode cX4_brokenPieces 5 = .ok (.aload_n 0, 1) := by decide +kernel
theorem dX4_brokenPieces_6 : decode cX4_brokenPieces 6 = .ok (.getfield 19, 3) := by decide +kernel
theorem dX4_brokenPieces_9 : decode cX4_brokenPieces 9 = .ok (.invokevirtual 88, 3) := by decide +kernel
theorem dX4_brokenPieces_12 : decode cX4_brokenPieces 12 = .ok (.if_icmp .ge 41, 3) := by decide +kernel
theorem dX4_brokenPieces_15 : decode cX4_brokenPieces 15 = .ok (.aload_n 0, 1) := by decide +kernel
theorem dX4_brokenPieces_16 : decode cX4_brokenPieces 16 = .ok (.getfield 19, 3) := by decide +kernel
theorem dX4_brokenPieces_19 : decode cX4_brokenPieces 19 = .ok (.iload_n 2, 1) := by decide +kernel
theorem dX4_brokenPieces_20 : decode cX4_brokenPieces 20 = .ok (.invokevirtual 146, 3) := by decide +kernel
theorem dX4_brokenPieces_23 : decode cX4_brokenPieces 23 = .ok (.checkcast 53, 3) := by decide +kernel
theorem dX4_brokenPieces_26 : decode cX4_brokenPieces 26 = .ok (.getfield 183, 3) := by decide +kernel
theorem dX4_brokenPieces_29 : decode cX4_brokenPieces 29 = .ok (.iconst 1, 1) := by decide +kernel
theorem dX4_brokenPieces_30 : decode cX4_brokenPieces 30 = .ok (.if_icmp .ne 17, 3) := by decide +kernel
theorem dX4_brokenPieces_33 : decode cX4_brokenPieces 33 = .ok (.aload_n 0, 1) := by decide +kernel
theorem dX4_brokenPieces_34 : decode cX4_brokenPieces 34 = .ok (.getfield 12, 3) := by decide +kernel
theorem dX4_brokenPieces_37 : decode cX4_brokenPieces 37 = .ok (.iload_n 2, 1) := by decide +kernel
theorem dX4_brokenPieces_38 : decode cX4_brokenPieces 38 = .ok (.invokevirtual 150, 3) := by decide +kernel
theorem dX4_brokenPieces_41 : decode cX4_brokenPieces 41 = .ok (.ifCond .eq 6, 3) := by decide +kernel
theorem dX4_brokenPieces_44 : decode cX4_brokenPieces 44 = .ok (.iinc 1 1, 3) := by decide +kernel
theorem dX4_brokenPieces_47 : decode cX4_brokenPieces 47 = .ok (.iinc 2 1, 3) := by decide +kernel
theorem dX4_brokenPieces_50 : decode cX4_brokenPieces 50 = .ok (.goto (-46), 3) := by decide +kernel
theorem dX4_brokenPieces_53 : decode cX4_brokenPieces 53 = .ok (.iload_n 1, 1) := by decide +kernel
theorem dX4_brokenPieces_54 : decode cX4_brokenPieces 54 = .ok (.ireturn, 1) := by decide +kernel
set_option maxRecDepth 20000 in
theorem ggX4_layColour_X1_begin : GoodIn wsX4_layColour wsX1_begin := goodIn_r _ [10, 11, 12, 13, 14, 15, 16, 17, 123, 124, 125, 126, 127, 128, 129, 130, 131] (by decide +kernel) (by decide +kernel)
set_option maxRecDepth 20000 in
theorem gX4_layColour_X1_begin : GoodIn wsX4_layColour (wsV RX4 311 RX1 yX1_begin wsX1_begin) := goodIn_app (goodIn_of _ (by decide +kernel)) ggX4_layColour_X1_begin
set_option maxRecDepth 20000 in
theorem ggX4_layColour_Jx4a65c_size_8abf5 : GoodIn wsX4_layColour wsJx4a65c_size_8abf5 := goodIn_r _ [22, 23, 132, 133, 134] (by decide +kernel) (by decide +kernel)
set_option maxRecDepth 20000 in
theorem gX4_layColour_Jx4a65c_size_8abf5 : GoodIn wsX4_layColour (wsV RX4 88 RJx4a65c yJx4a65c_size_8abf5 wsJx4a65c_size_8abf5) := goodIn_app (goodIn_of _ (by decide +kernel)) ggX4_layColour_Jx4a65c_size_8abf5
set_option maxRecDepth 20000 in
theorem ggX4_layColour_Jx4a65c_get_915e3 : GoodIn wsX4_layColour wsJx4a65c_get_915e3 := goodIn_r _ [27, 23, 28, 29, 30, 31, 32, 33, 34, 35, 36, 37, 38, 21, 39, 40, 132, 133, 134] (by decide +kernel) (by decide +kernel)
set_option maxRecDepth 20000 in
theorem gX4_layColour_Jx4a65c_get_915e3 : GoodIn wsX4_layColour (wsV RX4 146 RJx4a65c yJx4a65c_get_915e3 wsJx4a65c_get_915e3) := goodIn_app (goodIn_of _ (by decide +kernel)) ggX4_layColour_Jx4a65c_get_915e3
set_option maxRecDepth 20000 in
theorem ggX4_layColour_X0_holds : GoodIn wsX4_layColour wsX0_holds := goodIn_r _ [45, 46, 135, 136] (by decide +kernel) (by decide +kernel)
set_option maxRecDepth 20000 in
theorem gX4_layColour_X0_holds : GoodIn wsX4_layColour (wsV RX4 150 RX0 yX0_holds wsX0_holds) := goodIn_app (goodIn_of _ (by decide +kernel)) ggX4_layColour_X0_holds
set_option maxRecDepth 20000 in
theorem ggX4_layColour_X4_shapeOf : GoodIn wsX4_layColour wsX4_shapeOf := goodIn_r _ [51, 52, 4, 53, 54, 55, 56, 57, 58, 59, 60, 61, 44, 62, 46, 106, 107, 108, 109, 110, 111, 112, 113, 114, 137, 138, 135, 136] (by decide +kernel) (by decide +kernel)
set_option maxRecDepth 20000 in
theorem gX4_layColour_X4_shapeOf : GoodIn wsX4_layColour (wsV RX4 134 RX4 yX4_shapeOf wsX4_shapeOf) := goodIn_app (goodIn_of _ (by decide +kernel)) ggX4_layColour_X4_shapeOf
set_option maxRecDepth 20000 in
theorem ggX4_layColour_X3_height : GoodIn wsX4_layColour wsX3_height := goodIn_r _ [66, 58, 137, 138] (by decide +kernel) (by decide +kernel)
set_option maxRecDepth 20000 in
theorem gX4_layColour_X3_height : GoodIn wsX4_layColour (wsV RX4 208 RX3 yX3_height wsX3_height) := goodIn_app (goodIn_of _ (by decide +kernel)) ggX4_layColour_X3_height
set_option maxRecDepth 20000 in
theorem ggX4_layColour_X3_width : GoodIn wsX4_layColour wsX3_width := goodIn_r _ [70, 58, 71, 72, 73, 74, 75, 76, 77, 137, 138] (by decide +kernel) (by decide +kernel)
set_option maxRecDepth 20000 in
theorem gX4_layColour_X3_width : GoodIn wsX4_layColour (wsV RX4 211 RX3 yX3_width wsX3_width) := goodIn_app (goodIn_of _ (by decide +kernel)) ggX4_layColour_X3_width
set_option maxRecDepth 20000 in
theorem ggX4_layColour_X1_enqueue : GoodIn wsX4_layColour wsX1_enqueue := goodIn_r _ [81, 12, 82, 83, 84, 85, 50, 86, 87, 88, 89, 9, 90, 123, 124, 125, 126, 127, 128, 129, 130, 131] (by decide +kernel) (by decide +kernel)
set_option maxRecDepth 20000 in
theorem gX4_layColour_X1_enqueue : GoodIn wsX4_layColour (wsV RX4 314 RX1 yX1_enqueue wsX1_enqueue) := goodIn_app (goodIn_of _ (by decide +kernel)) ggX4_layColour_X1_enqueue
set_option maxRecDepth 20000 in
theorem ggX4_layColour_X1_layAll : GoodIn wsX4_layColour wsX1_layAll := goodIn_r _ [94, 12, 84, 95, 96, 97, 9, 98, 83, 13, 99, 82, 11, 100, 85, 50, 86, 101, 102, 103, 104, 105, 123, 124, 125, 126, 127, 128, 129, 130, 131] (by decide +kernel) (by decide +kernel)
set_option maxRecDepth 20000 in
theorem gX4_layColour_X1_layAll : GoodIn wsX4_layColour (wsV RX4 318 RX1 yX1_layAll wsX1_layAll) := goodIn_app (goodIn_of _ (by decide +kernel)) ggX4_layColour_X1_layAll
theorem dX4_layColour_0 : decode cX4_layColour 0 = .ok (.aload_n 0, 1) := by decide +kernel
theorem dX4_layColour_1 : decode cX4_layColour 1 = .ok (.getfield 39, 3) := by decide +kernel
theorem dX4_layColour_4 : decode cX4_layColour 4 = .ok (.invokevirtual 311, 3) := by decide +kernel
theorem dX4_layColour_7 : decode cX4_layColour 7 = .ok (.iconst 0, 1) := by decide +kernel
theorem dX4_layColour_8 : decode cX4_layColour 8 = .ok (.istore_n 2, 1) := by decide +kernel
theorem dX4_layColour_9 : decode cX4_layColour 9 = .ok (.iload_n 2, 1) := by decide +kernel
theorem dX4_layColour_10 : decode cX4_layColour 10 = .ok (.aload_n 0, 1) := by decide +kernel
theorem dX4_layColour_11 : decode cX4_layColour 11 = .ok (.getfield 19, 3) := by decide +kernel
theorem dX4_layColour_14 : decode cX4_layColour 14 = .ok (.invokevirtual 88, 3) := by decide +kernel
theorem dX4_layColour_17 : decode cX4_layColour 17 = .ok (.if_icmp .ge 60, 3) := by decide +kernel
theorem dX4_layColour_20 : decode cX4_layColour 20 = .ok (.aload_n 0, 1) := by decide +kernel
theorem dX4_layColour_21 : decode cX4_layColour 21 = .ok (.getfield 19, 3) := by decide +kernel
theorem dX4_layColour_24 : decode cX4_layColour 24 = .ok (.iload_n 2, 1) := by decide +kernel
theorem dX4_layColour_25 : decode cX4_layColour 25 = .ok (.invokevirtual 146, 3) := by decide +kernel
theorem dX4_layColour_28 : decode cX4_layColour 28 = .ok (.checkcast 53, 3) := by decide +kernel
theorem dX4_layColour_31 : decode cX4_layColour 31 = .ok (.getfield 101, 3) := by decide +kernel
theorem dX4_layColour_34 : decode cX4_layColour 34 = .ok (.iload_n 1, 1) := by decide +kernel
theorem dX4_layColour_35 : decode cX4_layColour 35 = .ok (.if_icmp .ne 36, 3) := by decide +kernel
theorem dX4_layColour_38 : decode cX4_layColour 38 = .ok (.aload_n 0, 1) := by decide +kernel
theorem dX4_layColour_39 : decode cX4_layColour 39 = .ok (.getfield 12, 3) := by decide +kernel
theorem dX4_layColour_42 : decode cX4_layColour 42 = .ok (.iload_n 2, 1) := by decide +kernel
theorem dX4_layColour_43 : decode cX4_layColour 43 = .ok (.invokevirtual 150, 3) := by decide +kernel
theorem dX4_layColour_46 : decode cX4_layColour 46 = .ok (.ifCond .eq 25, 3) := by decide +kernel
theorem dX4_layColour_49 : decode cX4_layColour 49 = .ok (.aload_n 0, 1) := by decide +kernel
theorem dX4_layColour_50 : decode cX4_layColour 50 = .ok (.iload_n 2, 1) := by decide +kernel
theorem dX4_layColour_51 : decode cX4_layColour 51 = .ok (.invokevirtual 134, 3) := by decide +kernel
theorem dX4_layColour_54 : decode cX4_layColour 54 = .ok (.astore_n 3, 1) := by decide +kernel
theorem dX4_layColour_55 : decode cX4_layColour 55 = .ok (.aload_n 0, 1) := by decide +kernel
theorem dX4_layColour_56 : decode cX4_layColour 56 = .ok (.getfield 39, 3) := by decide +kernel
theorem dX4_layColour_59 : decode cX4_layColour 59 = .ok (.iload_n 2, 1) := by decide +kernel
theorem dX4_layColour_60 : decode cX4_layColour 60 = .ok (.aload_n 3, 1) := by decide +kernel
theorem dX4_layColour_61 : decode cX4_layColour 61 = .ok (.invokevirtual 208, 3) := by decide +kernel
theorem dX4_layColour_64 : decode cX4_layColour 64 = .ok (.aload_n 3, 1) := by decide +kernel
theorem dX4_layColour_65 : decode cX4_layColour 65 = .ok (.invokevirtual 211, 3) := by decide +kernel
theorem dX4_layColour_68 : decode cX4_layColour 68 = .ok (.invokevirtual 314, 3) := by decide +kernel
theorem dX4_layColour_71 : decode cX4_layColour 71 = .ok (.iinc 2 1, 3) := by decide +kernel
theorem dX4_layColour_74 : decode cX4_layColour 74 = .ok (.goto (-65), 3) := by decide +kernel
theorem dX4_layColour_77 : decode cX4_layColour 77 = .ok (.aload_n 0, 1) := by decide +kernel
theorem dX4_layColour_78 : decode cX4_layColour 78 = .ok (.getfield 39, 3) := by decide +kernel
theorem dX4_layColour_81 : decode cX4_layColour 81 = .ok (.aload_n 0, 1) := by decide +kernel
theorem dX4_layColour_82 : decode cX4_layColour 82 = .ok (.getfield 47, 3) := by decide +kernel
theorem dX4_layColour_85 : decode cX4_layColour 85 = .ok (.invokevirtual 318, 3) := by decide +kernel
theorem dX4_layColour_88 : decode cX4_layColour 88 = .ok (.return_, 1) := by decide +kernel
theorem dX4_sunAt_0 : decode cX4_sunAt 0 = .ok (.bipush 6, 2) := by decide +kernel
theorem dX4_sunAt_2 : decode cX4_sunAt 2 = .ok (.iload_n 0, 1) := by decide +kernel
theorem dX4_sunAt_3 : decode cX4_sunAt 3 = .ok (.bipush 12, 2) := by decide +kernel
theorem dX4_sunAt_5 : decode cX4_sunAt 5 = .ok (.isub, 1) := by decide +kernel
theorem dX4_sunAt_6 : decode cX4_sunAt 6 = .ok (.invokestatic 321, 3) := by decide +kernel
theorem dX4_sunAt_9 : decode cX4_sunAt 9 = .ok (.isub, 1) := by decide +kernel
theorem dX4_sunAt_10 : decode cX4_sunAt 10 = .ok (.ireturn, 1) := by decide +kernel
set_option maxRecDepth 20000 in
theorem ggX4_depthOf_X4_sunAt : GoodIn wsX4_depthOf wsX4_sunAt := goodIn_r _ [4, 5, 6, 7, 8] (by decide +kernel) (by decide +kernel)
set_option maxRecDepth 20000 in
theorem gX4_depthOf_X4_sunAt : GoodIn wsX4_depthOf (va_wsS RX4 258 yX4_sunAt wsX4_sunAt) := goodIn_app (goodIn_of _ (by decide +kernel)) ggX4_depthOf_X4_sunAt
theorem dX4_depthOf_0 : decode cX4_depthOf 0 = .ok (.iload_n 1, 1) := by decide +kernel
theorem dX4_depthOf_1 : decode cX4_depthOf 1 = .ok (.invokestatic 258, 3) := by decide +kernel
theorem dX4_depthOf_4 : decode cX4_depthOf 4 = .ok (.istore_n 2, 1) := by decide +kernel
theorem dX4_depthOf_5 : decode cX4_depthOf 5 = .ok (.iload_n 2, 1) := by decide +kernel
theorem dX4_depthOf_6 : decode cX4_depthOf 6 = .ok (.iconst 1, 1) := by decide +kernel
theorem dX4_depthOf_7 : decode cX4_depthOf 7 = .ok (.if_icmp .ge 7, 3) := by decide +kernel
theorem dX4_depthOf_10 : decode cX4_depthOf 10 = .ok (.iconst (-1), 1) := by decide +kernel
theorem dX4_depthOf_11 : decode cX4_depthOf 11 = .ok (.goto 11, 3) := by decide +kernel
theorem dX4_depthOf_14 : decode cX4_depthOf 14 = .ok (.iconst 4, 1) := by decide +kernel
theorem dX4_depthOf_15 : decode cX4_depthOf 15 = .ok (.bipush 16, 2) := by decide +kernel
theorem dX4_depthOf_17 : decode cX4_depthOf 17 = .ok (.iload_n 0, 1) := by decide +kernel
theorem dX4_depthOf_18 : decode cX4_depthOf 18 = .ok (.isub, 1) := by decide +kernel
theorem dX4_depthOf_19 : decode cX4_depthOf 19 = .ok (.imul, 1) := by decide +kernel
theorem dX4_depthOf_20 : decode cX4_depthOf 20 = .ok (.iload_n 2, 1) := by decide +kernel
theorem dX4_depthOf_21 : decode cX4_depthOf 21 = .ok (.idiv, 1) := by decide +kernel
theorem dX4_depthOf_22 : decode cX4_depthOf 22 = .ok (.ireturn, 1) := by decide +kernel
set_option maxRecDepth 20000 in
theorem ggX4_drift_J9_floorDiv_7cf53 : GoodIn wsX4_drift wsJ9_floorDiv_7cf53 := goodIn_r _ [4] (by decide +kernel) (by decide +kernel)
set_option maxRecDepth 20000 in
theorem gX4_drift_J9_floorDiv_7cf53 : GoodIn wsX4_drift (va_wsS RX4 324 yJ9_floorDiv_7cf53 wsJ9_floorDiv_7cf53) := goodIn_app (goodIn_of _ (by decide +kernel)) ggX4_drift_J9_floorDiv_7cf53
theorem dX4_drift_0 : decode cX4_drift 0 = .ok (.iload_n 1, 1) := by decide +kernel
theorem dX4_drift_1 : decode cX4_drift 1 = .ok (.bipush 12, 2) := by decide +kernel
theorem dX4_drift_3 : decode cX4_drift 3 = .ok (.isub, 1) := by decide +kernel
theorem dX4_drift_4 : decode cX4_drift 4 = .ok (.iload_n 0, 1) := by decide +kernel
theorem dX4_drift_5 : decode cX4_drift 5 = .ok (.imul, 1) := by decide +kernel
theorem dX4_drift_6 : decode cX4_drift 6 = .ok (.bipush 8, 2) := by decide +kernel
theorem dX4_drift_8 : decode cX4_drift 8 = .ok (.invokestatic 324, 3) := by decide +kernel
theorem dX4_drift_11 : decode cX4_drift 11 = .ok (.ireturn, 1) := by decide +kernel
set_option maxRecDepth 20000 in
theorem ggX4_colourBit_X0_ownerAt : GoodIn wsX4_colourBit wsX0_ownerAt := goodIn_r _ [8, 9, 55, 56] (by decide +kernel) (by decide +kernel)
set_option maxRecDepth 20000 in
theorem gX4_colourBit_X0_ownerAt : GoodIn wsX4_colourBit (wsV RX4 297 RX0 yX0_ownerAt wsX0_ownerAt) := goodIn_app (goodIn_of _ (by decide +kernel)) ggX4_colourBit_X0_ownerAt
set_option maxRecDepth 20000 in
theorem ggX4_colourBit_X4_isMade : GoodIn wsX4_colourBit wsX4_isMade := goodIn_r _ [14, 2, 15, 16, 17, 18, 19, 20, 38, 39, 40, 41, 42, 43, 44, 45, 46, 57, 58, 59] (by decide +kernel) (by decide +kernel)
set_option maxRecDepth 20000 in
theorem gX4_colourBit_X4_isMade : GoodIn wsX4_colourBit (wsV RX4 282 RX4 yX4_isMade wsX4_isMade) := goodIn_app (goodIn_of _ (by decide +kernel)) ggX4_colourBit_X4_isMade
set_option maxRecDepth 20000 in
theorem ggX4_colourBit_Jx4a65c_get_915e3 : GoodIn wsX4_colourBit wsJx4a65c_get_915e3 := goodIn_r _ [24, 20, 25, 26, 27, 28, 29, 30, 31, 32, 33, 34, 35, 18, 36, 37, 57, 58, 59] (by decide +kernel) (by decide +kernel)
set_option maxRecDepth 20000 in
theorem gX4_colourBit_Jx4a65c_get_915e3 : GoodIn wsX4_colourBit (wsV RX4 146 RJx4a65c yJx4a65c_get_915e3 wsJx4a65c_get_915e3) := goodIn_app (goodIn_of _ (by decide +kernel)) ggX4_colourBit_Jx4a65c_get_915e3
theorem dX4_colourBit_0 : decode cX4_colourBit 0 = .ok (.aload_n 0, 1) := by decide +kernel
theorem dX4_colourBit_1 : decode cX4_colourBit 1 = .ok (.getfield 12, 3) := by decide +kernel
theorem dX4_colourBit_4 : decode cX4_colourBit 4 = .ok (.iload_n 1, 1) := by decide +kernel
theorem dX4_colourBit_5 : decode cX4_colourBit 5 = .ok (.iload_n 2, 1) := by decide +kernel
theorem dX4_colourBit_6 : decode cX4_colourBit 6 = .ok (.invokevirtual 297, 3) := by decide +kernel
theorem dX4_colourBit_9 : decode cX4_colourBit 9 = .ok (.istore_n 3, 1) := by decide +kernel
theorem dX4_colourBit_10 : decode cX4_colourBit 10 = .ok (.aload_n 0, 1) := by decide +kernel
theorem dX4_colourBit_11 : decode cX4_colourBit 11 = .ok (.iload_n 3, 1) := by decide +kernel
theorem dX4_colourBit_12 : decode cX4_colourBit 12 = .ok (.invokevirtual 282, 3) := by decide +kernel
theorem dX4_colourBit_15 : decode cX4_colourBit 15 = .ok (.ifCond .eq 22, 3) := by decide +kernel
theorem dX4_colourBit_18 : decode cX4_colourBit 18 = .ok (.iconst 1, 1) := by decide +kernel
theorem dX4_colourBit_19 : decode cX4_colourBit 19 = .ok (.aload_n 0, 1) := by decide +kernel
theorem dX4_colourBit_20 : decode cX4_colourBit 20 = .ok (.getfield 19, 3) := by decide +kernel
theorem dX4_colourBit_23 : decode cX4_colourBit 23 = .ok (.iload_n 3, 1) := by decide +kernel
theorem dX4_colourBit_24 : decode cX4_colourBit 24 = .ok (.invokevirtual 146, 3) := by decide +kernel
theorem dX4_colourBit_27 : decode cX4_colourBit 27 = .ok (.checkcast 53, 3) := by decide +kernel
theorem dX4_colourBit_30 : decode cX4_colourBit 30 = .ok (.getfield 101, 3) := by decide +kernel
theorem dX4_colourBit_33 : decode cX4_colourBit 33 = .ok (.ishl, 1) := by decide +kernel
theorem dX4_colourBit_34 : decode cX4_colourBit 34 = .ok (.goto 4, 3) := by decide +kernel
theorem dX4_colourBit_37 : decode cX4_colourBit 37 = .ok (.iconst 0, 1) := by decide +kernel
theorem dX4_colourBit_38 : decode cX4_colourBit 38 = .ok (.ireturn, 1) := by decide +kernel
theorem dX4_hasBar_0 : decode cX4_hasBar 0 = .ok (.aload_n 0, 1) := by decide +kernel
theorem dX4_hasBar_1 : decode cX4_hasBar 1 = .ok (.getfield 50, 3) := by decide +kernel
theorem dX4_hasBar_4 : decode cX4_hasBar 4 = .ok (.iload_n 1, 1) := by decide +kernel
theorem dX4_hasBar_5 : decode cX4_hasBar 5 = .ok (.iushr, 1) := by decide +kernel
theorem dX4_hasBar_6 : decode cX4_hasBar 6 = .ok (.iconst 1, 1) := by decide +kernel
theorem dX4_hasBar_7 : decode cX4_hasBar 7 = .ok (.iand, 1) := by decide +kernel
theorem dX4_hasBar_8 : decode cX4_hasBar 8 = .ok (.ifCond .eq 7, 3) := by decide +kernel
theorem dX4_hasBar_11 : decode cX4_hasBar 11 = .ok (.iconst 1, 1) := by decide +kernel
theorem dX4_hasBar_12 : decode cX4_hasBar 12 = .ok (.goto 4, 3) := by decide +kernel
theorem dX4_hasBar_15 : decode cX4_hasBar 15 = .ok (.iconst 0, 1) := by decide +kernel
theorem dX4_hasBar_16 : decode cX4_hasBar 16 = .ok (.ireturn, 1) := by decide +kernel
set_option maxRecDepth 20000 in
theorem ggX4_rowsOf_X4_hasBar : GoodIn wsX4_rowsOf wsX4_hasBar := goodIn_r _ [5, 6, 7, 8, 9, 10, 11, 12, 13, 14, 15] (by decide +kernel) (by decide +kernel)
set_option maxRecDepth 20000 in
theorem gX4_rowsOf_X4_hasBar : GoodIn wsX4_rowsOf (wsV RX4 160 RX4 yX4_hasBar wsX4_hasBar) := goodIn_app (goodIn_of _ (by decide +kernel)) ggX4_rowsOf_X4_hasBar
theorem dX4_rowsOf_0 : decode cX4_rowsOf 0 = .ok (.iconst 0, 1) := by decide +kernel
theorem dX4_rowsOf_1 : decode cX4_rowsOf 1 = .ok (.istore_n 2, 1) := by decide +kernel
theorem dX4_rowsOf_2 : decode cX4_rowsOf 2 = .ok (.iconst 0, 1) := by decide +kernel
theorem dX4_rowsOf_3 : decode cX4_rowsOf 3 = .ok (.istore_n 3, 1) := by decide +kernel
theorem dX4_rowsOf_4 : decode cX4_rowsOf 4 = .ok (.iconst 0, 1) := by decide +kernel
theorem dX4_rowsOf_5 : decode cX4_rowsOf 5 = .ok (.istore 4, 2) := by decide +kernel
theorem dX4_rowsOf_7 : decode cX4_rowsOf 7 = .ok (.iload 4, 2) := by decide +kernel
theorem dX4_rowsOf_9 : decode cX4_rowsOf 9 = .ok (.bipush 16, 2) := by decide +kernel
theorem dX4_rowsOf_11 : decode cX4_rowsOf 11 = .ok (.if_icmp .ge 29, 3) := by decide +kernel
theorem dX4_rowsOf_14 : decode cX4_rowsOf 14 = .ok (.iload_n 2, 1) := by decide +kernel
theorem dX4_rowsOf_15 : decode cX4_rowsOf 15 = .ok (.iload_n 1, 1) := by decide +kernel
theorem dX4_rowsOf_16 : decode cX4_rowsOf 16 = .ok (.if_icmp .ne 6, 3) := by decide +kernel
theorem dX4_rowsOf_19 : decode cX4_rowsOf 19 = .ok (.iinc 3 1, 3) := by decide +kernel
theorem dX4_rowsOf_22 : decode cX4_rowsOf 22 = .ok (.aload_n 0, 1) := by decide +kernel
theorem dX4_rowsOf_23 : decode cX4_rowsOf 23 = .ok (.iload 4, 2) := by decide +kernel
theorem dX4_rowsOf_25 : decode cX4_rowsOf 25 = .ok (.invokevirtual 160, 3) := by decide +kernel
theorem dX4_rowsOf_28 : decode cX4_rowsOf 28 = .ok (.ifCond .eq 6, 3) := by decide +kernel
theorem dX4_rowsOf_31 : decode cX4_rowsOf 31 = .ok (.iinc 2 1, 3) := by decide +kernel
theorem dX4_rowsOf_34 : decode cX4_rowsOf 34 = .ok (.iinc 4 1, 3) := by decide +kernel
theorem dX4_rowsOf_37 : decode cX4_rowsOf 37 = .ok (.goto (-30), 3) := by decide +kernel
theorem dX4_rowsOf_40 : decode cX4_rowsOf 40 = .ok (.iload_n 3, 1) := by decide +kernel
theorem dX4_rowsOf_41 : decode cX4_rowsOf 41 = .ok (.ireturn, 1) := by decide +kernel
