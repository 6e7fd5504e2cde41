theorem dX0_init_0 : decode cX0_init 0 = .ok (.aload_n 0, 1) := by decide +kernel
theorem dX0_init_1 : decode cX0_init 1 = .ok (.invokespecial 3, 3) := by decide +kernel
theorem dX0_init_4 : decode cX0_init 4 = .ok (.aload_n 0, 1) := by decide +kernel
theorem dX0_init_5 : decode cX0_init 5 = .ok (.sipush 256, 3) := by decide +kernel
theorem dX0_init_8 : decode cX0_init 8 = .ok (.newarray .int, 2) := by decide +kernel
theorem dX0_init_10 : decode cX0_init 10 = .ok (.putfield 9, 3) := by decide +kernel
theorem dX0_init_13 : decode cX0_init 13 = .ok (.aload_n 0, 1) := by decide +kernel
theorem dX0_init_14 : decode cX0_init 14 = .ok (.bipush 60, 2) := by decide +kernel
theorem dX0_init_16 : decode cX0_init 16 = .ok (.newarray .long, 2) := by decide +kernel
theorem dX0_init_18 : decode cX0_init 18 = .ok (.putfield 15, 3) := by decide +kernel
theorem dX0_init_21 : decode cX0_init 21 = .ok (.return_, 1) := by decide +kernel
theorem dX0_ownerAt_0 : decode cX0_ownerAt 0 = .ok (.iload_n 1, 1) := by decide +kernel
theorem dX0_ownerAt_1 : decode cX0_ownerAt 1 = .ok (.ifCond .lt 19, 3) := by decide +kernel
theorem dX0_ownerAt_4 : decode cX0_ownerAt 4 = .ok (.iload_n 1, 1) := by decide +kernel
theorem dX0_ownerAt_5 : decode cX0_ownerAt 5 = .ok (.bipush 16, 2) := by decide +kernel
theorem dX0_ownerAt_7 : decode cX0_ownerAt 7 = .ok (.if_icmp .ge 13, 3) := by decide +kernel
theorem dX0_ownerAt_10 : decode cX0_ownerAt 10 = .ok (.iload_n 2, 1) := by decide +kernel
theorem dX0_ownerAt_11 : decode cX0_ownerAt 11 = .ok (.ifCond .lt 9, 3) := by decide +kernel
theorem dX0_ownerAt_14 : decode cX0_ownerAt 14 = .ok (.iload_n 2, 1) := by decide +kernel
theorem dX0_ownerAt_15 : decode cX0_ownerAt 15 = .ok (.bipush 16, 2) := by decide +kernel
theorem dX0_ownerAt_17 : decode cX0_ownerAt 17 = .ok (.if_icmp .lt 5, 3) := by decide +kernel
theorem dX0_ownerAt_20 : decode cX0_ownerAt 20 = .ok (.iconst (-1), 1) := by decide +kernel
theorem dX0_ownerAt_21 : decode cX0_ownerAt 21 = .ok (.ireturn, 1) := by decide +kernel
theorem dX0_ownerAt_22 : decode cX0_ownerAt 22 = .ok (.aload_n 0, 1) := by decide +kernel
theorem dX0_ownerAt_23 : decode cX0_ownerAt 23 = .ok (.getfield 9, 3) := by decide +kernel
theorem dX0_ownerAt_26 : decode cX0_ownerAt 26 = .ok (.iload_n 1, 1) := by decide +kernel
theorem dX0_ownerAt_27 : decode cX0_ownerAt 27 = .ok (.bipush 16, 2) := by decide +kernel
theorem dX0_ownerAt_29 : decode cX0_ownerAt 29 = .ok (.imul, 1) := by decide +kernel
theorem dX0_ownerAt_30 : decode cX0_ownerAt 30 = .ok (.iload_n 2, 1) := by decide +kernel
theorem dX0_ownerAt_31 : decode cX0_ownerAt 31 = .ok (.iadd, 1) := by decide +kernel
theorem dX0_ownerAt_32 : decode cX0_ownerAt 32 = .ok (.iaload, 1) := by decide +kernel
theorem dX0_ownerAt_33 : decode cX0_ownerAt 33 = .ok (.ireturn, 1) := by decide +kernel
theorem dX0_holds_0 : decode cX0_holds 0 = .ok (.aload_n 0, 1) := by decide +kernel
theorem dX0_holds_1 : decode cX0_holds 1 = .ok (.getfield 9, 3) := by decide +kernel
theorem dX0_holds_4 : decode cX0_holds 4 = .ok (.astore_n 2, 1) := by decide +kernel
theorem dX0_holds_5 : decode cX0_holds 5 = .ok (.aload_n 2, 1) := by decide +kernel
theorem dX0_holds_6 : decode cX0_holds 6 = .ok (.arraylength, 1) := by decide +kernel
theorem dX0_holds_7 : decode cX0_holds 7 = .ok (.istore_n 3, 1) := by decide +kernel
theorem dX0_holds_8 : decode cX0_holds 8 = .ok (.iconst 0, 1) := by decide +kernel
theorem dX0_holds_9 : decode cX0_holds 9 = .ok (.istore 4, 2) := by decide +kernel
theorem dX0_holds_11 : decode cX0_holds 11 = .ok (.iload 4, 2) := by decide +kernel
theorem dX0_holds_13 : decode cX0_holds 13 = .ok (.iload_n 3, 1) := by decide +kernel
theorem dX0_holds_14 : decode cX0_holds 14 = .ok (.if_icmp .ge 23, 3) := by decide +kernel
theorem dX0_holds_17 : decode cX0_holds 17 = .ok (.aload_n 2, 1) := by decide +kernel
theorem dX0_holds_18 : decode cX0_holds 18 = .ok (.iload 4, 2) := by decide +kernel
theorem dX0_holds_20 : decode cX0_holds 20 = .ok (.iaload, 1) := by decide +kernel
theorem dX0_holds_21 : decode cX0_holds 21 = .ok (.istore 5, 2) := by decide +kernel
theorem dX0_holds_23 : decode cX0_holds 23 = .ok (.iload 5, 2) := by decide +kernel
theorem dX0_holds_25 : decode cX0_holds 25 = .ok (.iload_n 1, 1) := by decide +kernel
theorem dX0_holds_26 : decode cX0_holds 26 = .ok (.if_icmp .ne 5, 3) := by decide +kernel
theorem dX0_holds_29 : decode cX0_holds 29 = .ok (.iconst 1, 1) := by decide +kernel
theorem dX0_holds_30 : decode cX0_holds 30 = .ok (.ireturn, 1) := by decide +kernel
theorem dX0_holds_31 : decode cX0_holds 31 = .ok (.iinc 4 1, 3) := by decide +kernel
theorem dX0_holds_34 : decode cX0_holds 34 = .ok (.goto (-23), 3) := by decide +kernel
theorem dX0_holds_37 : decode cX0_holds 37 = .ok (.iconst 0, 1) := by decide +kernel
theorem dX0_holds_38 : decode cX0_holds 38 = .ok (.ireturn, 1) := by decide +kernel
theorem dX0_present_0 : decode cX0_present 0 = .ok (.lconst 0, 1) := by decide +kernel
theorem dX0_present_1 : decode cX0_present 1 = .ok (.lstore_n 1, 1) := by decide +kernel
theorem dX0_present_2 : decode cX0_present 2 = .ok (.aload_n 0, 1) := by decide +kernel
theorem dX0_present_3 : decode cX0_present 3 = .ok (.getfield 9, 3) := by decide +kernel
theorem dX0_present_6 : decode cX0_present 6 = .ok (.astore_n 3, 1) := by decide +kernel
theorem dX0_present_7 : decode cX0_present 7 = .ok (.aload_n 3, 1) := by decide +kernel
theorem dX0_present_8 : decode cX0_present 8 = .ok (.arraylength, 1) := by decide +kernel
theorem dX0_present_9 : decode cX0_present 9 = .ok (.istore 4, 2) := by decide +kernel
theorem dX0_present_11 : decode cX0_present 11 = .ok (.iconst 0, 1) := by decide +kernel
theorem dX0_present_12 : decode cX0_present 12 = .ok (.istore 5, 2) := by decide +kernel
theorem dX0_present_14 : decode cX0_present 14 = .ok (.iload 5, 2) := by decide +kernel
theorem dX0_present_16 : decode cX0_present 16 = .ok (.iload 4, 2) := by decide +kernel
theorem dX0_present_18 : decode cX0_present 18 = .ok (.if_icmp .ge 22, 3) := by decide +kernel
theorem dX0_present_21 : decode cX0_present 21 = .ok (.aload_n 3, 1) := by decide +kernel
theorem dX0_present_22 : decode cX0_present 22 = .ok (.iload 5, 2) := by decide +kernel
theorem dX0_present_24 : decode cX0_present 24 = .ok (.iaload, 1) := by decide +kernel
theorem dX0_present_25 : decode cX0_present 25 = .ok (.istore 6, 2) := by decide +kernel
theorem dX0_present_27 : decode cX0_present 27 = .ok (.lload_n 1, 1) := by decide +kernel
theorem dX0_present_28 : decode cX0_present 28 = .ok (.lconst 1, 1) := by decide +kernel
theorem dX0_present_29 : decode cX0_present 29 = .ok (.iload 6, 2) := by decide +kernel
theorem dX0_present_31 : decode cX0_present 31 = .ok (.lshl, 1) := by decide +kernel
theorem dX0_present_32 : decode cX0_present 32 = .ok (.lor, 1) := by decide +kernel
theorem dX0_present_33 : decode cX0_present 33 = .ok (.lstore_n 1, 1) := by decide +kernel
theorem dX0_present_34 : decode cX0_present 34 = .ok (.iinc 5 1, 3) := by decide +kernel
theorem dX0_present_37 : decode cX0_present 37 = .ok (.goto (-23), 3) := by decide +kernel
theorem dX0_present_40 : decode cX0_present 40 = .ok (.lload_n 1, 1) := by decide +kernel
theorem dX0_present_41 : decode cX0_present 41 = .ok (.lreturn, 1) := by decide +kernel
theorem dX0_hand_0 : decode cX0_hand 0 = .ok (.iload_n 1, 1) := by decide +kernel
theorem dX0_hand_1 : decode cX0_hand 1 = .ok (.ifCond .lt 17, 3) := by decide +kernel
theorem dX0_hand_4 : decode cX0_hand 4 = .ok (.iload_n 1, 1) := by decide +kernel
theorem dX0_hand_5 : decode cX0_hand 5 = .ok (.sipush 256, 3) := by decide +kernel
theorem dX0_hand_8 : decode cX0_hand 8 = .ok (.if_icmp .ge 10, 3) := by decide +kernel
theorem dX0_hand_11 : decode cX0_hand 11 = .ok (.aload_n 0, 1) := by decide +kernel
theorem dX0_hand_12 : decode cX0_hand 12 = .ok (.getfield 9, 3) := by decide +kernel
theorem dX0_hand_15 : decode cX0_hand 15 = .ok (.iload_n 1, 1) := by decide +kernel
theorem dX0_hand_16 : decode cX0_hand 16 = .ok (.iload_n 2, 1) := by decide +kernel
theorem dX0_hand_17 : decode cX0_hand 17 = .ok (.iastore, 1) := by decide +kernel
theorem dX0_hand_18 : decode cX0_hand 18 = .ok (.return_, 1) := by decide +kernel
set_option maxRecDepth 20000 in
theorem ggX0_hand__X3_has : GoodIn wsX0_hand_ wsX3_has := goodIn_r _ [6, 7, 10, 11] (by decide +kernel) (by decide +kernel)
set_option maxRecDepth 20000 in
theorem gX0_hand__X3_has : GoodIn wsX0_hand_ (wsV RX0 19 RX3 yX3_has wsX3_has) := goodIn_app (goodIn_of _ (by decide +kernel)) ggX0_hand__X3_has
theorem dX0_hand__0 : decode cX0_hand_ 0 = .ok (.iconst 0, 1) := by decide +kernel
theorem dX0_hand__1 : decode cX0_hand_ 1 = .ok (.istore_n 3, 1) := by decide +kernel
theorem dX0_hand__2 : decode cX0_hand_ 2 = .ok (.iload_n 3, 1) := by decide +kernel
theorem dX0_hand__3 : decode cX0_hand_ 3 = .ok (.sipush 256, 3) := by decide +kernel
theorem dX0_hand__6 : decode cX0_hand_ 6 = .ok (.if_icmp .ge 24, 3) := by decide +kernel
theorem dX0_hand__9 : decode cX0_hand_ 9 = .ok (.aload_n 1, 1) := by decide +kernel
theorem dX0_hand__10 : decode cX0_hand_ 10 = .ok (.iload_n 3, 1) := by decide +kernel
theorem dX0_hand__11 : decode cX0_hand_ 11 = .ok (.invokevirtual 19, 3) := by decide +kernel
theorem dX0_hand__14 : decode cX0_hand_ 14 = .ok (.ifCond .eq 10, 3) := by decide +kernel
theorem dX0_hand__17 : decode cX0_hand_ 17 = .ok (.aload_n 0, 1) := by decide +kernel
theorem dX0_hand__18 : decode cX0_hand_ 18 = .ok (.getfield 9, 3) := by decide +kernel
theorem dX0_hand__21 : decode cX0_hand_ 21 = .ok (.iload_n 3, 1) := by decide +kernel
theorem dX0_hand__22 : decode cX0_hand_ 22 = .ok (.iload_n 2, 1) := by decide +kernel
theorem dX0_hand__23 : decode cX0_hand_ 23 = .ok (.iastore, 1) := by decide +kernel
theorem dX0_hand__24 : decode cX0_hand_ 24 = .ok (.iinc 3 1, 3) := by decide +kernel
theorem dX0_hand__27 : decode cX0_hand_ 27 = .ok (.goto (-25), 3) := by decide +kernel
theorem dX0_hand__30 : decode cX0_hand_ 30 = .ok (.return_, 1) := by decide +kernel
set_option maxRecDepth 20000 in
theorem ggX0_touches_X0_ownerAt : GoodIn wsX0_touches wsX0_ownerAt := goodIn_r _ [5, 6, 7, 8] (by decide +kernel) (by decide +kernel)
set_option maxRecDepth 20000 in
theorem gX0_touches_X0_ownerAt : GoodIn wsX0_touches (wsV RX0 25 RX0 yX0_ownerAt wsX0_ownerAt) := goodIn_app (goodIn_of _ (by decide +kernel)) ggX0_touches_X0_ownerAt
theorem dX0_touches_0 : decode cX0_touches 0 = .ok (.iload_n 1, 1) := by decide +kernel
theorem dX0_touches_1 : decode cX0_touches 1 = .ok (.bipush 16, 2) := by decide +kernel
theorem dX0_touches_3 : decode cX0_touches 3 = .ok (.idiv, 1) := by decide +kernel
theorem dX0_touches_4 : decode cX0_touches 4 = .ok (.istore_n 3, 1) := by decide +kernel
theorem dX0_touches_5 : decode cX0_touches 5 = .ok (.iload_n 1, 1) := by decide +kernel
theorem dX0_touches_6 : decode cX0_touches 6 = .ok (.bipush 16, 2) := by decide +kernel
theorem dX0_touches_8 : decode cX0_touches 8 = .ok (.irem, 1) := by decide +kernel
theorem dX0_touches_9 : decode cX0_touches 9 = .ok (.istore 4, 2) := by decide +kernel
theorem dX0_touches_11 : decode cX0_touches 11 = .ok (.aload_n 0, 1) := by decide +kernel
theorem dX0_touches_12 : decode cX0_touches 12 = .ok (.iload_n 3, 1) := by decide +kernel
theorem dX0_touches_13 : decode cX0_touches 13 = .ok (.iconst 1, 1) := by decide +kernel
theorem dX0_touches_14 : decode cX0_touches 14 = .ok (.isub, 1) := by decide +kernel
theorem dX0_touches_15 : decode cX0_touches 15 = .ok (.iload 4, 2) := by decide +kernel
theorem dX0_touches_17 : decode cX0_touches 17 = .ok (.invokevirtual 25, 3) := by decide +kernel
theorem dX0_touches_20 : decode cX0_touches 20 = .ok (.iload_n 2, 1) := by decide +kernel
theorem dX0_touches_21 : decode cX0_touches 21 = .ok (.if_icmp .eq 42, 3) := by decide +kernel
theorem dX0_touches_24 : decode cX0_touches 24 = .ok (.aload_n 0, 1) := by decide +kernel
theorem dX0_touches_25 : decode cX0_touches 25 = .ok (.iload_n 3, 1) := by decide +kernel
theorem dX0_touches_26 : decode cX0_touches 26 = .ok (.iconst 1, 1) := by decide +kernel
theorem dX0_touches_27 : decode cX0_touches 27 = .ok (.iadd, 1) := by decide +kernel
theorem dX0_touches_28 : decode cX0_touches 28 = .ok (.iload 4, 2) := by decide +kernel
theorem dX0_touches_30 : decode cX0_touches 30 = .ok (.invokevirtual 25, 3) := by decide +kernel
theorem dX0_touches_33 : decode cX0_touches 33 = .ok (.iload_n 2, 1) := by decide +kernel
theorem dX0_touches_34 : decode cX0_touches 34 = .ok (.if_icmp .eq 29, 3) := by decide +kernel
theorem dX0_touches_37 : decode cX0_touches 37 = .ok (.aload_n 0, 1) := by decide +kernel
theorem dX0_touches_38 : decode cX0_touches 38 = .ok (.iload_n 3, 1) := by decide +kernel
theorem dX0_touches_39 : decode cX0_touches 39 = .ok (.iload 4, 2) := by decide +kernel
theorem dX0_touches_41 : decode cX0_touches 41 = .ok (.iconst 1, 1) := by decide +kernel
theorem dX0_touches_42 : decode cX0_touches 42 = .ok (.isub, 1) := by decide +kernel
theorem dX0_touches_43 : decode cX0_touches 43 = .ok (.invokevirtual 25, 3) := by decide +kernel
theorem dX0_touches_46 : decode cX0_touches 46 = .ok (.iload_n 2, 1) := by decide +kernel
theorem dX0_touches_47 : decode cX0_touches 47 = .ok (.if_icmp .eq 16, 3) := by decide +kernel
theorem dX0_touches_50 : decode cX0_touches 50 = .ok (.aload_n 0, 1) := by decide +kernel
theorem dX0_touches_51 : decode cX0_touches 51 = .ok (.iload_n 3, 1) := by decide +kernel
theorem dX0_touches_52 : decode cX0_touches 52 = .ok (.iload 4, 2) := by decide +kernel
theorem dX0_touches_54 : decode cX0_touches 54 = .ok (.iconst 1, 1) := by decide +kernel
theorem dX0_touches_55 : decode cX0_touches 55 = .ok (.iadd, 1) := by decide +kernel
theorem dX0_touches_56 : decode cX0_touches 56 = .ok (.invokevirtual 25, 3) := by decide +kernel
theorem dX0_touches_59 : decode cX0_touches 59 = .ok (.iload_n 2, 1) := by decide +kernel
theorem dX0_touches_60 : decode cX0_touches 60 = .ok (.if_icmp .ne 7, 3) := by decide +kernel
theorem dX0_touches_63 : decode cX0_touches 63 = .ok (.iconst 1, 1) := by decide +kernel
theorem dX0_touches_64 : decode cX0_touches 64 = .ok (.goto 4, 3) := by decide +kernel
theorem dX0_touches_67 : decode cX0_touches 67 = .ok (.iconst 0, 1) := by decide +kernel
theorem dX0_touches_68 : decode cX0_touches 68 = .ok (.ireturn, 1) := by decide +kernel
set_option maxRecDepth 20000 in
theorem ggX0_adjoin_X0_touches : GoodIn wsX0_adjoin wsX0_touches := goodIn_r _ [6, 7, 8, 9, 5, 10, 1, 11, 12] (by decide +kernel) (by decide +kernel)
set_option maxRecDepth 20000 in
theorem gX0_adjoin_X0_touches : GoodIn wsX0_adjoin (wsV RX0 29 RX0 yX0_touches wsX0_touches) := goodIn_app (goodIn_of _ (by decide +kernel)) ggX0_adjoin_X0_touches
theorem dX0_adjoin_0 : decode cX0_adjoin 0 = .ok (.iconst 0, 1) := by decide +kernel
theorem dX0_adjoin_1 : decode cX0_adjoin 1 = .ok (.istore_n 3, 1) := by decide +kernel
theorem dX0_adjoin_2 : decode cX0_adjoin 2 = .ok (.iload_n 3, 1) := by decide +kernel
theorem dX0_adjoin_3 : decode cX0_adjoin 3 = .ok (.sipush 256, 3) := by decide +kernel
theorem dX0_adjoin_6 : decode cX0_adjoin 6 = .ok (.if_icmp .ge 30, 3) := by decide +kernel
theorem dX0_adjoin_9 : decode cX0_adjoin 9 = .ok (.aload_n 0, 1) := by decide +kernel
theorem dX0_adjoin_10 : decode cX0_adjoin 10 = .ok (.getfield 9, 3) := by decide +kernel
theorem dX0_adjoin_13 : decode cX0_adjoin 13 = .ok (.iload_n 3, 1) := by decide +kernel
theorem dX0_adjoin_14 : decode cX0_adjoin 14 = .ok (.iaload, 1) := by decide +kernel
theorem dX0_adjoin_15 : decode cX0_adjoin 15 = .ok (.iload_n 1, 1) := by decide +kernel
theorem dX0_adjoin_16 : decode cX0_adjoin 16 = .ok (.if_icmp .ne 14, 3) := by decide +kernel
theorem dX0_adjoin_19 : decode cX0_adjoin 19 = .ok (.aload_n 0, 1) := by decide +kernel
theorem dX0_adjoin_20 : decode cX0_adjoin 20 = .ok (.iload_n 3, 1) := by decide +kernel
theorem dX0_adjoin_21 : decode cX0_adjoin 21 = .ok (.iload_n 2, 1) := by decide +kernel
theorem dX0_adjoin_22 : decode cX0_adjoin 22 = .ok (.invokevirtual 29, 3) := by decide +kernel
theorem dX0_adjoin_25 : decode cX0_adjoin 25 = .ok (.ifCond .eq 5, 3) := by decide +kernel
theorem dX0_adjoin_28 : decode cX0_adjoin 28 = .ok (.iconst 1, 1) := by decide +kernel
theorem dX0_adjoin_29 : decode cX0_adjoin 29 = .ok (.ireturn, 1) := by decide +kernel
theorem dX0_adjoin_30 : decode cX0_adjoin 30 = .ok (.iinc 3 1, 3) := by decide +kernel
theorem dX0_adjoin_33 : decode cX0_adjoin 33 = .ok (.goto (-31), 3) := by decide +kernel
theorem dX0_adjoin_36 : decode cX0_adjoin 36 = .ok (.iconst 0, 1) := by decide +kernel
theorem dX0_adjoin_37 : decode cX0_adjoin 37 = .ok (.ireturn, 1) := by decide +kernel
set_option maxRecDepth 20000 in
theorem ggX0_leadLength_X0_ownerAt : GoodIn wsX0_leadLength wsX0_ownerAt := goodIn_r _ [5, 6, 10, 11] (by decide +kernel) (by decide +kernel)
set_option maxRecDepth 20000 in
theorem gX0_leadLength_X0_ownerAt : GoodIn wsX0_leadLength (wsV RX0 25 RX0 yX0_ownerAt wsX0_ownerAt) := goodIn_app (goodIn_of _ (by decide +kernel)) ggX0_leadLength_X0_ownerAt
set_option maxRecDepth 20000 in
theorem ggX0_leadLength_X0_leadsBetween : GoodIn wsX0_leadLength wsX0_leadsBetween := goodIn_r _ [9] (by decide +kernel) (by decide +kernel)
set_option maxRecDepth 20000 in
theorem gX0_leadLength_X0_leadsBetween : GoodIn wsX0_leadLength (va_wsS RX0 33 yX0_leadsBetween wsX0_leadsBetween) := goodIn_app (goodIn_of _ (by decide +kernel)) ggX0_leadLength_X0_leadsBetween
theorem dX0_leadLength_0 : decode cX0_leadLength 0 = .ok (.iconst 0, 1) := by decide +kernel
theorem dX0_leadLength_1 : decode cX0_leadLength 1 = .ok (.istore_n 1, 1) := by decide +kernel
theorem dX0_leadLength_2 : decode cX0_leadLength 2 = .ok (.iconst 0, 1) := by decide +kernel
theorem dX0_leadLength_3 : decode cX0_leadLength 3 = .ok (.istore_n 2, 1) := by decide +kernel
theorem dX0_leadLength_4 : decode cX0_leadLength 4 = .ok (.iload_n 2, 1) := by decide +kernel
theorem dX0_leadLength_5 : decode cX0_leadLength 5 = .ok (.bipush 16, 2) := by decide +kernel
theorem dX0_leadLength_7 : decode cX0_leadLength 7 = .ok (.if_icmp .gt 63, 3) := by decide +kernel
theorem dX0_leadLength_10 : decode cX0_leadLength 10 = .ok (.iconst 0, 1) := by decide +kernel
theorem dX0_leadLength_11 : decode cX0_leadLength 11 = .ok (.istore_n 3, 1) := by decide +kernel
theorem dX0_leadLength_12 : decode cX0_leadLength 12 = .ok (.iload_n 3, 1) := by decide +kernel
theorem dX0_leadLength_13 : decode cX0_leadLength 13 = .ok (.bipush 16, 2) := by decide +kernel
theorem dX0_leadLength_15 : decode cX0_leadLength 15 = .ok (.if_icmp .gt 49, 3) := by decide +kernel
theorem dX0_leadLength_18 : decode cX0_leadLength 18 = .ok (.aload_n 0, 1) := by decide +kernel
theorem dX0_leadLength_19 : decode cX0_leadLength 19 = .ok (.iload_n 2, 1) := by decide +kernel
theorem dX0_leadLength_20 : decode cX0_leadLength 20 = .ok (.iload_n 3, 1) := by decide +kernel
theorem dX0_leadLength_21 : decode cX0_leadLength 21 = .ok (.invokevirtual 25, 3) := by decide +kernel
theorem dX0_leadLength_24 : decode cX0_leadLength 24 = .ok (.istore 4, 2) := by decide +kernel
theorem dX0_leadLength_26 : decode cX0_leadLength 26 = .ok (.iload_n 1, 1) := by decide +kernel
theorem dX0_leadLength_27 : decode cX0_leadLength 27 = .ok (.iload 4, 2) := by decide +kernel
theorem dX0_leadLength_29 : decode cX0_leadLength 29 = .ok (.aload_n 0, 1) := by decide +kernel
theorem dX0_leadLength_30 : decode cX0_leadLength 30 = .ok (.iload_n 2, 1) := by decide +kernel
theorem dX0_leadLength_31 : decode cX0_leadLength 31 = .ok (.iconst 1, 1) := by decide +kernel
theorem dX0_leadLength_32 : decode cX0_leadLength 32 = .ok (.isub, 1) := by decide +kernel
theorem dX0_leadLength_33 : decode cX0_leadLength 33 = .ok (.iload_n 3, 1) := by decide +kernel
theorem dX0_leadLength_34 : decode cX0_leadLength 34 = .ok (.invokevirtual 25, 3) := by decide +kernel
theorem dX0_leadLength_37 : decode cX0_leadLength 37 = .ok (.invokestatic 33, 3) := by decide +kernel
theorem dX0_leadLength_40 : decode cX0_leadLength 40 = .ok (.iadd, 1) := by decide +kernel
theorem dX0_leadLength_41 : decode cX0_leadLength 41 = .ok (.istore_n 1, 1) := by decide +kernel
theorem dX0_leadLength_42 : decode cX0_leadLength 42 = .ok (.iload_n 1, 1) := by decide +kernel
theorem dX0_leadLength_43 : decode cX0_leadLength 43 = .ok (.iload 4, 2) := by decide +kernel
theorem dX0_leadLength_45 : decode cX0_leadLength 45 = .ok (.aload_n 0, 1) := by decide +kernel
theorem dX0_leadLength_46 : decode cX0_leadLength 46 = .ok (.iload_n 2, 1) := by decide +kernel
theorem dX0_leadLength_47 : decode cX0_leadLength 47 = .ok (.iload_n 3, 1) := by decide +kernel
theorem dX0_leadLength_48 : decode cX0_leadLength 48 = .ok (.iconst 1, 1) := by decide +kernel
theorem dX0_leadLength_49 : decode cX0_leadLength 49 = .ok (.isub, 1) := by decide +kernel
theorem dX0_leadLength_50 : decode cX0_leadLength 50 = .ok (.invokevirtual 25, 3) := by decide +kernel
theorem dX0_leadLength_53 : decode cX0_leadLength 53 = .ok (.invokestatic 33, 3) := by decide +kernel
theorem dX0_leadLength_56 : decode cX0_leadLength 56 = .ok (.iadd, 1) := by decide +kernel
theorem dX0_leadLength_57 : decode cX0_leadLength 57 = .ok (.istore_n 1, 1) := by decide +kernel
theorem dX0_leadLength_58 : decode cX0_leadLength 58 = .ok (.iinc 3 1, 3) := by decide +kernel
theorem dX0_leadLength_61 : decode cX0_leadLength 61 = .ok (.goto (-49), 3) := by decide +kernel
theorem dX0_leadLength_64 : decode cX0_leadLength 64 = .ok (.iinc 2 1, 3) := by decide +kernel
theorem dX0_leadLength_67 : decode cX0_leadLength 67 = .ok (.goto (-63), 3) := by decide +kernel
theorem dX0_leadLength_70 : decode cX0_leadLength 70 = .ok (.iload_n 1, 1) := by decide +kernel
theorem dX0_leadLength_71 : decode cX0_leadLength 71 = .ok (.ireturn, 1) := by decide +kernel
set_option maxRecDepth 20000 in
theorem ggX0_jointCount_X0_leadsAtCorner : GoodIn wsX0_jointCount wsX0_leadsAtCorner := goodIn_r _ [5, 6, 7, 8, 4, 9, 10, 11, 12, 13, 14, 15] (by decide +kernel) (by decide +kernel)
set_option maxRecDepth 20000 in
theorem gX0_jointCount_X0_leadsAtCorner : GoodIn wsX0_jointCount (wsV RX0 36 RX0 yX0_leadsAtCorner wsX0_leadsAtCorner) := goodIn_app (goodIn_of _ (by decide +kernel)) ggX0_jointCount_X0_leadsAtCorner
theorem dX0_jointCount_0 : decode cX0_jointCount 0 = .ok (.iconst 0, 1) := by decide +kernel
theorem dX0_jointCount_1 : decode cX0_jointCount 1 = .ok (.istore_n 1, 1) := by decide +kernel
theorem dX0_jointCount_2 : decode cX0_jointCount 2 = .ok (.iconst 0, 1) := by decide +kernel
theorem dX0_jointCount_3 : decode cX0_jointCount 3 = .ok (.istore_n 2, 1) := by decide +kernel
theorem dX0_jointCount_4 : decode cX0_jointCount 4 = .ok (.iload_n 2, 1) := by decide +kernel
theorem dX0_jointCount_5 : decode cX0_jointCount 5 = .ok (.bipush 16, 2) := by decide +kernel
theorem dX0_jointCount_7 : decode cX0_jointCount 7 = .ok (.if_icmp .gt 36, 3) := by decide +kernel
theorem dX0_jointCount_10 : decode cX0_jointCount 10 = .ok (.iconst 0, 1) := by decide +kernel
theorem dX0_jointCount_11 : decode cX0_jointCount 11 = .ok (.istore_n 3, 1) := by decide +kernel
theorem dX0_jointCount_12 : decode cX0_jointCount 12 = .ok (.iload_n 3, 1) := by decide +kernel
theorem dX0_jointCount_13 : decode cX0_jointCount 13 = .ok (.bipush 16, 2) := by decide +kernel
theorem dX0_jointCount_15 : decode cX0_jointCount 15 = .ok (.if_icmp .gt 22, 3) := by decide +kernel
theorem dX0_jointCount_18 : decode cX0_jointCount 18 = .ok (.aload_n 0, 1) := by decide +kernel
theorem dX0_jointCount_19 : decode cX0_jointCount 19 = .ok (.iload_n 2, 1) := by decide +kernel
theorem dX0_jointCount_20 : decode cX0_jointCount 20 = .ok (.iload_n 3, 1) := by decide +kernel
theorem dX0_jointCount_21 : decode cX0_jointCount 21 = .ok (.invokevirtual 36, 3) := by decide +kernel
theorem dX0_jointCount_24 : decode cX0_jointCount 24 = .ok (.iconst 3, 1) := by decide +kernel
theorem dX0_jointCount_25 : decode cX0_jointCount 25 = .ok (.if_icmp .lt 6, 3) := by decide +kernel
theorem dX0_jointCount_28 : decode cX0_jointCount 28 = .ok (.iinc 1 1, 3) := by decide +kernel
theorem dX0_jointCount_31 : decode cX0_jointCount 31 = .ok (.iinc 3 1, 3) := by decide +kernel
theorem dX0_jointCount_34 : decode cX0_jointCount 34 = .ok (.goto (-22), 3) := by decide +kernel
theorem dX0_jointCount_37 : decode cX0_jointCount 37 = .ok (.iinc 2 1, 3) := by decide +kernel
theorem dX0_jointCount_40 : decode cX0_jointCount 40 = .ok (.goto (-36), 3) := by decide +kernel
theorem dX0_jointCount_43 : decode cX0_jointCount 43 = .ok (.iload_n 1, 1) := by decide +kernel
theorem dX0_jointCount_44 : decode cX0_jointCount 44 = .ok (.ireturn, 1) := by decide +kernel
set_option maxRecDepth 20000 in
theorem ggX0_leadsAtCorner_X0_ownerAt : GoodIn wsX0_leadsAtCorner wsX0_ownerAt := goodIn_r _ [5, 6, 10, 11] (by decide +kernel) (by decide +kernel)
set_option maxRecDepth 20000 in
theorem gX0_leadsAtCorner_X0_ownerAt : GoodIn wsX0_leadsAtCorner (wsV RX0 25 RX0 yX0_ownerAt wsX0_ownerAt) := goodIn_app (goodIn_of _ (by decide +kernel)) ggX0_leadsAtCorner_X0_ownerAt
set_option maxRecDepth 20000 in
theorem ggX0_leadsAtCorner_X0_leadsBetween : GoodIn wsX0_leadsAtCorner wsX0_leadsBetween := goodIn_r _ [9] (by decide +kernel) (by decide +kernel)
set_option maxRecDepth 20000 in
theorem gX0_leadsAtCorner_X0_leadsBetween : GoodIn wsX0_leadsAtCorner (va_wsS RX0 33 yX0_leadsBetween wsX0_leadsBetween) := goodIn_app (goodIn_of _ (by decide +kernel)) ggX0_leadsAtCorner_X0_leadsBetween
theorem dX0_leadsAtCorner_0 : decode cX0_leadsAtCorner 0 = .ok (.aload_n 0, 1) := by decide +kernel
theorem dX0_leadsAtCorner_1 : decode cX0_leadsAtCorner 1 = .ok (.iload_n 1, 1) := by decide +kernel
theorem dX0_leadsAtCorner_2 : decode cX0_leadsAtCorner 2 = .ok (.iload_n 2, 1) := by decide +kernel
theorem dX0_leadsAtCorner_3 : decode cX0_leadsAtCorner 3 = .ok (.invokevirtual 25, 3) := by decide +kernel
theorem dX0_leadsAtCorner_6 : decode cX0_leadsAtCorner 6 = .ok (.istore_n 3, 1) := by decide +kernel
theorem dX0_leadsAtCorner_7 : decode cX0_leadsAtCorner 7 = .ok (.aload_n 0, 1) := by decide +kernel
theorem dX0_leadsAtCorner_8 : decode cX0_leadsAtCorner 8 = .ok (.iload_n 1, 1) := by decide +kernel
theorem dX0_leadsAtCorner_9 : decode cX0_leadsAtCorner 9 = .ok (.iload_n 2, 1) := by decide +kernel
theorem dX0_leadsAtCorner_10 : decode cX0_leadsAtCorner 10 = .ok (.iconst 1, 1) := by decide +kernel
theorem dX0_leadsAtCorner_11 : decode cX0_leadsAtCorner 11 = .ok (.isub, 1) := by decide +kernel
theorem dX0_leadsAtCorner_12 : decode cX0_leadsAtCorner 12 = .ok (.invokevirtual 25, 3) := by decide +kernel
theorem dX0_leadsAtCorner_15 : decode cX0_leadsAtCorner 15 = .ok (.istore 4, 2) := by decide +kernel
theorem dX0_leadsAtCorner_17 : decode cX0_leadsAtCorner 17 = .ok (.aload_n 0, 1) := by decide +kernel
theorem dX0_leadsAtCorner_18 : decode cX0_leadsAtCorner 18 = .ok (.iload_n 1, 1) := by decide +kernel
theorem dX0_leadsAtCorner_19 : decode cX0_leadsAtCorner 19 = .ok (.iconst 1, 1) := by decide +kernel
theorem dX0_leadsAtCorner_20 : decode cX0_leadsAtCorner 20 = .ok (.isub, 1) := by decide +kernel
theorem dX0_leadsAtCorner_21 : decode cX0_leadsAtCorner 21 = .ok (.iload_n 2, 1) := by decide +kernel
theorem dX0_leadsAtCorner_22 : decode cX0_leadsAtCorner 22 = .ok (.invokevirtual 25, 3) := by decide +kernel
theorem dX0_leadsAtCorner_25 : decode cX0_leadsAtCorner 25 = .ok (.istore 5, 2) := by decide +kernel
theorem dX0_leadsAtCorner_27 : decode cX0_leadsAtCorner 27 = .ok (.aload_n 0, 1) := by decide +kernel
theorem dX0_leadsAtCorner_28 : decode cX0_leadsAtCorner 28 = .ok (.iload_n 1, 1) := by decide +kernel
theorem dX0_leadsAtCorner_29 : decode cX0_leadsAtCorner 29 = .ok (.iconst 1, 1) := by decide +kernel
theorem dX0_leadsAtCorner_30 : decode cX0_leadsAtCorner 30 = .ok (.isub, 1) := by decide +kernel
theorem dX0_leadsAtCorner_31 : decode cX0_leadsAtCorner 31 = .ok (.iload_n 2, 1) := by decide +kernel
theorem dX0_leadsAtCorner_32 : decode cX0_leadsAtCorner 32 = .ok (.iconst 1, 1) := by decide +kernel
theorem dX0_leadsAtCorner_33 : decode cX0_leadsAtCorner 33 = .ok (.isub, 1) := by decide +kernel
theorem dX0_leadsAtCorner_34 : decode cX0_leadsAtCorner 34 = .ok (.invokevirtual 25, 3) := by decide +kernel
theorem dX0_leadsAtCorner_37 : decode cX0_leadsAtCorner 37 = .ok (.istore 6, 2) := by decide +kernel
theorem dX0_leadsAtCorner_39 : decode cX0_leadsAtCorner 39 = .ok (.iload_n 3, 1) := by decide +kernel
theorem dX0_leadsAtCorner_40 : decode cX0_leadsAtCorner 40 = .ok (.iload 4, 2) := by decide +kernel
theorem dX0_leadsAtCorner_42 : decode cX0_leadsAtCorner 42 = .ok (.invokestatic 33, 3) := by decide +kernel
theorem dX0_leadsAtCorner_45 : decode cX0_leadsAtCorner 45 = .ok (.iload_n 3, 1) := by decide +kernel
theorem dX0_leadsAtCorner_46 : decode cX0_leadsAtCorner 46 = .ok (.iload 5, 2) := by decide +kernel
theorem dX0_leadsAtCorner_48 : decode cX0_leadsAtCorner 48 = .ok (.invokestatic 33, 3) := by decide +kernel
theorem dX0_leadsAtCorner_51 : decode cX0_leadsAtCorner 51 = .ok (.iadd, 1) := by decide +kernel
theorem dX0_leadsAtCorner_52 : decode cX0_leadsAtCorner 52 = .ok (.iload 6, 2) := by decide +kernel
theorem dX0_leadsAtCorner_54 : decode cX0_leadsAtCorner 54 = .ok (.iload 4, 2) := by decide +kernel
theorem dX0_leadsAtCorner_56 : decode cX0_leadsAtCorner 56 = .ok (.invokestatic 33, 3) := by decide +kernel
theorem dX0_leadsAtCorner_59 : decode cX0_leadsAtCorner 59 = .ok (.iadd, 1) := by decide +kernel
theorem dX0_leadsAtCorner_60 : decode cX0_leadsAtCorner 60 = .ok (.iload 6, 2) := by decide +kernel
theorem dX0_leadsAtCorner_62 : decode cX0_leadsAtCorner 62 = .ok (.iload 5, 2) := by decide +kernel
theorem dX0_leadsAtCorner_64 : decode cX0_leadsAtCorner 64 = .ok (.invokestatic 33, 3) := by decide +kernel
theorem dX0_leadsAtCorner_67 : decode cX0_leadsAtCorner 67 = .ok (.iadd, 1) := by decide +kernel
theorem dX0_leadsAtCorner_68 : decode cX0_leadsAtCorner 68 = .ok (.ireturn, 1) := by decide +kernel
theorem dX0_leadsBetween_0 : decode cX0_leadsBetween 0 = .ok (.iload_n 0, 1) := by decide +kernel
theorem dX0_leadsBetween_1 : decode cX0_leadsBetween 1 = .ok (.iload_n 1, 1) := by decide +kernel
theorem dX0_leadsBetween_2 : decode cX0_leadsBetween 2 = .ok (.if_icmp .ne 7, 3) := by decide +kernel
theorem dX0_leadsBetween_5 : decode cX0_leadsBetween 5 = .ok (.iconst 0, 1) := by decide +kernel
theorem dX0_leadsBetween_6 : decode cX0_leadsBetween 6 = .ok (.goto 4, 3) := by decide +kernel
theorem dX0_leadsBetween_9 : decode cX0_leadsBetween 9 = .ok (.iconst 1, 1) := by decide +kernel
theorem dX0_leadsBetween_10 : decode cX0_leadsBetween 10 = .ok (.ireturn, 1) := by decide +kernel
set_option maxRecDepth 20000 in
theorem ggX0_putInAt_X0_findSupports : GoodIn wsX0_putInAt wsX0_findSupports := goodIn_r _ [6, 7, 8, 9, 10, 11, 12, 13, 14, 5, 15, 16, 17, 18, 19, 20, 21, 22, 23, 32, 33] (by decide +kernel) (by decide +kernel)
set_option maxRecDepth 20000 in
theorem gX0_putInAt_X0_findSupports : GoodIn wsX0_putInAt (wsV RX0 39 RX0 yX0_findSupports wsX0_findSupports) := goodIn_app (goodIn_of _ (by decide +kernel)) ggX0_putInAt_X0_findSupports
set_option maxRecDepth 20000 in
theorem ggX0_putInAt_X0_present : GoodIn wsX0_putInAt wsX0_present := goodIn_r _ [27, 16, 32, 33] (by decide +kernel) (by decide +kernel)
set_option maxRecDepth 20000 in
theorem gX0_putInAt_X0_present : GoodIn wsX0_putInAt (wsV RX0 42 RX0 yX0_present wsX0_present) := goodIn_app (goodIn_of _ (by decide +kernel)) ggX0_putInAt_X0_present
set_option maxRecDepth 20000 in
theorem ggX0_putInAt_X0_lowestReady : GoodIn wsX0_putInAt wsX0_lowestReady := goodIn_r _ [31, 7, 1, 32, 33] (by decide +kernel) (by decide +kernel)
set_option maxRecDepth 20000 in
theorem gX0_putInAt_X0_lowestReady : GoodIn wsX0_putInAt (wsV RX0 48 RX0 yX0_lowestReady wsX0_lowestReady) := goodIn_app (goodIn_of _ (by decide +kernel)) ggX0_putInAt_X0_lowestReady
theorem dX0_putInAt_0 : decode cX0_putInAt 0 = .ok (.aload_n 0, 1) := by decide +kernel
theorem dX0_putInAt_1 : decode cX0_putInAt 1 = .ok (.invokevirtual 39, 3) := by decide +kernel
theorem dX0_putInAt_4 : decode cX0_putInAt 4 = .ok (.aload_n 0, 1) := by decide +kernel
theorem dX0_putInAt_5 : decode cX0_putInAt 5 = .ok (.invokevirtual 42, 3) := by decide +kernel
theorem dX0_putInAt_8 : decode cX0_putInAt 8 = .ok (.lstore_n 2, 1) := by decide +kernel
theorem dX0_putInAt_9 : decode cX0_putInAt 9 = .ok (.lconst 0, 1) := by decide +kernel
theorem dX0_putInAt_10 : decode cX0_putInAt 10 = .ok (.lstore 4, 2) := by decide +kernel
theorem dX0_putInAt_12 : decode cX0_putInAt 12 = .ok (.iconst (-1), 1) := by decide +kernel
theorem dX0_putInAt_13 : decode cX0_putInAt 13 = .ok (.istore 6, 2) := by decide +kernel
theorem dX0_putInAt_15 : decode cX0_putInAt 15 = .ok (.iconst 0, 1) := by decide +kernel
theorem dX0_putInAt_16 : decode cX0_putInAt 16 = .ok (.istore 7, 2) := by decide +kernel
theorem dX0_putInAt_18 : decode cX0_putInAt 18 = .ok (.iload 7, 2) := by decide +kernel
theorem dX0_putInAt_20 : decode cX0_putInAt 20 = .ok (.bipush 60, 2) := by decide +kernel
theorem dX0_putInAt_22 : decode cX0_putInAt 22 = .ok (.if_icmp .ge 59, 3) := by decide +kernel
theorem dX0_putInAt_25 : decode cX0_putInAt 25 = .ok (.lload 4, 2) := by decide +kernel
theorem dX0_putInAt_27 : decode cX0_putInAt 27 = .ok (.lload_n 2, 1) := by decide +kernel
theorem dX0_putInAt_28 : decode cX0_putInAt 28 = .ok (.lcmp, 1) := by decide +kernel
theorem dX0_putInAt_29 : decode cX0_putInAt 29 = .ok (.ifCond .eq 52, 3) := by decide +kernel
theorem dX0_putInAt_32 : decode cX0_putInAt 32 = .ok (.aload_n 0, 1) := by decide +kernel
theorem dX0_putInAt_33 : decode cX0_putInAt 33 = .ok (.lload_n 2, 1) := by decide +kernel
theorem dX0_putInAt_34 : decode cX0_putInAt 34 = .ok (.lload 4, 2) := by decide +kernel
theorem dX0_putInAt_36 : decode cX0_putInAt 36 = .ok (.ldc2_w 46, 3) := by decide +kernel
theorem dX0_putInAt_39 : decode cX0_putInAt 39 = .ok (.lxor, 1) := by decide +kernel
theorem dX0_putInAt_40 : decode cX0_putInAt 40 = .ok (.land, 1) := by decide +kernel
theorem dX0_putInAt_41 : decode cX0_putInAt 41 = .ok (.lload 4, 2) := by decide +kernel
theorem dX0_putInAt_43 : decode cX0_putInAt 43 = .ok (.invokevirtual 48, 3) := by decide +kernel
theorem dX0_putInAt_46 : decode cX0_putInAt 46 = .ok (.istore 8, 2) := by decide +kernel
theorem dX0_putInAt_48 : decode cX0_putInAt 48 = .ok (.iload 8, 2) := by decide +kernel
theorem dX0_putInAt_50 : decode cX0_putInAt 50 = .ok (.iconst (-1), 1) := by decide +kernel
theorem dX0_putInAt_51 : decode cX0_putInAt 51 = .ok (.if_icmp .ne 5, 3) := by decide +kernel
theorem dX0_putInAt_54 : decode cX0_putInAt 54 = .ok (.iconst (-1), 1) := by decide +kernel
theorem dX0_putInAt_55 : decode cX0_putInAt 55 = .ok (.ireturn, 1) := by decide +kernel
theorem dX0_putInAt_56 : decode cX0_putInAt 56 = .ok (.iload 7, 2) := by decide +kernel
theorem dX0_putInAt_58 : decode cX0_putInAt 58 = .ok (.iload_n 1, 1) := by decide +kernel
theorem dX0_putInAt_59 : decode cX0_putInAt 59 = .ok (.if_icmp .ne 7, 3) := by decide +kernel
theorem dX0_putInAt_62 : decode cX0_putInAt 62 = .ok (.iload 8, 2) := by decide +kernel
theorem dX0_putInAt_64 : decode cX0_putInAt 64 = .ok (.istore 6, 2) := by decide +kernel
theorem dX0_putInAt_66 : decode cX0_putInAt 66 = .ok (.lload 4, 2) := by decide +kernel
theorem dX0_putInAt_68 : decode cX0_putInAt 68 = .ok (.lconst 1, 1) := by decide +kernel
theorem dX0_putInAt_69 : decode cX0_putInAt 69 = .ok (.iload 8, 2) := by decide +kernel
theorem dX0_putInAt_71 : decode cX0_putInAt 71 = .ok (.lshl, 1) := by decide +kernel
theorem dX0_putInAt_72 : decode cX0_putInAt 72 = .ok (.lor, 1) := by decide +kernel
theorem dX0_putInAt_73 : decode cX0_putInAt 73 = .ok (.lstore 4, 2) := by decide +kernel
theorem dX0_putInAt_75 : decode cX0_putInAt 75 = .ok (.iinc 7 1, 3) := by decide +kernel
theorem dX0_putInAt_78 : decode cX0_putInAt 78 = .ok (.goto (-60), 3) := by decide +kernel
theorem dX0_putInAt_81 : decode cX0_putInAt 81 = .ok (.iload 6, 2) := by decide +kernel
theorem dX0_putInAt_83 : decode cX0_putInAt 83 = .ok (.ireturn, 1) := by decide +kernel
theorem dX0_lowestReady_0 : decode cX0_lowestReady 0 = .ok (.iconst 0, 1) := by decide +kernel
theorem dX0_lowestReady_1 : decode cX0_lowestReady 1 = .ok (.istore 5, 2) := by decide +kernel
theorem dX0_lowestReady_3 : decode cX0_lowestReady 3 = .ok (.iload 5, 2) := by decide +kernel
theorem dX0_lowestReady_5 : decode cX0_lowestReady 5 = .ok (.bipush 60, 2) := by decide +kernel
theorem dX0_lowestReady_7 : decode cX0_lowestReady 7 = .ok (.if_icmp .ge 41, 3) := by decide +kernel
theorem dX0_lowestReady_10 : decode cX0_lowestReady 10 = .ok (.lload_n 1, 1) := by decide +kernel
theorem dX0_lowestReady_11 : decode cX0_lowestReady 11 = .ok (.iload 5, 2) := by decide +kernel
theorem dX0_lowestReady_13 : decode cX0_lowestReady 13 = .ok (.lushr, 1) := by decide +kernel
theorem dX0_lowestReady_14 : decode cX0_lowestReady 14 = .ok (.lconst 1, 1) := by decide +kernel
theorem dX0_lowestReady_15 : decode cX0_lowestReady 15 = .ok (.land, 1) := by decide +kernel
theorem dX0_lowestReady_16 : decode cX0_lowestReady 16 = .ok (.lconst 0, 1) := by decide +kernel
theorem dX0_lowestReady_17 : decode cX0_lowestReady 17 = .ok (.lcmp, 1) := by decide +kernel
theorem dX0_lowestReady_18 : decode cX0_lowestReady 18 = .ok (.ifCond .eq 24, 3) := by decide +kernel
theorem dX0_lowestReady_21 : decode cX0_lowestReady 21 = .ok (.aload_n 0, 1) := by decide +kernel
theorem dX0_lowestReady_22 : decode cX0_lowestReady 22 = .ok (.getfield 15, 3) := by decide +kernel
theorem dX0_lowestReady_25 : decode cX0_lowestReady 25 = .ok (.iload 5, 2) := by decide +kernel
theorem dX0_lowestReady_27 : decode cX0_lowestReady 27 = .ok (.laload, 1) := by decide +kernel
theorem dX0_lowestReady_28 : decode cX0_lowestReady 28 = .ok (.lload_n 3, 1) := by decide +kernel
theorem dX0_lowestReady_29 : decode cX0_lowestReady 29 = .ok (.ldc2_w 46, 3) := by decide +kernel
theorem dX0_lowestReady_32 : decode cX0_lowestReady 32 = .ok (.lxor, 1) := by decide +kernel
theorem dX0_lowestReady_33 : decode cX0_lowestReady 33 = .ok (.land, 1) := by decide +kernel
theorem dX0_lowestReady_34 : decode cX0_lowestReady 34 = .ok (.lconst 0, 1) := by decide +kernel
theorem dX0_lowestReady_35 : decode cX0_lowestReady 35 = .ok (.lcmp, 1) := by decide +kernel
theorem dX0_lowestReady_36 : decode cX0_lowestReady 36 = .ok (.ifCond .ne 6, 3) := by decide +kernel
theorem dX0_lowestReady_39 : decode cX0_lowestReady 39 = .ok (.iload 5, 2) := by decide +kernel
theorem dX0_lowestReady_41 : decode cX0_lowestReady 41 = .ok (.ireturn, 1) := by decide +kernel
theorem dX0_lowestReady_42 : decode cX0_lowestReady 42 = .ok (.iinc 5 1, 3) := by decide +kernel
theorem dX0_lowestReady_45 : decode cX0_lowestReady 45 = .ok (.goto (-42), 3) := by decide +kernel
theorem dX0_lowestReady_48 : decode cX0_lowestReady 48 = .ok (.iconst (-1), 1) := by decide +kernel
theorem dX0_lowestReady_49 : decode cX0_lowestReady 49 = .ok (.ireturn, 1) := by decide +kernel
set_option maxRecDepth 20000 in
theorem ggX0_findSupports_J7_fill_d0a16 : GoodIn wsX0_findSupports wsJ7_fill_d0a16 := goodIn_r _ [5] (by decide +kernel) (by decide +kernel)
set_option maxRecDepth 20000 in
theorem gX0_findSupports_J7_fill_d0a16 : GoodIn wsX0_findSupports (va_wsS RX0 52 yJ7_fill_d0a16 wsJ7_fill_d0a16) := goodIn_app (goodIn_of _ (by decide +kernel)) ggX0_findSupports_J7_fill_d0a16
set_option maxRecDepth 20000 in
theorem ggX0_findSupports_X0_ownerAt : GoodIn wsX0_findSupports wsX0_ownerAt := goodIn_r _ [10, 11, 19, 20] (by decide +kernel) (by decide +kernel)
set_option maxRecDepth 20000 in
theorem gX0_findSupports_X0_ownerAt : GoodIn wsX0_findSupports (wsV RX0 25 RX0 yX0_ownerAt wsX0_ownerAt) := goodIn_app (goodIn_of _ (by decide +kernel)) ggX0_findSupports_X0_ownerAt
set_option maxRecDepth 20000 in
theorem ggX0_findSupports_X0_addSupport : GoodIn wsX0_findSupports wsX0_addSupport := goodIn_r _ [15, 1, 16, 17, 18, 19, 20] (by decide +kernel) (by decide +kernel)
set_option maxRecDepth 20000 in
theorem gX0_findSupports_X0_addSupport : GoodIn wsX0_findSupports (wsV RX0 58 RX0 yX0_addSupport wsX0_addSupport) := goodIn_app (goodIn_of _ (by decide +kernel)) ggX0_findSupports_X0_addSupport
theorem dX0_findSupports_0 : decode cX0_findSupports 0 = .ok (.aload_n 0, 1) := by decide +kernel
theorem dX0_findSupports_1 : decode cX0_findSupports 1 = .ok (.getfield 15, 3) := by decide +kernel
theorem dX0_findSupports_4 : decode cX0_findSupports 4 = .ok (.lconst 0, 1) := by decide +kernel
theorem dX0_findSupports_5 : decode cX0_findSupports 5 = .ok (.invokestatic 52, 3) := by decide +kernel
theorem dX0_findSupports_8 : decode cX0_findSupports 8 = .ok (.iconst 0, 1) := by decide +kernel
theorem dX0_findSupports_9 : decode cX0_findSupports 9 = .ok (.istore_n 1, 1) := by decide +kernel
theorem dX0_findSupports_10 : decode cX0_findSupports 10 = .ok (.iload_n 1, 1) := by decide +kernel
theorem dX0_findSupports_11 : decode cX0_findSupports 11 = .ok (.bipush 16, 2) := by decide +kernel
theorem dX0_findSupports_13 : decode cX0_findSupports 13 = .ok (.if_icmp .ge 56, 3) := by decide +kernel
theorem dX0_findSupports_16 : decode cX0_findSupports 16 = .ok (.iconst 0, 1) := by decide +kernel
theorem dX0_findSupports_17 : decode cX0_findSupports 17 = .ok (.istore_n 2, 1) := by decide +kernel
theorem dX0_findSupports_18 : decode cX0_findSupports 18 = .ok (.iload_n 2, 1) := by decide +kernel
theorem dX0_findSupports_19 : decode cX0_findSupports 19 = .ok (.bipush 16, 2) := by decide +kernel
theorem dX0_findSupports_21 : decode cX0_findSupports 21 = .ok (.if_icmp .ge 42, 3) := by decide +kernel
theorem dX0_findSupports_24 : decode cX0_findSupports 24 = .ok (.aload_n 0, 1) := by decide +kernel
theorem dX0_findSupports_25 : decode cX0_findSupports 25 = .ok (.iload_n 1, 1) := by decide +kernel
theorem dX0_findSupports_26 : decode cX0_findSupports 26 = .ok (.iload_n 2, 1) := by decide +kernel
theorem dX0_findSupports_27 : decode cX0_findSupports 27 = .ok (.invokevirtual 25, 3) := by decide +kernel
theorem dX0_findSupports_30 : decode cX0_findSupports 30 = .ok (.istore_n 3, 1) := by decide +kernel
theorem dX0_findSupports_31 : decode cX0_findSupports 31 = .ok (.aload_n 0, 1) := by decide +kernel
theorem dX0_findSupports_32 : decode cX0_findSupports 32 = .ok (.iload_n 3, 1) := by decide +kernel
theorem dX0_findSupports_33 : decode cX0_findSupports 33 = .ok (.aload_n 0, 1) := by decide +kernel
theorem dX0_findSupports_34 : decode cX0_findSupports 34 = .ok (.iload_n 1, 1) := by decide +kernel
theorem dX0_findSupports_35 : decode cX0_findSupports 35 = .ok (.iconst 1, 1) := by decide +kernel
theorem dX0_findSupports_36 : decode cX0_findSupports 36 = .ok (.iadd, 1) := by decide +kernel
theorem dX0_findSupports_37 : decode cX0_findSupports 37 = .ok (.iload_n 2, 1) := by decide +kernel
theorem dX0_findSupports_38 : decode cX0_findSupports 38 = .ok (.invokevirtual 25, 3) := by decide +kernel
theorem dX0_findSupports_41 : decode cX0_findSupports 41 = .ok (.invokevirtual 58, 3) := by decide +kernel
theorem dX0_findSupports_44 : decode cX0_findSupports 44 = .ok (.aload_n 0, 1) := by decide +kernel
theorem dX0_findSupports_45 : decode cX0_findSupports 45 = .ok (.iload_n 3, 1) := by decide +kernel
theorem dX0_findSupports_46 : decode cX0_findSupports 46 = .ok (.aload_n 0, 1) := by decide +kernel
theorem dX0_findSupports_47 : decode cX0_findSupports 47 = .ok (.iload_n 1, 1) := by decide +kernel
theorem dX0_findSupports_48 : decode cX0_findSupports 48 = .ok (.iload_n 2, 1) := by decide +kernel
theorem dX0_findSupports_49 : decode cX0_findSupports 49 = .ok (.iconst 1, 1) := by decide +kernel
theorem dX0_findSupports_50 : decode cX0_findSupports 50 = .ok (.isub, 1) := by decide +kernel
theorem dX0_findSupports_51 : decode cX0_findSupports 51 = .ok (.invokevirtual 25, 3) := by decide +kernel
theorem dX0_findSupports_54 : decode cX0_findSupports 54 = .ok (.invokevirtual 58, 3) := by decide +kernel
theorem dX0_findSupports_57 : decode cX0_findSupports 57 = .ok (.iinc 2 1, 3) := by decide +kernel
theorem dX0_findSupports_60 : decode cX0_findSupports 60 = .ok (.goto (-42), 3) := by decide +kernel
theorem dX0_findSupports_63 : decode cX0_findSupports 63 = .ok (.iinc 1 1, 3) := by decide +kernel
theorem dX0_findSupports_66 : decode cX0_findSupports 66 = .ok (.goto (-56), 3) := by decide +kernel
theorem dX0_findSupports_69 : decode cX0_findSupports 69 = .ok (.return_, 1) := by decide +kernel
set_option maxRecDepth 20000 in
theorem ggX0_addSupport_X4_isNumber : GoodIn wsX0_addSupport wsX4_isNumber := goodIn_r _ [4] (by decide +kernel) (by decide +kernel)
set_option maxRecDepth 20000 in
theorem gX0_addSupport_X4_isNumber_n62 : GoodIn wsX0_addSupport (wsX4_isNumber) := ggX0_addSupport_X4_isNumber
theorem dX0_addSupport_0 : decode cX0_addSupport 0 = .ok (.iload_n 1, 1) := by decide +kernel
theorem dX0_addSupport_1 : decode cX0_addSupport 1 = .ok (.iload_n 2, 1) := by decide +kernel
theorem dX0_addSupport_2 : decode cX0_addSupport 2 = .ok (.if_icmp .eq 29, 3) := by decide +kernel
theorem dX0_addSupport_5 : decode cX0_addSupport 5 = .ok (.iload_n 1, 1) := by decide +kernel
theorem dX0_addSupport_6 : decode cX0_addSupport 6 = .ok (.invokestatic 62, 3) := by decide +kernel
theorem dX0_addSupport_9 : decode cX0_addSupport 9 = .ok (.ifCond .eq 22, 3) := by decide +kernel
theorem dX0_addSupport_12 : decode cX0_addSupport 12 = .ok (.iload_n 2, 1) := by decide +kernel
theorem dX0_addSupport_13 : decode cX0_addSupport 13 = .ok (.invokestatic 62, 3) := by decide +kernel
theorem dX0_addSupport_16 : decode cX0_addSupport 16 = .ok (.ifCond .eq 15, 3) := by decide +kernel
theorem dX0_addSupport_19 : decode cX0_addSupport 19 = .ok (.aload_n 0, 1) := by decide +kernel
theorem dX0_addSupport_20 : decode cX0_addSupport 20 = .ok (.getfield 15, 3) := by decide +kernel
theorem dX0_addSupport_23 : decode cX0_addSupport 23 = .ok (.iload_n 1, 1) := by decide +kernel
theorem dX0_addSupport_24 : decode cX0_addSupport 24 = .ok (.dup2, 1) := by decide +kernel
theorem dX0_addSupport_25 : decode cX0_addSupport 25 = .ok (.laload, 1) := by decide +kernel
theorem dX0_addSupport_26 : decode cX0_addSupport 26 = .ok (.lconst 1, 1) := by decide +kernel
theorem dX0_addSupport_27 : decode cX0_addSupport 27 = .ok (.iload_n 2, 1) := by decide +kernel
theorem dX0_addSupport_28 : decode cX0_addSupport 28 = .ok (.lshl, 1) := by decide +kernel
theorem dX0_addSupport_29 : decode cX0_addSupport 29 = .ok (.lor, 1) := by decide +kernel
theorem dX0_addSupport_30 : decode cX0_addSupport 30 = .ok (.lastore, 1) := by decide +kernel
theorem dX0_addSupport_31 : decode cX0_addSupport 31 = .ok (.return_, 1) := by decide +kernel
set_option maxRecDepth 20000 in
theorem ggX0_crossedBehind_X0_ownerAt : GoodIn wsX0_crossedBehind wsX0_ownerAt := goodIn_r _ [5, 6, 14, 15] (by decide +kernel) (by decide +kernel)
set_option maxRecDepth 20000 in
theorem gX0_crossedBehind_X0_ownerAt : GoodIn wsX0_crossedBehind (wsV RX0 25 RX0 yX0_ownerAt wsX0_ownerAt) := goodIn_app (goodIn_of _ (by decide +kernel)) ggX0_crossedBehind_X0_ownerAt
set_option maxRecDepth 20000 in
theorem ggX0_crossedBehind_J13_bitCount_95d88 : GoodIn wsX0_crossedBehind wsJ13_bitCount_95d88 := goodIn_r _ [10, 11, 12, 13] (by decide +kernel) (by decide +kernel)
set_option maxRecDepth 20000 in
theorem gX0_crossedBehind_J13_bitCount_95d88 : GoodIn wsX0_crossedBehind (va_wsS RX0 65 yJ13_bitCount_95d88 wsJ13_bitCount_95d88) := goodIn_app (goodIn_of _ (by decide +kernel)) ggX0_crossedBehind_J13_bitCount_95d88
theorem dX0_crossedBehind_0 : decode cX0_crossedBehind 0 = .ok (.lconst 0, 1) := by decide +kernel
theorem dX0_crossedBehind_1 : decode cX0_crossedBehind 1 = .ok (.lstore_n 2, 1) := by decide +kernel
theorem dX0_crossedBehind_2 : decode cX0_crossedBehind 2 = .ok (.iconst 0, 1) := by decide +kernel
theorem dX0_crossedBehind_3 : decode cX0_crossedBehind 3 = .ok (.istore 4, 2) := by decide +kernel
theorem dX0_crossedBehind_5 : decode cX0_crossedBehind 5 = .ok (.iload 4, 2) := by decide +kernel
theorem dX0_crossedBehind_7 : decode cX0_crossedBehind 7 = .ok (.bipush 16, 2) := by decide +kernel
theorem dX0_crossedBehind_9 : decode cX0_crossedBehind 9 = .ok (.if_icmp .ge 45, 3) := by decide +kernel
theorem dX0_crossedBehind_12 : decode cX0_crossedBehind 12 = .ok (.aload_n 0, 1) := by decide +kernel
theorem dX0_crossedBehind_13 : decode cX0_crossedBehind 13 = .ok (.iload_n 1, 1) := by decide +kernel
theorem dX0_crossedBehind_14 : decode cX0_crossedBehind 14 = .ok (.iload 4, 2) := by decide +kernel
theorem dX0_crossedBehind_16 : decode cX0_crossedBehind 16 = .ok (.invokevirtual 25, 3) := by decide +kernel
theorem dX0_crossedBehind_19 : decode cX0_crossedBehind 19 = .ok (.istore 5, 2) := by decide +kernel
theorem dX0_crossedBehind_21 : decode cX0_crossedBehind 21 = .ok (.iload 5, 2) := by decide +kernel
theorem dX0_crossedBehind_23 : decode cX0_crossedBehind 23 = .ok (.iconst (-1), 1) := by decide +kernel
theorem dX0_crossedBehind_24 : decode cX0_crossedBehind 24 = .ok (.if_icmp .eq 24, 3) := by decide +kernel
theorem dX0_crossedBehind_27 : decode cX0_crossedBehind 27 = .ok (.iload 5, 2) := by decide +kernel
theorem dX0_crossedBehind_29 : decode cX0_crossedBehind 29 = .ok (.aload_n 0, 1) := by decide +kernel
theorem dX0_crossedBehind_30 : decode cX0_crossedBehind 30 = .ok (.iload_n 1, 1) := by decide +kernel
theorem dX0_crossedBehind_31 : decode cX0_crossedBehind 31 = .ok (.iconst 1, 1) := by decide +kernel
theorem dX0_crossedBehind_32 : decode cX0_crossedBehind 32 = .ok (.iadd, 1) := by decide +kernel
theorem dX0_crossedBehind_33 : decode cX0_crossedBehind 33 = .ok (.iload 4, 2) := by decide +kernel
theorem dX0_crossedBehind_35 : decode cX0_crossedBehind 35 = .ok (.invokevirtual 25, 3) := by decide +kernel
theorem dX0_crossedBehind_38 : decode cX0_crossedBehind 38 = .ok (.if_icmp .ne 10, 3) := by decide +kernel
theorem dX0_crossedBehind_41 : decode cX0_crossedBehind 41 = .ok (.lload_n 2, 1) := by decide +kernel
theorem dX0_crossedBehind_42 : decode cX0_crossedBehind 42 = .ok (.lconst 1, 1) := by decide +kernel
theorem dX0_crossedBehind_43 : decode cX0_crossedBehind 43 = .ok (.iload 5, 2) := by decide +kernel
theorem dX0_crossedBehind_45 : decode cX0_crossedBehind 45 = .ok (.lshl, 1) := by decide +kernel
theorem dX0_crossedBehind_46 : decode cX0_crossedBehind 46 = .ok (.lor, 1) := by decide +kernel
theorem dX0_crossedBehind_47 : decode cX0_crossedBehind 47 = .ok (.lstore_n 2, 1) := by decide +kernel
theorem dX0_crossedBehind_48 : decode cX0_crossedBehind 48 = .ok (.iinc 4 1, 3) := by decide +kernel
theorem dX0_crossedBehind_51 : decode cX0_crossedBehind 51 = .ok (.goto (-46), 3) := by decide +kernel
theorem dX0_crossedBehind_54 : decode cX0_crossedBehind 54 = .ok (.lload_n 2, 1) := by decide +kernel
theorem dX0_crossedBehind_55 : decode cX0_crossedBehind 55 = .ok (.invokestatic 65, 3) := by decide +kernel
theorem dX0_crossedBehind_58 : decode cX0_crossedBehind 58 = .ok (.ireturn, 1) := by decide +kernel
theorem dX1_init_0 : decode cX1_init 0 = .ok (.aload_n 0, 1) := by decide +kernel
theorem dX1_init_1 : decode cX1_init 1 = .ok (.invokespecial 3, 3) := by decide +kernel
theorem dX1_init_4 : decode cX1_init 4 = .ok (.aload_n 0, 1) := by decide +kernel
theorem dX1_init_5 : decode cX1_init 5 = .ok (.bipush 60, 2) := by decide +kernel
theorem dX1_init_7 : decode cX1_init 7 = .ok (.newarray .int, 2) := by decide +kernel
theorem dX1_init_9 : decode cX1_init 9 = .ok (.putfield 9, 3) := by decide +kernel
theorem dX1_init_12 : decode cX1_init 12 = .ok (.aload_n 0, 1) := by decide +kernel
theorem dX1_init_13 : decode cX1_init 13 = .ok (.bipush 60, 2) := by decide +kernel
theorem dX1_init_15 : decode cX1_init 15 = .ok (.newarray .int, 2) := by decide +kernel
theorem dX1_init_17 : decode cX1_init 17 = .ok (.putfield 15, 3) := by decide +kernel
theorem dX1_init_20 : decode cX1_init 20 = .ok (.aload_n 0, 1) := by decide +kernel
theorem dX1_init_21 : decode cX1_init 21 = .ok (.bipush 60, 2) := by decide +kernel
theorem dX1_init_23 : decode cX1_init 23 = .ok (.newarray .int, 2) := by decide +kernel
theorem dX1_init_25 : decode cX1_init 25 = .ok (.putfield 18, 3) := by decide +kernel
theorem dX1_init_28 : decode cX1_init 28 = .ok (.aload_n 0, 1) := by decide +kernel
theorem dX1_init_29 : decode cX1_init 29 = .ok (.bipush 60, 2) := by decide +kernel
theorem dX1_init_31 : decode cX1_init 31 = .ok (.newarray .int, 2) := by decide +kernel
theorem dX1_init_33 : decode cX1_init 33 = .ok (.putfield 21, 3) := by decide +kernel
theorem dX1_init_36 : decode cX1_init 36 = .ok (.return_, 1) := by decide +kernel
set_option maxRecDepth 20000 in
theorem ggX1_begin_J7_fill_53178 : GoodIn wsX1_begin wsJ7_fill_53178 := goodIn_r _ [7] (by decide +kernel) (by decide +kernel)
set_option maxRecDepth 20000 in
theorem gX1_begin_J7_fill_53178 : GoodIn wsX1_begin (va_wsS RX1 24 yJ7_fill_53178 wsJ7_fill_53178) := goodIn_app (goodIn_of _ (by decide +kernel)) ggX1_begin_J7_fill_53178
theorem dX1_begin_0 : decode cX1_begin 0 = .ok (.aload_n 0, 1) := by decide +kernel
theorem dX1_begin_1 : decode cX1_begin 1 = .ok (.getfield 21, 3) := by decide +kernel
theorem dX1_begin_4 : decode cX1_begin 4 = .ok (.iconst (-1), 1) := by decide +kernel
theorem dX1_begin_5 : decode cX1_begin 5 = .ok (.invokestatic 24, 3) := by decide +kernel
theorem dX1_begin_8 : decode cX1_begin 8 = .ok (.aload_n 0, 1) := by decide +kernel
theorem dX1_begin_9 : decode cX1_begin 9 = .ok (.iconst 0, 1) := by decide +kernel
theorem dX1_begin_10 : decode cX1_begin 10 = .ok (.putfield 30, 3) := by decide +kernel
theorem dX1_begin_13 : decode cX1_begin 13 = .ok (.aload_n 0, 1) := by decide +kernel
theorem dX1_begin_14 : decode cX1_begin 14 = .ok (.iconst 0, 1) := by decide +kernel
theorem dX1_begin_15 : decode cX1_begin 15 = .ok (.putfield 34, 3) := by decide +kernel
theorem dX1_begin_18 : decode cX1_begin 18 = .ok (.return_, 1) := by decide +kernel
set_option maxRecDepth 20000 in
theorem ggX1_enqueue_X4_isNumber : GoodIn wsX1_enqueue wsX4_isNumber := goodIn_r _ [7] (by decide +kernel) (by decide +kernel)
set_option maxRecDepth 20000 in
theorem gX1_enqueue_X4_isNumber_n37 : GoodIn wsX1_enqueue (wsX4_isNumber) := ggX1_enqueue_X4_isNumber
set_option maxRecDepth 20000 in
theorem ggX1_enqueue_X1_isLarger : GoodIn wsX1_enqueue wsX1_isLarger := goodIn_r _ [12, 2, 3, 5, 6, 7, 13, 14, 15, 16, 17, 18, 19, 20, 21] (by decide +kernel) (by decide +kernel)
set_option maxRecDepth 20000 in
theorem gX1_enqueue_X1_isLarger : GoodIn wsX1_enqueue (wsV RX1 41 RX1 yX1_isLarger wsX1_isLarger) := goodIn_app (goodIn_of _ (by decide +kernel)) ggX1_enqueue_X1_isLarger
theorem dX1_enqueue_0 : decode cX1_enqueue 0 = .ok (.iload_n 1, 1) := by decide +kernel
theorem dX1_enqueue_1 : decode cX1_enqueue 1 = .ok (.invokestatic 37, 3) := by decide +kernel
theorem dX1_enqueue_4 : decode cX1_enqueue 4 = .ok (.ifCond .eq 19, 3) := by decide +kernel
theorem dX1_enqueue_7 : decode cX1_enqueue 7 = .ok (.aload_n 0, 1) := by decide +kernel
theorem dX1_enqueue_8 : decode cX1_enqueue 8 = .ok (.getfield 30, 3) := by decide +kernel
theorem dX1_enqueue_11 : decode cX1_enqueue 11 = .ok (.ifCond .lt 12, 3) := by decide +kernel
theorem dX1_enqueue_14 : decode cX1_enqueue 14 = .ok (.aload_n 0, 1) := by decide +kernel
theorem dX1_enqueue_15 : decode cX1_enqueue 15 = .ok (.getfield 30, 3) := by decide +kernel
theorem dX1_enqueue_18 : decode cX1_enqueue 18 = .ok (.bipush 60, 2) := by decide +kernel
theorem dX1_enqueue_20 : decode cX1_enqueue 20 = .ok (.if_icmp .lt 4, 3) := by decide +kernel
theorem dX1_enqueue_23 : decode cX1_enqueue 23 = .ok (.return_, 1) := by decide +kernel
theorem dX1_enqueue_24 : decode cX1_enqueue 24 = .ok (.aload_n 0, 1) := by decide +kernel
theorem dX1_enqueue_25 : decode cX1_enqueue 25 = .ok (.getfield 15, 3) := by decide +kernel
theorem dX1_enqueue_28 : decode cX1_enqueue 28 = .ok (.iload_n 1, 1) := by decide +kernel
theorem dX1_enqueue_29 : decode cX1_enqueue 29 = .ok (.iload_n 2, 1) := by decide +kernel
theorem dX1_enqueue_30 : decode cX1_enqueue 30 = .ok (.iastore, 1) := by decide +kernel
theorem dX1_enqueue_31 : decode cX1_enqueue 31 = .ok (.aload_n 0, 1) := by decide +kernel
theorem dX1_enqueue_32 : decode cX1_enqueue 32 = .ok (.getfield 18, 3) := by decide +kernel
theorem dX1_enqueue_35 : decode cX1_enqueue 35 = .ok (.iload_n 1, 1) := by decide +kernel
theorem dX1_enqueue_36 : decode cX1_enqueue 36 = .ok (.iload_n 3, 1) := by decide +kernel
theorem dX1_enqueue_37 : decode cX1_enqueue 37 = .ok (.iastore, 1) := by decide +kernel
theorem dX1_enqueue_38 : decode cX1_enqueue 38 = .ok (.aload_n 0, 1) := by decide +kernel
theorem dX1_enqueue_39 : decode cX1_enqueue 39 = .ok (.getfield 30, 3) := by decide +kernel
theorem dX1_enqueue_42 : decode cX1_enqueue 42 = .ok (.istore 4, 2) := by decide +kernel
theorem dX1_enqueue_44 : decode cX1_enqueue 44 = .ok (.iload 4, 2) := by decide +kernel
theorem dX1_enqueue_46 : decode cX1_enqueue 46 = .ok (.ifCond .le 42, 3) := by decide +kernel
theorem dX1_enqueue_49 : decode cX1_enqueue 49 = .ok (.aload_n 0, 1) := by decide +kernel
theorem dX1_enqueue_50 : decode cX1_enqueue 50 = .ok (.iload_n 1, 1) := by decide +kernel
theorem dX1_enqueue_51 : decode cX1_enqueue 51 = .ok (.aload_n 0, 1) := by decide +kernel
theorem dX1_enqueue_52 : decode cX1_enqueue 52 = .ok (.getfield 9, 3) := by decide +kernel
theorem dX1_enqueue_55 : decode cX1_enqueue 55 = .ok (.iload 4, 2) := by decide +kernel
theorem dX1_enqueue_57 : decode cX1_enqueue 57 = .ok (.iconst 1, 1) := by decide +kernel
theorem dX1_enqueue_58 : decode cX1_enqueue 58 = .ok (.isub, 1) := by decide +kernel
theorem dX1_enqueue_59 : decode cX1_enqueue 59 = .ok (.iaload, 1) := by decide +kernel
theorem dX1_enqueue_60 : decode cX1_enqueue 60 = .ok (.invokevirtual 41, 3) := by decide +kernel
theorem dX1_enqueue_63 : decode cX1_enqueue 63 = .ok (.ifCond .eq 25, 3) := by decide +kernel
theorem dX1_enqueue_66 : decode cX1_enqueue 66 = .ok (.aload_n 0, 1) := by decide +kernel
theorem dX1_enqueue_67 : decode cX1_enqueue 67 = .ok (.getfield 9, 3) := by decide +kernel
theorem dX1_enqueue_70 : decode cX1_enqueue 70 = .ok (.iload 4, 2) := by decide +kernel
theorem dX1_enqueue_72 : decode cX1_enqueue 72 = .ok (.aload_n 0, 1) := by decide +kernel
theorem dX1_enqueue_73 : decode cX1_enqueue 73 = .ok (.getfield 9, 3) := by decide +kernel
theorem dX1_enqueue_76 : decode cX1_enqueue 76 = .ok (.iload 4, 2) := by decide +kernel
theorem dX1_enqueue_78 : decode cX1_enqueue 78 = .ok (.iconst 1, 1) := by decide +kernel
theorem dX1_enqueue_79 : decode cX1_enqueue 79 = .ok (.isub, 1) := by decide +kernel
theorem dX1_enqueue_80 : decode cX1_enqueue 80 = .ok (.iaload, 1) := by decide +kernel
theorem dX1_enqueue_81 : decode cX1_enqueue 81 = .ok (.iastore, 1) := by decide +kernel
theorem dX1_enqueue_82 : decode cX1_enqueue 82 = .ok (.iinc 4 (-1), 3) := by decide +kernel
theorem dX1_enqueue_85 : decode cX1_enqueue 85 = .ok (.goto (-41), 3) := by decide +kernel
theorem dX1_enqueue_88 : decode cX1_enqueue 88 = .ok (.aload_n 0, 1) := by decide +kernel
theorem dX1_enqueue_89 : decode cX1_enqueue 89 = .ok (.getfield 9, 3) := by decide +kernel
theorem dX1_enqueue_92 : decode cX1_enqueue 92 = .ok (.iload 4, 2) := by decide +kernel
theorem dX1_enqueue_94 : decode cX1_enqueue 94 = .ok (.iload_n 1, 1) := by decide +kernel
theorem dX1_enqueue_95 : decode cX1_enqueue 95 = .ok (.iastore, 1) := by decide +kernel
theorem dX1_enqueue_96 : decode cX1_enqueue 96 = .ok (.aload_n 0, 1) := by decide +kernel
theorem dX1_enqueue_97 : decode cX1_enqueue 97 = .ok (.dup, 1) := by decide +kernel
theorem dX1_enqueue_98 : decode cX1_enqueue 98 = .ok (.getfield 30, 3) := by decide +kernel
theorem dX1_enqueue_101 : decode cX1_enqueue 101 = .ok (.iconst 1, 1) := by decide +kernel
theorem dX1_enqueue_102 : decode cX1_enqueue 102 = .ok (.iadd, 1) := by decide +kernel
theorem dX1_enqueue_103 : decode cX1_enqueue 103 = .ok (.putfield 30, 3) := by decide +kernel
theorem dX1_enqueue_106 : decode cX1_enqueue 106 = .ok (.return_, 1) := by decide +kernel
set_option maxRecDepth 20000 in
theorem ggX1_isLarger_X4_isNumber : GoodIn wsX1_isLarger wsX4_isNumber := goodIn_r _ [5] (by decide +kernel) (by decide +kernel)
set_option maxRecDepth 20000 in
theorem gX1_isLarger_X4_isNumber_n37 : GoodIn wsX1_isLarger (wsX4_isNumber) := ggX1_isLarger_X4_isNumber
theorem dX1_isLarger_0 : decode cX1_isLarger 0 = .ok (.iload_n 1, 1) := by decide +kernel
theorem dX1_isLarger_1 : decode cX1_isLarger 1 = .ok (.invokestatic 37, 3) := by decide +kernel
theorem dX1_isLarger_4 : decode cX1_isLarger 4 = .ok (.ifCond .eq 10, 3) := by decide +kernel
theorem dX1_isLarger_7 : decode cX1_isLarger 7 = .ok (.iload_n 2, 1) := by decide +kernel
theorem dX1_isLarger_8 : decode cX1_isLarger 8 = .ok (.invokestatic 37, 3) := by decide +kernel
theorem dX1_isLarger_11 : decode cX1_isLarger 11 = .ok (.ifCond .ne 5, 3) := by decide +kernel
theorem dX1_isLarger_14 : decode cX1_isLarger 14 = .ok (.iconst 0, 1) := by decide +kernel
theorem dX1_isLarger_15 : decode cX1_isLarger 15 = .ok (.ireturn, 1) := by decide +kernel
theorem dX1_isLarger_16 : decode cX1_isLarger 16 = .ok (.aload_n 0, 1) := by decide +kernel
theorem dX1_isLarger_17 : decode cX1_isLarger 17 = .ok (.getfield 15, 3) := by decide +kernel
theorem dX1_isLarger_20 : decode cX1_isLarger 20 = .ok (.iload_n 1, 1) := by decide +kernel
theorem dX1_isLarger_21 : decode cX1_isLarger 21 = .ok (.iaload, 1) := by decide +kernel
theorem dX1_isLarger_22 : decode cX1_isLarger 22 = .ok (.aload_n 0, 1) := by decide +kernel
theorem dX1_isLarger_23 : decode cX1_isLarger 23 = .ok (.getfield 15, 3) := by decide +kernel
theorem dX1_isLarger_26 : decode cX1_isLarger 26 = .ok (.iload_n 2, 1) := by decide +kernel
theorem dX1_isLarger_27 : decode cX1_isLarger 27 = .ok (.iaload, 1) := by decide +kernel
theorem dX1_isLarger_28 : decode cX1_isLarger 28 = .ok (.if_icmp .eq 24, 3) := by decide +kernel
theorem dX1_isLarger_31 : decode cX1_isLarger 31 = .ok (.aload_n 0, 1) := by decide +kernel
theorem dX1_isLarger_32 : decode cX1_isLarger 32 = .ok (.getfield 15, 3) := by decide +kernel
theorem dX1_isLarger_35 : decode cX1_isLarger 35 = .ok (.iload_n 1, 1) := by decide +kernel
theorem dX1_isLarger_36 : decode cX1_isLarger 36 = .ok (.iaload, 1) := by decide +kernel
theorem dX1_isLarger_37 : decode cX1_isLarger 37 = .ok (.aload_n 0, 1) := by decide +kernel
theorem dX1_isLarger_38 : decode cX1_isLarger 38 = .ok (.getfield 15, 3) := by decide +kernel
theorem dX1_isLarger_41 : decode cX1_isLarger 41 = .ok (.iload_n 2, 1) := by decide +kernel
theorem dX1_isLarger_42 : decode cX1_isLarger 42 = .ok (.iaload, 1) := by decide +kernel
theorem dX1_isLarger_43 : decode cX1_isLarger 43 = .ok (.if_icmp .le 7, 3) := by decide +kernel
theorem dX1_isLarger_46 : decode cX1_isLarger 46 = .ok (.iconst 1, 1) := by decide +kernel
theorem dX1_isLarger_47 : decode cX1_isLarger 47 = .ok (.goto 4, 3) := by decide +kernel
theorem dX1_isLarger_50 : decode cX1_isLarger 50 = .ok (.iconst 0, 1) := by decide +kernel
theorem dX1_isLarger_51 : decode cX1_isLarger 51 = .ok (.ireturn, 1) := by decide +kernel
theorem dX1_isLarger_52 : decode cX1_isLarger 52 = .ok (.aload_n 0, 1) := by decide +kernel
theorem dX1_isLarger_53 : decode cX1_isLarger 53 = .ok (.getfield 18, 3) := by decide +kernel
theorem dX1_isLarger_56 : decode cX1_isLarger 56 = .ok (.iload_n 1, 1) := by decide +kernel
theorem dX1_isLarger_57 : decode cX1_isLarger 57 = .ok (.iaload, 1) := by decide +kernel
theorem dX1_isLarger_58 : decode cX1_isLarger 58 = .ok (.aload_n 0, 1) := by decide +kernel
theorem dX1_isLarger_59 : decode cX1_isLarger 59 = .ok (.getfield 18, 3) := by decide +kernel
theorem dX1_isLarger_62 : decode cX1_isLarger 62 = .ok (.iload_n 2, 1) := by decide +kernel
theorem dX1_isLarger_63 : decode cX1_isLarger 63 = .ok (.iaload, 1) := by decide +kernel
theorem dX1_isLarger_64 : decode cX1_isLarger 64 = .ok (.if_icmp .le 7, 3) := by decide +kernel
theorem dX1_isLarger_67 : decode cX1_isLarger 67 = .ok (.iconst 1, 1) := by decide +kernel
theorem dX1_isLarger_68 : decode cX1_isLarger 68 = .ok (.goto 4, 3) := by decide +kernel
theorem dX1_isLarger_71 : decode cX1_isLarger 71 = .ok (.iconst 0, 1) := by decide +kernel
theorem dX1_isLarger_72 : decode cX1_isLarger 72 = .ok (.ireturn, 1) := by decide +kernel
set_option maxRecDepth 20000 in
theorem ggX1_layAll_X1_layOne : GoodIn wsX1_layAll wsX1_layOne := goodIn_r _ [7, 8, 9, 10, 11, 12, 13, 14, 15, 16, 17, 18, 19, 6, 20, 21, 22, 23, 24, 25, 26, 27, 28, 29, 30] (by decide +kernel) (by decide +kernel)
set_option maxRecDepth 20000 in
theorem gX1_layAll_X1_layOne : GoodIn wsX1_layAll (wsV RX1 45 RX1 yX1_layOne wsX1_layOne) := goodIn_app (goodIn_of _ (by decide +kernel)) ggX1_layAll_X1_layOne
theorem dX1_layAll_0 : decode cX1_layAll 0 = .ok (.iconst 0, 1) := by decide +kernel
theorem dX1_layAll_1 : decode cX1_layAll 1 = .ok (.istore_n 2, 1) := by decide +kernel
theorem dX1_layAll_2 : decode cX1_layAll 2 = .ok (.iload_n 2, 1) := by decide +kernel
theorem dX1_layAll_3 : decode cX1_layAll 3 = .ok (.aload_n 0, 1) := by decide +kernel
theorem dX1_layAll_4 : decode cX1_layAll 4 = .ok (.getfield 30, 3) := by decide +kernel
theorem dX1_layAll_7 : decode cX1_layAll 7 = .ok (.if_icmp .ge 26, 3) := by decide +kernel
theorem dX1_layAll_10 : decode cX1_layAll 10 = .ok (.iload_n 2, 1) := by decide +kernel
theorem dX1_layAll_11 : decode cX1_layAll 11 = .ok (.bipush 60, 2) := by decide +kernel
theorem dX1_layAll_13 : decode cX1_layAll 13 = .ok (.if_icmp .ge 20, 3) := by decide +kernel
theorem dX1_layAll_16 : decode cX1_layAll 16 = .ok (.aload_n 0, 1) := by decide +kernel
theorem dX1_layAll_17 : decode cX1_layAll 17 = .ok (.aload_n 0, 1) := by decide +kernel
theorem dX1_layAll_18 : decode cX1_layAll 18 = .ok (.getfield 9, 3) := by decide +kernel
theorem dX1_layAll_21 : decode cX1_layAll 21 = .ok (.iload_n 2, 1) := by decide +kernel
theorem dX1_layAll_22 : decode cX1_layAll 22 = .ok (.iaload, 1) := by decide +kernel
theorem dX1_layAll_23 : decode cX1_layAll 23 = .ok (.iload_n 1, 1) := by decide +kernel
theorem dX1_layAll_24 : decode cX1_layAll 24 = .ok (.invokevirtual 45, 3) := by decide +kernel
theorem dX1_layAll_27 : decode cX1_layAll 27 = .ok (.iinc 2 1, 3) := by decide +kernel
theorem dX1_layAll_30 : decode cX1_layAll 30 = .ok (.goto (-28), 3) := by decide +kernel
theorem dX1_layAll_33 : decode cX1_layAll 33 = .ok (.return_, 1) := by decide +kernel
set_option maxRecDepth 20000 in
theorem ggX1_layOne_X4_isNumber : GoodIn wsX1_layOne wsX4_isNumber := goodIn_r _ [9] (by decide +kernel) (by decide +kernel)
set_option maxRecDepth 20000 in
theorem gX1_layOne_X4_isNumber_n37 : GoodIn wsX1_layOne (wsX4_isNumber) := ggX1_layOne_X4_isNumber
set_option maxRecDepth 20000 in
theorem ggX1_layOne_X1_openShelf : GoodIn wsX1_layOne wsX1_openShelf := goodIn_r _ [14, 6, 15, 2, 3, 16, 17, 18, 19, 20, 21, 22, 23, 24] (by decide +kernel) (by decide +kernel)
set_option maxRecDepth 20000 in
theorem gX1_layOne_X1_openShelf : GoodIn wsX1_layOne (wsV RX1 52 RX1 yX1_openShelf wsX1_openShelf) := goodIn_app (goodIn_of _ (by decide +kernel)) ggX1_layOne_X1_openShelf
theorem dX1_layOne_0 : decode cX1_layOne 0 = .ok (.iload_n 1, 1) := by decide +kernel
theorem dX1_layOne_1 : decode cX1_layOne 1 = .ok (.invokestatic 37, 3) := by decide +kernel
theorem dX1_layOne_4 : decode cX1_layOne 4 = .ok (.ifCond .eq 13, 3) := by decide +kernel
theorem dX1_layOne_7 : decode cX1_layOne 7 = .ok (.aload_n 0, 1) := by decide +kernel
theorem dX1_layOne_8 : decode cX1_layOne 8 = .ok (.getfield 18, 3) := by decide +kernel
theorem dX1_layOne_11 : decode cX1_layOne 11 = .ok (.iload_n 1, 1) := by decide +kernel
theorem dX1_layOne_12 : decode cX1_layOne 12 = .ok (.iaload, 1) := by decide +kernel
theorem dX1_layOne_13 : decode cX1_layOne 13 = .ok (.iload_n 2, 1) := by decide +kernel
theorem dX1_layOne_14 : decode cX1_layOne 14 = .ok (.if_icmp .le 4, 3) := by decide +kernel
theorem dX1_layOne_17 : decode cX1_layOne 17 = .ok (.return_, 1) := by decide +kernel
theorem dX1_layOne_18 : decode cX1_layOne 18 = .ok (.aload_n 0, 1) := by decide +kernel
theorem dX1_layOne_19 : decode cX1_layOne 19 = .ok (.getfield 34, 3) := by decide +kernel
theorem dX1_layOne_22 : decode cX1_layOne 22 = .ok (.ifCond .eq 18, 3) := by decide +kernel
theorem dX1_layOne_25 : decode cX1_layOne 25 = .ok (.aload_n 0, 1) := by decide +kernel
theorem dX1_layOne_26 : decode cX1_layOne 26 = .ok (.getfield 49, 3) := by decide +kernel
theorem dX1_layOne_29 : decode cX1_layOne 29 = .ok (.aload_n 0, 1) := by decide +kernel
theorem dX1_layOne_30 : decode cX1_layOne 30 = .ok (.getfield 18, 3) := by decide +kernel
theorem dX1_layOne_33 : decode cX1_layOne 33 = .ok (.iload_n 1, 1) := by decide +kernel
theorem dX1_layOne_34 : decode cX1_layOne 34 = .ok (.iaload, 1) := by decide +kernel
theorem dX1_layOne_35 : decode cX1_layOne 35 = .ok (.iadd, 1) := by decide +kernel
theorem dX1_layOne_36 : decode cX1_layOne 36 = .ok (.iload_n 2, 1) := by decide +kernel
theorem dX1_layOne_37 : decode cX1_layOne 37 = .ok (.if_icmp .le 13, 3) := by decide +kernel
theorem dX1_layOne_40 : decode cX1_layOne 40 = .ok (.aload_n 0, 1) := by decide +kernel
theorem dX1_layOne_41 : decode cX1_layOne 41 = .ok (.aload_n 0, 1) := by decide +kernel
theorem dX1_layOne_42 : decode cX1_layOne 42 = .ok (.getfield 15, 3) := by decide +kernel
theorem dX1_layOne_45 : decode cX1_layOne 45 = .ok (.iload_n 1, 1) := by decide +kernel
theorem dX1_layOne_46 : decode cX1_layOne 46 = .ok (.iaload, 1) := by decide +kernel
theorem dX1_layOne_47 : decode cX1_layOne 47 = .ok (.invokevirtual 52, 3) := by decide +kernel
theorem dX1_layOne_50 : decode cX1_layOne 50 = .ok (.aload_n 0, 1) := by decide +kernel
theorem dX1_layOne_51 : decode cX1_layOne 51 = .ok (.getfield 21, 3) := by decide +kernel
theorem dX1_layOne_54 : decode cX1_layOne 54 = .ok (.iload_n 1, 1) := by decide +kernel
theorem dX1_layOne_55 : decode cX1_layOne 55 = .ok (.sipush 10000, 3) := by decide +kernel
theorem dX1_layOne_58 : decode cX1_layOne 58 = .ok (.aload_n 0, 1) := by decide +kernel
theorem dX1_layOne_59 : decode cX1_layOne 59 = .ok (.getfield 34, 3) := by decide +kernel
theorem dX1_layOne_62 : decode cX1_layOne 62 = .ok (.iconst 1, 1) := by decide +kernel
theorem dX1_layOne_63 : decode cX1_layOne 63 = .ok (.isub, 1) := by decide +kernel
theorem dX1_layOne_64 : decode cX1_layOne 64 = .ok (.imul, 1) := by decide +kernel
theorem dX1_layOne_65 : decode cX1_layOne 65 = .ok (.bipush 100, 2) := by decide +kernel
theorem dX1_layOne_67 : decode cX1_layOne 67 = .ok (.aload_n 0, 1) := by decide +kernel
theorem dX1_layOne_68 : decode cX1_layOne 68 = .ok (.getfield 56, 3) := by decide +kernel
theorem dX1_layOne_71 : decode cX1_layOne 71 = .ok (.imul, 1) := by decide +kernel
theorem dX1_layOne_72 : decode cX1_layOne 72 = .ok (.iadd, 1) := by decide +kernel
theorem dX1_layOne_73 : decode cX1_layOne 73 = .ok (.aload_n 0, 1) := by decide +kernel
theorem dX1_layOne_74 : decode cX1_layOne 74 = .ok (.getfield 49, 3) := by decide +kernel
theorem dX1_layOne_77 : decode cX1_layOne 77 = .ok (.iadd, 1) := by decide +kernel
theorem dX1_layOne_78 : decode cX1_layOne 78 = .ok (.iastore, 1) := by decide +kernel
theorem dX1_layOne_79 : decode cX1_layOne 79 = .ok (.aload_n 0, 1) := by decide +kernel
theorem dX1_layOne_80 : decode cX1_layOne 80 = .ok (.dup, 1) := by decide +kernel
theorem dX1_layOne_81 : decode cX1_layOne 81 = .ok (.getfield 49, 3) := by decide +kernel
theorem dX1_layOne_84 : decode cX1_layOne 84 = .ok (.aload_n 0, 1) := by decide +kernel
theorem dX1_layOne_85 : decode cX1_layOne 85 = .ok (.getfield 18, 3) := by decide +kernel
theorem dX1_layOne_88 : decode cX1_layOne 88 = .ok (.iload_n 1, 1) := by decide +kernel
theorem dX1_layOne_89 : decode cX1_layOne 89 = .ok (.iaload, 1) := by decide +kernel
theorem dX1_layOne_90 : decode cX1_layOne 90 = .ok (.iadd, 1) := by decide +kernel
theorem dX1_layOne_91 : decode cX1_layOne 91 = .ok (.putfield 49, 3) := by decide +kernel
theorem dX1_layOne_94 : decode cX1_layOne 94 = .ok (.return_, 1) := by decide +kernel
theorem dX1_openShelf_0 : decode cX1_openShelf 0 = .ok (.aload_n 0, 1) := by decide +kernel
theorem dX1_openShelf_1 : decode cX1_openShelf 1 = .ok (.getfield 56, 3) := by decide +kernel
theorem dX1_openShelf_4 : decode cX1_openShelf 4 = .ok (.aload_n 0, 1) := by decide +kernel
theorem dX1_openShelf_5 : decode cX1_openShelf 5 = .ok (.getfield 59, 3) := by decide +kernel
theorem dX1_openShelf_8 : decode cX1_openShelf 8 = .ok (.iadd, 1) := by decide +kernel
theorem dX1_openShelf_9 : decode cX1_openShelf 9 = .ok (.istore_n 2, 1) := by decide +kernel
theorem dX1_openShelf_10 : decode cX1_openShelf 10 = .ok (.aload_n 0, 1) := by decide +kernel
theorem dX1_openShelf_11 : decode cX1_openShelf 11 = .ok (.getfield 34, 3) := by decide +kernel
theorem dX1_openShelf_14 : decode cX1_openShelf 14 = .ok (.ifCond .eq 11, 3) := by decide +kernel
theorem dX1_openShelf_17 : decode cX1_openShelf 17 = .ok (.iload_n 2, 1) := by decide +kernel
theorem dX1_openShelf_18 : decode cX1_openShelf 18 = .ok (.iload_n 1, 1) := by decide +kernel
theorem dX1_openShelf_19 : decode cX1_openShelf 19 = .ok (.iadd, 1) := by decide +kernel
theorem dX1_openShelf_20 : decode cX1_openShelf 20 = .ok (.bipush 20, 2) := by decide +kernel
theorem dX1_openShelf_22 : decode cX1_openShelf 22 = .ok (.if_icmp .le 21, 3) := by decide +kernel
theorem dX1_openShelf_25 : decode cX1_openShelf 25 = .ok (.aload_n 0, 1) := by decide +kernel
theorem dX1_openShelf_26 : decode cX1_openShelf 26 = .ok (.dup, 1) := by decide +kernel
theorem dX1_openShelf_27 : decode cX1_openShelf 27 = .ok (.getfield 34, 3) := by decide +kernel
theorem dX1_openShelf_30 : decode cX1_openShelf 30 = .ok (.iconst 1, 1) := by decide +kernel
theorem dX1_openShelf_31 : decode cX1_openShelf 31 = .ok (.iadd, 1) := by decide +kernel
theorem dX1_openShelf_32 : decode cX1_openShelf 32 = .ok (.putfield 34, 3) := by decide +kernel
theorem dX1_openShelf_35 : decode cX1_openShelf 35 = .ok (.aload_n 0, 1) := by decide +kernel
theorem dX1_openShelf_36 : decode cX1_openShelf 36 = .ok (.iconst 0, 1) := by decide +kernel
theorem dX1_openShelf_37 : decode cX1_openShelf 37 = .ok (.putfield 56, 3) := by decide +kernel
theorem dX1_openShelf_40 : decode cX1_openShelf 40 = .ok (.goto 8, 3) := by decide +kernel
theorem dX1_openShelf_43 : decode cX1_openShelf 43 = .ok (.aload_n 0, 1) := by decide +kernel
theorem dX1_openShelf_44 : decode cX1_openShelf 44 = .ok (.iload_n 2, 1) := by decide +kernel
theorem dX1_openShelf_45 : decode cX1_openShelf 45 = .ok (.putfield 56, 3) := by decide +kernel
theorem dX1_openShelf_48 : decode cX1_openShelf 48 = .ok (.aload_n 0, 1) := by decide +kernel
theorem dX1_openShelf_49 : decode cX1_openShelf 49 = .ok (.iload_n 1, 1) := by decide +kernel
theorem dX1_openShelf_50 : decode cX1_openShelf 50 = .ok (.putfield 59, 3) := by decide +kernel
theorem dX1_openShelf_53 : decode cX1_openShelf 53 = .ok (.aload_n 0, 1) := by decide +kernel
theorem dX1_openShelf_54 : decode cX1_openShelf 54 = .ok (.iconst 0, 1) := by decide +kernel
theorem dX1_openShelf_55 : decode cX1_openShelf 55 = .ok (.putfield 49, 3) := by decide +kernel
theorem dX1_openShelf_58 : decode cX1_openShelf 58 = .ok (.return_, 1) := by decide +kernel
set_option maxRecDepth 20000 in
theorem ggX1_spotOf_X4_isNumber : GoodIn wsX1_spotOf wsX4_isNumber := goodIn_r _ [4] (by decide +kernel) (by decide +kernel)
set_option maxRecDepth 20000 in
theorem gX1_spotOf_X4_isNumber_n37 : GoodIn wsX1_spotOf (wsX4_isNumber) := ggX1_spotOf_X4_isNumber
theorem dX1_spotOf_0 : decode cX1_spotOf 0 = .ok (.iload_n 1, 1) := by decide +kernel
theorem dX1_spotOf_1 : decode cX1_spotOf 1 = .ok (.invokestatic 37, 3) := by decide +kernel
theorem dX1_spotOf_4 : decode cX1_spotOf 4 = .ok (.ifCond .eq 12, 3) := by decide +kernel
theorem dX1_spotOf_7 : decode cX1_spotOf 7 = .ok (.aload_n 0, 1) := by decide +kernel
theorem dX1_spotOf_8 : decode cX1_spotOf 8 = .ok (.getfield 21, 3) := by decide +kernel
theorem dX1_spotOf_11 : decode cX1_spotOf 11 = .ok (.iload_n 1, 1) := by decide +kernel
theorem dX1_spotOf_12 : decode cX1_spotOf 12 = .ok (.iaload, 1) := by decide +kernel
theorem dX1_spotOf_13 : decode cX1_spotOf 13 = .ok (.goto 4, 3) := by decide +kernel
theorem dX1_spotOf_16 : decode cX1_spotOf 16 = .ok (.iconst (-1), 1) := by decide +kernel
theorem dX1_spotOf_17 : decode cX1_spotOf 17 = .ok (.ireturn, 1) := by decide +kernel
set_option maxRecDepth 20000 in
theorem ggX2_init_X2_note : GoodIn wsX2_init wsX2_note := goodIn_r _ [17, 10, 7, 18, 19, 20, 21, 22, 23, 24, 25] (by decide +kernel) (by decide +kernel)
set_option maxRecDepth 20000 in
theorem gX2_init_X2_note : GoodIn wsX2_init (wsV RX2 38 RX2 yX2_note wsX2_note) := goodIn_app (goodIn_of _ (by decide +kernel)) ggX2_init_X2_note
theorem dX2_init_0 : decode cX2_init 0 = .ok (.aload_n 0, 1) := by decide +kernel
theorem dX2_init_1 : decode cX2_init 1 = .ok (.invokespecial 3, 3) := by decide +kernel
theorem dX2_init_4 : decode cX2_init 4 = .ok (.aload_n 0, 1) := by decide +kernel
theorem dX2_init_5 : decode cX2_init 5 = .ok (.iconst 5, 1) := by decide +kernel
theorem dX2_init_6 : decode cX2_init 6 = .ok (.newarray .int, 2) := by decide +kernel
theorem dX2_init_8 : decode cX2_init 8 = .ok (.putfield 9, 3) := by decide +kernel
theorem dX2_init_11 : decode cX2_init 11 = .ok (.aload_n 0, 1) := by decide +kernel
theorem dX2_init_12 : decode cX2_init 12 = .ok (.iconst 5, 1) := by decide +kernel
theorem dX2_init_13 : decode cX2_init 13 = .ok (.newarray .int, 2) := by decide +kernel
theorem dX2_init_15 : decode cX2_init 15 = .ok (.putfield 15, 3) := by decide +kernel
theorem dX2_init_18 : decode cX2_init 18 = .ok (.aload_n 0, 1) := by decide +kernel
theorem dX2_init_19 : decode cX2_init 19 = .ok (.bipush 20, 2) := by decide +kernel
theorem dX2_init_21 : decode cX2_init 21 = .ok (.newarray .int, 2) := by decide +kernel
theorem dX2_init_23 : decode cX2_init 23 = .ok (.putfield 18, 3) := by decide +kernel
theorem dX2_init_26 : decode cX2_init 26 = .ok (.aload_n 0, 1) := by decide +kernel
theorem dX2_init_27 : decode cX2_init 27 = .ok (.iconst 0, 1) := by decide +kernel
theorem dX2_init_28 : decode cX2_init 28 = .ok (.putfield 21, 3) := by decide +kernel
theorem dX2_init_31 : decode cX2_init 31 = .ok (.aload_n 0, 1) := by decide +kernel
theorem dX2_init_32 : decode cX2_init 32 = .ok (.iconst 0, 1) := by decide +kernel
theorem dX2_init_33 : decode cX2_init 33 = .ok (.putfield 25, 3) := by decide +kernel
theorem dX2_init_36 : decode cX2_init 36 = .ok (.aload_n 0, 1) := by decide +kernel
theorem dX2_init_37 : decode cX2_init 37 = .ok (.iconst 0, 1) := by decide +kernel
theorem dX2_init_38 : decode cX2_init 38 = .ok (.putfield 28, 3) := by decide +kernel
theorem dX2_init_41 : decode cX2_init 41 = .ok (.aload_n 0, 1) := by decide +kernel
theorem dX2_init_42 : decode cX2_init 42 = .ok (.iconst 0, 1) := by decide +kernel
theorem dX2_init_43 : decode cX2_init 43 = .ok (.putfield 31, 3) := by decide +kernel
theorem dX2_init_46 : decode cX2_init 46 = .ok (.aload_n 0, 1) := by decide +kernel
theorem dX2_init_47 : decode cX2_init 47 = .ok (.iload_n 1, 1) := by decide +kernel
theorem dX2_init_48 : decode cX2_init 48 = .ok (.putfield 35, 3) := by decide +kernel
theorem dX2_init_51 : decode cX2_init 51 = .ok (.aload_n 0, 1) := by decide +kernel
theorem dX2_init_52 : decode cX2_init 52 = .ok (.iconst 1, 1) := by decide +kernel
theorem dX2_init_53 : decode cX2_init 53 = .ok (.invokevirtual 38, 3) := by decide +kernel
theorem dX2_init_56 : decode cX2_init 56 = .ok (.return_, 1) := by decide +kernel
theorem dX2_note_0 : decode cX2_note 0 = .ok (.aload_n 0, 1) := by decide +kernel
theorem dX2_note_1 : decode cX2_note 1 = .ok (.getfield 28, 3) := by decide +kernel
theorem dX2_note_4 : decode cX2_note 4 = .ok (.ifCond .lt 32, 3) := by decide +kernel
theorem dX2_note_7 : decode cX2_note 7 = .ok (.aload_n 0, 1) := by decide +kernel
theorem dX2_note_8 : decode cX2_note 8 = .ok (.getfield 28, 3) := by decide +kernel
theorem dX2_note_11 : decode cX2_note 11 = .ok (.bipush 20, 2) := by decide +kernel
theorem dX2_note_13 : decode cX2_note 13 = .ok (.if_icmp .ge 23, 3) := by decide +kernel
theorem dX2_note_16 : decode cX2_note 16 = .ok (.aload_n 0, 1) := by decide +kernel
theorem dX2_note_17 : decode cX2_note 17 = .ok (.getfield 18, 3) := by decide +kernel
theorem dX2_note_20 : decode cX2_note 20 = .ok (.aload_n 0, 1) := by decide +kernel
theorem dX2_note_21 : decode cX2_note 21 = .ok (.getfield 28, 3) := by decide +kernel
theorem dX2_note_24 : decode cX2_note 24 = .ok (.iload_n 1, 1) := by decide +kernel
theorem dX2_note_25 : decode cX2_note 25 = .ok (.iastore, 1) := by decide +kernel
theorem dX2_note_26 : decode cX2_note 26 = .ok (.aload_n 0, 1) := by decide +kernel
theorem dX2_note_27 : decode cX2_note 27 = .ok (.dup, 1) := by decide +kernel
theorem dX2_note_28 : decode cX2_note 28 = .ok (.getfield 28, 3) := by decide +kernel
theorem dX2_note_31 : decode cX2_note 31 = .ok (.iconst 1, 1) := by decide +kernel
theorem dX2_note_32 : decode cX2_note 32 = .ok (.iadd, 1) := by decide +kernel
theorem dX2_note_33 : decode cX2_note 33 = .ok (.putfield 28, 3) := by decide +kernel
theorem dX2_note_36 : decode cX2_note 36 = .ok (.return_, 1) := by decide +kernel
theorem dX2_thingAt_0 : decode cX2_thingAt 0 = .ok (.iload_n 1, 1) := by decide +kernel
theorem dX2_thingAt_1 : decode cX2_thingAt 1 = .ok (.ifCond .lt 26, 3) := by decide +kernel
theorem dX2_thingAt_4 : decode cX2_thingAt 4 = .ok (.iload_n 1, 1) := by decide +kernel
theorem dX2_thingAt_5 : decode cX2_thingAt 5 = .ok (.aload_n 0, 1) := by decide +kernel
theorem dX2_thingAt_6 : decode cX2_thingAt 6 = .ok (.getfield 28, 3) := by decide +kernel
theorem dX2_thingAt_9 : decode cX2_thingAt 9 = .ok (.if_icmp .ge 18, 3) := by decide +kernel
theorem dX2_thingAt_12 : decode cX2_thingAt 12 = .ok (.iload_n 1, 1) := by decide +kernel
theorem dX2_thingAt_13 : decode cX2_thingAt 13 = .ok (.bipush 20, 2) := by decide +kernel
theorem dX2_thingAt_15 : decode cX2_thingAt 15 = .ok (.if_icmp .ge 12, 3) := by decide +kernel
theorem dX2_thingAt_18 : decode cX2_thingAt 18 = .ok (.aload_n 0, 1) := by decide +kernel
theorem dX2_thingAt_19 : decode cX2_thingAt 19 = .ok (.getfield 18, 3) := by decide +kernel
theorem dX2_thingAt_22 : decode cX2_thingAt 22 = .ok (.iload_n 1, 1) := by decide +kernel
theorem dX2_thingAt_23 : decode cX2_thingAt 23 = .ok (.iaload, 1) := by decide +kernel
theorem dX2_thingAt_24 : decode cX2_thingAt 24 = .ok (.goto 4, 3) := by decide +kernel
theorem dX2_thingAt_27 : decode cX2_thingAt 27 = .ok (.iconst (-1), 1) := by decide +kernel
theorem dX2_thingAt_28 : decode cX2_thingAt 28 = .ok (.ireturn, 1) := by decide +kernel
set_option maxRecDepth 20000 in
theorem ggX2_addLayer_X2_note : GoodIn wsX2_addLayer wsX2_note := goodIn_r _ [8, 9, 10, 11, 12, 13, 14, 15, 16, 17, 18] (by decide +kernel) (by decide +kernel)
set_option maxRecDepth 20000 in
theorem gX2_addLayer_X2_note : GoodIn wsX2_addLayer (wsV RX2 38 RX2 yX2_note wsX2_note) := goodIn_app (goodIn_of _ (by decide +kernel)) ggX2_addLayer_X2_note
theorem dX2_addLayer_0 : decode cX2_addLayer 0 = .ok (.aload_n 0, 1) := by decide +kernel
theorem dX2_addLayer_1 : decode cX2_addLayer 1 = .ok (.getfield 25, 3) := by decide +kernel
theorem dX2_addLayer_4 : decode cX2_addLayer 4 = .ok (.ifCond .lt 46, 3) := by decide +kernel
theorem dX2_addLayer_7 : decode cX2_addLayer 7 = .ok (.aload_n 0, 1) := by decide +kernel
theorem dX2_addLayer_8 : decode cX2_addLayer 8 = .ok (.getfield 25, 3) := by decide +kernel
theorem dX2_addLayer_11 : decode cX2_addLayer 11 = .ok (.iconst 5, 1) := by decide +kernel
theorem dX2_addLayer_12 : decode cX2_addLayer 12 = .ok (.if_icmp .ge 38, 3) := by decide +kernel
theorem dX2_addLayer_15 : decode cX2_addLayer 15 = .ok (.aload_n 0, 1) := by decide +kernel
theorem dX2_addLayer_16 : decode cX2_addLayer 16 = .ok (.getfield 9, 3) := by decide +kernel
theorem dX2_addLayer_19 : decode cX2_addLayer 19 = .ok (.aload_n 0, 1) := by decide +kernel
theorem dX2_addLayer_20 : decode cX2_addLayer 20 = .ok (.getfield 25, 3) := by decide +kernel
theorem dX2_addLayer_23 : decode cX2_addLayer 23 = .ok (.iload_n 1, 1) := by decide +kernel
theorem dX2_addLayer_24 : decode cX2_addLayer 24 = .ok (.iastore, 1) := by decide +kernel
theorem dX2_addLayer_25 : decode cX2_addLayer 25 = .ok (.aload_n 0, 1) := by decide +kernel
theorem dX2_addLayer_26 : decode cX2_addLayer 26 = .ok (.getfield 15, 3) := by decide +kernel
theorem dX2_addLayer_29 : decode cX2_addLayer 29 = .ok (.aload_n 0, 1) := by decide +kernel
theorem dX2_addLayer_30 : decode cX2_addLayer 30 = .ok (.getfield 25, 3) := by decide +kernel
theorem dX2_addLayer_33 : decode cX2_addLayer 33 = .ok (.iconst 0, 1) := by decide +kernel
theorem dX2_addLayer_34 : decode cX2_addLayer 34 = .ok (.iastore, 1) := by decide +kernel
theorem dX2_addLayer_35 : decode cX2_addLayer 35 = .ok (.aload_n 0, 1) := by decide +kernel
theorem dX2_addLayer_36 : decode cX2_addLayer 36 = .ok (.dup, 1) := by decide +kernel
theorem dX2_addLayer_37 : decode cX2_addLayer 37 = .ok (.getfield 25, 3) := by decide +kernel
theorem dX2_addLayer_40 : decode cX2_addLayer 40 = .ok (.iconst 1, 1) := by decide +kernel
theorem dX2_addLayer_41 : decode cX2_addLayer 41 = .ok (.iadd, 1) := by decide +kernel
theorem dX2_addLayer_42 : decode cX2_addLayer 42 = .ok (.putfield 25, 3) := by decide +kernel
theorem dX2_addLayer_45 : decode cX2_addLayer 45 = .ok (.aload_n 0, 1) := by decide +kernel
theorem dX2_addLayer_46 : decode cX2_addLayer 46 = .ok (.iconst 4, 1) := by decide +kernel
theorem dX2_addLayer_47 : decode cX2_addLayer 47 = .ok (.invokevirtual 38, 3) := by decide +kernel
theorem dX2_addLayer_50 : decode cX2_addLayer 50 = .ok (.return_, 1) := by decide +kernel
set_option maxRecDepth 20000 in
theorem ggX2_bearHeat_X2_layersThatAre : GoodIn wsX2_bearHeat wsX2_layersThatAre := goodIn_r _ [8, 1, 3, 15, 16, 17, 18, 19, 20, 21, 22] (by decide +kernel) (by decide +kernel)
set_option maxRecDepth 20000 in
theorem gX2_bearHeat_X2_layersThatAre : GoodIn wsX2_bearHeat (wsV RX2 42 RX2 yX2_layersThatAre wsX2_layersThatAre) := goodIn_app (goodIn_of _ (by decide +kernel)) ggX2_bearHeat_X2_layersThatAre
set_option maxRecDepth 20000 in
theorem ggX2_bearHeat_X2_note : GoodIn wsX2_bearHeat wsX2_note := goodIn_r _ [12, 13, 14, 15, 16, 17, 18, 19, 20, 21, 22] (by decide +kernel) (by decide +kernel)
set_option maxRecDepth 20000 in
theorem gX2_bearHeat_X2_note : GoodIn wsX2_bearHeat (wsV RX2 38 RX2 yX2_note wsX2_note) := goodIn_app (goodIn_of _ (by decide +kernel)) ggX2_bearHeat_X2_note
theorem dX2_bearHeat_0 : decode cX2_bearHeat 0 = .ok (.aload_n 0, 1) := by decide +kernel
theorem dX2_bearHeat_1 : decode cX2_bearHeat 1 = .ok (.iconst 2, 1) := by decide +kernel
theorem dX2_bearHeat_2 : decode cX2_bearHeat 2 = .ok (.invokevirtual 42, 3) := by decide +kernel
theorem dX2_bearHeat_5 : decode cX2_bearHeat 5 = .ok (.istore_n 2, 1) := by decide +kernel
theorem dX2_bearHeat_6 : decode cX2_bearHeat 6 = .ok (.iconst 0, 1) := by decide +kernel
theorem dX2_bearHeat_7 : decode cX2_bearHeat 7 = .ok (.istore_n 3, 1) := by decide +kernel
theorem dX2_bearHeat_8 : decode cX2_bearHeat 8 = .ok (.iload_n 3, 1) := by decide +kernel
theorem dX2_bearHeat_9 : decode cX2_bearHeat 9 = .ok (.aload_n 0, 1) := by decide +kernel
theorem dX2_bearHeat_10 : decode cX2_bearHeat 10 = .ok (.getfield 25, 3) := by decide +kernel
theorem dX2_bearHeat_13 : decode cX2_bearHeat 13 = .ok (.if_icmp .ge 64, 3) := by decide +kernel
theorem dX2_bearHeat_16 : decode cX2_bearHeat 16 = .ok (.iload_n 3, 1) := by decide +kernel
theorem dX2_bearHeat_17 : decode cX2_bearHeat 17 = .ok (.iconst 5, 1) := by decide +kernel
theorem dX2_bearHeat_18 : decode cX2_bearHeat 18 = .ok (.if_icmp .ge 59, 3) := by decide +kernel
theorem dX2_bearHeat_21 : decode cX2_bearHeat 21 = .ok (.aload_n 0, 1) := by decide +kernel
theorem dX2_bearHeat_22 : decode cX2_bearHeat 22 = .ok (.getfield 9, 3) := by decide +kernel
theorem dX2_bearHeat_25 : decode cX2_bearHeat 25 = .ok (.iload_n 3, 1) := by decide +kernel
theorem dX2_bearHeat_26 : decode cX2_bearHeat 26 = .ok (.iaload, 1) := by decide +kernel
theorem dX2_bearHeat_27 : decode cX2_bearHeat 27 = .ok (.iload_n 1, 1) := by decide +kernel
theorem dX2_bearHeat_28 : decode cX2_bearHeat 28 = .ok (.bipush 30, 2) := by decide +kernel
theorem dX2_bearHeat_30 : decode cX2_bearHeat 30 = .ok (.isub, 1) := by decide +kernel
theorem dX2_bearHeat_31 : decode cX2_bearHeat 31 = .ok (.if_icmp .ge 13, 3) := by decide +kernel
theorem dX2_bearHeat_34 : decode cX2_bearHeat 34 = .ok (.aload_n 0, 1) := by decide +kernel
theorem dX2_bearHeat_35 : decode cX2_bearHeat 35 = .ok (.getfield 15, 3) := by decide +kernel
theorem dX2_bearHeat_38 : decode cX2_bearHeat 38 = .ok (.iload_n 3, 1) := by decide +kernel
theorem dX2_bearHeat_39 : decode cX2_bearHeat 39 = .ok (.iconst 2, 1) := by decide +kernel
theorem dX2_bearHeat_40 : decode cX2_bearHeat 40 = .ok (.iastore, 1) := by decide +kernel
theorem dX2_bearHeat_41 : decode cX2_bearHeat 41 = .ok (.goto 30, 3) := by decide +kernel
theorem dX2_bearHeat_44 : decode cX2_bearHeat 44 = .ok (.aload_n 0, 1) := by decide +kernel
theorem dX2_bearHeat_45 : decode cX2_bearHeat 45 = .ok (.getfield 9, 3) := by decide +kernel
theorem dX2_bearHeat_48 : decode cX2_bearHeat 48 = .ok (.iload_n 3, 1) := by decide +kernel
theorem dX2_bearHeat_49 : decode cX2_bearHeat 49 = .ok (.iaload, 1) := by decide +kernel
theorem dX2_bearHeat_50 : decode cX2_bearHeat 50 = .ok (.iload_n 1, 1) := by decide +kernel
theorem dX2_bearHeat_51 : decode cX2_bearHeat 51 = .ok (.if_icmp .gt 20, 3) := by decide +kernel
theorem dX2_bearHeat_54 : decode cX2_bearHeat 54 = .ok (.aload_n 0, 1) := by decide +kernel
theorem dX2_bearHeat_55 : decode cX2_bearHeat 55 = .ok (.getfield 15, 3) := by decide +kernel
theorem dX2_bearHeat_58 : decode cX2_bearHeat 58 = .ok (.iload_n 3, 1) := by decide +kernel
theorem dX2_bearHeat_59 : decode cX2_bearHeat 59 = .ok (.iaload, 1) := by decide +kernel
theorem dX2_bearHeat_60 : decode cX2_bearHeat 60 = .ok (.iconst 2, 1) := by decide +kernel
theorem dX2_bearHeat_61 : decode cX2_bearHeat 61 = .ok (.if_icmp .eq 10, 3) := by decide +kernel
theorem dX2_bearHeat_64 : decode cX2_bearHeat 64 = .ok (.aload_n 0, 1) := by decide +kernel
theorem dX2_bearHeat_65 : decode cX2_bearHeat 65 = .ok (.getfield 15, 3) := by decide +kernel
theorem dX2_bearHeat_68 : decode cX2_bearHeat 68 = .ok (.iload_n 3, 1) := by decide +kernel
theorem dX2_bearHeat_69 : decode cX2_bearHeat 69 = .ok (.iconst 1, 1) := by decide +kernel
theorem dX2_bearHeat_70 : decode cX2_bearHeat 70 = .ok (.iastore, 1) := by decide +kernel
theorem dX2_bearHeat_71 : decode cX2_bearHeat 71 = .ok (.iinc 3 1, 3) := by decide +kernel
theorem dX2_bearHeat_74 : decode cX2_bearHeat 74 = .ok (.goto (-66), 3) := by decide +kernel
theorem dX2_bearHeat_77 : decode cX2_bearHeat 77 = .ok (.aload_n 0, 1) := by decide +kernel
theorem dX2_bearHeat_78 : decode cX2_bearHeat 78 = .ok (.iconst 5, 1) := by decide +kernel
theorem dX2_bearHeat_79 : decode cX2_bearHeat 79 = .ok (.invokevirtual 38, 3) := by decide +kernel
theorem dX2_bearHeat_82 : decode cX2_bearHeat 82 = .ok (.aload_n 0, 1) := by decide +kernel
theorem dX2_bearHeat_83 : decode cX2_bearHeat 83 = .ok (.iconst 2, 1) := by decide +kernel
theorem dX2_bearHeat_84 : decode cX2_bearHeat 84 = .ok (.invokevirtual 42, 3) := by decide +kernel
theorem dX2_bearHeat_87 : decode cX2_bearHeat 87 = .ok (.iload_n 2, 1) := by decide +kernel
theorem dX2_bearHeat_88 : decode cX2_bearHeat 88 = .ok (.isub, 1) := by decide +kernel
theorem dX2_bearHeat_89 : decode cX2_bearHeat 89 = .ok (.ireturn, 1) := by decide +kernel
theorem dX2_layersThatAre_0 : decode cX2_layersThatAre 0 = .ok (.iconst 0, 1) := by decide +kernel
theorem dX2_layersThatAre_1 : decode cX2_layersThatAre 1 = .ok (.istore_n 2, 1) := by decide +kernel
theorem dX2_layersThatAre_2 : decode cX2_layersThatAre 2 = .ok (.iconst 0, 1) := by decide +kernel
theorem dX2_layersThatAre_3 : decode cX2_layersThatAre 3 = .ok (.istore_n 3, 1) := by decide +kernel
theorem dX2_layersThatAre_4 : decode cX2_layersThatAre 4 = .ok (.iload_n 3, 1) := by decide +kernel
theorem dX2_layersThatAre_5 : decode cX2_layersThatAre 5 = .ok (.aload_n 0, 1) := by decide +kernel
theorem dX2_layersThatAre_6 : decode cX2_layersThatAre 6 = .ok (.getfield 25, 3) := by decide +kernel
theorem dX2_layersThatAre_9 : decode cX2_layersThatAre 9 = .ok (.if_icmp .ge 27, 3) := by decide +kernel
theorem dX2_layersThatAre_12 : decode cX2_layersThatAre 12 = .ok (.iload_n 3, 1) := by decide +kernel
theorem dX2_layersThatAre_13 : decode cX2_layersThatAre 13 = .ok (.iconst 5, 1) := by decide +kernel
theorem dX2_layersThatAre_14 : decode cX2_layersThatAre 14 = .ok (.if_icmp .ge 22, 3) := by decide +kernel
theorem dX2_layersThatAre_17 : decode cX2_layersThatAre 17 = .ok (.aload_n 0, 1) := by decide +kernel
theorem dX2_layersThatAre_18 : decode cX2_layersThatAre 18 = .ok (.getfield 15, 3) := by decide +kernel
theorem dX2_layersThatAre_21 : decode cX2_layersThatAre 21 = .ok (.iload_n 3, 1) := by decide +kernel
theorem dX2_layersThatAre_22 : decode cX2_layersThatAre 22 = .ok (.iaload, 1) := by decide +kernel
theorem dX2_layersThatAre_23 : decode cX2_layersThatAre 23 = .ok (.iload_n 1, 1) := by decide +kernel
theorem dX2_layersThatAre_24 : decode cX2_layersThatAre 24 = .ok (.if_icmp .ne 6, 3) := by decide +kernel
theorem dX2_layersThatAre_27 : decode cX2_layersThatAre 27 = .ok (.iinc 2 1, 3) := by decide +kernel
theorem dX2_layersThatAre_30 : decode cX2_layersThatAre 30 = .ok (.iinc 3 1, 3) := by decide +kernel
theorem dX2_layersThatAre_33 : decode cX2_layersThatAre 33 = .ok (.goto (-29), 3) := by decide +kernel
theorem dX2_layersThatAre_36 : decode cX2_layersThatAre 36 = .ok (.iload_n 2, 1) := by decide +kernel
theorem dX2_layersThatAre_37 : decode cX2_layersThatAre 37 = .ok (.ireturn, 1) := by decide +kernel
theorem dX2_makeAnew_0 : decode cX2_makeAnew 0 = .ok (.aload_n 0, 1) := by decide +kernel
theorem dX2_makeAnew_1 : decode cX2_makeAnew 1 = .ok (.iload_n 1, 1) := by decide +kernel
theorem dX2_makeAnew_2 : decode cX2_makeAnew 2 = .ok (.putfield 35, 3) := by decide +kernel
theorem dX2_makeAnew_5 : decode cX2_makeAnew 5 = .ok (.aload_n 0, 1) := by decide +kernel
theorem dX2_makeAnew_6 : decode cX2_makeAnew 6 = .ok (.iconst 0, 1) := by decide +kernel
theorem dX2_makeAnew_7 : decode cX2_makeAnew 7 = .ok (.putfield 21, 3) := by decide +kernel
theorem dX2_makeAnew_10 : decode cX2_makeAnew 10 = .ok (.aload_n 0, 1) := by decide +kernel
theorem dX2_makeAnew_11 : decode cX2_makeAnew 11 = .ok (.iconst 0, 1) := by decide +kernel
theorem dX2_makeAnew_12 : decode cX2_makeAnew 12 = .ok (.putfield 31, 3) := by decide +kernel
theorem dX2_makeAnew_15 : decode cX2_makeAnew 15 = .ok (.aload_n 0, 1) := by decide +kernel
theorem dX2_makeAnew_16 : decode cX2_makeAnew 16 = .ok (.iconst 0, 1) := by decide +kernel
theorem dX2_makeAnew_17 : decode cX2_makeAnew 17 = .ok (.putfield 25, 3) := by decide +kernel
theorem dX2_makeAnew_20 : decode cX2_makeAnew 20 = .ok (.return_, 1) := by decide +kernel
theorem dX3_init_0 : decode cX3_init 0 = .ok (.aload_n 0, 1) := by decide +kernel
theorem dX3_init_1 : decode cX3_init 1 = .ok (.invokespecial 3, 3) := by decide +kernel
theorem dX3_init_4 : decode cX3_init 4 = .ok (.aload_n 0, 1) := by decide +kernel
theorem dX3_init_5 : decode cX3_init 5 = .ok (.bipush 16, 2) := by decide +kernel
theorem dX3_init_7 : decode cX3_init 7 = .ok (.newarray .int, 2) := by decide +kernel
theorem dX3_init_9 : decode cX3_init 9 = .ok (.putfield 9, 3) := by decide +kernel
theorem dX3_init_12 : decode cX3_init 12 = .ok (.aload_n 0, 1) := by decide +kernel
theorem dX3_init_13 : decode cX3_init 13 = .ok (.bipush 16, 2) := by decide +kernel
theorem dX3_init_15 : decode cX3_init 15 = .ok (.newarray .int, 2) := by decide +kernel
theorem dX3_init_17 : decode cX3_init 17 = .ok (.putfield 15, 3) := by decide +kernel
theorem dX3_init_20 : decode cX3_init 20 = .ok (.return_, 1) := by decide +kernel
set_option maxRecDepth 20000 in
theorem ggX3_trace_X0_ownerAt : GoodIn wsX3_trace wsX0_ownerAt := goodIn_r _ [6, 7, 10, 11] (by decide +kernel) (by decide +kernel)
set_option maxRecDepth 20000 in
theorem gX3_trace_X0_ownerAt : GoodIn wsX3_trace (wsV RX3 18 RX0 yX0_ownerAt wsX0_ownerAt) := goodIn_app (goodIn_of _ (by decide +kernel)) ggX3_trace_X0_ownerAt
theorem dX3_trace_0 : decode cX3_trace 0 = .ok (.iconst 0, 1) := by decide +kernel
theorem dX3_trace_1 : decode cX3_trace 1 = .ok (.istore_n 3, 1) := by decide +kernel
theorem dX3_trace_2 : decode cX3_trace 2 = .ok (.iload_n 3, 1) := by decide +kernel
theorem dX3_trace_3 : decode cX3_trace 3 = .ok (.bipush 16, 2) := by decide +kernel
theorem dX3_trace_5 : decode cX3_trace 5 = .ok (.if_icmp .ge 56, 3) := by decide +kernel
theorem dX3_trace_8 : decode cX3_trace 8 = .ok (.iconst 0, 1) := by decide +kernel
theorem dX3_trace_9 : decode cX3_trace 9 = .ok (.istore 4, 2) := by decide +kernel
theorem dX3_trace_11 : decode cX3_trace 11 = .ok (.iconst 0, 1) := by decide +kernel
theorem dX3_trace_12 : decode cX3_trace 12 = .ok (.istore 5, 2) := by decide +kernel
theorem dX3_trace_14 : decode cX3_trace 14 = .ok (.iload 5, 2) := by decide +kernel
theorem dX3_trace_16 : decode cX3_trace 16 = .ok (.bipush 16, 2) := by decide +kernel
theorem dX3_trace_18 : decode cX3_trace 18 = .ok (.if_icmp .ge 29, 3) := by decide +kernel
theorem dX3_trace_21 : decode cX3_trace 21 = .ok (.aload_n 1, 1) := by decide +kernel
theorem dX3_trace_22 : decode cX3_trace 22 = .ok (.iload_n 3, 1) := by decide +kernel
theorem dX3_trace_23 : decode cX3_trace 23 = .ok (.iload 5, 2) := by decide +kernel
theorem dX3_trace_25 : decode cX3_trace 25 = .ok (.invokevirtual 18, 3) := by decide +kernel
theorem dX3_trace_28 : decode cX3_trace 28 = .ok (.iload_n 2, 1) := by decide +kernel
theorem dX3_trace_29 : decode cX3_trace 29 = .ok (.if_icmp .ne 12, 3) := by decide +kernel
theorem dX3_trace_32 : decode cX3_trace 32 = .ok (.iload 4, 2) := by decide +kernel
theorem dX3_trace_34 : decode cX3_trace 34 = .ok (.iconst 1, 1) := by decide +kernel
theorem dX3_trace_35 : decode cX3_trace 35 = .ok (.iload 5, 2) := by decide +kernel
theorem dX3_trace_37 : decode cX3_trace 37 = .ok (.ishl, 1) := by decide +kernel
theorem dX3_trace_38 : decode cX3_trace 38 = .ok (.ior, 1) := by decide +kernel
theorem dX3_trace_39 : decode cX3_trace 39 = .ok (.istore 4, 2) := by decide +kernel
theorem dX3_trace_41 : decode cX3_trace 41 = .ok (.iinc 5 1, 3) := by decide +kernel
theorem dX3_trace_44 : decode cX3_trace 44 = .ok (.goto (-30), 3) := by decide +kernel
theorem dX3_trace_47 : decode cX3_trace 47 = .ok (.aload_n 0, 1) := by decide +kernel
theorem dX3_trace_48 : decode cX3_trace 48 = .ok (.getfield 9, 3) := by decide +kernel
theorem dX3_trace_51 : decode cX3_trace 51 = .ok (.iload_n 3, 1) := by decide +kernel
theorem dX3_trace_52 : decode cX3_trace 52 = .ok (.iload 4, 2) := by decide +kernel
theorem dX3_trace_54 : decode cX3_trace 54 = .ok (.iastore, 1) := by decide +kernel
theorem dX3_trace_55 : decode cX3_trace 55 = .ok (.iinc 3 1, 3) := by decide +kernel
theorem dX3_trace_58 : decode cX3_trace 58 = .ok (.goto (-56), 3) := by decide +kernel
theorem dX3_trace_61 : decode cX3_trace 61 = .ok (.return_, 1) := by decide +kernel
set_option maxRecDepth 20000 in
theorem ggX3_takeSide_X3_columnsBeyond : GoodIn wsX3_takeSide wsX3_columnsBeyond := goodIn_r _ [5] (by decide +kernel) (by decide +kernel)
set_option maxRecDepth 20000 in
theorem gX3_takeSide_X3_columnsBeyond : GoodIn wsX3_takeSide (va_wsS RX3 24 yX3_columnsBeyond wsX3_columnsBeyond) := goodIn_app (goodIn_of _ (by decide +kernel)) ggX3_takeSide_X3_columnsBeyond
theorem dX3_takeSide_0 : decode cX3_takeSide 0 = .ok (.iconst 0, 1) := by decide +kernel
theorem dX3_takeSide_1 : decode cX3_takeSide 1 = .ok (.istore 4, 2) := by decide +kernel
theorem dX3_takeSide_3 : decode cX3_takeSide 3 = .ok (.iload 4, 2) := by decide +kernel
theorem dX3_takeSide_5 : decode cX3_takeSide 5 = .ok (.bipush 16, 2) := by decide +kernel
theorem dX3_takeSide_7 : decode cX3_takeSide 7 = .ok (.if_icmp .ge 45, 3) := by decide +kernel
theorem dX3_takeSide_10 : decode cX3_takeSide 10 = .ok (.iload_n 2, 1) := by decide +kernel
theorem dX3_takeSide_11 : decode cX3_takeSide 11 = .ok (.iload 4, 2) := by decide +kernel
theorem dX3_takeSide_13 : decode cX3_takeSide 13 = .ok (.invokestatic 24, 3) := by decide +kernel
theorem dX3_takeSide_16 : decode cX3_takeSide 16 = .ok (.istore 5, 2) := by decide +kernel
theorem dX3_takeSide_18 : decode cX3_takeSide 18 = .ok (.aload_n 0, 1) := by decide +kernel
theorem dX3_takeSide_19 : decode cX3_takeSide 19 = .ok (.getfield 9, 3) := by decide +kernel
theorem dX3_takeSide_22 : decode cX3_takeSide 22 = .ok (.iload 4, 2) := by decide +kernel
theorem dX3_takeSide_24 : decode cX3_takeSide 24 = .ok (.aload_n 1, 1) := by decide +kernel
theorem dX3_takeSide_25 : decode cX3_takeSide 25 = .ok (.getfield 9, 3) := by decide +kernel
theorem dX3_takeSide_28 : decode cX3_takeSide 28 = .ok (.iload 4, 2) := by decide +kernel
theorem dX3_takeSide_30 : decode cX3_takeSide 30 = .ok (.iaload, 1) := by decide +kernel
theorem dX3_takeSide_31 : decode cX3_takeSide 31 = .ok (.iload_n 3, 1) := by decide +kernel
theorem dX3_takeSide_32 : decode cX3_takeSide 32 = .ok (.ifCond .eq 8, 3) := by decide +kernel
theorem dX3_takeSide_35 : decode cX3_takeSide 35 = .ok (.iload 5, 2) := by decide +kernel
theorem dX3_takeSide_37 : decode cX3_takeSide 37 = .ok (.goto 7, 3) := by decide +kernel
theorem dX3_takeSide_40 : decode cX3_takeSide 40 = .ok (.iload 5, 2) := by decide +kernel
theorem dX3_takeSide_42 : decode cX3_takeSide 42 = .ok (.iconst (-1), 1) := by decide +kernel
theorem dX3_takeSide_43 : decode cX3_takeSide 43 = .ok (.ixor, 1) := by decide +kernel
theorem dX3_takeSide_44 : decode cX3_takeSide 44 = .ok (.iand, 1) := by decide +kernel
theorem dX3_takeSide_45 : decode cX3_takeSide 45 = .ok (.iastore, 1) := by decide +kernel
theorem dX3_takeSide_46 : decode cX3_takeSide 46 = .ok (.iinc 4 1, 3) := by decide +kernel
theorem dX3_takeSide_49 : decode cX3_takeSide 49 = .ok (.goto (-46), 3) := by decide +kernel
theorem dX3_takeSide_52 : decode cX3_takeSide 52 = .ok (.return_, 1) := by decide +kernel
theorem dX3_columnsBeyond_0 : decode cX3_columnsBeyond 0 = .ok (.iload_n 0, 1) := by decide +kernel
theorem dX3_columnsBeyond_1 : decode cX3_columnsBeyond 1 = .ok (.bipush 16, 2) := by decide +kernel
theorem dX3_columnsBeyond_3 : decode cX3_columnsBeyond 3 = .ok (.if_icmp .ge 14, 3) := by decide +kernel
theorem dX3_columnsBeyond_6 : decode cX3_columnsBeyond 6 = .ok (.iload_n 1, 1) := by decide +kernel
theorem dX3_columnsBeyond_7 : decode cX3_columnsBeyond 7 = .ok (.iload_n 0, 1) := by decide +kernel
theorem dX3_columnsBeyond_8 : decode cX3_columnsBeyond 8 = .ok (.if_icmp .le 7, 3) := by decide +kernel
theorem dX3_columnsBeyond_11 : decode cX3_columnsBeyond 11 = .ok (.iconst (-1), 1) := by decide +kernel
theorem dX3_columnsBeyond_12 : decode cX3_columnsBeyond 12 = .ok (.goto 4, 3) := by decide +kernel
theorem dX3_columnsBeyond_15 : decode cX3_columnsBeyond 15 = .ok (.iconst 0, 1) := by decide +kernel
theorem dX3_columnsBeyond_16 : decode cX3_columnsBeyond 16 = .ok (.ireturn, 1) := by decide +kernel
theorem dX3_columnsBeyond_17 : decode cX3_columnsBeyond 17 = .ok (.bipush (-2), 2) := by decide +kernel
theorem dX3_columnsBeyond_19 : decode cX3_columnsBeyond 19 = .ok (.iload_n 0, 1) := by decide +kernel
theorem dX3_columnsBeyond_20 : decode cX3_columnsBeyond 20 = .ok (.bipush 16, 2) := by decide +kernel
theorem dX3_columnsBeyond_22 : decode cX3_columnsBeyond 22 = .ok (.isub, 1) := by decide +kernel
theorem dX3_columnsBeyond_23 : decode cX3_columnsBeyond 23 = .ok (.ishl, 1) := by decide +kernel
theorem dX3_columnsBeyond_24 : decode cX3_columnsBeyond 24 = .ok (.ireturn, 1) := by decide +kernel
theorem dX3_has_0 : decode cX3_has 0 = .ok (.iload_n 1, 1) := by decide +kernel
theorem dX3_has_1 : decode cX3_has 1 = .ok (.ifCond .lt 33, 3) := by decide +kernel
theorem dX3_has_4 : decode cX3_has 4 = .ok (.iload_n 1, 1) := by decide +kernel
theorem dX3_has_5 : decode cX3_has 5 = .ok (.sipush 256, 3) := by decide +kernel
theorem dX3_has_8 : decode cX3_has 8 = .ok (.if_icmp .ge 26, 3) := by decide +kernel
theorem dX3_has_11 : decode cX3_has 11 = .ok (.aload_n 0, 1) := by decide +kernel
theorem dX3_has_12 : decode cX3_has 12 = .ok (.getfield 9, 3) := by decide +kernel
theorem dX3_has_15 : decode cX3_has 15 = .ok (.iload_n 1, 1) := by decide +kernel
theorem dX3_has_16 : decode cX3_has 16 = .ok (.bipush 16, 2) := by decide +kernel
theorem dX3_has_18 : decode cX3_has 18 = .ok (.idiv, 1) := by decide +kernel
theorem dX3_has_19 : decode cX3_has 19 = .ok (.iaload, 1) := by decide +kernel
theorem dX3_has_20 : decode cX3_has 20 = .ok (.iload_n 1, 1) := by decide +kernel
theorem dX3_has_21 : decode cX3_has 21 = .ok (.bipush 16, 2) := by decide +kernel
theorem dX3_has_23 : decode cX3_has 23 = .ok (.irem, 1) := by decide +kernel
theorem dX3_has_24 : decode cX3_has 24 = .ok (.iushr, 1) := by decide +kernel
theorem dX3_has_25 : decode cX3_has 25 = .ok (.iconst 1, 1) := by decide +kernel
theorem dX3_has_26 : decode cX3_has 26 = .ok (.iand, 1) := by decide +kernel
theorem dX3_has_27 : decode cX3_has 27 = .ok (.ifCond .eq 7, 3) := by decide +kernel
theorem dX3_has_30 : decode cX3_has 30 = .ok (.iconst 1, 1) := by decide +kernel
theorem dX3_has_31 : decode cX3_has 31 = .ok (.goto 4, 3) := by decide +kernel
theorem dX3_has_34 : decode cX3_has 34 = .ok (.iconst 0, 1) := by decide +kernel
theorem dX3_has_35 : decode cX3_has 35 = .ok (.ireturn, 1) := by decide +kernel
theorem dX3_leave_0 : decode cX3_leave 0 = .ok (.iload_n 1, 1) := by decide +kernel
theorem dX3_leave_1 : decode cX3_leave 1 = .ok (.ifCond .lt 30, 3) := by decide +kernel
theorem dX3_leave_4 : decode cX3_leave 4 = .ok (.iload_n 1, 1) := by decide +kernel
theorem dX3_leave_5 : decode cX3_leave 5 = .ok (.sipush 256, 3) := by decide +kernel
theorem dX3_leave_8 : decode cX3_leave 8 = .ok (.if_icmp .ge 23, 3) := by decide +kernel
theorem dX3_leave_11 : decode cX3_leave 11 = .ok (.aload_n 0, 1) := by decide +kernel
theorem dX3_leave_12 : decode cX3_leave 12 = .ok (.getfield 9, 3) := by decide +kernel
theorem dX3_leave_15 : decode cX3_leave 15 = .ok (.iload_n 1, 1) := by decide +kernel
theorem dX3_leave_16 : decode cX3_leave 16 = .ok (.bipush 16, 2) := by decide +kernel
theorem dX3_leave_18 : decode cX3_leave 18 = .ok (.idiv, 1) := by decide +kernel
theorem dX3_leave_19 : decode cX3_leave 19 = .ok (.dup2, 1) := by decide +kernel
theorem dX3_leave_20 : decode cX3_leave 20 = .ok (.iaload, 1) := by decide +kernel
theorem dX3_leave_21 : decode cX3_leave 21 = .ok (.iconst 1, 1) := by decide +kernel
theorem dX3_leave_22 : decode cX3_leave 22 = .ok (.iload_n 1, 1) := by decide +kernel
theorem dX3_leave_23 : decode cX3_leave 23 = .ok (.bipush 16, 2) := by decide +kernel
theorem dX3_leave_25 : decode cX3_leave 25 = .ok (.irem, 1) := by decide +kernel
theorem dX3_leave_26 : decode cX3_leave 26 = .ok (.ishl, 1) := by decide +kernel
theorem dX3_leave_27 : decode cX3_leave 27 = .ok (.iconst (-1), 1) := by decide +kernel
theorem dX3_leave_28 : decode cX3_leave 28 = .ok (.ixor, 1) := by decide +kernel
theorem dX3_leave_29 : decode cX3_leave 29 = .ok (.iand, 1) := by decide +kernel
theorem dX3_leave_30 : decode cX3_leave 30 = .ok (.iastore, 1) := by decide +kernel
theorem dX3_leave_31 : decode cX3_leave 31 = .ok (.return_, 1) := by decide +kernel
set_option maxRecDepth 20000 in
theorem ggX3_cellCount_J6_bitCount_0f7a4 : GoodIn wsX3_cellCount wsJ6_bitCount_0f7a4 := goodIn_r _ [5, 6, 7, 8] (by decide +kernel) (by decide +kernel)
set_option maxRecDepth 20000 in
theorem gX3_cellCount_J6_bitCount_0f7a4 : GoodIn wsX3_cellCount (va_wsS RX3 27 yJ6_bitCount_0f7a4 wsJ6_bitCount_0f7a4) := goodIn_app (goodIn_of _ (by decide +kernel)) ggX3_cellCount_J6_bitCount_0f7a4
theorem dX3_cellCount_0 : decode cX3_cellCount 0 = .ok (.iconst 0, 1) := by decide +kernel
theorem dX3_cellCount_1 : decode cX3_cellCount 1 = .ok (.istore_n 1, 1) := by decide +kernel
theorem dX3_cellCount_2 : decode cX3_cellCount 2 = .ok (.aload_n 0, 1) := by decide +kernel
theorem dX3_cellCount_3 : decode cX3_cellCount 3 = .ok (.getfield 9, 3) := by decide +kernel
theorem dX3_cellCount_6 : decode cX3_cellCount 6 = .ok (.astore_n 2, 1) := by decide +kernel
theorem dX3_cellCount_7 : decode cX3_cellCount 7 = .ok (.aload_n 2, 1) := by decide +kernel
theorem dX3_cellCount_8 : decode cX3_cellCount 8 = .ok (.arraylength, 1) := by decide +kernel
theorem dX3_cellCount_9 : decode cX3_cellCount 9 = .ok (.istore_n 3, 1) := by decide +kernel
theorem dX3_cellCount_10 : decode cX3_cellCount 10 = .ok (.iconst 0, 1) := by decide +kernel
theorem dX3_cellCount_11 : decode cX3_cellCount 11 = .ok (.istore 4, 2) := by decide +kernel
theorem dX3_cellCount_13 : decode cX3_cellCount 13 = .ok (.iload 4, 2) := by decide +kernel
theorem dX3_cellCount_15 : decode cX3_cellCount 15 = .ok (.iload_n 3, 1) := by decide +kernel
theorem dX3_cellCount_16 : decode cX3_cellCount 16 = .ok (.if_icmp .ge 23, 3) := by decide +kernel
theorem dX3_cellCount_19 : decode cX3_cellCount 19 = .ok (.aload_n 2, 1) := by decide +kernel
theorem dX3_cellCount_20 : decode cX3_cellCount 20 = .ok (.iload 4, 2) := by decide +kernel
theorem dX3_cellCount_22 : decode cX3_cellCount 22 = .ok (.iaload, 1) := by decide +kernel
theorem dX3_cellCount_23 : decode cX3_cellCount 23 = .ok (.istore 5, 2) := by decide +kernel
theorem dX3_cellCount_25 : decode cX3_cellCount 25 = .ok (.iload_n 1, 1) := by decide +kernel
theorem dX3_cellCount_26 : decode cX3_cellCount 26 = .ok (.iload 5, 2) := by decide +kernel
theorem dX3_cellCount_28 : decode cX3_cellCount 28 = .ok (.invokestatic 27, 3) := by decide +kernel
theorem dX3_cellCount_31 : decode cX3_cellCount 31 = .ok (.iadd, 1) := by decide +kernel
theorem dX3_cellCount_32 : decode cX3_cellCount 32 = .ok (.istore_n 1, 1) := by decide +kernel
theorem dX3_cellCount_33 : decode cX3_cellCount 33 = .ok (.iinc 4 1, 3) := by decide +kernel
theorem dX3_cellCount_36 : decode cX3_cellCount 36 = .ok (.goto (-23), 3) := by decide +kernel
theorem dX3_cellCount_39 : decode cX3_cellCount 39 = .ok (.iload_n 1, 1) := by decide +kernel
theorem dX3_cellCount_40 : decode cX3_cellCount 40 = .ok (.ireturn, 1) := by decide +kernel
theorem dX3_height_0 : decode cX3_height 0 = .ok (.iconst 0, 1) := by decide +kernel
theorem dX3_height_1 : decode cX3_height 1 = .ok (.istore_n 1, 1) := by decide +kernel
theorem dX3_height_2 : decode cX3_height 2 = .ok (.aload_n 0, 1) := by decide +kernel
theorem dX3_height_3 : decode cX3_height 3 = .ok (.getfield 9, 3) := by decide +kernel
theorem dX3_height_6 : decode cX3_height 6 = .ok (.astore_n 2, 1) := by decide +kernel
theorem dX3_height_7 : decode cX3_height 7 = .ok (.aload_n 2, 1) := by decide +kernel
theorem dX3_height_8 : decode cX3_height 8 = .ok (.arraylength, 1) := by decide +kernel
theorem dX3_height_9 : decode cX3_height 9 = .ok (.istore_n 3, 1) := by decide +kernel
theorem dX3_height_10 : decode cX3_height 10 = .ok (.iconst 0, 1) := by decide +kernel
theorem dX3_height_11 : decode cX3_height 11 = .ok (.istore 4, 2) := by decide +kernel
theorem dX3_height_13 : decode cX3_height 13 = .ok (.iload 4, 2) := by decide +kernel
theorem dX3_height_15 : decode cX3_height 15 = .ok (.iload_n 3, 1) := by decide +kernel
theorem dX3_height_16 : decode cX3_height 16 = .ok (.if_icmp .ge 23, 3) := by decide +kernel
theorem dX3_height_19 : decode cX3_height 19 = .ok (.aload_n 2, 1) := by decide +kernel
theorem dX3_height_20 : decode cX3_height 20 = .ok (.iload 4, 2) := by decide +kernel
theorem dX3_height_22 : decode cX3_height 22 = .ok (.iaload, 1) := by decide +kernel
theorem dX3_height_23 : decode cX3_height 23 = .ok (.istore 5, 2) := by decide +kernel
theorem dX3_height_25 : decode cX3_height 25 = .ok (.iload 5, 2) := by decide +kernel
theorem dX3_height_27 : decode cX3_height 27 = .ok (.ifCond .eq 6, 3) := by decide +kernel
theorem dX3_height_30 : decode cX3_height 30 = .ok (.iinc 1 1, 3) := by decide +kernel
theorem dX3_height_33 : decode cX3_height 33 = .ok (.iinc 4 1, 3) := by decide +kernel
theorem dX3_height_36 : decode cX3_height 36 = .ok (.goto (-23), 3) := by decide +kernel
theorem dX3_height_39 : decode cX3_height 39 = .ok (.iload_n 1, 1) := by decide +kernel
theorem dX3_height_40 : decode cX3_height 40 = .ok (.ireturn, 1) := by decide +kernel
set_option maxRecDepth 20000 in
theorem ggX3_width_J6_bitCount_0f7a4 : GoodIn wsX3_width wsJ6_bitCount_0f7a4 := goodIn_r _ [5, 6, 7, 8] (by decide +kernel) (by decide +kernel)
set_option maxRecDepth 20000 in
theorem gX3_width_J6_bitCount_0f7a4 : GoodIn wsX3_width (va_wsS RX3 27 yJ6_bitCount_0f7a4 wsJ6_bitCount_0f7a4) := goodIn_app (goodIn_of _ (by decide +kernel)) ggX3_width_J6_bitCount_0f7a4
theorem dX3_width_0 : decode cX3_width 0 = .ok (.iconst 0, 1) := by decide +kernel
theorem dX3_width_1 : decode cX3_width 1 = .ok (.istore_n 1, 1) := by decide +kernel
theorem dX3_width_2 : decode cX3_width 2 = .ok (.aload_n 0, 1) := by decide +kernel
theorem dX3_width_3 : decode cX3_width 3 = .ok (.getfield 9, 3) := by decide +kernel
theorem dX3_width_6 : decode cX3_width 6 = .ok (.astore_n 2, 1) := by decide +kernel
theorem dX3_width_7 : decode cX3_width 7 = .ok (.aload_n 2, 1) := by decide +kernel
theorem dX3_width_8 : decode cX3_width 8 = .ok (.arraylength, 1) := by decide +kernel
theorem dX3_width_9 : decode cX3_width 9 = .ok (.istore_n 3, 1) := by decide +kernel
theorem dX3_width_10 : decode cX3_width 10 = .ok (.iconst 0, 1) := by decide +kernel
theorem dX3_width_11 : decode cX3_width 11 = .ok (.istore 4, 2) := by decide +kernel
theorem dX3_width_13 : decode cX3_width 13 = .ok (.iload 4, 2) := by decide +kernel
theorem dX3_width_15 : decode cX3_width 15 = .ok (.iload_n 3, 1) := by decide +kernel
theorem dX3_width_16 : decode cX3_width 16 = .ok (.if_icmp .ge 20, 3) := by decide +kernel
theorem dX3_width_19 : decode cX3_width 19 = .ok (.aload_n 2, 1) := by decide +kernel
theorem dX3_width_20 : decode cX3_width 20 = .ok (.iload 4, 2) := by decide +kernel
theorem dX3_width_22 : decode cX3_width 22 = .ok (.iaload, 1) := by decide +kernel
theorem dX3_width_23 : decode cX3_width 23 = .ok (.istore 5, 2) := by decide +kernel
theorem dX3_width_25 : decode cX3_width 25 = .ok (.iload_n 1, 1) := by decide +kernel
theorem dX3_width_26 : decode cX3_width 26 = .ok (.iload 5, 2) := by decide +kernel
theorem dX3_width_28 : decode cX3_width 28 = .ok (.ior, 1) := by decide +kernel
theorem dX3_width_29 : decode cX3_width 29 = .ok (.istore_n 1, 1) := by decide +kernel
theorem dX3_width_30 : decode cX3_width 30 = .ok (.iinc 4 1, 3) := by decide +kernel
theorem dX3_width_33 : decode cX3_width 33 = .ok (.goto (-20), 3) := by decide +kernel
theorem dX3_width_36 : decode cX3_width 36 = .ok (.iload_n 1, 1) := by decide +kernel
theorem dX3_width_37 : decode cX3_width 37 = .ok (.invokestatic 27, 3) := by decide +kernel
theorem dX3_width_40 : decode cX3_width 40 = .ok (.ireturn, 1) := by decide +kernel
set_option maxRecDepth 20000 in
theorem ggX3_sidesAlong_X4_isRowLine : GoodIn wsX3_sidesAlong wsX4_isRowLine := goodIn_r _ [3] (by decide +kernel) (by decide +kernel)
set_option maxRecDepth 20000 in
theorem gX3_sidesAlong_X4_isRowLine_n33 : GoodIn wsX3_sidesAlong (wsX4_isRowLine) := ggX3_sidesAlong_X4_isRowLine
set_option maxRecDepth 20000 in
theorem ggX3_sidesAlong_X3_sidesBehindRow : GoodIn wsX3_sidesAlong wsX3_sidesBehindRow := goodIn_r _ [8, 9, 1, 2, 3, 10, 11, 12, 13, 14, 15, 16, 21, 22] (by decide +kernel) (by decide +kernel)
set_option maxRecDepth 20000 in
theorem gX3_sidesAlong_X3_sidesBehindRow : GoodIn wsX3_sidesAlong (wsV RX3 37 RX3 yX3_sidesBehindRow wsX3_sidesBehindRow) := goodIn_app (goodIn_of _ (by decide +kernel)) ggX3_sidesAlong_X3_sidesBehindRow
set_option maxRecDepth 20000 in
theorem ggX3_sidesAlong_X3_sidesBehindColumn : GoodIn wsX3_sidesAlong wsX3_sidesBehindColumn := goodIn_r _ [20, 9, 21, 22] (by decide +kernel) (by decide +kernel)
set_option maxRecDepth 20000 in
theorem gX3_sidesAlong_X3_sidesBehindColumn : GoodIn wsX3_sidesAlong (wsV RX3 40 RX3 yX3_sidesBehindColumn wsX3_sidesBehindColumn) := goodIn_app (goodIn_of _ (by decide +kernel)) ggX3_sidesAlong_X3_sidesBehindColumn
theorem dX3_sidesAlong_0 : decode cX3_sidesAlong 0 = .ok (.iload_n 1, 1) := by decide +kernel
theorem dX3_sidesAlong_1 : decode cX3_sidesAlong 1 = .ok (.invokestatic 33, 3) := by decide +kernel
theorem dX3_sidesAlong_4 : decode cX3_sidesAlong 4 = .ok (.ifCond .eq 11, 3) := by decide +kernel
theorem dX3_sidesAlong_7 : decode cX3_sidesAlong 7 = .ok (.aload_n 0, 1) := by decide +kernel
theorem dX3_sidesAlong_8 : decode cX3_sidesAlong 8 = .ok (.iload_n 1, 1) := by decide +kernel
theorem dX3_sidesAlong_9 : decode cX3_sidesAlong 9 = .ok (.invokevirtual 37, 3) := by decide +kernel
theorem dX3_sidesAlong_12 : decode cX3_sidesAlong 12 = .ok (.goto 11, 3) := by decide +kernel
theorem dX3_sidesAlong_15 : decode cX3_sidesAlong 15 = .ok (.aload_n 0, 1) := by decide +kernel
theorem dX3_sidesAlong_16 : decode cX3_sidesAlong 16 = .ok (.iload_n 1, 1) := by decide +kernel
theorem dX3_sidesAlong_17 : decode cX3_sidesAlong 17 = .ok (.bipush 16, 2) := by decide +kernel
theorem dX3_sidesAlong_19 : decode cX3_sidesAlong 19 = .ok (.isub, 1) := by decide +kernel
theorem dX3_sidesAlong_20 : decode cX3_sidesAlong 20 = .ok (.invokevirtual 40, 3) := by decide +kernel
theorem dX3_sidesAlong_23 : decode cX3_sidesAlong 23 = .ok (.ireturn, 1) := by decide +kernel
set_option maxRecDepth 20000 in
theorem ggX3_sidesBehindRow_X4_isRowLine : GoodIn wsX3_sidesBehindRow wsX4_isRowLine := goodIn_r _ [4] (by decide +kernel) (by decide +kernel)
set_option maxRecDepth 20000 in
theorem gX3_sidesBehindRow_X4_isRowLine_n33 : GoodIn wsX3_sidesBehindRow (wsX4_isRowLine) := ggX3_sidesBehindRow_X4_isRowLine
set_option maxRecDepth 20000 in
theorem ggX3_sidesBehindRow_J6_bitCount_0f7a4 : GoodIn wsX3_sidesBehindRow wsJ6_bitCount_0f7a4 := goodIn_r _ [8, 9, 10, 11] (by decide +kernel) (by decide +kernel)
set_option maxRecDepth 20000 in
theorem gX3_sidesBehindRow_J6_bitCount_0f7a4 : GoodIn wsX3_sidesBehindRow (va_wsS RX3 27 yJ6_bitCount_0f7a4 wsJ6_bitCount_0f7a4) := goodIn_app (goodIn_of _ (by decide +kernel)) ggX3_sidesBehindRow_J6_bitCount_0f7a4
theorem dX3_sidesBehindRow_0 : decode cX3_sidesBehindRow 0 = .ok (.iload_n 1, 1) := by decide +kernel
theorem dX3_sidesBehindRow_1 : decode cX3_sidesBehindRow 1 = .ok (.invokestatic 33, 3) := by decide +kernel
theorem dX3_sidesBehindRow_4 : decode cX3_sidesBehindRow 4 = .ok (.ifCond .eq 24, 3) := by decide +kernel
theorem dX3_sidesBehindRow_7 : decode cX3_sidesBehindRow 7 = .ok (.aload_n 0, 1) := by decide +kernel
theorem dX3_sidesBehindRow_8 : decode cX3_sidesBehindRow 8 = .ok (.getfield 9, 3) := by decide +kernel
theorem dX3_sidesBehindRow_11 : decode cX3_sidesBehindRow 11 = .ok (.iload_n 1, 1) := by decide +kernel
theorem dX3_sidesBehindRow_12 : decode cX3_sidesBehindRow 12 = .ok (.iaload, 1) := by decide +kernel
theorem dX3_sidesBehindRow_13 : decode cX3_sidesBehindRow 13 = .ok (.aload_n 0, 1) := by decide +kernel
theorem dX3_sidesBehindRow_14 : decode cX3_sidesBehindRow 14 = .ok (.getfield 9, 3) := by decide +kernel
theorem dX3_sidesBehindRow_17 : decode cX3_sidesBehindRow 17 = .ok (.iload_n 1, 1) := by decide +kernel
theorem dX3_sidesBehindRow_18 : decode cX3_sidesBehindRow 18 = .ok (.iconst 1, 1) := by decide +kernel
theorem dX3_sidesBehindRow_19 : decode cX3_sidesBehindRow 19 = .ok (.iadd, 1) := by decide +kernel
theorem dX3_sidesBehindRow_20 : decode cX3_sidesBehindRow 20 = .ok (.iaload, 1) := by decide +kernel
theorem dX3_sidesBehindRow_21 : decode cX3_sidesBehindRow 21 = .ok (.iand, 1) := by decide +kernel
theorem dX3_sidesBehindRow_22 : decode cX3_sidesBehindRow 22 = .ok (.invokestatic 27, 3) := by decide +kernel
theorem dX3_sidesBehindRow_25 : decode cX3_sidesBehindRow 25 = .ok (.goto 4, 3) := by decide +kernel
theorem dX3_sidesBehindRow_28 : decode cX3_sidesBehindRow 28 = .ok (.iconst 0, 1) := by decide +kernel
theorem dX3_sidesBehindRow_29 : decode cX3_sidesBehindRow 29 = .ok (.ireturn, 1) := by decide +kernel
theorem dX3_sidesBehindColumn_0 : decode cX3_sidesBehindColumn 0 = .ok (.iconst 0, 1) := by decide +kernel
theorem dX3_sidesBehindColumn_1 : decode cX3_sidesBehindColumn 1 = .ok (.istore_n 2, 1) := by decide +kernel
theorem dX3_sidesBehindColumn_2 : decode cX3_sidesBehindColumn 2 = .ok (.aload_n 0, 1) := by decide +kernel
theorem dX3_sidesBehindColumn_3 : decode cX3_sidesBehindColumn 3 = .ok (.getfield 9, 3) := by decide +kernel
theorem dX3_sidesBehindColumn_6 : decode cX3_sidesBehindColumn 6 = .ok (.astore_n 3, 1) := by decide +kernel
theorem dX3_sidesBehindColumn_7 : decode cX3_sidesBehindColumn 7 = .ok (.aload_n 3, 1) := by decide +kernel
theorem dX3_sidesBehindColumn_8 : decode cX3_sidesBehindColumn 8 = .ok (.arraylength, 1) := by decide +kernel
theorem dX3_sidesBehindColumn_9 : decode cX3_sidesBehindColumn 9 = .ok (.istore 4, 2) := by decide +kernel
theorem dX3_sidesBehindColumn_11 : decode cX3_sidesBehindColumn 11 = .ok (.iconst 0, 1) := by decide +kernel
theorem dX3_sidesBehindColumn_12 : decode cX3_sidesBehindColumn 12 = .ok (.istore 5, 2) := by decide +kernel
theorem dX3_sidesBehindColumn_14 : decode cX3_sidesBehindColumn 14 = .ok (.iload 5, 2) := by decide +kernel
theorem dX3_sidesBehindColumn_16 : decode cX3_sidesBehindColumn 16 = .ok (.iload 4, 2) := by decide +kernel
theorem dX3_sidesBehindColumn_18 : decode cX3_sidesBehindColumn 18 = .ok (.if_icmp .ge 33, 3) := by decide +kernel
theorem dX3_sidesBehindColumn_21 : decode cX3_sidesBehindColumn 21 = .ok (.aload_n 3, 1) := by decide +kernel
theorem dX3_sidesBehindColumn_22 : decode cX3_sidesBehindColumn 22 = .ok (.iload 5, 2) := by decide +kernel
theorem dX3_sidesBehindColumn_24 : decode cX3_sidesBehindColumn 24 = .ok (.iaload, 1) := by decide +kernel
theorem dX3_sidesBehindColumn_25 : decode cX3_sidesBehindColumn 25 = .ok (.istore 6, 2) := by decide +kernel
theorem dX3_sidesBehindColumn_27 : decode cX3_sidesBehindColumn 27 = .ok (.iload 6, 2) := by decide +kernel
theorem dX3_sidesBehindColumn_29 : decode cX3_sidesBehindColumn 29 = .ok (.iload 6, 2) := by decide +kernel
theorem dX3_sidesBehindColumn_31 : decode cX3_sidesBehindColumn 31 = .ok (.iconst 1, 1) := by decide +kernel
theorem dX3_sidesBehindColumn_32 : decode cX3_sidesBehindColumn 32 = .ok (.iushr, 1) := by decide +kernel
theorem dX3_sidesBehindColumn_33 : decode cX3_sidesBehindColumn 33 = .ok (.iand, 1) := by decide +kernel
theorem dX3_sidesBehindColumn_34 : decode cX3_sidesBehindColumn 34 = .ok (.istore 7, 2) := by decide +kernel
theorem dX3_sidesBehindColumn_36 : decode cX3_sidesBehindColumn 36 = .ok (.iload_n 2, 1) := by decide +kernel
theorem dX3_sidesBehindColumn_37 : decode cX3_sidesBehindColumn 37 = .ok (.iload 7, 2) := by decide +kernel
theorem dX3_sidesBehindColumn_39 : decode cX3_sidesBehindColumn 39 = .ok (.iload_n 1, 1) := by decide +kernel
theorem dX3_sidesBehindColumn_40 : decode cX3_sidesBehindColumn 40 = .ok (.iushr, 1) := by decide +kernel
theorem dX3_sidesBehindColumn_41 : decode cX3_sidesBehindColumn 41 = .ok (.iconst 1, 1) := by decide +kernel
theorem dX3_sidesBehindColumn_42 : decode cX3_sidesBehindColumn 42 = .ok (.iand, 1) := by decide +kernel
theorem dX3_sidesBehindColumn_43 : decode cX3_sidesBehindColumn 43 = .ok (.iadd, 1) := by decide +kernel
theorem dX3_sidesBehindColumn_44 : decode cX3_sidesBehindColumn 44 = .ok (.istore_n 2, 1) := by decide +kernel
theorem dX3_sidesBehindColumn_45 : decode cX3_sidesBehindColumn 45 = .ok (.iinc 5 1, 3) := by decide +kernel
theorem dX3_sidesBehindColumn_48 : decode cX3_sidesBehindColumn 48 = .ok (.goto (-34), 3) := by decide +kernel
theorem dX3_sidesBehindColumn_51 : decode cX3_sidesBehindColumn 51 = .ok (.iload_n 2, 1) := by decide +kernel
theorem dX3_sidesBehindColumn_52 : decode cX3_sidesBehindColumn 52 = .ok (.ireturn, 1) := by decide +kernel
set_option maxRecDepth 20000 in
theorem ggX3_isGoodPart_X3_cutFault : GoodIn wsX3_isGoodPart wsX3_cutFault := goodIn_r _ [5, 6, 7, 8, 4, 9, 10, 11, 12, 13, 14, 15, 16, 17, 18, 19, 20, 21, 46, 47] (by decide +kernel) (by decide +kernel)
set_option maxRecDepth 20000 in
theorem gX3_isGoodPart_X3_cutFault : GoodIn wsX3_isGoodPart (wsV RX3 43 RX3 yX3_cutFault wsX3_cutFault) := goodIn_app (goodIn_of _ (by decide +kernel)) ggX3_isGoodPart_X3_cutFault
set_option maxRecDepth 20000 in
theorem ggX3_isGoodPart_X3_isOnePart : GoodIn wsX3_isGoodPart wsX3_isOnePart := goodIn_r _ [25, 26, 27, 28, 4, 29, 30, 10, 31, 32, 33, 34, 35, 36, 37, 38, 39, 40, 41, 42, 43, 44, 45, 46, 47] (by decide +kernel) (by decide +kernel)
set_option maxRecDepth 20000 in
theorem gX3_isGoodPart_X3_isOnePart : GoodIn wsX3_isGoodPart (wsV RX3 47 RX3 yX3_isOnePart wsX3_isOnePart) := goodIn_app (goodIn_of _ (by decide +kernel)) ggX3_isGoodPart_X3_isOnePart
theorem dX3_isGoodPart_0 : decode cX3_isGoodPart 0 = .ok (.aload_n 0, 1) := by decide +kernel
theorem dX3_isGoodPart_1 : decode cX3_isGoodPart 1 = .ok (.invokevirtual 43, 3) := by decide +kernel
theorem dX3_isGoodPart_4 : decode cX3_isGoodPart 4 = .ok (.ifCond .ne 14, 3) := by decide +kernel
theorem dX3_isGoodPart_7 : decode cX3_isGoodPart 7 = .ok (.aload_n 0, 1) := by decide +kernel
theorem dX3_isGoodPart_8 : decode cX3_isGoodPart 8 = .ok (.invokevirtual 47, 3) := by decide +kernel
theorem dX3_isGoodPart_11 : decode cX3_isGoodPart 11 = .ok (.ifCond .eq 7, 3) := by decide +kernel
theorem dX3_isGoodPart_14 : decode cX3_isGoodPart 14 = .ok (.iconst 1, 1) := by decide +kernel
theorem dX3_isGoodPart_15 : decode cX3_isGoodPart 15 = .ok (.goto 4, 3) := by decide +kernel
theorem dX3_isGoodPart_18 : decode cX3_isGoodPart 18 = .ok (.iconst 0, 1) := by decide +kernel
theorem dX3_isGoodPart_19 : decode cX3_isGoodPart 19 = .ok (.ireturn, 1) := by decide +kernel
set_option maxRecDepth 20000 in
theorem ggX3_cutFault_X3_hasGap : GoodIn wsX3_cutFault wsX3_hasGap := goodIn_r _ [5, 6, 18, 19] (by decide +kernel) (by decide +kernel)
set_option maxRecDepth 20000 in
theorem gX3_cutFault_X3_hasGap : GoodIn wsX3_cutFault (wsV RX3 51 RX3 yX3_hasGap wsX3_hasGap) := goodIn_app (goodIn_of _ (by decide +kernel)) ggX3_cutFault_X3_hasGap
set_option maxRecDepth 20000 in
theorem ggX3_cutFault_X3_isThin : GoodIn wsX3_cutFault wsX3_isThin := goodIn_r _ [10, 6, 11, 12, 13, 4, 14, 15, 16, 17, 18, 19] (by decide +kernel) (by decide +kernel)
set_option maxRecDepth 20000 in
theorem gX3_cutFault_X3_isThin : GoodIn wsX3_cutFault (wsV RX3 54 RX3 yX3_isThin wsX3_isThin) := goodIn_app (goodIn_of _ (by decide +kernel)) ggX3_cutFault_X3_isThin
theorem dX3_cutFault_0 : decode cX3_cutFault 0 = .ok (.aload_n 0, 1) := by decide +kernel
theorem dX3_cutFault_1 : decode cX3_cutFault 1 = .ok (.invokevirtual 51, 3) := by decide +kernel
theorem dX3_cutFault_4 : decode cX3_cutFault 4 = .ok (.ifCond .eq 5, 3) := by decide +kernel
theorem dX3_cutFault_7 : decode cX3_cutFault 7 = .ok (.iconst 1, 1) := by decide +kernel
theorem dX3_cutFault_8 : decode cX3_cutFault 8 = .ok (.ireturn, 1) := by decide +kernel
theorem dX3_cutFault_9 : decode cX3_cutFault 9 = .ok (.aload_n 0, 1) := by decide +kernel
theorem dX3_cutFault_10 : decode cX3_cutFault 10 = .ok (.invokevirtual 54, 3) := by decide +kernel
theorem dX3_cutFault_13 : decode cX3_cutFault 13 = .ok (.ifCond .eq 7, 3) := by decide +kernel
theorem dX3_cutFault_16 : decode cX3_cutFault 16 = .ok (.iconst 2, 1) := by decide +kernel
theorem dX3_cutFault_17 : decode cX3_cutFault 17 = .ok (.goto 4, 3) := by decide +kernel
theorem dX3_cutFault_20 : decode cX3_cutFault 20 = .ok (.iconst 0, 1) := by decide +kernel
theorem dX3_cutFault_21 : decode cX3_cutFault 21 = .ok (.ireturn, 1) := by decide +kernel
theorem dX3_hasGap_0 : decode cX3_hasGap 0 = .ok (.iconst 0, 1) := by decide +kernel
theorem dX3_hasGap_1 : decode cX3_hasGap 1 = .ok (.istore_n 1, 1) := by decide +kernel
theorem dX3_hasGap_2 : decode cX3_hasGap 2 = .ok (.iconst 0, 1) := by decide +kernel
theorem dX3_hasGap_3 : decode cX3_hasGap 3 = .ok (.istore_n 2, 1) := by decide +kernel
theorem dX3_hasGap_4 : decode cX3_hasGap 4 = .ok (.aload_n 0, 1) := by decide +kernel
theorem dX3_hasGap_5 : decode cX3_hasGap 5 = .ok (.getfield 9, 3) := by decide +kernel
theorem dX3_hasGap_8 : decode cX3_hasGap 8 = .ok (.astore_n 3, 1) := by decide +kernel
theorem dX3_hasGap_9 : decode cX3_hasGap 9 = .ok (.aload_n 3, 1) := by decide +kernel
theorem dX3_hasGap_10 : decode cX3_hasGap 10 = .ok (.arraylength, 1) := by decide +kernel
theorem dX3_hasGap_11 : decode cX3_hasGap 11 = .ok (.istore 4, 2) := by decide +kernel
theorem dX3_hasGap_13 : decode cX3_hasGap 13 = .ok (.iconst 0, 1) := by decide +kernel
theorem dX3_hasGap_14 : decode cX3_hasGap 14 = .ok (.istore 5, 2) := by decide +kernel
theorem dX3_hasGap_16 : decode cX3_hasGap 16 = .ok (.iload 5, 2) := by decide +kernel
theorem dX3_hasGap_18 : decode cX3_hasGap 18 = .ok (.iload 4, 2) := by decide +kernel
theorem dX3_hasGap_20 : decode cX3_hasGap 20 = .ok (.if_icmp .ge 57, 3) := by decide +kernel
theorem dX3_hasGap_23 : decode cX3_hasGap 23 = .ok (.aload_n 3, 1) := by decide +kernel
theorem dX3_hasGap_24 : decode cX3_hasGap 24 = .ok (.iload 5, 2) := by decide +kernel
theorem dX3_hasGap_26 : decode cX3_hasGap 26 = .ok (.iaload, 1) := by decide +kernel
theorem dX3_hasGap_27 : decode cX3_hasGap 27 = .ok (.istore 6, 2) := by decide +kernel
theorem dX3_hasGap_29 : decode cX3_hasGap 29 = .ok (.iload_n 2, 1) := by decide +kernel
theorem dX3_hasGap_30 : decode cX3_hasGap 30 = .ok (.iload_n 1, 1) := by decide +kernel
theorem dX3_hasGap_31 : decode cX3_hasGap 31 = .ok (.iload 6, 2) := by decide +kernel
theorem dX3_hasGap_33 : decode cX3_hasGap 33 = .ok (.iconst (-1), 1) := by decide +kernel
theorem dX3_hasGap_34 : decode cX3_hasGap 34 = .ok (.ixor, 1) := by decide +kernel
theorem dX3_hasGap_35 : decode cX3_hasGap 35 = .ok (.iand, 1) := by decide +kernel
theorem dX3_hasGap_36 : decode cX3_hasGap 36 = .ok (.ior, 1) := by decide +kernel
theorem dX3_hasGap_37 : decode cX3_hasGap 37 = .ok (.istore_n 2, 1) := by decide +kernel
theorem dX3_hasGap_38 : decode cX3_hasGap 38 = .ok (.iload_n 1, 1) := by decide +kernel
theorem dX3_hasGap_39 : decode cX3_hasGap 39 = .ok (.iload 6, 2) := by decide +kernel
theorem dX3_hasGap_41 : decode cX3_hasGap 41 = .ok (.ior, 1) := by decide +kernel
theorem dX3_hasGap_42 : decode cX3_hasGap 42 = .ok (.istore_n 1, 1) := by decide +kernel
theorem dX3_hasGap_43 : decode cX3_hasGap 43 = .ok (.iload 6, 2) := by decide +kernel
theorem dX3_hasGap_45 : decode cX3_hasGap 45 = .ok (.iload 6, 2) := by decide +kernel
theorem dX3_hasGap_47 : decode cX3_hasGap 47 = .ok (.iload 6, 2) := by decide +kernel
theorem dX3_hasGap_49 : decode cX3_hasGap 49 = .ok (.iload 6, 2) := by decide +kernel
theorem dX3_hasGap_51 : decode cX3_hasGap 51 = .ok (.ineg, 1) := by decide +kernel
theorem dX3_hasGap_52 : decode cX3_hasGap 52 = .ok (.iand, 1) := by decide +kernel
theorem dX3_hasGap_53 : decode cX3_hasGap 53 = .ok (.iadd, 1) := by decide +kernel
theorem dX3_hasGap_54 : decode cX3_hasGap 54 = .ok (.iand, 1) := by decide +kernel
theorem dX3_hasGap_55 : decode cX3_hasGap 55 = .ok (.istore 7, 2) := by decide +kernel
theorem dX3_hasGap_57 : decode cX3_hasGap 57 = .ok (.iload 7, 2) := by decide +kernel
theorem dX3_hasGap_59 : decode cX3_hasGap 59 = .ok (.ifCond .ne 10, 3) := by decide +kernel
theorem dX3_hasGap_62 : decode cX3_hasGap 62 = .ok (.iload_n 2, 1) := by decide +kernel
theorem dX3_hasGap_63 : decode cX3_hasGap 63 = .ok (.iload 6, 2) := by decide +kernel
theorem dX3_hasGap_65 : decode cX3_hasGap 65 = .ok (.iand, 1) := by decide +kernel
theorem dX3_hasGap_66 : decode cX3_hasGap 66 = .ok (.ifCond .eq 5, 3) := by decide +kernel
theorem dX3_hasGap_69 : decode cX3_hasGap 69 = .ok (.iconst 1, 1) := by decide +kernel
theorem dX3_hasGap_70 : decode cX3_hasGap 70 = .ok (.ireturn, 1) := by decide +kernel
theorem dX3_hasGap_71 : decode cX3_hasGap 71 = .ok (.iinc 5 1, 3) := by decide +kernel
theorem dX3_hasGap_74 : decode cX3_hasGap 74 = .ok (.goto (-58), 3) := by decide +kernel
theorem dX3_hasGap_77 : decode cX3_hasGap 77 = .ok (.iconst 0, 1) := by decide +kernel
theorem dX3_hasGap_78 : decode cX3_hasGap 78 = .ok (.ireturn, 1) := by decide +kernel
set_option maxRecDepth 20000 in
theorem ggX3_isThin_X3_squaresBelow : GoodIn wsX3_isThin wsX3_squaresBelow := goodIn_r _ [6, 1, 7, 8, 9, 10, 11] (by decide +kernel) (by decide +kernel)
set_option maxRecDepth 20000 in
theorem gX3_isThin_X3_squaresBelow : GoodIn wsX3_isThin (wsV RX3 57 RX3 yX3_squaresBelow wsX3_squaresBelow) := goodIn_app (goodIn_of _ (by decide +kernel)) ggX3_isThin_X3_squaresBelow
theorem dX3_isThin_0 : decode cX3_isThin 0 = .ok (.iconst 0, 1) := by decide +kernel
theorem dX3_isThin_1 : decode cX3_isThin 1 = .ok (.istore_n 1, 1) := by decide +kernel
theorem dX3_isThin_2 : decode cX3_isThin 2 = .ok (.iload_n 1, 1) := by decide +kernel
theorem dX3_isThin_3 : decode cX3_isThin 3 = .ok (.bipush 16, 2) := by decide +kernel
theorem dX3_isThin_5 : decode cX3_isThin 5 = .ok (.if_icmp .ge 42, 3) := by decide +kernel
theorem dX3_isThin_8 : decode cX3_isThin 8 = .ok (.aload_n 0, 1) := by decide +kernel
theorem dX3_isThin_9 : decode cX3_isThin 9 = .ok (.iload_n 1, 1) := by decide +kernel
theorem dX3_isThin_10 : decode cX3_isThin 10 = .ok (.iconst 1, 1) := by decide +kernel
theorem dX3_isThin_11 : decode cX3_isThin 11 = .ok (.isub, 1) := by decide +kernel
theorem dX3_isThin_12 : decode cX3_isThin 12 = .ok (.invokevirtual 57, 3) := by decide +kernel
theorem dX3_isThin_15 : decode cX3_isThin 15 = .ok (.aload_n 0, 1) := by decide +kernel
theorem dX3_isThin_16 : decode cX3_isThin 16 = .ok (.iload_n 1, 1) := by decide +kernel
theorem dX3_isThin_17 : decode cX3_isThin 17 = .ok (.invokevirtual 57, 3) := by decide +kernel
theorem dX3_isThin_20 : decode cX3_isThin 20 = .ok (.ior, 1) := by decide +kernel
theorem dX3_isThin_21 : decode cX3_isThin 21 = .ok (.istore_n 2, 1) := by decide +kernel
theorem dX3_isThin_22 : decode cX3_isThin 22 = .ok (.aload_n 0, 1) := by decide +kernel
theorem dX3_isThin_23 : decode cX3_isThin 23 = .ok (.getfield 9, 3) := by decide +kernel
theorem dX3_isThin_26 : decode cX3_isThin 26 = .ok (.iload_n 1, 1) := by decide +kernel
theorem dX3_isThin_27 : decode cX3_isThin 27 = .ok (.iaload, 1) := by decide +kernel
theorem dX3_isThin_28 : decode cX3_isThin 28 = .ok (.iload_n 2, 1) := by decide +kernel
theorem dX3_isThin_29 : decode cX3_isThin 29 = .ok (.iload_n 2, 1) := by decide +kernel
theorem dX3_isThin_30 : decode cX3_isThin 30 = .ok (.iconst 1, 1) := by decide +kernel
theorem dX3_isThin_31 : decode cX3_isThin 31 = .ok (.ishl, 1) := by decide +kernel
theorem dX3_isThin_32 : decode cX3_isThin 32 = .ok (.ior, 1) := by decide +kernel
theorem dX3_isThin_33 : decode cX3_isThin 33 = .ok (.iconst (-1), 1) := by decide +kernel
theorem dX3_isThin_34 : decode cX3_isThin 34 = .ok (.ixor, 1) := by decide +kernel
theorem dX3_isThin_35 : decode cX3_isThin 35 = .ok (.iand, 1) := by decide +kernel
theorem dX3_isThin_36 : decode cX3_isThin 36 = .ok (.ifCond .eq 5, 3) := by decide +kernel
theorem dX3_isThin_39 : decode cX3_isThin 39 = .ok (.iconst 1, 1) := by decide +kernel
theorem dX3_isThin_40 : decode cX3_isThin 40 = .ok (.ireturn, 1) := by decide +kernel
theorem dX3_isThin_41 : decode cX3_isThin 41 = .ok (.iinc 1 1, 3) := by decide +kernel
theorem dX3_isThin_44 : decode cX3_isThin 44 = .ok (.goto (-42), 3) := by decide +kernel
theorem dX3_isThin_47 : decode cX3_isThin 47 = .ok (.iconst 0, 1) := by decide +kernel
theorem dX3_isThin_48 : decode cX3_isThin 48 = .ok (.ireturn, 1) := by decide +kernel
set_option maxRecDepth 20000 in
theorem ggX3_squaresBelow_X4_isRowLine : GoodIn wsX3_squaresBelow wsX4_isRowLine := goodIn_r _ [4] (by decide +kernel) (by decide +kernel)
set_option maxRecDepth 20000 in
theorem gX3_squaresBelow_X4_isRowLine_n33 : GoodIn wsX3_squaresBelow (wsX4_isRowLine) := ggX3_squaresBelow_X4_isRowLine
theorem dX3_squaresBelow_0 : decode cX3_squaresBelow 0 = .ok (.iload_n 1, 1) := by decide +kernel
theorem dX3_squaresBelow_1 : decode cX3_squaresBelow 1 = .ok (.invokestatic 33, 3) := by decide +kernel
theorem dX3_squaresBelow_4 : decode cX3_squaresBelow 4 = .ok (.ifCond .ne 5, 3) := by decide +kernel
theorem dX3_squaresBelow_7 : decode cX3_squaresBelow 7 = .ok (.iconst 0, 1) := by decide +kernel
theorem dX3_squaresBelow_8 : decode cX3_squaresBelow 8 = .ok (.ireturn, 1) := by decide +kernel
theorem dX3_squaresBelow_9 : decode cX3_squaresBelow 9 = .ok (.aload_n 0, 1) := by decide +kernel
theorem dX3_squaresBelow_10 : decode cX3_squaresBelow 10 = .ok (.getfield 9, 3) := by decide +kernel
theorem dX3_squaresBelow_13 : decode cX3_squaresBelow 13 = .ok (.iload_n 1, 1) := by decide +kernel
theorem dX3_squaresBelow_14 : decode cX3_squaresBelow 14 = .ok (.iaload, 1) := by decide +kernel
theorem dX3_squaresBelow_15 : decode cX3_squaresBelow 15 = .ok (.aload_n 0, 1) := by decide +kernel
theorem dX3_squaresBelow_16 : decode cX3_squaresBelow 16 = .ok (.getfield 9, 3) := by decide +kernel
theorem dX3_squaresBelow_19 : decode cX3_squaresBelow 19 = .ok (.iload_n 1, 1) := by decide +kernel
theorem dX3_squaresBelow_20 : decode cX3_squaresBelow 20 = .ok (.iconst 1, 1) := by decide +kernel
theorem dX3_squaresBelow_21 : decode cX3_squaresBelow 21 = .ok (.iadd, 1) := by decide +kernel
theorem dX3_squaresBelow_22 : decode cX3_squaresBelow 22 = .ok (.iaload, 1) := by decide +kernel
theorem dX3_squaresBelow_23 : decode cX3_squaresBelow 23 = .ok (.iand, 1) := by decide +kernel
theorem dX3_squaresBelow_24 : decode cX3_squaresBelow 24 = .ok (.istore_n 2, 1) := by decide +kernel
theorem dX3_squaresBelow_25 : decode cX3_squaresBelow 25 = .ok (.iload_n 2, 1) := by decide +kernel
theorem dX3_squaresBelow_26 : decode cX3_squaresBelow 26 = .ok (.iload_n 2, 1) := by decide +kernel
theorem dX3_squaresBelow_27 : decode cX3_squaresBelow 27 = .ok (.iconst 1, 1) := by decide +kernel
theorem dX3_squaresBelow_28 : decode cX3_squaresBelow 28 = .ok (.iushr, 1) := by decide +kernel
theorem dX3_squaresBelow_29 : decode cX3_squaresBelow 29 = .ok (.iand, 1) := by decide +kernel
theorem dX3_squaresBelow_30 : decode cX3_squaresBelow 30 = .ok (.ireturn, 1) := by decide +kernel
set_option maxRecDepth 20000 in
theorem ggX3_isOnePart_X3_reachFirst : GoodIn wsX3_isOnePart wsX3_reachFirst := goodIn_r _ [5, 6, 7, 8, 9, 10, 11, 23, 24] (by decide +kernel) (by decide +kernel)
set_option maxRecDepth 20000 in
theorem gX3_isOnePart_X3_reachFirst : GoodIn wsX3_isOnePart (wsV RX3 60 RX3 yX3_reachFirst wsX3_reachFirst) := goodIn_app (goodIn_of _ (by decide +kernel)) ggX3_isOnePart_X3_reachFirst
set_option maxRecDepth 20000 in
theorem ggX3_isOnePart_X3_reachFarther : GoodIn wsX3_isOnePart wsX3_reachFarther := goodIn_r _ [15, 6, 7, 16, 17, 4, 18, 23, 24] (by decide +kernel) (by decide +kernel)
set_option maxRecDepth 20000 in
theorem gX3_isOnePart_X3_reachFarther : GoodIn wsX3_isOnePart (wsV RX3 63 RX3 yX3_reachFarther wsX3_reachFarther) := goodIn_app (goodIn_of _ (by decide +kernel)) ggX3_isOnePart_X3_reachFarther
set_option maxRecDepth 20000 in
theorem ggX3_isOnePart_X3_reachesAll : GoodIn wsX3_isOnePart wsX3_reachesAll := goodIn_r _ [22, 6, 7, 23, 24] (by decide +kernel) (by decide +kernel)
set_option maxRecDepth 20000 in
theorem gX3_isOnePart_X3_reachesAll : GoodIn wsX3_isOnePart (wsV RX3 66 RX3 yX3_reachesAll wsX3_reachesAll) := goodIn_app (goodIn_of _ (by decide +kernel)) ggX3_isOnePart_X3_reachesAll
theorem dX3_isOnePart_0 : decode cX3_isOnePart 0 = .ok (.aload_n 0, 1) := by decide +kernel
theorem dX3_isOnePart_1 : decode cX3_isOnePart 1 = .ok (.invokevirtual 60, 3) := by decide +kernel
theorem dX3_isOnePart_4 : decode cX3_isOnePart 4 = .ok (.istore_n 1, 1) := by decide +kernel
theorem dX3_isOnePart_5 : decode cX3_isOnePart 5 = .ok (.iconst 0, 1) := by decide +kernel
theorem dX3_isOnePart_6 : decode cX3_isOnePart 6 = .ok (.istore_n 2, 1) := by decide +kernel
theorem dX3_isOnePart_7 : decode cX3_isOnePart 7 = .ok (.iload_n 2, 1) := by decide +kernel
theorem dX3_isOnePart_8 : decode cX3_isOnePart 8 = .ok (.sipush 256, 3) := by decide +kernel
theorem dX3_isOnePart_11 : decode cX3_isOnePart 11 = .ok (.if_icmp .ge 18, 3) := by decide +kernel
theorem dX3_isOnePart_14 : decode cX3_isOnePart 14 = .ok (.iload_n 1, 1) := by decide +kernel
theorem dX3_isOnePart_15 : decode cX3_isOnePart 15 = .ok (.ifCond .eq 14, 3) := by decide +kernel
theorem dX3_isOnePart_18 : decode cX3_isOnePart 18 = .ok (.aload_n 0, 1) := by decide +kernel
theorem dX3_isOnePart_19 : decode cX3_isOnePart 19 = .ok (.invokevirtual 63, 3) := by decide +kernel
theorem dX3_isOnePart_22 : decode cX3_isOnePart 22 = .ok (.istore_n 1, 1) := by decide +kernel
theorem dX3_isOnePart_23 : decode cX3_isOnePart 23 = .ok (.iinc 2 1, 3) := by decide +kernel
theorem dX3_isOnePart_26 : decode cX3_isOnePart 26 = .ok (.goto (-19), 3) := by decide +kernel
theorem dX3_isOnePart_29 : decode cX3_isOnePart 29 = .ok (.aload_n 0, 1) := by decide +kernel
theorem dX3_isOnePart_30 : decode cX3_isOnePart 30 = .ok (.invokevirtual 66, 3) := by decide +kernel
theorem dX3_isOnePart_33 : decode cX3_isOnePart 33 = .ok (.ireturn, 1) := by decide +kernel
set_option maxRecDepth 20000 in
theorem ggX3_reachFirst_J7_fill_53178 : GoodIn wsX3_reachFirst wsJ7_fill_53178 := goodIn_r _ [6] (by decide +kernel) (by decide +kernel)
set_option maxRecDepth 20000 in
theorem gX3_reachFirst_J7_fill_53178 : GoodIn wsX3_reachFirst (va_wsS RX3 69 yJ7_fill_53178 wsJ7_fill_53178) := goodIn_app (goodIn_of _ (by decide +kernel)) ggX3_reachFirst_J7_fill_53178
theorem dX3_reachFirst_0 : decode cX3_reachFirst 0 = .ok (.aload_n 0, 1) := by decide +kernel
theorem dX3_reachFirst_1 : decode cX3_reachFirst 1 = .ok (.getfield 15, 3) := by decide +kernel
theorem dX3_reachFirst_4 : decode cX3_reachFirst 4 = .ok (.iconst 0, 1) := by decide +kernel
theorem dX3_reachFirst_5 : decode cX3_reachFirst 5 = .ok (.invokestatic 69, 3) := by decide +kernel
theorem dX3_reachFirst_8 : decode cX3_reachFirst 8 = .ok (.iconst 0, 1) := by decide +kernel
theorem dX3_reachFirst_9 : decode cX3_reachFirst 9 = .ok (.istore_n 1, 1) := by decide +kernel
theorem dX3_reachFirst_10 : decode cX3_reachFirst 10 = .ok (.iload_n 1, 1) := by decide +kernel
theorem dX3_reachFirst_11 : decode cX3_reachFirst 11 = .ok (.bipush 16, 2) := by decide +kernel
theorem dX3_reachFirst_13 : decode cX3_reachFirst 13 = .ok (.if_icmp .ge 40, 3) := by decide +kernel
theorem dX3_reachFirst_16 : decode cX3_reachFirst 16 = .ok (.aload_n 0, 1) := by decide +kernel
theorem dX3_reachFirst_17 : decode cX3_reachFirst 17 = .ok (.getfield 9, 3) := by decide +kernel
theorem dX3_reachFirst_20 : decode cX3_reachFirst 20 = .ok (.iload_n 1, 1) := by decide +kernel
theorem dX3_reachFirst_21 : decode cX3_reachFirst 21 = .ok (.iaload, 1) := by decide +kernel
theorem dX3_reachFirst_22 : decode cX3_reachFirst 22 = .ok (.ifCond .eq 25, 3) := by decide +kernel
theorem dX3_reachFirst_25 : decode cX3_reachFirst 25 = .ok (.aload_n 0, 1) := by decide +kernel
theorem dX3_reachFirst_26 : decode cX3_reachFirst 26 = .ok (.getfield 15, 3) := by decide +kernel
theorem dX3_reachFirst_29 : decode cX3_reachFirst 29 = .ok (.iload_n 1, 1) := by decide +kernel
theorem dX3_reachFirst_30 : decode cX3_reachFirst 30 = .ok (.aload_n 0, 1) := by decide +kernel
theorem dX3_reachFirst_31 : decode cX3_reachFirst 31 = .ok (.getfield 9, 3) := by decide +kernel
theorem dX3_reachFirst_34 : decode cX3_reachFirst 34 = .ok (.iload_n 1, 1) := by decide +kernel
theorem dX3_reachFirst_35 : decode cX3_reachFirst 35 = .ok (.iaload, 1) := by decide +kernel
theorem dX3_reachFirst_36 : decode cX3_reachFirst 36 = .ok (.aload_n 0, 1) := by decide +kernel
theorem dX3_reachFirst_37 : decode cX3_reachFirst 37 = .ok (.getfield 9, 3) := by decide +kernel
theorem dX3_reachFirst_40 : decode cX3_reachFirst 40 = .ok (.iload_n 1, 1) := by decide +kernel
theorem dX3_reachFirst_41 : decode cX3_reachFirst 41 = .ok (.iaload, 1) := by decide +kernel
theorem dX3_reachFirst_42 : decode cX3_reachFirst 42 = .ok (.ineg, 1) := by decide +kernel
theorem dX3_reachFirst_43 : decode cX3_reachFirst 43 = .ok (.iand, 1) := by decide +kernel
theorem dX3_reachFirst_44 : decode cX3_reachFirst 44 = .ok (.iastore, 1) := by decide +kernel
theorem dX3_reachFirst_45 : decode cX3_reachFirst 45 = .ok (.iconst 1, 1) := by decide +kernel
theorem dX3_reachFirst_46 : decode cX3_reachFirst 46 = .ok (.ireturn, 1) := by decide +kernel
theorem dX3_reachFirst_47 : decode cX3_reachFirst 47 = .ok (.iinc 1 1, 3) := by decide +kernel
theorem dX3_reachFirst_50 : decode cX3_reachFirst 50 = .ok (.goto (-40), 3) := by decide +kernel
theorem dX3_reachFirst_53 : decode cX3_reachFirst 53 = .ok (.iconst 0, 1) := by decide +kernel
theorem dX3_reachFirst_54 : decode cX3_reachFirst 54 = .ok (.ireturn, 1) := by decide +kernel
set_option maxRecDepth 20000 in
theorem ggX3_reachFarther_X3_runsWith : GoodIn wsX3_reachFarther wsX3_runsWith := goodIn_r _ [6] (by decide +kernel) (by decide +kernel)
set_option maxRecDepth 20000 in
theorem gX3_reachFarther_X3_runsWith : GoodIn wsX3_reachFarther (va_wsS RX3 75 yX3_runsWith wsX3_runsWith) := goodIn_app (goodIn_of _ (by decide +kernel)) ggX3_reachFarther_X3_runsWith
theorem dX3_reachFarther_0 : decode cX3_reachFarther 0 = .ok (.iconst 0, 1) := by decide +kernel
theorem dX3_reachFarther_1 : decode cX3_reachFarther 1 = .ok (.istore_n 1, 1) := by decide +kernel
theorem dX3_reachFarther_2 : decode cX3_reachFarther 2 = .ok (.iconst 0, 1) := by decide +kernel
theorem dX3_reachFarther_3 : decode cX3_reachFarther 3 = .ok (.istore_n 2, 1) := by decide +kernel
theorem dX3_reachFarther_4 : decode cX3_reachFarther 4 = .ok (.iload_n 2, 1) := by decide +kernel
theorem dX3_reachFarther_5 : decode cX3_reachFarther 5 = .ok (.bipush 16, 2) := by decide +kernel
theorem dX3_reachFarther_7 : decode cX3_reachFarther 7 = .ok (.if_icmp .ge 97, 3) := by decide +kernel
theorem dX3_reachFarther_10 : decode cX3_reachFarther 10 = .ok (.iload_n 2, 1) := by decide +kernel
theorem dX3_reachFarther_11 : decode cX3_reachFarther 11 = .ok (.ifCond .le 14, 3) := by decide +kernel
theorem dX3_reachFarther_14 : decode cX3_reachFarther 14 = .ok (.aload_n 0, 1) := by decide +kernel
theorem dX3_reachFarther_15 : decode cX3_reachFarther 15 = .ok (.getfield 15, 3) := by decide +kernel
theorem dX3_reachFarther_18 : decode cX3_reachFarther 18 = .ok (.iload_n 2, 1) := by decide +kernel
theorem dX3_reachFarther_19 : decode cX3_reachFarther 19 = .ok (.iconst 1, 1) := by decide +kernel
theorem dX3_reachFarther_20 : decode cX3_reachFarther 20 = .ok (.isub, 1) := by decide +kernel
theorem dX3_reachFarther_21 : decode cX3_reachFarther 21 = .ok (.iaload, 1) := by decide +kernel
theorem dX3_reachFarther_22 : decode cX3_reachFarther 22 = .ok (.goto 4, 3) := by decide +kernel
theorem dX3_reachFarther_25 : decode cX3_reachFarther 25 = .ok (.iconst 0, 1) := by decide +kernel
theorem dX3_reachFarther_26 : decode cX3_reachFarther 26 = .ok (.istore_n 3, 1) := by decide +kernel
theorem dX3_reachFarther_27 : decode cX3_reachFarther 27 = .ok (.iload_n 2, 1) := by decide +kernel
theorem dX3_reachFarther_28 : decode cX3_reachFarther 28 = .ok (.iconst 1, 1) := by decide +kernel
theorem dX3_reachFarther_29 : decode cX3_reachFarther 29 = .ok (.iadd, 1) := by decide +kernel
theorem dX3_reachFarther_30 : decode cX3_reachFarther 30 = .ok (.bipush 16, 2) := by decide +kernel
theorem dX3_reachFarther_32 : decode cX3_reachFarther 32 = .ok (.if_icmp .ge 14, 3) := by decide +kernel
theorem dX3_reachFarther_35 : decode cX3_reachFarther 35 = .ok (.aload_n 0, 1) := by decide +kernel
theorem dX3_reachFarther_36 : decode cX3_reachFarther 36 = .ok (.getfield 15, 3) := by decide +kernel
theorem dX3_reachFarther_39 : decode cX3_reachFarther 39 = .ok (.iload_n 2, 1) := by decide +kernel
theorem dX3_reachFarther_40 : decode cX3_reachFarther 40 = .ok (.iconst 1, 1) := by decide +kernel
theorem dX3_reachFarther_41 : decode cX3_reachFarther 41 = .ok (.iadd, 1) := by decide +kernel
theorem dX3_reachFarther_42 : decode cX3_reachFarther 42 = .ok (.iaload, 1) := by decide +kernel
theorem dX3_reachFarther_43 : decode cX3_reachFarther 43 = .ok (.goto 4, 3) := by decide +kernel
theorem dX3_reachFarther_46 : decode cX3_reachFarther 46 = .ok (.iconst 0, 1) := by decide +kernel
theorem dX3_reachFarther_47 : decode cX3_reachFarther 47 = .ok (.istore 4, 2) := by decide +kernel
theorem dX3_reachFarther_49 : decode cX3_reachFarther 49 = .ok (.aload_n 0, 1) := by decide +kernel
theorem dX3_reachFarther_50 : decode cX3_reachFarther 50 = .ok (.getfield 15, 3) := by decide +kernel
theorem dX3_reachFarther_53 : decode cX3_reachFarther 53 = .ok (.iload_n 2, 1) := by decide +kernel
theorem dX3_reachFarther_54 : decode cX3_reachFarther 54 = .ok (.iaload, 1) := by decide +kernel
theorem dX3_reachFarther_55 : decode cX3_reachFarther 55 = .ok (.iload_n 3, 1) := by decide +kernel
theorem dX3_reachFarther_56 : decode cX3_reachFarther 56 = .ok (.ior, 1) := by decide +kernel
theorem dX3_reachFarther_57 : decode cX3_reachFarther 57 = .ok (.iload 4, 2) := by decide +kernel
theorem dX3_reachFarther_59 : decode cX3_reachFarther 59 = .ok (.ior, 1) := by decide +kernel
theorem dX3_reachFarther_60 : decode cX3_reachFarther 60 = .ok (.aload_n 0, 1) := by decide +kernel
theorem dX3_reachFarther_61 : decode cX3_reachFarther 61 = .ok (.getfield 9, 3) := by decide +kernel
theorem dX3_reachFarther_64 : decode cX3_reachFarther 64 = .ok (.iload_n 2, 1) := by decide +kernel
theorem dX3_reachFarther_65 : decode cX3_reachFarther 65 = .ok (.iaload, 1) := by decide +kernel
theorem dX3_reachFarther_66 : decode cX3_reachFarther 66 = .ok (.invokestatic 75, 3) := by decide +kernel
theorem dX3_reachFarther_69 : decode cX3_reachFarther 69 = .ok (.istore 5, 2) := by decide +kernel
theorem dX3_reachFarther_71 : decode cX3_reachFarther 71 = .ok (.iload_n 1, 1) := by decide +kernel
theorem dX3_reachFarther_72 : decode cX3_reachFarther 72 = .ok (.iload 5, 2) := by decide +kernel
theorem dX3_reachFarther_74 : decode cX3_reachFarther 74 = .ok (.aload_n 0, 1) := by decide +kernel
theorem dX3_reachFarther_75 : decode cX3_reachFarther 75 = .ok (.getfield 15, 3) := by decide +kernel
theorem dX3_reachFarther_78 : decode cX3_reachFarther 78 = .ok (.iload_n 2, 1) := by decide +kernel
theorem dX3_reachFarther_79 : decode cX3_reachFarther 79 = .ok (.iaload, 1) := by decide +kernel
theorem dX3_reachFarther_80 : decode cX3_reachFarther 80 = .ok (.if_icmp .eq 7, 3) := by decide +kernel
theorem dX3_reachFarther_83 : decode cX3_reachFarther 83 = .ok (.iconst 1, 1) := by decide +kernel
theorem dX3_reachFarther_84 : decode cX3_reachFarther 84 = .ok (.goto 4, 3) := by decide +kernel
theorem dX3_reachFarther_87 : decode cX3_reachFarther 87 = .ok (.iconst 0, 1) := by decide +kernel
theorem dX3_reachFarther_88 : decode cX3_reachFarther 88 = .ok (.ior, 1) := by decide +kernel
theorem dX3_reachFarther_89 : decode cX3_reachFarther 89 = .ok (.istore_n 1, 1) := by decide +kernel
theorem dX3_reachFarther_90 : decode cX3_reachFarther 90 = .ok (.aload_n 0, 1) := by decide +kernel
theorem dX3_reachFarther_91 : decode cX3_reachFarther 91 = .ok (.getfield 15, 3) := by decide +kernel
theorem dX3_reachFarther_94 : decode cX3_reachFarther 94 = .ok (.iload_n 2, 1) := by decide +kernel
theorem dX3_reachFarther_95 : decode cX3_reachFarther 95 = .ok (.iload 5, 2) := by decide +kernel
theorem dX3_reachFarther_97 : decode cX3_reachFarther 97 = .ok (.iastore, 1) := by decide +kernel
theorem dX3_reachFarther_98 : decode cX3_reachFarther 98 = .ok (.iinc 2 1, 3) := by decide +kernel
theorem dX3_reachFarther_101 : decode cX3_reachFarther 101 = .ok (.goto (-97), 3) := by decide +kernel
theorem dX3_reachFarther_104 : decode cX3_reachFarther 104 = .ok (.iload_n 1, 1) := by decide +kernel
theorem dX3_reachFarther_105 : decode cX3_reachFarther 105 = .ok (.ireturn, 1) := by decide +kernel
theorem dX3_runsWith_0 : decode cX3_runsWith 0 = .ok (.iload_n 0, 1) := by decide +kernel
theorem dX3_runsWith_1 : decode cX3_runsWith 1 = .ok (.iload_n 1, 1) := by decide +kernel
theorem dX3_runsWith_2 : decode cX3_runsWith 2 = .ok (.iand, 1) := by decide +kernel
theorem dX3_runsWith_3 : decode cX3_runsWith 3 = .ok (.istore_n 2, 1) := by decide +kernel
theorem dX3_runsWith_4 : decode cX3_runsWith 4 = .ok (.iconst 0, 1) := by decide +kernel
theorem dX3_runsWith_5 : decode cX3_runsWith 5 = .ok (.istore_n 3, 1) := by decide +kernel
theorem dX3_runsWith_6 : decode cX3_runsWith 6 = .ok (.iload_n 3, 1) := by decide +kernel
theorem dX3_runsWith_7 : decode cX3_runsWith 7 = .ok (.bipush 16, 2) := by decide +kernel
theorem dX3_runsWith_9 : decode cX3_runsWith 9 = .ok (.if_icmp .ge 33, 3) := by decide +kernel
theorem dX3_runsWith_12 : decode cX3_runsWith 12 = .ok (.iload_n 2, 1) := by decide +kernel
theorem dX3_runsWith_13 : decode cX3_runsWith 13 = .ok (.iload_n 2, 1) := by decide +kernel
theorem dX3_runsWith_14 : decode cX3_runsWith 14 = .ok (.iconst 1, 1) := by decide +kernel
theorem dX3_runsWith_15 : decode cX3_runsWith 15 = .ok (.ishl, 1) := by decide +kernel
theorem dX3_runsWith_16 : decode cX3_runsWith 16 = .ok (.ior, 1) := by decide +kernel
theorem dX3_runsWith_17 : decode cX3_runsWith 17 = .ok (.iload_n 2, 1) := by decide +kernel
theorem dX3_runsWith_18 : decode cX3_runsWith 18 = .ok (.iconst 1, 1) := by decide +kernel
theorem dX3_runsWith_19 : decode cX3_runsWith 19 = .ok (.iushr, 1) := by decide +kernel
theorem dX3_runsWith_20 : decode cX3_runsWith 20 = .ok (.ior, 1) := by decide +kernel
theorem dX3_runsWith_21 : decode cX3_runsWith 21 = .ok (.iload_n 1, 1) := by decide +kernel
theorem dX3_runsWith_22 : decode cX3_runsWith 22 = .ok (.iand, 1) := by decide +kernel
theorem dX3_runsWith_23 : decode cX3_runsWith 23 = .ok (.istore 4, 2) := by decide +kernel
theorem dX3_runsWith_25 : decode cX3_runsWith 25 = .ok (.iload 4, 2) := by decide +kernel
theorem dX3_runsWith_27 : decode cX3_runsWith 27 = .ok (.iload_n 2, 1) := by decide +kernel
theorem dX3_runsWith_28 : decode cX3_runsWith 28 = .ok (.if_icmp .ne 5, 3) := by decide +kernel
theorem dX3_runsWith_31 : decode cX3_runsWith 31 = .ok (.iload_n 2, 1) := by decide +kernel
theorem dX3_runsWith_32 : decode cX3_runsWith 32 = .ok (.ireturn, 1) := by decide +kernel
theorem dX3_runsWith_33 : decode cX3_runsWith 33 = .ok (.iload 4, 2) := by decide +kernel
theorem dX3_runsWith_35 : decode cX3_runsWith 35 = .ok (.istore_n 2, 1) := by decide +kernel
theorem dX3_runsWith_36 : decode cX3_runsWith 36 = .ok (.iinc 3 1, 3) := by decide +kernel
theorem dX3_runsWith_39 : decode cX3_runsWith 39 = .ok (.goto (-33), 3) := by decide +kernel
theorem dX3_runsWith_42 : decode cX3_runsWith 42 = .ok (.iload_n 2, 1) := by decide +kernel
theorem dX3_runsWith_43 : decode cX3_runsWith 43 = .ok (.ireturn, 1) := by decide +kernel
theorem dX3_reachesAll_0 : decode cX3_reachesAll 0 = .ok (.iconst 0, 1) := by decide +kernel
theorem dX3_reachesAll_1 : decode cX3_reachesAll 1 = .ok (.istore_n 1, 1) := by decide +kernel
theorem dX3_reachesAll_2 : decode cX3_reachesAll 2 = .ok (.iconst 0, 1) := by decide +kernel
theorem dX3_reachesAll_3 : decode cX3_reachesAll 3 = .ok (.istore_n 2, 1) := by decide +kernel
theorem dX3_reachesAll_4 : decode cX3_reachesAll 4 = .ok (.iload_n 2, 1) := by decide +kernel
theorem dX3_reachesAll_5 : decode cX3_reachesAll 5 = .ok (.bipush 16, 2) := by decide +kernel
theorem dX3_reachesAll_7 : decode cX3_reachesAll 7 = .ok (.if_icmp .ge 43, 3) := by decide +kernel
theorem dX3_reachesAll_10 : decode cX3_reachesAll 10 = .ok (.aload_n 0, 1) := by decide +kernel
theorem dX3_reachesAll_11 : decode cX3_reachesAll 11 = .ok (.getfield 15, 3) := by decide +kernel
theorem dX3_reachesAll_14 : decode cX3_reachesAll 14 = .ok (.iload_n 2, 1) := by decide +kernel
theorem dX3_reachesAll_15 : decode cX3_reachesAll 15 = .ok (.iaload, 1) := by decide +kernel
theorem dX3_reachesAll_16 : decode cX3_reachesAll 16 = .ok (.aload_n 0, 1) := by decide +kernel
theorem dX3_reachesAll_17 : decode cX3_reachesAll 17 = .ok (.getfield 9, 3) := by decide +kernel
theorem dX3_reachesAll_20 : decode cX3_reachesAll 20 = .ok (.iload_n 2, 1) := by decide +kernel
theorem dX3_reachesAll_21 : decode cX3_reachesAll 21 = .ok (.iaload, 1) := by decide +kernel
theorem dX3_reachesAll_22 : decode cX3_reachesAll 22 = .ok (.if_icmp .eq 5, 3) := by decide +kernel
theorem dX3_reachesAll_25 : decode cX3_reachesAll 25 = .ok (.iconst 0, 1) := by decide +kernel
theorem dX3_reachesAll_26 : decode cX3_reachesAll 26 = .ok (.ireturn, 1) := by decide +kernel
theorem dX3_reachesAll_27 : decode cX3_reachesAll 27 = .ok (.iload_n 1, 1) := by decide +kernel
theorem dX3_reachesAll_28 : decode cX3_reachesAll 28 = .ok (.aload_n 0, 1) := by decide +kernel
theorem dX3_reachesAll_29 : decode cX3_reachesAll 29 = .ok (.getfield 9, 3) := by decide +kernel
theorem dX3_reachesAll_32 : decode cX3_reachesAll 32 = .ok (.iload_n 2, 1) := by decide +kernel
theorem dX3_reachesAll_33 : decode cX3_reachesAll 33 = .ok (.iaload, 1) := by decide +kernel
theorem dX3_reachesAll_34 : decode cX3_reachesAll 34 = .ok (.ifCond .eq 7, 3) := by decide +kernel
theorem dX3_reachesAll_37 : decode cX3_reachesAll 37 = .ok (.iconst 1, 1) := by decide +kernel
theorem dX3_reachesAll_38 : decode cX3_reachesAll 38 = .ok (.goto 4, 3) := by decide +kernel
theorem dX3_reachesAll_41 : decode cX3_reachesAll 41 = .ok (.iconst 0, 1) := by decide +kernel
theorem dX3_reachesAll_42 : decode cX3_reachesAll 42 = .ok (.ior, 1) := by decide +kernel
theorem dX3_reachesAll_43 : decode cX3_reachesAll 43 = .ok (.istore_n 1, 1) := by decide +kernel
theorem dX3_reachesAll_44 : decode cX3_reachesAll 44 = .ok (.iinc 2 1, 3) := by decide +kernel
theorem dX3_reachesAll_47 : decode cX3_reachesAll 47 = .ok (.goto (-43), 3) := by decide +kernel
theorem dX3_reachesAll_50 : decode cX3_reachesAll 50 = .ok (.iload_n 1, 1) := by decide +kernel
theorem dX3_reachesAll_51 : decode cX3_reachesAll 51 = .ok (.ireturn, 1) := by decide +kernel
