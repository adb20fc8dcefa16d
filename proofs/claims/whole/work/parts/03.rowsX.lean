theorem dX0_init_0 : decode cX0_init 0 = .ok (.aload_n 0, 1) := by decide +kernel
theorem dX0_init_1 : decode cX0_init 1 = .ok (.invokespecial 3, 3) := by decide +kernel
theorem dX0_init_4 : decode cX0_init 4 = .ok (.aload_n 0, 1) := by decide +kernel
theorem dX0_init_5 : decode cX0_init 5 = .ok (.bipush 40, 2) := by decide +kernel
theorem dX0_init_7 : decode cX0_init 7 = .ok (.newarray .byte, 2) := by decide +kernel
theorem dX0_init_9 : decode cX0_init 9 = .ok (.putfield 9, 3) := by decide +kernel
theorem dX0_init_12 : decode cX0_init 12 = .ok (.return_, 1) := by decide +kernel
theorem dX0_add_0 : decode cX0_add 0 = .ok (.iconst 0, 1) := by decide +kernel
theorem dX0_add_1 : decode cX0_add 1 = .ok (.istore_n 3, 1) := by decide +kernel
theorem dX0_add_2 : decode cX0_add 2 = .ok (.iload_n 3, 1) := by decide +kernel
theorem dX0_add_3 : decode cX0_add 3 = .ok (.iload_n 2, 1) := by decide +kernel
theorem dX0_add_4 : decode cX0_add 4 = .ok (.if_icmp .ge 39, 3) := by decide +kernel
theorem dX0_add_7 : decode cX0_add 7 = .ok (.aload_n 0, 1) := by decide +kernel
theorem dX0_add_8 : decode cX0_add 8 = .ok (.getfield 15, 3) := by decide +kernel
theorem dX0_add_11 : decode cX0_add 11 = .ok (.bipush 40, 2) := by decide +kernel
theorem dX0_add_13 : decode cX0_add 13 = .ok (.if_icmp .ge 30, 3) := by decide +kernel
theorem dX0_add_16 : decode cX0_add 16 = .ok (.aload_n 0, 1) := by decide +kernel
theorem dX0_add_17 : decode cX0_add 17 = .ok (.getfield 9, 3) := by decide +kernel
theorem dX0_add_20 : decode cX0_add 20 = .ok (.aload_n 0, 1) := by decide +kernel
theorem dX0_add_21 : decode cX0_add 21 = .ok (.getfield 15, 3) := by decide +kernel
theorem dX0_add_24 : decode cX0_add 24 = .ok (.iload_n 1, 1) := by decide +kernel
theorem dX0_add_25 : decode cX0_add 25 = .ok (.i2b, 1) := by decide +kernel
theorem dX0_add_26 : decode cX0_add 26 = .ok (.bastore, 1) := by decide +kernel
theorem dX0_add_27 : decode cX0_add 27 = .ok (.aload_n 0, 1) := by decide +kernel
theorem dX0_add_28 : decode cX0_add 28 = .ok (.dup, 1) := by decide +kernel
theorem dX0_add_29 : decode cX0_add 29 = .ok (.getfield 15, 3) := by decide +kernel
theorem dX0_add_32 : decode cX0_add 32 = .ok (.iconst 1, 1) := by decide +kernel
theorem dX0_add_33 : decode cX0_add 33 = .ok (.iadd, 1) := by decide +kernel
theorem dX0_add_34 : decode cX0_add 34 = .ok (.putfield 15, 3) := by decide +kernel
theorem dX0_add_37 : decode cX0_add 37 = .ok (.iinc 3 1, 3) := by decide +kernel
theorem dX0_add_40 : decode cX0_add 40 = .ok (.goto (-38), 3) := by decide +kernel
theorem dX0_add_43 : decode cX0_add 43 = .ok (.return_, 1) := by decide +kernel
theorem dX1_init_0 : decode cX1_init 0 = .ok (.aload_n 0, 1) := by decide +kernel
theorem dX1_init_1 : decode cX1_init 1 = .ok (.invokespecial 3, 3) := by decide +kernel
theorem dX1_init_4 : decode cX1_init 4 = .ok (.aload_n 0, 1) := by decide +kernel
theorem dX1_init_5 : decode cX1_init 5 = .ok (.iconst 4, 1) := by decide +kernel
theorem dX1_init_6 : decode cX1_init 6 = .ok (.newarray .int, 2) := by decide +kernel
theorem dX1_init_8 : decode cX1_init 8 = .ok (.putfield 9, 3) := by decide +kernel
theorem dX1_init_11 : decode cX1_init 11 = .ok (.aload_n 0, 1) := by decide +kernel
theorem dX1_init_12 : decode cX1_init 12 = .ok (.sipush 1296, 3) := by decide +kernel
theorem dX1_init_15 : decode cX1_init 15 = .ok (.newarray .int, 2) := by decide +kernel
theorem dX1_init_17 : decode cX1_init 17 = .ok (.putfield 15, 3) := by decide +kernel
theorem dX1_init_20 : decode cX1_init 20 = .ok (.aload_n 0, 1) := by decide +kernel
theorem dX1_init_21 : decode cX1_init 21 = .ok (.sipush 1296, 3) := by decide +kernel
theorem dX1_init_24 : decode cX1_init 24 = .ok (.newarray .int, 2) := by decide +kernel
theorem dX1_init_26 : decode cX1_init 26 = .ok (.putfield 18, 3) := by decide +kernel
theorem dX1_init_29 : decode cX1_init 29 = .ok (.aload_n 0, 1) := by decide +kernel
theorem dX1_init_30 : decode cX1_init 30 = .ok (.sipush 1296, 3) := by decide +kernel
theorem dX1_init_33 : decode cX1_init 33 = .ok (.newarray .long, 2) := by decide +kernel
theorem dX1_init_35 : decode cX1_init 35 = .ok (.putfield 21, 3) := by decide +kernel
theorem dX1_init_38 : decode cX1_init 38 = .ok (.return_, 1) := by decide +kernel
set_option maxRecDepth 20000 in
theorem ggX1_plan_X1_gather : GoodIn wsX1_plan wsX1_gather := goodIn_r _ [11, 2, 12, 13, 6, 14, 15, 16, 10, 17, 4, 18, 19, 20, 21, 3, 22, 23, 24, 25, 26, 27, 28, 29, 30, 31, 32, 33, 34, 35, 36, 37, 38, 39, 40, 41, 42, 43, 44, 45, 46, 47, 48, 49, 50, 51, 52, 53, 54, 55, 56, 57, 58, 59, 60, 61, 62, 63, 83, 84, 85, 86, 87, 88, 89, 90, 91, 92, 93, 78, 79, 80, 81, 82] (by decide +kernel) (by decide +kernel)
set_option maxRecDepth 20000 in
theorem gX1_plan_X1_gather : GoodIn wsX1_plan (wsV RX1 37 RX1 yX1_gather wsX1_gather) := goodIn_app (goodIn_of _ (by decide +kernel)) ggX1_plan_X1_gather
set_option maxRecDepth 20000 in
theorem ggX1_plan_X1_lowestRank : GoodIn wsX1_plan wsX1_lowestRank := goodIn_r _ [67, 68, 2, 69, 70, 71, 72, 14, 15, 16, 10, 17, 4, 18, 19, 20, 21, 3, 22, 23, 24, 25, 26, 73, 74, 75, 76, 77, 13, 5, 31, 32, 33, 34, 83, 84, 85, 86, 87, 88, 89, 90, 91, 92, 93, 78, 79, 80, 81, 82] (by decide +kernel) (by decide +kernel)
set_option maxRecDepth 20000 in
theorem gX1_plan_X1_lowestRank : GoodIn wsX1_plan (wsV RX1 41 RX1 yX1_lowestRank wsX1_lowestRank) := goodIn_app (goodIn_of _ (by decide +kernel)) ggX1_plan_X1_lowestRank
theorem dX1_plan_0 : decode cX1_plan 0 = .ok (.aload_n 0, 1) := by decide +kernel
theorem dX1_plan_1 : decode cX1_plan 1 = .ok (.iconst 1, 1) := by decide +kernel
theorem dX1_plan_2 : decode cX1_plan 2 = .ok (.putfield 25, 3) := by decide +kernel
theorem dX1_plan_5 : decode cX1_plan 5 = .ok (.aload_n 1, 1) := by decide +kernel
theorem dX1_plan_6 : decode cX1_plan 6 = .ok (.getfield 29, 3) := by decide +kernel
theorem dX1_plan_9 : decode cX1_plan 9 = .ok (.iconst 1, 1) := by decide +kernel
theorem dX1_plan_10 : decode cX1_plan 10 = .ok (.isub, 1) := by decide +kernel
theorem dX1_plan_11 : decode cX1_plan 11 = .ok (.istore_n 2, 1) := by decide +kernel
theorem dX1_plan_12 : decode cX1_plan 12 = .ok (.iload_n 2, 1) := by decide +kernel
theorem dX1_plan_13 : decode cX1_plan 13 = .ok (.ifCond .lt 36, 3) := by decide +kernel
theorem dX1_plan_16 : decode cX1_plan 16 = .ok (.aload_n 0, 1) := by decide +kernel
theorem dX1_plan_17 : decode cX1_plan 17 = .ok (.getfield 9, 3) := by decide +kernel
theorem dX1_plan_20 : decode cX1_plan 20 = .ok (.iload_n 2, 1) := by decide +kernel
theorem dX1_plan_21 : decode cX1_plan 21 = .ok (.aload_n 0, 1) := by decide +kernel
theorem dX1_plan_22 : decode cX1_plan 22 = .ok (.getfield 25, 3) := by decide +kernel
theorem dX1_plan_25 : decode cX1_plan 25 = .ok (.iastore, 1) := by decide +kernel
theorem dX1_plan_26 : decode cX1_plan 26 = .ok (.aload_n 0, 1) := by decide +kernel
theorem dX1_plan_27 : decode cX1_plan 27 = .ok (.dup, 1) := by decide +kernel
theorem dX1_plan_28 : decode cX1_plan 28 = .ok (.getfield 25, 3) := by decide +kernel
theorem dX1_plan_31 : decode cX1_plan 31 = .ok (.aload_n 1, 1) := by decide +kernel
theorem dX1_plan_32 : decode cX1_plan 32 = .ok (.getfield 34, 3) := by decide +kernel
theorem dX1_plan_35 : decode cX1_plan 35 = .ok (.iload_n 2, 1) := by decide +kernel
theorem dX1_plan_36 : decode cX1_plan 36 = .ok (.iaload, 1) := by decide +kernel
theorem dX1_plan_37 : decode cX1_plan 37 = .ok (.iconst 1, 1) := by decide +kernel
theorem dX1_plan_38 : decode cX1_plan 38 = .ok (.iadd, 1) := by decide +kernel
theorem dX1_plan_39 : decode cX1_plan 39 = .ok (.imul, 1) := by decide +kernel
theorem dX1_plan_40 : decode cX1_plan 40 = .ok (.putfield 25, 3) := by decide +kernel
theorem dX1_plan_43 : decode cX1_plan 43 = .ok (.iinc 2 (-1), 3) := by decide +kernel
theorem dX1_plan_46 : decode cX1_plan 46 = .ok (.goto (-34), 3) := by decide +kernel
theorem dX1_plan_49 : decode cX1_plan 49 = .ok (.iconst 0, 1) := by decide +kernel
theorem dX1_plan_50 : decode cX1_plan 50 = .ok (.istore_n 2, 1) := by decide +kernel
theorem dX1_plan_51 : decode cX1_plan 51 = .ok (.iload_n 2, 1) := by decide +kernel
theorem dX1_plan_52 : decode cX1_plan 52 = .ok (.aload_n 0, 1) := by decide +kernel
theorem dX1_plan_53 : decode cX1_plan 53 = .ok (.getfield 25, 3) := by decide +kernel
theorem dX1_plan_56 : decode cX1_plan 56 = .ok (.if_icmp .ge 42, 3) := by decide +kernel
theorem dX1_plan_59 : decode cX1_plan 59 = .ok (.aload_n 0, 1) := by decide +kernel
theorem dX1_plan_60 : decode cX1_plan 60 = .ok (.iload_n 2, 1) := by decide +kernel
theorem dX1_plan_61 : decode cX1_plan 61 = .ok (.aload_n 1, 1) := by decide +kernel
theorem dX1_plan_62 : decode cX1_plan 62 = .ok (.invokevirtual 37, 3) := by decide +kernel
theorem dX1_plan_65 : decode cX1_plan 65 = .ok (.aload_n 0, 1) := by decide +kernel
theorem dX1_plan_66 : decode cX1_plan 66 = .ok (.getfield 21, 3) := by decide +kernel
theorem dX1_plan_69 : decode cX1_plan 69 = .ok (.iload_n 2, 1) := by decide +kernel
theorem dX1_plan_70 : decode cX1_plan 70 = .ok (.aload_n 0, 1) := by decide +kernel
theorem dX1_plan_71 : decode cX1_plan 71 = .ok (.getfield 18, 3) := by decide +kernel
theorem dX1_plan_74 : decode cX1_plan 74 = .ok (.iload_n 2, 1) := by decide +kernel
theorem dX1_plan_75 : decode cX1_plan 75 = .ok (.iaload, 1) := by decide +kernel
theorem dX1_plan_76 : decode cX1_plan 76 = .ok (.bipush (-2), 2) := by decide +kernel
theorem dX1_plan_78 : decode cX1_plan 78 = .ok (.if_icmp .ne 12, 3) := by decide +kernel
theorem dX1_plan_81 : decode cX1_plan 81 = .ok (.aload_n 0, 1) := by decide +kernel
theorem dX1_plan_82 : decode cX1_plan 82 = .ok (.iload_n 2, 1) := by decide +kernel
theorem dX1_plan_83 : decode cX1_plan 83 = .ok (.aload_n 1, 1) := by decide +kernel
theorem dX1_plan_84 : decode cX1_plan 84 = .ok (.invokevirtual 41, 3) := by decide +kernel
theorem dX1_plan_87 : decode cX1_plan 87 = .ok (.goto 4, 3) := by decide +kernel
theorem dX1_plan_90 : decode cX1_plan 90 = .ok (.lconst 1, 1) := by decide +kernel
theorem dX1_plan_91 : decode cX1_plan 91 = .ok (.lastore, 1) := by decide +kernel
theorem dX1_plan_92 : decode cX1_plan 92 = .ok (.iinc 2 1, 3) := by decide +kernel
theorem dX1_plan_95 : decode cX1_plan 95 = .ok (.goto (-44), 3) := by decide +kernel
theorem dX1_plan_98 : decode cX1_plan 98 = .ok (.return_, 1) := by decide +kernel
theorem dX1_whole_0 : decode cX1_whole 0 = .ok (.aload_n 0, 1) := by decide +kernel
theorem dX1_whole_1 : decode cX1_whole 1 = .ok (.getfield 25, 3) := by decide +kernel
theorem dX1_whole_4 : decode cX1_whole 4 = .ok (.iconst 1, 1) := by decide +kernel
theorem dX1_whole_5 : decode cX1_whole 5 = .ok (.isub, 1) := by decide +kernel
theorem dX1_whole_6 : decode cX1_whole 6 = .ok (.ireturn, 1) := by decide +kernel
theorem dX1_part_0 : decode cX1_part 0 = .ok (.iload_n 1, 1) := by decide +kernel
theorem dX1_part_1 : decode cX1_part 1 = .ok (.aload 4, 2) := by decide +kernel
theorem dX1_part_3 : decode cX1_part 3 = .ok (.getfield 34, 3) := by decide +kernel
theorem dX1_part_6 : decode cX1_part 6 = .ok (.iload_n 2, 1) := by decide +kernel
theorem dX1_part_7 : decode cX1_part 7 = .ok (.iaload, 1) := by decide +kernel
theorem dX1_part_8 : decode cX1_part 8 = .ok (.iload_n 3, 1) := by decide +kernel
theorem dX1_part_9 : decode cX1_part 9 = .ok (.isub, 1) := by decide +kernel
theorem dX1_part_10 : decode cX1_part 10 = .ok (.aload_n 0, 1) := by decide +kernel
theorem dX1_part_11 : decode cX1_part 11 = .ok (.getfield 9, 3) := by decide +kernel
theorem dX1_part_14 : decode cX1_part 14 = .ok (.iload_n 2, 1) := by decide +kernel
theorem dX1_part_15 : decode cX1_part 15 = .ok (.iaload, 1) := by decide +kernel
theorem dX1_part_16 : decode cX1_part 16 = .ok (.imul, 1) := by decide +kernel
theorem dX1_part_17 : decode cX1_part 17 = .ok (.isub, 1) := by decide +kernel
theorem dX1_part_18 : decode cX1_part 18 = .ok (.ireturn, 1) := by decide +kernel
set_option maxRecDepth 20000 in
theorem ggX1_lowestCost_X1_whole : GoodIn wsX1_lowestCost wsX1_whole := goodIn_r _ [6, 7, 8, 9, 10, 11, 12] (by decide +kernel) (by decide +kernel)
set_option maxRecDepth 20000 in
theorem gX1_lowestCost_X1_whole : GoodIn wsX1_lowestCost (wsV RX1 45 RX1 yX1_whole wsX1_whole) := goodIn_app (goodIn_of _ (by decide +kernel)) ggX1_lowestCost_X1_whole
theorem dX1_lowestCost_0 : decode cX1_lowestCost 0 = .ok (.aload_n 0, 1) := by decide +kernel
theorem dX1_lowestCost_1 : decode cX1_lowestCost 1 = .ok (.getfield 21, 3) := by decide +kernel
theorem dX1_lowestCost_4 : decode cX1_lowestCost 4 = .ok (.aload_n 0, 1) := by decide +kernel
theorem dX1_lowestCost_5 : decode cX1_lowestCost 5 = .ok (.invokevirtual 45, 3) := by decide +kernel
theorem dX1_lowestCost_8 : decode cX1_lowestCost 8 = .ok (.laload, 1) := by decide +kernel
theorem dX1_lowestCost_9 : decode cX1_lowestCost 9 = .ok (.bipush 10, 2) := by decide +kernel
theorem dX1_lowestCost_11 : decode cX1_lowestCost 11 = .ok (.lshr, 1) := by decide +kernel
theorem dX1_lowestCost_12 : decode cX1_lowestCost 12 = .ok (.lreturn, 1) := by decide +kernel
set_option maxRecDepth 20000 in
theorem ggX1_costWithTest_X1_whole : GoodIn wsX1_costWithTest wsX1_whole := goodIn_r _ [5, 6, 20, 21, 22, 23, 24] (by decide +kernel) (by decide +kernel)
set_option maxRecDepth 20000 in
theorem gX1_costWithTest_X1_whole : GoodIn wsX1_costWithTest (wsV RX1 45 RX1 yX1_whole wsX1_whole) := goodIn_app (goodIn_of _ (by decide +kernel)) ggX1_costWithTest_X1_whole
set_option maxRecDepth 20000 in
theorem ggX1_costWithTest_X1_rankOfTest : GoodIn wsX1_costWithTest wsX1_rankOfTest := goodIn_r _ [10, 11, 12, 13, 14, 15, 16, 17, 4, 18, 19, 25, 26, 27, 28, 29, 30, 31, 32, 33, 34, 35, 20, 21, 22, 23, 24] (by decide +kernel) (by decide +kernel)
set_option maxRecDepth 20000 in
theorem gX1_costWithTest_X1_rankOfTest : GoodIn wsX1_costWithTest (wsV RX1 49 RX1 yX1_rankOfTest wsX1_rankOfTest) := goodIn_app (goodIn_of _ (by decide +kernel)) ggX1_costWithTest_X1_rankOfTest
theorem dX1_costWithTest_0 : decode cX1_costWithTest 0 = .ok (.aload_n 0, 1) := by decide +kernel
theorem dX1_costWithTest_1 : decode cX1_costWithTest 1 = .ok (.aload_n 0, 1) := by decide +kernel
theorem dX1_costWithTest_2 : decode cX1_costWithTest 2 = .ok (.invokevirtual 45, 3) := by decide +kernel
theorem dX1_costWithTest_5 : decode cX1_costWithTest 5 = .ok (.iload_n 1, 1) := by decide +kernel
theorem dX1_costWithTest_6 : decode cX1_costWithTest 6 = .ok (.aload_n 2, 1) := by decide +kernel
theorem dX1_costWithTest_7 : decode cX1_costWithTest 7 = .ok (.invokevirtual 49, 3) := by decide +kernel
theorem dX1_costWithTest_10 : decode cX1_costWithTest 10 = .ok (.bipush 10, 2) := by decide +kernel
theorem dX1_costWithTest_12 : decode cX1_costWithTest 12 = .ok (.lshr, 1) := by decide +kernel
theorem dX1_costWithTest_13 : decode cX1_costWithTest 13 = .ok (.lreturn, 1) := by decide +kernel
set_option maxRecDepth 20000 in
theorem ggX1_bestTest_X1_isOpen : GoodIn wsX1_bestTest wsX1_isOpen := goodIn_r _ [8, 9, 10, 11, 12, 7, 13, 14, 15, 16, 17, 18, 19, 35, 36, 37, 38, 39, 40, 41, 42, 43, 44, 45, 30, 31, 32, 33, 34] (by decide +kernel) (by decide +kernel)
set_option maxRecDepth 20000 in
theorem gX1_bestTest_X1_isOpen : GoodIn wsX1_bestTest (wsV RX1 53 RX1 yX1_isOpen wsX1_isOpen) := goodIn_app (goodIn_of _ (by decide +kernel)) ggX1_bestTest_X1_isOpen
set_option maxRecDepth 20000 in
theorem ggX1_bestTest_X1_rankOfTest : GoodIn wsX1_bestTest wsX1_rankOfTest := goodIn_r _ [23, 24, 25, 9, 3, 26, 27, 28, 7, 29, 14, 35, 36, 37, 38, 39, 40, 41, 42, 43, 44, 45, 30, 31, 32, 33, 34] (by decide +kernel) (by decide +kernel)
set_option maxRecDepth 20000 in
theorem gX1_bestTest_X1_rankOfTest : GoodIn wsX1_bestTest (wsV RX1 49 RX1 yX1_rankOfTest wsX1_rankOfTest) := goodIn_app (goodIn_of _ (by decide +kernel)) ggX1_bestTest_X1_rankOfTest
theorem dX1_bestTest_0 : decode cX1_bestTest 0 = .ok (.aload_n 0, 1) := by decide +kernel
theorem dX1_bestTest_1 : decode cX1_bestTest 1 = .ok (.getfield 18, 3) := by decide +kernel
theorem dX1_bestTest_4 : decode cX1_bestTest 4 = .ok (.iload_n 1, 1) := by decide +kernel
theorem dX1_bestTest_5 : decode cX1_bestTest 5 = .ok (.iaload, 1) := by decide +kernel
theorem dX1_bestTest_6 : decode cX1_bestTest 6 = .ok (.bipush (-2), 2) := by decide +kernel
theorem dX1_bestTest_8 : decode cX1_bestTest 8 = .ok (.if_icmp .eq 5, 3) := by decide +kernel
theorem dX1_bestTest_11 : decode cX1_bestTest 11 = .ok (.iconst (-1), 1) := by decide +kernel
theorem dX1_bestTest_12 : decode cX1_bestTest 12 = .ok (.ireturn, 1) := by decide +kernel
theorem dX1_bestTest_13 : decode cX1_bestTest 13 = .ok (.iconst 0, 1) := by decide +kernel
theorem dX1_bestTest_14 : decode cX1_bestTest 14 = .ok (.istore_n 3, 1) := by decide +kernel
theorem dX1_bestTest_15 : decode cX1_bestTest 15 = .ok (.iload_n 3, 1) := by decide +kernel
theorem dX1_bestTest_16 : decode cX1_bestTest 16 = .ok (.aload_n 2, 1) := by decide +kernel
theorem dX1_bestTest_17 : decode cX1_bestTest 17 = .ok (.getfield 29, 3) := by decide +kernel
theorem dX1_bestTest_20 : decode cX1_bestTest 20 = .ok (.if_icmp .ge 38, 3) := by decide +kernel
theorem dX1_bestTest_23 : decode cX1_bestTest 23 = .ok (.aload_n 0, 1) := by decide +kernel
theorem dX1_bestTest_24 : decode cX1_bestTest 24 = .ok (.iload_n 1, 1) := by decide +kernel
theorem dX1_bestTest_25 : decode cX1_bestTest 25 = .ok (.iload_n 3, 1) := by decide +kernel
theorem dX1_bestTest_26 : decode cX1_bestTest 26 = .ok (.aload_n 2, 1) := by decide +kernel
theorem dX1_bestTest_27 : decode cX1_bestTest 27 = .ok (.invokevirtual 53, 3) := by decide +kernel
theorem dX1_bestTest_30 : decode cX1_bestTest 30 = .ok (.ifCond .eq 22, 3) := by decide +kernel
theorem dX1_bestTest_33 : decode cX1_bestTest 33 = .ok (.aload_n 0, 1) := by decide +kernel
theorem dX1_bestTest_34 : decode cX1_bestTest 34 = .ok (.iload_n 1, 1) := by decide +kernel
theorem dX1_bestTest_35 : decode cX1_bestTest 35 = .ok (.iload_n 3, 1) := by decide +kernel
theorem dX1_bestTest_36 : decode cX1_bestTest 36 = .ok (.aload_n 2, 1) := by decide +kernel
theorem dX1_bestTest_37 : decode cX1_bestTest 37 = .ok (.invokevirtual 49, 3) := by decide +kernel
theorem dX1_bestTest_40 : decode cX1_bestTest 40 = .ok (.aload_n 0, 1) := by decide +kernel
theorem dX1_bestTest_41 : decode cX1_bestTest 41 = .ok (.getfield 21, 3) := by decide +kernel
theorem dX1_bestTest_44 : decode cX1_bestTest 44 = .ok (.iload_n 1, 1) := by decide +kernel
theorem dX1_bestTest_45 : decode cX1_bestTest 45 = .ok (.laload, 1) := by decide +kernel
theorem dX1_bestTest_46 : decode cX1_bestTest 46 = .ok (.lcmp, 1) := by decide +kernel
theorem dX1_bestTest_47 : decode cX1_bestTest 47 = .ok (.ifCond .ne 5, 3) := by decide +kernel
theorem dX1_bestTest_50 : decode cX1_bestTest 50 = .ok (.iload_n 3, 1) := by decide +kernel
theorem dX1_bestTest_51 : decode cX1_bestTest 51 = .ok (.ireturn, 1) := by decide +kernel
theorem dX1_bestTest_52 : decode cX1_bestTest 52 = .ok (.iinc 3 1, 3) := by decide +kernel
theorem dX1_bestTest_55 : decode cX1_bestTest 55 = .ok (.goto (-40), 3) := by decide +kernel
theorem dX1_bestTest_58 : decode cX1_bestTest 58 = .ok (.iconst (-1), 1) := by decide +kernel
theorem dX1_bestTest_59 : decode cX1_bestTest 59 = .ok (.ireturn, 1) := by decide +kernel
set_option maxRecDepth 20000 in
theorem ggX1_lowestRank_X1_isOpen : GoodIn wsX1_lowestRank wsX1_isOpen := goodIn_r _ [11, 12, 13, 14, 15, 10, 16, 17, 18, 19, 20, 21, 22, 34, 35, 36, 37, 38, 39, 40, 41, 42, 43, 44, 45, 46, 47, 48, 49] (by decide +kernel) (by decide +kernel)
set_option maxRecDepth 20000 in
theorem gX1_lowestRank_X1_isOpen : GoodIn wsX1_lowestRank (wsV RX1 53 RX1 yX1_isOpen wsX1_isOpen) := goodIn_app (goodIn_of _ (by decide +kernel)) ggX1_lowestRank_X1_isOpen
set_option maxRecDepth 20000 in
theorem ggX1_lowestRank_X1_rankOfTest : GoodIn wsX1_lowestRank wsX1_rankOfTest := goodIn_r _ [26, 27, 28, 12, 29, 30, 31, 32, 10, 33, 17, 34, 35, 36, 37, 38, 39, 40, 41, 42, 43, 44, 45, 46, 47, 48, 49] (by decide +kernel) (by decide +kernel)
set_option maxRecDepth 20000 in
theorem gX1_lowestRank_X1_rankOfTest : GoodIn wsX1_lowestRank (wsV RX1 49 RX1 yX1_rankOfTest wsX1_rankOfTest) := goodIn_app (goodIn_of _ (by decide +kernel)) ggX1_lowestRank_X1_rankOfTest
theorem dX1_lowestRank_0 : decode cX1_lowestRank 0 = .ok (.ldc2_w 57, 3) := by decide +kernel
theorem dX1_lowestRank_3 : decode cX1_lowestRank 3 = .ok (.lstore_n 3, 1) := by decide +kernel
theorem dX1_lowestRank_4 : decode cX1_lowestRank 4 = .ok (.iconst 0, 1) := by decide +kernel
theorem dX1_lowestRank_5 : decode cX1_lowestRank 5 = .ok (.istore 5, 2) := by decide +kernel
theorem dX1_lowestRank_7 : decode cX1_lowestRank 7 = .ok (.iload 5, 2) := by decide +kernel
theorem dX1_lowestRank_9 : decode cX1_lowestRank 9 = .ok (.aload_n 2, 1) := by decide +kernel
theorem dX1_lowestRank_10 : decode cX1_lowestRank 10 = .ok (.getfield 29, 3) := by decide +kernel
theorem dX1_lowestRank_13 : decode cX1_lowestRank 13 = .ok (.if_icmp .ge 33, 3) := by decide +kernel
theorem dX1_lowestRank_16 : decode cX1_lowestRank 16 = .ok (.aload_n 0, 1) := by decide +kernel
theorem dX1_lowestRank_17 : decode cX1_lowestRank 17 = .ok (.iload_n 1, 1) := by decide +kernel
theorem dX1_lowestRank_18 : decode cX1_lowestRank 18 = .ok (.iload 5, 2) := by decide +kernel
theorem dX1_lowestRank_20 : decode cX1_lowestRank 20 = .ok (.aload_n 2, 1) := by decide +kernel
theorem dX1_lowestRank_21 : decode cX1_lowestRank 21 = .ok (.invokevirtual 53, 3) := by decide +kernel
theorem dX1_lowestRank_24 : decode cX1_lowestRank 24 = .ok (.ifCond .eq 16, 3) := by decide +kernel
theorem dX1_lowestRank_27 : decode cX1_lowestRank 27 = .ok (.lload_n 3, 1) := by decide +kernel
theorem dX1_lowestRank_28 : decode cX1_lowestRank 28 = .ok (.aload_n 0, 1) := by decide +kernel
theorem dX1_lowestRank_29 : decode cX1_lowestRank 29 = .ok (.iload_n 1, 1) := by decide +kernel
theorem dX1_lowestRank_30 : decode cX1_lowestRank 30 = .ok (.iload 5, 2) := by decide +kernel
theorem dX1_lowestRank_32 : decode cX1_lowestRank 32 = .ok (.aload_n 2, 1) := by decide +kernel
theorem dX1_lowestRank_33 : decode cX1_lowestRank 33 = .ok (.invokevirtual 49, 3) := by decide +kernel
theorem dX1_lowestRank_36 : decode cX1_lowestRank 36 = .ok (.invokestatic 59, 3) := by decide +kernel
theorem dX1_lowestRank_39 : decode cX1_lowestRank 39 = .ok (.lstore_n 3, 1) := by decide +kernel
theorem dX1_lowestRank_40 : decode cX1_lowestRank 40 = .ok (.iinc 5 1, 3) := by decide +kernel
theorem dX1_lowestRank_43 : decode cX1_lowestRank 43 = .ok (.goto (-36), 3) := by decide +kernel
theorem dX1_lowestRank_46 : decode cX1_lowestRank 46 = .ok (.lload_n 3, 1) := by decide +kernel
theorem dX1_lowestRank_47 : decode cX1_lowestRank 47 = .ok (.lreturn, 1) := by decide +kernel
set_option maxRecDepth 20000 in
theorem ggX1_rankOfTest_X1_part : GoodIn wsX1_rankOfTest wsX1_part := goodIn_r _ [9, 3, 10, 11, 12, 13, 14, 15, 16, 17, 18, 19, 20, 21, 22, 23, 24, 25, 26] (by decide +kernel) (by decide +kernel)
set_option maxRecDepth 20000 in
theorem gX1_rankOfTest_X1_part : GoodIn wsX1_rankOfTest (wsV RX1 68 RX1 yX1_part wsX1_part) := goodIn_app (goodIn_of _ (by decide +kernel)) ggX1_rankOfTest_X1_part
theorem dX1_rankOfTest_0 : decode cX1_rankOfTest 0 = .ok (.aload_n 3, 1) := by decide +kernel
theorem dX1_rankOfTest_1 : decode cX1_rankOfTest 1 = .ok (.getfield 65, 3) := by decide +kernel
theorem dX1_rankOfTest_4 : decode cX1_rankOfTest 4 = .ok (.iload_n 2, 1) := by decide +kernel
theorem dX1_rankOfTest_5 : decode cX1_rankOfTest 5 = .ok (.iaload, 1) := by decide +kernel
theorem dX1_rankOfTest_6 : decode cX1_rankOfTest 6 = .ok (.i2l, 1) := by decide +kernel
theorem dX1_rankOfTest_7 : decode cX1_rankOfTest 7 = .ok (.aload_n 0, 1) := by decide +kernel
theorem dX1_rankOfTest_8 : decode cX1_rankOfTest 8 = .ok (.getfield 15, 3) := by decide +kernel
theorem dX1_rankOfTest_11 : decode cX1_rankOfTest 11 = .ok (.iload_n 1, 1) := by decide +kernel
theorem dX1_rankOfTest_12 : decode cX1_rankOfTest 12 = .ok (.iaload, 1) := by decide +kernel
theorem dX1_rankOfTest_13 : decode cX1_rankOfTest 13 = .ok (.i2l, 1) := by decide +kernel
theorem dX1_rankOfTest_14 : decode cX1_rankOfTest 14 = .ok (.lmul, 1) := by decide +kernel
theorem dX1_rankOfTest_15 : decode cX1_rankOfTest 15 = .ok (.bipush 10, 2) := by decide +kernel
theorem dX1_rankOfTest_17 : decode cX1_rankOfTest 17 = .ok (.lshl, 1) := by decide +kernel
theorem dX1_rankOfTest_18 : decode cX1_rankOfTest 18 = .ok (.lconst 1, 1) := by decide +kernel
theorem dX1_rankOfTest_19 : decode cX1_rankOfTest 19 = .ok (.ladd, 1) := by decide +kernel
theorem dX1_rankOfTest_20 : decode cX1_rankOfTest 20 = .ok (.lstore 4, 2) := by decide +kernel
theorem dX1_rankOfTest_22 : decode cX1_rankOfTest 22 = .ok (.iconst 0, 1) := by decide +kernel
theorem dX1_rankOfTest_23 : decode cX1_rankOfTest 23 = .ok (.istore 6, 2) := by decide +kernel
theorem dX1_rankOfTest_25 : decode cX1_rankOfTest 25 = .ok (.iload 6, 2) := by decide +kernel
theorem dX1_rankOfTest_27 : decode cX1_rankOfTest 27 = .ok (.aload_n 3, 1) := by decide +kernel
theorem dX1_rankOfTest_28 : decode cX1_rankOfTest 28 = .ok (.getfield 34, 3) := by decide +kernel
theorem dX1_rankOfTest_31 : decode cX1_rankOfTest 31 = .ok (.iload_n 2, 1) := by decide +kernel
theorem dX1_rankOfTest_32 : decode cX1_rankOfTest 32 = .ok (.iaload, 1) := by decide +kernel
theorem dX1_rankOfTest_33 : decode cX1_rankOfTest 33 = .ok (.if_icmp .ge 28, 3) := by decide +kernel
theorem dX1_rankOfTest_36 : decode cX1_rankOfTest 36 = .ok (.lload 4, 2) := by decide +kernel
theorem dX1_rankOfTest_38 : decode cX1_rankOfTest 38 = .ok (.aload_n 0, 1) := by decide +kernel
theorem dX1_rankOfTest_39 : decode cX1_rankOfTest 39 = .ok (.getfield 21, 3) := by decide +kernel
theorem dX1_rankOfTest_42 : decode cX1_rankOfTest 42 = .ok (.aload_n 0, 1) := by decide +kernel
theorem dX1_rankOfTest_43 : decode cX1_rankOfTest 43 = .ok (.iload_n 1, 1) := by decide +kernel
theorem dX1_rankOfTest_44 : decode cX1_rankOfTest 44 = .ok (.iload_n 2, 1) := by decide +kernel
theorem dX1_rankOfTest_45 : decode cX1_rankOfTest 45 = .ok (.iload 6, 2) := by decide +kernel
theorem dX1_rankOfTest_47 : decode cX1_rankOfTest 47 = .ok (.aload_n 3, 1) := by decide +kernel
theorem dX1_rankOfTest_48 : decode cX1_rankOfTest 48 = .ok (.invokevirtual 68, 3) := by decide +kernel
theorem dX1_rankOfTest_51 : decode cX1_rankOfTest 51 = .ok (.laload, 1) := by decide +kernel
theorem dX1_rankOfTest_52 : decode cX1_rankOfTest 52 = .ok (.ladd, 1) := by decide +kernel
theorem dX1_rankOfTest_53 : decode cX1_rankOfTest 53 = .ok (.lstore 4, 2) := by decide +kernel
theorem dX1_rankOfTest_55 : decode cX1_rankOfTest 55 = .ok (.iinc 6 1, 3) := by decide +kernel
theorem dX1_rankOfTest_58 : decode cX1_rankOfTest 58 = .ok (.goto (-33), 3) := by decide +kernel
theorem dX1_rankOfTest_61 : decode cX1_rankOfTest 61 = .ok (.lload 4, 2) := by decide +kernel
theorem dX1_rankOfTest_63 : decode cX1_rankOfTest 63 = .ok (.lreturn, 1) := by decide +kernel
set_option maxRecDepth 20000 in
theorem ggX1_digitIn_X6_quotient : GoodIn wsX1_digitIn wsX6_quotient := goodIn_r _ [5] (by decide +kernel) (by decide +kernel)
set_option maxRecDepth 20000 in
theorem gX1_digitIn_X6_quotient_n72 : GoodIn wsX1_digitIn (wsX6_quotient) := ggX1_digitIn_X6_quotient
set_option maxRecDepth 20000 in
theorem ggX1_digitIn_X6_remainder : GoodIn wsX1_digitIn wsX6_remainder := goodIn_r _ [7] (by decide +kernel) (by decide +kernel)
set_option maxRecDepth 20000 in
theorem gX1_digitIn_X6_remainder_n76 : GoodIn wsX1_digitIn (wsX6_remainder) := ggX1_digitIn_X6_remainder
theorem dX1_digitIn_0 : decode cX1_digitIn 0 = .ok (.iload_n 1, 1) := by decide +kernel
theorem dX1_digitIn_1 : decode cX1_digitIn 1 = .ok (.aload_n 0, 1) := by decide +kernel
theorem dX1_digitIn_2 : decode cX1_digitIn 2 = .ok (.getfield 9, 3) := by decide +kernel
theorem dX1_digitIn_5 : decode cX1_digitIn 5 = .ok (.iload_n 2, 1) := by decide +kernel
theorem dX1_digitIn_6 : decode cX1_digitIn 6 = .ok (.iaload, 1) := by decide +kernel
theorem dX1_digitIn_7 : decode cX1_digitIn 7 = .ok (.invokestatic 72, 3) := by decide +kernel
theorem dX1_digitIn_10 : decode cX1_digitIn 10 = .ok (.aload_n 3, 1) := by decide +kernel
theorem dX1_digitIn_11 : decode cX1_digitIn 11 = .ok (.getfield 34, 3) := by decide +kernel
theorem dX1_digitIn_14 : decode cX1_digitIn 14 = .ok (.iload_n 2, 1) := by decide +kernel
theorem dX1_digitIn_15 : decode cX1_digitIn 15 = .ok (.iaload, 1) := by decide +kernel
theorem dX1_digitIn_16 : decode cX1_digitIn 16 = .ok (.iconst 1, 1) := by decide +kernel
theorem dX1_digitIn_17 : decode cX1_digitIn 17 = .ok (.iadd, 1) := by decide +kernel
theorem dX1_digitIn_18 : decode cX1_digitIn 18 = .ok (.invokestatic 76, 3) := by decide +kernel
theorem dX1_digitIn_21 : decode cX1_digitIn 21 = .ok (.ireturn, 1) := by decide +kernel
set_option maxRecDepth 20000 in
theorem ggX1_isOpen_X1_digitIn : GoodIn wsX1_isOpen wsX1_digitIn := goodIn_r _ [6, 7, 1, 8, 9, 10, 11, 12, 24, 25, 26, 27, 28, 13, 14, 15, 16, 17, 18, 19, 20, 21, 22, 23] (by decide +kernel) (by decide +kernel)
set_option maxRecDepth 20000 in
theorem gX1_isOpen_X1_digitIn : GoodIn wsX1_isOpen (wsV RX1 79 RX1 yX1_digitIn wsX1_digitIn) := goodIn_app (goodIn_of _ (by decide +kernel)) ggX1_isOpen_X1_digitIn
theorem dX1_isOpen_0 : decode cX1_isOpen 0 = .ok (.aload_n 0, 1) := by decide +kernel
theorem dX1_isOpen_1 : decode cX1_isOpen 1 = .ok (.iload_n 1, 1) := by decide +kernel
theorem dX1_isOpen_2 : decode cX1_isOpen 2 = .ok (.iload_n 2, 1) := by decide +kernel
theorem dX1_isOpen_3 : decode cX1_isOpen 3 = .ok (.aload_n 3, 1) := by decide +kernel
theorem dX1_isOpen_4 : decode cX1_isOpen 4 = .ok (.invokevirtual 79, 3) := by decide +kernel
theorem dX1_isOpen_7 : decode cX1_isOpen 7 = .ok (.aload_n 3, 1) := by decide +kernel
theorem dX1_isOpen_8 : decode cX1_isOpen 8 = .ok (.getfield 34, 3) := by decide +kernel
theorem dX1_isOpen_11 : decode cX1_isOpen 11 = .ok (.iload_n 2, 1) := by decide +kernel
theorem dX1_isOpen_12 : decode cX1_isOpen 12 = .ok (.iaload, 1) := by decide +kernel
theorem dX1_isOpen_13 : decode cX1_isOpen 13 = .ok (.if_icmp .ne 7, 3) := by decide +kernel
theorem dX1_isOpen_16 : decode cX1_isOpen 16 = .ok (.iconst 1, 1) := by decide +kernel
theorem dX1_isOpen_17 : decode cX1_isOpen 17 = .ok (.goto 4, 3) := by decide +kernel
theorem dX1_isOpen_20 : decode cX1_isOpen 20 = .ok (.iconst 0, 1) := by decide +kernel
theorem dX1_isOpen_21 : decode cX1_isOpen 21 = .ok (.ireturn, 1) := by decide +kernel
set_option maxRecDepth 20000 in
theorem ggX1_gather_X1_isOpen : GoodIn wsX1_gather wsX1_isOpen := goodIn_r _ [9, 10, 11, 12, 13, 8, 14, 15, 16, 17, 18, 19, 20, 58, 59, 60, 61, 62, 63, 64, 65, 66, 67, 68, 69, 70, 71, 72, 73] (by decide +kernel) (by decide +kernel)
set_option maxRecDepth 20000 in
theorem gX1_gather_X1_isOpen : GoodIn wsX1_gather (wsV RX1 53 RX1 yX1_isOpen wsX1_isOpen) := goodIn_app (goodIn_of _ (by decide +kernel)) ggX1_gather_X1_isOpen
set_option maxRecDepth 20000 in
theorem ggX1_gather_X1_gatherParts : GoodIn wsX1_gather wsX1_gatherParts := goodIn_r _ [24, 4, 10, 3, 25, 26, 27, 8, 28, 15, 69, 70, 71, 72, 73, 58, 59, 60, 61, 62, 63, 64, 65, 66, 67, 68] (by decide +kernel) (by decide +kernel)
set_option maxRecDepth 20000 in
theorem gX1_gather_X1_gatherParts : GoodIn wsX1_gather (wsV RX1 83 RX1 yX1_gatherParts wsX1_gatherParts) := goodIn_app (goodIn_of _ (by decide +kernel)) ggX1_gather_X1_gatherParts
set_option maxRecDepth 20000 in
theorem ggX1_gather_X1_digitIn : GoodIn wsX1_gather wsX1_digitIn := goodIn_r _ [14, 15, 10, 16, 17, 18, 19, 20, 69, 70, 71, 72, 73, 58, 59, 60, 61, 62, 63, 64, 65, 66, 67, 68] (by decide +kernel) (by decide +kernel)
set_option maxRecDepth 20000 in
theorem gX1_gather_X1_digitIn : GoodIn wsX1_gather (wsV RX1 79 RX1 yX1_digitIn wsX1_digitIn) := goodIn_app (goodIn_of _ (by decide +kernel)) ggX1_gather_X1_digitIn
set_option maxRecDepth 20000 in
theorem ggX1_gather_X4_weightOf : GoodIn wsX1_gather wsX4_weightOf := goodIn_r _ [33, 34, 35, 36, 37, 38, 32, 39, 40, 41, 16, 17, 18, 19, 20, 58, 59, 60, 61, 62, 63, 64, 65, 66, 67, 68] (by decide +kernel) (by decide +kernel)
set_option maxRecDepth 20000 in
theorem gX1_gather_X4_weightOf : GoodIn wsX1_gather (wsV RX1 90 RX4 yX4_weightOf wsX4_weightOf) := goodIn_app (goodIn_of _ (by decide +kernel)) ggX1_gather_X4_weightOf
set_option maxRecDepth 20000 in
theorem ggX1_gather_X4_actionFor : GoodIn wsX1_gather wsX4_actionFor := goodIn_r _ [45, 46, 47, 48, 49, 50, 32, 51, 52, 53, 54, 55, 56, 34, 57, 36, 37, 38, 39, 40, 41, 16, 17, 18, 19, 20, 58, 59, 60, 61, 62, 63, 64, 65, 66, 67, 68] (by decide +kernel) (by decide +kernel)
set_option maxRecDepth 20000 in
theorem gX1_gather_X4_actionFor : GoodIn wsX1_gather (wsV RX1 94 RX4 yX4_actionFor wsX4_actionFor) := goodIn_app (goodIn_of _ (by decide +kernel)) ggX1_gather_X4_actionFor
theorem dX1_gather_0 : decode cX1_gather 0 = .ok (.iconst 0, 1) := by decide +kernel
theorem dX1_gather_1 : decode cX1_gather 1 = .ok (.istore_n 3, 1) := by decide +kernel
theorem dX1_gather_2 : decode cX1_gather 2 = .ok (.iconst 0, 1) := by decide +kernel
theorem dX1_gather_3 : decode cX1_gather 3 = .ok (.istore 4, 2) := by decide +kernel
theorem dX1_gather_5 : decode cX1_gather 5 = .ok (.iload 4, 2) := by decide +kernel
theorem dX1_gather_7 : decode cX1_gather 7 = .ok (.aload_n 2, 1) := by decide +kernel
theorem dX1_gather_8 : decode cX1_gather 8 = .ok (.getfield 29, 3) := by decide +kernel
theorem dX1_gather_11 : decode cX1_gather 11 = .ok (.if_icmp .ge 48, 3) := by decide +kernel
theorem dX1_gather_14 : decode cX1_gather 14 = .ok (.aload_n 0, 1) := by decide +kernel
theorem dX1_gather_15 : decode cX1_gather 15 = .ok (.iload_n 1, 1) := by decide +kernel
theorem dX1_gather_16 : decode cX1_gather 16 = .ok (.iload 4, 2) := by decide +kernel
theorem dX1_gather_18 : decode cX1_gather 18 = .ok (.aload_n 2, 1) := by decide +kernel
theorem dX1_gather_19 : decode cX1_gather 19 = .ok (.invokevirtual 53, 3) := by decide +kernel
theorem dX1_gather_22 : decode cX1_gather 22 = .ok (.ifCond .eq 12, 3) := by decide +kernel
theorem dX1_gather_25 : decode cX1_gather 25 = .ok (.aload_n 0, 1) := by decide +kernel
theorem dX1_gather_26 : decode cX1_gather 26 = .ok (.iload_n 1, 1) := by decide +kernel
theorem dX1_gather_27 : decode cX1_gather 27 = .ok (.iload 4, 2) := by decide +kernel
theorem dX1_gather_29 : decode cX1_gather 29 = .ok (.aload_n 2, 1) := by decide +kernel
theorem dX1_gather_30 : decode cX1_gather 30 = .ok (.invokevirtual 83, 3) := by decide +kernel
theorem dX1_gather_33 : decode cX1_gather 33 = .ok (.return_, 1) := by decide +kernel
theorem dX1_gather_34 : decode cX1_gather 34 = .ok (.iload_n 3, 1) := by decide +kernel
theorem dX1_gather_35 : decode cX1_gather 35 = .ok (.aload_n 0, 1) := by decide +kernel
theorem dX1_gather_36 : decode cX1_gather 36 = .ok (.iload_n 1, 1) := by decide +kernel
theorem dX1_gather_37 : decode cX1_gather 37 = .ok (.iload 4, 2) := by decide +kernel
theorem dX1_gather_39 : decode cX1_gather 39 = .ok (.aload_n 2, 1) := by decide +kernel
theorem dX1_gather_40 : decode cX1_gather 40 = .ok (.invokevirtual 79, 3) := by decide +kernel
theorem dX1_gather_43 : decode cX1_gather 43 = .ok (.aload_n 2, 1) := by decide +kernel
theorem dX1_gather_44 : decode cX1_gather 44 = .ok (.getfield 87, 3) := by decide +kernel
theorem dX1_gather_47 : decode cX1_gather 47 = .ok (.iload 4, 2) := by decide +kernel
theorem dX1_gather_49 : decode cX1_gather 49 = .ok (.iaload, 1) := by decide +kernel
theorem dX1_gather_50 : decode cX1_gather 50 = .ok (.imul, 1) := by decide +kernel
theorem dX1_gather_51 : decode cX1_gather 51 = .ok (.iadd, 1) := by decide +kernel
theorem dX1_gather_52 : decode cX1_gather 52 = .ok (.istore_n 3, 1) := by decide +kernel
theorem dX1_gather_53 : decode cX1_gather 53 = .ok (.iinc 4 1, 3) := by decide +kernel
theorem dX1_gather_56 : decode cX1_gather 56 = .ok (.goto (-51), 3) := by decide +kernel
theorem dX1_gather_59 : decode cX1_gather 59 = .ok (.aload_n 0, 1) := by decide +kernel
theorem dX1_gather_60 : decode cX1_gather 60 = .ok (.getfield 15, 3) := by decide +kernel
theorem dX1_gather_63 : decode cX1_gather 63 = .ok (.iload_n 1, 1) := by decide +kernel
theorem dX1_gather_64 : decode cX1_gather 64 = .ok (.aload_n 2, 1) := by decide +kernel
theorem dX1_gather_65 : decode cX1_gather 65 = .ok (.iload_n 3, 1) := by decide +kernel
theorem dX1_gather_66 : decode cX1_gather 66 = .ok (.invokevirtual 90, 3) := by decide +kernel
theorem dX1_gather_69 : decode cX1_gather 69 = .ok (.iastore, 1) := by decide +kernel
theorem dX1_gather_70 : decode cX1_gather 70 = .ok (.aload_n 0, 1) := by decide +kernel
theorem dX1_gather_71 : decode cX1_gather 71 = .ok (.getfield 18, 3) := by decide +kernel
theorem dX1_gather_74 : decode cX1_gather 74 = .ok (.iload_n 1, 1) := by decide +kernel
theorem dX1_gather_75 : decode cX1_gather 75 = .ok (.aload_n 2, 1) := by decide +kernel
theorem dX1_gather_76 : decode cX1_gather 76 = .ok (.iload_n 3, 1) := by decide +kernel
theorem dX1_gather_77 : decode cX1_gather 77 = .ok (.invokevirtual 94, 3) := by decide +kernel
theorem dX1_gather_80 : decode cX1_gather 80 = .ok (.iastore, 1) := by decide +kernel
theorem dX1_gather_81 : decode cX1_gather 81 = .ok (.return_, 1) := by decide +kernel
set_option maxRecDepth 20000 in
theorem ggX1_gatherParts_X1_part : GoodIn wsX1_gatherParts wsX1_part := goodIn_r _ [8, 2, 9, 15, 16, 17, 18, 19, 20, 21, 22, 23, 24, 25, 10, 11, 12, 13, 14] (by decide +kernel) (by decide +kernel)
set_option maxRecDepth 20000 in
theorem gX1_gatherParts_X1_part : GoodIn wsX1_gatherParts (wsV RX1 68 RX1 yX1_part wsX1_part) := goodIn_app (goodIn_of _ (by decide +kernel)) ggX1_gatherParts_X1_part
theorem dX1_gatherParts_0 : decode cX1_gatherParts 0 = .ok (.iconst 0, 1) := by decide +kernel
theorem dX1_gatherParts_1 : decode cX1_gatherParts 1 = .ok (.istore 4, 2) := by decide +kernel
theorem dX1_gatherParts_3 : decode cX1_gatherParts 3 = .ok (.aload_n 0, 1) := by decide +kernel
theorem dX1_gatherParts_4 : decode cX1_gatherParts 4 = .ok (.getfield 18, 3) := by decide +kernel
theorem dX1_gatherParts_7 : decode cX1_gatherParts 7 = .ok (.aload_n 0, 1) := by decide +kernel
theorem dX1_gatherParts_8 : decode cX1_gatherParts 8 = .ok (.iload_n 1, 1) := by decide +kernel
theorem dX1_gatherParts_9 : decode cX1_gatherParts 9 = .ok (.iload_n 2, 1) := by decide +kernel
theorem dX1_gatherParts_10 : decode cX1_gatherParts 10 = .ok (.iconst 0, 1) := by decide +kernel
theorem dX1_gatherParts_11 : decode cX1_gatherParts 11 = .ok (.aload_n 3, 1) := by decide +kernel
theorem dX1_gatherParts_12 : decode cX1_gatherParts 12 = .ok (.invokevirtual 68, 3) := by decide +kernel
theorem dX1_gatherParts_15 : decode cX1_gatherParts 15 = .ok (.iaload, 1) := by decide +kernel
theorem dX1_gatherParts_16 : decode cX1_gatherParts 16 = .ok (.istore 5, 2) := by decide +kernel
theorem dX1_gatherParts_18 : decode cX1_gatherParts 18 = .ok (.iconst 0, 1) := by decide +kernel
theorem dX1_gatherParts_19 : decode cX1_gatherParts 19 = .ok (.istore 6, 2) := by decide +kernel
theorem dX1_gatherParts_21 : decode cX1_gatherParts 21 = .ok (.iload 6, 2) := by decide +kernel
theorem dX1_gatherParts_23 : decode cX1_gatherParts 23 = .ok (.aload_n 3, 1) := by decide +kernel
theorem dX1_gatherParts_24 : decode cX1_gatherParts 24 = .ok (.getfield 34, 3) := by decide +kernel
theorem dX1_gatherParts_27 : decode cX1_gatherParts 27 = .ok (.iload_n 2, 1) := by decide +kernel
theorem dX1_gatherParts_28 : decode cX1_gatherParts 28 = .ok (.iaload, 1) := by decide +kernel
theorem dX1_gatherParts_29 : decode cX1_gatherParts 29 = .ok (.if_icmp .ge 48, 3) := by decide +kernel
theorem dX1_gatherParts_32 : decode cX1_gatherParts 32 = .ok (.aload_n 0, 1) := by decide +kernel
theorem dX1_gatherParts_33 : decode cX1_gatherParts 33 = .ok (.iload_n 1, 1) := by decide +kernel
theorem dX1_gatherParts_34 : decode cX1_gatherParts 34 = .ok (.iload_n 2, 1) := by decide +kernel
theorem dX1_gatherParts_35 : decode cX1_gatherParts 35 = .ok (.iload 6, 2) := by decide +kernel
theorem dX1_gatherParts_37 : decode cX1_gatherParts 37 = .ok (.aload_n 3, 1) := by decide +kernel
theorem dX1_gatherParts_38 : decode cX1_gatherParts 38 = .ok (.invokevirtual 68, 3) := by decide +kernel
theorem dX1_gatherParts_41 : decode cX1_gatherParts 41 = .ok (.istore 7, 2) := by decide +kernel
theorem dX1_gatherParts_43 : decode cX1_gatherParts 43 = .ok (.iload 4, 2) := by decide +kernel
theorem dX1_gatherParts_45 : decode cX1_gatherParts 45 = .ok (.aload_n 0, 1) := by decide +kernel
theorem dX1_gatherParts_46 : decode cX1_gatherParts 46 = .ok (.getfield 15, 3) := by decide +kernel
theorem dX1_gatherParts_49 : decode cX1_gatherParts 49 = .ok (.iload 7, 2) := by decide +kernel
theorem dX1_gatherParts_51 : decode cX1_gatherParts 51 = .ok (.iaload, 1) := by decide +kernel
theorem dX1_gatherParts_52 : decode cX1_gatherParts 52 = .ok (.iadd, 1) := by decide +kernel
theorem dX1_gatherParts_53 : decode cX1_gatherParts 53 = .ok (.istore 4, 2) := by decide +kernel
theorem dX1_gatherParts_55 : decode cX1_gatherParts 55 = .ok (.aload_n 0, 1) := by decide +kernel
theorem dX1_gatherParts_56 : decode cX1_gatherParts 56 = .ok (.getfield 18, 3) := by decide +kernel
theorem dX1_gatherParts_59 : decode cX1_gatherParts 59 = .ok (.iload 7, 2) := by decide +kernel
theorem dX1_gatherParts_61 : decode cX1_gatherParts 61 = .ok (.iaload, 1) := by decide +kernel
theorem dX1_gatherParts_62 : decode cX1_gatherParts 62 = .ok (.iload 5, 2) := by decide +kernel
theorem dX1_gatherParts_64 : decode cX1_gatherParts 64 = .ok (.if_icmp .eq 7, 3) := by decide +kernel
theorem dX1_gatherParts_67 : decode cX1_gatherParts 67 = .ok (.bipush (-2), 2) := by decide +kernel
theorem dX1_gatherParts_69 : decode cX1_gatherParts 69 = .ok (.istore 5, 2) := by decide +kernel
theorem dX1_gatherParts_71 : decode cX1_gatherParts 71 = .ok (.iinc 6 1, 3) := by decide +kernel
theorem dX1_gatherParts_74 : decode cX1_gatherParts 74 = .ok (.goto (-53), 3) := by decide +kernel
theorem dX1_gatherParts_77 : decode cX1_gatherParts 77 = .ok (.aload_n 0, 1) := by decide +kernel
theorem dX1_gatherParts_78 : decode cX1_gatherParts 78 = .ok (.getfield 15, 3) := by decide +kernel
theorem dX1_gatherParts_81 : decode cX1_gatherParts 81 = .ok (.iload_n 1, 1) := by decide +kernel
theorem dX1_gatherParts_82 : decode cX1_gatherParts 82 = .ok (.iload 4, 2) := by decide +kernel
theorem dX1_gatherParts_84 : decode cX1_gatherParts 84 = .ok (.iastore, 1) := by decide +kernel
theorem dX1_gatherParts_85 : decode cX1_gatherParts 85 = .ok (.aload_n 0, 1) := by decide +kernel
theorem dX1_gatherParts_86 : decode cX1_gatherParts 86 = .ok (.getfield 18, 3) := by decide +kernel
theorem dX1_gatherParts_89 : decode cX1_gatherParts 89 = .ok (.iload_n 1, 1) := by decide +kernel
theorem dX1_gatherParts_90 : decode cX1_gatherParts 90 = .ok (.iload 5, 2) := by decide +kernel
theorem dX1_gatherParts_92 : decode cX1_gatherParts 92 = .ok (.iastore, 1) := by decide +kernel
theorem dX1_gatherParts_93 : decode cX1_gatherParts 93 = .ok (.return_, 1) := by decide +kernel
theorem dX2_init_0 : decode cX2_init 0 = .ok (.aload_n 0, 1) := by decide +kernel
theorem dX2_init_1 : decode cX2_init 1 = .ok (.invokespecial 3, 3) := by decide +kernel
theorem dX2_init_4 : decode cX2_init 4 = .ok (.aload_n 0, 1) := by decide +kernel
theorem dX2_init_5 : decode cX2_init 5 = .ok (.iconst 4, 1) := by decide +kernel
theorem dX2_init_6 : decode cX2_init 6 = .ok (.newarray .int, 2) := by decide +kernel
theorem dX2_init_8 : decode cX2_init 8 = .ok (.putfield 9, 3) := by decide +kernel
theorem dX2_init_11 : decode cX2_init 11 = .ok (.return_, 1) := by decide +kernel
set_option maxRecDepth 20000 in
theorem ggX2_read_J7_fill_53178 : GoodIn wsX2_read wsJ7_fill_53178 := goodIn_r _ [10] (by decide +kernel) (by decide +kernel)
set_option maxRecDepth 20000 in
theorem gX2_read_J7_fill_53178 : GoodIn wsX2_read (va_wsS RX2 15 yJ7_fill_53178 wsJ7_fill_53178) := goodIn_app (goodIn_of _ (by decide +kernel)) ggX2_read_J7_fill_53178
set_option maxRecDepth 20000 in
theorem ggX2_read_X2_accept : GoodIn wsX2_read wsX2_accept := goodIn_r _ [15, 4, 16, 17, 18, 14, 19, 1, 3, 20, 21, 22, 23, 24, 25, 26, 27, 28, 29, 30, 31, 32, 33, 34, 35, 36, 37, 38, 39, 40, 41, 42, 43, 44, 2, 45, 46, 47, 48, 51, 52, 53, 54, 55, 56, 57, 58, 59, 60, 61] (by decide +kernel) (by decide +kernel)
set_option maxRecDepth 20000 in
theorem gX2_read_X2_accept : GoodIn wsX2_read (wsV RX2 40 RX2 yX2_accept wsX2_accept) := goodIn_app (goodIn_of _ (by decide +kernel)) ggX2_read_X2_accept
theorem dX2_read_0 : decode cX2_read 0 = .ok (.aload_n 0, 1) := by decide +kernel
theorem dX2_read_1 : decode cX2_read 1 = .ok (.getfield 9, 3) := by decide +kernel
theorem dX2_read_4 : decode cX2_read 4 = .ok (.iconst 0, 1) := by decide +kernel
theorem dX2_read_5 : decode cX2_read 5 = .ok (.invokestatic 15, 3) := by decide +kernel
theorem dX2_read_8 : decode cX2_read 8 = .ok (.aload_n 0, 1) := by decide +kernel
theorem dX2_read_9 : decode cX2_read 9 = .ok (.iconst 0, 1) := by decide +kernel
theorem dX2_read_10 : decode cX2_read 10 = .ok (.putfield 21, 3) := by decide +kernel
theorem dX2_read_13 : decode cX2_read 13 = .ok (.aload_n 0, 1) := by decide +kernel
theorem dX2_read_14 : decode cX2_read 14 = .ok (.iconst 0, 1) := by decide +kernel
theorem dX2_read_15 : decode cX2_read 15 = .ok (.putfield 25, 3) := by decide +kernel
theorem dX2_read_18 : decode cX2_read 18 = .ok (.aload_n 0, 1) := by decide +kernel
theorem dX2_read_19 : decode cX2_read 19 = .ok (.iconst 0, 1) := by decide +kernel
theorem dX2_read_20 : decode cX2_read 20 = .ok (.putfield 28, 3) := by decide +kernel
theorem dX2_read_23 : decode cX2_read 23 = .ok (.iconst 0, 1) := by decide +kernel
theorem dX2_read_24 : decode cX2_read 24 = .ok (.istore_n 3, 1) := by decide +kernel
theorem dX2_read_25 : decode cX2_read 25 = .ok (.iload_n 3, 1) := by decide +kernel
theorem dX2_read_26 : decode cX2_read 26 = .ok (.aload_n 1, 1) := by decide +kernel
theorem dX2_read_27 : decode cX2_read 27 = .ok (.getfield 31, 3) := by decide +kernel
theorem dX2_read_30 : decode cX2_read 30 = .ok (.if_icmp .ge 25, 3) := by decide +kernel
theorem dX2_read_33 : decode cX2_read 33 = .ok (.aload_n 0, 1) := by decide +kernel
theorem dX2_read_34 : decode cX2_read 34 = .ok (.aload_n 1, 1) := by decide +kernel
theorem dX2_read_35 : decode cX2_read 35 = .ok (.getfield 36, 3) := by decide +kernel
theorem dX2_read_38 : decode cX2_read 38 = .ok (.iload_n 3, 1) := by decide +kernel
theorem dX2_read_39 : decode cX2_read 39 = .ok (.baload, 1) := by decide +kernel
theorem dX2_read_40 : decode cX2_read 40 = .ok (.aload_n 2, 1) := by decide +kernel
theorem dX2_read_41 : decode cX2_read 41 = .ok (.invokevirtual 40, 3) := by decide +kernel
theorem dX2_read_44 : decode cX2_read 44 = .ok (.ifCond .ne 5, 3) := by decide +kernel
theorem dX2_read_47 : decode cX2_read 47 = .ok (.iload_n 3, 1) := by decide +kernel
theorem dX2_read_48 : decode cX2_read 48 = .ok (.ireturn, 1) := by decide +kernel
theorem dX2_read_49 : decode cX2_read 49 = .ok (.iinc 3 1, 3) := by decide +kernel
theorem dX2_read_52 : decode cX2_read 52 = .ok (.goto (-27), 3) := by decide +kernel
theorem dX2_read_55 : decode cX2_read 55 = .ok (.aload_n 0, 1) := by decide +kernel
theorem dX2_read_56 : decode cX2_read 56 = .ok (.getfield 28, 3) := by decide +kernel
theorem dX2_read_59 : decode cX2_read 59 = .ok (.iconst 4, 1) := by decide +kernel
theorem dX2_read_60 : decode cX2_read 60 = .ok (.if_icmp .ne 7, 3) := by decide +kernel
theorem dX2_read_63 : decode cX2_read 63 = .ok (.iconst (-1), 1) := by decide +kernel
theorem dX2_read_64 : decode cX2_read 64 = .ok (.goto 7, 3) := by decide +kernel
theorem dX2_read_67 : decode cX2_read 67 = .ok (.aload_n 1, 1) := by decide +kernel
theorem dX2_read_68 : decode cX2_read 68 = .ok (.getfield 31, 3) := by decide +kernel
theorem dX2_read_71 : decode cX2_read 71 = .ok (.ireturn, 1) := by decide +kernel
set_option maxRecDepth 20000 in
theorem ggX2_accept_X2_acceptStar : GoodIn wsX2_accept wsX2_acceptStar := goodIn_r _ [6, 7, 8, 9, 1, 35, 36, 37, 38, 39, 40, 41, 42, 43, 44, 45, 46, 47, 48, 49] (by decide +kernel) (by decide +kernel)
set_option maxRecDepth 20000 in
theorem gX2_accept_X2_acceptStar : GoodIn wsX2_accept (wsV RX2 44 RX2 yX2_acceptStar wsX2_acceptStar) := goodIn_app (goodIn_of _ (by decide +kernel)) ggX2_accept_X2_acceptStar
set_option maxRecDepth 20000 in
theorem ggX2_accept_X2_acceptValue : GoodIn wsX2_accept wsX2_acceptValue := goodIn_r _ [13, 8, 7, 1, 14, 15, 16, 17, 18, 19, 20, 21, 22, 23, 24, 35, 36, 37, 38, 39, 40, 41, 42, 43, 44, 45, 46, 47, 48, 49] (by decide +kernel) (by decide +kernel)
set_option maxRecDepth 20000 in
theorem gX2_accept_X2_acceptValue : GoodIn wsX2_accept (wsV RX2 47 RX2 yX2_acceptValue wsX2_acceptValue) := goodIn_app (goodIn_of _ (by decide +kernel)) ggX2_accept_X2_acceptValue
set_option maxRecDepth 20000 in
theorem ggX2_accept_X2_acceptSeparator : GoodIn wsX2_accept wsX2_acceptSeparator := goodIn_r _ [28, 8, 29, 1, 35, 36, 37, 38, 39, 40, 41, 42, 43, 44, 45, 46, 47, 48, 49] (by decide +kernel) (by decide +kernel)
set_option maxRecDepth 20000 in
theorem gX2_accept_X2_acceptSeparator : GoodIn wsX2_accept (wsV RX2 50 RX2 yX2_acceptSeparator wsX2_acceptSeparator) := goodIn_app (goodIn_of _ (by decide +kernel)) ggX2_accept_X2_acceptSeparator
set_option maxRecDepth 20000 in
theorem ggX2_accept_X2_acceptAction : GoodIn wsX2_accept wsX2_acceptAction := goodIn_r _ [33, 34, 1, 35, 36, 37, 38] (by decide +kernel) (by decide +kernel)
set_option maxRecDepth 20000 in
theorem gX2_accept_X2_acceptAction : GoodIn wsX2_accept (wsV RX2 53 RX2 yX2_acceptAction wsX2_acceptAction) := goodIn_app (goodIn_of _ (by decide +kernel)) ggX2_accept_X2_acceptAction
theorem dX2_accept_0 : decode cX2_accept 0 = .ok (.aload_n 0, 1) := by decide +kernel
theorem dX2_accept_1 : decode cX2_accept 1 = .ok (.getfield 28, 3) := by decide +kernel
theorem dX2_accept_4 : decode cX2_accept 4 = .ok (.tableswitch 93 0 3 #[32, 56, 80, 87], 32) := by decide +kernel
theorem dX2_accept_36 : decode cX2_accept 36 = .ok (.aload_n 0, 1) := by decide +kernel
theorem dX2_accept_37 : decode cX2_accept 37 = .ok (.iload_n 1, 1) := by decide +kernel
theorem dX2_accept_38 : decode cX2_accept 38 = .ok (.aload_n 2, 1) := by decide +kernel
theorem dX2_accept_39 : decode cX2_accept 39 = .ok (.invokevirtual 44, 3) := by decide +kernel
theorem dX2_accept_42 : decode cX2_accept 42 = .ok (.ifCond .ne 12, 3) := by decide +kernel
theorem dX2_accept_45 : decode cX2_accept 45 = .ok (.aload_n 0, 1) := by decide +kernel
theorem dX2_accept_46 : decode cX2_accept 46 = .ok (.iload_n 1, 1) := by decide +kernel
theorem dX2_accept_47 : decode cX2_accept 47 = .ok (.aload_n 2, 1) := by decide +kernel
theorem dX2_accept_48 : decode cX2_accept 48 = .ok (.invokevirtual 47, 3) := by decide +kernel
theorem dX2_accept_51 : decode cX2_accept 51 = .ok (.ifCond .eq 7, 3) := by decide +kernel
theorem dX2_accept_54 : decode cX2_accept 54 = .ok (.iconst 1, 1) := by decide +kernel
theorem dX2_accept_55 : decode cX2_accept 55 = .ok (.goto 4, 3) := by decide +kernel
theorem dX2_accept_58 : decode cX2_accept 58 = .ok (.iconst 0, 1) := by decide +kernel
theorem dX2_accept_59 : decode cX2_accept 59 = .ok (.ireturn, 1) := by decide +kernel
theorem dX2_accept_60 : decode cX2_accept 60 = .ok (.aload_n 0, 1) := by decide +kernel
theorem dX2_accept_61 : decode cX2_accept 61 = .ok (.iload_n 1, 1) := by decide +kernel
theorem dX2_accept_62 : decode cX2_accept 62 = .ok (.aload_n 2, 1) := by decide +kernel
theorem dX2_accept_63 : decode cX2_accept 63 = .ok (.invokevirtual 47, 3) := by decide +kernel
theorem dX2_accept_66 : decode cX2_accept 66 = .ok (.ifCond .ne 12, 3) := by decide +kernel
theorem dX2_accept_69 : decode cX2_accept 69 = .ok (.aload_n 0, 1) := by decide +kernel
theorem dX2_accept_70 : decode cX2_accept 70 = .ok (.iload_n 1, 1) := by decide +kernel
theorem dX2_accept_71 : decode cX2_accept 71 = .ok (.aload_n 2, 1) := by decide +kernel
theorem dX2_accept_72 : decode cX2_accept 72 = .ok (.invokevirtual 50, 3) := by decide +kernel
theorem dX2_accept_75 : decode cX2_accept 75 = .ok (.ifCond .eq 7, 3) := by decide +kernel
theorem dX2_accept_78 : decode cX2_accept 78 = .ok (.iconst 1, 1) := by decide +kernel
theorem dX2_accept_79 : decode cX2_accept 79 = .ok (.goto 4, 3) := by decide +kernel
theorem dX2_accept_82 : decode cX2_accept 82 = .ok (.iconst 0, 1) := by decide +kernel
theorem dX2_accept_83 : decode cX2_accept 83 = .ok (.ireturn, 1) := by decide +kernel
theorem dX2_accept_84 : decode cX2_accept 84 = .ok (.aload_n 0, 1) := by decide +kernel
theorem dX2_accept_85 : decode cX2_accept 85 = .ok (.iload_n 1, 1) := by decide +kernel
theorem dX2_accept_86 : decode cX2_accept 86 = .ok (.aload_n 2, 1) := by decide +kernel
theorem dX2_accept_87 : decode cX2_accept 87 = .ok (.invokevirtual 50, 3) := by decide +kernel
theorem dX2_accept_90 : decode cX2_accept 90 = .ok (.ireturn, 1) := by decide +kernel
theorem dX2_accept_91 : decode cX2_accept 91 = .ok (.aload_n 0, 1) := by decide +kernel
theorem dX2_accept_92 : decode cX2_accept 92 = .ok (.iload_n 1, 1) := by decide +kernel
theorem dX2_accept_93 : decode cX2_accept 93 = .ok (.invokevirtual 53, 3) := by decide +kernel
theorem dX2_accept_96 : decode cX2_accept 96 = .ok (.ireturn, 1) := by decide +kernel
theorem dX2_accept_97 : decode cX2_accept 97 = .ok (.iconst 0, 1) := by decide +kernel
theorem dX2_accept_98 : decode cX2_accept 98 = .ok (.ireturn, 1) := by decide +kernel
theorem dX2_acceptStar_0 : decode cX2_acceptStar 0 = .ok (.iload_n 1, 1) := by decide +kernel
theorem dX2_acceptStar_1 : decode cX2_acceptStar 1 = .ok (.bipush 42, 2) := by decide +kernel
theorem dX2_acceptStar_3 : decode cX2_acceptStar 3 = .ok (.if_icmp .eq 5, 3) := by decide +kernel
theorem dX2_acceptStar_6 : decode cX2_acceptStar 6 = .ok (.iconst 0, 1) := by decide +kernel
theorem dX2_acceptStar_7 : decode cX2_acceptStar 7 = .ok (.ireturn, 1) := by decide +kernel
theorem dX2_acceptStar_8 : decode cX2_acceptStar 8 = .ok (.aload_n 0, 1) := by decide +kernel
theorem dX2_acceptStar_9 : decode cX2_acceptStar 9 = .ok (.getfield 9, 3) := by decide +kernel
theorem dX2_acceptStar_12 : decode cX2_acceptStar 12 = .ok (.aload_n 0, 1) := by decide +kernel
theorem dX2_acceptStar_13 : decode cX2_acceptStar 13 = .ok (.getfield 25, 3) := by decide +kernel
theorem dX2_acceptStar_16 : decode cX2_acceptStar 16 = .ok (.iconst 1, 1) := by decide +kernel
theorem dX2_acceptStar_17 : decode cX2_acceptStar 17 = .ok (.aload_n 2, 1) := by decide +kernel
theorem dX2_acceptStar_18 : decode cX2_acceptStar 18 = .ok (.getfield 57, 3) := by decide +kernel
theorem dX2_acceptStar_21 : decode cX2_acceptStar 21 = .ok (.aload_n 0, 1) := by decide +kernel
theorem dX2_acceptStar_22 : decode cX2_acceptStar 22 = .ok (.getfield 25, 3) := by decide +kernel
theorem dX2_acceptStar_25 : decode cX2_acceptStar 25 = .ok (.iaload, 1) := by decide +kernel
theorem dX2_acceptStar_26 : decode cX2_acceptStar 26 = .ok (.ishl, 1) := by decide +kernel
theorem dX2_acceptStar_27 : decode cX2_acceptStar 27 = .ok (.iconst 1, 1) := by decide +kernel
theorem dX2_acceptStar_28 : decode cX2_acceptStar 28 = .ok (.isub, 1) := by decide +kernel
theorem dX2_acceptStar_29 : decode cX2_acceptStar 29 = .ok (.iastore, 1) := by decide +kernel
theorem dX2_acceptStar_30 : decode cX2_acceptStar 30 = .ok (.aload_n 0, 1) := by decide +kernel
theorem dX2_acceptStar_31 : decode cX2_acceptStar 31 = .ok (.iconst 2, 1) := by decide +kernel
theorem dX2_acceptStar_32 : decode cX2_acceptStar 32 = .ok (.putfield 28, 3) := by decide +kernel
theorem dX2_acceptStar_35 : decode cX2_acceptStar 35 = .ok (.iconst 1, 1) := by decide +kernel
theorem dX2_acceptStar_36 : decode cX2_acceptStar 36 = .ok (.ireturn, 1) := by decide +kernel
set_option maxRecDepth 20000 in
theorem ggX2_acceptValue_X4_hasValue : GoodIn wsX2_acceptValue wsX4_hasValue := goodIn_r _ [8, 9, 10, 11, 12, 7, 13, 14, 19, 20, 21, 22, 23, 24, 25, 26, 27, 28, 29] (by decide +kernel) (by decide +kernel)
set_option maxRecDepth 20000 in
theorem gX2_acceptValue_X4_hasValue : GoodIn wsX2_acceptValue (wsV RX2 62 RX4 yX4_hasValue wsX4_hasValue) := goodIn_app (goodIn_of _ (by decide +kernel)) ggX2_acceptValue_X4_hasValue
theorem dX2_acceptValue_0 : decode cX2_acceptValue 0 = .ok (.iload_n 1, 1) := by decide +kernel
theorem dX2_acceptValue_1 : decode cX2_acceptValue 1 = .ok (.bipush 48, 2) := by decide +kernel
theorem dX2_acceptValue_3 : decode cX2_acceptValue 3 = .ok (.isub, 1) := by decide +kernel
theorem dX2_acceptValue_4 : decode cX2_acceptValue 4 = .ok (.istore_n 3, 1) := by decide +kernel
theorem dX2_acceptValue_5 : decode cX2_acceptValue 5 = .ok (.aload_n 2, 1) := by decide +kernel
theorem dX2_acceptValue_6 : decode cX2_acceptValue 6 = .ok (.aload_n 0, 1) := by decide +kernel
theorem dX2_acceptValue_7 : decode cX2_acceptValue 7 = .ok (.getfield 25, 3) := by decide +kernel
theorem dX2_acceptValue_10 : decode cX2_acceptValue 10 = .ok (.iload_n 3, 1) := by decide +kernel
theorem dX2_acceptValue_11 : decode cX2_acceptValue 11 = .ok (.invokevirtual 62, 3) := by decide +kernel
theorem dX2_acceptValue_14 : decode cX2_acceptValue 14 = .ok (.ifCond .ne 5, 3) := by decide +kernel
theorem dX2_acceptValue_17 : decode cX2_acceptValue 17 = .ok (.iconst 0, 1) := by decide +kernel
theorem dX2_acceptValue_18 : decode cX2_acceptValue 18 = .ok (.ireturn, 1) := by decide +kernel
theorem dX2_acceptValue_19 : decode cX2_acceptValue 19 = .ok (.aload_n 0, 1) := by decide +kernel
theorem dX2_acceptValue_20 : decode cX2_acceptValue 20 = .ok (.getfield 9, 3) := by decide +kernel
theorem dX2_acceptValue_23 : decode cX2_acceptValue 23 = .ok (.aload_n 0, 1) := by decide +kernel
theorem dX2_acceptValue_24 : decode cX2_acceptValue 24 = .ok (.getfield 25, 3) := by decide +kernel
theorem dX2_acceptValue_27 : decode cX2_acceptValue 27 = .ok (.dup2, 1) := by decide +kernel
theorem dX2_acceptValue_28 : decode cX2_acceptValue 28 = .ok (.iaload, 1) := by decide +kernel
theorem dX2_acceptValue_29 : decode cX2_acceptValue 29 = .ok (.iconst 1, 1) := by decide +kernel
theorem dX2_acceptValue_30 : decode cX2_acceptValue 30 = .ok (.iload_n 3, 1) := by decide +kernel
theorem dX2_acceptValue_31 : decode cX2_acceptValue 31 = .ok (.ishl, 1) := by decide +kernel
theorem dX2_acceptValue_32 : decode cX2_acceptValue 32 = .ok (.ior, 1) := by decide +kernel
theorem dX2_acceptValue_33 : decode cX2_acceptValue 33 = .ok (.iastore, 1) := by decide +kernel
theorem dX2_acceptValue_34 : decode cX2_acceptValue 34 = .ok (.aload_n 0, 1) := by decide +kernel
theorem dX2_acceptValue_35 : decode cX2_acceptValue 35 = .ok (.iconst 1, 1) := by decide +kernel
theorem dX2_acceptValue_36 : decode cX2_acceptValue 36 = .ok (.putfield 28, 3) := by decide +kernel
theorem dX2_acceptValue_39 : decode cX2_acceptValue 39 = .ok (.iconst 1, 1) := by decide +kernel
theorem dX2_acceptValue_40 : decode cX2_acceptValue 40 = .ok (.ireturn, 1) := by decide +kernel
theorem dX2_acceptSeparator_0 : decode cX2_acceptSeparator 0 = .ok (.aload_n 0, 1) := by decide +kernel
theorem dX2_acceptSeparator_1 : decode cX2_acceptSeparator 1 = .ok (.getfield 25, 3) := by decide +kernel
theorem dX2_acceptSeparator_4 : decode cX2_acceptSeparator 4 = .ok (.iconst 1, 1) := by decide +kernel
theorem dX2_acceptSeparator_5 : decode cX2_acceptSeparator 5 = .ok (.iadd, 1) := by decide +kernel
theorem dX2_acceptSeparator_6 : decode cX2_acceptSeparator 6 = .ok (.aload_n 2, 1) := by decide +kernel
theorem dX2_acceptSeparator_7 : decode cX2_acceptSeparator 7 = .ok (.getfield 66, 3) := by decide +kernel
theorem dX2_acceptSeparator_10 : decode cX2_acceptSeparator 10 = .ok (.if_icmp .lt 7, 3) := by decide +kernel
theorem dX2_acceptSeparator_13 : decode cX2_acceptSeparator 13 = .ok (.iconst 1, 1) := by decide +kernel
theorem dX2_acceptSeparator_14 : decode cX2_acceptSeparator 14 = .ok (.goto 4, 3) := by decide +kernel
theorem dX2_acceptSeparator_17 : decode cX2_acceptSeparator 17 = .ok (.iconst 0, 1) := by decide +kernel
theorem dX2_acceptSeparator_18 : decode cX2_acceptSeparator 18 = .ok (.istore_n 3, 1) := by decide +kernel
theorem dX2_acceptSeparator_19 : decode cX2_acceptSeparator 19 = .ok (.iload_n 1, 1) := by decide +kernel
theorem dX2_acceptSeparator_20 : decode cX2_acceptSeparator 20 = .ok (.iload_n 3, 1) := by decide +kernel
theorem dX2_acceptSeparator_21 : decode cX2_acceptSeparator 21 = .ok (.ifCond .eq 8, 3) := by decide +kernel
theorem dX2_acceptSeparator_24 : decode cX2_acceptSeparator 24 = .ok (.bipush 58, 2) := by decide +kernel
theorem dX2_acceptSeparator_26 : decode cX2_acceptSeparator 26 = .ok (.goto 5, 3) := by decide +kernel
theorem dX2_acceptSeparator_29 : decode cX2_acceptSeparator 29 = .ok (.bipush 44, 2) := by decide +kernel
theorem dX2_acceptSeparator_31 : decode cX2_acceptSeparator 31 = .ok (.if_icmp .eq 5, 3) := by decide +kernel
theorem dX2_acceptSeparator_34 : decode cX2_acceptSeparator 34 = .ok (.iconst 0, 1) := by decide +kernel
theorem dX2_acceptSeparator_35 : decode cX2_acceptSeparator 35 = .ok (.ireturn, 1) := by decide +kernel
theorem dX2_acceptSeparator_36 : decode cX2_acceptSeparator 36 = .ok (.iload_n 3, 1) := by decide +kernel
theorem dX2_acceptSeparator_37 : decode cX2_acceptSeparator 37 = .ok (.ifCond .eq 11, 3) := by decide +kernel
theorem dX2_acceptSeparator_40 : decode cX2_acceptSeparator 40 = .ok (.aload_n 0, 1) := by decide +kernel
theorem dX2_acceptSeparator_41 : decode cX2_acceptSeparator 41 = .ok (.iconst 3, 1) := by decide +kernel
theorem dX2_acceptSeparator_42 : decode cX2_acceptSeparator 42 = .ok (.putfield 28, 3) := by decide +kernel
theorem dX2_acceptSeparator_45 : decode cX2_acceptSeparator 45 = .ok (.goto 18, 3) := by decide +kernel
theorem dX2_acceptSeparator_48 : decode cX2_acceptSeparator 48 = .ok (.aload_n 0, 1) := by decide +kernel
theorem dX2_acceptSeparator_49 : decode cX2_acceptSeparator 49 = .ok (.dup, 1) := by decide +kernel
theorem dX2_acceptSeparator_50 : decode cX2_acceptSeparator 50 = .ok (.getfield 25, 3) := by decide +kernel
theorem dX2_acceptSeparator_53 : decode cX2_acceptSeparator 53 = .ok (.iconst 1, 1) := by decide +kernel
theorem dX2_acceptSeparator_54 : decode cX2_acceptSeparator 54 = .ok (.iadd, 1) := by decide +kernel
theorem dX2_acceptSeparator_55 : decode cX2_acceptSeparator 55 = .ok (.putfield 25, 3) := by decide +kernel
theorem dX2_acceptSeparator_58 : decode cX2_acceptSeparator 58 = .ok (.aload_n 0, 1) := by decide +kernel
theorem dX2_acceptSeparator_59 : decode cX2_acceptSeparator 59 = .ok (.iconst 0, 1) := by decide +kernel
theorem dX2_acceptSeparator_60 : decode cX2_acceptSeparator 60 = .ok (.putfield 28, 3) := by decide +kernel
theorem dX2_acceptSeparator_63 : decode cX2_acceptSeparator 63 = .ok (.iconst 1, 1) := by decide +kernel
theorem dX2_acceptSeparator_64 : decode cX2_acceptSeparator 64 = .ok (.ireturn, 1) := by decide +kernel
theorem dX2_acceptAction_0 : decode cX2_acceptAction 0 = .ok (.iload_n 1, 1) := by decide +kernel
theorem dX2_acceptAction_1 : decode cX2_acceptAction 1 = .ok (.bipush 48, 2) := by decide +kernel
theorem dX2_acceptAction_3 : decode cX2_acceptAction 3 = .ok (.if_icmp .lt 9, 3) := by decide +kernel
theorem dX2_acceptAction_6 : decode cX2_acceptAction 6 = .ok (.iload_n 1, 1) := by decide +kernel
theorem dX2_acceptAction_7 : decode cX2_acceptAction 7 = .ok (.bipush 57, 2) := by decide +kernel
theorem dX2_acceptAction_9 : decode cX2_acceptAction 9 = .ok (.if_icmp .le 5, 3) := by decide +kernel
theorem dX2_acceptAction_12 : decode cX2_acceptAction 12 = .ok (.iconst 0, 1) := by decide +kernel
theorem dX2_acceptAction_13 : decode cX2_acceptAction 13 = .ok (.ireturn, 1) := by decide +kernel
theorem dX2_acceptAction_14 : decode cX2_acceptAction 14 = .ok (.aload_n 0, 1) := by decide +kernel
theorem dX2_acceptAction_15 : decode cX2_acceptAction 15 = .ok (.iload_n 1, 1) := by decide +kernel
theorem dX2_acceptAction_16 : decode cX2_acceptAction 16 = .ok (.bipush 48, 2) := by decide +kernel
theorem dX2_acceptAction_18 : decode cX2_acceptAction 18 = .ok (.isub, 1) := by decide +kernel
theorem dX2_acceptAction_19 : decode cX2_acceptAction 19 = .ok (.putfield 21, 3) := by decide +kernel
theorem dX2_acceptAction_22 : decode cX2_acceptAction 22 = .ok (.aload_n 0, 1) := by decide +kernel
theorem dX2_acceptAction_23 : decode cX2_acceptAction 23 = .ok (.iconst 4, 1) := by decide +kernel
theorem dX2_acceptAction_24 : decode cX2_acceptAction 24 = .ok (.putfield 28, 3) := by decide +kernel
theorem dX2_acceptAction_27 : decode cX2_acceptAction 27 = .ok (.iconst 1, 1) := by decide +kernel
theorem dX2_acceptAction_28 : decode cX2_acceptAction 28 = .ok (.ireturn, 1) := by decide +kernel
theorem dX3_init_0 : decode cX3_init 0 = .ok (.aload_n 0, 1) := by decide +kernel
theorem dX3_init_1 : decode cX3_init 1 = .ok (.invokespecial 3, 3) := by decide +kernel
theorem dX3_init_4 : decode cX3_init 4 = .ok (.aload_n 0, 1) := by decide +kernel
theorem dX3_init_5 : decode cX3_init 5 = .ok (.sipush 700, 3) := by decide +kernel
theorem dX3_init_8 : decode cX3_init 8 = .ok (.newarray .long, 2) := by decide +kernel
theorem dX3_init_10 : decode cX3_init 10 = .ok (.putfield 9, 3) := by decide +kernel
theorem dX3_init_13 : decode cX3_init 13 = .ok (.return_, 1) := by decide +kernel
set_option maxRecDepth 20000 in
theorem ggX3_fillWith_J7_fill_d0a16 : GoodIn wsX3_fillWith wsJ7_fill_d0a16 := goodIn_r _ [8] (by decide +kernel) (by decide +kernel)
set_option maxRecDepth 20000 in
theorem gX3_fillWith_J7_fill_d0a16 : GoodIn wsX3_fillWith (va_wsS RX3 26 yJ7_fill_d0a16 wsJ7_fill_d0a16) := goodIn_app (goodIn_of _ (by decide +kernel)) ggX3_fillWith_J7_fill_d0a16
theorem dX3_fillWith_0 : decode cX3_fillWith 0 = .ok (.aload_n 0, 1) := by decide +kernel
theorem dX3_fillWith_1 : decode cX3_fillWith 1 = .ok (.iconst 1, 1) := by decide +kernel
theorem dX3_fillWith_2 : decode cX3_fillWith 2 = .ok (.putfield 15, 3) := by decide +kernel
theorem dX3_fillWith_5 : decode cX3_fillWith 5 = .ok (.aload_n 0, 1) := by decide +kernel
theorem dX3_fillWith_6 : decode cX3_fillWith 6 = .ok (.iload_n 1, 1) := by decide +kernel
theorem dX3_fillWith_7 : decode cX3_fillWith 7 = .ok (.putfield 19, 3) := by decide +kernel
theorem dX3_fillWith_10 : decode cX3_fillWith 10 = .ok (.aload_n 0, 1) := by decide +kernel
theorem dX3_fillWith_11 : decode cX3_fillWith 11 = .ok (.iload_n 2, 1) := by decide +kernel
theorem dX3_fillWith_12 : decode cX3_fillWith 12 = .ok (.putfield 23, 3) := by decide +kernel
theorem dX3_fillWith_15 : decode cX3_fillWith 15 = .ok (.aload_n 0, 1) := by decide +kernel
theorem dX3_fillWith_16 : decode cX3_fillWith 16 = .ok (.getfield 9, 3) := by decide +kernel
theorem dX3_fillWith_19 : decode cX3_fillWith 19 = .ok (.lconst 0, 1) := by decide +kernel
theorem dX3_fillWith_20 : decode cX3_fillWith 20 = .ok (.invokestatic 26, 3) := by decide +kernel
theorem dX3_fillWith_23 : decode cX3_fillWith 23 = .ok (.return_, 1) := by decide +kernel
theorem dX3_hasIndex_0 : decode cX3_hasIndex 0 = .ok (.iload_n 1, 1) := by decide +kernel
theorem dX3_hasIndex_1 : decode cX3_hasIndex 1 = .ok (.ifCond .lt 15, 3) := by decide +kernel
theorem dX3_hasIndex_4 : decode cX3_hasIndex 4 = .ok (.iload_n 1, 1) := by decide +kernel
theorem dX3_hasIndex_5 : decode cX3_hasIndex 5 = .ok (.aload_n 0, 1) := by decide +kernel
theorem dX3_hasIndex_6 : decode cX3_hasIndex 6 = .ok (.getfield 23, 3) := by decide +kernel
theorem dX3_hasIndex_9 : decode cX3_hasIndex 9 = .ok (.if_icmp .ge 7, 3) := by decide +kernel
theorem dX3_hasIndex_12 : decode cX3_hasIndex 12 = .ok (.iconst 1, 1) := by decide +kernel
theorem dX3_hasIndex_13 : decode cX3_hasIndex 13 = .ok (.goto 4, 3) := by decide +kernel
theorem dX3_hasIndex_16 : decode cX3_hasIndex 16 = .ok (.iconst 0, 1) := by decide +kernel
theorem dX3_hasIndex_17 : decode cX3_hasIndex 17 = .ok (.ireturn, 1) := by decide +kernel
theorem dX3_hasRange_0 : decode cX3_hasRange 0 = .ok (.iload_n 1, 1) := by decide +kernel
theorem dX3_hasRange_1 : decode cX3_hasRange 1 = .ok (.ifCond .lt 29, 3) := by decide +kernel
theorem dX3_hasRange_4 : decode cX3_hasRange 4 = .ok (.iload_n 2, 1) := by decide +kernel
theorem dX3_hasRange_5 : decode cX3_hasRange 5 = .ok (.ifCond .lt 25, 3) := by decide +kernel
theorem dX3_hasRange_8 : decode cX3_hasRange 8 = .ok (.iload_n 1, 1) := by decide +kernel
theorem dX3_hasRange_9 : decode cX3_hasRange 9 = .ok (.aload_n 0, 1) := by decide +kernel
theorem dX3_hasRange_10 : decode cX3_hasRange 10 = .ok (.getfield 23, 3) := by decide +kernel
theorem dX3_hasRange_13 : decode cX3_hasRange 13 = .ok (.if_icmp .gt 17, 3) := by decide +kernel
theorem dX3_hasRange_16 : decode cX3_hasRange 16 = .ok (.iload_n 2, 1) := by decide +kernel
theorem dX3_hasRange_17 : decode cX3_hasRange 17 = .ok (.aload_n 0, 1) := by decide +kernel
theorem dX3_hasRange_18 : decode cX3_hasRange 18 = .ok (.getfield 23, 3) := by decide +kernel
theorem dX3_hasRange_21 : decode cX3_hasRange 21 = .ok (.iload_n 1, 1) := by decide +kernel
theorem dX3_hasRange_22 : decode cX3_hasRange 22 = .ok (.isub, 1) := by decide +kernel
theorem dX3_hasRange_23 : decode cX3_hasRange 23 = .ok (.if_icmp .gt 7, 3) := by decide +kernel
theorem dX3_hasRange_26 : decode cX3_hasRange 26 = .ok (.iconst 1, 1) := by decide +kernel
theorem dX3_hasRange_27 : decode cX3_hasRange 27 = .ok (.goto 4, 3) := by decide +kernel
theorem dX3_hasRange_30 : decode cX3_hasRange 30 = .ok (.iconst 0, 1) := by decide +kernel
theorem dX3_hasRange_31 : decode cX3_hasRange 31 = .ok (.ireturn, 1) := by decide +kernel
set_option maxRecDepth 20000 in
theorem ggX3_put_X3_narrow : GoodIn wsX3_put wsX3_narrow := goodIn_r _ [6, 7, 8, 9, 10, 11] (by decide +kernel) (by decide +kernel)
set_option maxRecDepth 20000 in
theorem gX3_put_X3_narrow : GoodIn wsX3_put (wsV RX3 32 RX3 yX3_narrow wsX3_narrow) := goodIn_app (goodIn_of _ (by decide +kernel)) ggX3_put_X3_narrow
theorem dX3_put_0 : decode cX3_put 0 = .ok (.aload_n 0, 1) := by decide +kernel
theorem dX3_put_1 : decode cX3_put 1 = .ok (.getfield 9, 3) := by decide +kernel
theorem dX3_put_4 : decode cX3_put 4 = .ok (.iload_n 1, 1) := by decide +kernel
theorem dX3_put_5 : decode cX3_put 5 = .ok (.aload_n 0, 1) := by decide +kernel
theorem dX3_put_6 : decode cX3_put 6 = .ok (.lload_n 2, 1) := by decide +kernel
theorem dX3_put_7 : decode cX3_put 7 = .ok (.invokevirtual 32, 3) := by decide +kernel
theorem dX3_put_10 : decode cX3_put 10 = .ok (.lastore, 1) := by decide +kernel
theorem dX3_put_11 : decode cX3_put 11 = .ok (.return_, 1) := by decide +kernel
theorem dX3_narrow_0 : decode cX3_narrow 0 = .ok (.aload_n 0, 1) := by decide +kernel
theorem dX3_narrow_1 : decode cX3_narrow 1 = .ok (.getfield 19, 3) := by decide +kernel
theorem dX3_narrow_4 : decode cX3_narrow 4 = .ok (.tableswitch 49 0 2 #[28, 40, 45], 28) := by decide +kernel
theorem dX3_narrow_32 : decode cX3_narrow 32 = .ok (.lload_n 1, 1) := by decide +kernel
theorem dX3_narrow_33 : decode cX3_narrow 33 = .ok (.lconst 0, 1) := by decide +kernel
theorem dX3_narrow_34 : decode cX3_narrow 34 = .ok (.lcmp, 1) := by decide +kernel
theorem dX3_narrow_35 : decode cX3_narrow 35 = .ok (.ifCond .eq 7, 3) := by decide +kernel
theorem dX3_narrow_38 : decode cX3_narrow 38 = .ok (.lconst 1, 1) := by decide +kernel
theorem dX3_narrow_39 : decode cX3_narrow 39 = .ok (.goto 4, 3) := by decide +kernel
theorem dX3_narrow_42 : decode cX3_narrow 42 = .ok (.lconst 0, 1) := by decide +kernel
theorem dX3_narrow_43 : decode cX3_narrow 43 = .ok (.lreturn, 1) := by decide +kernel
theorem dX3_narrow_44 : decode cX3_narrow 44 = .ok (.lload_n 1, 1) := by decide +kernel
theorem dX3_narrow_45 : decode cX3_narrow 45 = .ok (.l2i, 1) := by decide +kernel
theorem dX3_narrow_46 : decode cX3_narrow 46 = .ok (.i2b, 1) := by decide +kernel
theorem dX3_narrow_47 : decode cX3_narrow 47 = .ok (.i2l, 1) := by decide +kernel
theorem dX3_narrow_48 : decode cX3_narrow 48 = .ok (.lreturn, 1) := by decide +kernel
theorem dX3_narrow_49 : decode cX3_narrow 49 = .ok (.lload_n 1, 1) := by decide +kernel
theorem dX3_narrow_50 : decode cX3_narrow 50 = .ok (.l2i, 1) := by decide +kernel
theorem dX3_narrow_51 : decode cX3_narrow 51 = .ok (.i2l, 1) := by decide +kernel
theorem dX3_narrow_52 : decode cX3_narrow 52 = .ok (.lreturn, 1) := by decide +kernel
theorem dX3_narrow_53 : decode cX3_narrow 53 = .ok (.lload_n 1, 1) := by decide +kernel
theorem dX3_narrow_54 : decode cX3_narrow 54 = .ok (.lreturn, 1) := by decide +kernel
theorem dX4_init_0 : decode cX4_init 0 = .ok (.aload_n 0, 1) := by decide +kernel
theorem dX4_init_1 : decode cX4_init 1 = .ok (.invokespecial 3, 3) := by decide +kernel
theorem dX4_init_4 : decode cX4_init 4 = .ok (.aload_n 0, 1) := by decide +kernel
theorem dX4_init_5 : decode cX4_init 5 = .ok (.iconst 4, 1) := by decide +kernel
theorem dX4_init_6 : decode cX4_init 6 = .ok (.newarray .int, 2) := by decide +kernel
theorem dX4_init_8 : decode cX4_init 8 = .ok (.putfield 9, 3) := by decide +kernel
theorem dX4_init_11 : decode cX4_init 11 = .ok (.aload_n 0, 1) := by decide +kernel
theorem dX4_init_12 : decode cX4_init 12 = .ok (.iconst 4, 1) := by decide +kernel
theorem dX4_init_13 : decode cX4_init 13 = .ok (.newarray .int, 2) := by decide +kernel
theorem dX4_init_15 : decode cX4_init 15 = .ok (.putfield 15, 3) := by decide +kernel
theorem dX4_init_18 : decode cX4_init 18 = .ok (.aload_n 0, 1) := by decide +kernel
theorem dX4_init_19 : decode cX4_init 19 = .ok (.iconst 4, 1) := by decide +kernel
theorem dX4_init_20 : decode cX4_init 20 = .ok (.newarray .int, 2) := by decide +kernel
theorem dX4_init_22 : decode cX4_init 22 = .ok (.putfield 18, 3) := by decide +kernel
theorem dX4_init_25 : decode cX4_init 25 = .ok (.aload_n 0, 1) := by decide +kernel
theorem dX4_init_26 : decode cX4_init 26 = .ok (.bipush 20, 2) := by decide +kernel
theorem dX4_init_28 : decode cX4_init 28 = .ok (.newarray .int, 2) := by decide +kernel
theorem dX4_init_30 : decode cX4_init 30 = .ok (.putfield 21, 3) := by decide +kernel
theorem dX4_init_33 : decode cX4_init 33 = .ok (.aload_n 0, 1) := by decide +kernel
theorem dX4_init_34 : decode cX4_init 34 = .ok (.bipush 48, 2) := by decide +kernel
theorem dX4_init_36 : decode cX4_init 36 = .ok (.newarray .int, 2) := by decide +kernel
theorem dX4_init_38 : decode cX4_init 38 = .ok (.putfield 24, 3) := by decide +kernel
theorem dX4_init_41 : decode cX4_init 41 = .ok (.aload_n 0, 1) := by decide +kernel
theorem dX4_init_42 : decode cX4_init 42 = .ok (.bipush 12, 2) := by decide +kernel
theorem dX4_init_44 : decode cX4_init 44 = .ok (.newarray .int, 2) := by decide +kernel
theorem dX4_init_46 : decode cX4_init 46 = .ok (.putfield 27, 3) := by decide +kernel
theorem dX4_init_49 : decode cX4_init 49 = .ok (.aload_n 0, 1) := by decide +kernel
theorem dX4_init_50 : decode cX4_init 50 = .ok (.bipush 20, 2) := by decide +kernel
theorem dX4_init_52 : decode cX4_init 52 = .ok (.newarray .int, 2) := by decide +kernel
theorem dX4_init_54 : decode cX4_init 54 = .ok (.putfield 30, 3) := by decide +kernel
theorem dX4_init_57 : decode cX4_init 57 = .ok (.return_, 1) := by decide +kernel
set_option maxRecDepth 20000 in
theorem ggX4_clearTo_J7_fill_53178 : GoodIn wsX4_clearTo wsJ7_fill_53178 := goodIn_r _ [13] (by decide +kernel) (by decide +kernel)
set_option maxRecDepth 20000 in
theorem gX4_clearTo_J7_fill_53178 : GoodIn wsX4_clearTo (va_wsS RX4 46 yJ7_fill_53178 wsJ7_fill_53178) := goodIn_app (goodIn_of _ (by decide +kernel)) ggX4_clearTo_J7_fill_53178
theorem dX4_clearTo_0 : decode cX4_clearTo 0 = .ok (.aload_n 0, 1) := by decide +kernel
theorem dX4_clearTo_1 : decode cX4_clearTo 1 = .ok (.getfield 9, 3) := by decide +kernel
theorem dX4_clearTo_4 : decode cX4_clearTo 4 = .ok (.iconst 0, 1) := by decide +kernel
theorem dX4_clearTo_5 : decode cX4_clearTo 5 = .ok (.iload_n 1, 1) := by decide +kernel
theorem dX4_clearTo_6 : decode cX4_clearTo 6 = .ok (.iastore, 1) := by decide +kernel
theorem dX4_clearTo_7 : decode cX4_clearTo 7 = .ok (.aload_n 0, 1) := by decide +kernel
theorem dX4_clearTo_8 : decode cX4_clearTo 8 = .ok (.getfield 9, 3) := by decide +kernel
theorem dX4_clearTo_11 : decode cX4_clearTo 11 = .ok (.iconst 1, 1) := by decide +kernel
theorem dX4_clearTo_12 : decode cX4_clearTo 12 = .ok (.iload_n 2, 1) := by decide +kernel
theorem dX4_clearTo_13 : decode cX4_clearTo 13 = .ok (.iastore, 1) := by decide +kernel
theorem dX4_clearTo_14 : decode cX4_clearTo 14 = .ok (.aload_n 0, 1) := by decide +kernel
theorem dX4_clearTo_15 : decode cX4_clearTo 15 = .ok (.getfield 9, 3) := by decide +kernel
theorem dX4_clearTo_18 : decode cX4_clearTo 18 = .ok (.iconst 2, 1) := by decide +kernel
theorem dX4_clearTo_19 : decode cX4_clearTo 19 = .ok (.iload_n 3, 1) := by decide +kernel
theorem dX4_clearTo_20 : decode cX4_clearTo 20 = .ok (.iastore, 1) := by decide +kernel
theorem dX4_clearTo_21 : decode cX4_clearTo 21 = .ok (.aload_n 0, 1) := by decide +kernel
theorem dX4_clearTo_22 : decode cX4_clearTo 22 = .ok (.getfield 9, 3) := by decide +kernel
theorem dX4_clearTo_25 : decode cX4_clearTo 25 = .ok (.iconst 3, 1) := by decide +kernel
theorem dX4_clearTo_26 : decode cX4_clearTo 26 = .ok (.iload 4, 2) := by decide +kernel
theorem dX4_clearTo_28 : decode cX4_clearTo 28 = .ok (.iastore, 1) := by decide +kernel
theorem dX4_clearTo_29 : decode cX4_clearTo 29 = .ok (.aload_n 0, 1) := by decide +kernel
theorem dX4_clearTo_30 : decode cX4_clearTo 30 = .ok (.iconst 0, 1) := by decide +kernel
theorem dX4_clearTo_31 : decode cX4_clearTo 31 = .ok (.putfield 33, 3) := by decide +kernel
theorem dX4_clearTo_34 : decode cX4_clearTo 34 = .ok (.aload_n 0, 1) := by decide +kernel
theorem dX4_clearTo_35 : decode cX4_clearTo 35 = .ok (.iconst 1, 1) := by decide +kernel
theorem dX4_clearTo_36 : decode cX4_clearTo 36 = .ok (.putfield 37, 3) := by decide +kernel
theorem dX4_clearTo_39 : decode cX4_clearTo 39 = .ok (.iconst 3, 1) := by decide +kernel
theorem dX4_clearTo_40 : decode cX4_clearTo 40 = .ok (.istore 5, 2) := by decide +kernel
theorem dX4_clearTo_42 : decode cX4_clearTo 42 = .ok (.iload 5, 2) := by decide +kernel
theorem dX4_clearTo_44 : decode cX4_clearTo 44 = .ok (.ifCond .lt 56, 3) := by decide +kernel
theorem dX4_clearTo_47 : decode cX4_clearTo 47 = .ok (.aload_n 0, 1) := by decide +kernel
theorem dX4_clearTo_48 : decode cX4_clearTo 48 = .ok (.getfield 15, 3) := by decide +kernel
theorem dX4_clearTo_51 : decode cX4_clearTo 51 = .ok (.iload 5, 2) := by decide +kernel
theorem dX4_clearTo_53 : decode cX4_clearTo 53 = .ok (.aload_n 0, 1) := by decide +kernel
theorem dX4_clearTo_54 : decode cX4_clearTo 54 = .ok (.getfield 37, 3) := by decide +kernel
theorem dX4_clearTo_57 : decode cX4_clearTo 57 = .ok (.iastore, 1) := by decide +kernel
theorem dX4_clearTo_58 : decode cX4_clearTo 58 = .ok (.aload_n 0, 1) := by decide +kernel
theorem dX4_clearTo_59 : decode cX4_clearTo 59 = .ok (.getfield 9, 3) := by decide +kernel
theorem dX4_clearTo_62 : decode cX4_clearTo 62 = .ok (.iload 5, 2) := by decide +kernel
theorem dX4_clearTo_64 : decode cX4_clearTo 64 = .ok (.iaload, 1) := by decide +kernel
theorem dX4_clearTo_65 : decode cX4_clearTo 65 = .ok (.ifCond .le 29, 3) := by decide +kernel
theorem dX4_clearTo_68 : decode cX4_clearTo 68 = .ok (.aload_n 0, 1) := by decide +kernel
theorem dX4_clearTo_69 : decode cX4_clearTo 69 = .ok (.dup, 1) := by decide +kernel
theorem dX4_clearTo_70 : decode cX4_clearTo 70 = .ok (.getfield 33, 3) := by decide +kernel
theorem dX4_clearTo_73 : decode cX4_clearTo 73 = .ok (.iconst 1, 1) := by decide +kernel
theorem dX4_clearTo_74 : decode cX4_clearTo 74 = .ok (.iadd, 1) := by decide +kernel
theorem dX4_clearTo_75 : decode cX4_clearTo 75 = .ok (.putfield 33, 3) := by decide +kernel
theorem dX4_clearTo_78 : decode cX4_clearTo 78 = .ok (.aload_n 0, 1) := by decide +kernel
theorem dX4_clearTo_79 : decode cX4_clearTo 79 = .ok (.dup, 1) := by decide +kernel
theorem dX4_clearTo_80 : decode cX4_clearTo 80 = .ok (.getfield 37, 3) := by decide +kernel
theorem dX4_clearTo_83 : decode cX4_clearTo 83 = .ok (.aload_n 0, 1) := by decide +kernel
theorem dX4_clearTo_84 : decode cX4_clearTo 84 = .ok (.getfield 9, 3) := by decide +kernel
theorem dX4_clearTo_87 : decode cX4_clearTo 87 = .ok (.iload 5, 2) := by decide +kernel
theorem dX4_clearTo_89 : decode cX4_clearTo 89 = .ok (.iaload, 1) := by decide +kernel
theorem dX4_clearTo_90 : decode cX4_clearTo 90 = .ok (.imul, 1) := by decide +kernel
theorem dX4_clearTo_91 : decode cX4_clearTo 91 = .ok (.putfield 37, 3) := by decide +kernel
theorem dX4_clearTo_94 : decode cX4_clearTo 94 = .ok (.iinc 5 (-1), 3) := by decide +kernel
theorem dX4_clearTo_97 : decode cX4_clearTo 97 = .ok (.goto (-55), 3) := by decide +kernel
theorem dX4_clearTo_100 : decode cX4_clearTo 100 = .ok (.aload_n 0, 1) := by decide +kernel
theorem dX4_clearTo_101 : decode cX4_clearTo 101 = .ok (.iconst 0, 1) := by decide +kernel
theorem dX4_clearTo_102 : decode cX4_clearTo 102 = .ok (.putfield 40, 3) := by decide +kernel
theorem dX4_clearTo_105 : decode cX4_clearTo 105 = .ok (.aload_n 0, 1) := by decide +kernel
theorem dX4_clearTo_106 : decode cX4_clearTo 106 = .ok (.iconst (-1), 1) := by decide +kernel
theorem dX4_clearTo_107 : decode cX4_clearTo 107 = .ok (.putfield 43, 3) := by decide +kernel
theorem dX4_clearTo_110 : decode cX4_clearTo 110 = .ok (.aload_n 0, 1) := by decide +kernel
theorem dX4_clearTo_111 : decode cX4_clearTo 111 = .ok (.getfield 18, 3) := by decide +kernel
theorem dX4_clearTo_114 : decode cX4_clearTo 114 = .ok (.iconst 1, 1) := by decide +kernel
theorem dX4_clearTo_115 : decode cX4_clearTo 115 = .ok (.invokestatic 46, 3) := by decide +kernel
theorem dX4_clearTo_118 : decode cX4_clearTo 118 = .ok (.aload_n 0, 1) := by decide +kernel
theorem dX4_clearTo_119 : decode cX4_clearTo 119 = .ok (.getfield 21, 3) := by decide +kernel
theorem dX4_clearTo_122 : decode cX4_clearTo 122 = .ok (.iconst 1, 1) := by decide +kernel
theorem dX4_clearTo_123 : decode cX4_clearTo 123 = .ok (.invokestatic 46, 3) := by decide +kernel
theorem dX4_clearTo_126 : decode cX4_clearTo 126 = .ok (.aload_n 0, 1) := by decide +kernel
theorem dX4_clearTo_127 : decode cX4_clearTo 127 = .ok (.getfield 30, 3) := by decide +kernel
theorem dX4_clearTo_130 : decode cX4_clearTo 130 = .ok (.iconst 0, 1) := by decide +kernel
theorem dX4_clearTo_131 : decode cX4_clearTo 131 = .ok (.invokestatic 46, 3) := by decide +kernel
theorem dX4_clearTo_134 : decode cX4_clearTo 134 = .ok (.return_, 1) := by decide +kernel
theorem dX4_copyFrom_0 : decode cX4_copyFrom 0 = .ok (.aload_n 0, 1) := by decide +kernel
theorem dX4_copyFrom_1 : decode cX4_copyFrom 1 = .ok (.aload_n 1, 1) := by decide +kernel
theorem dX4_copyFrom_2 : decode cX4_copyFrom 2 = .ok (.getfield 33, 3) := by decide +kernel
theorem dX4_copyFrom_5 : decode cX4_copyFrom 5 = .ok (.putfield 33, 3) := by decide +kernel
theorem dX4_copyFrom_8 : decode cX4_copyFrom 8 = .ok (.aload_n 0, 1) := by decide +kernel
theorem dX4_copyFrom_9 : decode cX4_copyFrom 9 = .ok (.aload_n 1, 1) := by decide +kernel
theorem dX4_copyFrom_10 : decode cX4_copyFrom 10 = .ok (.getfield 37, 3) := by decide +kernel
theorem dX4_copyFrom_13 : decode cX4_copyFrom 13 = .ok (.putfield 37, 3) := by decide +kernel
theorem dX4_copyFrom_16 : decode cX4_copyFrom 16 = .ok (.aload_n 0, 1) := by decide +kernel
theorem dX4_copyFrom_17 : decode cX4_copyFrom 17 = .ok (.aload_n 1, 1) := by decide +kernel
theorem dX4_copyFrom_18 : decode cX4_copyFrom 18 = .ok (.getfield 40, 3) := by decide +kernel
theorem dX4_copyFrom_21 : decode cX4_copyFrom 21 = .ok (.putfield 40, 3) := by decide +kernel
theorem dX4_copyFrom_24 : decode cX4_copyFrom 24 = .ok (.aload_n 0, 1) := by decide +kernel
theorem dX4_copyFrom_25 : decode cX4_copyFrom 25 = .ok (.aload_n 1, 1) := by decide +kernel
theorem dX4_copyFrom_26 : decode cX4_copyFrom 26 = .ok (.getfield 43, 3) := by decide +kernel
theorem dX4_copyFrom_29 : decode cX4_copyFrom 29 = .ok (.putfield 43, 3) := by decide +kernel
theorem dX4_copyFrom_32 : decode cX4_copyFrom 32 = .ok (.aload_n 1, 1) := by decide +kernel
theorem dX4_copyFrom_33 : decode cX4_copyFrom 33 = .ok (.getfield 9, 3) := by decide +kernel
theorem dX4_copyFrom_36 : decode cX4_copyFrom 36 = .ok (.iconst 0, 1) := by decide +kernel
theorem dX4_copyFrom_37 : decode cX4_copyFrom 37 = .ok (.aload_n 0, 1) := by decide +kernel
theorem dX4_copyFrom_38 : decode cX4_copyFrom 38 = .ok (.getfield 9, 3) := by decide +kernel
theorem dX4_copyFrom_41 : decode cX4_copyFrom 41 = .ok (.iconst 0, 1) := by decide +kernel
theorem dX4_copyFrom_42 : decode cX4_copyFrom 42 = .ok (.iconst 4, 1) := by decide +kernel
theorem dX4_copyFrom_43 : decode cX4_copyFrom 43 = .ok (.invokestatic 52, 3) := by decide +kernel
theorem dX4_copyFrom_46 : decode cX4_copyFrom 46 = .ok (.aload_n 1, 1) := by decide +kernel
theorem dX4_copyFrom_47 : decode cX4_copyFrom 47 = .ok (.getfield 15, 3) := by decide +kernel
theorem dX4_copyFrom_50 : decode cX4_copyFrom 50 = .ok (.iconst 0, 1) := by decide +kernel
theorem dX4_copyFrom_51 : decode cX4_copyFrom 51 = .ok (.aload_n 0, 1) := by decide +kernel
theorem dX4_copyFrom_52 : decode cX4_copyFrom 52 = .ok (.getfield 15, 3) := by decide +kernel
theorem dX4_copyFrom_55 : decode cX4_copyFrom 55 = .ok (.iconst 0, 1) := by decide +kernel
theorem dX4_copyFrom_56 : decode cX4_copyFrom 56 = .ok (.iconst 4, 1) := by decide +kernel
theorem dX4_copyFrom_57 : decode cX4_copyFrom 57 = .ok (.invokestatic 52, 3) := by decide +kernel
theorem dX4_copyFrom_60 : decode cX4_copyFrom 60 = .ok (.aload_n 1, 1) := by decide +kernel
theorem dX4_copyFrom_61 : decode cX4_copyFrom 61 = .ok (.getfield 18, 3) := by decide +kernel
theorem dX4_copyFrom_64 : decode cX4_copyFrom 64 = .ok (.iconst 0, 1) := by decide +kernel
theorem dX4_copyFrom_65 : decode cX4_copyFrom 65 = .ok (.aload_n 0, 1) := by decide +kernel
theorem dX4_copyFrom_66 : decode cX4_copyFrom 66 = .ok (.getfield 18, 3) := by decide +kernel
theorem dX4_copyFrom_69 : decode cX4_copyFrom 69 = .ok (.iconst 0, 1) := by decide +kernel
theorem dX4_copyFrom_70 : decode cX4_copyFrom 70 = .ok (.iconst 4, 1) := by decide +kernel
theorem dX4_copyFrom_71 : decode cX4_copyFrom 71 = .ok (.invokestatic 52, 3) := by decide +kernel
theorem dX4_copyFrom_74 : decode cX4_copyFrom 74 = .ok (.aload_n 1, 1) := by decide +kernel
theorem dX4_copyFrom_75 : decode cX4_copyFrom 75 = .ok (.getfield 21, 3) := by decide +kernel
theorem dX4_copyFrom_78 : decode cX4_copyFrom 78 = .ok (.iconst 0, 1) := by decide +kernel
theorem dX4_copyFrom_79 : decode cX4_copyFrom 79 = .ok (.aload_n 0, 1) := by decide +kernel
theorem dX4_copyFrom_80 : decode cX4_copyFrom 80 = .ok (.getfield 21, 3) := by decide +kernel
theorem dX4_copyFrom_83 : decode cX4_copyFrom 83 = .ok (.iconst 0, 1) := by decide +kernel
theorem dX4_copyFrom_84 : decode cX4_copyFrom 84 = .ok (.bipush 20, 2) := by decide +kernel
theorem dX4_copyFrom_86 : decode cX4_copyFrom 86 = .ok (.invokestatic 52, 3) := by decide +kernel
theorem dX4_copyFrom_89 : decode cX4_copyFrom 89 = .ok (.aload_n 1, 1) := by decide +kernel
theorem dX4_copyFrom_90 : decode cX4_copyFrom 90 = .ok (.getfield 24, 3) := by decide +kernel
theorem dX4_copyFrom_93 : decode cX4_copyFrom 93 = .ok (.iconst 0, 1) := by decide +kernel
theorem dX4_copyFrom_94 : decode cX4_copyFrom 94 = .ok (.aload_n 0, 1) := by decide +kernel
theorem dX4_copyFrom_95 : decode cX4_copyFrom 95 = .ok (.getfield 24, 3) := by decide +kernel
theorem dX4_copyFrom_98 : decode cX4_copyFrom 98 = .ok (.iconst 0, 1) := by decide +kernel
theorem dX4_copyFrom_99 : decode cX4_copyFrom 99 = .ok (.bipush 48, 2) := by decide +kernel
theorem dX4_copyFrom_101 : decode cX4_copyFrom 101 = .ok (.invokestatic 52, 3) := by decide +kernel
theorem dX4_copyFrom_104 : decode cX4_copyFrom 104 = .ok (.aload_n 1, 1) := by decide +kernel
theorem dX4_copyFrom_105 : decode cX4_copyFrom 105 = .ok (.getfield 27, 3) := by decide +kernel
theorem dX4_copyFrom_108 : decode cX4_copyFrom 108 = .ok (.iconst 0, 1) := by decide +kernel
theorem dX4_copyFrom_109 : decode cX4_copyFrom 109 = .ok (.aload_n 0, 1) := by decide +kernel
theorem dX4_copyFrom_110 : decode cX4_copyFrom 110 = .ok (.getfield 27, 3) := by decide +kernel
theorem dX4_copyFrom_113 : decode cX4_copyFrom 113 = .ok (.iconst 0, 1) := by decide +kernel
theorem dX4_copyFrom_114 : decode cX4_copyFrom 114 = .ok (.bipush 12, 2) := by decide +kernel
theorem dX4_copyFrom_116 : decode cX4_copyFrom 116 = .ok (.invokestatic 52, 3) := by decide +kernel
theorem dX4_copyFrom_119 : decode cX4_copyFrom 119 = .ok (.aload_n 1, 1) := by decide +kernel
theorem dX4_copyFrom_120 : decode cX4_copyFrom 120 = .ok (.getfield 30, 3) := by decide +kernel
theorem dX4_copyFrom_123 : decode cX4_copyFrom 123 = .ok (.iconst 0, 1) := by decide +kernel
theorem dX4_copyFrom_124 : decode cX4_copyFrom 124 = .ok (.aload_n 0, 1) := by decide +kernel
theorem dX4_copyFrom_125 : decode cX4_copyFrom 125 = .ok (.getfield 30, 3) := by decide +kernel
theorem dX4_copyFrom_128 : decode cX4_copyFrom 128 = .ok (.iconst 0, 1) := by decide +kernel
theorem dX4_copyFrom_129 : decode cX4_copyFrom 129 = .ok (.bipush 20, 2) := by decide +kernel
theorem dX4_copyFrom_131 : decode cX4_copyFrom 131 = .ok (.invokestatic 52, 3) := by decide +kernel
theorem dX4_copyFrom_134 : decode cX4_copyFrom 134 = .ok (.return_, 1) := by decide +kernel
theorem dX4_hasCondition_0 : decode cX4_hasCondition 0 = .ok (.iload_n 1, 1) := by decide +kernel
theorem dX4_hasCondition_1 : decode cX4_hasCondition 1 = .ok (.ifCond .lt 15, 3) := by decide +kernel
theorem dX4_hasCondition_4 : decode cX4_hasCondition 4 = .ok (.iload_n 1, 1) := by decide +kernel
theorem dX4_hasCondition_5 : decode cX4_hasCondition 5 = .ok (.aload_n 0, 1) := by decide +kernel
theorem dX4_hasCondition_6 : decode cX4_hasCondition 6 = .ok (.getfield 33, 3) := by decide +kernel
theorem dX4_hasCondition_9 : decode cX4_hasCondition 9 = .ok (.if_icmp .ge 7, 3) := by decide +kernel
theorem dX4_hasCondition_12 : decode cX4_hasCondition 12 = .ok (.iconst 1, 1) := by decide +kernel
theorem dX4_hasCondition_13 : decode cX4_hasCondition 13 = .ok (.goto 4, 3) := by decide +kernel
theorem dX4_hasCondition_16 : decode cX4_hasCondition 16 = .ok (.iconst 0, 1) := by decide +kernel
theorem dX4_hasCondition_17 : decode cX4_hasCondition 17 = .ok (.ireturn, 1) := by decide +kernel
set_option maxRecDepth 20000 in
theorem ggX4_hasValue_X4_hasCondition : GoodIn wsX4_hasValue wsX4_hasCondition := goodIn_r _ [6, 7, 8, 9, 10, 11, 12, 13, 14, 15, 16, 17, 18] (by decide +kernel) (by decide +kernel)
set_option maxRecDepth 20000 in
theorem gX4_hasValue_X4_hasCondition : GoodIn wsX4_hasValue (wsV RX4 58 RX4 yX4_hasCondition wsX4_hasCondition) := goodIn_app (goodIn_of _ (by decide +kernel)) ggX4_hasValue_X4_hasCondition
theorem dX4_hasValue_0 : decode cX4_hasValue 0 = .ok (.aload_n 0, 1) := by decide +kernel
theorem dX4_hasValue_1 : decode cX4_hasValue 1 = .ok (.iload_n 1, 1) := by decide +kernel
theorem dX4_hasValue_2 : decode cX4_hasValue 2 = .ok (.invokevirtual 58, 3) := by decide +kernel
theorem dX4_hasValue_5 : decode cX4_hasValue 5 = .ok (.ifCond .eq 21, 3) := by decide +kernel
theorem dX4_hasValue_8 : decode cX4_hasValue 8 = .ok (.iload_n 2, 1) := by decide +kernel
theorem dX4_hasValue_9 : decode cX4_hasValue 9 = .ok (.ifCond .lt 17, 3) := by decide +kernel
theorem dX4_hasValue_12 : decode cX4_hasValue 12 = .ok (.iload_n 2, 1) := by decide +kernel
theorem dX4_hasValue_13 : decode cX4_hasValue 13 = .ok (.aload_n 0, 1) := by decide +kernel
theorem dX4_hasValue_14 : decode cX4_hasValue 14 = .ok (.getfield 9, 3) := by decide +kernel
theorem dX4_hasValue_17 : decode cX4_hasValue 17 = .ok (.iload_n 1, 1) := by decide +kernel
theorem dX4_hasValue_18 : decode cX4_hasValue 18 = .ok (.iaload, 1) := by decide +kernel
theorem dX4_hasValue_19 : decode cX4_hasValue 19 = .ok (.if_icmp .ge 7, 3) := by decide +kernel
theorem dX4_hasValue_22 : decode cX4_hasValue 22 = .ok (.iconst 1, 1) := by decide +kernel
theorem dX4_hasValue_23 : decode cX4_hasValue 23 = .ok (.goto 4, 3) := by decide +kernel
theorem dX4_hasValue_26 : decode cX4_hasValue 26 = .ok (.iconst 0, 1) := by decide +kernel
theorem dX4_hasValue_27 : decode cX4_hasValue 27 = .ok (.ireturn, 1) := by decide +kernel
theorem dX4_hasCase_0 : decode cX4_hasCase 0 = .ok (.iload_n 1, 1) := by decide +kernel
theorem dX4_hasCase_1 : decode cX4_hasCase 1 = .ok (.ifCond .lt 15, 3) := by decide +kernel
theorem dX4_hasCase_4 : decode cX4_hasCase 4 = .ok (.iload_n 1, 1) := by decide +kernel
theorem dX4_hasCase_5 : decode cX4_hasCase 5 = .ok (.aload_n 0, 1) := by decide +kernel
theorem dX4_hasCase_6 : decode cX4_hasCase 6 = .ok (.getfield 37, 3) := by decide +kernel
theorem dX4_hasCase_9 : decode cX4_hasCase 9 = .ok (.if_icmp .ge 7, 3) := by decide +kernel
theorem dX4_hasCase_12 : decode cX4_hasCase 12 = .ok (.iconst 1, 1) := by decide +kernel
theorem dX4_hasCase_13 : decode cX4_hasCase 13 = .ok (.goto 4, 3) := by decide +kernel
theorem dX4_hasCase_16 : decode cX4_hasCase 16 = .ok (.iconst 0, 1) := by decide +kernel
theorem dX4_hasCase_17 : decode cX4_hasCase 17 = .ok (.ireturn, 1) := by decide +kernel
theorem dX4_hasRule_0 : decode cX4_hasRule 0 = .ok (.iload_n 1, 1) := by decide +kernel
theorem dX4_hasRule_1 : decode cX4_hasRule 1 = .ok (.ifCond .lt 15, 3) := by decide +kernel
theorem dX4_hasRule_4 : decode cX4_hasRule 4 = .ok (.iload_n 1, 1) := by decide +kernel
theorem dX4_hasRule_5 : decode cX4_hasRule 5 = .ok (.aload_n 0, 1) := by decide +kernel
theorem dX4_hasRule_6 : decode cX4_hasRule 6 = .ok (.getfield 40, 3) := by decide +kernel
theorem dX4_hasRule_9 : decode cX4_hasRule 9 = .ok (.if_icmp .ge 7, 3) := by decide +kernel
theorem dX4_hasRule_12 : decode cX4_hasRule 12 = .ok (.iconst 1, 1) := by decide +kernel
theorem dX4_hasRule_13 : decode cX4_hasRule 13 = .ok (.goto 4, 3) := by decide +kernel
theorem dX4_hasRule_16 : decode cX4_hasRule 16 = .ok (.iconst 0, 1) := by decide +kernel
theorem dX4_hasRule_17 : decode cX4_hasRule 17 = .ok (.ireturn, 1) := by decide +kernel
set_option maxRecDepth 20000 in
theorem ggX4_digitOf_X6_quotient : GoodIn wsX4_digitOf wsX6_quotient := goodIn_r _ [5] (by decide +kernel) (by decide +kernel)
set_option maxRecDepth 20000 in
theorem gX4_digitOf_X6_quotient_n62 : GoodIn wsX4_digitOf (wsX6_quotient) := ggX4_digitOf_X6_quotient
set_option maxRecDepth 20000 in
theorem ggX4_digitOf_X6_remainder : GoodIn wsX4_digitOf wsX6_remainder := goodIn_r _ [7] (by decide +kernel) (by decide +kernel)
set_option maxRecDepth 20000 in
theorem gX4_digitOf_X6_remainder_n66 : GoodIn wsX4_digitOf (wsX6_remainder) := ggX4_digitOf_X6_remainder
theorem dX4_digitOf_0 : decode cX4_digitOf 0 = .ok (.iload_n 1, 1) := by decide +kernel
theorem dX4_digitOf_1 : decode cX4_digitOf 1 = .ok (.aload_n 0, 1) := by decide +kernel
theorem dX4_digitOf_2 : decode cX4_digitOf 2 = .ok (.getfield 15, 3) := by decide +kernel
theorem dX4_digitOf_5 : decode cX4_digitOf 5 = .ok (.iload_n 2, 1) := by decide +kernel
theorem dX4_digitOf_6 : decode cX4_digitOf 6 = .ok (.iaload, 1) := by decide +kernel
theorem dX4_digitOf_7 : decode cX4_digitOf 7 = .ok (.invokestatic 62, 3) := by decide +kernel
theorem dX4_digitOf_10 : decode cX4_digitOf 10 = .ok (.aload_n 0, 1) := by decide +kernel
theorem dX4_digitOf_11 : decode cX4_digitOf 11 = .ok (.getfield 9, 3) := by decide +kernel
theorem dX4_digitOf_14 : decode cX4_digitOf 14 = .ok (.iload_n 2, 1) := by decide +kernel
theorem dX4_digitOf_15 : decode cX4_digitOf 15 = .ok (.iaload, 1) := by decide +kernel
theorem dX4_digitOf_16 : decode cX4_digitOf 16 = .ok (.invokestatic 66, 3) := by decide +kernel
theorem dX4_digitOf_19 : decode cX4_digitOf 19 = .ok (.ireturn, 1) := by decide +kernel
theorem dX4_weightSum_0 : decode cX4_weightSum 0 = .ok (.iconst 0, 1) := by decide +kernel
theorem dX4_weightSum_1 : decode cX4_weightSum 1 = .ok (.istore_n 2, 1) := by decide +kernel
theorem dX4_weightSum_2 : decode cX4_weightSum 2 = .ok (.iconst 0, 1) := by decide +kernel
theorem dX4_weightSum_3 : decode cX4_weightSum 3 = .ok (.istore_n 3, 1) := by decide +kernel
theorem dX4_weightSum_4 : decode cX4_weightSum 4 = .ok (.iload_n 3, 1) := by decide +kernel
theorem dX4_weightSum_5 : decode cX4_weightSum 5 = .ok (.aload_n 0, 1) := by decide +kernel
theorem dX4_weightSum_6 : decode cX4_weightSum 6 = .ok (.getfield 9, 3) := by decide +kernel
theorem dX4_weightSum_9 : decode cX4_weightSum 9 = .ok (.iload_n 1, 1) := by decide +kernel
theorem dX4_weightSum_10 : decode cX4_weightSum 10 = .ok (.iaload, 1) := by decide +kernel
theorem dX4_weightSum_11 : decode cX4_weightSum 11 = .ok (.if_icmp .ge 22, 3) := by decide +kernel
theorem dX4_weightSum_14 : decode cX4_weightSum 14 = .ok (.iload_n 2, 1) := by decide +kernel
theorem dX4_weightSum_15 : decode cX4_weightSum 15 = .ok (.aload_n 0, 1) := by decide +kernel
theorem dX4_weightSum_16 : decode cX4_weightSum 16 = .ok (.getfield 21, 3) := by decide +kernel
theorem dX4_weightSum_19 : decode cX4_weightSum 19 = .ok (.iload_n 1, 1) := by decide +kernel
theorem dX4_weightSum_20 : decode cX4_weightSum 20 = .ok (.iconst 5, 1) := by decide +kernel
theorem dX4_weightSum_21 : decode cX4_weightSum 21 = .ok (.imul, 1) := by decide +kernel
theorem dX4_weightSum_22 : decode cX4_weightSum 22 = .ok (.iload_n 3, 1) := by decide +kernel
theorem dX4_weightSum_23 : decode cX4_weightSum 23 = .ok (.iadd, 1) := by decide +kernel
theorem dX4_weightSum_24 : decode cX4_weightSum 24 = .ok (.iaload, 1) := by decide +kernel
theorem dX4_weightSum_25 : decode cX4_weightSum 25 = .ok (.iadd, 1) := by decide +kernel
theorem dX4_weightSum_26 : decode cX4_weightSum 26 = .ok (.istore_n 2, 1) := by decide +kernel
theorem dX4_weightSum_27 : decode cX4_weightSum 27 = .ok (.iinc 3 1, 3) := by decide +kernel
theorem dX4_weightSum_30 : decode cX4_weightSum 30 = .ok (.goto (-26), 3) := by decide +kernel
theorem dX4_weightSum_33 : decode cX4_weightSum 33 = .ok (.iload_n 2, 1) := by decide +kernel
theorem dX4_weightSum_34 : decode cX4_weightSum 34 = .ok (.ireturn, 1) := by decide +kernel
theorem dX4_valueAt_0 : decode cX4_valueAt 0 = .ok (.iconst 0, 1) := by decide +kernel
theorem dX4_valueAt_1 : decode cX4_valueAt 1 = .ok (.istore_n 3, 1) := by decide +kernel
theorem dX4_valueAt_2 : decode cX4_valueAt 2 = .ok (.iconst 0, 1) := by decide +kernel
theorem dX4_valueAt_3 : decode cX4_valueAt 3 = .ok (.istore 4, 2) := by decide +kernel
theorem dX4_valueAt_5 : decode cX4_valueAt 5 = .ok (.iload 4, 2) := by decide +kernel
theorem dX4_valueAt_7 : decode cX4_valueAt 7 = .ok (.aload_n 0, 1) := by decide +kernel
theorem dX4_valueAt_8 : decode cX4_valueAt 8 = .ok (.getfield 9, 3) := by decide +kernel
theorem dX4_valueAt_11 : decode cX4_valueAt 11 = .ok (.iload_n 1, 1) := by decide +kernel
theorem dX4_valueAt_12 : decode cX4_valueAt 12 = .ok (.iaload, 1) := by decide +kernel
theorem dX4_valueAt_13 : decode cX4_valueAt 13 = .ok (.if_icmp .ge 31, 3) := by decide +kernel
theorem dX4_valueAt_16 : decode cX4_valueAt 16 = .ok (.iload_n 3, 1) := by decide +kernel
theorem dX4_valueAt_17 : decode cX4_valueAt 17 = .ok (.aload_n 0, 1) := by decide +kernel
theorem dX4_valueAt_18 : decode cX4_valueAt 18 = .ok (.getfield 21, 3) := by decide +kernel
theorem dX4_valueAt_21 : decode cX4_valueAt 21 = .ok (.iload_n 1, 1) := by decide +kernel
theorem dX4_valueAt_22 : decode cX4_valueAt 22 = .ok (.iconst 5, 1) := by decide +kernel
theorem dX4_valueAt_23 : decode cX4_valueAt 23 = .ok (.imul, 1) := by decide +kernel
theorem dX4_valueAt_24 : decode cX4_valueAt 24 = .ok (.iload 4, 2) := by decide +kernel
theorem dX4_valueAt_26 : decode cX4_valueAt 26 = .ok (.iadd, 1) := by decide +kernel
theorem dX4_valueAt_27 : decode cX4_valueAt 27 = .ok (.iaload, 1) := by decide +kernel
theorem dX4_valueAt_28 : decode cX4_valueAt 28 = .ok (.iadd, 1) := by decide +kernel
theorem dX4_valueAt_29 : decode cX4_valueAt 29 = .ok (.istore_n 3, 1) := by decide +kernel
theorem dX4_valueAt_30 : decode cX4_valueAt 30 = .ok (.iload_n 3, 1) := by decide +kernel
theorem dX4_valueAt_31 : decode cX4_valueAt 31 = .ok (.iload_n 2, 1) := by decide +kernel
theorem dX4_valueAt_32 : decode cX4_valueAt 32 = .ok (.if_icmp .le 6, 3) := by decide +kernel
theorem dX4_valueAt_35 : decode cX4_valueAt 35 = .ok (.iload 4, 2) := by decide +kernel
theorem dX4_valueAt_37 : decode cX4_valueAt 37 = .ok (.ireturn, 1) := by decide +kernel
theorem dX4_valueAt_38 : decode cX4_valueAt 38 = .ok (.iinc 4 1, 3) := by decide +kernel
theorem dX4_valueAt_41 : decode cX4_valueAt 41 = .ok (.goto (-36), 3) := by decide +kernel
theorem dX4_valueAt_44 : decode cX4_valueAt 44 = .ok (.iconst 0, 1) := by decide +kernel
theorem dX4_valueAt_45 : decode cX4_valueAt 45 = .ok (.ireturn, 1) := by decide +kernel
set_option maxRecDepth 20000 in
theorem ggX4_weightOf_X4_digitOf : GoodIn wsX4_weightOf wsX4_digitOf := goodIn_r _ [7, 8, 9, 10, 11, 12, 13, 14, 15, 16, 17, 18, 19, 20, 21, 22, 23, 24, 25] (by decide +kernel) (by decide +kernel)
set_option maxRecDepth 20000 in
theorem gX4_weightOf_X4_digitOf : GoodIn wsX4_weightOf (wsV RX4 69 RX4 yX4_digitOf wsX4_digitOf) := goodIn_app (goodIn_of _ (by decide +kernel)) ggX4_weightOf_X4_digitOf
theorem dX4_weightOf_0 : decode cX4_weightOf 0 = .ok (.iconst 1, 1) := by decide +kernel
theorem dX4_weightOf_1 : decode cX4_weightOf 1 = .ok (.istore_n 2, 1) := by decide +kernel
theorem dX4_weightOf_2 : decode cX4_weightOf 2 = .ok (.iconst 0, 1) := by decide +kernel
theorem dX4_weightOf_3 : decode cX4_weightOf 3 = .ok (.istore_n 3, 1) := by decide +kernel
theorem dX4_weightOf_4 : decode cX4_weightOf 4 = .ok (.iload_n 3, 1) := by decide +kernel
theorem dX4_weightOf_5 : decode cX4_weightOf 5 = .ok (.aload_n 0, 1) := by decide +kernel
theorem dX4_weightOf_6 : decode cX4_weightOf 6 = .ok (.getfield 33, 3) := by decide +kernel
theorem dX4_weightOf_9 : decode cX4_weightOf 9 = .ok (.if_icmp .ge 27, 3) := by decide +kernel
theorem dX4_weightOf_12 : decode cX4_weightOf 12 = .ok (.iload_n 2, 1) := by decide +kernel
theorem dX4_weightOf_13 : decode cX4_weightOf 13 = .ok (.aload_n 0, 1) := by decide +kernel
theorem dX4_weightOf_14 : decode cX4_weightOf 14 = .ok (.getfield 21, 3) := by decide +kernel
theorem dX4_weightOf_17 : decode cX4_weightOf 17 = .ok (.iload_n 3, 1) := by decide +kernel
theorem dX4_weightOf_18 : decode cX4_weightOf 18 = .ok (.iconst 5, 1) := by decide +kernel
theorem dX4_weightOf_19 : decode cX4_weightOf 19 = .ok (.imul, 1) := by decide +kernel
theorem dX4_weightOf_20 : decode cX4_weightOf 20 = .ok (.aload_n 0, 1) := by decide +kernel
theorem dX4_weightOf_21 : decode cX4_weightOf 21 = .ok (.iload_n 1, 1) := by decide +kernel
theorem dX4_weightOf_22 : decode cX4_weightOf 22 = .ok (.iload_n 3, 1) := by decide +kernel
theorem dX4_weightOf_23 : decode cX4_weightOf 23 = .ok (.invokevirtual 69, 3) := by decide +kernel
theorem dX4_weightOf_26 : decode cX4_weightOf 26 = .ok (.iadd, 1) := by decide +kernel
theorem dX4_weightOf_27 : decode cX4_weightOf 27 = .ok (.iaload, 1) := by decide +kernel
theorem dX4_weightOf_28 : decode cX4_weightOf 28 = .ok (.imul, 1) := by decide +kernel
theorem dX4_weightOf_29 : decode cX4_weightOf 29 = .ok (.istore_n 2, 1) := by decide +kernel
theorem dX4_weightOf_30 : decode cX4_weightOf 30 = .ok (.iinc 3 1, 3) := by decide +kernel
theorem dX4_weightOf_33 : decode cX4_weightOf 33 = .ok (.goto (-29), 3) := by decide +kernel
theorem dX4_weightOf_36 : decode cX4_weightOf 36 = .ok (.iload_n 2, 1) := by decide +kernel
theorem dX4_weightOf_37 : decode cX4_weightOf 37 = .ok (.ireturn, 1) := by decide +kernel
set_option maxRecDepth 20000 in
theorem ggX4_rulesFor_X4_digitOf : GoodIn wsX4_rulesFor wsX4_digitOf := goodIn_r _ [8, 9, 10, 11, 12, 13, 14, 15, 16, 17, 18, 19, 20, 21, 22, 23, 24, 25, 26] (by decide +kernel) (by decide +kernel)
set_option maxRecDepth 20000 in
theorem gX4_rulesFor_X4_digitOf : GoodIn wsX4_rulesFor (wsV RX4 69 RX4 yX4_digitOf wsX4_digitOf) := goodIn_app (goodIn_of _ (by decide +kernel)) ggX4_rulesFor_X4_digitOf
theorem dX4_rulesFor_0 : decode cX4_rulesFor 0 = .ok (.iconst 1, 1) := by decide +kernel
theorem dX4_rulesFor_1 : decode cX4_rulesFor 1 = .ok (.aload_n 0, 1) := by decide +kernel
theorem dX4_rulesFor_2 : decode cX4_rulesFor 2 = .ok (.getfield 40, 3) := by decide +kernel
theorem dX4_rulesFor_5 : decode cX4_rulesFor 5 = .ok (.ishl, 1) := by decide +kernel
theorem dX4_rulesFor_6 : decode cX4_rulesFor 6 = .ok (.iconst 1, 1) := by decide +kernel
theorem dX4_rulesFor_7 : decode cX4_rulesFor 7 = .ok (.isub, 1) := by decide +kernel
theorem dX4_rulesFor_8 : decode cX4_rulesFor 8 = .ok (.istore_n 2, 1) := by decide +kernel
theorem dX4_rulesFor_9 : decode cX4_rulesFor 9 = .ok (.iconst 0, 1) := by decide +kernel
theorem dX4_rulesFor_10 : decode cX4_rulesFor 10 = .ok (.istore_n 3, 1) := by decide +kernel
theorem dX4_rulesFor_11 : decode cX4_rulesFor 11 = .ok (.iload_n 3, 1) := by decide +kernel
theorem dX4_rulesFor_12 : decode cX4_rulesFor 12 = .ok (.aload_n 0, 1) := by decide +kernel
theorem dX4_rulesFor_13 : decode cX4_rulesFor 13 = .ok (.getfield 33, 3) := by decide +kernel
theorem dX4_rulesFor_16 : decode cX4_rulesFor 16 = .ok (.if_icmp .ge 27, 3) := by decide +kernel
theorem dX4_rulesFor_19 : decode cX4_rulesFor 19 = .ok (.iload_n 2, 1) := by decide +kernel
theorem dX4_rulesFor_20 : decode cX4_rulesFor 20 = .ok (.aload_n 0, 1) := by decide +kernel
theorem dX4_rulesFor_21 : decode cX4_rulesFor 21 = .ok (.getfield 30, 3) := by decide +kernel
theorem dX4_rulesFor_24 : decode cX4_rulesFor 24 = .ok (.iload_n 3, 1) := by decide +kernel
theorem dX4_rulesFor_25 : decode cX4_rulesFor 25 = .ok (.iconst 5, 1) := by decide +kernel
theorem dX4_rulesFor_26 : decode cX4_rulesFor 26 = .ok (.imul, 1) := by decide +kernel
theorem dX4_rulesFor_27 : decode cX4_rulesFor 27 = .ok (.aload_n 0, 1) := by decide +kernel
theorem dX4_rulesFor_28 : decode cX4_rulesFor 28 = .ok (.iload_n 1, 1) := by decide +kernel
theorem dX4_rulesFor_29 : decode cX4_rulesFor 29 = .ok (.iload_n 3, 1) := by decide +kernel
theorem dX4_rulesFor_30 : decode cX4_rulesFor 30 = .ok (.invokevirtual 69, 3) := by decide +kernel
theorem dX4_rulesFor_33 : decode cX4_rulesFor 33 = .ok (.iadd, 1) := by decide +kernel
theorem dX4_rulesFor_34 : decode cX4_rulesFor 34 = .ok (.iaload, 1) := by decide +kernel
theorem dX4_rulesFor_35 : decode cX4_rulesFor 35 = .ok (.iand, 1) := by decide +kernel
theorem dX4_rulesFor_36 : decode cX4_rulesFor 36 = .ok (.istore_n 2, 1) := by decide +kernel
theorem dX4_rulesFor_37 : decode cX4_rulesFor 37 = .ok (.iinc 3 1, 3) := by decide +kernel
theorem dX4_rulesFor_40 : decode cX4_rulesFor 40 = .ok (.goto (-29), 3) := by decide +kernel
theorem dX4_rulesFor_43 : decode cX4_rulesFor 43 = .ok (.iload_n 2, 1) := by decide +kernel
theorem dX4_rulesFor_44 : decode cX4_rulesFor 44 = .ok (.ireturn, 1) := by decide +kernel
set_option maxRecDepth 20000 in
theorem ggX4_firstRuleFor_X4_rulesFor : GoodIn wsX4_firstRuleFor wsX4_rulesFor := goodIn_r _ [6, 1, 7, 8, 9, 10, 11, 5, 12, 13, 14, 15, 16, 17, 18, 19, 20, 21, 22, 23, 24, 25, 26, 27, 28, 29, 30] (by decide +kernel) (by decide +kernel)
set_option maxRecDepth 20000 in
theorem gX4_firstRuleFor_X4_rulesFor : GoodIn wsX4_firstRuleFor (wsV RX4 72 RX4 yX4_rulesFor wsX4_rulesFor) := goodIn_app (goodIn_of _ (by decide +kernel)) ggX4_firstRuleFor_X4_rulesFor
theorem dX4_firstRuleFor_0 : decode cX4_firstRuleFor 0 = .ok (.aload_n 0, 1) := by decide +kernel
theorem dX4_firstRuleFor_1 : decode cX4_firstRuleFor 1 = .ok (.iload_n 1, 1) := by decide +kernel
theorem dX4_firstRuleFor_2 : decode cX4_firstRuleFor 2 = .ok (.invokevirtual 72, 3) := by decide +kernel
theorem dX4_firstRuleFor_5 : decode cX4_firstRuleFor 5 = .ok (.istore_n 2, 1) := by decide +kernel
theorem dX4_firstRuleFor_6 : decode cX4_firstRuleFor 6 = .ok (.iconst 0, 1) := by decide +kernel
theorem dX4_firstRuleFor_7 : decode cX4_firstRuleFor 7 = .ok (.istore_n 3, 1) := by decide +kernel
theorem dX4_firstRuleFor_8 : decode cX4_firstRuleFor 8 = .ok (.iload_n 3, 1) := by decide +kernel
theorem dX4_firstRuleFor_9 : decode cX4_firstRuleFor 9 = .ok (.aload_n 0, 1) := by decide +kernel
theorem dX4_firstRuleFor_10 : decode cX4_firstRuleFor 10 = .ok (.getfield 40, 3) := by decide +kernel
theorem dX4_firstRuleFor_13 : decode cX4_firstRuleFor 13 = .ok (.if_icmp .ge 19, 3) := by decide +kernel
theorem dX4_firstRuleFor_16 : decode cX4_firstRuleFor 16 = .ok (.iload_n 2, 1) := by decide +kernel
theorem dX4_firstRuleFor_17 : decode cX4_firstRuleFor 17 = .ok (.iload_n 3, 1) := by decide +kernel
theorem dX4_firstRuleFor_18 : decode cX4_firstRuleFor 18 = .ok (.ishr, 1) := by decide +kernel
theorem dX4_firstRuleFor_19 : decode cX4_firstRuleFor 19 = .ok (.iconst 1, 1) := by decide +kernel
theorem dX4_firstRuleFor_20 : decode cX4_firstRuleFor 20 = .ok (.iand, 1) := by decide +kernel
theorem dX4_firstRuleFor_21 : decode cX4_firstRuleFor 21 = .ok (.ifCond .eq 5, 3) := by decide +kernel
theorem dX4_firstRuleFor_24 : decode cX4_firstRuleFor 24 = .ok (.iload_n 3, 1) := by decide +kernel
theorem dX4_firstRuleFor_25 : decode cX4_firstRuleFor 25 = .ok (.ireturn, 1) := by decide +kernel
theorem dX4_firstRuleFor_26 : decode cX4_firstRuleFor 26 = .ok (.iinc 3 1, 3) := by decide +kernel
theorem dX4_firstRuleFor_29 : decode cX4_firstRuleFor 29 = .ok (.goto (-21), 3) := by decide +kernel
theorem dX4_firstRuleFor_32 : decode cX4_firstRuleFor 32 = .ok (.iconst (-1), 1) := by decide +kernel
theorem dX4_firstRuleFor_33 : decode cX4_firstRuleFor 33 = .ok (.ireturn, 1) := by decide +kernel
set_option maxRecDepth 20000 in
theorem ggX4_actionFor_X4_firstRuleFor : GoodIn wsX4_actionFor wsX4_firstRuleFor := goodIn_r _ [7, 8, 9, 10, 11, 6, 12, 13, 14, 15, 16, 17, 18, 19, 20, 21, 22, 23, 24, 25, 26, 27, 28, 29, 30, 31, 32, 33, 34, 35, 36] (by decide +kernel) (by decide +kernel)
set_option maxRecDepth 20000 in
theorem gX4_actionFor_X4_firstRuleFor : GoodIn wsX4_actionFor (wsV RX4 76 RX4 yX4_firstRuleFor wsX4_firstRuleFor) := goodIn_app (goodIn_of _ (by decide +kernel)) ggX4_actionFor_X4_firstRuleFor
theorem dX4_actionFor_0 : decode cX4_actionFor 0 = .ok (.aload_n 0, 1) := by decide +kernel
theorem dX4_actionFor_1 : decode cX4_actionFor 1 = .ok (.iload_n 1, 1) := by decide +kernel
theorem dX4_actionFor_2 : decode cX4_actionFor 2 = .ok (.invokevirtual 76, 3) := by decide +kernel
theorem dX4_actionFor_5 : decode cX4_actionFor 5 = .ok (.istore_n 2, 1) := by decide +kernel
theorem dX4_actionFor_6 : decode cX4_actionFor 6 = .ok (.iload_n 2, 1) := by decide +kernel
theorem dX4_actionFor_7 : decode cX4_actionFor 7 = .ok (.ifCond .ge 10, 3) := by decide +kernel
theorem dX4_actionFor_10 : decode cX4_actionFor 10 = .ok (.aload_n 0, 1) := by decide +kernel
theorem dX4_actionFor_11 : decode cX4_actionFor 11 = .ok (.getfield 43, 3) := by decide +kernel
theorem dX4_actionFor_14 : decode cX4_actionFor 14 = .ok (.goto 9, 3) := by decide +kernel
theorem dX4_actionFor_17 : decode cX4_actionFor 17 = .ok (.aload_n 0, 1) := by decide +kernel
theorem dX4_actionFor_18 : decode cX4_actionFor 18 = .ok (.getfield 27, 3) := by decide +kernel
theorem dX4_actionFor_21 : decode cX4_actionFor 21 = .ok (.iload_n 2, 1) := by decide +kernel
theorem dX4_actionFor_22 : decode cX4_actionFor 22 = .ok (.iaload, 1) := by decide +kernel
theorem dX4_actionFor_23 : decode cX4_actionFor 23 = .ok (.ireturn, 1) := by decide +kernel
set_option maxRecDepth 20000 in
theorem ggX4_deciding_X4_rulesFor : GoodIn wsX4_deciding wsX4_rulesFor := goodIn_r _ [6, 7, 8, 9, 10, 11, 12, 5, 13, 14, 15, 16, 17, 18, 19, 20, 21, 22, 23, 24, 25, 26, 27, 28, 29, 30, 31] (by decide +kernel) (by decide +kernel)
set_option maxRecDepth 20000 in
theorem gX4_deciding_X4_rulesFor : GoodIn wsX4_deciding (wsV RX4 72 RX4 yX4_rulesFor wsX4_rulesFor) := goodIn_app (goodIn_of _ (by decide +kernel)) ggX4_deciding_X4_rulesFor
theorem dX4_deciding_0 : decode cX4_deciding 0 = .ok (.iconst 0, 1) := by decide +kernel
theorem dX4_deciding_1 : decode cX4_deciding 1 = .ok (.istore_n 1, 1) := by decide +kernel
theorem dX4_deciding_2 : decode cX4_deciding 2 = .ok (.iconst 0, 1) := by decide +kernel
theorem dX4_deciding_3 : decode cX4_deciding 3 = .ok (.istore_n 2, 1) := by decide +kernel
theorem dX4_deciding_4 : decode cX4_deciding 4 = .ok (.iload_n 2, 1) := by decide +kernel
theorem dX4_deciding_5 : decode cX4_deciding 5 = .ok (.aload_n 0, 1) := by decide +kernel
theorem dX4_deciding_6 : decode cX4_deciding 6 = .ok (.getfield 37, 3) := by decide +kernel
theorem dX4_deciding_9 : decode cX4_deciding 9 = .ok (.if_icmp .ge 22, 3) := by decide +kernel
theorem dX4_deciding_12 : decode cX4_deciding 12 = .ok (.aload_n 0, 1) := by decide +kernel
theorem dX4_deciding_13 : decode cX4_deciding 13 = .ok (.iload_n 2, 1) := by decide +kernel
theorem dX4_deciding_14 : decode cX4_deciding 14 = .ok (.invokevirtual 72, 3) := by decide +kernel
theorem dX4_deciding_17 : decode cX4_deciding 17 = .ok (.istore_n 3, 1) := by decide +kernel
theorem dX4_deciding_18 : decode cX4_deciding 18 = .ok (.iload_n 1, 1) := by decide +kernel
theorem dX4_deciding_19 : decode cX4_deciding 19 = .ok (.iload_n 3, 1) := by decide +kernel
theorem dX4_deciding_20 : decode cX4_deciding 20 = .ok (.iload_n 3, 1) := by decide +kernel
theorem dX4_deciding_21 : decode cX4_deciding 21 = .ok (.ineg, 1) := by decide +kernel
theorem dX4_deciding_22 : decode cX4_deciding 22 = .ok (.iand, 1) := by decide +kernel
theorem dX4_deciding_23 : decode cX4_deciding 23 = .ok (.ior, 1) := by decide +kernel
theorem dX4_deciding_24 : decode cX4_deciding 24 = .ok (.istore_n 1, 1) := by decide +kernel
theorem dX4_deciding_25 : decode cX4_deciding 25 = .ok (.iinc 2 1, 3) := by decide +kernel
theorem dX4_deciding_28 : decode cX4_deciding 28 = .ok (.goto (-24), 3) := by decide +kernel
theorem dX4_deciding_31 : decode cX4_deciding 31 = .ok (.iload_n 1, 1) := by decide +kernel
theorem dX4_deciding_32 : decode cX4_deciding 32 = .ok (.ireturn, 1) := by decide +kernel
theorem dX4_setOf_0 : decode cX4_setOf 0 = .ok (.aload_n 0, 1) := by decide +kernel
theorem dX4_setOf_1 : decode cX4_setOf 1 = .ok (.getfield 24, 3) := by decide +kernel
theorem dX4_setOf_4 : decode cX4_setOf 4 = .ok (.iload_n 1, 1) := by decide +kernel
theorem dX4_setOf_5 : decode cX4_setOf 5 = .ok (.iconst 4, 1) := by decide +kernel
theorem dX4_setOf_6 : decode cX4_setOf 6 = .ok (.imul, 1) := by decide +kernel
theorem dX4_setOf_7 : decode cX4_setOf 7 = .ok (.iload_n 2, 1) := by decide +kernel
theorem dX4_setOf_8 : decode cX4_setOf 8 = .ok (.iadd, 1) := by decide +kernel
theorem dX4_setOf_9 : decode cX4_setOf 9 = .ok (.iaload, 1) := by decide +kernel
theorem dX4_setOf_10 : decode cX4_setOf 10 = .ok (.ireturn, 1) := by decide +kernel
set_option maxRecDepth 20000 in
theorem ggX4_inConflict_X4_setOf : GoodIn wsX4_inConflict wsX4_setOf := goodIn_r _ [7, 8, 9, 10, 11, 12, 13, 14, 15, 16, 17, 18, 19] (by decide +kernel) (by decide +kernel)
set_option maxRecDepth 20000 in
theorem gX4_inConflict_X4_setOf : GoodIn wsX4_inConflict (wsV RX4 79 RX4 yX4_setOf wsX4_setOf) := goodIn_app (goodIn_of _ (by decide +kernel)) ggX4_inConflict_X4_setOf
theorem dX4_inConflict_0 : decode cX4_inConflict 0 = .ok (.aload_n 0, 1) := by decide +kernel
theorem dX4_inConflict_1 : decode cX4_inConflict 1 = .ok (.getfield 27, 3) := by decide +kernel
theorem dX4_inConflict_4 : decode cX4_inConflict 4 = .ok (.iload_n 1, 1) := by decide +kernel
theorem dX4_inConflict_5 : decode cX4_inConflict 5 = .ok (.iaload, 1) := by decide +kernel
theorem dX4_inConflict_6 : decode cX4_inConflict 6 = .ok (.aload_n 0, 1) := by decide +kernel
theorem dX4_inConflict_7 : decode cX4_inConflict 7 = .ok (.getfield 27, 3) := by decide +kernel
theorem dX4_inConflict_10 : decode cX4_inConflict 10 = .ok (.iload_n 2, 1) := by decide +kernel
theorem dX4_inConflict_11 : decode cX4_inConflict 11 = .ok (.iaload, 1) := by decide +kernel
theorem dX4_inConflict_12 : decode cX4_inConflict 12 = .ok (.if_icmp .ne 5, 3) := by decide +kernel
theorem dX4_inConflict_15 : decode cX4_inConflict 15 = .ok (.iconst 0, 1) := by decide +kernel
theorem dX4_inConflict_16 : decode cX4_inConflict 16 = .ok (.ireturn, 1) := by decide +kernel
theorem dX4_inConflict_17 : decode cX4_inConflict 17 = .ok (.iconst 0, 1) := by decide +kernel
theorem dX4_inConflict_18 : decode cX4_inConflict 18 = .ok (.istore_n 3, 1) := by decide +kernel
theorem dX4_inConflict_19 : decode cX4_inConflict 19 = .ok (.iload_n 3, 1) := by decide +kernel
theorem dX4_inConflict_20 : decode cX4_inConflict 20 = .ok (.aload_n 0, 1) := by decide +kernel
theorem dX4_inConflict_21 : decode cX4_inConflict 21 = .ok (.getfield 33, 3) := by decide +kernel
theorem dX4_inConflict_24 : decode cX4_inConflict 24 = .ok (.if_icmp .ge 27, 3) := by decide +kernel
theorem dX4_inConflict_27 : decode cX4_inConflict 27 = .ok (.aload_n 0, 1) := by decide +kernel
theorem dX4_inConflict_28 : decode cX4_inConflict 28 = .ok (.iload_n 1, 1) := by decide +kernel
theorem dX4_inConflict_29 : decode cX4_inConflict 29 = .ok (.iload_n 3, 1) := by decide +kernel
theorem dX4_inConflict_30 : decode cX4_inConflict 30 = .ok (.invokevirtual 79, 3) := by decide +kernel
theorem dX4_inConflict_33 : decode cX4_inConflict 33 = .ok (.aload_n 0, 1) := by decide +kernel
theorem dX4_inConflict_34 : decode cX4_inConflict 34 = .ok (.iload_n 2, 1) := by decide +kernel
theorem dX4_inConflict_35 : decode cX4_inConflict 35 = .ok (.iload_n 3, 1) := by decide +kernel
theorem dX4_inConflict_36 : decode cX4_inConflict 36 = .ok (.invokevirtual 79, 3) := by decide +kernel
theorem dX4_inConflict_39 : decode cX4_inConflict 39 = .ok (.iand, 1) := by decide +kernel
theorem dX4_inConflict_40 : decode cX4_inConflict 40 = .ok (.ifCond .ne 5, 3) := by decide +kernel
theorem dX4_inConflict_43 : decode cX4_inConflict 43 = .ok (.iconst 0, 1) := by decide +kernel
theorem dX4_inConflict_44 : decode cX4_inConflict 44 = .ok (.ireturn, 1) := by decide +kernel
theorem dX4_inConflict_45 : decode cX4_inConflict 45 = .ok (.iinc 3 1, 3) := by decide +kernel
theorem dX4_inConflict_48 : decode cX4_inConflict 48 = .ok (.goto (-29), 3) := by decide +kernel
theorem dX4_inConflict_51 : decode cX4_inConflict 51 = .ok (.iconst 1, 1) := by decide +kernel
theorem dX4_inConflict_52 : decode cX4_inConflict 52 = .ok (.ireturn, 1) := by decide +kernel
set_option maxRecDepth 20000 in
theorem ggX4_lowestCommonCase_X4_setOf : GoodIn wsX4_lowestCommonCase wsX4_setOf := goodIn_r _ [7, 8, 12, 13, 14, 15, 16, 17, 18, 19, 20, 21, 22] (by decide +kernel) (by decide +kernel)
set_option maxRecDepth 20000 in
theorem gX4_lowestCommonCase_X4_setOf : GoodIn wsX4_lowestCommonCase (wsV RX4 79 RX4 yX4_setOf wsX4_setOf) := goodIn_app (goodIn_of _ (by decide +kernel)) ggX4_lowestCommonCase_X4_setOf
set_option maxRecDepth 20000 in
theorem ggX4_lowestCommonCase_X4_lowestValue : GoodIn wsX4_lowestCommonCase wsX4_lowestValue := goodIn_r _ [11] (by decide +kernel) (by decide +kernel)
set_option maxRecDepth 20000 in
theorem gX4_lowestCommonCase_X4_lowestValue : GoodIn wsX4_lowestCommonCase (va_wsS RX4 82 yX4_lowestValue wsX4_lowestValue) := goodIn_app (goodIn_of _ (by decide +kernel)) ggX4_lowestCommonCase_X4_lowestValue
theorem dX4_lowestCommonCase_0 : decode cX4_lowestCommonCase 0 = .ok (.iconst 0, 1) := by decide +kernel
theorem dX4_lowestCommonCase_1 : decode cX4_lowestCommonCase 1 = .ok (.istore_n 3, 1) := by decide +kernel
theorem dX4_lowestCommonCase_2 : decode cX4_lowestCommonCase 2 = .ok (.iconst 0, 1) := by decide +kernel
theorem dX4_lowestCommonCase_3 : decode cX4_lowestCommonCase 3 = .ok (.istore 4, 2) := by decide +kernel
theorem dX4_lowestCommonCase_5 : decode cX4_lowestCommonCase 5 = .ok (.iload 4, 2) := by decide +kernel
theorem dX4_lowestCommonCase_7 : decode cX4_lowestCommonCase 7 = .ok (.aload_n 0, 1) := by decide +kernel
theorem dX4_lowestCommonCase_8 : decode cX4_lowestCommonCase 8 = .ok (.getfield 33, 3) := by decide +kernel
theorem dX4_lowestCommonCase_11 : decode cX4_lowestCommonCase 11 = .ok (.if_icmp .ge 38, 3) := by decide +kernel
theorem dX4_lowestCommonCase_14 : decode cX4_lowestCommonCase 14 = .ok (.iload_n 3, 1) := by decide +kernel
theorem dX4_lowestCommonCase_15 : decode cX4_lowestCommonCase 15 = .ok (.aload_n 0, 1) := by decide +kernel
theorem dX4_lowestCommonCase_16 : decode cX4_lowestCommonCase 16 = .ok (.iload_n 1, 1) := by decide +kernel
theorem dX4_lowestCommonCase_17 : decode cX4_lowestCommonCase 17 = .ok (.iload 4, 2) := by decide +kernel
theorem dX4_lowestCommonCase_19 : decode cX4_lowestCommonCase 19 = .ok (.invokevirtual 79, 3) := by decide +kernel
theorem dX4_lowestCommonCase_22 : decode cX4_lowestCommonCase 22 = .ok (.aload_n 0, 1) := by decide +kernel
theorem dX4_lowestCommonCase_23 : decode cX4_lowestCommonCase 23 = .ok (.iload_n 2, 1) := by decide +kernel
theorem dX4_lowestCommonCase_24 : decode cX4_lowestCommonCase 24 = .ok (.iload 4, 2) := by decide +kernel
theorem dX4_lowestCommonCase_26 : decode cX4_lowestCommonCase 26 = .ok (.invokevirtual 79, 3) := by decide +kernel
theorem dX4_lowestCommonCase_29 : decode cX4_lowestCommonCase 29 = .ok (.iand, 1) := by decide +kernel
theorem dX4_lowestCommonCase_30 : decode cX4_lowestCommonCase 30 = .ok (.invokestatic 82, 3) := by decide +kernel
theorem dX4_lowestCommonCase_33 : decode cX4_lowestCommonCase 33 = .ok (.aload_n 0, 1) := by decide +kernel
theorem dX4_lowestCommonCase_34 : decode cX4_lowestCommonCase 34 = .ok (.getfield 15, 3) := by decide +kernel
theorem dX4_lowestCommonCase_37 : decode cX4_lowestCommonCase 37 = .ok (.iload 4, 2) := by decide +kernel
theorem dX4_lowestCommonCase_39 : decode cX4_lowestCommonCase 39 = .ok (.iaload, 1) := by decide +kernel
theorem dX4_lowestCommonCase_40 : decode cX4_lowestCommonCase 40 = .ok (.imul, 1) := by decide +kernel
theorem dX4_lowestCommonCase_41 : decode cX4_lowestCommonCase 41 = .ok (.iadd, 1) := by decide +kernel
theorem dX4_lowestCommonCase_42 : decode cX4_lowestCommonCase 42 = .ok (.istore_n 3, 1) := by decide +kernel
theorem dX4_lowestCommonCase_43 : decode cX4_lowestCommonCase 43 = .ok (.iinc 4 1, 3) := by decide +kernel
theorem dX4_lowestCommonCase_46 : decode cX4_lowestCommonCase 46 = .ok (.goto (-41), 3) := by decide +kernel
theorem dX4_lowestCommonCase_49 : decode cX4_lowestCommonCase 49 = .ok (.iload_n 3, 1) := by decide +kernel
theorem dX4_lowestCommonCase_50 : decode cX4_lowestCommonCase 50 = .ok (.ireturn, 1) := by decide +kernel
theorem dX4_lowestValue_0 : decode cX4_lowestValue 0 = .ok (.iconst 0, 1) := by decide +kernel
theorem dX4_lowestValue_1 : decode cX4_lowestValue 1 = .ok (.istore_n 1, 1) := by decide +kernel
theorem dX4_lowestValue_2 : decode cX4_lowestValue 2 = .ok (.iload_n 1, 1) := by decide +kernel
theorem dX4_lowestValue_3 : decode cX4_lowestValue 3 = .ok (.iconst 5, 1) := by decide +kernel
theorem dX4_lowestValue_4 : decode cX4_lowestValue 4 = .ok (.if_icmp .ge 19, 3) := by decide +kernel
theorem dX4_lowestValue_7 : decode cX4_lowestValue 7 = .ok (.iload_n 0, 1) := by decide +kernel
theorem dX4_lowestValue_8 : decode cX4_lowestValue 8 = .ok (.iload_n 1, 1) := by decide +kernel
theorem dX4_lowestValue_9 : decode cX4_lowestValue 9 = .ok (.ishr, 1) := by decide +kernel
theorem dX4_lowestValue_10 : decode cX4_lowestValue 10 = .ok (.iconst 1, 1) := by decide +kernel
theorem dX4_lowestValue_11 : decode cX4_lowestValue 11 = .ok (.iand, 1) := by decide +kernel
theorem dX4_lowestValue_12 : decode cX4_lowestValue 12 = .ok (.ifCond .eq 5, 3) := by decide +kernel
theorem dX4_lowestValue_15 : decode cX4_lowestValue 15 = .ok (.iload_n 1, 1) := by decide +kernel
theorem dX4_lowestValue_16 : decode cX4_lowestValue 16 = .ok (.ireturn, 1) := by decide +kernel
theorem dX4_lowestValue_17 : decode cX4_lowestValue 17 = .ok (.iinc 1 1, 3) := by decide +kernel
theorem dX4_lowestValue_20 : decode cX4_lowestValue 20 = .ok (.goto (-18), 3) := by decide +kernel
theorem dX4_lowestValue_23 : decode cX4_lowestValue 23 = .ok (.iconst 0, 1) := by decide +kernel
theorem dX4_lowestValue_24 : decode cX4_lowestValue 24 = .ok (.ireturn, 1) := by decide +kernel
set_option maxRecDepth 20000 in
theorem ggX4_putRule_X4_moveRule : GoodIn wsX4_putRule wsX4_moveRule := goodIn_r _ [14, 3, 4, 5, 6, 7, 8, 26, 27, 28, 29, 30, 31, 32, 33, 34, 35, 36] (by decide +kernel) (by decide +kernel)
set_option maxRecDepth 20000 in
theorem gX4_putRule_X4_moveRule : GoodIn wsX4_putRule (wsV RX4 85 RX4 yX4_moveRule wsX4_moveRule) := goodIn_app (goodIn_of _ (by decide +kernel)) ggX4_putRule_X4_moveRule
set_option maxRecDepth 20000 in
theorem ggX4_putRule_X4_indexRules : GoodIn wsX4_putRule wsX4_indexRules := goodIn_r _ [18, 19, 20, 1, 21, 22, 23, 24, 13, 25, 3, 26, 27, 28, 29, 30, 31, 32, 33, 34, 35, 36] (by decide +kernel) (by decide +kernel)
set_option maxRecDepth 20000 in
theorem gX4_putRule_X4_indexRules : GoodIn wsX4_putRule (wsV RX4 95 RX4 yX4_indexRules wsX4_indexRules) := goodIn_app (goodIn_of _ (by decide +kernel)) ggX4_putRule_X4_indexRules
theorem dX4_putRule_0 : decode cX4_putRule 0 = .ok (.aload_n 0, 1) := by decide +kernel
theorem dX4_putRule_1 : decode cX4_putRule 1 = .ok (.getfield 40, 3) := by decide +kernel
theorem dX4_putRule_4 : decode cX4_putRule 4 = .ok (.istore_n 3, 1) := by decide +kernel
theorem dX4_putRule_5 : decode cX4_putRule 5 = .ok (.iload_n 3, 1) := by decide +kernel
theorem dX4_putRule_6 : decode cX4_putRule 6 = .ok (.iload_n 1, 1) := by decide +kernel
theorem dX4_putRule_7 : decode cX4_putRule 7 = .ok (.if_icmp .le 17, 3) := by decide +kernel
theorem dX4_putRule_10 : decode cX4_putRule 10 = .ok (.aload_n 0, 1) := by decide +kernel
theorem dX4_putRule_11 : decode cX4_putRule 11 = .ok (.iload_n 3, 1) := by decide +kernel
theorem dX4_putRule_12 : decode cX4_putRule 12 = .ok (.iconst 1, 1) := by decide +kernel
theorem dX4_putRule_13 : decode cX4_putRule 13 = .ok (.isub, 1) := by decide +kernel
theorem dX4_putRule_14 : decode cX4_putRule 14 = .ok (.iload_n 3, 1) := by decide +kernel
theorem dX4_putRule_15 : decode cX4_putRule 15 = .ok (.invokevirtual 85, 3) := by decide +kernel
theorem dX4_putRule_18 : decode cX4_putRule 18 = .ok (.iinc 3 (-1), 3) := by decide +kernel
theorem dX4_putRule_21 : decode cX4_putRule 21 = .ok (.goto (-16), 3) := by decide +kernel
theorem dX4_putRule_24 : decode cX4_putRule 24 = .ok (.aload_n 2, 1) := by decide +kernel
theorem dX4_putRule_25 : decode cX4_putRule 25 = .ok (.getfield 89, 3) := by decide +kernel
theorem dX4_putRule_28 : decode cX4_putRule 28 = .ok (.iconst 0, 1) := by decide +kernel
theorem dX4_putRule_29 : decode cX4_putRule 29 = .ok (.aload_n 0, 1) := by decide +kernel
theorem dX4_putRule_30 : decode cX4_putRule 30 = .ok (.getfield 24, 3) := by decide +kernel
theorem dX4_putRule_33 : decode cX4_putRule 33 = .ok (.iload_n 1, 1) := by decide +kernel
theorem dX4_putRule_34 : decode cX4_putRule 34 = .ok (.iconst 4, 1) := by decide +kernel
theorem dX4_putRule_35 : decode cX4_putRule 35 = .ok (.imul, 1) := by decide +kernel
theorem dX4_putRule_36 : decode cX4_putRule 36 = .ok (.iconst 4, 1) := by decide +kernel
theorem dX4_putRule_37 : decode cX4_putRule 37 = .ok (.invokestatic 52, 3) := by decide +kernel
theorem dX4_putRule_40 : decode cX4_putRule 40 = .ok (.aload_n 0, 1) := by decide +kernel
theorem dX4_putRule_41 : decode cX4_putRule 41 = .ok (.getfield 27, 3) := by decide +kernel
theorem dX4_putRule_44 : decode cX4_putRule 44 = .ok (.iload_n 1, 1) := by decide +kernel
theorem dX4_putRule_45 : decode cX4_putRule 45 = .ok (.aload_n 2, 1) := by decide +kernel
theorem dX4_putRule_46 : decode cX4_putRule 46 = .ok (.getfield 92, 3) := by decide +kernel
theorem dX4_putRule_49 : decode cX4_putRule 49 = .ok (.iastore, 1) := by decide +kernel
theorem dX4_putRule_50 : decode cX4_putRule 50 = .ok (.aload_n 0, 1) := by decide +kernel
theorem dX4_putRule_51 : decode cX4_putRule 51 = .ok (.dup, 1) := by decide +kernel
theorem dX4_putRule_52 : decode cX4_putRule 52 = .ok (.getfield 40, 3) := by decide +kernel
theorem dX4_putRule_55 : decode cX4_putRule 55 = .ok (.iconst 1, 1) := by decide +kernel
theorem dX4_putRule_56 : decode cX4_putRule 56 = .ok (.iadd, 1) := by decide +kernel
theorem dX4_putRule_57 : decode cX4_putRule 57 = .ok (.putfield 40, 3) := by decide +kernel
theorem dX4_putRule_60 : decode cX4_putRule 60 = .ok (.aload_n 0, 1) := by decide +kernel
theorem dX4_putRule_61 : decode cX4_putRule 61 = .ok (.invokevirtual 95, 3) := by decide +kernel
theorem dX4_putRule_64 : decode cX4_putRule 64 = .ok (.return_, 1) := by decide +kernel
set_option maxRecDepth 20000 in
theorem ggX4_dropRule_X4_moveRule : GoodIn wsX4_dropRule wsX4_moveRule := goodIn_r _ [6, 7, 8, 9, 10, 11, 12, 24, 25, 26, 27, 28, 29, 30, 31, 32, 33, 34] (by decide +kernel) (by decide +kernel)
set_option maxRecDepth 20000 in
theorem gX4_dropRule_X4_moveRule : GoodIn wsX4_dropRule (wsV RX4 85 RX4 yX4_moveRule wsX4_moveRule) := goodIn_app (goodIn_of _ (by decide +kernel)) ggX4_dropRule_X4_moveRule
set_option maxRecDepth 20000 in
theorem ggX4_dropRule_X4_indexRules : GoodIn wsX4_dropRule wsX4_indexRules := goodIn_r _ [16, 17, 18, 1, 19, 20, 21, 22, 5, 23, 7, 24, 25, 26, 27, 28, 29, 30, 31, 32, 33, 34] (by decide +kernel) (by decide +kernel)
set_option maxRecDepth 20000 in
theorem gX4_dropRule_X4_indexRules : GoodIn wsX4_dropRule (wsV RX4 95 RX4 yX4_indexRules wsX4_indexRules) := goodIn_app (goodIn_of _ (by decide +kernel)) ggX4_dropRule_X4_indexRules
theorem dX4_dropRule_0 : decode cX4_dropRule 0 = .ok (.iload_n 1, 1) := by decide +kernel
theorem dX4_dropRule_1 : decode cX4_dropRule 1 = .ok (.iconst 1, 1) := by decide +kernel
theorem dX4_dropRule_2 : decode cX4_dropRule 2 = .ok (.iadd, 1) := by decide +kernel
theorem dX4_dropRule_3 : decode cX4_dropRule 3 = .ok (.istore_n 2, 1) := by decide +kernel
theorem dX4_dropRule_4 : decode cX4_dropRule 4 = .ok (.iload_n 2, 1) := by decide +kernel
theorem dX4_dropRule_5 : decode cX4_dropRule 5 = .ok (.aload_n 0, 1) := by decide +kernel
theorem dX4_dropRule_6 : decode cX4_dropRule 6 = .ok (.getfield 40, 3) := by decide +kernel
theorem dX4_dropRule_9 : decode cX4_dropRule 9 = .ok (.if_icmp .ge 17, 3) := by decide +kernel
theorem dX4_dropRule_12 : decode cX4_dropRule 12 = .ok (.aload_n 0, 1) := by decide +kernel
theorem dX4_dropRule_13 : decode cX4_dropRule 13 = .ok (.iload_n 2, 1) := by decide +kernel
theorem dX4_dropRule_14 : decode cX4_dropRule 14 = .ok (.iload_n 2, 1) := by decide +kernel
theorem dX4_dropRule_15 : decode cX4_dropRule 15 = .ok (.iconst 1, 1) := by decide +kernel
theorem dX4_dropRule_16 : decode cX4_dropRule 16 = .ok (.isub, 1) := by decide +kernel
theorem dX4_dropRule_17 : decode cX4_dropRule 17 = .ok (.invokevirtual 85, 3) := by decide +kernel
theorem dX4_dropRule_20 : decode cX4_dropRule 20 = .ok (.iinc 2 1, 3) := by decide +kernel
theorem dX4_dropRule_23 : decode cX4_dropRule 23 = .ok (.goto (-19), 3) := by decide +kernel
theorem dX4_dropRule_26 : decode cX4_dropRule 26 = .ok (.aload_n 0, 1) := by decide +kernel
theorem dX4_dropRule_27 : decode cX4_dropRule 27 = .ok (.dup, 1) := by decide +kernel
theorem dX4_dropRule_28 : decode cX4_dropRule 28 = .ok (.getfield 40, 3) := by decide +kernel
theorem dX4_dropRule_31 : decode cX4_dropRule 31 = .ok (.iconst 1, 1) := by decide +kernel
theorem dX4_dropRule_32 : decode cX4_dropRule 32 = .ok (.isub, 1) := by decide +kernel
theorem dX4_dropRule_33 : decode cX4_dropRule 33 = .ok (.putfield 40, 3) := by decide +kernel
theorem dX4_dropRule_36 : decode cX4_dropRule 36 = .ok (.aload_n 0, 1) := by decide +kernel
theorem dX4_dropRule_37 : decode cX4_dropRule 37 = .ok (.invokevirtual 95, 3) := by decide +kernel
theorem dX4_dropRule_40 : decode cX4_dropRule 40 = .ok (.return_, 1) := by decide +kernel
theorem dX4_moveRule_0 : decode cX4_moveRule 0 = .ok (.aload_n 0, 1) := by decide +kernel
theorem dX4_moveRule_1 : decode cX4_moveRule 1 = .ok (.getfield 24, 3) := by decide +kernel
theorem dX4_moveRule_4 : decode cX4_moveRule 4 = .ok (.iload_n 1, 1) := by decide +kernel
theorem dX4_moveRule_5 : decode cX4_moveRule 5 = .ok (.iconst 4, 1) := by decide +kernel
theorem dX4_moveRule_6 : decode cX4_moveRule 6 = .ok (.imul, 1) := by decide +kernel
theorem dX4_moveRule_7 : decode cX4_moveRule 7 = .ok (.aload_n 0, 1) := by decide +kernel
theorem dX4_moveRule_8 : decode cX4_moveRule 8 = .ok (.getfield 24, 3) := by decide +kernel
theorem dX4_moveRule_11 : decode cX4_moveRule 11 = .ok (.iload_n 2, 1) := by decide +kernel
theorem dX4_moveRule_12 : decode cX4_moveRule 12 = .ok (.iconst 4, 1) := by decide +kernel
theorem dX4_moveRule_13 : decode cX4_moveRule 13 = .ok (.imul, 1) := by decide +kernel
theorem dX4_moveRule_14 : decode cX4_moveRule 14 = .ok (.iconst 4, 1) := by decide +kernel
theorem dX4_moveRule_15 : decode cX4_moveRule 15 = .ok (.invokestatic 52, 3) := by decide +kernel
theorem dX4_moveRule_18 : decode cX4_moveRule 18 = .ok (.aload_n 0, 1) := by decide +kernel
theorem dX4_moveRule_19 : decode cX4_moveRule 19 = .ok (.getfield 27, 3) := by decide +kernel
theorem dX4_moveRule_22 : decode cX4_moveRule 22 = .ok (.iload_n 2, 1) := by decide +kernel
theorem dX4_moveRule_23 : decode cX4_moveRule 23 = .ok (.aload_n 0, 1) := by decide +kernel
theorem dX4_moveRule_24 : decode cX4_moveRule 24 = .ok (.getfield 27, 3) := by decide +kernel
theorem dX4_moveRule_27 : decode cX4_moveRule 27 = .ok (.iload_n 1, 1) := by decide +kernel
theorem dX4_moveRule_28 : decode cX4_moveRule 28 = .ok (.iaload, 1) := by decide +kernel
theorem dX4_moveRule_29 : decode cX4_moveRule 29 = .ok (.iastore, 1) := by decide +kernel
theorem dX4_moveRule_30 : decode cX4_moveRule 30 = .ok (.return_, 1) := by decide +kernel
set_option maxRecDepth 20000 in
theorem ggX4_indexRules_X4_setOf : GoodIn wsX4_indexRules wsX4_setOf := goodIn_r _ [9, 10, 11, 12, 13, 14, 15, 16, 17, 18, 19, 20, 21] (by decide +kernel) (by decide +kernel)
set_option maxRecDepth 20000 in
theorem gX4_indexRules_X4_setOf : GoodIn wsX4_indexRules (wsV RX4 79 RX4 yX4_setOf wsX4_setOf) := goodIn_app (goodIn_of _ (by decide +kernel)) ggX4_indexRules_X4_setOf
theorem dX4_indexRules_0 : decode cX4_indexRules 0 = .ok (.iconst 0, 1) := by decide +kernel
theorem dX4_indexRules_1 : decode cX4_indexRules 1 = .ok (.istore_n 1, 1) := by decide +kernel
theorem dX4_indexRules_2 : decode cX4_indexRules 2 = .ok (.iload_n 1, 1) := by decide +kernel
theorem dX4_indexRules_3 : decode cX4_indexRules 3 = .ok (.aload_n 0, 1) := by decide +kernel
theorem dX4_indexRules_4 : decode cX4_indexRules 4 = .ok (.getfield 33, 3) := by decide +kernel
theorem dX4_indexRules_7 : decode cX4_indexRules 7 = .ok (.if_icmp .ge 75, 3) := by decide +kernel
theorem dX4_indexRules_10 : decode cX4_indexRules 10 = .ok (.iconst 0, 1) := by decide +kernel
theorem dX4_indexRules_11 : decode cX4_indexRules 11 = .ok (.istore_n 2, 1) := by decide +kernel
theorem dX4_indexRules_12 : decode cX4_indexRules 12 = .ok (.iload_n 2, 1) := by decide +kernel
theorem dX4_indexRules_13 : decode cX4_indexRules 13 = .ok (.aload_n 0, 1) := by decide +kernel
theorem dX4_indexRules_14 : decode cX4_indexRules 14 = .ok (.getfield 9, 3) := by decide +kernel
theorem dX4_indexRules_17 : decode cX4_indexRules 17 = .ok (.iload_n 1, 1) := by decide +kernel
theorem dX4_indexRules_18 : decode cX4_indexRules 18 = .ok (.iaload, 1) := by decide +kernel
theorem dX4_indexRules_19 : decode cX4_indexRules 19 = .ok (.if_icmp .ge 57, 3) := by decide +kernel
theorem dX4_indexRules_22 : decode cX4_indexRules 22 = .ok (.iconst 0, 1) := by decide +kernel
theorem dX4_indexRules_23 : decode cX4_indexRules 23 = .ok (.istore_n 3, 1) := by decide +kernel
theorem dX4_indexRules_24 : decode cX4_indexRules 24 = .ok (.iconst 0, 1) := by decide +kernel
theorem dX4_indexRules_25 : decode cX4_indexRules 25 = .ok (.istore 4, 2) := by decide +kernel
theorem dX4_indexRules_27 : decode cX4_indexRules 27 = .ok (.iload 4, 2) := by decide +kernel
theorem dX4_indexRules_29 : decode cX4_indexRules 29 = .ok (.aload_n 0, 1) := by decide +kernel
theorem dX4_indexRules_30 : decode cX4_indexRules 30 = .ok (.getfield 40, 3) := by decide +kernel
theorem dX4_indexRules_33 : decode cX4_indexRules 33 = .ok (.if_icmp .ge 26, 3) := by decide +kernel
theorem dX4_indexRules_36 : decode cX4_indexRules 36 = .ok (.iload_n 3, 1) := by decide +kernel
theorem dX4_indexRules_37 : decode cX4_indexRules 37 = .ok (.aload_n 0, 1) := by decide +kernel
theorem dX4_indexRules_38 : decode cX4_indexRules 38 = .ok (.iload 4, 2) := by decide +kernel
theorem dX4_indexRules_40 : decode cX4_indexRules 40 = .ok (.iload_n 1, 1) := by decide +kernel
theorem dX4_indexRules_41 : decode cX4_indexRules 41 = .ok (.invokevirtual 79, 3) := by decide +kernel
theorem dX4_indexRules_44 : decode cX4_indexRules 44 = .ok (.iload_n 2, 1) := by decide +kernel
theorem dX4_indexRules_45 : decode cX4_indexRules 45 = .ok (.ishr, 1) := by decide +kernel
theorem dX4_indexRules_46 : decode cX4_indexRules 46 = .ok (.iconst 1, 1) := by decide +kernel
theorem dX4_indexRules_47 : decode cX4_indexRules 47 = .ok (.iand, 1) := by decide +kernel
theorem dX4_indexRules_48 : decode cX4_indexRules 48 = .ok (.iload 4, 2) := by decide +kernel
theorem dX4_indexRules_50 : decode cX4_indexRules 50 = .ok (.ishl, 1) := by decide +kernel
theorem dX4_indexRules_51 : decode cX4_indexRules 51 = .ok (.ior, 1) := by decide +kernel
theorem dX4_indexRules_52 : decode cX4_indexRules 52 = .ok (.istore_n 3, 1) := by decide +kernel
theorem dX4_indexRules_53 : decode cX4_indexRules 53 = .ok (.iinc 4 1, 3) := by decide +kernel
theorem dX4_indexRules_56 : decode cX4_indexRules 56 = .ok (.goto (-29), 3) := by decide +kernel
theorem dX4_indexRules_59 : decode cX4_indexRules 59 = .ok (.aload_n 0, 1) := by decide +kernel
theorem dX4_indexRules_60 : decode cX4_indexRules 60 = .ok (.getfield 30, 3) := by decide +kernel
theorem dX4_indexRules_63 : decode cX4_indexRules 63 = .ok (.iload_n 1, 1) := by decide +kernel
theorem dX4_indexRules_64 : decode cX4_indexRules 64 = .ok (.iconst 5, 1) := by decide +kernel
theorem dX4_indexRules_65 : decode cX4_indexRules 65 = .ok (.imul, 1) := by decide +kernel
theorem dX4_indexRules_66 : decode cX4_indexRules 66 = .ok (.iload_n 2, 1) := by decide +kernel
theorem dX4_indexRules_67 : decode cX4_indexRules 67 = .ok (.iadd, 1) := by decide +kernel
theorem dX4_indexRules_68 : decode cX4_indexRules 68 = .ok (.iload_n 3, 1) := by decide +kernel
theorem dX4_indexRules_69 : decode cX4_indexRules 69 = .ok (.iastore, 1) := by decide +kernel
theorem dX4_indexRules_70 : decode cX4_indexRules 70 = .ok (.iinc 2 1, 3) := by decide +kernel
theorem dX4_indexRules_73 : decode cX4_indexRules 73 = .ok (.goto (-61), 3) := by decide +kernel
theorem dX4_indexRules_76 : decode cX4_indexRules 76 = .ok (.iinc 1 1, 3) := by decide +kernel
theorem dX4_indexRules_79 : decode cX4_indexRules 79 = .ok (.goto (-77), 3) := by decide +kernel
theorem dX4_indexRules_82 : decode cX4_indexRules 82 = .ok (.return_, 1) := by decide +kernel
set_option maxRecDepth 20000 in
theorem ggX4_firstMergeable_X4_differences : GoodIn wsX4_firstMergeable wsX4_differences := goodIn_r _ [7, 8, 9, 10, 11, 6, 12, 13, 14, 15, 16, 17, 18, 19, 20, 21, 22, 23, 24] (by decide +kernel) (by decide +kernel)
set_option maxRecDepth 20000 in
theorem gX4_firstMergeable_X4_differences : GoodIn wsX4_firstMergeable (wsV RX4 98 RX4 yX4_differences wsX4_differences) := goodIn_app (goodIn_of _ (by decide +kernel)) ggX4_firstMergeable_X4_differences
theorem dX4_firstMergeable_0 : decode cX4_firstMergeable 0 = .ok (.iconst 0, 1) := by decide +kernel
theorem dX4_firstMergeable_1 : decode cX4_firstMergeable 1 = .ok (.istore_n 1, 1) := by decide +kernel
theorem dX4_firstMergeable_2 : decode cX4_firstMergeable 2 = .ok (.iload_n 1, 1) := by decide +kernel
theorem dX4_firstMergeable_3 : decode cX4_firstMergeable 3 = .ok (.iconst 1, 1) := by decide +kernel
theorem dX4_firstMergeable_4 : decode cX4_firstMergeable 4 = .ok (.iadd, 1) := by decide +kernel
theorem dX4_firstMergeable_5 : decode cX4_firstMergeable 5 = .ok (.aload_n 0, 1) := by decide +kernel
theorem dX4_firstMergeable_6 : decode cX4_firstMergeable 6 = .ok (.getfield 40, 3) := by decide +kernel
theorem dX4_firstMergeable_9 : decode cX4_firstMergeable 9 = .ok (.if_icmp .ge 40, 3) := by decide +kernel
theorem dX4_firstMergeable_12 : decode cX4_firstMergeable 12 = .ok (.aload_n 0, 1) := by decide +kernel
theorem dX4_firstMergeable_13 : decode cX4_firstMergeable 13 = .ok (.getfield 27, 3) := by decide +kernel
theorem dX4_firstMergeable_16 : decode cX4_firstMergeable 16 = .ok (.iload_n 1, 1) := by decide +kernel
theorem dX4_firstMergeable_17 : decode cX4_firstMergeable 17 = .ok (.iaload, 1) := by decide +kernel
theorem dX4_firstMergeable_18 : decode cX4_firstMergeable 18 = .ok (.aload_n 0, 1) := by decide +kernel
theorem dX4_firstMergeable_19 : decode cX4_firstMergeable 19 = .ok (.getfield 27, 3) := by decide +kernel
theorem dX4_firstMergeable_22 : decode cX4_firstMergeable 22 = .ok (.iload_n 1, 1) := by decide +kernel
theorem dX4_firstMergeable_23 : decode cX4_firstMergeable 23 = .ok (.iconst 1, 1) := by decide +kernel
theorem dX4_firstMergeable_24 : decode cX4_firstMergeable 24 = .ok (.iadd, 1) := by decide +kernel
theorem dX4_firstMergeable_25 : decode cX4_firstMergeable 25 = .ok (.iaload, 1) := by decide +kernel
theorem dX4_firstMergeable_26 : decode cX4_firstMergeable 26 = .ok (.if_icmp .ne 17, 3) := by decide +kernel
theorem dX4_firstMergeable_29 : decode cX4_firstMergeable 29 = .ok (.aload_n 0, 1) := by decide +kernel
theorem dX4_firstMergeable_30 : decode cX4_firstMergeable 30 = .ok (.iload_n 1, 1) := by decide +kernel
theorem dX4_firstMergeable_31 : decode cX4_firstMergeable 31 = .ok (.iload_n 1, 1) := by decide +kernel
theorem dX4_firstMergeable_32 : decode cX4_firstMergeable 32 = .ok (.iconst 1, 1) := by decide +kernel
theorem dX4_firstMergeable_33 : decode cX4_firstMergeable 33 = .ok (.iadd, 1) := by decide +kernel
theorem dX4_firstMergeable_34 : decode cX4_firstMergeable 34 = .ok (.invokevirtual 98, 3) := by decide +kernel
theorem dX4_firstMergeable_37 : decode cX4_firstMergeable 37 = .ok (.iconst 1, 1) := by decide +kernel
theorem dX4_firstMergeable_38 : decode cX4_firstMergeable 38 = .ok (.if_icmp .gt 5, 3) := by decide +kernel
theorem dX4_firstMergeable_41 : decode cX4_firstMergeable 41 = .ok (.iload_n 1, 1) := by decide +kernel
theorem dX4_firstMergeable_42 : decode cX4_firstMergeable 42 = .ok (.ireturn, 1) := by decide +kernel
theorem dX4_firstMergeable_43 : decode cX4_firstMergeable 43 = .ok (.iinc 1 1, 3) := by decide +kernel
theorem dX4_firstMergeable_46 : decode cX4_firstMergeable 46 = .ok (.goto (-44), 3) := by decide +kernel
theorem dX4_firstMergeable_49 : decode cX4_firstMergeable 49 = .ok (.iconst (-1), 1) := by decide +kernel
theorem dX4_firstMergeable_50 : decode cX4_firstMergeable 50 = .ok (.ireturn, 1) := by decide +kernel
set_option maxRecDepth 20000 in
theorem ggX4_differences_X4_setOf : GoodIn wsX4_differences wsX4_setOf := goodIn_r _ [6, 7, 8, 9, 10, 11, 12, 13, 14, 15, 16, 17, 18] (by decide +kernel) (by decide +kernel)
set_option maxRecDepth 20000 in
theorem gX4_differences_X4_setOf : GoodIn wsX4_differences (wsV RX4 79 RX4 yX4_setOf wsX4_setOf) := goodIn_app (goodIn_of _ (by decide +kernel)) ggX4_differences_X4_setOf
theorem dX4_differences_0 : decode cX4_differences 0 = .ok (.iconst 0, 1) := by decide +kernel
theorem dX4_differences_1 : decode cX4_differences 1 = .ok (.istore_n 3, 1) := by decide +kernel
theorem dX4_differences_2 : decode cX4_differences 2 = .ok (.iconst 0, 1) := by decide +kernel
theorem dX4_differences_3 : decode cX4_differences 3 = .ok (.istore 4, 2) := by decide +kernel
theorem dX4_differences_5 : decode cX4_differences 5 = .ok (.iload 4, 2) := by decide +kernel
theorem dX4_differences_7 : decode cX4_differences 7 = .ok (.aload_n 0, 1) := by decide +kernel
theorem dX4_differences_8 : decode cX4_differences 8 = .ok (.getfield 33, 3) := by decide +kernel
theorem dX4_differences_11 : decode cX4_differences 11 = .ok (.if_icmp .ge 29, 3) := by decide +kernel
theorem dX4_differences_14 : decode cX4_differences 14 = .ok (.aload_n 0, 1) := by decide +kernel
theorem dX4_differences_15 : decode cX4_differences 15 = .ok (.iload_n 1, 1) := by decide +kernel
theorem dX4_differences_16 : decode cX4_differences 16 = .ok (.iload 4, 2) := by decide +kernel
theorem dX4_differences_18 : decode cX4_differences 18 = .ok (.invokevirtual 79, 3) := by decide +kernel
theorem dX4_differences_21 : decode cX4_differences 21 = .ok (.aload_n 0, 1) := by decide +kernel
theorem dX4_differences_22 : decode cX4_differences 22 = .ok (.iload_n 2, 1) := by decide +kernel
theorem dX4_differences_23 : decode cX4_differences 23 = .ok (.iload 4, 2) := by decide +kernel
theorem dX4_differences_25 : decode cX4_differences 25 = .ok (.invokevirtual 79, 3) := by decide +kernel
theorem dX4_differences_28 : decode cX4_differences 28 = .ok (.if_icmp .eq 6, 3) := by decide +kernel
theorem dX4_differences_31 : decode cX4_differences 31 = .ok (.iinc 3 1, 3) := by decide +kernel
theorem dX4_differences_34 : decode cX4_differences 34 = .ok (.iinc 4 1, 3) := by decide +kernel
theorem dX4_differences_37 : decode cX4_differences 37 = .ok (.goto (-32), 3) := by decide +kernel
theorem dX4_differences_40 : decode cX4_differences 40 = .ok (.iload_n 3, 1) := by decide +kernel
theorem dX4_differences_41 : decode cX4_differences 41 = .ok (.ireturn, 1) := by decide +kernel
set_option maxRecDepth 20000 in
theorem ggX4_mergeWithNext_X4_setOf : GoodIn wsX4_mergeWithNext wsX4_setOf := goodIn_r _ [7, 2, 28, 29, 30, 31, 32, 33, 34, 35, 36, 37, 38] (by decide +kernel) (by decide +kernel)
set_option maxRecDepth 20000 in
theorem gX4_mergeWithNext_X4_setOf : GoodIn wsX4_mergeWithNext (wsV RX4 79 RX4 yX4_setOf wsX4_setOf) := goodIn_app (goodIn_of _ (by decide +kernel)) ggX4_mergeWithNext_X4_setOf
set_option maxRecDepth 20000 in
theorem ggX4_mergeWithNext_X4_dropRule : GoodIn wsX4_mergeWithNext wsX4_dropRule := goodIn_r _ [11, 12, 13, 14, 15, 6, 16, 2, 17, 18, 19, 20, 21, 22, 23, 24, 25, 1, 26, 27, 3, 4, 5, 7, 28, 29, 30, 31, 32, 33, 34, 35, 36, 37, 38] (by decide +kernel) (by decide +kernel)
set_option maxRecDepth 20000 in
theorem gX4_mergeWithNext_X4_dropRule : GoodIn wsX4_mergeWithNext (wsV RX4 101 RX4 yX4_dropRule wsX4_dropRule) := goodIn_app (goodIn_of _ (by decide +kernel)) ggX4_mergeWithNext_X4_dropRule
theorem dX4_mergeWithNext_0 : decode cX4_mergeWithNext 0 = .ok (.iconst 0, 1) := by decide +kernel
theorem dX4_mergeWithNext_1 : decode cX4_mergeWithNext 1 = .ok (.istore_n 2, 1) := by decide +kernel
theorem dX4_mergeWithNext_2 : decode cX4_mergeWithNext 2 = .ok (.iload_n 2, 1) := by decide +kernel
theorem dX4_mergeWithNext_3 : decode cX4_mergeWithNext 3 = .ok (.aload_n 0, 1) := by decide +kernel
theorem dX4_mergeWithNext_4 : decode cX4_mergeWithNext 4 = .ok (.getfield 33, 3) := by decide +kernel
theorem dX4_mergeWithNext_7 : decode cX4_mergeWithNext 7 = .ok (.if_icmp .ge 30, 3) := by decide +kernel
theorem dX4_mergeWithNext_10 : decode cX4_mergeWithNext 10 = .ok (.aload_n 0, 1) := by decide +kernel
theorem dX4_mergeWithNext_11 : decode cX4_mergeWithNext 11 = .ok (.getfield 24, 3) := by decide +kernel
theorem dX4_mergeWithNext_14 : decode cX4_mergeWithNext 14 = .ok (.iload_n 1, 1) := by decide +kernel
theorem dX4_mergeWithNext_15 : decode cX4_mergeWithNext 15 = .ok (.iconst 4, 1) := by decide +kernel
theorem dX4_mergeWithNext_16 : decode cX4_mergeWithNext 16 = .ok (.imul, 1) := by decide +kernel
theorem dX4_mergeWithNext_17 : decode cX4_mergeWithNext 17 = .ok (.iload_n 2, 1) := by decide +kernel
theorem dX4_mergeWithNext_18 : decode cX4_mergeWithNext 18 = .ok (.iadd, 1) := by decide +kernel
theorem dX4_mergeWithNext_19 : decode cX4_mergeWithNext 19 = .ok (.dup2, 1) := by decide +kernel
theorem dX4_mergeWithNext_20 : decode cX4_mergeWithNext 20 = .ok (.iaload, 1) := by decide +kernel
theorem dX4_mergeWithNext_21 : decode cX4_mergeWithNext 21 = .ok (.aload_n 0, 1) := by decide +kernel
theorem dX4_mergeWithNext_22 : decode cX4_mergeWithNext 22 = .ok (.iload_n 1, 1) := by decide +kernel
theorem dX4_mergeWithNext_23 : decode cX4_mergeWithNext 23 = .ok (.iconst 1, 1) := by decide +kernel
theorem dX4_mergeWithNext_24 : decode cX4_mergeWithNext 24 = .ok (.iadd, 1) := by decide +kernel
theorem dX4_mergeWithNext_25 : decode cX4_mergeWithNext 25 = .ok (.iload_n 2, 1) := by decide +kernel
theorem dX4_mergeWithNext_26 : decode cX4_mergeWithNext 26 = .ok (.invokevirtual 79, 3) := by decide +kernel
theorem dX4_mergeWithNext_29 : decode cX4_mergeWithNext 29 = .ok (.ior, 1) := by decide +kernel
theorem dX4_mergeWithNext_30 : decode cX4_mergeWithNext 30 = .ok (.iastore, 1) := by decide +kernel
theorem dX4_mergeWithNext_31 : decode cX4_mergeWithNext 31 = .ok (.iinc 2 1, 3) := by decide +kernel
theorem dX4_mergeWithNext_34 : decode cX4_mergeWithNext 34 = .ok (.goto (-32), 3) := by decide +kernel
theorem dX4_mergeWithNext_37 : decode cX4_mergeWithNext 37 = .ok (.aload_n 0, 1) := by decide +kernel
theorem dX4_mergeWithNext_38 : decode cX4_mergeWithNext 38 = .ok (.iload_n 1, 1) := by decide +kernel
theorem dX4_mergeWithNext_39 : decode cX4_mergeWithNext 39 = .ok (.iconst 1, 1) := by decide +kernel
theorem dX4_mergeWithNext_40 : decode cX4_mergeWithNext 40 = .ok (.iadd, 1) := by decide +kernel
theorem dX4_mergeWithNext_41 : decode cX4_mergeWithNext 41 = .ok (.invokevirtual 101, 3) := by decide +kernel
theorem dX4_mergeWithNext_44 : decode cX4_mergeWithNext 44 = .ok (.return_, 1) := by decide +kernel
theorem dX5_init_0 : decode cX5_init 0 = .ok (.aload_n 0, 1) := by decide +kernel
theorem dX5_init_1 : decode cX5_init 1 = .ok (.invokespecial 3, 3) := by decide +kernel
theorem dX5_init_4 : decode cX5_init 4 = .ok (.aload_n 0, 1) := by decide +kernel
theorem dX5_init_5 : decode cX5_init 5 = .ok (.sipush 781, 3) := by decide +kernel
theorem dX5_init_8 : decode cX5_init 8 = .ok (.newarray .int, 2) := by decide +kernel
theorem dX5_init_10 : decode cX5_init 10 = .ok (.putfield 9, 3) := by decide +kernel
theorem dX5_init_13 : decode cX5_init 13 = .ok (.aload_n 0, 1) := by decide +kernel
theorem dX5_init_14 : decode cX5_init 14 = .ok (.sipush 781, 3) := by decide +kernel
theorem dX5_init_17 : decode cX5_init 17 = .ok (.newarray .int, 2) := by decide +kernel
theorem dX5_init_19 : decode cX5_init 19 = .ok (.putfield 15, 3) := by decide +kernel
theorem dX5_init_22 : decode cX5_init 22 = .ok (.aload_n 0, 1) := by decide +kernel
theorem dX5_init_23 : decode cX5_init 23 = .ok (.sipush 781, 3) := by decide +kernel
theorem dX5_init_26 : decode cX5_init 26 = .ok (.newarray .int, 2) := by decide +kernel
theorem dX5_init_28 : decode cX5_init 28 = .ok (.putfield 18, 3) := by decide +kernel
theorem dX5_init_31 : decode cX5_init 31 = .ok (.aload_n 0, 1) := by decide +kernel
theorem dX5_init_32 : decode cX5_init 32 = .ok (.sipush 781, 3) := by decide +kernel
theorem dX5_init_35 : decode cX5_init 35 = .ok (.newarray .int, 2) := by decide +kernel
theorem dX5_init_37 : decode cX5_init 37 = .ok (.putfield 21, 3) := by decide +kernel
theorem dX5_init_40 : decode cX5_init 40 = .ok (.aload_n 0, 1) := by decide +kernel
theorem dX5_init_41 : decode cX5_init 41 = .ok (.sipush 781, 3) := by decide +kernel
theorem dX5_init_44 : decode cX5_init 44 = .ok (.newarray .int, 2) := by decide +kernel
theorem dX5_init_46 : decode cX5_init 46 = .ok (.putfield 24, 3) := by decide +kernel
theorem dX5_init_49 : decode cX5_init 49 = .ok (.aload_n 0, 1) := by decide +kernel
theorem dX5_init_50 : decode cX5_init 50 = .ok (.sipush 167, 3) := by decide +kernel
theorem dX5_init_53 : decode cX5_init 53 = .ok (.newarray .int, 2) := by decide +kernel
theorem dX5_init_55 : decode cX5_init 55 = .ok (.putfield 27, 3) := by decide +kernel
theorem dX5_init_58 : decode cX5_init 58 = .ok (.aload_n 0, 1) := by decide +kernel
theorem dX5_init_59 : decode cX5_init 59 = .ok (.bipush 11, 2) := by decide +kernel
theorem dX5_init_61 : decode cX5_init 61 = .ok (.newarray .int, 2) := by decide +kernel
theorem dX5_init_63 : decode cX5_init 63 = .ok (.putfield 30, 3) := by decide +kernel
theorem dX5_init_66 : decode cX5_init 66 = .ok (.return_, 1) := by decide +kernel
set_option maxRecDepth 20000 in
theorem ggX5_build_X1_lowestCost : GoodIn wsX5_build wsX1_lowestCost := goodIn_r _ [8, 9, 10, 11, 12, 7, 13, 14, 99, 100, 101, 102, 103] (by decide +kernel) (by decide +kernel)
set_option maxRecDepth 20000 in
theorem gX5_build_X1_lowestCost : GoodIn wsX5_build (wsV RX5 40 RX1 yX1_lowestCost wsX1_lowestCost) := goodIn_app (goodIn_of _ (by decide +kernel)) ggX5_build_X1_lowestCost
set_option maxRecDepth 20000 in
theorem ggX5_build_X1_whole : GoodIn wsX5_build wsX1_whole := goodIn_r _ [13, 14, 99, 100, 101, 102, 103] (by decide +kernel) (by decide +kernel)
set_option maxRecDepth 20000 in
theorem gX5_build_X1_whole : GoodIn wsX5_build (wsV RX5 50 RX1 yX1_whole wsX1_whole) := goodIn_app (goodIn_of _ (by decide +kernel)) ggX5_build_X1_whole
set_option maxRecDepth 20000 in
theorem ggX5_build_X5_place : GoodIn wsX5_build wsX5_place := goodIn_r _ [20, 1, 21, 22, 23, 24, 2, 25, 26, 27, 28, 29, 30, 31, 32, 33, 34, 7, 35, 36, 37, 9, 38, 39, 40, 41, 42, 43, 44, 45, 46, 47, 48, 49, 50, 51, 52, 53, 54, 55, 56, 57, 58, 59, 60, 61, 62, 63, 16, 17, 18, 19, 88, 89, 90, 91, 92, 93, 94, 95, 96, 97, 98, 99, 100, 101, 102, 103, 104, 105, 106, 107, 108, 109, 110, 111, 112, 113, 114] (by decide +kernel) (by decide +kernel)
set_option maxRecDepth 20000 in
theorem gX5_build_X5_place : GoodIn wsX5_build (wsV RX5 54 RX5 yX5_place wsX5_place) := goodIn_app (goodIn_of _ (by decide +kernel)) ggX5_build_X5_place
set_option maxRecDepth 20000 in
theorem ggX5_build_X5_share : GoodIn wsX5_build wsX5_share := goodIn_r _ [67, 68, 69, 1, 21, 22, 70, 71, 72, 73, 74, 75, 76, 77, 78, 19, 79, 80, 81, 82, 83, 31, 30, 84, 85, 86, 87, 88, 89, 90, 91, 92, 93, 94, 95, 96, 97, 98, 104, 105, 106, 107, 108, 109, 110, 111, 112, 113, 114] (by decide +kernel) (by decide +kernel)
set_option maxRecDepth 20000 in
theorem gX5_build_X5_share : GoodIn wsX5_build (wsV RX5 58 RX5 yX5_share wsX5_share) := goodIn_app (goodIn_of _ (by decide +kernel)) ggX5_build_X5_share
theorem dX5_build_0 : decode cX5_build 0 = .ok (.aload_n 0, 1) := by decide +kernel
theorem dX5_build_1 : decode cX5_build 1 = .ok (.iconst 0, 1) := by decide +kernel
theorem dX5_build_2 : decode cX5_build 2 = .ok (.putfield 33, 3) := by decide +kernel
theorem dX5_build_5 : decode cX5_build 5 = .ok (.aload_n 0, 1) := by decide +kernel
theorem dX5_build_6 : decode cX5_build 6 = .ok (.iconst 0, 1) := by decide +kernel
theorem dX5_build_7 : decode cX5_build 7 = .ok (.putfield 37, 3) := by decide +kernel
theorem dX5_build_10 : decode cX5_build 10 = .ok (.aload_n 0, 1) := by decide +kernel
theorem dX5_build_11 : decode cX5_build 11 = .ok (.aload_n 1, 1) := by decide +kernel
theorem dX5_build_12 : decode cX5_build 12 = .ok (.invokevirtual 40, 3) := by decide +kernel
theorem dX5_build_15 : decode cX5_build 15 = .ok (.putfield 46, 3) := by decide +kernel
theorem dX5_build_18 : decode cX5_build 18 = .ok (.aload_n 0, 1) := by decide +kernel
theorem dX5_build_19 : decode cX5_build 19 = .ok (.aload_n 1, 1) := by decide +kernel
theorem dX5_build_20 : decode cX5_build 20 = .ok (.aload_n 2, 1) := by decide +kernel
theorem dX5_build_21 : decode cX5_build 21 = .ok (.aload_n 1, 1) := by decide +kernel
theorem dX5_build_22 : decode cX5_build 22 = .ok (.invokevirtual 50, 3) := by decide +kernel
theorem dX5_build_25 : decode cX5_build 25 = .ok (.iconst 0, 1) := by decide +kernel
theorem dX5_build_26 : decode cX5_build 26 = .ok (.iconst 0, 1) := by decide +kernel
theorem dX5_build_27 : decode cX5_build 27 = .ok (.invokevirtual 54, 3) := by decide +kernel
theorem dX5_build_30 : decode cX5_build 30 = .ok (.aload_n 0, 1) := by decide +kernel
theorem dX5_build_31 : decode cX5_build 31 = .ok (.aload_n 2, 1) := by decide +kernel
theorem dX5_build_32 : decode cX5_build 32 = .ok (.invokevirtual 58, 3) := by decide +kernel
theorem dX5_build_35 : decode cX5_build 35 = .ok (.return_, 1) := by decide +kernel
theorem dX5_hasNode_0 : decode cX5_hasNode 0 = .ok (.iload_n 1, 1) := by decide +kernel
theorem dX5_hasNode_1 : decode cX5_hasNode 1 = .ok (.ifCond .lt 15, 3) := by decide +kernel
theorem dX5_hasNode_4 : decode cX5_hasNode 4 = .ok (.iload_n 1, 1) := by decide +kernel
theorem dX5_hasNode_5 : decode cX5_hasNode 5 = .ok (.aload_n 0, 1) := by decide +kernel
theorem dX5_hasNode_6 : decode cX5_hasNode 6 = .ok (.getfield 33, 3) := by decide +kernel
theorem dX5_hasNode_9 : decode cX5_hasNode 9 = .ok (.if_icmp .ge 7, 3) := by decide +kernel
theorem dX5_hasNode_12 : decode cX5_hasNode 12 = .ok (.iconst 1, 1) := by decide +kernel
theorem dX5_hasNode_13 : decode cX5_hasNode 13 = .ok (.goto 4, 3) := by decide +kernel
theorem dX5_hasNode_16 : decode cX5_hasNode 16 = .ok (.iconst 0, 1) := by decide +kernel
theorem dX5_hasNode_17 : decode cX5_hasNode 17 = .ok (.ireturn, 1) := by decide +kernel
set_option maxRecDepth 20000 in
theorem ggX5_place_X1_bestTest : GoodIn wsX5_place wsX1_bestTest := goodIn_r _ [18, 19, 20, 21, 22, 23, 24, 17, 25, 26, 27, 28, 29, 30, 31, 32, 33, 34, 35, 36, 37, 38, 39, 40, 41, 42, 43, 44, 45, 46, 63, 64, 65, 66, 67, 68, 69, 70, 71, 72, 73, 74, 75, 76, 77, 78] (by decide +kernel) (by decide +kernel)
set_option maxRecDepth 20000 in
theorem gX5_place_X1_bestTest : GoodIn wsX5_place (wsV RX5 62 RX1 yX1_bestTest wsX1_bestTest) := goodIn_app (goodIn_of _ (by decide +kernel)) ggX5_place_X1_bestTest
set_option maxRecDepth 20000 in
theorem ggX5_place_X1_part : GoodIn wsX5_place wsX1_part := goodIn_r _ [46, 26, 31, 68, 69, 70, 71, 72, 73, 74, 75, 76, 77, 78, 63, 64, 65, 66, 67] (by decide +kernel) (by decide +kernel)
set_option maxRecDepth 20000 in
theorem gX5_place_X1_part : GoodIn wsX5_place (wsV RX5 81 RX1 yX1_part wsX1_part) := goodIn_app (goodIn_of _ (by decide +kernel)) ggX5_place_X1_part
set_option maxRecDepth 20000 in
theorem ggX5_place_X5_place : GoodIn wsX5_place wsX5_place := goodIn_r _ [0, 1, 2, 3, 4, 5, 6, 7, 8, 9, 10, 11, 12, 13, 14, 15, 16, 17, 18, 19, 20, 21, 22, 23, 24, 25, 26, 27, 28, 29, 30, 31, 32, 33, 34, 35, 36, 37, 38, 39, 40, 41, 42, 43, 44, 45, 46, 47, 48, 49, 50, 51, 52, 53, 54, 55, 56, 57, 58, 59, 60, 61, 62, 63, 64, 65, 66, 67, 68, 69, 70, 71, 72, 73, 74, 75, 76, 77, 78] (by decide +kernel) (by decide +kernel)
set_option maxRecDepth 20000 in
theorem gX5_place_X5_place : GoodIn wsX5_place (wsV RX5 54 RX5 yX5_place wsX5_place) := goodIn_app (goodIn_of _ (by decide +kernel)) ggX5_place_X5_place
theorem dX5_place_0 : decode cX5_place 0 = .ok (.aload_n 0, 1) := by decide +kernel
theorem dX5_place_1 : decode cX5_place 1 = .ok (.getfield 33, 3) := by decide +kernel
theorem dX5_place_4 : decode cX5_place 4 = .ok (.sipush 781, 3) := by decide +kernel
theorem dX5_place_7 : decode cX5_place 7 = .ok (.if_icmp .ge 9, 3) := by decide +kernel
theorem dX5_place_10 : decode cX5_place 10 = .ok (.iload 4, 2) := by decide +kernel
theorem dX5_place_12 : decode cX5_place 12 = .ok (.iconst 4, 1) := by decide +kernel
theorem dX5_place_13 : decode cX5_place 13 = .ok (.if_icmp .le 4, 3) := by decide +kernel
theorem dX5_place_16 : decode cX5_place 16 = .ok (.return_, 1) := by decide +kernel
theorem dX5_place_17 : decode cX5_place 17 = .ok (.aload_n 0, 1) := by decide +kernel
theorem dX5_place_18 : decode cX5_place 18 = .ok (.getfield 33, 3) := by decide +kernel
theorem dX5_place_21 : decode cX5_place 21 = .ok (.istore 6, 2) := by decide +kernel
theorem dX5_place_23 : decode cX5_place 23 = .ok (.aload_n 1, 1) := by decide +kernel
theorem dX5_place_24 : decode cX5_place 24 = .ok (.iload_n 3, 1) := by decide +kernel
theorem dX5_place_25 : decode cX5_place 25 = .ok (.aload_n 2, 1) := by decide +kernel
theorem dX5_place_26 : decode cX5_place 26 = .ok (.invokevirtual 62, 3) := by decide +kernel
theorem dX5_place_29 : decode cX5_place 29 = .ok (.istore 7, 2) := by decide +kernel
theorem dX5_place_31 : decode cX5_place 31 = .ok (.aload_n 0, 1) := by decide +kernel
theorem dX5_place_32 : decode cX5_place 32 = .ok (.dup, 1) := by decide +kernel
theorem dX5_place_33 : decode cX5_place 33 = .ok (.getfield 33, 3) := by decide +kernel
theorem dX5_place_36 : decode cX5_place 36 = .ok (.iconst 1, 1) := by decide +kernel
theorem dX5_place_37 : decode cX5_place 37 = .ok (.iadd, 1) := by decide +kernel
theorem dX5_place_38 : decode cX5_place 38 = .ok (.putfield 33, 3) := by decide +kernel
theorem dX5_place_41 : decode cX5_place 41 = .ok (.aload_n 0, 1) := by decide +kernel
theorem dX5_place_42 : decode cX5_place 42 = .ok (.getfield 9, 3) := by decide +kernel
theorem dX5_place_45 : decode cX5_place 45 = .ok (.iload 6, 2) := by decide +kernel
theorem dX5_place_47 : decode cX5_place 47 = .ok (.iload 7, 2) := by decide +kernel
theorem dX5_place_49 : decode cX5_place 49 = .ok (.iastore, 1) := by decide +kernel
theorem dX5_place_50 : decode cX5_place 50 = .ok (.aload_n 0, 1) := by decide +kernel
theorem dX5_place_51 : decode cX5_place 51 = .ok (.getfield 15, 3) := by decide +kernel
theorem dX5_place_54 : decode cX5_place 54 = .ok (.iload 6, 2) := by decide +kernel
theorem dX5_place_56 : decode cX5_place 56 = .ok (.iload 7, 2) := by decide +kernel
theorem dX5_place_58 : decode cX5_place 58 = .ok (.iconst (-1), 1) := by decide +kernel
theorem dX5_place_59 : decode cX5_place 59 = .ok (.if_icmp .ne 12, 3) := by decide +kernel
theorem dX5_place_62 : decode cX5_place 62 = .ok (.aload_n 1, 1) := by decide +kernel
theorem dX5_place_63 : decode cX5_place 63 = .ok (.getfield 66, 3) := by decide +kernel
theorem dX5_place_66 : decode cX5_place 66 = .ok (.iload_n 3, 1) := by decide +kernel
theorem dX5_place_67 : decode cX5_place 67 = .ok (.iaload, 1) := by decide +kernel
theorem dX5_place_68 : decode cX5_place 68 = .ok (.goto 4, 3) := by decide +kernel
theorem dX5_place_71 : decode cX5_place 71 = .ok (.iconst (-1), 1) := by decide +kernel
theorem dX5_place_72 : decode cX5_place 72 = .ok (.iastore, 1) := by decide +kernel
theorem dX5_place_73 : decode cX5_place 73 = .ok (.aload_n 0, 1) := by decide +kernel
theorem dX5_place_74 : decode cX5_place 74 = .ok (.getfield 21, 3) := by decide +kernel
theorem dX5_place_77 : decode cX5_place 77 = .ok (.iload 6, 2) := by decide +kernel
theorem dX5_place_79 : decode cX5_place 79 = .ok (.iload 4, 2) := by decide +kernel
theorem dX5_place_81 : decode cX5_place 81 = .ok (.iastore, 1) := by decide +kernel
theorem dX5_place_82 : decode cX5_place 82 = .ok (.aload_n 0, 1) := by decide +kernel
theorem dX5_place_83 : decode cX5_place 83 = .ok (.aload_n 0, 1) := by decide +kernel
theorem dX5_place_84 : decode cX5_place 84 = .ok (.getfield 37, 3) := by decide +kernel
theorem dX5_place_87 : decode cX5_place 87 = .ok (.iload 5, 2) := by decide +kernel
theorem dX5_place_89 : decode cX5_place 89 = .ok (.invokestatic 67, 3) := by decide +kernel
theorem dX5_place_92 : decode cX5_place 92 = .ok (.putfield 37, 3) := by decide +kernel
theorem dX5_place_95 : decode cX5_place 95 = .ok (.iload 7, 2) := by decide +kernel
theorem dX5_place_97 : decode cX5_place 97 = .ok (.iconst (-1), 1) := by decide +kernel
theorem dX5_place_98 : decode cX5_place 98 = .ok (.if_icmp .eq 58, 3) := by decide +kernel
theorem dX5_place_101 : decode cX5_place 101 = .ok (.iload 5, 2) := by decide +kernel
theorem dX5_place_103 : decode cX5_place 103 = .ok (.aload_n 2, 1) := by decide +kernel
theorem dX5_place_104 : decode cX5_place 104 = .ok (.getfield 73, 3) := by decide +kernel
theorem dX5_place_107 : decode cX5_place 107 = .ok (.iload 7, 2) := by decide +kernel
theorem dX5_place_109 : decode cX5_place 109 = .ok (.iaload, 1) := by decide +kernel
theorem dX5_place_110 : decode cX5_place 110 = .ok (.iadd, 1) := by decide +kernel
theorem dX5_place_111 : decode cX5_place 111 = .ok (.istore 8, 2) := by decide +kernel
theorem dX5_place_113 : decode cX5_place 113 = .ok (.iconst 0, 1) := by decide +kernel
theorem dX5_place_114 : decode cX5_place 114 = .ok (.istore 9, 2) := by decide +kernel
theorem dX5_place_116 : decode cX5_place 116 = .ok (.iload 9, 2) := by decide +kernel
theorem dX5_place_118 : decode cX5_place 118 = .ok (.aload_n 2, 1) := by decide +kernel
theorem dX5_place_119 : decode cX5_place 119 = .ok (.getfield 78, 3) := by decide +kernel
theorem dX5_place_122 : decode cX5_place 122 = .ok (.iload 7, 2) := by decide +kernel
theorem dX5_place_124 : decode cX5_place 124 = .ok (.iaload, 1) := by decide +kernel
theorem dX5_place_125 : decode cX5_place 125 = .ok (.if_icmp .ge 31, 3) := by decide +kernel
theorem dX5_place_128 : decode cX5_place 128 = .ok (.aload_n 0, 1) := by decide +kernel
theorem dX5_place_129 : decode cX5_place 129 = .ok (.aload_n 1, 1) := by decide +kernel
theorem dX5_place_130 : decode cX5_place 130 = .ok (.aload_n 2, 1) := by decide +kernel
theorem dX5_place_131 : decode cX5_place 131 = .ok (.aload_n 1, 1) := by decide +kernel
theorem dX5_place_132 : decode cX5_place 132 = .ok (.iload_n 3, 1) := by decide +kernel
theorem dX5_place_133 : decode cX5_place 133 = .ok (.iload 7, 2) := by decide +kernel
theorem dX5_place_135 : decode cX5_place 135 = .ok (.iload 9, 2) := by decide +kernel
theorem dX5_place_137 : decode cX5_place 137 = .ok (.aload_n 2, 1) := by decide +kernel
theorem dX5_place_138 : decode cX5_place 138 = .ok (.invokevirtual 81, 3) := by decide +kernel
theorem dX5_place_141 : decode cX5_place 141 = .ok (.iload 4, 2) := by decide +kernel
theorem dX5_place_143 : decode cX5_place 143 = .ok (.iconst 1, 1) := by decide +kernel
theorem dX5_place_144 : decode cX5_place 144 = .ok (.iadd, 1) := by decide +kernel
theorem dX5_place_145 : decode cX5_place 145 = .ok (.iload 8, 2) := by decide +kernel
theorem dX5_place_147 : decode cX5_place 147 = .ok (.invokevirtual 54, 3) := by decide +kernel
theorem dX5_place_150 : decode cX5_place 150 = .ok (.iinc 9 1, 3) := by decide +kernel
theorem dX5_place_153 : decode cX5_place 153 = .ok (.goto (-37), 3) := by decide +kernel
theorem dX5_place_156 : decode cX5_place 156 = .ok (.aload_n 0, 1) := by decide +kernel
theorem dX5_place_157 : decode cX5_place 157 = .ok (.getfield 18, 3) := by decide +kernel
theorem dX5_place_160 : decode cX5_place 160 = .ok (.iload 6, 2) := by decide +kernel
theorem dX5_place_162 : decode cX5_place 162 = .ok (.aload_n 0, 1) := by decide +kernel
theorem dX5_place_163 : decode cX5_place 163 = .ok (.getfield 33, 3) := by decide +kernel
theorem dX5_place_166 : decode cX5_place 166 = .ok (.iload 6, 2) := by decide +kernel
theorem dX5_place_168 : decode cX5_place 168 = .ok (.isub, 1) := by decide +kernel
theorem dX5_place_169 : decode cX5_place 169 = .ok (.iastore, 1) := by decide +kernel
theorem dX5_place_170 : decode cX5_place 170 = .ok (.return_, 1) := by decide +kernel
theorem dX5_branch_0 : decode cX5_branch 0 = .ok (.iload_n 1, 1) := by decide +kernel
theorem dX5_branch_1 : decode cX5_branch 1 = .ok (.iconst 1, 1) := by decide +kernel
theorem dX5_branch_2 : decode cX5_branch 2 = .ok (.iadd, 1) := by decide +kernel
theorem dX5_branch_3 : decode cX5_branch 3 = .ok (.istore_n 3, 1) := by decide +kernel
theorem dX5_branch_4 : decode cX5_branch 4 = .ok (.iconst 0, 1) := by decide +kernel
theorem dX5_branch_5 : decode cX5_branch 5 = .ok (.istore 4, 2) := by decide +kernel
theorem dX5_branch_7 : decode cX5_branch 7 = .ok (.iload 4, 2) := by decide +kernel
theorem dX5_branch_9 : decode cX5_branch 9 = .ok (.iload_n 2, 1) := by decide +kernel
theorem dX5_branch_10 : decode cX5_branch 10 = .ok (.if_icmp .ge 26, 3) := by decide +kernel
theorem dX5_branch_13 : decode cX5_branch 13 = .ok (.iload_n 3, 1) := by decide +kernel
theorem dX5_branch_14 : decode cX5_branch 14 = .ok (.aload_n 0, 1) := by decide +kernel
theorem dX5_branch_15 : decode cX5_branch 15 = .ok (.getfield 33, 3) := by decide +kernel
theorem dX5_branch_18 : decode cX5_branch 18 = .ok (.if_icmp .ge 18, 3) := by decide +kernel
theorem dX5_branch_21 : decode cX5_branch 21 = .ok (.iload_n 3, 1) := by decide +kernel
theorem dX5_branch_22 : decode cX5_branch 22 = .ok (.aload_n 0, 1) := by decide +kernel
theorem dX5_branch_23 : decode cX5_branch 23 = .ok (.getfield 18, 3) := by decide +kernel
theorem dX5_branch_26 : decode cX5_branch 26 = .ok (.iload_n 3, 1) := by decide +kernel
theorem dX5_branch_27 : decode cX5_branch 27 = .ok (.iaload, 1) := by decide +kernel
theorem dX5_branch_28 : decode cX5_branch 28 = .ok (.iadd, 1) := by decide +kernel
theorem dX5_branch_29 : decode cX5_branch 29 = .ok (.istore_n 3, 1) := by decide +kernel
theorem dX5_branch_30 : decode cX5_branch 30 = .ok (.iinc 4 1, 3) := by decide +kernel
theorem dX5_branch_33 : decode cX5_branch 33 = .ok (.goto (-26), 3) := by decide +kernel
theorem dX5_branch_36 : decode cX5_branch 36 = .ok (.iload_n 3, 1) := by decide +kernel
theorem dX5_branch_37 : decode cX5_branch 37 = .ok (.ireturn, 1) := by decide +kernel
set_option maxRecDepth 20000 in
theorem ggX5_leafFor_X5_hasNode : GoodIn wsX5_leafFor wsX5_hasNode := goodIn_r _ [6, 7, 25, 26, 27, 28, 29, 30, 31, 32, 33, 34, 35] (by decide +kernel) (by decide +kernel)
set_option maxRecDepth 20000 in
theorem gX5_leafFor_X5_hasNode : GoodIn wsX5_leafFor (wsV RX5 85 RX5 yX5_hasNode wsX5_hasNode) := goodIn_app (goodIn_of _ (by decide +kernel)) ggX5_leafFor_X5_hasNode
set_option maxRecDepth 20000 in
theorem ggX5_leafFor_X4_digitOf : GoodIn wsX5_leafFor wsX4_digitOf := goodIn_r _ [12, 13, 14, 15, 16, 17, 18, 19, 36, 37, 38, 39, 40, 41, 42, 43, 44, 45, 46] (by decide +kernel) (by decide +kernel)
set_option maxRecDepth 20000 in
theorem gX5_leafFor_X4_digitOf : GoodIn wsX5_leafFor (wsV RX5 89 RX4 yX4_digitOf wsX4_digitOf) := goodIn_app (goodIn_of _ (by decide +kernel)) ggX5_leafFor_X4_digitOf
set_option maxRecDepth 20000 in
theorem ggX5_leafFor_X5_branch : GoodIn wsX5_leafFor wsX5_branch := goodIn_r _ [23, 7, 24, 25, 26, 27, 28, 29, 30, 31, 32, 33, 34, 35] (by decide +kernel) (by decide +kernel)
set_option maxRecDepth 20000 in
theorem gX5_leafFor_X5_branch : GoodIn wsX5_leafFor (wsV RX5 92 RX5 yX5_branch wsX5_branch) := goodIn_app (goodIn_of _ (by decide +kernel)) ggX5_leafFor_X5_branch
theorem dX5_leafFor_0 : decode cX5_leafFor 0 = .ok (.iconst 0, 1) := by decide +kernel
theorem dX5_leafFor_1 : decode cX5_leafFor 1 = .ok (.istore_n 3, 1) := by decide +kernel
theorem dX5_leafFor_2 : decode cX5_leafFor 2 = .ok (.iconst 0, 1) := by decide +kernel
theorem dX5_leafFor_3 : decode cX5_leafFor 3 = .ok (.istore 4, 2) := by decide +kernel
theorem dX5_leafFor_5 : decode cX5_leafFor 5 = .ok (.iload 4, 2) := by decide +kernel
theorem dX5_leafFor_7 : decode cX5_leafFor 7 = .ok (.iconst 4, 1) := by decide +kernel
theorem dX5_leafFor_8 : decode cX5_leafFor 8 = .ok (.if_icmp .ge 47, 3) := by decide +kernel
theorem dX5_leafFor_11 : decode cX5_leafFor 11 = .ok (.aload_n 0, 1) := by decide +kernel
theorem dX5_leafFor_12 : decode cX5_leafFor 12 = .ok (.iload_n 3, 1) := by decide +kernel
theorem dX5_leafFor_13 : decode cX5_leafFor 13 = .ok (.invokevirtual 85, 3) := by decide +kernel
theorem dX5_leafFor_16 : decode cX5_leafFor 16 = .ok (.ifCond .eq 39, 3) := by decide +kernel
theorem dX5_leafFor_19 : decode cX5_leafFor 19 = .ok (.aload_n 0, 1) := by decide +kernel
theorem dX5_leafFor_20 : decode cX5_leafFor 20 = .ok (.getfield 9, 3) := by decide +kernel
theorem dX5_leafFor_23 : decode cX5_leafFor 23 = .ok (.iload_n 3, 1) := by decide +kernel
theorem dX5_leafFor_24 : decode cX5_leafFor 24 = .ok (.iaload, 1) := by decide +kernel
theorem dX5_leafFor_25 : decode cX5_leafFor 25 = .ok (.iconst (-1), 1) := by decide +kernel
theorem dX5_leafFor_26 : decode cX5_leafFor 26 = .ok (.if_icmp .ne 6, 3) := by decide +kernel
theorem dX5_leafFor_29 : decode cX5_leafFor 29 = .ok (.goto 26, 3) := by decide +kernel
theorem dX5_leafFor_32 : decode cX5_leafFor 32 = .ok (.aload_n 0, 1) := by decide +kernel
theorem dX5_leafFor_33 : decode cX5_leafFor 33 = .ok (.iload_n 3, 1) := by decide +kernel
theorem dX5_leafFor_34 : decode cX5_leafFor 34 = .ok (.aload_n 2, 1) := by decide +kernel
theorem dX5_leafFor_35 : decode cX5_leafFor 35 = .ok (.iload_n 1, 1) := by decide +kernel
theorem dX5_leafFor_36 : decode cX5_leafFor 36 = .ok (.aload_n 0, 1) := by decide +kernel
theorem dX5_leafFor_37 : decode cX5_leafFor 37 = .ok (.getfield 9, 3) := by decide +kernel
theorem dX5_leafFor_40 : decode cX5_leafFor 40 = .ok (.iload_n 3, 1) := by decide +kernel
theorem dX5_leafFor_41 : decode cX5_leafFor 41 = .ok (.iaload, 1) := by decide +kernel
theorem dX5_leafFor_42 : decode cX5_leafFor 42 = .ok (.invokevirtual 89, 3) := by decide +kernel
theorem dX5_leafFor_45 : decode cX5_leafFor 45 = .ok (.invokevirtual 92, 3) := by decide +kernel
theorem dX5_leafFor_48 : decode cX5_leafFor 48 = .ok (.istore_n 3, 1) := by decide +kernel
theorem dX5_leafFor_49 : decode cX5_leafFor 49 = .ok (.iinc 4 1, 3) := by decide +kernel
theorem dX5_leafFor_52 : decode cX5_leafFor 52 = .ok (.goto (-47), 3) := by decide +kernel
theorem dX5_leafFor_55 : decode cX5_leafFor 55 = .ok (.iload_n 3, 1) := by decide +kernel
theorem dX5_leafFor_56 : decode cX5_leafFor 56 = .ok (.ireturn, 1) := by decide +kernel
set_option maxRecDepth 20000 in
theorem ggX5_share_J7_fill_53178 : GoodIn wsX5_share wsJ7_fill_53178 := goodIn_r _ [11] (by decide +kernel) (by decide +kernel)
set_option maxRecDepth 20000 in
theorem gX5_share_J7_fill_53178 : GoodIn wsX5_share (va_wsS RX5 98 yJ7_fill_53178 wsJ7_fill_53178) := goodIn_app (goodIn_of _ (by decide +kernel)) ggX5_share_J7_fill_53178
set_option maxRecDepth 20000 in
theorem ggX5_share_X5_equalTest : GoodIn wsX5_share wsX5_equalTest := goodIn_r _ [16, 1, 7, 17, 18, 19, 15, 20, 4, 21, 22, 6, 23, 24, 25, 26, 3, 27, 28, 29, 30, 31, 32, 33, 34, 35, 36, 37, 38, 39, 40, 41, 42, 43, 44, 45, 46, 47, 48] (by decide +kernel) (by decide +kernel)
set_option maxRecDepth 20000 in
theorem gX5_share_X5_equalTest : GoodIn wsX5_share (wsV RX5 104 RX5 yX5_equalTest wsX5_equalTest) := goodIn_app (goodIn_of _ (by decide +kernel)) ggX5_share_X5_equalTest
theorem dX5_share_0 : decode cX5_share 0 = .ok (.aload_n 0, 1) := by decide +kernel
theorem dX5_share_1 : decode cX5_share 1 = .ok (.iconst 0, 1) := by decide +kernel
theorem dX5_share_2 : decode cX5_share 2 = .ok (.putfield 95, 3) := by decide +kernel
theorem dX5_share_5 : decode cX5_share 5 = .ok (.aload_n 0, 1) := by decide +kernel
theorem dX5_share_6 : decode cX5_share 6 = .ok (.getfield 30, 3) := by decide +kernel
theorem dX5_share_9 : decode cX5_share 9 = .ok (.iconst (-1), 1) := by decide +kernel
theorem dX5_share_10 : decode cX5_share 10 = .ok (.invokestatic 98, 3) := by decide +kernel
theorem dX5_share_13 : decode cX5_share 13 = .ok (.aload_n 0, 1) := by decide +kernel
theorem dX5_share_14 : decode cX5_share 14 = .ok (.getfield 33, 3) := by decide +kernel
theorem dX5_share_17 : decode cX5_share 17 = .ok (.iconst 1, 1) := by decide +kernel
theorem dX5_share_18 : decode cX5_share 18 = .ok (.isub, 1) := by decide +kernel
theorem dX5_share_19 : decode cX5_share 19 = .ok (.istore_n 2, 1) := by decide +kernel
theorem dX5_share_20 : decode cX5_share 20 = .ok (.iload_n 2, 1) := by decide +kernel
theorem dX5_share_21 : decode cX5_share 21 = .ok (.ifCond .lt 99, 3) := by decide +kernel
theorem dX5_share_24 : decode cX5_share 24 = .ok (.aload_n 0, 1) := by decide +kernel
theorem dX5_share_25 : decode cX5_share 25 = .ok (.getfield 9, 3) := by decide +kernel
theorem dX5_share_28 : decode cX5_share 28 = .ok (.iload_n 2, 1) := by decide +kernel
theorem dX5_share_29 : decode cX5_share 29 = .ok (.iaload, 1) := by decide +kernel
theorem dX5_share_30 : decode cX5_share 30 = .ok (.iconst (-1), 1) := by decide +kernel
theorem dX5_share_31 : decode cX5_share 31 = .ok (.if_icmp .ne 19, 3) := by decide +kernel
theorem dX5_share_34 : decode cX5_share 34 = .ok (.aload_n 0, 1) := by decide +kernel
theorem dX5_share_35 : decode cX5_share 35 = .ok (.getfield 30, 3) := by decide +kernel
theorem dX5_share_38 : decode cX5_share 38 = .ok (.aload_n 0, 1) := by decide +kernel
theorem dX5_share_39 : decode cX5_share 39 = .ok (.getfield 15, 3) := by decide +kernel
theorem dX5_share_42 : decode cX5_share 42 = .ok (.iload_n 2, 1) := by decide +kernel
theorem dX5_share_43 : decode cX5_share 43 = .ok (.iaload, 1) := by decide +kernel
theorem dX5_share_44 : decode cX5_share 44 = .ok (.iconst 1, 1) := by decide +kernel
theorem dX5_share_45 : decode cX5_share 45 = .ok (.iadd, 1) := by decide +kernel
theorem dX5_share_46 : decode cX5_share 46 = .ok (.iaload, 1) := by decide +kernel
theorem dX5_share_47 : decode cX5_share 47 = .ok (.goto 9, 3) := by decide +kernel
theorem dX5_share_50 : decode cX5_share 50 = .ok (.aload_n 0, 1) := by decide +kernel
theorem dX5_share_51 : decode cX5_share 51 = .ok (.iload_n 2, 1) := by decide +kernel
theorem dX5_share_52 : decode cX5_share 52 = .ok (.aload_n 1, 1) := by decide +kernel
theorem dX5_share_53 : decode cX5_share 53 = .ok (.invokevirtual 104, 3) := by decide +kernel
theorem dX5_share_56 : decode cX5_share 56 = .ok (.istore_n 3, 1) := by decide +kernel
theorem dX5_share_57 : decode cX5_share 57 = .ok (.iload_n 3, 1) := by decide +kernel
theorem dX5_share_58 : decode cX5_share 58 = .ok (.ifCond .ge 18, 3) := by decide +kernel
theorem dX5_share_61 : decode cX5_share 61 = .ok (.aload_n 0, 1) := by decide +kernel
theorem dX5_share_62 : decode cX5_share 62 = .ok (.getfield 95, 3) := by decide +kernel
theorem dX5_share_65 : decode cX5_share 65 = .ok (.istore_n 3, 1) := by decide +kernel
theorem dX5_share_66 : decode cX5_share 66 = .ok (.aload_n 0, 1) := by decide +kernel
theorem dX5_share_67 : decode cX5_share 67 = .ok (.dup, 1) := by decide +kernel
theorem dX5_share_68 : decode cX5_share 68 = .ok (.getfield 95, 3) := by decide +kernel
theorem dX5_share_71 : decode cX5_share 71 = .ok (.iconst 1, 1) := by decide +kernel
theorem dX5_share_72 : decode cX5_share 72 = .ok (.iadd, 1) := by decide +kernel
theorem dX5_share_73 : decode cX5_share 73 = .ok (.putfield 95, 3) := by decide +kernel
theorem dX5_share_76 : decode cX5_share 76 = .ok (.aload_n 0, 1) := by decide +kernel
theorem dX5_share_77 : decode cX5_share 77 = .ok (.getfield 9, 3) := by decide +kernel
theorem dX5_share_80 : decode cX5_share 80 = .ok (.iload_n 2, 1) := by decide +kernel
theorem dX5_share_81 : decode cX5_share 81 = .ok (.iaload, 1) := by decide +kernel
theorem dX5_share_82 : decode cX5_share 82 = .ok (.iconst (-1), 1) := by decide +kernel
theorem dX5_share_83 : decode cX5_share 83 = .ok (.if_icmp .ne 17, 3) := by decide +kernel
theorem dX5_share_86 : decode cX5_share 86 = .ok (.aload_n 0, 1) := by decide +kernel
theorem dX5_share_87 : decode cX5_share 87 = .ok (.getfield 30, 3) := by decide +kernel
theorem dX5_share_90 : decode cX5_share 90 = .ok (.aload_n 0, 1) := by decide +kernel
theorem dX5_share_91 : decode cX5_share 91 = .ok (.getfield 15, 3) := by decide +kernel
theorem dX5_share_94 : decode cX5_share 94 = .ok (.iload_n 2, 1) := by decide +kernel
theorem dX5_share_95 : decode cX5_share 95 = .ok (.iaload, 1) := by decide +kernel
theorem dX5_share_96 : decode cX5_share 96 = .ok (.iconst 1, 1) := by decide +kernel
theorem dX5_share_97 : decode cX5_share 97 = .ok (.iadd, 1) := by decide +kernel
theorem dX5_share_98 : decode cX5_share 98 = .ok (.iload_n 3, 1) := by decide +kernel
theorem dX5_share_99 : decode cX5_share 99 = .ok (.iastore, 1) := by decide +kernel
theorem dX5_share_100 : decode cX5_share 100 = .ok (.aload_n 0, 1) := by decide +kernel
theorem dX5_share_101 : decode cX5_share 101 = .ok (.getfield 24, 3) := by decide +kernel
theorem dX5_share_104 : decode cX5_share 104 = .ok (.iload_n 2, 1) := by decide +kernel
theorem dX5_share_105 : decode cX5_share 105 = .ok (.iload_n 3, 1) := by decide +kernel
theorem dX5_share_106 : decode cX5_share 106 = .ok (.iastore, 1) := by decide +kernel
theorem dX5_share_107 : decode cX5_share 107 = .ok (.aload_n 0, 1) := by decide +kernel
theorem dX5_share_108 : decode cX5_share 108 = .ok (.getfield 27, 3) := by decide +kernel
theorem dX5_share_111 : decode cX5_share 111 = .ok (.iload_n 3, 1) := by decide +kernel
theorem dX5_share_112 : decode cX5_share 112 = .ok (.iload_n 2, 1) := by decide +kernel
theorem dX5_share_113 : decode cX5_share 113 = .ok (.iastore, 1) := by decide +kernel
theorem dX5_share_114 : decode cX5_share 114 = .ok (.iinc 2 (-1), 3) := by decide +kernel
theorem dX5_share_117 : decode cX5_share 117 = .ok (.goto (-97), 3) := by decide +kernel
theorem dX5_share_120 : decode cX5_share 120 = .ok (.return_, 1) := by decide +kernel
set_option maxRecDepth 20000 in
theorem ggX5_equalTest_X5_sameTest : GoodIn wsX5_equalTest wsX5_sameTest := goodIn_r _ [7, 8, 9, 10, 11, 12, 13, 14, 6, 15, 16, 17, 18, 19, 20, 21, 22, 23, 24, 25, 26, 27, 28, 29, 30, 31, 32, 33, 34, 35, 36, 37, 38] (by decide +kernel) (by decide +kernel)
set_option maxRecDepth 20000 in
theorem gX5_equalTest_X5_sameTest : GoodIn wsX5_equalTest (wsV RX5 107 RX5 yX5_sameTest wsX5_sameTest) := goodIn_app (goodIn_of _ (by decide +kernel)) ggX5_equalTest_X5_sameTest
theorem dX5_equalTest_0 : decode cX5_equalTest 0 = .ok (.iconst 0, 1) := by decide +kernel
theorem dX5_equalTest_1 : decode cX5_equalTest 1 = .ok (.istore_n 3, 1) := by decide +kernel
theorem dX5_equalTest_2 : decode cX5_equalTest 2 = .ok (.iload_n 3, 1) := by decide +kernel
theorem dX5_equalTest_3 : decode cX5_equalTest 3 = .ok (.aload_n 0, 1) := by decide +kernel
theorem dX5_equalTest_4 : decode cX5_equalTest 4 = .ok (.getfield 95, 3) := by decide +kernel
theorem dX5_equalTest_7 : decode cX5_equalTest 7 = .ok (.if_icmp .ge 26, 3) := by decide +kernel
theorem dX5_equalTest_10 : decode cX5_equalTest 10 = .ok (.aload_n 0, 1) := by decide +kernel
theorem dX5_equalTest_11 : decode cX5_equalTest 11 = .ok (.iload_n 1, 1) := by decide +kernel
theorem dX5_equalTest_12 : decode cX5_equalTest 12 = .ok (.aload_n 0, 1) := by decide +kernel
theorem dX5_equalTest_13 : decode cX5_equalTest 13 = .ok (.getfield 27, 3) := by decide +kernel
theorem dX5_equalTest_16 : decode cX5_equalTest 16 = .ok (.iload_n 3, 1) := by decide +kernel
theorem dX5_equalTest_17 : decode cX5_equalTest 17 = .ok (.iaload, 1) := by decide +kernel
theorem dX5_equalTest_18 : decode cX5_equalTest 18 = .ok (.aload_n 2, 1) := by decide +kernel
theorem dX5_equalTest_19 : decode cX5_equalTest 19 = .ok (.invokevirtual 107, 3) := by decide +kernel
theorem dX5_equalTest_22 : decode cX5_equalTest 22 = .ok (.ifCond .eq 5, 3) := by decide +kernel
theorem dX5_equalTest_25 : decode cX5_equalTest 25 = .ok (.iload_n 3, 1) := by decide +kernel
theorem dX5_equalTest_26 : decode cX5_equalTest 26 = .ok (.ireturn, 1) := by decide +kernel
theorem dX5_equalTest_27 : decode cX5_equalTest 27 = .ok (.iinc 3 1, 3) := by decide +kernel
theorem dX5_equalTest_30 : decode cX5_equalTest 30 = .ok (.goto (-28), 3) := by decide +kernel
theorem dX5_equalTest_33 : decode cX5_equalTest 33 = .ok (.iconst (-1), 1) := by decide +kernel
theorem dX5_equalTest_34 : decode cX5_equalTest 34 = .ok (.ireturn, 1) := by decide +kernel
set_option maxRecDepth 20000 in
theorem ggX5_sameTest_X5_hasNode : GoodIn wsX5_sameTest wsX5_hasNode := goodIn_r _ [9, 10, 11, 12, 13, 14, 15, 16, 17, 18, 19, 20, 21] (by decide +kernel) (by decide +kernel)
set_option maxRecDepth 20000 in
theorem gX5_sameTest_X5_hasNode : GoodIn wsX5_sameTest (wsV RX5 85 RX5 yX5_hasNode wsX5_hasNode) := goodIn_app (goodIn_of _ (by decide +kernel)) ggX5_sameTest_X5_hasNode
theorem dX5_sameTest_0 : decode cX5_sameTest 0 = .ok (.aload_n 0, 1) := by decide +kernel
theorem dX5_sameTest_1 : decode cX5_sameTest 1 = .ok (.getfield 9, 3) := by decide +kernel
theorem dX5_sameTest_4 : decode cX5_sameTest 4 = .ok (.iload_n 1, 1) := by decide +kernel
theorem dX5_sameTest_5 : decode cX5_sameTest 5 = .ok (.iaload, 1) := by decide +kernel
theorem dX5_sameTest_6 : decode cX5_sameTest 6 = .ok (.aload_n 0, 1) := by decide +kernel
theorem dX5_sameTest_7 : decode cX5_sameTest 7 = .ok (.getfield 9, 3) := by decide +kernel
theorem dX5_sameTest_10 : decode cX5_sameTest 10 = .ok (.iload_n 2, 1) := by decide +kernel
theorem dX5_sameTest_11 : decode cX5_sameTest 11 = .ok (.iaload, 1) := by decide +kernel
theorem dX5_sameTest_12 : decode cX5_sameTest 12 = .ok (.if_icmp .ne 18, 3) := by decide +kernel
theorem dX5_sameTest_15 : decode cX5_sameTest 15 = .ok (.aload_n 0, 1) := by decide +kernel
theorem dX5_sameTest_16 : decode cX5_sameTest 16 = .ok (.getfield 18, 3) := by decide +kernel
theorem dX5_sameTest_19 : decode cX5_sameTest 19 = .ok (.iload_n 1, 1) := by decide +kernel
theorem dX5_sameTest_20 : decode cX5_sameTest 20 = .ok (.iaload, 1) := by decide +kernel
theorem dX5_sameTest_21 : decode cX5_sameTest 21 = .ok (.aload_n 0, 1) := by decide +kernel
theorem dX5_sameTest_22 : decode cX5_sameTest 22 = .ok (.getfield 18, 3) := by decide +kernel
theorem dX5_sameTest_25 : decode cX5_sameTest 25 = .ok (.iload_n 2, 1) := by decide +kernel
theorem dX5_sameTest_26 : decode cX5_sameTest 26 = .ok (.iaload, 1) := by decide +kernel
theorem dX5_sameTest_27 : decode cX5_sameTest 27 = .ok (.if_icmp .eq 5, 3) := by decide +kernel
theorem dX5_sameTest_30 : decode cX5_sameTest 30 = .ok (.iconst 0, 1) := by decide +kernel
theorem dX5_sameTest_31 : decode cX5_sameTest 31 = .ok (.ireturn, 1) := by decide +kernel
theorem dX5_sameTest_32 : decode cX5_sameTest 32 = .ok (.iload_n 1, 1) := by decide +kernel
theorem dX5_sameTest_33 : decode cX5_sameTest 33 = .ok (.iconst 1, 1) := by decide +kernel
theorem dX5_sameTest_34 : decode cX5_sameTest 34 = .ok (.iadd, 1) := by decide +kernel
theorem dX5_sameTest_35 : decode cX5_sameTest 35 = .ok (.istore 4, 2) := by decide +kernel
theorem dX5_sameTest_37 : decode cX5_sameTest 37 = .ok (.iload_n 2, 1) := by decide +kernel
theorem dX5_sameTest_38 : decode cX5_sameTest 38 = .ok (.iconst 1, 1) := by decide +kernel
theorem dX5_sameTest_39 : decode cX5_sameTest 39 = .ok (.iadd, 1) := by decide +kernel
theorem dX5_sameTest_40 : decode cX5_sameTest 40 = .ok (.istore 5, 2) := by decide +kernel
theorem dX5_sameTest_42 : decode cX5_sameTest 42 = .ok (.iconst 0, 1) := by decide +kernel
theorem dX5_sameTest_43 : decode cX5_sameTest 43 = .ok (.istore 6, 2) := by decide +kernel
theorem dX5_sameTest_45 : decode cX5_sameTest 45 = .ok (.iload 6, 2) := by decide +kernel
theorem dX5_sameTest_47 : decode cX5_sameTest 47 = .ok (.aload_n 3, 1) := by decide +kernel
theorem dX5_sameTest_48 : decode cX5_sameTest 48 = .ok (.getfield 78, 3) := by decide +kernel
theorem dX5_sameTest_51 : decode cX5_sameTest 51 = .ok (.aload_n 0, 1) := by decide +kernel
theorem dX5_sameTest_52 : decode cX5_sameTest 52 = .ok (.getfield 9, 3) := by decide +kernel
theorem dX5_sameTest_55 : decode cX5_sameTest 55 = .ok (.iload_n 1, 1) := by decide +kernel
theorem dX5_sameTest_56 : decode cX5_sameTest 56 = .ok (.iaload, 1) := by decide +kernel
theorem dX5_sameTest_57 : decode cX5_sameTest 57 = .ok (.iaload, 1) := by decide +kernel
theorem dX5_sameTest_58 : decode cX5_sameTest 58 = .ok (.if_icmp .ge 70, 3) := by decide +kernel
theorem dX5_sameTest_61 : decode cX5_sameTest 61 = .ok (.aload_n 0, 1) := by decide +kernel
theorem dX5_sameTest_62 : decode cX5_sameTest 62 = .ok (.iload 4, 2) := by decide +kernel
theorem dX5_sameTest_64 : decode cX5_sameTest 64 = .ok (.invokevirtual 85, 3) := by decide +kernel
theorem dX5_sameTest_67 : decode cX5_sameTest 67 = .ok (.ifCond .eq 29, 3) := by decide +kernel
theorem dX5_sameTest_70 : decode cX5_sameTest 70 = .ok (.aload_n 0, 1) := by decide +kernel
theorem dX5_sameTest_71 : decode cX5_sameTest 71 = .ok (.iload 5, 2) := by decide +kernel
theorem dX5_sameTest_73 : decode cX5_sameTest 73 = .ok (.invokevirtual 85, 3) := by decide +kernel
theorem dX5_sameTest_76 : decode cX5_sameTest 76 = .ok (.ifCond .eq 20, 3) := by decide +kernel
theorem dX5_sameTest_79 : decode cX5_sameTest 79 = .ok (.aload_n 0, 1) := by decide +kernel
theorem dX5_sameTest_80 : decode cX5_sameTest 80 = .ok (.getfield 24, 3) := by decide +kernel
theorem dX5_sameTest_83 : decode cX5_sameTest 83 = .ok (.iload 4, 2) := by decide +kernel
theorem dX5_sameTest_85 : decode cX5_sameTest 85 = .ok (.iaload, 1) := by decide +kernel
theorem dX5_sameTest_86 : decode cX5_sameTest 86 = .ok (.aload_n 0, 1) := by decide +kernel
theorem dX5_sameTest_87 : decode cX5_sameTest 87 = .ok (.getfield 24, 3) := by decide +kernel
theorem dX5_sameTest_90 : decode cX5_sameTest 90 = .ok (.iload 5, 2) := by decide +kernel
theorem dX5_sameTest_92 : decode cX5_sameTest 92 = .ok (.iaload, 1) := by decide +kernel
theorem dX5_sameTest_93 : decode cX5_sameTest 93 = .ok (.if_icmp .eq 5, 3) := by decide +kernel
theorem dX5_sameTest_96 : decode cX5_sameTest 96 = .ok (.iconst 0, 1) := by decide +kernel
theorem dX5_sameTest_97 : decode cX5_sameTest 97 = .ok (.ireturn, 1) := by decide +kernel
theorem dX5_sameTest_98 : decode cX5_sameTest 98 = .ok (.iload 4, 2) := by decide +kernel
theorem dX5_sameTest_100 : decode cX5_sameTest 100 = .ok (.aload_n 0, 1) := by decide +kernel
theorem dX5_sameTest_101 : decode cX5_sameTest 101 = .ok (.getfield 18, 3) := by decide +kernel
theorem dX5_sameTest_104 : decode cX5_sameTest 104 = .ok (.iload 4, 2) := by decide +kernel
theorem dX5_sameTest_106 : decode cX5_sameTest 106 = .ok (.iaload, 1) := by decide +kernel
theorem dX5_sameTest_107 : decode cX5_sameTest 107 = .ok (.iadd, 1) := by decide +kernel
theorem dX5_sameTest_108 : decode cX5_sameTest 108 = .ok (.istore 4, 2) := by decide +kernel
theorem dX5_sameTest_110 : decode cX5_sameTest 110 = .ok (.iload 5, 2) := by decide +kernel
theorem dX5_sameTest_112 : decode cX5_sameTest 112 = .ok (.aload_n 0, 1) := by decide +kernel
theorem dX5_sameTest_113 : decode cX5_sameTest 113 = .ok (.getfield 18, 3) := by decide +kernel
theorem dX5_sameTest_116 : decode cX5_sameTest 116 = .ok (.iload 5, 2) := by decide +kernel
theorem dX5_sameTest_118 : decode cX5_sameTest 118 = .ok (.iaload, 1) := by decide +kernel
theorem dX5_sameTest_119 : decode cX5_sameTest 119 = .ok (.iadd, 1) := by decide +kernel
theorem dX5_sameTest_120 : decode cX5_sameTest 120 = .ok (.istore 5, 2) := by decide +kernel
theorem dX5_sameTest_122 : decode cX5_sameTest 122 = .ok (.iinc 6 1, 3) := by decide +kernel
theorem dX5_sameTest_125 : decode cX5_sameTest 125 = .ok (.goto (-80), 3) := by decide +kernel
theorem dX5_sameTest_128 : decode cX5_sameTest 128 = .ok (.iconst 1, 1) := by decide +kernel
theorem dX5_sameTest_129 : decode cX5_sameTest 129 = .ok (.ireturn, 1) := by decide +kernel
