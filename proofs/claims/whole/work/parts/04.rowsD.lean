set_option maxRecDepth 20000 in
theorem ggX6_init_X4_init : GoodIn wsX6_init wsX4_init := goodIn_r _ [32, 33, 2, 3, 34, 35, 36, 37, 38, 39, 40, 41, 85, 86, 87, 88, 89, 90, 91, 92, 93, 94, 95] (by decide +kernel) (by decide +kernel)
set_option maxRecDepth 20000 in
theorem gX6_init_X4_init_n11 : GoodIn wsX6_init (wsX4_init) := ggX6_init_X4_init
set_option maxRecDepth 20000 in
theorem ggX6_init_X0_init : GoodIn wsX6_init wsX0_init := goodIn_r _ [43, 44, 2, 3, 45, 46, 105, 106] (by decide +kernel) (by decide +kernel)
set_option maxRecDepth 20000 in
theorem gX6_init_X0_init_n23 : GoodIn wsX6_init (wsX0_init) := ggX6_init_X0_init
set_option maxRecDepth 20000 in
theorem ggX6_init_X2_init : GoodIn wsX6_init wsX2_init := goodIn_r _ [48, 49, 2, 3, 34, 50, 107, 108, 109, 110] (by decide +kernel) (by decide +kernel)
set_option maxRecDepth 20000 in
theorem gX6_init_X2_init_n30 : GoodIn wsX6_init (wsX2_init) := ggX6_init_X2_init
set_option maxRecDepth 20000 in
theorem ggX6_init_X1_init : GoodIn wsX6_init wsX1_init := goodIn_r _ [52, 53, 2, 3, 34, 54, 55, 56, 57, 58, 111, 112, 113, 114, 115] (by decide +kernel) (by decide +kernel)
set_option maxRecDepth 20000 in
theorem gX6_init_X1_init_n37 : GoodIn wsX6_init (wsX1_init) := ggX6_init_X1_init
set_option maxRecDepth 20000 in
theorem ggX6_init_X5_init : GoodIn wsX6_init wsX5_init := goodIn_r _ [60, 61, 2, 3, 34, 62, 63, 64, 65, 66, 67, 68, 116, 117, 118, 119, 120, 121, 122, 123, 124, 125, 126] (by decide +kernel) (by decide +kernel)
set_option maxRecDepth 20000 in
theorem gX6_init_X5_init_n44 : GoodIn wsX6_init (wsX5_init) := ggX6_init_X5_init
set_option maxRecDepth 20000 in
theorem ggX6_init_X3_init : GoodIn wsX6_init wsX3_init := goodIn_r _ [70, 71, 2, 3, 57, 72, 127, 128, 129, 130] (by decide +kernel) (by decide +kernel)
set_option maxRecDepth 20000 in
theorem gX6_init_X3_init_n55 : GoodIn wsX6_init (wsX3_init) := ggX6_init_X3_init
set_option maxRecDepth 20000 in
theorem ggX6_init_X4_clearTo : GoodIn wsX6_init wsX4_clearTo := goodIn_r _ [76, 35, 77, 78, 36, 79, 80, 37, 38, 41, 81, 82, 83, 84, 85, 86, 87, 88, 89, 90, 91, 92, 93, 94, 95] (by decide +kernel) (by decide +kernel)
set_option maxRecDepth 20000 in
theorem gX6_init_X4_clearTo : GoodIn wsX6_init (wsV RX6 56 RX4 yX4_clearTo wsX4_clearTo) := goodIn_app (goodIn_of _ (by decide +kernel)) ggX6_init_X4_clearTo
theorem dX6_init_0 : decode cX6_init 0 = .ok (.aload_n 0, 1) := by decide +kernel
theorem dX6_init_1 : decode cX6_init 1 = .ok (.invokespecial 3, 3) := by decide +kernel
theorem dX6_init_4 : decode cX6_init 4 = .ok (.aload_n 0, 1) := by decide +kernel
theorem dX6_init_5 : decode cX6_init 5 = .ok (.new 9, 3) := by decide +kernel
theorem dX6_init_8 : decode cX6_init 8 = .ok (.dup, 1) := by decide +kernel
theorem dX6_init_9 : decode cX6_init 9 = .ok (.invokespecial 11, 3) := by decide +kernel
theorem dX6_init_12 : decode cX6_init 12 = .ok (.putfield 12, 3) := by decide +kernel
theorem dX6_init_15 : decode cX6_init 15 = .ok (.aload_n 0, 1) := by decide +kernel
theorem dX6_init_16 : decode cX6_init 16 = .ok (.new 9, 3) := by decide +kernel
theorem dX6_init_19 : decode cX6_init 19 = .ok (.dup, 1) := by decide +kernel
theorem dX6_init_20 : decode cX6_init 20 = .ok (.invokespecial 11, 3) := by decide +kernel
theorem dX6_init_23 : decode cX6_init 23 = .ok (.putfield 18, 3) := by decide +kernel
theorem dX6_init_26 : decode cX6_init 26 = .ok (.aload_n 0, 1) := by decide +kernel
theorem dX6_init_27 : decode cX6_init 27 = .ok (.new 21, 3) := by decide +kernel
theorem dX6_init_30 : decode cX6_init 30 = .ok (.dup, 1) := by decide +kernel
theorem dX6_init_31 : decode cX6_init 31 = .ok (.invokespecial 23, 3) := by decide +kernel
theorem dX6_init_34 : decode cX6_init 34 = .ok (.putfield 24, 3) := by decide +kernel
theorem dX6_init_37 : decode cX6_init 37 = .ok (.aload_n 0, 1) := by decide +kernel
theorem dX6_init_38 : decode cX6_init 38 = .ok (.new 28, 3) := by decide +kernel
theorem dX6_init_41 : decode cX6_init 41 = .ok (.dup, 1) := by decide +kernel
theorem dX6_init_42 : decode cX6_init 42 = .ok (.invokespecial 30, 3) := by decide +kernel
theorem dX6_init_45 : decode cX6_init 45 = .ok (.putfield 31, 3) := by decide +kernel
theorem dX6_init_48 : decode cX6_init 48 = .ok (.aload_n 0, 1) := by decide +kernel
theorem dX6_init_49 : decode cX6_init 49 = .ok (.new 35, 3) := by decide +kernel
theorem dX6_init_52 : decode cX6_init 52 = .ok (.dup, 1) := by decide +kernel
theorem dX6_init_53 : decode cX6_init 53 = .ok (.invokespecial 37, 3) := by decide +kernel
theorem dX6_init_56 : decode cX6_init 56 = .ok (.putfield 38, 3) := by decide +kernel
theorem dX6_init_59 : decode cX6_init 59 = .ok (.aload_n 0, 1) := by decide +kernel
theorem dX6_init_60 : decode cX6_init 60 = .ok (.new 42, 3) := by decide +kernel
theorem dX6_init_63 : decode cX6_init 63 = .ok (.dup, 1) := by decide +kernel
theorem dX6_init_64 : decode cX6_init 64 = .ok (.invokespecial 44, 3) := by decide +kernel
theorem dX6_init_67 : decode cX6_init 67 = .ok (.putfield 45, 3) := by decide +kernel
theorem dX6_init_70 : decode cX6_init 70 = .ok (.aload_n 0, 1) := by decide +kernel
theorem dX6_init_71 : decode cX6_init 71 = .ok (.iconst 4, 1) := by decide +kernel
theorem dX6_init_72 : decode cX6_init 72 = .ok (.anewarray 49, 3) := by decide +kernel
theorem dX6_init_75 : decode cX6_init 75 = .ok (.putfield 51, 3) := by decide +kernel
theorem dX6_init_78 : decode cX6_init 78 = .ok (.iconst 0, 1) := by decide +kernel
theorem dX6_init_79 : decode cX6_init 79 = .ok (.istore_n 1, 1) := by decide +kernel
theorem dX6_init_80 : decode cX6_init 80 = .ok (.iload_n 1, 1) := by decide +kernel
theorem dX6_init_81 : decode cX6_init 81 = .ok (.iconst 4, 1) := by decide +kernel
theorem dX6_init_82 : decode cX6_init 82 = .ok (.if_icmp .ge 22, 3) := by decide +kernel
theorem dX6_init_85 : decode cX6_init 85 = .ok (.aload_n 0, 1) := by decide +kernel
theorem dX6_init_86 : decode cX6_init 86 = .ok (.getfield 51, 3) := by decide +kernel
theorem dX6_init_89 : decode cX6_init 89 = .ok (.iload_n 1, 1) := by decide +kernel
theorem dX6_init_90 : decode cX6_init 90 = .ok (.new 49, 3) := by decide +kernel
theorem dX6_init_93 : decode cX6_init 93 = .ok (.dup, 1) := by decide +kernel
theorem dX6_init_94 : decode cX6_init 94 = .ok (.invokespecial 55, 3) := by decide +kernel
theorem dX6_init_97 : decode cX6_init 97 = .ok (.aastore, 1) := by decide +kernel
theorem dX6_init_98 : decode cX6_init 98 = .ok (.iinc 1 1, 3) := by decide +kernel
theorem dX6_init_101 : decode cX6_init 101 = .ok (.goto (-21), 3) := by decide +kernel
theorem dX6_init_104 : decode cX6_init 104 = .ok (.aload_n 0, 1) := by decide +kernel
theorem dX6_init_105 : decode cX6_init 105 = .ok (.getfield 12, 3) := by decide +kernel
theorem dX6_init_108 : decode cX6_init 108 = .ok (.iconst 2, 1) := by decide +kernel
theorem dX6_init_109 : decode cX6_init 109 = .ok (.iconst 2, 1) := by decide +kernel
theorem dX6_init_110 : decode cX6_init 110 = .ok (.iconst 0, 1) := by decide +kernel
theorem dX6_init_111 : decode cX6_init 111 = .ok (.iconst 0, 1) := by decide +kernel
theorem dX6_init_112 : decode cX6_init 112 = .ok (.invokevirtual 56, 3) := by decide +kernel
theorem dX6_init_115 : decode cX6_init 115 = .ok (.aload_n 0, 1) := by decide +kernel
theorem dX6_init_116 : decode cX6_init 116 = .ok (.getfield 18, 3) := by decide +kernel
theorem dX6_init_119 : decode cX6_init 119 = .ok (.iconst 2, 1) := by decide +kernel
theorem dX6_init_120 : decode cX6_init 120 = .ok (.iconst 2, 1) := by decide +kernel
theorem dX6_init_121 : decode cX6_init 121 = .ok (.iconst 0, 1) := by decide +kernel
theorem dX6_init_122 : decode cX6_init 122 = .ok (.iconst 0, 1) := by decide +kernel
theorem dX6_init_123 : decode cX6_init 123 = .ok (.invokevirtual 56, 3) := by decide +kernel
theorem dX6_init_126 : decode cX6_init 126 = .ok (.aload_n 0, 1) := by decide +kernel
theorem dX6_init_127 : decode cX6_init 127 = .ok (.iconst 0, 1) := by decide +kernel
theorem dX6_init_128 : decode cX6_init 128 = .ok (.putfield 60, 3) := by decide +kernel
theorem dX6_init_131 : decode cX6_init 131 = .ok (.aload_n 0, 1) := by decide +kernel
theorem dX6_init_132 : decode cX6_init 132 = .ok (.iconst 0, 1) := by decide +kernel
theorem dX6_init_133 : decode cX6_init 133 = .ok (.putfield 64, 3) := by decide +kernel
theorem dX6_init_136 : decode cX6_init 136 = .ok (.return_, 1) := by decide +kernel
set_option maxRecDepth 20000 in
theorem ggX6_reset_X6_isSize : GoodIn wsX6_reset wsX6_isSize := goodIn_r _ [7] (by decide +kernel) (by decide +kernel)
set_option maxRecDepth 20000 in
theorem gX6_reset_X6_isSize : GoodIn wsX6_reset (va_wsS RX6 67 yX6_isSize wsX6_isSize) := goodIn_app (goodIn_of _ (by decide +kernel)) ggX6_reset_X6_isSize
set_option maxRecDepth 20000 in
theorem ggX6_reset_X6_mayFollow : GoodIn wsX6_reset wsX6_mayFollow := goodIn_r _ [10, 4, 5, 6, 7] (by decide +kernel) (by decide +kernel)
set_option maxRecDepth 20000 in
theorem gX6_reset_X6_mayFollow : GoodIn wsX6_reset (va_wsS RX6 71 yX6_mayFollow wsX6_mayFollow) := goodIn_app (goodIn_of _ (by decide +kernel)) ggX6_reset_X6_mayFollow
set_option maxRecDepth 20000 in
theorem ggX6_reset_X4_clearTo : GoodIn wsX6_reset wsX4_clearTo := goodIn_r _ [15, 16, 17, 18, 19, 20, 21, 22, 23, 24, 25, 26, 27, 28, 38, 39, 40, 41, 42, 43, 44, 45, 46, 47, 48] (by decide +kernel) (by decide +kernel)
set_option maxRecDepth 20000 in
theorem gX6_reset_X4_clearTo : GoodIn wsX6_reset (wsV RX6 56 RX4 yX4_clearTo wsX4_clearTo) := goodIn_app (goodIn_of _ (by decide +kernel)) ggX6_reset_X4_clearTo
theorem dX6_reset_0 : decode cX6_reset 0 = .ok (.iload_n 1, 1) := by decide +kernel
theorem dX6_reset_1 : decode cX6_reset 1 = .ok (.invokestatic 67, 3) := by decide +kernel
theorem dX6_reset_4 : decode cX6_reset 4 = .ok (.ifCond .eq 32, 3) := by decide +kernel
theorem dX6_reset_7 : decode cX6_reset 7 = .ok (.iload_n 1, 1) := by decide +kernel
theorem dX6_reset_8 : decode cX6_reset 8 = .ok (.iload_n 2, 1) := by decide +kernel
theorem dX6_reset_9 : decode cX6_reset 9 = .ok (.invokestatic 71, 3) := by decide +kernel
theorem dX6_reset_12 : decode cX6_reset 12 = .ok (.ifCond .eq 24, 3) := by decide +kernel
theorem dX6_reset_15 : decode cX6_reset 15 = .ok (.iload_n 2, 1) := by decide +kernel
theorem dX6_reset_16 : decode cX6_reset 16 = .ok (.iload_n 3, 1) := by decide +kernel
theorem dX6_reset_17 : decode cX6_reset 17 = .ok (.invokestatic 71, 3) := by decide +kernel
theorem dX6_reset_20 : decode cX6_reset 20 = .ok (.ifCond .eq 16, 3) := by decide +kernel
theorem dX6_reset_23 : decode cX6_reset 23 = .ok (.iload_n 3, 1) := by decide +kernel
theorem dX6_reset_24 : decode cX6_reset 24 = .ok (.iload 4, 2) := by decide +kernel
theorem dX6_reset_26 : decode cX6_reset 26 = .ok (.invokestatic 71, 3) := by decide +kernel
theorem dX6_reset_29 : decode cX6_reset 29 = .ok (.ifCond .eq 7, 3) := by decide +kernel
theorem dX6_reset_32 : decode cX6_reset 32 = .ok (.iconst 1, 1) := by decide +kernel
theorem dX6_reset_33 : decode cX6_reset 33 = .ok (.goto 4, 3) := by decide +kernel
theorem dX6_reset_36 : decode cX6_reset 36 = .ok (.iconst 0, 1) := by decide +kernel
theorem dX6_reset_37 : decode cX6_reset 37 = .ok (.istore 5, 2) := by decide +kernel
theorem dX6_reset_39 : decode cX6_reset 39 = .ok (.iload 5, 2) := by decide +kernel
theorem dX6_reset_41 : decode cX6_reset 41 = .ok (.ifCond .ne 5, 3) := by decide +kernel
theorem dX6_reset_44 : decode cX6_reset 44 = .ok (.iconst (-1), 1) := by decide +kernel
theorem dX6_reset_45 : decode cX6_reset 45 = .ok (.ireturn, 1) := by decide +kernel
theorem dX6_reset_46 : decode cX6_reset 46 = .ok (.aload_n 0, 1) := by decide +kernel
theorem dX6_reset_47 : decode cX6_reset 47 = .ok (.getfield 12, 3) := by decide +kernel
theorem dX6_reset_50 : decode cX6_reset 50 = .ok (.iload_n 1, 1) := by decide +kernel
theorem dX6_reset_51 : decode cX6_reset 51 = .ok (.iload_n 2, 1) := by decide +kernel
theorem dX6_reset_52 : decode cX6_reset 52 = .ok (.iload_n 3, 1) := by decide +kernel
theorem dX6_reset_53 : decode cX6_reset 53 = .ok (.iload 4, 2) := by decide +kernel
theorem dX6_reset_55 : decode cX6_reset 55 = .ok (.invokevirtual 56, 3) := by decide +kernel
theorem dX6_reset_58 : decode cX6_reset 58 = .ok (.aload_n 0, 1) := by decide +kernel
theorem dX6_reset_59 : decode cX6_reset 59 = .ok (.iconst 0, 1) := by decide +kernel
theorem dX6_reset_60 : decode cX6_reset 60 = .ok (.putfield 64, 3) := by decide +kernel
theorem dX6_reset_63 : decode cX6_reset 63 = .ok (.aload_n 0, 1) := by decide +kernel
theorem dX6_reset_64 : decode cX6_reset 64 = .ok (.getfield 12, 3) := by decide +kernel
theorem dX6_reset_67 : decode cX6_reset 67 = .ok (.getfield 75, 3) := by decide +kernel
theorem dX6_reset_70 : decode cX6_reset 70 = .ok (.ireturn, 1) := by decide +kernel
theorem dX6_conditionCount_0 : decode cX6_conditionCount 0 = .ok (.aload_n 0, 1) := by decide +kernel
theorem dX6_conditionCount_1 : decode cX6_conditionCount 1 = .ok (.getfield 12, 3) := by decide +kernel
theorem dX6_conditionCount_4 : decode cX6_conditionCount 4 = .ok (.getfield 79, 3) := by decide +kernel
theorem dX6_conditionCount_7 : decode cX6_conditionCount 7 = .ok (.ireturn, 1) := by decide +kernel
theorem dX6_caseCount_0 : decode cX6_caseCount 0 = .ok (.aload_n 0, 1) := by decide +kernel
theorem dX6_caseCount_1 : decode cX6_caseCount 1 = .ok (.getfield 12, 3) := by decide +kernel
theorem dX6_caseCount_4 : decode cX6_caseCount 4 = .ok (.getfield 75, 3) := by decide +kernel
theorem dX6_caseCount_7 : decode cX6_caseCount 7 = .ok (.ireturn, 1) := by decide +kernel
set_option maxRecDepth 20000 in
theorem ggX6_valueIn_X4_hasCase : GoodIn wsX6_valueIn wsX4_hasCase := goodIn_r _ [6, 7, 33, 34, 35, 36, 37, 38, 39, 40, 41, 42, 43] (by decide +kernel) (by decide +kernel)
set_option maxRecDepth 20000 in
theorem gX6_valueIn_X4_hasCase : GoodIn wsX6_valueIn (wsV RX6 82 RX4 yX4_hasCase wsX4_hasCase) := goodIn_app (goodIn_of _ (by decide +kernel)) ggX6_valueIn_X4_hasCase
set_option maxRecDepth 20000 in
theorem ggX6_valueIn_X4_hasCondition : GoodIn wsX6_valueIn wsX4_hasCondition := goodIn_r _ [11, 12, 33, 34, 35, 36, 37, 38, 39, 40, 41, 42, 43] (by decide +kernel) (by decide +kernel)
set_option maxRecDepth 20000 in
theorem gX6_valueIn_X4_hasCondition : GoodIn wsX6_valueIn (wsV RX6 85 RX4 yX4_hasCondition wsX4_hasCondition) := goodIn_app (goodIn_of _ (by decide +kernel)) ggX6_valueIn_X4_hasCondition
set_option maxRecDepth 20000 in
theorem ggX6_valueIn_X4_digitOf : GoodIn wsX6_valueIn wsX4_digitOf := goodIn_r _ [16, 17, 18, 19, 20, 21, 22, 23, 33, 34, 35, 36, 37, 38, 39, 40, 41, 42, 43] (by decide +kernel) (by decide +kernel)
set_option maxRecDepth 20000 in
theorem gX6_valueIn_X4_digitOf : GoodIn wsX6_valueIn (wsV RX6 88 RX4 yX4_digitOf wsX4_digitOf) := goodIn_app (goodIn_of _ (by decide +kernel)) ggX6_valueIn_X4_digitOf
theorem dX6_valueIn_0 : decode cX6_valueIn 0 = .ok (.aload_n 0, 1) := by decide +kernel
theorem dX6_valueIn_1 : decode cX6_valueIn 1 = .ok (.getfield 12, 3) := by decide +kernel
theorem dX6_valueIn_4 : decode cX6_valueIn 4 = .ok (.iload_n 1, 1) := by decide +kernel
theorem dX6_valueIn_5 : decode cX6_valueIn 5 = .ok (.invokevirtual 82, 3) := by decide +kernel
theorem dX6_valueIn_8 : decode cX6_valueIn 8 = .ok (.ifCond .ne 6, 3) := by decide +kernel
theorem dX6_valueIn_11 : decode cX6_valueIn 11 = .ok (.bipush (-5), 2) := by decide +kernel
theorem dX6_valueIn_13 : decode cX6_valueIn 13 = .ok (.ireturn, 1) := by decide +kernel
theorem dX6_valueIn_14 : decode cX6_valueIn 14 = .ok (.aload_n 0, 1) := by decide +kernel
theorem dX6_valueIn_15 : decode cX6_valueIn 15 = .ok (.getfield 12, 3) := by decide +kernel
theorem dX6_valueIn_18 : decode cX6_valueIn 18 = .ok (.iload_n 2, 1) := by decide +kernel
theorem dX6_valueIn_19 : decode cX6_valueIn 19 = .ok (.invokevirtual 85, 3) := by decide +kernel
theorem dX6_valueIn_22 : decode cX6_valueIn 22 = .ok (.ifCond .ne 6, 3) := by decide +kernel
theorem dX6_valueIn_25 : decode cX6_valueIn 25 = .ok (.bipush (-2), 2) := by decide +kernel
theorem dX6_valueIn_27 : decode cX6_valueIn 27 = .ok (.ireturn, 1) := by decide +kernel
theorem dX6_valueIn_28 : decode cX6_valueIn 28 = .ok (.aload_n 0, 1) := by decide +kernel
theorem dX6_valueIn_29 : decode cX6_valueIn 29 = .ok (.getfield 12, 3) := by decide +kernel
theorem dX6_valueIn_32 : decode cX6_valueIn 32 = .ok (.iload_n 1, 1) := by decide +kernel
theorem dX6_valueIn_33 : decode cX6_valueIn 33 = .ok (.iload_n 2, 1) := by decide +kernel
theorem dX6_valueIn_34 : decode cX6_valueIn 34 = .ok (.invokevirtual 88, 3) := by decide +kernel
theorem dX6_valueIn_37 : decode cX6_valueIn 37 = .ok (.ireturn, 1) := by decide +kernel
set_option maxRecDepth 20000 in
theorem ggX6_setWeight_X4_hasValue : GoodIn wsX6_setWeight wsX4_hasValue := goodIn_r _ [8, 9, 10, 11, 12, 7, 13, 14, 29, 30, 31, 32, 33, 34, 35, 36, 37, 38, 39] (by decide +kernel) (by decide +kernel)
set_option maxRecDepth 20000 in
theorem gX6_setWeight_X4_hasValue : GoodIn wsX6_setWeight (wsV RX6 92 RX4 yX4_hasValue wsX4_hasValue) := goodIn_app (goodIn_of _ (by decide +kernel)) ggX6_setWeight_X4_hasValue
set_option maxRecDepth 20000 in
theorem ggX6_setWeight_X4_weightSum : GoodIn wsX6_setWeight wsX4_weightSum := goodIn_r _ [18, 9, 19, 29, 30, 31, 32, 33, 34, 35, 36, 37, 38, 39] (by decide +kernel) (by decide +kernel)
set_option maxRecDepth 20000 in
theorem gX6_setWeight_X4_weightSum : GoodIn wsX6_setWeight (wsV RX6 99 RX4 yX4_weightSum wsX4_weightSum) := goodIn_app (goodIn_of _ (by decide +kernel)) ggX6_setWeight_X4_weightSum
theorem dX6_setWeight_0 : decode cX6_setWeight 0 = .ok (.aload_n 0, 1) := by decide +kernel
theorem dX6_setWeight_1 : decode cX6_setWeight 1 = .ok (.getfield 12, 3) := by decide +kernel
theorem dX6_setWeight_4 : decode cX6_setWeight 4 = .ok (.iload_n 1, 1) := by decide +kernel
theorem dX6_setWeight_5 : decode cX6_setWeight 5 = .ok (.iload_n 2, 1) := by decide +kernel
theorem dX6_setWeight_6 : decode cX6_setWeight 6 = .ok (.invokevirtual 92, 3) := by decide +kernel
theorem dX6_setWeight_9 : decode cX6_setWeight 9 = .ok (.ifCond .ne 6, 3) := by decide +kernel
theorem dX6_setWeight_12 : decode cX6_setWeight 12 = .ok (.bipush (-2), 2) := by decide +kernel
theorem dX6_setWeight_14 : decode cX6_setWeight 14 = .ok (.ireturn, 1) := by decide +kernel
theorem dX6_setWeight_15 : decode cX6_setWeight 15 = .ok (.aload_n 0, 1) := by decide +kernel
theorem dX6_setWeight_16 : decode cX6_setWeight 16 = .ok (.getfield 12, 3) := by decide +kernel
theorem dX6_setWeight_19 : decode cX6_setWeight 19 = .ok (.getfield 95, 3) := by decide +kernel
theorem dX6_setWeight_22 : decode cX6_setWeight 22 = .ok (.iload_n 1, 1) := by decide +kernel
theorem dX6_setWeight_23 : decode cX6_setWeight 23 = .ok (.iconst 5, 1) := by decide +kernel
theorem dX6_setWeight_24 : decode cX6_setWeight 24 = .ok (.imul, 1) := by decide +kernel
theorem dX6_setWeight_25 : decode cX6_setWeight 25 = .ok (.iload_n 2, 1) := by decide +kernel
theorem dX6_setWeight_26 : decode cX6_setWeight 26 = .ok (.iadd, 1) := by decide +kernel
theorem dX6_setWeight_27 : decode cX6_setWeight 27 = .ok (.iaload, 1) := by decide +kernel
theorem dX6_setWeight_28 : decode cX6_setWeight 28 = .ok (.istore 4, 2) := by decide +kernel
theorem dX6_setWeight_30 : decode cX6_setWeight 30 = .ok (.aload_n 0, 1) := by decide +kernel
theorem dX6_setWeight_31 : decode cX6_setWeight 31 = .ok (.getfield 12, 3) := by decide +kernel
theorem dX6_setWeight_34 : decode cX6_setWeight 34 = .ok (.iload_n 1, 1) := by decide +kernel
theorem dX6_setWeight_35 : decode cX6_setWeight 35 = .ok (.invokevirtual 99, 3) := by decide +kernel
theorem dX6_setWeight_38 : decode cX6_setWeight 38 = .ok (.iload 4, 2) := by decide +kernel
theorem dX6_setWeight_40 : decode cX6_setWeight 40 = .ok (.if_icmp .ne 7, 3) := by decide +kernel
theorem dX6_setWeight_43 : decode cX6_setWeight 43 = .ok (.iconst 1, 1) := by decide +kernel
theorem dX6_setWeight_44 : decode cX6_setWeight 44 = .ok (.goto 4, 3) := by decide +kernel
theorem dX6_setWeight_47 : decode cX6_setWeight 47 = .ok (.iconst 0, 1) := by decide +kernel
theorem dX6_setWeight_48 : decode cX6_setWeight 48 = .ok (.istore 5, 2) := by decide +kernel
theorem dX6_setWeight_50 : decode cX6_setWeight 50 = .ok (.iload_n 3, 1) := by decide +kernel
theorem dX6_setWeight_51 : decode cX6_setWeight 51 = .ok (.ifCond .lt 18, 3) := by decide +kernel
theorem dX6_setWeight_54 : decode cX6_setWeight 54 = .ok (.iload_n 3, 1) := by decide +kernel
theorem dX6_setWeight_55 : decode cX6_setWeight 55 = .ok (.bipush 9, 2) := by decide +kernel
theorem dX6_setWeight_57 : decode cX6_setWeight 57 = .ok (.if_icmp .gt 12, 3) := by decide +kernel
theorem dX6_setWeight_60 : decode cX6_setWeight 60 = .ok (.iload_n 3, 1) := by decide +kernel
theorem dX6_setWeight_61 : decode cX6_setWeight 61 = .ok (.ifCond .ne 10, 3) := by decide +kernel
theorem dX6_setWeight_64 : decode cX6_setWeight 64 = .ok (.iload 5, 2) := by decide +kernel
theorem dX6_setWeight_66 : decode cX6_setWeight 66 = .ok (.ifCond .eq 5, 3) := by decide +kernel
theorem dX6_setWeight_69 : decode cX6_setWeight 69 = .ok (.iconst (-1), 1) := by decide +kernel
theorem dX6_setWeight_70 : decode cX6_setWeight 70 = .ok (.ireturn, 1) := by decide +kernel
theorem dX6_setWeight_71 : decode cX6_setWeight 71 = .ok (.aload_n 0, 1) := by decide +kernel
theorem dX6_setWeight_72 : decode cX6_setWeight 72 = .ok (.getfield 12, 3) := by decide +kernel
theorem dX6_setWeight_75 : decode cX6_setWeight 75 = .ok (.getfield 95, 3) := by decide +kernel
theorem dX6_setWeight_78 : decode cX6_setWeight 78 = .ok (.iload_n 1, 1) := by decide +kernel
theorem dX6_setWeight_79 : decode cX6_setWeight 79 = .ok (.iconst 5, 1) := by decide +kernel
theorem dX6_setWeight_80 : decode cX6_setWeight 80 = .ok (.imul, 1) := by decide +kernel
theorem dX6_setWeight_81 : decode cX6_setWeight 81 = .ok (.iload_n 2, 1) := by decide +kernel
theorem dX6_setWeight_82 : decode cX6_setWeight 82 = .ok (.iadd, 1) := by decide +kernel
theorem dX6_setWeight_83 : decode cX6_setWeight 83 = .ok (.iload_n 3, 1) := by decide +kernel
theorem dX6_setWeight_84 : decode cX6_setWeight 84 = .ok (.iastore, 1) := by decide +kernel
theorem dX6_setWeight_85 : decode cX6_setWeight 85 = .ok (.aload_n 0, 1) := by decide +kernel
theorem dX6_setWeight_86 : decode cX6_setWeight 86 = .ok (.iconst 0, 1) := by decide +kernel
theorem dX6_setWeight_87 : decode cX6_setWeight 87 = .ok (.putfield 64, 3) := by decide +kernel
theorem dX6_setWeight_90 : decode cX6_setWeight 90 = .ok (.iload 4, 2) := by decide +kernel
theorem dX6_setWeight_92 : decode cX6_setWeight 92 = .ok (.ireturn, 1) := by decide +kernel
set_option maxRecDepth 20000 in
theorem ggX6_setCost_X4_hasCondition : GoodIn wsX6_setCost wsX4_hasCondition := goodIn_r _ [8, 9, 19, 20, 21, 22, 23, 24, 25, 26, 27, 28, 29] (by decide +kernel) (by decide +kernel)
set_option maxRecDepth 20000 in
theorem gX6_setCost_X4_hasCondition : GoodIn wsX6_setCost (wsV RX6 85 RX4 yX4_hasCondition wsX4_hasCondition) := goodIn_app (goodIn_of _ (by decide +kernel)) ggX6_setCost_X4_hasCondition
theorem dX6_setCost_0 : decode cX6_setCost 0 = .ok (.aload_n 0, 1) := by decide +kernel
theorem dX6_setCost_1 : decode cX6_setCost 1 = .ok (.getfield 12, 3) := by decide +kernel
theorem dX6_setCost_4 : decode cX6_setCost 4 = .ok (.iload_n 1, 1) := by decide +kernel
theorem dX6_setCost_5 : decode cX6_setCost 5 = .ok (.invokevirtual 85, 3) := by decide +kernel
theorem dX6_setCost_8 : decode cX6_setCost 8 = .ok (.ifCond .ne 6, 3) := by decide +kernel
theorem dX6_setCost_11 : decode cX6_setCost 11 = .ok (.bipush (-2), 2) := by decide +kernel
theorem dX6_setCost_13 : decode cX6_setCost 13 = .ok (.ireturn, 1) := by decide +kernel
theorem dX6_setCost_14 : decode cX6_setCost 14 = .ok (.iload_n 2, 1) := by decide +kernel
theorem dX6_setCost_15 : decode cX6_setCost 15 = .ok (.iconst 1, 1) := by decide +kernel
theorem dX6_setCost_16 : decode cX6_setCost 16 = .ok (.if_icmp .lt 9, 3) := by decide +kernel
theorem dX6_setCost_19 : decode cX6_setCost 19 = .ok (.iload_n 2, 1) := by decide +kernel
theorem dX6_setCost_20 : decode cX6_setCost 20 = .ok (.bipush 9, 2) := by decide +kernel
theorem dX6_setCost_22 : decode cX6_setCost 22 = .ok (.if_icmp .le 5, 3) := by decide +kernel
theorem dX6_setCost_25 : decode cX6_setCost 25 = .ok (.iconst (-1), 1) := by decide +kernel
theorem dX6_setCost_26 : decode cX6_setCost 26 = .ok (.ireturn, 1) := by decide +kernel
theorem dX6_setCost_27 : decode cX6_setCost 27 = .ok (.aload_n 0, 1) := by decide +kernel
theorem dX6_setCost_28 : decode cX6_setCost 28 = .ok (.getfield 12, 3) := by decide +kernel
theorem dX6_setCost_31 : decode cX6_setCost 31 = .ok (.getfield 103, 3) := by decide +kernel
theorem dX6_setCost_34 : decode cX6_setCost 34 = .ok (.iload_n 1, 1) := by decide +kernel
theorem dX6_setCost_35 : decode cX6_setCost 35 = .ok (.iaload, 1) := by decide +kernel
theorem dX6_setCost_36 : decode cX6_setCost 36 = .ok (.istore_n 3, 1) := by decide +kernel
theorem dX6_setCost_37 : decode cX6_setCost 37 = .ok (.aload_n 0, 1) := by decide +kernel
theorem dX6_setCost_38 : decode cX6_setCost 38 = .ok (.getfield 12, 3) := by decide +kernel
theorem dX6_setCost_41 : decode cX6_setCost 41 = .ok (.getfield 103, 3) := by decide +kernel
theorem dX6_setCost_44 : decode cX6_setCost 44 = .ok (.iload_n 1, 1) := by decide +kernel
theorem dX6_setCost_45 : decode cX6_setCost 45 = .ok (.iload_n 2, 1) := by decide +kernel
theorem dX6_setCost_46 : decode cX6_setCost 46 = .ok (.iastore, 1) := by decide +kernel
theorem dX6_setCost_47 : decode cX6_setCost 47 = .ok (.aload_n 0, 1) := by decide +kernel
theorem dX6_setCost_48 : decode cX6_setCost 48 = .ok (.iconst 0, 1) := by decide +kernel
theorem dX6_setCost_49 : decode cX6_setCost 49 = .ok (.putfield 64, 3) := by decide +kernel
theorem dX6_setCost_52 : decode cX6_setCost 52 = .ok (.iload_n 3, 1) := by decide +kernel
theorem dX6_setCost_53 : decode cX6_setCost 53 = .ok (.ireturn, 1) := by decide +kernel
set_option maxRecDepth 20000 in
theorem ggX6_setDefault_X6_isActionOrNone : GoodIn wsX6_setDefault wsX6_isActionOrNone := goodIn_r _ [7] (by decide +kernel) (by decide +kernel)
set_option maxRecDepth 20000 in
theorem gX6_setDefault_X6_isActionOrNone : GoodIn wsX6_setDefault (va_wsS RX6 106 yX6_isActionOrNone wsX6_isActionOrNone) := goodIn_app (goodIn_of _ (by decide +kernel)) ggX6_setDefault_X6_isActionOrNone
set_option maxRecDepth 20000 in
theorem ggX6_setDefault_X6_actionAnswer : GoodIn wsX6_setDefault wsX6_actionAnswer := goodIn_r _ [10] (by decide +kernel) (by decide +kernel)
set_option maxRecDepth 20000 in
theorem gX6_setDefault_X6_actionAnswer : GoodIn wsX6_setDefault (va_wsS RX6 112 yX6_actionAnswer wsX6_actionAnswer) := goodIn_app (goodIn_of _ (by decide +kernel)) ggX6_setDefault_X6_actionAnswer
theorem dX6_setDefault_0 : decode cX6_setDefault 0 = .ok (.iload_n 1, 1) := by decide +kernel
theorem dX6_setDefault_1 : decode cX6_setDefault 1 = .ok (.invokestatic 106, 3) := by decide +kernel
theorem dX6_setDefault_4 : decode cX6_setDefault 4 = .ok (.ifCond .ne 5, 3) := by decide +kernel
theorem dX6_setDefault_7 : decode cX6_setDefault 7 = .ok (.iconst (-1), 1) := by decide +kernel
theorem dX6_setDefault_8 : decode cX6_setDefault 8 = .ok (.ireturn, 1) := by decide +kernel
theorem dX6_setDefault_9 : decode cX6_setDefault 9 = .ok (.aload_n 0, 1) := by decide +kernel
theorem dX6_setDefault_10 : decode cX6_setDefault 10 = .ok (.getfield 12, 3) := by decide +kernel
theorem dX6_setDefault_13 : decode cX6_setDefault 13 = .ok (.getfield 109, 3) := by decide +kernel
theorem dX6_setDefault_16 : decode cX6_setDefault 16 = .ok (.istore_n 2, 1) := by decide +kernel
theorem dX6_setDefault_17 : decode cX6_setDefault 17 = .ok (.aload_n 0, 1) := by decide +kernel
theorem dX6_setDefault_18 : decode cX6_setDefault 18 = .ok (.getfield 12, 3) := by decide +kernel
theorem dX6_setDefault_21 : decode cX6_setDefault 21 = .ok (.iload_n 1, 1) := by decide +kernel
theorem dX6_setDefault_22 : decode cX6_setDefault 22 = .ok (.putfield 109, 3) := by decide +kernel
theorem dX6_setDefault_25 : decode cX6_setDefault 25 = .ok (.aload_n 0, 1) := by decide +kernel
theorem dX6_setDefault_26 : decode cX6_setDefault 26 = .ok (.iconst 0, 1) := by decide +kernel
theorem dX6_setDefault_27 : decode cX6_setDefault 27 = .ok (.putfield 64, 3) := by decide +kernel
theorem dX6_setDefault_30 : decode cX6_setDefault 30 = .ok (.iload_n 2, 1) := by decide +kernel
theorem dX6_setDefault_31 : decode cX6_setDefault 31 = .ok (.invokestatic 112, 3) := by decide +kernel
theorem dX6_setDefault_34 : decode cX6_setDefault 34 = .ok (.ireturn, 1) := by decide +kernel
set_option maxRecDepth 20000 in
theorem ggX6_append_X0_add : GoodIn wsX6_append wsX0_add := goodIn_r _ [7, 8, 9, 19, 20] (by decide +kernel) (by decide +kernel)
set_option maxRecDepth 20000 in
theorem gX6_append_X0_add : GoodIn wsX6_append (wsV RX6 118 RX0 yX0_add wsX0_add) := goodIn_app (goodIn_of _ (by decide +kernel)) ggX6_append_X0_add
theorem dX6_append_0 : decode cX6_append 0 = .ok (.iload_n 1, 1) := by decide +kernel
theorem dX6_append_1 : decode cX6_append 1 = .ok (.ifCond .lt 20, 3) := by decide +kernel
theorem dX6_append_4 : decode cX6_append 4 = .ok (.iload_n 1, 1) := by decide +kernel
theorem dX6_append_5 : decode cX6_append 5 = .ok (.bipush 127, 2) := by decide +kernel
theorem dX6_append_7 : decode cX6_append 7 = .ok (.if_icmp .gt 14, 3) := by decide +kernel
theorem dX6_append_10 : decode cX6_append 10 = .ok (.iload_n 2, 1) := by decide +kernel
theorem dX6_append_11 : decode cX6_append 11 = .ok (.iconst 1, 1) := by decide +kernel
theorem dX6_append_12 : decode cX6_append 12 = .ok (.if_icmp .lt 9, 3) := by decide +kernel
theorem dX6_append_15 : decode cX6_append 15 = .ok (.iload_n 2, 1) := by decide +kernel
theorem dX6_append_16 : decode cX6_append 16 = .ok (.bipush 40, 2) := by decide +kernel
theorem dX6_append_18 : decode cX6_append 18 = .ok (.if_icmp .le 5, 3) := by decide +kernel
theorem dX6_append_21 : decode cX6_append 21 = .ok (.iconst (-1), 1) := by decide +kernel
theorem dX6_append_22 : decode cX6_append 22 = .ok (.ireturn, 1) := by decide +kernel
theorem dX6_append_23 : decode cX6_append 23 = .ok (.iload_n 2, 1) := by decide +kernel
theorem dX6_append_24 : decode cX6_append 24 = .ok (.bipush 40, 2) := by decide +kernel
theorem dX6_append_26 : decode cX6_append 26 = .ok (.aload_n 0, 1) := by decide +kernel
theorem dX6_append_27 : decode cX6_append 27 = .ok (.getfield 24, 3) := by decide +kernel
theorem dX6_append_30 : decode cX6_append 30 = .ok (.getfield 115, 3) := by decide +kernel
theorem dX6_append_33 : decode cX6_append 33 = .ok (.isub, 1) := by decide +kernel
theorem dX6_append_34 : decode cX6_append 34 = .ok (.if_icmp .le 6, 3) := by decide +kernel
theorem dX6_append_37 : decode cX6_append 37 = .ok (.bipush (-4), 2) := by decide +kernel
theorem dX6_append_39 : decode cX6_append 39 = .ok (.ireturn, 1) := by decide +kernel
theorem dX6_append_40 : decode cX6_append 40 = .ok (.aload_n 0, 1) := by decide +kernel
theorem dX6_append_41 : decode cX6_append 41 = .ok (.getfield 24, 3) := by decide +kernel
theorem dX6_append_44 : decode cX6_append 44 = .ok (.iload_n 1, 1) := by decide +kernel
theorem dX6_append_45 : decode cX6_append 45 = .ok (.iload_n 2, 1) := by decide +kernel
theorem dX6_append_46 : decode cX6_append 46 = .ok (.invokevirtual 118, 3) := by decide +kernel
theorem dX6_append_49 : decode cX6_append 49 = .ok (.aload_n 0, 1) := by decide +kernel
theorem dX6_append_50 : decode cX6_append 50 = .ok (.getfield 24, 3) := by decide +kernel
theorem dX6_append_53 : decode cX6_append 53 = .ok (.getfield 115, 3) := by decide +kernel
theorem dX6_append_56 : decode cX6_append 56 = .ok (.ireturn, 1) := by decide +kernel
theorem dX6_clearInput_0 : decode cX6_clearInput 0 = .ok (.aload_n 0, 1) := by decide +kernel
theorem dX6_clearInput_1 : decode cX6_clearInput 1 = .ok (.getfield 24, 3) := by decide +kernel
theorem dX6_clearInput_4 : decode cX6_clearInput 4 = .ok (.getfield 115, 3) := by decide +kernel
theorem dX6_clearInput_7 : decode cX6_clearInput 7 = .ok (.istore_n 1, 1) := by decide +kernel
theorem dX6_clearInput_8 : decode cX6_clearInput 8 = .ok (.aload_n 0, 1) := by decide +kernel
theorem dX6_clearInput_9 : decode cX6_clearInput 9 = .ok (.getfield 24, 3) := by decide +kernel
theorem dX6_clearInput_12 : decode cX6_clearInput 12 = .ok (.iconst 0, 1) := by decide +kernel
theorem dX6_clearInput_13 : decode cX6_clearInput 13 = .ok (.putfield 115, 3) := by decide +kernel
theorem dX6_clearInput_16 : decode cX6_clearInput 16 = .ok (.iload_n 1, 1) := by decide +kernel
theorem dX6_clearInput_17 : decode cX6_clearInput 17 = .ok (.ireturn, 1) := by decide +kernel
set_option maxRecDepth 20000 in
theorem ggX6_addRule_X6_takeRule : GoodIn wsX6_addRule wsX6_takeRule := goodIn_r _ [7, 8, 9, 1, 10, 2, 11, 12, 13, 14, 15, 16, 17, 18, 19, 20, 21, 22, 23, 24, 25, 26, 27, 28, 29, 30, 31, 32, 33, 34, 35, 36, 37, 38, 39, 40, 41, 42, 43, 44, 45, 46, 47, 48, 49, 50, 51, 52, 53, 54, 55, 56, 57, 58, 59, 60, 61, 62, 63, 64, 65, 66, 67, 68, 69, 70, 71, 72, 73, 74, 75, 76, 77, 78, 79, 80, 81, 82, 83, 84, 85, 86, 87, 88, 89, 90, 91, 92, 93, 94, 106, 107, 95, 96, 97, 98, 99, 100, 101, 102, 103, 104, 105, 108, 109, 110, 111] (by decide +kernel) (by decide +kernel)
set_option maxRecDepth 20000 in
theorem gX6_addRule_X6_takeRule : GoodIn wsX6_addRule (wsV RX6 125 RX6 yX6_takeRule wsX6_takeRule) := goodIn_app (goodIn_of _ (by decide +kernel)) ggX6_addRule_X6_takeRule
theorem dX6_addRule_0 : decode cX6_addRule 0 = .ok (.aload_n 0, 1) := by decide +kernel
theorem dX6_addRule_1 : decode cX6_addRule 1 = .ok (.getfield 12, 3) := by decide +kernel
theorem dX6_addRule_4 : decode cX6_addRule 4 = .ok (.getfield 122, 3) := by decide +kernel
theorem dX6_addRule_7 : decode cX6_addRule 7 = .ok (.istore_n 1, 1) := by decide +kernel
theorem dX6_addRule_8 : decode cX6_addRule 8 = .ok (.aload_n 0, 1) := by decide +kernel
theorem dX6_addRule_9 : decode cX6_addRule 9 = .ok (.iload_n 1, 1) := by decide +kernel
theorem dX6_addRule_10 : decode cX6_addRule 10 = .ok (.invokevirtual 125, 3) := by decide +kernel
theorem dX6_addRule_13 : decode cX6_addRule 13 = .ok (.istore_n 2, 1) := by decide +kernel
theorem dX6_addRule_14 : decode cX6_addRule 14 = .ok (.iload_n 2, 1) := by decide +kernel
theorem dX6_addRule_15 : decode cX6_addRule 15 = .ok (.ifCond .ge 7, 3) := by decide +kernel
theorem dX6_addRule_18 : decode cX6_addRule 18 = .ok (.iload_n 2, 1) := by decide +kernel
theorem dX6_addRule_19 : decode cX6_addRule 19 = .ok (.goto 4, 3) := by decide +kernel
theorem dX6_addRule_22 : decode cX6_addRule 22 = .ok (.iload_n 1, 1) := by decide +kernel
theorem dX6_addRule_23 : decode cX6_addRule 23 = .ok (.ireturn, 1) := by decide +kernel
set_option maxRecDepth 20000 in
theorem ggX6_insertRule_X6_takeRule : GoodIn wsX6_insertRule wsX6_takeRule := goodIn_r _ [7, 8, 9, 1, 10, 2, 11, 12, 13, 14, 15, 16, 17, 18, 19, 20, 21, 22, 23, 24, 25, 26, 27, 28, 29, 30, 31, 32, 33, 34, 35, 36, 37, 38, 39, 40, 41, 42, 43, 44, 45, 46, 47, 48, 49, 50, 51, 52, 53, 54, 55, 56, 57, 58, 59, 60, 61, 62, 63, 64, 65, 66, 67, 68, 69, 70, 71, 72, 73, 74, 75, 76, 77, 78, 79, 80, 81, 82, 83, 84, 85, 86, 87, 88, 89, 90, 91, 92, 93, 94, 106, 107, 95, 96, 97, 98, 99, 100, 101, 102, 103, 104, 105, 108, 109, 110, 111] (by decide +kernel) (by decide +kernel)
set_option maxRecDepth 20000 in
theorem gX6_insertRule_X6_takeRule : GoodIn wsX6_insertRule (wsV RX6 125 RX6 yX6_takeRule wsX6_takeRule) := goodIn_app (goodIn_of _ (by decide +kernel)) ggX6_insertRule_X6_takeRule
theorem dX6_insertRule_0 : decode cX6_insertRule 0 = .ok (.aload_n 0, 1) := by decide +kernel
theorem dX6_insertRule_1 : decode cX6_insertRule 1 = .ok (.iload_n 1, 1) := by decide +kernel
theorem dX6_insertRule_2 : decode cX6_insertRule 2 = .ok (.invokevirtual 125, 3) := by decide +kernel
theorem dX6_insertRule_5 : decode cX6_insertRule 5 = .ok (.istore_n 2, 1) := by decide +kernel
theorem dX6_insertRule_6 : decode cX6_insertRule 6 = .ok (.iload_n 2, 1) := by decide +kernel
theorem dX6_insertRule_7 : decode cX6_insertRule 7 = .ok (.ifCond .ge 7, 3) := by decide +kernel
theorem dX6_insertRule_10 : decode cX6_insertRule 10 = .ok (.iload_n 2, 1) := by decide +kernel
theorem dX6_insertRule_11 : decode cX6_insertRule 11 = .ok (.goto 10, 3) := by decide +kernel
theorem dX6_insertRule_14 : decode cX6_insertRule 14 = .ok (.aload_n 0, 1) := by decide +kernel
theorem dX6_insertRule_15 : decode cX6_insertRule 15 = .ok (.getfield 12, 3) := by decide +kernel
theorem dX6_insertRule_18 : decode cX6_insertRule 18 = .ok (.getfield 122, 3) := by decide +kernel
theorem dX6_insertRule_21 : decode cX6_insertRule 21 = .ok (.ireturn, 1) := by decide +kernel
set_option maxRecDepth 20000 in
theorem ggX6_removeRule_X4_hasRule : GoodIn wsX6_removeRule wsX4_hasRule := goodIn_r _ [8, 9, 44, 45, 46, 47, 48, 49, 50, 51, 52, 53, 54] (by decide +kernel) (by decide +kernel)
set_option maxRecDepth 20000 in
theorem gX6_removeRule_X4_hasRule : GoodIn wsX6_removeRule (wsV RX6 128 RX4 yX4_hasRule wsX4_hasRule) := goodIn_app (goodIn_of _ (by decide +kernel)) ggX6_removeRule_X4_hasRule
set_option maxRecDepth 20000 in
theorem ggX6_removeRule_X4_dropRule : GoodIn wsX6_removeRule wsX4_dropRule := goodIn_r _ [13, 9, 14, 15, 16, 7, 17, 18, 19, 20, 21, 22, 23, 24, 25, 26, 27, 28, 29, 30, 31, 32, 33, 34, 44, 45, 46, 47, 48, 49, 50, 51, 52, 53, 54] (by decide +kernel) (by decide +kernel)
set_option maxRecDepth 20000 in
theorem gX6_removeRule_X4_dropRule : GoodIn wsX6_removeRule (wsV RX6 131 RX4 yX4_dropRule wsX4_dropRule) := goodIn_app (goodIn_of _ (by decide +kernel)) ggX6_removeRule_X4_dropRule
theorem dX6_removeRule_0 : decode cX6_removeRule 0 = .ok (.aload_n 0, 1) := by decide +kernel
theorem dX6_removeRule_1 : decode cX6_removeRule 1 = .ok (.getfield 12, 3) := by decide +kernel
theorem dX6_removeRule_4 : decode cX6_removeRule 4 = .ok (.iload_n 1, 1) := by decide +kernel
theorem dX6_removeRule_5 : decode cX6_removeRule 5 = .ok (.invokevirtual 128, 3) := by decide +kernel
theorem dX6_removeRule_8 : decode cX6_removeRule 8 = .ok (.ifCond .ne 6, 3) := by decide +kernel
theorem dX6_removeRule_11 : decode cX6_removeRule 11 = .ok (.bipush (-3), 2) := by decide +kernel
theorem dX6_removeRule_13 : decode cX6_removeRule 13 = .ok (.ireturn, 1) := by decide +kernel
theorem dX6_removeRule_14 : decode cX6_removeRule 14 = .ok (.aload_n 0, 1) := by decide +kernel
theorem dX6_removeRule_15 : decode cX6_removeRule 15 = .ok (.getfield 12, 3) := by decide +kernel
theorem dX6_removeRule_18 : decode cX6_removeRule 18 = .ok (.iload_n 1, 1) := by decide +kernel
theorem dX6_removeRule_19 : decode cX6_removeRule 19 = .ok (.invokevirtual 131, 3) := by decide +kernel
theorem dX6_removeRule_22 : decode cX6_removeRule 22 = .ok (.aload_n 0, 1) := by decide +kernel
theorem dX6_removeRule_23 : decode cX6_removeRule 23 = .ok (.iconst 0, 1) := by decide +kernel
theorem dX6_removeRule_24 : decode cX6_removeRule 24 = .ok (.putfield 64, 3) := by decide +kernel
theorem dX6_removeRule_27 : decode cX6_removeRule 27 = .ok (.aload_n 0, 1) := by decide +kernel
theorem dX6_removeRule_28 : decode cX6_removeRule 28 = .ok (.getfield 12, 3) := by decide +kernel
theorem dX6_removeRule_31 : decode cX6_removeRule 31 = .ok (.getfield 122, 3) := by decide +kernel
theorem dX6_removeRule_34 : decode cX6_removeRule 34 = .ok (.ireturn, 1) := by decide +kernel
theorem dX6_ruleCount_0 : decode cX6_ruleCount 0 = .ok (.aload_n 0, 1) := by decide +kernel
theorem dX6_ruleCount_1 : decode cX6_ruleCount 1 = .ok (.getfield 12, 3) := by decide +kernel
theorem dX6_ruleCount_4 : decode cX6_ruleCount 4 = .ok (.getfield 122, 3) := by decide +kernel
theorem dX6_ruleCount_7 : decode cX6_ruleCount 7 = .ok (.ireturn, 1) := by decide +kernel
set_option maxRecDepth 20000 in
theorem ggX6_ruleSet_X4_hasRule : GoodIn wsX6_ruleSet wsX4_hasRule := goodIn_r _ [6, 7, 27, 28, 29, 30, 31, 32, 33, 34, 35, 36, 37] (by decide +kernel) (by decide +kernel)
set_option maxRecDepth 20000 in
theorem gX6_ruleSet_X4_hasRule : GoodIn wsX6_ruleSet (wsV RX6 128 RX4 yX4_hasRule wsX4_hasRule) := goodIn_app (goodIn_of _ (by decide +kernel)) ggX6_ruleSet_X4_hasRule
set_option maxRecDepth 20000 in
theorem ggX6_ruleSet_X4_hasCondition : GoodIn wsX6_ruleSet wsX4_hasCondition := goodIn_r _ [11, 12, 27, 28, 29, 30, 31, 32, 33, 34, 35, 36, 37] (by decide +kernel) (by decide +kernel)
set_option maxRecDepth 20000 in
theorem gX6_ruleSet_X4_hasCondition : GoodIn wsX6_ruleSet (wsV RX6 85 RX4 yX4_hasCondition wsX4_hasCondition) := goodIn_app (goodIn_of _ (by decide +kernel)) ggX6_ruleSet_X4_hasCondition
set_option maxRecDepth 20000 in
theorem ggX6_ruleSet_X4_setOf : GoodIn wsX6_ruleSet wsX4_setOf := goodIn_r _ [16, 17, 27, 28, 29, 30, 31, 32, 33, 34, 35, 36, 37] (by decide +kernel) (by decide +kernel)
set_option maxRecDepth 20000 in
theorem gX6_ruleSet_X4_setOf : GoodIn wsX6_ruleSet (wsV RX6 135 RX4 yX4_setOf wsX4_setOf) := goodIn_app (goodIn_of _ (by decide +kernel)) ggX6_ruleSet_X4_setOf
theorem dX6_ruleSet_0 : decode cX6_ruleSet 0 = .ok (.aload_n 0, 1) := by decide +kernel
theorem dX6_ruleSet_1 : decode cX6_ruleSet 1 = .ok (.getfield 12, 3) := by decide +kernel
theorem dX6_ruleSet_4 : decode cX6_ruleSet 4 = .ok (.iload_n 1, 1) := by decide +kernel
theorem dX6_ruleSet_5 : decode cX6_ruleSet 5 = .ok (.invokevirtual 128, 3) := by decide +kernel
theorem dX6_ruleSet_8 : decode cX6_ruleSet 8 = .ok (.ifCond .ne 6, 3) := by decide +kernel
theorem dX6_ruleSet_11 : decode cX6_ruleSet 11 = .ok (.bipush (-3), 2) := by decide +kernel
theorem dX6_ruleSet_13 : decode cX6_ruleSet 13 = .ok (.ireturn, 1) := by decide +kernel
theorem dX6_ruleSet_14 : decode cX6_ruleSet 14 = .ok (.aload_n 0, 1) := by decide +kernel
theorem dX6_ruleSet_15 : decode cX6_ruleSet 15 = .ok (.getfield 12, 3) := by decide +kernel
theorem dX6_ruleSet_18 : decode cX6_ruleSet 18 = .ok (.iload_n 2, 1) := by decide +kernel
theorem dX6_ruleSet_19 : decode cX6_ruleSet 19 = .ok (.invokevirtual 85, 3) := by decide +kernel
theorem dX6_ruleSet_22 : decode cX6_ruleSet 22 = .ok (.ifCond .ne 6, 3) := by decide +kernel
theorem dX6_ruleSet_25 : decode cX6_ruleSet 25 = .ok (.bipush (-2), 2) := by decide +kernel
theorem dX6_ruleSet_27 : decode cX6_ruleSet 27 = .ok (.ireturn, 1) := by decide +kernel
theorem dX6_ruleSet_28 : decode cX6_ruleSet 28 = .ok (.aload_n 0, 1) := by decide +kernel
theorem dX6_ruleSet_29 : decode cX6_ruleSet 29 = .ok (.getfield 12, 3) := by decide +kernel
theorem dX6_ruleSet_32 : decode cX6_ruleSet 32 = .ok (.iload_n 1, 1) := by decide +kernel
theorem dX6_ruleSet_33 : decode cX6_ruleSet 33 = .ok (.iload_n 2, 1) := by decide +kernel
theorem dX6_ruleSet_34 : decode cX6_ruleSet 34 = .ok (.invokevirtual 135, 3) := by decide +kernel
theorem dX6_ruleSet_37 : decode cX6_ruleSet 37 = .ok (.ireturn, 1) := by decide +kernel
set_option maxRecDepth 20000 in
theorem ggX6_ruleAction_X4_hasRule : GoodIn wsX6_ruleAction wsX4_hasRule := goodIn_r _ [7, 8, 18, 19, 20, 21, 22, 23, 24, 25, 26, 27, 28] (by decide +kernel) (by decide +kernel)
set_option maxRecDepth 20000 in
theorem gX6_ruleAction_X4_hasRule : GoodIn wsX6_ruleAction (wsV RX6 128 RX4 yX4_hasRule wsX4_hasRule) := goodIn_app (goodIn_of _ (by decide +kernel)) ggX6_ruleAction_X4_hasRule
theorem dX6_ruleAction_0 : decode cX6_ruleAction 0 = .ok (.aload_n 0, 1) := by decide +kernel
theorem dX6_ruleAction_1 : decode cX6_ruleAction 1 = .ok (.getfield 12, 3) := by decide +kernel
theorem dX6_ruleAction_4 : decode cX6_ruleAction 4 = .ok (.iload_n 1, 1) := by decide +kernel
theorem dX6_ruleAction_5 : decode cX6_ruleAction 5 = .ok (.invokevirtual 128, 3) := by decide +kernel
theorem dX6_ruleAction_8 : decode cX6_ruleAction 8 = .ok (.ifCond .ne 6, 3) := by decide +kernel
theorem dX6_ruleAction_11 : decode cX6_ruleAction 11 = .ok (.bipush (-3), 2) := by decide +kernel
theorem dX6_ruleAction_13 : decode cX6_ruleAction 13 = .ok (.ireturn, 1) := by decide +kernel
theorem dX6_ruleAction_14 : decode cX6_ruleAction 14 = .ok (.aload_n 0, 1) := by decide +kernel
theorem dX6_ruleAction_15 : decode cX6_ruleAction 15 = .ok (.getfield 12, 3) := by decide +kernel
theorem dX6_ruleAction_18 : decode cX6_ruleAction 18 = .ok (.getfield 138, 3) := by decide +kernel
theorem dX6_ruleAction_21 : decode cX6_ruleAction 21 = .ok (.iload_n 1, 1) := by decide +kernel
theorem dX6_ruleAction_22 : decode cX6_ruleAction 22 = .ok (.iaload, 1) := by decide +kernel
theorem dX6_ruleAction_23 : decode cX6_ruleAction 23 = .ok (.ireturn, 1) := by decide +kernel
set_option maxRecDepth 20000 in
theorem ggX6_ruleCases_X4_hasRule : GoodIn wsX6_ruleCases wsX4_hasRule := goodIn_r _ [7, 8, 30, 31, 32, 33, 34, 35, 36, 37, 38, 39, 40] (by decide +kernel) (by decide +kernel)
set_option maxRecDepth 20000 in
theorem gX6_ruleCases_X4_hasRule : GoodIn wsX6_ruleCases (wsV RX6 128 RX4 yX4_hasRule wsX4_hasRule) := goodIn_app (goodIn_of _ (by decide +kernel)) ggX6_ruleCases_X4_hasRule
set_option maxRecDepth 20000 in
theorem ggX6_ruleCases_X4_setOf : GoodIn wsX6_ruleCases wsX4_setOf := goodIn_r _ [12, 13, 30, 31, 32, 33, 34, 35, 36, 37, 38, 39, 40] (by decide +kernel) (by decide +kernel)
set_option maxRecDepth 20000 in
theorem gX6_ruleCases_X4_setOf : GoodIn wsX6_ruleCases (wsV RX6 135 RX4 yX4_setOf wsX4_setOf) := goodIn_app (goodIn_of _ (by decide +kernel)) ggX6_ruleCases_X4_setOf
set_option maxRecDepth 20000 in
theorem ggX6_ruleCases_J6_bitCount_0f7a4 : GoodIn wsX6_ruleCases wsJ6_bitCount_0f7a4 := goodIn_r _ [17, 18, 19, 20] (by decide +kernel) (by decide +kernel)
set_option maxRecDepth 20000 in
theorem gX6_ruleCases_J6_bitCount_0f7a4 : GoodIn wsX6_ruleCases (va_wsS RX6 141 yJ6_bitCount_0f7a4 wsJ6_bitCount_0f7a4) := goodIn_app (goodIn_of _ (by decide +kernel)) ggX6_ruleCases_J6_bitCount_0f7a4
theorem dX6_ruleCases_0 : decode cX6_ruleCases 0 = .ok (.aload_n 0, 1) := by decide +kernel
theorem dX6_ruleCases_1 : decode cX6_ruleCases 1 = .ok (.getfield 12, 3) := by decide +kernel
theorem dX6_ruleCases_4 : decode cX6_ruleCases 4 = .ok (.iload_n 1, 1) := by decide +kernel
theorem dX6_ruleCases_5 : decode cX6_ruleCases 5 = .ok (.invokevirtual 128, 3) := by decide +kernel
theorem dX6_ruleCases_8 : decode cX6_ruleCases 8 = .ok (.ifCond .ne 6, 3) := by decide +kernel
theorem dX6_ruleCases_11 : decode cX6_ruleCases 11 = .ok (.bipush (-3), 2) := by decide +kernel
theorem dX6_ruleCases_13 : decode cX6_ruleCases 13 = .ok (.ireturn, 1) := by decide +kernel
theorem dX6_ruleCases_14 : decode cX6_ruleCases 14 = .ok (.iconst 1, 1) := by decide +kernel
theorem dX6_ruleCases_15 : decode cX6_ruleCases 15 = .ok (.istore_n 2, 1) := by decide +kernel
theorem dX6_ruleCases_16 : decode cX6_ruleCases 16 = .ok (.iconst 0, 1) := by decide +kernel
theorem dX6_ruleCases_17 : decode cX6_ruleCases 17 = .ok (.istore_n 3, 1) := by decide +kernel
theorem dX6_ruleCases_18 : decode cX6_ruleCases 18 = .ok (.iload_n 3, 1) := by decide +kernel
theorem dX6_ruleCases_19 : decode cX6_ruleCases 19 = .ok (.aload_n 0, 1) := by decide +kernel
theorem dX6_ruleCases_20 : decode cX6_ruleCases 20 = .ok (.getfield 12, 3) := by decide +kernel
theorem dX6_ruleCases_23 : decode cX6_ruleCases 23 = .ok (.getfield 79, 3) := by decide +kernel
theorem dX6_ruleCases_26 : decode cX6_ruleCases 26 = .ok (.if_icmp .ge 24, 3) := by decide +kernel
theorem dX6_ruleCases_29 : decode cX6_ruleCases 29 = .ok (.iload_n 2, 1) := by decide +kernel
theorem dX6_ruleCases_30 : decode cX6_ruleCases 30 = .ok (.aload_n 0, 1) := by decide +kernel
theorem dX6_ruleCases_31 : decode cX6_ruleCases 31 = .ok (.getfield 12, 3) := by decide +kernel
theorem dX6_ruleCases_34 : decode cX6_ruleCases 34 = .ok (.iload_n 1, 1) := by decide +kernel
theorem dX6_ruleCases_35 : decode cX6_ruleCases 35 = .ok (.iload_n 3, 1) := by decide +kernel
theorem dX6_ruleCases_36 : decode cX6_ruleCases 36 = .ok (.invokevirtual 135, 3) := by decide +kernel
theorem dX6_ruleCases_39 : decode cX6_ruleCases 39 = .ok (.invokestatic 141, 3) := by decide +kernel
theorem dX6_ruleCases_42 : decode cX6_ruleCases 42 = .ok (.imul, 1) := by decide +kernel
theorem dX6_ruleCases_43 : decode cX6_ruleCases 43 = .ok (.istore_n 2, 1) := by decide +kernel
theorem dX6_ruleCases_44 : decode cX6_ruleCases 44 = .ok (.iinc 3 1, 3) := by decide +kernel
theorem dX6_ruleCases_47 : decode cX6_ruleCases 47 = .ok (.goto (-29), 3) := by decide +kernel
theorem dX6_ruleCases_50 : decode cX6_ruleCases 50 = .ok (.iload_n 2, 1) := by decide +kernel
theorem dX6_ruleCases_51 : decode cX6_ruleCases 51 = .ok (.ireturn, 1) := by decide +kernel
set_option maxRecDepth 20000 in
theorem ggX6_firstMatch_X4_hasCase : GoodIn wsX6_firstMatch wsX4_hasCase := goodIn_r _ [6, 7, 39, 40, 41, 42, 43, 44, 45, 46, 47, 48, 49] (by decide +kernel) (by decide +kernel)
set_option maxRecDepth 20000 in
theorem gX6_firstMatch_X4_hasCase : GoodIn wsX6_firstMatch (wsV RX6 82 RX4 yX4_hasCase wsX4_hasCase) := goodIn_app (goodIn_of _ (by decide +kernel)) ggX6_firstMatch_X4_hasCase
set_option maxRecDepth 20000 in
theorem ggX6_firstMatch_X4_firstRuleFor : GoodIn wsX6_firstMatch wsX4_firstRuleFor := goodIn_r _ [11, 12, 13, 14, 15, 5, 16, 17, 18, 19, 20, 21, 22, 23, 24, 25, 26, 27, 28, 29, 39, 40, 41, 42, 43, 44, 45, 46, 47, 48, 49] (by decide +kernel) (by decide +kernel)
set_option maxRecDepth 20000 in
theorem gX6_firstMatch_X4_firstRuleFor : GoodIn wsX6_firstMatch (wsV RX6 146 RX4 yX4_firstRuleFor wsX4_firstRuleFor) := goodIn_app (goodIn_of _ (by decide +kernel)) ggX6_firstMatch_X4_firstRuleFor
theorem dX6_firstMatch_0 : decode cX6_firstMatch 0 = .ok (.aload_n 0, 1) := by decide +kernel
theorem dX6_firstMatch_1 : decode cX6_firstMatch 1 = .ok (.getfield 12, 3) := by decide +kernel
theorem dX6_firstMatch_4 : decode cX6_firstMatch 4 = .ok (.iload_n 1, 1) := by decide +kernel
theorem dX6_firstMatch_5 : decode cX6_firstMatch 5 = .ok (.invokevirtual 82, 3) := by decide +kernel
theorem dX6_firstMatch_8 : decode cX6_firstMatch 8 = .ok (.ifCond .ne 6, 3) := by decide +kernel
theorem dX6_firstMatch_11 : decode cX6_firstMatch 11 = .ok (.bipush (-5), 2) := by decide +kernel
theorem dX6_firstMatch_13 : decode cX6_firstMatch 13 = .ok (.ireturn, 1) := by decide +kernel
theorem dX6_firstMatch_14 : decode cX6_firstMatch 14 = .ok (.aload_n 0, 1) := by decide +kernel
theorem dX6_firstMatch_15 : decode cX6_firstMatch 15 = .ok (.getfield 12, 3) := by decide +kernel
theorem dX6_firstMatch_18 : decode cX6_firstMatch 18 = .ok (.iload_n 1, 1) := by decide +kernel
theorem dX6_firstMatch_19 : decode cX6_firstMatch 19 = .ok (.invokevirtual 146, 3) := by decide +kernel
theorem dX6_firstMatch_22 : decode cX6_firstMatch 22 = .ok (.istore_n 2, 1) := by decide +kernel
theorem dX6_firstMatch_23 : decode cX6_firstMatch 23 = .ok (.iload_n 2, 1) := by decide +kernel
theorem dX6_firstMatch_24 : decode cX6_firstMatch 24 = .ok (.ifCond .ge 8, 3) := by decide +kernel
theorem dX6_firstMatch_27 : decode cX6_firstMatch 27 = .ok (.bipush (-6), 2) := by decide +kernel
theorem dX6_firstMatch_29 : decode cX6_firstMatch 29 = .ok (.goto 4, 3) := by decide +kernel
theorem dX6_firstMatch_32 : decode cX6_firstMatch 32 = .ok (.iload_n 2, 1) := by decide +kernel
theorem dX6_firstMatch_33 : decode cX6_firstMatch 33 = .ok (.ireturn, 1) := by decide +kernel
set_option maxRecDepth 20000 in
theorem ggX6_matches_X4_hasCase : GoodIn wsX6_matches wsX4_hasCase := goodIn_r _ [6, 7, 35, 36, 37, 38, 39, 40, 41, 42, 43, 44, 45] (by decide +kernel) (by decide +kernel)
set_option maxRecDepth 20000 in
theorem gX6_matches_X4_hasCase : GoodIn wsX6_matches (wsV RX6 82 RX4 yX4_hasCase wsX4_hasCase) := goodIn_app (goodIn_of _ (by decide +kernel)) ggX6_matches_X4_hasCase
set_option maxRecDepth 20000 in
theorem ggX6_matches_X4_rulesFor : GoodIn wsX6_matches wsX4_rulesFor := goodIn_r _ [11, 12, 13, 14, 15, 16, 17, 5, 18, 19, 20, 21, 22, 23, 24, 25, 35, 36, 37, 38, 39, 40, 41, 42, 43, 44, 45] (by decide +kernel) (by decide +kernel)
set_option maxRecDepth 20000 in
theorem gX6_matches_X4_rulesFor : GoodIn wsX6_matches (wsV RX6 149 RX4 yX4_rulesFor wsX4_rulesFor) := goodIn_app (goodIn_of _ (by decide +kernel)) ggX6_matches_X4_rulesFor
theorem dX6_matches_0 : decode cX6_matches 0 = .ok (.aload_n 0, 1) := by decide +kernel
theorem dX6_matches_1 : decode cX6_matches 1 = .ok (.getfield 12, 3) := by decide +kernel
theorem dX6_matches_4 : decode cX6_matches 4 = .ok (.iload_n 1, 1) := by decide +kernel
theorem dX6_matches_5 : decode cX6_matches 5 = .ok (.invokevirtual 82, 3) := by decide +kernel
theorem dX6_matches_8 : decode cX6_matches 8 = .ok (.ifCond .ne 6, 3) := by decide +kernel
theorem dX6_matches_11 : decode cX6_matches 11 = .ok (.bipush (-5), 2) := by decide +kernel
theorem dX6_matches_13 : decode cX6_matches 13 = .ok (.ireturn, 1) := by decide +kernel
theorem dX6_matches_14 : decode cX6_matches 14 = .ok (.aload_n 0, 1) := by decide +kernel
theorem dX6_matches_15 : decode cX6_matches 15 = .ok (.getfield 12, 3) := by decide +kernel
theorem dX6_matches_18 : decode cX6_matches 18 = .ok (.iload_n 1, 1) := by decide +kernel
theorem dX6_matches_19 : decode cX6_matches 19 = .ok (.invokevirtual 149, 3) := by decide +kernel
theorem dX6_matches_22 : decode cX6_matches 22 = .ok (.ireturn, 1) := by decide +kernel
set_option maxRecDepth 20000 in
theorem ggX6_action_X4_hasCase : GoodIn wsX6_action wsX4_hasCase := goodIn_r _ [6, 7, 48, 49, 50, 51, 52, 53, 54, 55, 56, 57, 58] (by decide +kernel) (by decide +kernel)
set_option maxRecDepth 20000 in
theorem gX6_action_X4_hasCase : GoodIn wsX6_action (wsV RX6 82 RX4 yX4_hasCase wsX4_hasCase) := goodIn_app (goodIn_of _ (by decide +kernel)) ggX6_action_X4_hasCase
set_option maxRecDepth 20000 in
theorem ggX6_action_X4_actionFor : GoodIn wsX6_action wsX4_actionFor := goodIn_r _ [11, 12, 13, 14, 15, 16, 5, 17, 18, 19, 20, 21, 22, 23, 24, 25, 26, 27, 28, 29, 30, 31, 32, 33, 34, 35, 48, 49, 50, 51, 52, 53, 54, 55, 56, 57, 58] (by decide +kernel) (by decide +kernel)
set_option maxRecDepth 20000 in
theorem gX6_action_X4_actionFor : GoodIn wsX6_action (wsV RX6 152 RX4 yX4_actionFor wsX4_actionFor) := goodIn_app (goodIn_of _ (by decide +kernel)) ggX6_action_X4_actionFor
set_option maxRecDepth 20000 in
theorem ggX6_action_X6_actionAnswer : GoodIn wsX6_action wsX6_actionAnswer := goodIn_r _ [38] (by decide +kernel) (by decide +kernel)
set_option maxRecDepth 20000 in
theorem gX6_action_X6_actionAnswer : GoodIn wsX6_action (va_wsS RX6 112 yX6_actionAnswer wsX6_actionAnswer) := goodIn_app (goodIn_of _ (by decide +kernel)) ggX6_action_X6_actionAnswer
theorem dX6_action_0 : decode cX6_action 0 = .ok (.aload_n 0, 1) := by decide +kernel
theorem dX6_action_1 : decode cX6_action 1 = .ok (.getfield 12, 3) := by decide +kernel
theorem dX6_action_4 : decode cX6_action 4 = .ok (.iload_n 1, 1) := by decide +kernel
theorem dX6_action_5 : decode cX6_action 5 = .ok (.invokevirtual 82, 3) := by decide +kernel
theorem dX6_action_8 : decode cX6_action 8 = .ok (.ifCond .ne 6, 3) := by decide +kernel
theorem dX6_action_11 : decode cX6_action 11 = .ok (.bipush (-5), 2) := by decide +kernel
theorem dX6_action_13 : decode cX6_action 13 = .ok (.ireturn, 1) := by decide +kernel
theorem dX6_action_14 : decode cX6_action 14 = .ok (.aload_n 0, 1) := by decide +kernel
theorem dX6_action_15 : decode cX6_action 15 = .ok (.getfield 12, 3) := by decide +kernel
theorem dX6_action_18 : decode cX6_action 18 = .ok (.iload_n 1, 1) := by decide +kernel
theorem dX6_action_19 : decode cX6_action 19 = .ok (.invokevirtual 152, 3) := by decide +kernel
theorem dX6_action_22 : decode cX6_action 22 = .ok (.invokestatic 112, 3) := by decide +kernel
theorem dX6_action_25 : decode cX6_action 25 = .ok (.ireturn, 1) := by decide +kernel
set_option maxRecDepth 20000 in
theorem ggX6_gapCount_X4_rulesFor : GoodIn wsX6_gapCount wsX4_rulesFor := goodIn_r _ [7, 8, 9, 10, 11, 12, 13, 6, 14, 15, 16, 17, 18, 19, 20, 21, 31, 32, 33, 34, 35, 36, 37, 38, 39, 40, 41] (by decide +kernel) (by decide +kernel)
set_option maxRecDepth 20000 in
theorem gX6_gapCount_X4_rulesFor : GoodIn wsX6_gapCount (wsV RX6 149 RX4 yX4_rulesFor wsX4_rulesFor) := goodIn_app (goodIn_of _ (by decide +kernel)) ggX6_gapCount_X4_rulesFor
theorem dX6_gapCount_0 : decode cX6_gapCount 0 = .ok (.iconst 0, 1) := by decide +kernel
theorem dX6_gapCount_1 : decode cX6_gapCount 1 = .ok (.istore_n 1, 1) := by decide +kernel
theorem dX6_gapCount_2 : decode cX6_gapCount 2 = .ok (.iconst 0, 1) := by decide +kernel
theorem dX6_gapCount_3 : decode cX6_gapCount 3 = .ok (.istore_n 2, 1) := by decide +kernel
theorem dX6_gapCount_4 : decode cX6_gapCount 4 = .ok (.iload_n 2, 1) := by decide +kernel
theorem dX6_gapCount_5 : decode cX6_gapCount 5 = .ok (.aload_n 0, 1) := by decide +kernel
theorem dX6_gapCount_6 : decode cX6_gapCount 6 = .ok (.getfield 12, 3) := by decide +kernel
theorem dX6_gapCount_9 : decode cX6_gapCount 9 = .ok (.getfield 75, 3) := by decide +kernel
theorem dX6_gapCount_12 : decode cX6_gapCount 12 = .ok (.if_icmp .ge 23, 3) := by decide +kernel
theorem dX6_gapCount_15 : decode cX6_gapCount 15 = .ok (.aload_n 0, 1) := by decide +kernel
theorem dX6_gapCount_16 : decode cX6_gapCount 16 = .ok (.getfield 12, 3) := by decide +kernel
theorem dX6_gapCount_19 : decode cX6_gapCount 19 = .ok (.iload_n 2, 1) := by decide +kernel
theorem dX6_gapCount_20 : decode cX6_gapCount 20 = .ok (.invokevirtual 149, 3) := by decide +kernel
theorem dX6_gapCount_23 : decode cX6_gapCount 23 = .ok (.ifCond .ne 6, 3) := by decide +kernel
theorem dX6_gapCount_26 : decode cX6_gapCount 26 = .ok (.iinc 1 1, 3) := by decide +kernel
theorem dX6_gapCount_29 : decode cX6_gapCount 29 = .ok (.iinc 2 1, 3) := by decide +kernel
theorem dX6_gapCount_32 : decode cX6_gapCount 32 = .ok (.goto (-28), 3) := by decide +kernel
theorem dX6_gapCount_35 : decode cX6_gapCount 35 = .ok (.iload_n 1, 1) := by decide +kernel
theorem dX6_gapCount_36 : decode cX6_gapCount 36 = .ok (.ireturn, 1) := by decide +kernel
set_option maxRecDepth 20000 in
theorem ggX6_gap_X4_rulesFor : GoodIn wsX6_gap wsX4_rulesFor := goodIn_r _ [7, 8, 9, 10, 11, 12, 13, 6, 14, 15, 16, 17, 18, 19, 20, 21, 31, 32, 33, 34, 35, 36, 37, 38, 39, 40, 41] (by decide +kernel) (by decide +kernel)
set_option maxRecDepth 20000 in
theorem gX6_gap_X4_rulesFor : GoodIn wsX6_gap (wsV RX6 149 RX4 yX4_rulesFor wsX4_rulesFor) := goodIn_app (goodIn_of _ (by decide +kernel)) ggX6_gap_X4_rulesFor
theorem dX6_gap_0 : decode cX6_gap 0 = .ok (.iconst 0, 1) := by decide +kernel
theorem dX6_gap_1 : decode cX6_gap 1 = .ok (.istore_n 2, 1) := by decide +kernel
theorem dX6_gap_2 : decode cX6_gap 2 = .ok (.iconst 0, 1) := by decide +kernel
theorem dX6_gap_3 : decode cX6_gap 3 = .ok (.istore_n 3, 1) := by decide +kernel
theorem dX6_gap_4 : decode cX6_gap 4 = .ok (.iload_n 3, 1) := by decide +kernel
theorem dX6_gap_5 : decode cX6_gap 5 = .ok (.aload_n 0, 1) := by decide +kernel
theorem dX6_gap_6 : decode cX6_gap 6 = .ok (.getfield 12, 3) := by decide +kernel
theorem dX6_gap_9 : decode cX6_gap 9 = .ok (.getfield 75, 3) := by decide +kernel
theorem dX6_gap_12 : decode cX6_gap 12 = .ok (.if_icmp .ge 30, 3) := by decide +kernel
theorem dX6_gap_15 : decode cX6_gap 15 = .ok (.aload_n 0, 1) := by decide +kernel
theorem dX6_gap_16 : decode cX6_gap 16 = .ok (.getfield 12, 3) := by decide +kernel
theorem dX6_gap_19 : decode cX6_gap 19 = .ok (.iload_n 3, 1) := by decide +kernel
theorem dX6_gap_20 : decode cX6_gap 20 = .ok (.invokevirtual 149, 3) := by decide +kernel
theorem dX6_gap_23 : decode cX6_gap 23 = .ok (.ifCond .ne 13, 3) := by decide +kernel
theorem dX6_gap_26 : decode cX6_gap 26 = .ok (.iload_n 2, 1) := by decide +kernel
theorem dX6_gap_27 : decode cX6_gap 27 = .ok (.iload_n 1, 1) := by decide +kernel
theorem dX6_gap_28 : decode cX6_gap 28 = .ok (.if_icmp .ne 5, 3) := by decide +kernel
theorem dX6_gap_31 : decode cX6_gap 31 = .ok (.iload_n 3, 1) := by decide +kernel
theorem dX6_gap_32 : decode cX6_gap 32 = .ok (.ireturn, 1) := by decide +kernel
theorem dX6_gap_33 : decode cX6_gap 33 = .ok (.iinc 2 1, 3) := by decide +kernel
theorem dX6_gap_36 : decode cX6_gap 36 = .ok (.iinc 3 1, 3) := by decide +kernel
theorem dX6_gap_39 : decode cX6_gap 39 = .ok (.goto (-35), 3) := by decide +kernel
theorem dX6_gap_42 : decode cX6_gap 42 = .ok (.bipush (-6), 2) := by decide +kernel
theorem dX6_gap_44 : decode cX6_gap 44 = .ok (.ireturn, 1) := by decide +kernel
set_option maxRecDepth 20000 in
theorem ggX6_gapWeight_X4_rulesFor : GoodIn wsX6_gapWeight wsX4_rulesFor := goodIn_r _ [7, 8, 9, 10, 11, 12, 13, 6, 14, 15, 16, 17, 18, 19, 20, 21, 36, 37, 38, 39, 40, 41, 42, 43, 44, 45, 46] (by decide +kernel) (by decide +kernel)
set_option maxRecDepth 20000 in
theorem gX6_gapWeight_X4_rulesFor : GoodIn wsX6_gapWeight (wsV RX6 149 RX4 yX4_rulesFor wsX4_rulesFor) := goodIn_app (goodIn_of _ (by decide +kernel)) ggX6_gapWeight_X4_rulesFor
set_option maxRecDepth 20000 in
theorem ggX6_gapWeight_X4_weightOf : GoodIn wsX6_gapWeight wsX4_weightOf := goodIn_r _ [25, 9, 26, 11, 12, 13, 6, 14, 15, 16, 17, 18, 19, 20, 21, 36, 37, 38, 39, 40, 41, 42, 43, 44, 45, 46] (by decide +kernel) (by decide +kernel)
set_option maxRecDepth 20000 in
theorem gX6_gapWeight_X4_weightOf : GoodIn wsX6_gapWeight (wsV RX6 155 RX4 yX4_weightOf wsX4_weightOf) := goodIn_app (goodIn_of _ (by decide +kernel)) ggX6_gapWeight_X4_weightOf
theorem dX6_gapWeight_0 : decode cX6_gapWeight 0 = .ok (.lconst 0, 1) := by decide +kernel
theorem dX6_gapWeight_1 : decode cX6_gapWeight 1 = .ok (.lstore_n 1, 1) := by decide +kernel
theorem dX6_gapWeight_2 : decode cX6_gapWeight 2 = .ok (.iconst 0, 1) := by decide +kernel
theorem dX6_gapWeight_3 : decode cX6_gapWeight 3 = .ok (.istore_n 3, 1) := by decide +kernel
theorem dX6_gapWeight_4 : decode cX6_gapWeight 4 = .ok (.iload_n 3, 1) := by decide +kernel
theorem dX6_gapWeight_5 : decode cX6_gapWeight 5 = .ok (.aload_n 0, 1) := by decide +kernel
theorem dX6_gapWeight_6 : decode cX6_gapWeight 6 = .ok (.getfield 12, 3) := by decide +kernel
theorem dX6_gapWeight_9 : decode cX6_gapWeight 9 = .ok (.getfield 75, 3) := by decide +kernel
theorem dX6_gapWeight_12 : decode cX6_gapWeight 12 = .ok (.if_icmp .ge 32, 3) := by decide +kernel
theorem dX6_gapWeight_15 : decode cX6_gapWeight 15 = .ok (.aload_n 0, 1) := by decide +kernel
theorem dX6_gapWeight_16 : decode cX6_gapWeight 16 = .ok (.getfield 12, 3) := by decide +kernel
theorem dX6_gapWeight_19 : decode cX6_gapWeight 19 = .ok (.iload_n 3, 1) := by decide +kernel
theorem dX6_gapWeight_20 : decode cX6_gapWeight 20 = .ok (.invokevirtual 149, 3) := by decide +kernel
theorem dX6_gapWeight_23 : decode cX6_gapWeight 23 = .ok (.ifCond .ne 15, 3) := by decide +kernel
theorem dX6_gapWeight_26 : decode cX6_gapWeight 26 = .ok (.lload_n 1, 1) := by decide +kernel
theorem dX6_gapWeight_27 : decode cX6_gapWeight 27 = .ok (.aload_n 0, 1) := by decide +kernel
theorem dX6_gapWeight_28 : decode cX6_gapWeight 28 = .ok (.getfield 12, 3) := by decide +kernel
theorem dX6_gapWeight_31 : decode cX6_gapWeight 31 = .ok (.iload_n 3, 1) := by decide +kernel
theorem dX6_gapWeight_32 : decode cX6_gapWeight 32 = .ok (.invokevirtual 155, 3) := by decide +kernel
theorem dX6_gapWeight_35 : decode cX6_gapWeight 35 = .ok (.i2l, 1) := by decide +kernel
theorem dX6_gapWeight_36 : decode cX6_gapWeight 36 = .ok (.ladd, 1) := by decide +kernel
theorem dX6_gapWeight_37 : decode cX6_gapWeight 37 = .ok (.lstore_n 1, 1) := by decide +kernel
theorem dX6_gapWeight_38 : decode cX6_gapWeight 38 = .ok (.iinc 3 1, 3) := by decide +kernel
theorem dX6_gapWeight_41 : decode cX6_gapWeight 41 = .ok (.goto (-37), 3) := by decide +kernel
theorem dX6_gapWeight_44 : decode cX6_gapWeight 44 = .ok (.lload_n 1, 1) := by decide +kernel
theorem dX6_gapWeight_45 : decode cX6_gapWeight 45 = .ok (.lreturn, 1) := by decide +kernel
set_option maxRecDepth 20000 in
theorem ggX6_conflictCount_X4_inConflict : GoodIn wsX6_conflictCount wsX4_inConflict := goodIn_r _ [7, 8, 9, 10, 11, 12, 6, 13, 14, 24, 25, 26, 27, 28, 29, 30, 31, 32, 33, 34] (by decide +kernel) (by decide +kernel)
set_option maxRecDepth 20000 in
theorem gX6_conflictCount_X4_inConflict : GoodIn wsX6_conflictCount (wsV RX6 158 RX4 yX4_inConflict wsX4_inConflict) := goodIn_app (goodIn_of _ (by decide +kernel)) ggX6_conflictCount_X4_inConflict
theorem dX6_conflictCount_0 : decode cX6_conflictCount 0 = .ok (.iconst 0, 1) := by decide +kernel
theorem dX6_conflictCount_1 : decode cX6_conflictCount 1 = .ok (.istore_n 1, 1) := by decide +kernel
theorem dX6_conflictCount_2 : decode cX6_conflictCount 2 = .ok (.iconst 0, 1) := by decide +kernel
theorem dX6_conflictCount_3 : decode cX6_conflictCount 3 = .ok (.istore_n 2, 1) := by decide +kernel
theorem dX6_conflictCount_4 : decode cX6_conflictCount 4 = .ok (.iload_n 2, 1) := by decide +kernel
theorem dX6_conflictCount_5 : decode cX6_conflictCount 5 = .ok (.aload_n 0, 1) := by decide +kernel
theorem dX6_conflictCount_6 : decode cX6_conflictCount 6 = .ok (.getfield 12, 3) := by decide +kernel
theorem dX6_conflictCount_9 : decode cX6_conflictCount 9 = .ok (.getfield 122, 3) := by decide +kernel
theorem dX6_conflictCount_12 : decode cX6_conflictCount 12 = .ok (.if_icmp .ge 45, 3) := by decide +kernel
theorem dX6_conflictCount_15 : decode cX6_conflictCount 15 = .ok (.iload_n 2, 1) := by decide +kernel
theorem dX6_conflictCount_16 : decode cX6_conflictCount 16 = .ok (.iconst 1, 1) := by decide +kernel
theorem dX6_conflictCount_17 : decode cX6_conflictCount 17 = .ok (.iadd, 1) := by decide +kernel
theorem dX6_conflictCount_18 : decode cX6_conflictCount 18 = .ok (.istore_n 3, 1) := by decide +kernel
theorem dX6_conflictCount_19 : decode cX6_conflictCount 19 = .ok (.iload_n 3, 1) := by decide +kernel
theorem dX6_conflictCount_20 : decode cX6_conflictCount 20 = .ok (.aload_n 0, 1) := by decide +kernel
theorem dX6_conflictCount_21 : decode cX6_conflictCount 21 = .ok (.getfield 12, 3) := by decide +kernel
theorem dX6_conflictCount_24 : decode cX6_conflictCount 24 = .ok (.getfield 122, 3) := by decide +kernel
theorem dX6_conflictCount_27 : decode cX6_conflictCount 27 = .ok (.if_icmp .ge 24, 3) := by decide +kernel
theorem dX6_conflictCount_30 : decode cX6_conflictCount 30 = .ok (.aload_n 0, 1) := by decide +kernel
theorem dX6_conflictCount_31 : decode cX6_conflictCount 31 = .ok (.getfield 12, 3) := by decide +kernel
theorem dX6_conflictCount_34 : decode cX6_conflictCount 34 = .ok (.iload_n 2, 1) := by decide +kernel
theorem dX6_conflictCount_35 : decode cX6_conflictCount 35 = .ok (.iload_n 3, 1) := by decide +kernel
theorem dX6_conflictCount_36 : decode cX6_conflictCount 36 = .ok (.invokevirtual 158, 3) := by decide +kernel
theorem dX6_conflictCount_39 : decode cX6_conflictCount 39 = .ok (.ifCond .eq 6, 3) := by decide +kernel
theorem dX6_conflictCount_42 : decode cX6_conflictCount 42 = .ok (.iinc 1 1, 3) := by decide +kernel
theorem dX6_conflictCount_45 : decode cX6_conflictCount 45 = .ok (.iinc 3 1, 3) := by decide +kernel
theorem dX6_conflictCount_48 : decode cX6_conflictCount 48 = .ok (.goto (-29), 3) := by decide +kernel
theorem dX6_conflictCount_51 : decode cX6_conflictCount 51 = .ok (.iinc 2 1, 3) := by decide +kernel
theorem dX6_conflictCount_54 : decode cX6_conflictCount 54 = .ok (.goto (-50), 3) := by decide +kernel
theorem dX6_conflictCount_57 : decode cX6_conflictCount 57 = .ok (.iload_n 1, 1) := by decide +kernel
theorem dX6_conflictCount_58 : decode cX6_conflictCount 58 = .ok (.ireturn, 1) := by decide +kernel
set_option maxRecDepth 20000 in
theorem ggX6_conflict_X4_inConflict : GoodIn wsX6_conflict wsX4_inConflict := goodIn_r _ [7, 8, 9, 10, 11, 12, 6, 13, 14, 37, 38, 39, 40, 41, 42, 43, 44, 45, 46, 47] (by decide +kernel) (by decide +kernel)
set_option maxRecDepth 20000 in
theorem gX6_conflict_X4_inConflict : GoodIn wsX6_conflict (wsV RX6 158 RX4 yX4_inConflict wsX4_inConflict) := goodIn_app (goodIn_of _ (by decide +kernel)) ggX6_conflict_X4_inConflict
set_option maxRecDepth 20000 in
theorem ggX6_conflict_X6_conflictAnswer : GoodIn wsX6_conflict wsX6_conflictAnswer := goodIn_r _ [19, 1, 20, 21, 22, 6, 23, 9, 24, 10, 11, 12, 13, 14, 25, 26, 27, 28, 29, 30, 31, 32, 33, 34, 35, 36, 37, 38, 39, 40, 41, 42, 43, 44, 45, 46, 47] (by decide +kernel) (by decide +kernel)
set_option maxRecDepth 20000 in
theorem gX6_conflict_X6_conflictAnswer : GoodIn wsX6_conflict (wsV RX6 161 RX6 yX6_conflictAnswer wsX6_conflictAnswer) := goodIn_app (goodIn_of _ (by decide +kernel)) ggX6_conflict_X6_conflictAnswer
theorem dX6_conflict_0 : decode cX6_conflict 0 = .ok (.iload_n 2, 1) := by decide +kernel
theorem dX6_conflict_1 : decode cX6_conflict 1 = .ok (.ifCond .lt 8, 3) := by decide +kernel
theorem dX6_conflict_4 : decode cX6_conflict 4 = .ok (.iload_n 2, 1) := by decide +kernel
theorem dX6_conflict_5 : decode cX6_conflict 5 = .ok (.iconst 2, 1) := by decide +kernel
theorem dX6_conflict_6 : decode cX6_conflict 6 = .ok (.if_icmp .le 5, 3) := by decide +kernel
theorem dX6_conflict_9 : decode cX6_conflict 9 = .ok (.iconst (-1), 1) := by decide +kernel
theorem dX6_conflict_10 : decode cX6_conflict 10 = .ok (.ireturn, 1) := by decide +kernel
theorem dX6_conflict_11 : decode cX6_conflict 11 = .ok (.iconst 0, 1) := by decide +kernel
theorem dX6_conflict_12 : decode cX6_conflict 12 = .ok (.istore_n 3, 1) := by decide +kernel
theorem dX6_conflict_13 : decode cX6_conflict 13 = .ok (.iconst 0, 1) := by decide +kernel
theorem dX6_conflict_14 : decode cX6_conflict 14 = .ok (.istore 4, 2) := by decide +kernel
theorem dX6_conflict_16 : decode cX6_conflict 16 = .ok (.iload 4, 2) := by decide +kernel
theorem dX6_conflict_18 : decode cX6_conflict 18 = .ok (.aload_n 0, 1) := by decide +kernel
theorem dX6_conflict_19 : decode cX6_conflict 19 = .ok (.getfield 12, 3) := by decide +kernel
theorem dX6_conflict_22 : decode cX6_conflict 22 = .ok (.getfield 122, 3) := by decide +kernel
theorem dX6_conflict_25 : decode cX6_conflict 25 = .ok (.if_icmp .ge 65, 3) := by decide +kernel
theorem dX6_conflict_28 : decode cX6_conflict 28 = .ok (.iload 4, 2) := by decide +kernel
theorem dX6_conflict_30 : decode cX6_conflict 30 = .ok (.iconst 1, 1) := by decide +kernel
theorem dX6_conflict_31 : decode cX6_conflict 31 = .ok (.iadd, 1) := by decide +kernel
theorem dX6_conflict_32 : decode cX6_conflict 32 = .ok (.istore 5, 2) := by decide +kernel
theorem dX6_conflict_34 : decode cX6_conflict 34 = .ok (.iload 5, 2) := by decide +kernel
theorem dX6_conflict_36 : decode cX6_conflict 36 = .ok (.aload_n 0, 1) := by decide +kernel
theorem dX6_conflict_37 : decode cX6_conflict 37 = .ok (.getfield 12, 3) := by decide +kernel
theorem dX6_conflict_40 : decode cX6_conflict 40 = .ok (.getfield 122, 3) := by decide +kernel
theorem dX6_conflict_43 : decode cX6_conflict 43 = .ok (.if_icmp .ge 41, 3) := by decide +kernel
theorem dX6_conflict_46 : decode cX6_conflict 46 = .ok (.aload_n 0, 1) := by decide +kernel
theorem dX6_conflict_47 : decode cX6_conflict 47 = .ok (.getfield 12, 3) := by decide +kernel
theorem dX6_conflict_50 : decode cX6_conflict 50 = .ok (.iload 4, 2) := by decide +kernel
theorem dX6_conflict_52 : decode cX6_conflict 52 = .ok (.iload 5, 2) := by decide +kernel
theorem dX6_conflict_54 : decode cX6_conflict 54 = .ok (.invokevirtual 158, 3) := by decide +kernel
theorem dX6_conflict_57 : decode cX6_conflict 57 = .ok (.ifCond .eq 21, 3) := by decide +kernel
theorem dX6_conflict_60 : decode cX6_conflict 60 = .ok (.iload_n 3, 1) := by decide +kernel
theorem dX6_conflict_61 : decode cX6_conflict 61 = .ok (.iload_n 1, 1) := by decide +kernel
theorem dX6_conflict_62 : decode cX6_conflict 62 = .ok (.if_icmp .ne 13, 3) := by decide +kernel
theorem dX6_conflict_65 : decode cX6_conflict 65 = .ok (.aload_n 0, 1) := by decide +kernel
theorem dX6_conflict_66 : decode cX6_conflict 66 = .ok (.iload 4, 2) := by decide +kernel
theorem dX6_conflict_68 : decode cX6_conflict 68 = .ok (.iload 5, 2) := by decide +kernel
theorem dX6_conflict_70 : decode cX6_conflict 70 = .ok (.iload_n 2, 1) := by decide +kernel
theorem dX6_conflict_71 : decode cX6_conflict 71 = .ok (.invokevirtual 161, 3) := by decide +kernel
theorem dX6_conflict_74 : decode cX6_conflict 74 = .ok (.ireturn, 1) := by decide +kernel
theorem dX6_conflict_75 : decode cX6_conflict 75 = .ok (.iinc 3 1, 3) := by decide +kernel
theorem dX6_conflict_78 : decode cX6_conflict 78 = .ok (.iinc 5 1, 3) := by decide +kernel
theorem dX6_conflict_81 : decode cX6_conflict 81 = .ok (.goto (-47), 3) := by decide +kernel
theorem dX6_conflict_84 : decode cX6_conflict 84 = .ok (.iinc 4 1, 3) := by decide +kernel
theorem dX6_conflict_87 : decode cX6_conflict 87 = .ok (.goto (-71), 3) := by decide +kernel
theorem dX6_conflict_90 : decode cX6_conflict 90 = .ok (.bipush (-6), 2) := by decide +kernel
theorem dX6_conflict_92 : decode cX6_conflict 92 = .ok (.ireturn, 1) := by decide +kernel
set_option maxRecDepth 20000 in
theorem ggX6_isShadowed_X4_hasRule : GoodIn wsX6_isShadowed wsX4_hasRule := goodIn_r _ [6, 7, 39, 40, 41, 42, 43, 44, 45, 46, 47, 48, 49] (by decide +kernel) (by decide +kernel)
set_option maxRecDepth 20000 in
theorem gX6_isShadowed_X4_hasRule : GoodIn wsX6_isShadowed (wsV RX6 128 RX4 yX4_hasRule wsX4_hasRule) := goodIn_app (goodIn_of _ (by decide +kernel)) ggX6_isShadowed_X4_hasRule
set_option maxRecDepth 20000 in
theorem ggX6_isShadowed_X4_deciding : GoodIn wsX6_isShadowed wsX4_deciding := goodIn_r _ [11, 12, 13, 14, 15, 5, 16, 7, 17, 18, 19, 20, 21, 22, 23, 24, 25, 26, 27, 28, 29, 39, 40, 41, 42, 43, 44, 45, 46, 47, 48, 49] (by decide +kernel) (by decide +kernel)
set_option maxRecDepth 20000 in
theorem gX6_isShadowed_X4_deciding : GoodIn wsX6_isShadowed (wsV RX6 165 RX4 yX4_deciding wsX4_deciding) := goodIn_app (goodIn_of _ (by decide +kernel)) ggX6_isShadowed_X4_deciding
theorem dX6_isShadowed_0 : decode cX6_isShadowed 0 = .ok (.aload_n 0, 1) := by decide +kernel
theorem dX6_isShadowed_1 : decode cX6_isShadowed 1 = .ok (.getfield 12, 3) := by decide +kernel
theorem dX6_isShadowed_4 : decode cX6_isShadowed 4 = .ok (.iload_n 1, 1) := by decide +kernel
theorem dX6_isShadowed_5 : decode cX6_isShadowed 5 = .ok (.invokevirtual 128, 3) := by decide +kernel
theorem dX6_isShadowed_8 : decode cX6_isShadowed 8 = .ok (.ifCond .ne 6, 3) := by decide +kernel
theorem dX6_isShadowed_11 : decode cX6_isShadowed 11 = .ok (.bipush (-3), 2) := by decide +kernel
theorem dX6_isShadowed_13 : decode cX6_isShadowed 13 = .ok (.ireturn, 1) := by decide +kernel
theorem dX6_isShadowed_14 : decode cX6_isShadowed 14 = .ok (.aload_n 0, 1) := by decide +kernel
theorem dX6_isShadowed_15 : decode cX6_isShadowed 15 = .ok (.getfield 12, 3) := by decide +kernel
theorem dX6_isShadowed_18 : decode cX6_isShadowed 18 = .ok (.invokevirtual 165, 3) := by decide +kernel
theorem dX6_isShadowed_21 : decode cX6_isShadowed 21 = .ok (.iload_n 1, 1) := by decide +kernel
theorem dX6_isShadowed_22 : decode cX6_isShadowed 22 = .ok (.ishr, 1) := by decide +kernel
theorem dX6_isShadowed_23 : decode cX6_isShadowed 23 = .ok (.iconst 1, 1) := by decide +kernel
theorem dX6_isShadowed_24 : decode cX6_isShadowed 24 = .ok (.iand, 1) := by decide +kernel
theorem dX6_isShadowed_25 : decode cX6_isShadowed 25 = .ok (.ifCond .ne 7, 3) := by decide +kernel
theorem dX6_isShadowed_28 : decode cX6_isShadowed 28 = .ok (.iconst 1, 1) := by decide +kernel
theorem dX6_isShadowed_29 : decode cX6_isShadowed 29 = .ok (.goto 4, 3) := by decide +kernel
theorem dX6_isShadowed_32 : decode cX6_isShadowed 32 = .ok (.iconst 0, 1) := by decide +kernel
theorem dX6_isShadowed_33 : decode cX6_isShadowed 33 = .ok (.ireturn, 1) := by decide +kernel
set_option maxRecDepth 20000 in
theorem ggX6_removeShadowed_X4_deciding : GoodIn wsX6_removeShadowed wsX4_deciding := goodIn_r _ [8, 9, 10, 11, 12, 7, 13, 14, 15, 16, 17, 18, 19, 20, 21, 22, 23, 24, 25, 26, 27, 59, 60, 61, 62, 63, 64, 65, 66, 67, 68, 69] (by decide +kernel) (by decide +kernel)
set_option maxRecDepth 20000 in
theorem gX6_removeShadowed_X4_deciding : GoodIn wsX6_removeShadowed (wsV RX6 165 RX4 yX4_deciding wsX4_deciding) := goodIn_app (goodIn_of _ (by decide +kernel)) ggX6_removeShadowed_X4_deciding
set_option maxRecDepth 20000 in
theorem ggX6_removeShadowed_X4_dropRule : GoodIn wsX6_removeShadowed wsX4_dropRule := goodIn_r _ [31, 14, 32, 33, 34, 7, 35, 36, 37, 38, 39, 40, 41, 42, 43, 44, 45, 15, 22, 16, 46, 47, 48, 49, 59, 60, 61, 62, 63, 64, 65, 66, 67, 68, 69] (by decide +kernel) (by decide +kernel)
set_option maxRecDepth 20000 in
theorem gX6_removeShadowed_X4_dropRule : GoodIn wsX6_removeShadowed (wsV RX6 131 RX4 yX4_dropRule wsX4_dropRule) := goodIn_app (goodIn_of _ (by decide +kernel)) ggX6_removeShadowed_X4_dropRule
theorem dX6_removeShadowed_0 : decode cX6_removeShadowed 0 = .ok (.aload_n 0, 1) := by decide +kernel
theorem dX6_removeShadowed_1 : decode cX6_removeShadowed 1 = .ok (.getfield 12, 3) := by decide +kernel
theorem dX6_removeShadowed_4 : decode cX6_removeShadowed 4 = .ok (.invokevirtual 165, 3) := by decide +kernel
theorem dX6_removeShadowed_7 : decode cX6_removeShadowed 7 = .ok (.istore_n 1, 1) := by decide +kernel
theorem dX6_removeShadowed_8 : decode cX6_removeShadowed 8 = .ok (.aload_n 0, 1) := by decide +kernel
theorem dX6_removeShadowed_9 : decode cX6_removeShadowed 9 = .ok (.getfield 12, 3) := by decide +kernel
theorem dX6_removeShadowed_12 : decode cX6_removeShadowed 12 = .ok (.getfield 122, 3) := by decide +kernel
theorem dX6_removeShadowed_15 : decode cX6_removeShadowed 15 = .ok (.istore_n 2, 1) := by decide +kernel
theorem dX6_removeShadowed_16 : decode cX6_removeShadowed 16 = .ok (.iload_n 2, 1) := by decide +kernel
theorem dX6_removeShadowed_17 : decode cX6_removeShadowed 17 = .ok (.iconst 1, 1) := by decide +kernel
theorem dX6_removeShadowed_18 : decode cX6_removeShadowed 18 = .ok (.isub, 1) := by decide +kernel
theorem dX6_removeShadowed_19 : decode cX6_removeShadowed 19 = .ok (.istore_n 3, 1) := by decide +kernel
theorem dX6_removeShadowed_20 : decode cX6_removeShadowed 20 = .ok (.iload_n 3, 1) := by decide +kernel
theorem dX6_removeShadowed_21 : decode cX6_removeShadowed 21 = .ok (.ifCond .lt 30, 3) := by decide +kernel
theorem dX6_removeShadowed_24 : decode cX6_removeShadowed 24 = .ok (.iload_n 1, 1) := by decide +kernel
theorem dX6_removeShadowed_25 : decode cX6_removeShadowed 25 = .ok (.iload_n 3, 1) := by decide +kernel
theorem dX6_removeShadowed_26 : decode cX6_removeShadowed 26 = .ok (.ishr, 1) := by decide +kernel
theorem dX6_removeShadowed_27 : decode cX6_removeShadowed 27 = .ok (.iconst 1, 1) := by decide +kernel
theorem dX6_removeShadowed_28 : decode cX6_removeShadowed 28 = .ok (.iand, 1) := by decide +kernel
theorem dX6_removeShadowed_29 : decode cX6_removeShadowed 29 = .ok (.ifCond .ne 16, 3) := by decide +kernel
theorem dX6_removeShadowed_32 : decode cX6_removeShadowed 32 = .ok (.aload_n 0, 1) := by decide +kernel
theorem dX6_removeShadowed_33 : decode cX6_removeShadowed 33 = .ok (.getfield 12, 3) := by decide +kernel
theorem dX6_removeShadowed_36 : decode cX6_removeShadowed 36 = .ok (.iload_n 3, 1) := by decide +kernel
theorem dX6_removeShadowed_37 : decode cX6_removeShadowed 37 = .ok (.invokevirtual 131, 3) := by decide +kernel
theorem dX6_removeShadowed_40 : decode cX6_removeShadowed 40 = .ok (.aload_n 0, 1) := by decide +kernel
theorem dX6_removeShadowed_41 : decode cX6_removeShadowed 41 = .ok (.iconst 0, 1) := by decide +kernel
theorem dX6_removeShadowed_42 : decode cX6_removeShadowed 42 = .ok (.putfield 64, 3) := by decide +kernel
theorem dX6_removeShadowed_45 : decode cX6_removeShadowed 45 = .ok (.iinc 3 (-1), 3) := by decide +kernel
theorem dX6_removeShadowed_48 : decode cX6_removeShadowed 48 = .ok (.goto (-28), 3) := by decide +kernel
theorem dX6_removeShadowed_51 : decode cX6_removeShadowed 51 = .ok (.iload_n 2, 1) := by decide +kernel
theorem dX6_removeShadowed_52 : decode cX6_removeShadowed 52 = .ok (.aload_n 0, 1) := by decide +kernel
theorem dX6_removeShadowed_53 : decode cX6_removeShadowed 53 = .ok (.getfield 12, 3) := by decide +kernel
theorem dX6_removeShadowed_56 : decode cX6_removeShadowed 56 = .ok (.getfield 122, 3) := by decide +kernel
theorem dX6_removeShadowed_59 : decode cX6_removeShadowed 59 = .ok (.isub, 1) := by decide +kernel
theorem dX6_removeShadowed_60 : decode cX6_removeShadowed 60 = .ok (.ireturn, 1) := by decide +kernel
set_option maxRecDepth 20000 in
theorem ggX6_mergeRules_X4_firstMergeable : GoodIn wsX6_mergeRules wsX4_firstMergeable := goodIn_r _ [8, 9, 10, 11, 12, 13, 7, 14, 15, 16, 17, 18, 19, 20, 52, 53, 54, 55, 56, 57, 58, 59, 60, 61, 62] (by decide +kernel) (by decide +kernel)
set_option maxRecDepth 20000 in
theorem gX6_mergeRules_X4_firstMergeable : GoodIn wsX6_mergeRules (wsV RX6 169 RX4 yX4_firstMergeable wsX4_firstMergeable) := goodIn_app (goodIn_of _ (by decide +kernel)) ggX6_mergeRules_X4_firstMergeable
set_option maxRecDepth 20000 in
theorem ggX6_mergeRules_X4_mergeWithNext : GoodIn wsX6_mergeRules wsX4_mergeWithNext := goodIn_r _ [24, 15, 20, 16, 17, 18, 7, 19, 25, 26, 27, 28, 9, 29, 30, 31, 32, 33, 34, 35, 36, 10, 37, 38, 39, 40, 41, 42, 52, 53, 54, 55, 56, 57, 58, 59, 60, 61, 62] (by decide +kernel) (by decide +kernel)
set_option maxRecDepth 20000 in
theorem gX6_mergeRules_X4_mergeWithNext : GoodIn wsX6_mergeRules (wsV RX6 172 RX4 yX4_mergeWithNext wsX4_mergeWithNext) := goodIn_app (goodIn_of _ (by decide +kernel)) ggX6_mergeRules_X4_mergeWithNext
theorem dX6_mergeRules_0 : decode cX6_mergeRules 0 = .ok (.iconst 0, 1) := by decide +kernel
theorem dX6_mergeRules_1 : decode cX6_mergeRules 1 = .ok (.istore_n 1, 1) := by decide +kernel
theorem dX6_mergeRules_2 : decode cX6_mergeRules 2 = .ok (.iload_n 1, 1) := by decide +kernel
theorem dX6_mergeRules_3 : decode cX6_mergeRules 3 = .ok (.bipush 12, 2) := by decide +kernel
theorem dX6_mergeRules_5 : decode cX6_mergeRules 5 = .ok (.if_icmp .ge 37, 3) := by decide +kernel
theorem dX6_mergeRules_8 : decode cX6_mergeRules 8 = .ok (.aload_n 0, 1) := by decide +kernel
theorem dX6_mergeRules_9 : decode cX6_mergeRules 9 = .ok (.getfield 12, 3) := by decide +kernel
theorem dX6_mergeRules_12 : decode cX6_mergeRules 12 = .ok (.invokevirtual 169, 3) := by decide +kernel
theorem dX6_mergeRules_15 : decode cX6_mergeRules 15 = .ok (.istore_n 2, 1) := by decide +kernel
theorem dX6_mergeRules_16 : decode cX6_mergeRules 16 = .ok (.iload_n 2, 1) := by decide +kernel
theorem dX6_mergeRules_17 : decode cX6_mergeRules 17 = .ok (.ifCond .ge 6, 3) := by decide +kernel
theorem dX6_mergeRules_20 : decode cX6_mergeRules 20 = .ok (.goto 22, 3) := by decide +kernel
theorem dX6_mergeRules_23 : decode cX6_mergeRules 23 = .ok (.aload_n 0, 1) := by decide +kernel
theorem dX6_mergeRules_24 : decode cX6_mergeRules 24 = .ok (.getfield 12, 3) := by decide +kernel
theorem dX6_mergeRules_27 : decode cX6_mergeRules 27 = .ok (.iload_n 2, 1) := by decide +kernel
theorem dX6_mergeRules_28 : decode cX6_mergeRules 28 = .ok (.invokevirtual 172, 3) := by decide +kernel
theorem dX6_mergeRules_31 : decode cX6_mergeRules 31 = .ok (.aload_n 0, 1) := by decide +kernel
theorem dX6_mergeRules_32 : decode cX6_mergeRules 32 = .ok (.iconst 0, 1) := by decide +kernel
theorem dX6_mergeRules_33 : decode cX6_mergeRules 33 = .ok (.putfield 64, 3) := by decide +kernel
theorem dX6_mergeRules_36 : decode cX6_mergeRules 36 = .ok (.iinc 1 1, 3) := by decide +kernel
theorem dX6_mergeRules_39 : decode cX6_mergeRules 39 = .ok (.goto (-37), 3) := by decide +kernel
theorem dX6_mergeRules_42 : decode cX6_mergeRules 42 = .ok (.aload_n 0, 1) := by decide +kernel
theorem dX6_mergeRules_43 : decode cX6_mergeRules 43 = .ok (.getfield 12, 3) := by decide +kernel
theorem dX6_mergeRules_46 : decode cX6_mergeRules 46 = .ok (.getfield 122, 3) := by decide +kernel
theorem dX6_mergeRules_49 : decode cX6_mergeRules 49 = .ok (.ireturn, 1) := by decide +kernel
set_option maxRecDepth 20000 in
theorem ggX6_compile_X1_plan : GoodIn wsX6_compile wsX1_plan := goodIn_r _ [10, 11, 12, 13, 14, 15, 16, 17, 18, 19, 9, 20, 21, 22, 23, 24, 25, 26, 27, 28, 29, 30, 31, 32, 33, 34, 35, 36, 37, 38, 39, 40, 41, 42, 43, 44, 45, 46, 47, 48, 49, 50, 51, 52, 53, 54, 55, 56, 57, 58, 59, 60, 61, 62, 63, 64, 65, 66, 67, 68, 69, 70, 71, 72, 73, 74, 75, 76, 77, 78, 79, 80, 81, 82, 83, 84, 85, 86, 167, 168, 169, 170, 171, 172, 173, 174, 175, 176, 177, 178, 179, 180, 181, 182] (by decide +kernel) (by decide +kernel)
set_option maxRecDepth 20000 in
theorem gX6_compile_X1_plan : GoodIn wsX6_compile (wsV RX6 175 RX1 yX1_plan wsX1_plan) := goodIn_app (goodIn_of _ (by decide +kernel)) ggX6_compile_X1_plan
set_option maxRecDepth 20000 in
theorem ggX6_compile_X5_build : GoodIn wsX6_compile wsX5_build := goodIn_r _ [91, 92, 93, 94, 95, 96, 97, 9, 98, 15, 99, 100, 101, 102, 11, 103, 104, 105, 106, 90, 107, 108, 109, 110, 111, 112, 113, 80, 114, 115, 116, 117, 118, 119, 120, 121, 16, 12, 23, 24, 25, 26, 14, 27, 28, 29, 30, 13, 31, 32, 33, 34, 35, 82, 83, 84, 85, 86, 22, 40, 41, 42, 43, 122, 123, 124, 125, 126, 127, 128, 129, 130, 131, 132, 133, 134, 135, 136, 137, 138, 139, 140, 141, 142, 143, 144, 145, 146, 156, 157, 158, 159, 160, 161, 162, 163, 164, 165, 166, 167, 168, 169, 170, 171, 172, 173, 174, 175, 176, 177, 178, 179, 180, 181, 182] (by decide +kernel) (by decide +kernel)
set_option maxRecDepth 20000 in
theorem gX6_compile_X5_build : GoodIn wsX6_compile (wsV RX6 179 RX5 yX5_build wsX5_build) := goodIn_app (goodIn_of _ (by decide +kernel)) ggX6_compile_X5_build
theorem dX6_compile_0 : decode cX6_compile 0 = .ok (.aload_n 0, 1) := by decide +kernel
theorem dX6_compile_1 : decode cX6_compile 1 = .ok (.getfield 38, 3) := by decide +kernel
theorem dX6_compile_4 : decode cX6_compile 4 = .ok (.aload_n 0, 1) := by decide +kernel
theorem dX6_compile_5 : decode cX6_compile 5 = .ok (.getfield 12, 3) := by decide +kernel
theorem dX6_compile_8 : decode cX6_compile 8 = .ok (.invokevirtual 175, 3) := by decide +kernel
theorem dX6_compile_11 : decode cX6_compile 11 = .ok (.aload_n 0, 1) := by decide +kernel
theorem dX6_compile_12 : decode cX6_compile 12 = .ok (.getfield 45, 3) := by decide +kernel
theorem dX6_compile_15 : decode cX6_compile 15 = .ok (.aload_n 0, 1) := by decide +kernel
theorem dX6_compile_16 : decode cX6_compile 16 = .ok (.getfield 38, 3) := by decide +kernel
theorem dX6_compile_19 : decode cX6_compile 19 = .ok (.aload_n 0, 1) := by decide +kernel
theorem dX6_compile_20 : decode cX6_compile 20 = .ok (.getfield 12, 3) := by decide +kernel
theorem dX6_compile_23 : decode cX6_compile 23 = .ok (.invokevirtual 179, 3) := by decide +kernel
theorem dX6_compile_26 : decode cX6_compile 26 = .ok (.aload_n 0, 1) := by decide +kernel
theorem dX6_compile_27 : decode cX6_compile 27 = .ok (.iconst 1, 1) := by decide +kernel
theorem dX6_compile_28 : decode cX6_compile 28 = .ok (.putfield 64, 3) := by decide +kernel
theorem dX6_compile_31 : decode cX6_compile 31 = .ok (.aload_n 0, 1) := by decide +kernel
theorem dX6_compile_32 : decode cX6_compile 32 = .ok (.getfield 45, 3) := by decide +kernel
theorem dX6_compile_35 : decode cX6_compile 35 = .ok (.getfield 183, 3) := by decide +kernel
theorem dX6_compile_38 : decode cX6_compile 38 = .ok (.ireturn, 1) := by decide +kernel
theorem dX6_expectedCost_0 : decode cX6_expectedCost 0 = .ok (.aload_n 0, 1) := by decide +kernel
theorem dX6_expectedCost_1 : decode cX6_expectedCost 1 = .ok (.getfield 64, 3) := by decide +kernel
theorem dX6_expectedCost_4 : decode cX6_expectedCost 4 = .ok (.ifCond .eq 13, 3) := by decide +kernel
theorem dX6_expectedCost_7 : decode cX6_expectedCost 7 = .ok (.aload_n 0, 1) := by decide +kernel
theorem dX6_expectedCost_8 : decode cX6_expectedCost 8 = .ok (.getfield 45, 3) := by decide +kernel
theorem dX6_expectedCost_11 : decode cX6_expectedCost 11 = .ok (.getfield 186, 3) := by decide +kernel
theorem dX6_expectedCost_14 : decode cX6_expectedCost 14 = .ok (.goto 6, 3) := by decide +kernel
theorem dX6_expectedCost_17 : decode cX6_expectedCost 17 = .ok (.ldc2_w 190, 3) := by decide +kernel
theorem dX6_expectedCost_20 : decode cX6_expectedCost 20 = .ok (.lreturn, 1) := by decide +kernel
theorem dX6_worstCost_0 : decode cX6_worstCost 0 = .ok (.aload_n 0, 1) := by decide +kernel
theorem dX6_worstCost_1 : decode cX6_worstCost 1 = .ok (.getfield 64, 3) := by decide +kernel
theorem dX6_worstCost_4 : decode cX6_worstCost 4 = .ok (.ifCond .eq 13, 3) := by decide +kernel
theorem dX6_worstCost_7 : decode cX6_worstCost 7 = .ok (.aload_n 0, 1) := by decide +kernel
theorem dX6_worstCost_8 : decode cX6_worstCost 8 = .ok (.getfield 45, 3) := by decide +kernel
theorem dX6_worstCost_11 : decode cX6_worstCost 11 = .ok (.getfield 192, 3) := by decide +kernel
theorem dX6_worstCost_14 : decode cX6_worstCost 14 = .ok (.goto 5, 3) := by decide +kernel
theorem dX6_worstCost_17 : decode cX6_worstCost 17 = .ok (.bipush (-7), 2) := by decide +kernel
theorem dX6_worstCost_19 : decode cX6_worstCost 19 = .ok (.ireturn, 1) := by decide +kernel
set_option maxRecDepth 20000 in
theorem ggX6_node_X5_hasNode : GoodIn wsX6_node wsX5_hasNode := goodIn_r _ [11, 12, 26, 27, 28, 29, 30, 31, 32, 33, 34, 35, 36] (by decide +kernel) (by decide +kernel)
set_option maxRecDepth 20000 in
theorem gX6_node_X5_hasNode : GoodIn wsX6_node (wsV RX6 195 RX5 yX5_hasNode wsX5_hasNode) := goodIn_app (goodIn_of _ (by decide +kernel)) ggX6_node_X5_hasNode
set_option maxRecDepth 20000 in
theorem ggX6_node_X6_actionAnswer : GoodIn wsX6_node wsX6_actionAnswer := goodIn_r _ [16] (by decide +kernel) (by decide +kernel)
set_option maxRecDepth 20000 in
theorem gX6_node_X6_actionAnswer : GoodIn wsX6_node (va_wsS RX6 112 yX6_actionAnswer wsX6_actionAnswer) := goodIn_app (goodIn_of _ (by decide +kernel)) ggX6_node_X6_actionAnswer
theorem dX6_node_0 : decode cX6_node 0 = .ok (.aload_n 0, 1) := by decide +kernel
theorem dX6_node_1 : decode cX6_node 1 = .ok (.getfield 64, 3) := by decide +kernel
theorem dX6_node_4 : decode cX6_node 4 = .ok (.ifCond .ne 6, 3) := by decide +kernel
theorem dX6_node_7 : decode cX6_node 7 = .ok (.bipush (-7), 2) := by decide +kernel
theorem dX6_node_9 : decode cX6_node 9 = .ok (.ireturn, 1) := by decide +kernel
theorem dX6_node_10 : decode cX6_node 10 = .ok (.aload_n 0, 1) := by decide +kernel
theorem dX6_node_11 : decode cX6_node 11 = .ok (.getfield 45, 3) := by decide +kernel
theorem dX6_node_14 : decode cX6_node 14 = .ok (.iload_n 1, 1) := by decide +kernel
theorem dX6_node_15 : decode cX6_node 15 = .ok (.invokevirtual 195, 3) := by decide +kernel
theorem dX6_node_18 : decode cX6_node 18 = .ok (.ifCond .ne 5, 3) := by decide +kernel
theorem dX6_node_21 : decode cX6_node 21 = .ok (.iconst (-1), 1) := by decide +kernel
theorem dX6_node_22 : decode cX6_node 22 = .ok (.ireturn, 1) := by decide +kernel
theorem dX6_node_23 : decode cX6_node 23 = .ok (.iload_n 2, 1) := by decide +kernel
theorem dX6_node_24 : decode cX6_node 24 = .ok (.tableswitch 93 0 3 #[32, 60, 73, 83], 32) := by decide +kernel
theorem dX6_node_56 : decode cX6_node 56 = .ok (.aload_n 0, 1) := by decide +kernel
theorem dX6_node_57 : decode cX6_node 57 = .ok (.getfield 45, 3) := by decide +kernel
theorem dX6_node_60 : decode cX6_node 60 = .ok (.getfield 198, 3) := by decide +kernel
theorem dX6_node_63 : decode cX6_node 63 = .ok (.iload_n 1, 1) := by decide +kernel
theorem dX6_node_64 : decode cX6_node 64 = .ok (.iaload, 1) := by decide +kernel
theorem dX6_node_65 : decode cX6_node 65 = .ok (.iconst (-1), 1) := by decide +kernel
theorem dX6_node_66 : decode cX6_node 66 = .ok (.if_icmp .ne 8, 3) := by decide +kernel
theorem dX6_node_69 : decode cX6_node 69 = .ok (.bipush (-6), 2) := by decide +kernel
theorem dX6_node_71 : decode cX6_node 71 = .ok (.goto 12, 3) := by decide +kernel
theorem dX6_node_74 : decode cX6_node 74 = .ok (.aload_n 0, 1) := by decide +kernel
theorem dX6_node_75 : decode cX6_node 75 = .ok (.getfield 45, 3) := by decide +kernel
theorem dX6_node_78 : decode cX6_node 78 = .ok (.getfield 198, 3) := by decide +kernel
theorem dX6_node_81 : decode cX6_node 81 = .ok (.iload_n 1, 1) := by decide +kernel
theorem dX6_node_82 : decode cX6_node 82 = .ok (.iaload, 1) := by decide +kernel
theorem dX6_node_83 : decode cX6_node 83 = .ok (.ireturn, 1) := by decide +kernel
theorem dX6_node_84 : decode cX6_node 84 = .ok (.aload_n 0, 1) := by decide +kernel
theorem dX6_node_85 : decode cX6_node 85 = .ok (.getfield 45, 3) := by decide +kernel
theorem dX6_node_88 : decode cX6_node 88 = .ok (.getfield 201, 3) := by decide +kernel
theorem dX6_node_91 : decode cX6_node 91 = .ok (.iload_n 1, 1) := by decide +kernel
theorem dX6_node_92 : decode cX6_node 92 = .ok (.iaload, 1) := by decide +kernel
theorem dX6_node_93 : decode cX6_node 93 = .ok (.invokestatic 112, 3) := by decide +kernel
theorem dX6_node_96 : decode cX6_node 96 = .ok (.ireturn, 1) := by decide +kernel
theorem dX6_node_97 : decode cX6_node 97 = .ok (.aload_n 0, 1) := by decide +kernel
theorem dX6_node_98 : decode cX6_node 98 = .ok (.getfield 45, 3) := by decide +kernel
theorem dX6_node_101 : decode cX6_node 101 = .ok (.getfield 202, 3) := by decide +kernel
theorem dX6_node_104 : decode cX6_node 104 = .ok (.iload_n 1, 1) := by decide +kernel
theorem dX6_node_105 : decode cX6_node 105 = .ok (.iaload, 1) := by decide +kernel
theorem dX6_node_106 : decode cX6_node 106 = .ok (.ireturn, 1) := by decide +kernel
theorem dX6_node_107 : decode cX6_node 107 = .ok (.aload_n 0, 1) := by decide +kernel
theorem dX6_node_108 : decode cX6_node 108 = .ok (.getfield 45, 3) := by decide +kernel
theorem dX6_node_111 : decode cX6_node 111 = .ok (.getfield 205, 3) := by decide +kernel
theorem dX6_node_114 : decode cX6_node 114 = .ok (.iload_n 1, 1) := by decide +kernel
theorem dX6_node_115 : decode cX6_node 115 = .ok (.iaload, 1) := by decide +kernel
theorem dX6_node_116 : decode cX6_node 116 = .ok (.ireturn, 1) := by decide +kernel
theorem dX6_node_117 : decode cX6_node 117 = .ok (.iconst (-1), 1) := by decide +kernel
theorem dX6_node_118 : decode cX6_node 118 = .ok (.ireturn, 1) := by decide +kernel
set_option maxRecDepth 20000 in
theorem ggX6_child_X5_hasNode : GoodIn wsX6_child wsX5_hasNode := goodIn_r _ [9, 10, 36, 37, 38, 39, 40, 41, 42, 43, 44, 45, 46] (by decide +kernel) (by decide +kernel)
set_option maxRecDepth 20000 in
theorem gX6_child_X5_hasNode : GoodIn wsX6_child (wsV RX6 195 RX5 yX5_hasNode wsX5_hasNode) := goodIn_app (goodIn_of _ (by decide +kernel)) ggX6_child_X5_hasNode
set_option maxRecDepth 20000 in
theorem ggX6_child_X4_hasValue : GoodIn wsX6_child wsX4_hasValue := goodIn_r _ [15, 16, 17, 18, 19, 14, 20, 21, 47, 48, 49, 50, 51, 52, 53, 54, 55, 56, 57] (by decide +kernel) (by decide +kernel)
set_option maxRecDepth 20000 in
theorem gX6_child_X4_hasValue : GoodIn wsX6_child (wsV RX6 92 RX4 yX4_hasValue wsX4_hasValue) := goodIn_app (goodIn_of _ (by decide +kernel)) ggX6_child_X4_hasValue
set_option maxRecDepth 20000 in
theorem ggX6_child_X5_branch : GoodIn wsX6_child wsX5_branch := goodIn_r _ [25, 10, 26, 36, 37, 38, 39, 40, 41, 42, 43, 44, 45, 46] (by decide +kernel) (by decide +kernel)
set_option maxRecDepth 20000 in
theorem gX6_child_X5_branch : GoodIn wsX6_child (wsV RX6 208 RX5 yX5_branch wsX5_branch) := goodIn_app (goodIn_of _ (by decide +kernel)) ggX6_child_X5_branch
theorem dX6_child_0 : decode cX6_child 0 = .ok (.aload_n 0, 1) := by decide +kernel
theorem dX6_child_1 : decode cX6_child 1 = .ok (.getfield 64, 3) := by decide +kernel
theorem dX6_child_4 : decode cX6_child 4 = .ok (.ifCond .ne 6, 3) := by decide +kernel
theorem dX6_child_7 : decode cX6_child 7 = .ok (.bipush (-7), 2) := by decide +kernel
theorem dX6_child_9 : decode cX6_child 9 = .ok (.ireturn, 1) := by decide +kernel
theorem dX6_child_10 : decode cX6_child 10 = .ok (.aload_n 0, 1) := by decide +kernel
theorem dX6_child_11 : decode cX6_child 11 = .ok (.getfield 45, 3) := by decide +kernel
theorem dX6_child_14 : decode cX6_child 14 = .ok (.iload_n 1, 1) := by decide +kernel
theorem dX6_child_15 : decode cX6_child 15 = .ok (.invokevirtual 195, 3) := by decide +kernel
theorem dX6_child_18 : decode cX6_child 18 = .ok (.ifCond .ne 5, 3) := by decide +kernel
theorem dX6_child_21 : decode cX6_child 21 = .ok (.iconst (-1), 1) := by decide +kernel
theorem dX6_child_22 : decode cX6_child 22 = .ok (.ireturn, 1) := by decide +kernel
theorem dX6_child_23 : decode cX6_child 23 = .ok (.aload_n 0, 1) := by decide +kernel
theorem dX6_child_24 : decode cX6_child 24 = .ok (.getfield 12, 3) := by decide +kernel
theorem dX6_child_27 : decode cX6_child 27 = .ok (.aload_n 0, 1) := by decide +kernel
theorem dX6_child_28 : decode cX6_child 28 = .ok (.getfield 45, 3) := by decide +kernel
theorem dX6_child_31 : decode cX6_child 31 = .ok (.getfield 198, 3) := by decide +kernel
theorem dX6_child_34 : decode cX6_child 34 = .ok (.iload_n 1, 1) := by decide +kernel
theorem dX6_child_35 : decode cX6_child 35 = .ok (.iaload, 1) := by decide +kernel
theorem dX6_child_36 : decode cX6_child 36 = .ok (.iload_n 2, 1) := by decide +kernel
theorem dX6_child_37 : decode cX6_child 37 = .ok (.invokevirtual 92, 3) := by decide +kernel
theorem dX6_child_40 : decode cX6_child 40 = .ok (.ifCond .ne 6, 3) := by decide +kernel
theorem dX6_child_43 : decode cX6_child 43 = .ok (.bipush (-6), 2) := by decide +kernel
theorem dX6_child_45 : decode cX6_child 45 = .ok (.ireturn, 1) := by decide +kernel
theorem dX6_child_46 : decode cX6_child 46 = .ok (.aload_n 0, 1) := by decide +kernel
theorem dX6_child_47 : decode cX6_child 47 = .ok (.getfield 45, 3) := by decide +kernel
theorem dX6_child_50 : decode cX6_child 50 = .ok (.iload_n 1, 1) := by decide +kernel
theorem dX6_child_51 : decode cX6_child 51 = .ok (.iload_n 2, 1) := by decide +kernel
theorem dX6_child_52 : decode cX6_child 52 = .ok (.invokevirtual 208, 3) := by decide +kernel
theorem dX6_child_55 : decode cX6_child 55 = .ok (.ireturn, 1) := by decide +kernel
set_option maxRecDepth 20000 in
theorem ggX6_leafOf_X4_hasCase : GoodIn wsX6_leafOf wsX4_hasCase := goodIn_r _ [8, 9, 46, 47, 48, 49, 50, 51, 52, 53, 54, 55, 56] (by decide +kernel) (by decide +kernel)
set_option maxRecDepth 20000 in
theorem gX6_leafOf_X4_hasCase : GoodIn wsX6_leafOf (wsV RX6 82 RX4 yX4_hasCase wsX4_hasCase) := goodIn_app (goodIn_of _ (by decide +kernel)) ggX6_leafOf_X4_hasCase
set_option maxRecDepth 20000 in
theorem ggX6_leafOf_X5_leafFor : GoodIn wsX6_leafOf wsX5_leafFor := goodIn_r _ [14, 15, 16, 17, 18, 13, 19, 20, 21, 22, 23, 7, 24, 25, 26, 27, 28, 29, 30, 31, 32, 33, 34, 35, 36, 57, 58, 59, 60, 61, 62, 63, 64, 65, 66, 67, 46, 47, 48, 49, 50, 51, 52, 53, 54, 55, 56] (by decide +kernel) (by decide +kernel)
set_option maxRecDepth 20000 in
theorem gX6_leafOf_X5_leafFor : GoodIn wsX6_leafOf (wsV RX6 211 RX5 yX5_leafFor wsX5_leafFor) := goodIn_app (goodIn_of _ (by decide +kernel)) ggX6_leafOf_X5_leafFor
theorem dX6_leafOf_0 : decode cX6_leafOf 0 = .ok (.aload_n 0, 1) := by decide +kernel
theorem dX6_leafOf_1 : decode cX6_leafOf 1 = .ok (.getfield 64, 3) := by decide +kernel
theorem dX6_leafOf_4 : decode cX6_leafOf 4 = .ok (.ifCond .ne 6, 3) := by decide +kernel
theorem dX6_leafOf_7 : decode cX6_leafOf 7 = .ok (.bipush (-7), 2) := by decide +kernel
theorem dX6_leafOf_9 : decode cX6_leafOf 9 = .ok (.ireturn, 1) := by decide +kernel
theorem dX6_leafOf_10 : decode cX6_leafOf 10 = .ok (.aload_n 0, 1) := by decide +kernel
theorem dX6_leafOf_11 : decode cX6_leafOf 11 = .ok (.getfield 12, 3) := by decide +kernel
theorem dX6_leafOf_14 : decode cX6_leafOf 14 = .ok (.iload_n 1, 1) := by decide +kernel
theorem dX6_leafOf_15 : decode cX6_leafOf 15 = .ok (.invokevirtual 82, 3) := by decide +kernel
theorem dX6_leafOf_18 : decode cX6_leafOf 18 = .ok (.ifCond .ne 6, 3) := by decide +kernel
theorem dX6_leafOf_21 : decode cX6_leafOf 21 = .ok (.bipush (-5), 2) := by decide +kernel
theorem dX6_leafOf_23 : decode cX6_leafOf 23 = .ok (.ireturn, 1) := by decide +kernel
theorem dX6_leafOf_24 : decode cX6_leafOf 24 = .ok (.aload_n 0, 1) := by decide +kernel
theorem dX6_leafOf_25 : decode cX6_leafOf 25 = .ok (.getfield 45, 3) := by decide +kernel
theorem dX6_leafOf_28 : decode cX6_leafOf 28 = .ok (.iload_n 1, 1) := by decide +kernel
theorem dX6_leafOf_29 : decode cX6_leafOf 29 = .ok (.aload_n 0, 1) := by decide +kernel
theorem dX6_leafOf_30 : decode cX6_leafOf 30 = .ok (.getfield 12, 3) := by decide +kernel
theorem dX6_leafOf_33 : decode cX6_leafOf 33 = .ok (.invokevirtual 211, 3) := by decide +kernel
theorem dX6_leafOf_36 : decode cX6_leafOf 36 = .ok (.ireturn, 1) := by decide +kernel
theorem dX6_sharedNodeCount_0 : decode cX6_sharedNodeCount 0 = .ok (.aload_n 0, 1) := by decide +kernel
theorem dX6_sharedNodeCount_1 : decode cX6_sharedNodeCount 1 = .ok (.getfield 64, 3) := by decide +kernel
theorem dX6_sharedNodeCount_4 : decode cX6_sharedNodeCount 4 = .ok (.ifCond .eq 13, 3) := by decide +kernel
theorem dX6_sharedNodeCount_7 : decode cX6_sharedNodeCount 7 = .ok (.aload_n 0, 1) := by decide +kernel
theorem dX6_sharedNodeCount_8 : decode cX6_sharedNodeCount 8 = .ok (.getfield 45, 3) := by decide +kernel
theorem dX6_sharedNodeCount_11 : decode cX6_sharedNodeCount 11 = .ok (.getfield 215, 3) := by decide +kernel
theorem dX6_sharedNodeCount_14 : decode cX6_sharedNodeCount 14 = .ok (.goto 5, 3) := by decide +kernel
theorem dX6_sharedNodeCount_17 : decode cX6_sharedNodeCount 17 = .ok (.bipush (-7), 2) := by decide +kernel
theorem dX6_sharedNodeCount_19 : decode cX6_sharedNodeCount 19 = .ok (.ireturn, 1) := by decide +kernel
set_option maxRecDepth 20000 in
theorem ggX6_sharedNode_X5_hasNode : GoodIn wsX6_sharedNode wsX5_hasNode := goodIn_r _ [9, 10, 20, 21, 22, 23, 24, 25, 26, 27, 28, 29, 30] (by decide +kernel) (by decide +kernel)
set_option maxRecDepth 20000 in
theorem gX6_sharedNode_X5_hasNode : GoodIn wsX6_sharedNode (wsV RX6 195 RX5 yX5_hasNode wsX5_hasNode) := goodIn_app (goodIn_of _ (by decide +kernel)) ggX6_sharedNode_X5_hasNode
theorem dX6_sharedNode_0 : decode cX6_sharedNode 0 = .ok (.aload_n 0, 1) := by decide +kernel
theorem dX6_sharedNode_1 : decode cX6_sharedNode 1 = .ok (.getfield 64, 3) := by decide +kernel
theorem dX6_sharedNode_4 : decode cX6_sharedNode 4 = .ok (.ifCond .ne 6, 3) := by decide +kernel
theorem dX6_sharedNode_7 : decode cX6_sharedNode 7 = .ok (.bipush (-7), 2) := by decide +kernel
theorem dX6_sharedNode_9 : decode cX6_sharedNode 9 = .ok (.ireturn, 1) := by decide +kernel
theorem dX6_sharedNode_10 : decode cX6_sharedNode 10 = .ok (.aload_n 0, 1) := by decide +kernel
theorem dX6_sharedNode_11 : decode cX6_sharedNode 11 = .ok (.getfield 45, 3) := by decide +kernel
theorem dX6_sharedNode_14 : decode cX6_sharedNode 14 = .ok (.iload_n 1, 1) := by decide +kernel
theorem dX6_sharedNode_15 : decode cX6_sharedNode 15 = .ok (.invokevirtual 195, 3) := by decide +kernel
theorem dX6_sharedNode_18 : decode cX6_sharedNode 18 = .ok (.ifCond .ne 5, 3) := by decide +kernel
theorem dX6_sharedNode_21 : decode cX6_sharedNode 21 = .ok (.iconst (-1), 1) := by decide +kernel
theorem dX6_sharedNode_22 : decode cX6_sharedNode 22 = .ok (.ireturn, 1) := by decide +kernel
theorem dX6_sharedNode_23 : decode cX6_sharedNode 23 = .ok (.aload_n 0, 1) := by decide +kernel
theorem dX6_sharedNode_24 : decode cX6_sharedNode 24 = .ok (.getfield 45, 3) := by decide +kernel
theorem dX6_sharedNode_27 : decode cX6_sharedNode 27 = .ok (.getfield 218, 3) := by decide +kernel
theorem dX6_sharedNode_30 : decode cX6_sharedNode 30 = .ok (.aload_n 0, 1) := by decide +kernel
theorem dX6_sharedNode_31 : decode cX6_sharedNode 31 = .ok (.getfield 45, 3) := by decide +kernel
theorem dX6_sharedNode_34 : decode cX6_sharedNode 34 = .ok (.getfield 221, 3) := by decide +kernel
theorem dX6_sharedNode_37 : decode cX6_sharedNode 37 = .ok (.iload_n 1, 1) := by decide +kernel
theorem dX6_sharedNode_38 : decode cX6_sharedNode 38 = .ok (.iaload, 1) := by decide +kernel
theorem dX6_sharedNode_39 : decode cX6_sharedNode 39 = .ok (.iaload, 1) := by decide +kernel
theorem dX6_sharedNode_40 : decode cX6_sharedNode 40 = .ok (.ireturn, 1) := by decide +kernel
set_option maxRecDepth 20000 in
theorem ggX6_costWithRoot_X4_hasCondition : GoodIn wsX6_costWithRoot wsX4_hasCondition := goodIn_r _ [8, 9, 106, 107, 108, 109, 110, 111, 112, 113, 114, 115, 116] (by decide +kernel) (by decide +kernel)
set_option maxRecDepth 20000 in
theorem gX6_costWithRoot_X4_hasCondition : GoodIn wsX6_costWithRoot (wsV RX6 85 RX4 yX4_hasCondition wsX4_hasCondition) := goodIn_app (goodIn_of _ (by decide +kernel)) ggX6_costWithRoot_X4_hasCondition
set_option maxRecDepth 20000 in
theorem ggX6_costWithRoot_X1_plan : GoodIn wsX6_costWithRoot wsX1_plan := goodIn_r _ [14, 15, 16, 17, 18, 19, 20, 21, 22, 23, 13, 24, 25, 26, 27, 28, 29, 30, 31, 32, 33, 34, 35, 36, 37, 38, 39, 40, 41, 42, 43, 44, 45, 46, 47, 48, 49, 50, 7, 51, 9, 52, 53, 54, 55, 56, 57, 58, 59, 60, 61, 62, 63, 64, 65, 66, 67, 68, 69, 70, 71, 72, 73, 74, 75, 76, 77, 78, 79, 80, 81, 82, 83, 84, 85, 86, 87, 88, 117, 118, 119, 120, 121, 106, 107, 108, 109, 110, 111, 112, 113, 114, 115, 116] (by decide +kernel) (by decide +kernel)
set_option maxRecDepth 20000 in
theorem gX6_costWithRoot_X1_plan : GoodIn wsX6_costWithRoot (wsV RX6 175 RX1 yX1_plan wsX1_plan) := goodIn_app (goodIn_of _ (by decide +kernel)) ggX6_costWithRoot_X1_plan
set_option maxRecDepth 20000 in
theorem ggX6_costWithRoot_X1_costWithTest : GoodIn wsX6_costWithRoot wsX1_costWithTest := goodIn_r _ [92, 93, 94, 95, 13, 96, 15, 84, 85, 86, 87, 88, 26, 18, 19, 44, 45, 46, 47, 17, 117, 118, 119, 120, 121, 106, 107, 108, 109, 110, 111, 112, 113, 114, 115, 116] (by decide +kernel) (by decide +kernel)
set_option maxRecDepth 20000 in
theorem gX6_costWithRoot_X1_costWithTest : GoodIn wsX6_costWithRoot (wsV RX6 224 RX1 yX1_costWithTest wsX1_costWithTest) := goodIn_app (goodIn_of _ (by decide +kernel)) ggX6_costWithRoot_X1_costWithTest
theorem dX6_costWithRoot_0 : decode cX6_costWithRoot 0 = .ok (.aload_n 0, 1) := by decide +kernel
theorem dX6_costWithRoot_1 : decode cX6_costWithRoot 1 = .ok (.getfield 12, 3) := by decide +kernel
theorem dX6_costWithRoot_4 : decode cX6_costWithRoot 4 = .ok (.iload_n 1, 1) := by decide +kernel
theorem dX6_costWithRoot_5 : decode cX6_costWithRoot 5 = .ok (.invokevirtual 85, 3) := by decide +kernel
theorem dX6_costWithRoot_8 : decode cX6_costWithRoot 8 = .ok (.ifCond .ne 7, 3) := by decide +kernel
theorem dX6_costWithRoot_11 : decode cX6_costWithRoot 11 = .ok (.ldc2_w 190, 3) := by decide +kernel
theorem dX6_costWithRoot_14 : decode cX6_costWithRoot 14 = .ok (.lreturn, 1) := by decide +kernel
theorem dX6_costWithRoot_15 : decode cX6_costWithRoot 15 = .ok (.aload_n 0, 1) := by decide +kernel
theorem dX6_costWithRoot_16 : decode cX6_costWithRoot 16 = .ok (.getfield 38, 3) := by decide +kernel
theorem dX6_costWithRoot_19 : decode cX6_costWithRoot 19 = .ok (.aload_n 0, 1) := by decide +kernel
theorem dX6_costWithRoot_20 : decode cX6_costWithRoot 20 = .ok (.getfield 12, 3) := by decide +kernel
theorem dX6_costWithRoot_23 : decode cX6_costWithRoot 23 = .ok (.invokevirtual 175, 3) := by decide +kernel
theorem dX6_costWithRoot_26 : decode cX6_costWithRoot 26 = .ok (.aload_n 0, 1) := by decide +kernel
theorem dX6_costWithRoot_27 : decode cX6_costWithRoot 27 = .ok (.getfield 38, 3) := by decide +kernel
theorem dX6_costWithRoot_30 : decode cX6_costWithRoot 30 = .ok (.iload_n 1, 1) := by decide +kernel
theorem dX6_costWithRoot_31 : decode cX6_costWithRoot 31 = .ok (.aload_n 0, 1) := by decide +kernel
theorem dX6_costWithRoot_32 : decode cX6_costWithRoot 32 = .ok (.getfield 12, 3) := by decide +kernel
theorem dX6_costWithRoot_35 : decode cX6_costWithRoot 35 = .ok (.invokevirtual 224, 3) := by decide +kernel
theorem dX6_costWithRoot_38 : decode cX6_costWithRoot 38 = .ok (.lreturn, 1) := by decide +kernel
set_option maxRecDepth 20000 in
theorem ggX6_sample_X6_isActionOrNone : GoodIn wsX6_sample wsX6_isActionOrNone := goodIn_r _ [8] (by decide +kernel) (by decide +kernel)
set_option maxRecDepth 20000 in
theorem gX6_sample_X6_isActionOrNone : GoodIn wsX6_sample (va_wsS RX6 106 yX6_isActionOrNone wsX6_isActionOrNone) := goodIn_app (goodIn_of _ (by decide +kernel)) ggX6_sample_X6_isActionOrNone
set_option maxRecDepth 20000 in
theorem ggX6_sample_X4_weightSum : GoodIn wsX6_sample wsX4_weightSum := goodIn_r _ [13, 14, 15, 56, 57, 58, 59, 60, 61, 62, 63, 64, 65, 66] (by decide +kernel) (by decide +kernel)
set_option maxRecDepth 20000 in
theorem gX6_sample_X4_weightSum : GoodIn wsX6_sample (wsV RX6 99 RX4 yX4_weightSum wsX4_weightSum) := goodIn_app (goodIn_of _ (by decide +kernel)) ggX6_sample_X4_weightSum
set_option maxRecDepth 20000 in
theorem ggX6_sample_X6_remainder : GoodIn wsX6_sample wsX6_remainder := goodIn_r _ [18] (by decide +kernel) (by decide +kernel)
set_option maxRecDepth 20000 in
theorem gX6_sample_X6_remainder : GoodIn wsX6_sample (va_wsS RX6 229 yX6_remainder wsX6_remainder) := goodIn_app (goodIn_of _ (by decide +kernel)) ggX6_sample_X6_remainder
set_option maxRecDepth 20000 in
theorem ggX6_sample_X4_valueAt : GoodIn wsX6_sample wsX4_valueAt := goodIn_r _ [22, 14, 15, 56, 57, 58, 59, 60, 61, 62, 63, 64, 65, 66] (by decide +kernel) (by decide +kernel)
set_option maxRecDepth 20000 in
theorem gX6_sample_X4_valueAt : GoodIn wsX6_sample (wsV RX6 232 RX4 yX4_valueAt wsX4_valueAt) := goodIn_app (goodIn_of _ (by decide +kernel)) ggX6_sample_X4_valueAt
set_option maxRecDepth 20000 in
theorem ggX6_sample_X4_actionFor : GoodIn wsX6_sample wsX4_actionFor := goodIn_r _ [26, 27, 28, 29, 30, 31, 12, 32, 33, 34, 35, 36, 37, 38, 39, 40, 41, 42, 43, 44, 14, 45, 7, 46, 17, 18, 56, 57, 58, 59, 60, 61, 62, 63, 64, 65, 66] (by decide +kernel) (by decide +kernel)
set_option maxRecDepth 20000 in
theorem gX6_sample_X4_actionFor : GoodIn wsX6_sample (wsV RX6 152 RX4 yX4_actionFor wsX4_actionFor) := goodIn_app (goodIn_of _ (by decide +kernel)) ggX6_sample_X4_actionFor
theorem dX6_sample_0 : decode cX6_sample 0 = .ok (.iload_n 2, 1) := by decide +kernel
theorem dX6_sample_1 : decode cX6_sample 1 = .ok (.ifCond .lt 17, 3) := by decide +kernel
theorem dX6_sample_4 : decode cX6_sample 4 = .ok (.iload_n 2, 1) := by decide +kernel
theorem dX6_sample_5 : decode cX6_sample 5 = .ok (.sipush 500, 3) := by decide +kernel
theorem dX6_sample_8 : decode cX6_sample 8 = .ok (.if_icmp .gt 10, 3) := by decide +kernel
theorem dX6_sample_11 : decode cX6_sample 11 = .ok (.iload_n 3, 1) := by decide +kernel
theorem dX6_sample_12 : decode cX6_sample 12 = .ok (.invokestatic 106, 3) := by decide +kernel
theorem dX6_sample_15 : decode cX6_sample 15 = .ok (.ifCond .ne 5, 3) := by decide +kernel
theorem dX6_sample_18 : decode cX6_sample 18 = .ok (.iconst (-1), 1) := by decide +kernel
theorem dX6_sample_19 : decode cX6_sample 19 = .ok (.ireturn, 1) := by decide +kernel
theorem dX6_sample_20 : decode cX6_sample 20 = .ok (.iload_n 1, 1) := by decide +kernel
theorem dX6_sample_21 : decode cX6_sample 21 = .ok (.istore 4, 2) := by decide +kernel
theorem dX6_sample_23 : decode cX6_sample 23 = .ok (.iconst 0, 1) := by decide +kernel
theorem dX6_sample_24 : decode cX6_sample 24 = .ok (.istore 5, 2) := by decide +kernel
theorem dX6_sample_26 : decode cX6_sample 26 = .ok (.iconst 0, 1) := by decide +kernel
theorem dX6_sample_27 : decode cX6_sample 27 = .ok (.istore 6, 2) := by decide +kernel
theorem dX6_sample_29 : decode cX6_sample 29 = .ok (.iload 6, 2) := by decide +kernel
theorem dX6_sample_31 : decode cX6_sample 31 = .ok (.iload_n 2, 1) := by decide +kernel
theorem dX6_sample_32 : decode cX6_sample 32 = .ok (.if_icmp .ge 106, 3) := by decide +kernel
theorem dX6_sample_35 : decode cX6_sample 35 = .ok (.iconst 0, 1) := by decide +kernel
theorem dX6_sample_36 : decode cX6_sample 36 = .ok (.istore 7, 2) := by decide +kernel
theorem dX6_sample_38 : decode cX6_sample 38 = .ok (.iconst 0, 1) := by decide +kernel
theorem dX6_sample_39 : decode cX6_sample 39 = .ok (.istore 8, 2) := by decide +kernel
theorem dX6_sample_41 : decode cX6_sample 41 = .ok (.iload 8, 2) := by decide +kernel
theorem dX6_sample_43 : decode cX6_sample 43 = .ok (.aload_n 0, 1) := by decide +kernel
theorem dX6_sample_44 : decode cX6_sample 44 = .ok (.getfield 12, 3) := by decide +kernel
theorem dX6_sample_47 : decode cX6_sample 47 = .ok (.getfield 79, 3) := by decide +kernel
theorem dX6_sample_50 : decode cX6_sample 50 = .ok (.if_icmp .ge 66, 3) := by decide +kernel
theorem dX6_sample_53 : decode cX6_sample 53 = .ok (.iload 4, 2) := by decide +kernel
theorem dX6_sample_55 : decode cX6_sample 55 = .ok (.ldc 228, 2) := by decide +kernel
theorem dX6_sample_57 : decode cX6_sample 57 = .ok (.imul, 1) := by decide +kernel
theorem dX6_sample_58 : decode cX6_sample 58 = .ok (.sipush 12345, 3) := by decide +kernel
theorem dX6_sample_61 : decode cX6_sample 61 = .ok (.iadd, 1) := by decide +kernel
theorem dX6_sample_62 : decode cX6_sample 62 = .ok (.istore 4, 2) := by decide +kernel
theorem dX6_sample_64 : decode cX6_sample 64 = .ok (.iload 4, 2) := by decide +kernel
theorem dX6_sample_66 : decode cX6_sample 66 = .ok (.bipush 16, 2) := by decide +kernel
theorem dX6_sample_68 : decode cX6_sample 68 = .ok (.iushr, 1) := by decide +kernel
theorem dX6_sample_69 : decode cX6_sample 69 = .ok (.aload_n 0, 1) := by decide +kernel
theorem dX6_sample_70 : decode cX6_sample 70 = .ok (.getfield 12, 3) := by decide +kernel
theorem dX6_sample_73 : decode cX6_sample 73 = .ok (.iload 8, 2) := by decide +kernel
theorem dX6_sample_75 : decode cX6_sample 75 = .ok (.invokevirtual 99, 3) := by decide +kernel
theorem dX6_sample_78 : decode cX6_sample 78 = .ok (.invokestatic 229, 3) := by decide +kernel
theorem dX6_sample_81 : decode cX6_sample 81 = .ok (.istore 9, 2) := by decide +kernel
theorem dX6_sample_83 : decode cX6_sample 83 = .ok (.iload 7, 2) := by decide +kernel
theorem dX6_sample_85 : decode cX6_sample 85 = .ok (.aload_n 0, 1) := by decide +kernel
theorem dX6_sample_86 : decode cX6_sample 86 = .ok (.getfield 12, 3) := by decide +kernel
theorem dX6_sample_89 : decode cX6_sample 89 = .ok (.iload 8, 2) := by decide +kernel
theorem dX6_sample_91 : decode cX6_sample 91 = .ok (.iload 9, 2) := by decide +kernel
theorem dX6_sample_93 : decode cX6_sample 93 = .ok (.invokevirtual 232, 3) := by decide +kernel
theorem dX6_sample_96 : decode cX6_sample 96 = .ok (.aload_n 0, 1) := by decide +kernel
theorem dX6_sample_97 : decode cX6_sample 97 = .ok (.getfield 12, 3) := by decide +kernel
theorem dX6_sample_100 : decode cX6_sample 100 = .ok (.getfield 235, 3) := by decide +kernel
theorem dX6_sample_103 : decode cX6_sample 103 = .ok (.iload 8, 2) := by decide +kernel
theorem dX6_sample_105 : decode cX6_sample 105 = .ok (.iaload, 1) := by decide +kernel
theorem dX6_sample_106 : decode cX6_sample 106 = .ok (.imul, 1) := by decide +kernel
theorem dX6_sample_107 : decode cX6_sample 107 = .ok (.iadd, 1) := by decide +kernel
theorem dX6_sample_108 : decode cX6_sample 108 = .ok (.istore 7, 2) := by decide +kernel
theorem dX6_sample_110 : decode cX6_sample 110 = .ok (.iinc 8 1, 3) := by decide +kernel
theorem dX6_sample_113 : decode cX6_sample 113 = .ok (.goto (-72), 3) := by decide +kernel
theorem dX6_sample_116 : decode cX6_sample 116 = .ok (.aload_n 0, 1) := by decide +kernel
theorem dX6_sample_117 : decode cX6_sample 117 = .ok (.getfield 12, 3) := by decide +kernel
theorem dX6_sample_120 : decode cX6_sample 120 = .ok (.iload 7, 2) := by decide +kernel
theorem dX6_sample_122 : decode cX6_sample 122 = .ok (.invokevirtual 152, 3) := by decide +kernel
theorem dX6_sample_125 : decode cX6_sample 125 = .ok (.iload_n 3, 1) := by decide +kernel
theorem dX6_sample_126 : decode cX6_sample 126 = .ok (.if_icmp .ne 6, 3) := by decide +kernel
theorem dX6_sample_129 : decode cX6_sample 129 = .ok (.iinc 5 1, 3) := by decide +kernel
theorem dX6_sample_132 : decode cX6_sample 132 = .ok (.iinc 6 1, 3) := by decide +kernel
theorem dX6_sample_135 : decode cX6_sample 135 = .ok (.goto (-106), 3) := by decide +kernel
theorem dX6_sample_138 : decode cX6_sample 138 = .ok (.iload 5, 2) := by decide +kernel
theorem dX6_sample_140 : decode cX6_sample 140 = .ok (.ireturn, 1) := by decide +kernel
set_option maxRecDepth 20000 in
theorem ggX6_allocate_X6_isSlot : GoodIn wsX6_allocate wsX6_isSlot := goodIn_r _ [5] (by decide +kernel) (by decide +kernel)
set_option maxRecDepth 20000 in
theorem gX6_allocate_X6_isSlot : GoodIn wsX6_allocate (va_wsS RX6 238 yX6_isSlot wsX6_isSlot) := goodIn_app (goodIn_of _ (by decide +kernel)) ggX6_allocate_X6_isSlot
set_option maxRecDepth 20000 in
theorem ggX6_allocate_X3_fillWith : GoodIn wsX6_allocate wsX3_fillWith := goodIn_r _ [10, 11, 12, 13, 14, 15, 16, 17, 18, 28, 29, 30, 31] (by decide +kernel) (by decide +kernel)
set_option maxRecDepth 20000 in
theorem gX6_allocate_X3_fillWith : GoodIn wsX6_allocate (wsV RX6 241 RX3 yX3_fillWith wsX3_fillWith) := goodIn_app (goodIn_of _ (by decide +kernel)) ggX6_allocate_X3_fillWith
theorem dX6_allocate_0 : decode cX6_allocate 0 = .ok (.iload_n 1, 1) := by decide +kernel
theorem dX6_allocate_1 : decode cX6_allocate 1 = .ok (.invokestatic 238, 3) := by decide +kernel
theorem dX6_allocate_4 : decode cX6_allocate 4 = .ok (.ifCond .eq 19, 3) := by decide +kernel
theorem dX6_allocate_7 : decode cX6_allocate 7 = .ok (.iload_n 2, 1) := by decide +kernel
theorem dX6_allocate_8 : decode cX6_allocate 8 = .ok (.ifCond .lt 15, 3) := by decide +kernel
theorem dX6_allocate_11 : decode cX6_allocate 11 = .ok (.iload_n 2, 1) := by decide +kernel
theorem dX6_allocate_12 : decode cX6_allocate 12 = .ok (.iconst 3, 1) := by decide +kernel
theorem dX6_allocate_13 : decode cX6_allocate 13 = .ok (.if_icmp .gt 10, 3) := by decide +kernel
theorem dX6_allocate_16 : decode cX6_allocate 16 = .ok (.iload_n 3, 1) := by decide +kernel
theorem dX6_allocate_17 : decode cX6_allocate 17 = .ok (.sipush 700, 3) := by decide +kernel
theorem dX6_allocate_20 : decode cX6_allocate 20 = .ok (.if_icmp .le 5, 3) := by decide +kernel
theorem dX6_allocate_23 : decode cX6_allocate 23 = .ok (.iconst (-1), 1) := by decide +kernel
theorem dX6_allocate_24 : decode cX6_allocate 24 = .ok (.ireturn, 1) := by decide +kernel
theorem dX6_allocate_25 : decode cX6_allocate 25 = .ok (.iload_n 3, 1) := by decide +kernel
theorem dX6_allocate_26 : decode cX6_allocate 26 = .ok (.ifCond .ge 6, 3) := by decide +kernel
theorem dX6_allocate_29 : decode cX6_allocate 29 = .ok (.bipush (-14), 2) := by decide +kernel
theorem dX6_allocate_31 : decode cX6_allocate 31 = .ok (.ireturn, 1) := by decide +kernel
theorem dX6_allocate_32 : decode cX6_allocate 32 = .ok (.aload_n 0, 1) := by decide +kernel
theorem dX6_allocate_33 : decode cX6_allocate 33 = .ok (.getfield 51, 3) := by decide +kernel
theorem dX6_allocate_36 : decode cX6_allocate 36 = .ok (.iload_n 1, 1) := by decide +kernel
theorem dX6_allocate_37 : decode cX6_allocate 37 = .ok (.aaload, 1) := by decide +kernel
theorem dX6_allocate_38 : decode cX6_allocate 38 = .ok (.iload_n 2, 1) := by decide +kernel
theorem dX6_allocate_39 : decode cX6_allocate 39 = .ok (.iload_n 3, 1) := by decide +kernel
theorem dX6_allocate_40 : decode cX6_allocate 40 = .ok (.invokevirtual 241, 3) := by decide +kernel
theorem dX6_allocate_43 : decode cX6_allocate 43 = .ok (.iload_n 3, 1) := by decide +kernel
theorem dX6_allocate_44 : decode cX6_allocate 44 = .ok (.ireturn, 1) := by decide +kernel
set_option maxRecDepth 20000 in
theorem ggX6_release_X6_isSlot : GoodIn wsX6_release wsX6_isSlot := goodIn_r _ [6] (by decide +kernel) (by decide +kernel)
set_option maxRecDepth 20000 in
theorem gX6_release_X6_isSlot : GoodIn wsX6_release (va_wsS RX6 238 yX6_isSlot wsX6_isSlot) := goodIn_app (goodIn_of _ (by decide +kernel)) ggX6_release_X6_isSlot
theorem dX6_release_0 : decode cX6_release 0 = .ok (.iload_n 1, 1) := by decide +kernel
theorem dX6_release_1 : decode cX6_release 1 = .ok (.invokestatic 238, 3) := by decide +kernel
theorem dX6_release_4 : decode cX6_release 4 = .ok (.ifCond .ne 5, 3) := by decide +kernel
theorem dX6_release_7 : decode cX6_release 7 = .ok (.iconst (-1), 1) := by decide +kernel
theorem dX6_release_8 : decode cX6_release 8 = .ok (.ireturn, 1) := by decide +kernel
theorem dX6_release_9 : decode cX6_release 9 = .ok (.aload_n 0, 1) := by decide +kernel
theorem dX6_release_10 : decode cX6_release 10 = .ok (.getfield 51, 3) := by decide +kernel
theorem dX6_release_13 : decode cX6_release 13 = .ok (.iload_n 1, 1) := by decide +kernel
theorem dX6_release_14 : decode cX6_release 14 = .ok (.aaload, 1) := by decide +kernel
theorem dX6_release_15 : decode cX6_release 15 = .ok (.getfield 244, 3) := by decide +kernel
theorem dX6_release_18 : decode cX6_release 18 = .ok (.ifCond .eq 7, 3) := by decide +kernel
theorem dX6_release_21 : decode cX6_release 21 = .ok (.iconst 1, 1) := by decide +kernel
theorem dX6_release_22 : decode cX6_release 22 = .ok (.goto 4, 3) := by decide +kernel
theorem dX6_release_25 : decode cX6_release 25 = .ok (.iconst 0, 1) := by decide +kernel
theorem dX6_release_26 : decode cX6_release 26 = .ok (.istore_n 2, 1) := by decide +kernel
theorem dX6_release_27 : decode cX6_release 27 = .ok (.aload_n 0, 1) := by decide +kernel
theorem dX6_release_28 : decode cX6_release 28 = .ok (.getfield 51, 3) := by decide +kernel
theorem dX6_release_31 : decode cX6_release 31 = .ok (.iload_n 1, 1) := by decide +kernel
theorem dX6_release_32 : decode cX6_release 32 = .ok (.aaload, 1) := by decide +kernel
theorem dX6_release_33 : decode cX6_release 33 = .ok (.iconst 0, 1) := by decide +kernel
theorem dX6_release_34 : decode cX6_release 34 = .ok (.putfield 244, 3) := by decide +kernel
theorem dX6_release_37 : decode cX6_release 37 = .ok (.iload_n 2, 1) := by decide +kernel
theorem dX6_release_38 : decode cX6_release 38 = .ok (.ireturn, 1) := by decide +kernel
set_option maxRecDepth 20000 in
theorem ggX6_putElement_X6_isSlot : GoodIn wsX6_putElement wsX6_isSlot := goodIn_r _ [6] (by decide +kernel) (by decide +kernel)
set_option maxRecDepth 20000 in
theorem gX6_putElement_X6_isSlot : GoodIn wsX6_putElement (va_wsS RX6 238 yX6_isSlot wsX6_isSlot) := goodIn_app (goodIn_of _ (by decide +kernel)) ggX6_putElement_X6_isSlot
set_option maxRecDepth 20000 in
theorem ggX6_putElement_X3_hasIndex : GoodIn wsX6_putElement wsX3_hasIndex := goodIn_r _ [11, 12, 32, 33, 34, 35] (by decide +kernel) (by decide +kernel)
set_option maxRecDepth 20000 in
theorem gX6_putElement_X3_hasIndex : GoodIn wsX6_putElement (wsV RX6 247 RX3 yX3_hasIndex wsX3_hasIndex) := goodIn_app (goodIn_of _ (by decide +kernel)) ggX6_putElement_X3_hasIndex
set_option maxRecDepth 20000 in
theorem ggX6_putElement_X3_put : GoodIn wsX6_putElement wsX3_put := goodIn_r _ [16, 17, 18, 19, 20, 10, 21, 22, 32, 33, 34, 35] (by decide +kernel) (by decide +kernel)
set_option maxRecDepth 20000 in
theorem gX6_putElement_X3_put : GoodIn wsX6_putElement (wsV RX6 250 RX3 yX3_put wsX3_put) := goodIn_app (goodIn_of _ (by decide +kernel)) ggX6_putElement_X3_put
theorem dX6_putElement_0 : decode cX6_putElement 0 = .ok (.iload_n 1, 1) := by decide +kernel
theorem dX6_putElement_1 : decode cX6_putElement 1 = .ok (.invokestatic 238, 3) := by decide +kernel
theorem dX6_putElement_4 : decode cX6_putElement 4 = .ok (.ifCond .ne 5, 3) := by decide +kernel
theorem dX6_putElement_7 : decode cX6_putElement 7 = .ok (.iconst (-1), 1) := by decide +kernel
theorem dX6_putElement_8 : decode cX6_putElement 8 = .ok (.ireturn, 1) := by decide +kernel
theorem dX6_putElement_9 : decode cX6_putElement 9 = .ok (.aload_n 0, 1) := by decide +kernel
theorem dX6_putElement_10 : decode cX6_putElement 10 = .ok (.getfield 51, 3) := by decide +kernel
theorem dX6_putElement_13 : decode cX6_putElement 13 = .ok (.iload_n 1, 1) := by decide +kernel
theorem dX6_putElement_14 : decode cX6_putElement 14 = .ok (.aaload, 1) := by decide +kernel
theorem dX6_putElement_15 : decode cX6_putElement 15 = .ok (.getfield 244, 3) := by decide +kernel
theorem dX6_putElement_18 : decode cX6_putElement 18 = .ok (.ifCond .ne 6, 3) := by decide +kernel
theorem dX6_putElement_21 : decode cX6_putElement 21 = .ok (.bipush (-11), 2) := by decide +kernel
theorem dX6_putElement_23 : decode cX6_putElement 23 = .ok (.ireturn, 1) := by decide +kernel
theorem dX6_putElement_24 : decode cX6_putElement 24 = .ok (.aload_n 0, 1) := by decide +kernel
theorem dX6_putElement_25 : decode cX6_putElement 25 = .ok (.getfield 51, 3) := by decide +kernel
theorem dX6_putElement_28 : decode cX6_putElement 28 = .ok (.iload_n 1, 1) := by decide +kernel
theorem dX6_putElement_29 : decode cX6_putElement 29 = .ok (.aaload, 1) := by decide +kernel
theorem dX6_putElement_30 : decode cX6_putElement 30 = .ok (.iload_n 2, 1) := by decide +kernel
theorem dX6_putElement_31 : decode cX6_putElement 31 = .ok (.invokevirtual 247, 3) := by decide +kernel
theorem dX6_putElement_34 : decode cX6_putElement 34 = .ok (.ifCond .ne 6, 3) := by decide +kernel
theorem dX6_putElement_37 : decode cX6_putElement 37 = .ok (.bipush (-13), 2) := by decide +kernel
theorem dX6_putElement_39 : decode cX6_putElement 39 = .ok (.ireturn, 1) := by decide +kernel
theorem dX6_putElement_40 : decode cX6_putElement 40 = .ok (.aload_n 0, 1) := by decide +kernel
theorem dX6_putElement_41 : decode cX6_putElement 41 = .ok (.getfield 51, 3) := by decide +kernel
theorem dX6_putElement_44 : decode cX6_putElement 44 = .ok (.iload_n 1, 1) := by decide +kernel
theorem dX6_putElement_45 : decode cX6_putElement 45 = .ok (.aaload, 1) := by decide +kernel
theorem dX6_putElement_46 : decode cX6_putElement 46 = .ok (.iload_n 2, 1) := by decide +kernel
theorem dX6_putElement_47 : decode cX6_putElement 47 = .ok (.lload_n 3, 1) := by decide +kernel
theorem dX6_putElement_48 : decode cX6_putElement 48 = .ok (.invokevirtual 250, 3) := by decide +kernel
theorem dX6_putElement_51 : decode cX6_putElement 51 = .ok (.iconst 1, 1) := by decide +kernel
theorem dX6_putElement_52 : decode cX6_putElement 52 = .ok (.ireturn, 1) := by decide +kernel
set_option maxRecDepth 20000 in
theorem ggX6_element_X6_isSlot : GoodIn wsX6_element wsX6_isSlot := goodIn_r _ [8] (by decide +kernel) (by decide +kernel)
set_option maxRecDepth 20000 in
theorem gX6_element_X6_isSlot : GoodIn wsX6_element (va_wsS RX6 238 yX6_isSlot wsX6_isSlot) := goodIn_app (goodIn_of _ (by decide +kernel)) ggX6_element_X6_isSlot
set_option maxRecDepth 20000 in
theorem ggX6_element_X3_hasIndex : GoodIn wsX6_element wsX3_hasIndex := goodIn_r _ [13, 14, 24, 25, 26, 27] (by decide +kernel) (by decide +kernel)
set_option maxRecDepth 20000 in
theorem gX6_element_X3_hasIndex : GoodIn wsX6_element (wsV RX6 247 RX3 yX3_hasIndex wsX3_hasIndex) := goodIn_app (goodIn_of _ (by decide +kernel)) ggX6_element_X3_hasIndex
theorem dX6_element_0 : decode cX6_element 0 = .ok (.iload_n 1, 1) := by decide +kernel
theorem dX6_element_1 : decode cX6_element 1 = .ok (.invokestatic 238, 3) := by decide +kernel
theorem dX6_element_4 : decode cX6_element 4 = .ok (.ifCond .eq 28, 3) := by decide +kernel
theorem dX6_element_7 : decode cX6_element 7 = .ok (.aload_n 0, 1) := by decide +kernel
theorem dX6_element_8 : decode cX6_element 8 = .ok (.getfield 51, 3) := by decide +kernel
theorem dX6_element_11 : decode cX6_element 11 = .ok (.iload_n 1, 1) := by decide +kernel
theorem dX6_element_12 : decode cX6_element 12 = .ok (.aaload, 1) := by decide +kernel
theorem dX6_element_13 : decode cX6_element 13 = .ok (.getfield 244, 3) := by decide +kernel
theorem dX6_element_16 : decode cX6_element 16 = .ok (.ifCond .eq 16, 3) := by decide +kernel
theorem dX6_element_19 : decode cX6_element 19 = .ok (.aload_n 0, 1) := by decide +kernel
theorem dX6_element_20 : decode cX6_element 20 = .ok (.getfield 51, 3) := by decide +kernel
theorem dX6_element_23 : decode cX6_element 23 = .ok (.iload_n 1, 1) := by decide +kernel
theorem dX6_element_24 : decode cX6_element 24 = .ok (.aaload, 1) := by decide +kernel
theorem dX6_element_25 : decode cX6_element 25 = .ok (.iload_n 2, 1) := by decide +kernel
theorem dX6_element_26 : decode cX6_element 26 = .ok (.invokevirtual 247, 3) := by decide +kernel
theorem dX6_element_29 : decode cX6_element 29 = .ok (.ifCond .ne 7, 3) := by decide +kernel
theorem dX6_element_32 : decode cX6_element 32 = .ok (.ldc2_w 190, 3) := by decide +kernel
theorem dX6_element_35 : decode cX6_element 35 = .ok (.lreturn, 1) := by decide +kernel
theorem dX6_element_36 : decode cX6_element 36 = .ok (.aload_n 0, 1) := by decide +kernel
theorem dX6_element_37 : decode cX6_element 37 = .ok (.getfield 51, 3) := by decide +kernel
theorem dX6_element_40 : decode cX6_element 40 = .ok (.iload_n 1, 1) := by decide +kernel
theorem dX6_element_41 : decode cX6_element 41 = .ok (.aaload, 1) := by decide +kernel
theorem dX6_element_42 : decode cX6_element 42 = .ok (.getfield 254, 3) := by decide +kernel
theorem dX6_element_45 : decode cX6_element 45 = .ok (.iload_n 2, 1) := by decide +kernel
theorem dX6_element_46 : decode cX6_element 46 = .ok (.laload, 1) := by decide +kernel
theorem dX6_element_47 : decode cX6_element 47 = .ok (.lreturn, 1) := by decide +kernel
set_option maxRecDepth 20000 in
theorem ggX6_copyElements_X6_isSlot : GoodIn wsX6_copyElements wsX6_isSlot := goodIn_r _ [12] (by decide +kernel) (by decide +kernel)
set_option maxRecDepth 20000 in
theorem gX6_copyElements_X6_isSlot : GoodIn wsX6_copyElements (va_wsS RX6 238 yX6_isSlot wsX6_isSlot) := goodIn_app (goodIn_of _ (by decide +kernel)) ggX6_copyElements_X6_isSlot
set_option maxRecDepth 20000 in
theorem ggX6_copyElements_X3_hasRange : GoodIn wsX6_copyElements wsX3_hasRange := goodIn_r _ [17, 18, 28, 29, 30, 31] (by decide +kernel) (by decide +kernel)
set_option maxRecDepth 20000 in
theorem gX6_copyElements_X3_hasRange : GoodIn wsX6_copyElements (wsV RX6 261 RX3 yX3_hasRange wsX3_hasRange) := goodIn_app (goodIn_of _ (by decide +kernel)) ggX6_copyElements_X3_hasRange
theorem dX6_copyElements_0 : decode cX6_copyElements 0 = .ok (.iload_n 1, 1) := by decide +kernel
theorem dX6_copyElements_1 : decode cX6_copyElements 1 = .ok (.invokestatic 238, 3) := by decide +kernel
theorem dX6_copyElements_4 : decode cX6_copyElements 4 = .ok (.ifCond .eq 10, 3) := by decide +kernel
theorem dX6_copyElements_7 : decode cX6_copyElements 7 = .ok (.iload_n 3, 1) := by decide +kernel
theorem dX6_copyElements_8 : decode cX6_copyElements 8 = .ok (.invokestatic 238, 3) := by decide +kernel
theorem dX6_copyElements_11 : decode cX6_copyElements 11 = .ok (.ifCond .ne 5, 3) := by decide +kernel
theorem dX6_copyElements_14 : decode cX6_copyElements 14 = .ok (.iconst (-1), 1) := by decide +kernel
theorem dX6_copyElements_15 : decode cX6_copyElements 15 = .ok (.ireturn, 1) := by decide +kernel
theorem dX6_copyElements_16 : decode cX6_copyElements 16 = .ok (.aload_n 0, 1) := by decide +kernel
theorem dX6_copyElements_17 : decode cX6_copyElements 17 = .ok (.getfield 51, 3) := by decide +kernel
theorem dX6_copyElements_20 : decode cX6_copyElements 20 = .ok (.iload_n 1, 1) := by decide +kernel
theorem dX6_copyElements_21 : decode cX6_copyElements 21 = .ok (.aaload, 1) := by decide +kernel
theorem dX6_copyElements_22 : decode cX6_copyElements 22 = .ok (.astore 6, 2) := by decide +kernel
theorem dX6_copyElements_24 : decode cX6_copyElements 24 = .ok (.aload_n 0, 1) := by decide +kernel
theorem dX6_copyElements_25 : decode cX6_copyElements 25 = .ok (.getfield 51, 3) := by decide +kernel
theorem dX6_copyElements_28 : decode cX6_copyElements 28 = .ok (.iload_n 3, 1) := by decide +kernel
theorem dX6_copyElements_29 : decode cX6_copyElements 29 = .ok (.aaload, 1) := by decide +kernel
theorem dX6_copyElements_30 : decode cX6_copyElements 30 = .ok (.astore 7, 2) := by decide +kernel
theorem dX6_copyElements_32 : decode cX6_copyElements 32 = .ok (.aload 6, 2) := by decide +kernel
theorem dX6_copyElements_34 : decode cX6_copyElements 34 = .ok (.getfield 244, 3) := by decide +kernel
theorem dX6_copyElements_37 : decode cX6_copyElements 37 = .ok (.ifCond .eq 11, 3) := by decide +kernel
theorem dX6_copyElements_40 : decode cX6_copyElements 40 = .ok (.aload 7, 2) := by decide +kernel
theorem dX6_copyElements_42 : decode cX6_copyElements 42 = .ok (.getfield 244, 3) := by decide +kernel
theorem dX6_copyElements_45 : decode cX6_copyElements 45 = .ok (.ifCond .ne 6, 3) := by decide +kernel
theorem dX6_copyElements_48 : decode cX6_copyElements 48 = .ok (.bipush (-11), 2) := by decide +kernel
theorem dX6_copyElements_50 : decode cX6_copyElements 50 = .ok (.ireturn, 1) := by decide +kernel
theorem dX6_copyElements_51 : decode cX6_copyElements 51 = .ok (.aload 6, 2) := by decide +kernel
theorem dX6_copyElements_53 : decode cX6_copyElements 53 = .ok (.getfield 258, 3) := by decide +kernel
theorem dX6_copyElements_56 : decode cX6_copyElements 56 = .ok (.aload 7, 2) := by decide +kernel
theorem dX6_copyElements_58 : decode cX6_copyElements 58 = .ok (.getfield 258, 3) := by decide +kernel
theorem dX6_copyElements_61 : decode cX6_copyElements 61 = .ok (.if_icmp .eq 6, 3) := by decide +kernel
theorem dX6_copyElements_64 : decode cX6_copyElements 64 = .ok (.bipush (-12), 2) := by decide +kernel
theorem dX6_copyElements_66 : decode cX6_copyElements 66 = .ok (.ireturn, 1) := by decide +kernel
theorem dX6_copyElements_67 : decode cX6_copyElements 67 = .ok (.aload 6, 2) := by decide +kernel
theorem dX6_copyElements_69 : decode cX6_copyElements 69 = .ok (.iload_n 2, 1) := by decide +kernel
theorem dX6_copyElements_70 : decode cX6_copyElements 70 = .ok (.iload 5, 2) := by decide +kernel
theorem dX6_copyElements_72 : decode cX6_copyElements 72 = .ok (.invokevirtual 261, 3) := by decide +kernel
theorem dX6_copyElements_75 : decode cX6_copyElements 75 = .ok (.ifCond .eq 15, 3) := by decide +kernel
theorem dX6_copyElements_78 : decode cX6_copyElements 78 = .ok (.aload 7, 2) := by decide +kernel
theorem dX6_copyElements_80 : decode cX6_copyElements 80 = .ok (.iload 4, 2) := by decide +kernel
theorem dX6_copyElements_82 : decode cX6_copyElements 82 = .ok (.iload 5, 2) := by decide +kernel
theorem dX6_copyElements_84 : decode cX6_copyElements 84 = .ok (.invokevirtual 261, 3) := by decide +kernel
theorem dX6_copyElements_87 : decode cX6_copyElements 87 = .ok (.ifCond .ne 6, 3) := by decide +kernel
theorem dX6_copyElements_90 : decode cX6_copyElements 90 = .ok (.bipush (-13), 2) := by decide +kernel
theorem dX6_copyElements_92 : decode cX6_copyElements 92 = .ok (.ireturn, 1) := by decide +kernel
theorem dX6_copyElements_93 : decode cX6_copyElements 93 = .ok (.aload 6, 2) := by decide +kernel
theorem dX6_copyElements_95 : decode cX6_copyElements 95 = .ok (.getfield 254, 3) := by decide +kernel
theorem dX6_copyElements_98 : decode cX6_copyElements 98 = .ok (.iload_n 2, 1) := by decide +kernel
theorem dX6_copyElements_99 : decode cX6_copyElements 99 = .ok (.aload 7, 2) := by decide +kernel
theorem dX6_copyElements_101 : decode cX6_copyElements 101 = .ok (.getfield 254, 3) := by decide +kernel
theorem dX6_copyElements_104 : decode cX6_copyElements 104 = .ok (.iload 4, 2) := by decide +kernel
theorem dX6_copyElements_106 : decode cX6_copyElements 106 = .ok (.iload 5, 2) := by decide +kernel
theorem dX6_copyElements_108 : decode cX6_copyElements 108 = .ok (.invokestatic 264, 3) := by decide +kernel
theorem dX6_copyElements_111 : decode cX6_copyElements 111 = .ok (.iload 5, 2) := by decide +kernel
theorem dX6_copyElements_113 : decode cX6_copyElements 113 = .ok (.ireturn, 1) := by decide +kernel
set_option maxRecDepth 20000 in
theorem ggX6_storeActions_X6_isSlot : GoodIn wsX6_storeActions wsX6_isSlot := goodIn_r _ [7] (by decide +kernel) (by decide +kernel)
set_option maxRecDepth 20000 in
theorem gX6_storeActions_X6_isSlot : GoodIn wsX6_storeActions (va_wsS RX6 238 yX6_isSlot wsX6_isSlot) := goodIn_app (goodIn_of _ (by decide +kernel)) ggX6_storeActions_X6_isSlot
set_option maxRecDepth 20000 in
theorem ggX6_storeActions_X3_fillWith : GoodIn wsX6_storeActions wsX3_fillWith := goodIn_r _ [12, 13, 14, 15, 16, 17, 18, 19, 20, 77, 78, 79, 80] (by decide +kernel) (by decide +kernel)
set_option maxRecDepth 20000 in
theorem gX6_storeActions_X3_fillWith : GoodIn wsX6_storeActions (wsV RX6 241 RX3 yX3_fillWith wsX3_fillWith) := goodIn_app (goodIn_of _ (by decide +kernel)) ggX6_storeActions_X3_fillWith
set_option maxRecDepth 20000 in
theorem ggX6_storeActions_X4_actionFor : GoodIn wsX6_storeActions wsX4_actionFor := goodIn_r _ [25, 26, 27, 28, 29, 30, 24, 31, 32, 33, 34, 35, 36, 37, 38, 39, 40, 41, 42, 43, 44, 45, 6, 46, 47, 48, 66, 67, 68, 69, 70, 71, 72, 73, 74, 75, 76] (by decide +kernel) (by decide +kernel)
set_option maxRecDepth 20000 in
theorem gX6_storeActions_X4_actionFor : GoodIn wsX6_storeActions (wsV RX6 152 RX4 yX4_actionFor wsX4_actionFor) := goodIn_app (goodIn_of _ (by decide +kernel)) ggX6_storeActions_X4_actionFor
set_option maxRecDepth 20000 in
theorem ggX6_storeActions_X3_put : GoodIn wsX6_storeActions wsX3_put := goodIn_r _ [52, 16, 53, 54, 55, 11, 56, 14, 77, 78, 79, 80] (by decide +kernel) (by decide +kernel)
set_option maxRecDepth 20000 in
theorem gX6_storeActions_X3_put : GoodIn wsX6_storeActions (wsV RX6 250 RX3 yX3_put wsX3_put) := goodIn_app (goodIn_of _ (by decide +kernel)) ggX6_storeActions_X3_put
theorem dX6_storeActions_0 : decode cX6_storeActions 0 = .ok (.iload_n 1, 1) := by decide +kernel
theorem dX6_storeActions_1 : decode cX6_storeActions 1 = .ok (.invokestatic 238, 3) := by decide +kernel
theorem dX6_storeActions_4 : decode cX6_storeActions 4 = .ok (.ifCond .ne 5, 3) := by decide +kernel
theorem dX6_storeActions_7 : decode cX6_storeActions 7 = .ok (.iconst (-1), 1) := by decide +kernel
theorem dX6_storeActions_8 : decode cX6_storeActions 8 = .ok (.ireturn, 1) := by decide +kernel
theorem dX6_storeActions_9 : decode cX6_storeActions 9 = .ok (.aload_n 0, 1) := by decide +kernel
theorem dX6_storeActions_10 : decode cX6_storeActions 10 = .ok (.getfield 51, 3) := by decide +kernel
theorem dX6_storeActions_13 : decode cX6_storeActions 13 = .ok (.iload_n 1, 1) := by decide +kernel
theorem dX6_storeActions_14 : decode cX6_storeActions 14 = .ok (.aaload, 1) := by decide +kernel
theorem dX6_storeActions_15 : decode cX6_storeActions 15 = .ok (.astore_n 2, 1) := by decide +kernel
theorem dX6_storeActions_16 : decode cX6_storeActions 16 = .ok (.aload_n 2, 1) := by decide +kernel
theorem dX6_storeActions_17 : decode cX6_storeActions 17 = .ok (.iconst 1, 1) := by decide +kernel
theorem dX6_storeActions_18 : decode cX6_storeActions 18 = .ok (.aload_n 0, 1) := by decide +kernel
theorem dX6_storeActions_19 : decode cX6_storeActions 19 = .ok (.getfield 12, 3) := by decide +kernel
theorem dX6_storeActions_22 : decode cX6_storeActions 22 = .ok (.getfield 75, 3) := by decide +kernel
theorem dX6_storeActions_25 : decode cX6_storeActions 25 = .ok (.invokevirtual 241, 3) := by decide +kernel
theorem dX6_storeActions_28 : decode cX6_storeActions 28 = .ok (.iconst 0, 1) := by decide +kernel
theorem dX6_storeActions_29 : decode cX6_storeActions 29 = .ok (.istore_n 3, 1) := by decide +kernel
theorem dX6_storeActions_30 : decode cX6_storeActions 30 = .ok (.iload_n 3, 1) := by decide +kernel
theorem dX6_storeActions_31 : decode cX6_storeActions 31 = .ok (.aload_n 0, 1) := by decide +kernel
theorem dX6_storeActions_32 : decode cX6_storeActions 32 = .ok (.getfield 12, 3) := by decide +kernel
theorem dX6_storeActions_35 : decode cX6_storeActions 35 = .ok (.getfield 75, 3) := by decide +kernel
theorem dX6_storeActions_38 : decode cX6_storeActions 38 = .ok (.if_icmp .ge 23, 3) := by decide +kernel
theorem dX6_storeActions_41 : decode cX6_storeActions 41 = .ok (.aload_n 2, 1) := by decide +kernel
theorem dX6_storeActions_42 : decode cX6_storeActions 42 = .ok (.iload_n 3, 1) := by decide +kernel
theorem dX6_storeActions_43 : decode cX6_storeActions 43 = .ok (.aload_n 0, 1) := by decide +kernel
theorem dX6_storeActions_44 : decode cX6_storeActions 44 = .ok (.getfield 12, 3) := by decide +kernel
theorem dX6_storeActions_47 : decode cX6_storeActions 47 = .ok (.iload_n 3, 1) := by decide +kernel
theorem dX6_storeActions_48 : decode cX6_storeActions 48 = .ok (.invokevirtual 152, 3) := by decide +kernel
theorem dX6_storeActions_51 : decode cX6_storeActions 51 = .ok (.i2l, 1) := by decide +kernel
theorem dX6_storeActions_52 : decode cX6_storeActions 52 = .ok (.invokevirtual 250, 3) := by decide +kernel
theorem dX6_storeActions_55 : decode cX6_storeActions 55 = .ok (.iinc 3 1, 3) := by decide +kernel
theorem dX6_storeActions_58 : decode cX6_storeActions 58 = .ok (.goto (-28), 3) := by decide +kernel
theorem dX6_storeActions_61 : decode cX6_storeActions 61 = .ok (.aload_n 0, 1) := by decide +kernel
theorem dX6_storeActions_62 : decode cX6_storeActions 62 = .ok (.getfield 12, 3) := by decide +kernel
theorem dX6_storeActions_65 : decode cX6_storeActions 65 = .ok (.getfield 75, 3) := by decide +kernel
theorem dX6_storeActions_68 : decode cX6_storeActions 68 = .ok (.ireturn, 1) := by decide +kernel
set_option maxRecDepth 20000 in
theorem ggX6_compareActions_X6_isSlot : GoodIn wsX6_compareActions wsX6_isSlot := goodIn_r _ [10] (by decide +kernel) (by decide +kernel)
set_option maxRecDepth 20000 in
theorem gX6_compareActions_X6_isSlot : GoodIn wsX6_compareActions (va_wsS RX6 238 yX6_isSlot wsX6_isSlot) := goodIn_app (goodIn_of _ (by decide +kernel)) ggX6_compareActions_X6_isSlot
set_option maxRecDepth 20000 in
theorem ggX6_compareActions_X3_hasIndex : GoodIn wsX6_compareActions wsX3_hasIndex := goodIn_r _ [15, 16, 54, 55, 56, 57] (by decide +kernel) (by decide +kernel)
set_option maxRecDepth 20000 in
theorem gX6_compareActions_X3_hasIndex : GoodIn wsX6_compareActions (wsV RX6 247 RX3 yX3_hasIndex wsX3_hasIndex) := goodIn_app (goodIn_of _ (by decide +kernel)) ggX6_compareActions_X3_hasIndex
set_option maxRecDepth 20000 in
theorem ggX6_compareActions_X4_actionFor : GoodIn wsX6_compareActions wsX4_actionFor := goodIn_r _ [21, 22, 23, 24, 25, 26, 20, 27, 28, 29, 30, 31, 32, 33, 34, 35, 36, 37, 38, 39, 40, 41, 9, 42, 43, 44, 58, 59, 60, 61, 62, 63, 64, 65, 66, 67, 68] (by decide +kernel) (by decide +kernel)
set_option maxRecDepth 20000 in
theorem gX6_compareActions_X4_actionFor : GoodIn wsX6_compareActions (wsV RX6 152 RX4 yX4_actionFor wsX4_actionFor) := goodIn_app (goodIn_of _ (by decide +kernel)) ggX6_compareActions_X4_actionFor
theorem dX6_compareActions_0 : decode cX6_compareActions 0 = .ok (.iload_n 1, 1) := by decide +kernel
theorem dX6_compareActions_1 : decode cX6_compareActions 1 = .ok (.invokestatic 238, 3) := by decide +kernel
theorem dX6_compareActions_4 : decode cX6_compareActions 4 = .ok (.ifCond .ne 5, 3) := by decide +kernel
theorem dX6_compareActions_7 : decode cX6_compareActions 7 = .ok (.iconst (-1), 1) := by decide +kernel
theorem dX6_compareActions_8 : decode cX6_compareActions 8 = .ok (.ireturn, 1) := by decide +kernel
theorem dX6_compareActions_9 : decode cX6_compareActions 9 = .ok (.aload_n 0, 1) := by decide +kernel
theorem dX6_compareActions_10 : decode cX6_compareActions 10 = .ok (.getfield 51, 3) := by decide +kernel
theorem dX6_compareActions_13 : decode cX6_compareActions 13 = .ok (.iload_n 1, 1) := by decide +kernel
theorem dX6_compareActions_14 : decode cX6_compareActions 14 = .ok (.aaload, 1) := by decide +kernel
theorem dX6_compareActions_15 : decode cX6_compareActions 15 = .ok (.astore_n 2, 1) := by decide +kernel
theorem dX6_compareActions_16 : decode cX6_compareActions 16 = .ok (.aload_n 2, 1) := by decide +kernel
theorem dX6_compareActions_17 : decode cX6_compareActions 17 = .ok (.getfield 244, 3) := by decide +kernel
theorem dX6_compareActions_20 : decode cX6_compareActions 20 = .ok (.ifCond .ne 6, 3) := by decide +kernel
theorem dX6_compareActions_23 : decode cX6_compareActions 23 = .ok (.bipush (-11), 2) := by decide +kernel
theorem dX6_compareActions_25 : decode cX6_compareActions 25 = .ok (.ireturn, 1) := by decide +kernel
theorem dX6_compareActions_26 : decode cX6_compareActions 26 = .ok (.aload_n 2, 1) := by decide +kernel
theorem dX6_compareActions_27 : decode cX6_compareActions 27 = .ok (.getfield 258, 3) := by decide +kernel
theorem dX6_compareActions_30 : decode cX6_compareActions 30 = .ok (.iconst 1, 1) := by decide +kernel
theorem dX6_compareActions_31 : decode cX6_compareActions 31 = .ok (.if_icmp .eq 6, 3) := by decide +kernel
theorem dX6_compareActions_34 : decode cX6_compareActions 34 = .ok (.bipush (-12), 2) := by decide +kernel
theorem dX6_compareActions_36 : decode cX6_compareActions 36 = .ok (.ireturn, 1) := by decide +kernel
theorem dX6_compareActions_37 : decode cX6_compareActions 37 = .ok (.iconst 0, 1) := by decide +kernel
theorem dX6_compareActions_38 : decode cX6_compareActions 38 = .ok (.istore_n 3, 1) := by decide +kernel
theorem dX6_compareActions_39 : decode cX6_compareActions 39 = .ok (.iload_n 3, 1) := by decide +kernel
theorem dX6_compareActions_40 : decode cX6_compareActions 40 = .ok (.aload_n 0, 1) := by decide +kernel
theorem dX6_compareActions_41 : decode cX6_compareActions 41 = .ok (.getfield 12, 3) := by decide +kernel
theorem dX6_compareActions_44 : decode cX6_compareActions 44 = .ok (.getfield 75, 3) := by decide +kernel
theorem dX6_compareActions_47 : decode cX6_compareActions 47 = .ok (.if_icmp .ge 41, 3) := by decide +kernel
theorem dX6_compareActions_50 : decode cX6_compareActions 50 = .ok (.aload_n 2, 1) := by decide +kernel
theorem dX6_compareActions_51 : decode cX6_compareActions 51 = .ok (.iload_n 3, 1) := by decide +kernel
theorem dX6_compareActions_52 : decode cX6_compareActions 52 = .ok (.invokevirtual 247, 3) := by decide +kernel
theorem dX6_compareActions_55 : decode cX6_compareActions 55 = .ok (.ifCond .ne 6, 3) := by decide +kernel
theorem dX6_compareActions_58 : decode cX6_compareActions 58 = .ok (.bipush (-13), 2) := by decide +kernel
theorem dX6_compareActions_60 : decode cX6_compareActions 60 = .ok (.ireturn, 1) := by decide +kernel
theorem dX6_compareActions_61 : decode cX6_compareActions 61 = .ok (.aload_n 2, 1) := by decide +kernel
theorem dX6_compareActions_62 : decode cX6_compareActions 62 = .ok (.getfield 254, 3) := by decide +kernel
theorem dX6_compareActions_65 : decode cX6_compareActions 65 = .ok (.iload_n 3, 1) := by decide +kernel
theorem dX6_compareActions_66 : decode cX6_compareActions 66 = .ok (.laload, 1) := by decide +kernel
theorem dX6_compareActions_67 : decode cX6_compareActions 67 = .ok (.aload_n 0, 1) := by decide +kernel
theorem dX6_compareActions_68 : decode cX6_compareActions 68 = .ok (.getfield 12, 3) := by decide +kernel
theorem dX6_compareActions_71 : decode cX6_compareActions 71 = .ok (.iload_n 3, 1) := by decide +kernel
theorem dX6_compareActions_72 : decode cX6_compareActions 72 = .ok (.invokevirtual 152, 3) := by decide +kernel
theorem dX6_compareActions_75 : decode cX6_compareActions 75 = .ok (.i2l, 1) := by decide +kernel
theorem dX6_compareActions_76 : decode cX6_compareActions 76 = .ok (.lcmp, 1) := by decide +kernel
theorem dX6_compareActions_77 : decode cX6_compareActions 77 = .ok (.ifCond .eq 5, 3) := by decide +kernel
theorem dX6_compareActions_80 : decode cX6_compareActions 80 = .ok (.iload_n 3, 1) := by decide +kernel
theorem dX6_compareActions_81 : decode cX6_compareActions 81 = .ok (.ireturn, 1) := by decide +kernel
theorem dX6_compareActions_82 : decode cX6_compareActions 82 = .ok (.iinc 3 1, 3) := by decide +kernel
theorem dX6_compareActions_85 : decode cX6_compareActions 85 = .ok (.goto (-46), 3) := by decide +kernel
theorem dX6_compareActions_88 : decode cX6_compareActions 88 = .ok (.bipush (-6), 2) := by decide +kernel
theorem dX6_compareActions_90 : decode cX6_compareActions 90 = .ok (.ireturn, 1) := by decide +kernel
set_option maxRecDepth 20000 in
theorem ggX6_snapshot_X4_copyFrom : GoodIn wsX6_snapshot wsX4_copyFrom := goodIn_r _ [9, 10, 11, 12, 13, 14, 15, 16, 17, 18, 19, 20, 21, 22, 23, 24, 34, 35, 36, 37, 38, 39, 40, 41, 42, 43, 44] (by decide +kernel) (by decide +kernel)
set_option maxRecDepth 20000 in
theorem gX6_snapshot_X4_copyFrom : GoodIn wsX6_snapshot (wsV RX6 270 RX4 yX4_copyFrom wsX4_copyFrom) := goodIn_app (goodIn_of _ (by decide +kernel)) ggX6_snapshot_X4_copyFrom
theorem dX6_snapshot_0 : decode cX6_snapshot 0 = .ok (.aload_n 0, 1) := by decide +kernel
theorem dX6_snapshot_1 : decode cX6_snapshot 1 = .ok (.getfield 18, 3) := by decide +kernel
theorem dX6_snapshot_4 : decode cX6_snapshot 4 = .ok (.aload_n 0, 1) := by decide +kernel
theorem dX6_snapshot_5 : decode cX6_snapshot 5 = .ok (.getfield 12, 3) := by decide +kernel
theorem dX6_snapshot_8 : decode cX6_snapshot 8 = .ok (.invokevirtual 270, 3) := by decide +kernel
theorem dX6_snapshot_11 : decode cX6_snapshot 11 = .ok (.aload_n 0, 1) := by decide +kernel
theorem dX6_snapshot_12 : decode cX6_snapshot 12 = .ok (.iconst 1, 1) := by decide +kernel
theorem dX6_snapshot_13 : decode cX6_snapshot 13 = .ok (.putfield 60, 3) := by decide +kernel
theorem dX6_snapshot_16 : decode cX6_snapshot 16 = .ok (.aload_n 0, 1) := by decide +kernel
theorem dX6_snapshot_17 : decode cX6_snapshot 17 = .ok (.getfield 18, 3) := by decide +kernel
theorem dX6_snapshot_20 : decode cX6_snapshot 20 = .ok (.getfield 122, 3) := by decide +kernel
theorem dX6_snapshot_23 : decode cX6_snapshot 23 = .ok (.ireturn, 1) := by decide +kernel
set_option maxRecDepth 20000 in
theorem ggX6_restore_X4_copyFrom : GoodIn wsX6_restore wsX4_copyFrom := goodIn_r _ [10, 11, 12, 13, 14, 15, 16, 17, 18, 19, 20, 21, 22, 23, 24, 25, 35, 36, 37, 38, 39, 40, 41, 42, 43, 44, 45] (by decide +kernel) (by decide +kernel)
set_option maxRecDepth 20000 in
theorem gX6_restore_X4_copyFrom : GoodIn wsX6_restore (wsV RX6 270 RX4 yX4_copyFrom wsX4_copyFrom) := goodIn_app (goodIn_of _ (by decide +kernel)) ggX6_restore_X4_copyFrom
theorem dX6_restore_0 : decode cX6_restore 0 = .ok (.aload_n 0, 1) := by decide +kernel
theorem dX6_restore_1 : decode cX6_restore 1 = .ok (.getfield 60, 3) := by decide +kernel
theorem dX6_restore_4 : decode cX6_restore 4 = .ok (.ifCond .ne 6, 3) := by decide +kernel
theorem dX6_restore_7 : decode cX6_restore 7 = .ok (.bipush (-6), 2) := by decide +kernel
theorem dX6_restore_9 : decode cX6_restore 9 = .ok (.ireturn, 1) := by decide +kernel
theorem dX6_restore_10 : decode cX6_restore 10 = .ok (.aload_n 0, 1) := by decide +kernel
theorem dX6_restore_11 : decode cX6_restore 11 = .ok (.getfield 12, 3) := by decide +kernel
theorem dX6_restore_14 : decode cX6_restore 14 = .ok (.aload_n 0, 1) := by decide +kernel
theorem dX6_restore_15 : decode cX6_restore 15 = .ok (.getfield 18, 3) := by decide +kernel
theorem dX6_restore_18 : decode cX6_restore 18 = .ok (.invokevirtual 270, 3) := by decide +kernel
theorem dX6_restore_21 : decode cX6_restore 21 = .ok (.aload_n 0, 1) := by decide +kernel
theorem dX6_restore_22 : decode cX6_restore 22 = .ok (.iconst 0, 1) := by decide +kernel
theorem dX6_restore_23 : decode cX6_restore 23 = .ok (.putfield 64, 3) := by decide +kernel
theorem dX6_restore_26 : decode cX6_restore 26 = .ok (.aload_n 0, 1) := by decide +kernel
theorem dX6_restore_27 : decode cX6_restore 27 = .ok (.getfield 12, 3) := by decide +kernel
theorem dX6_restore_30 : decode cX6_restore 30 = .ok (.getfield 122, 3) := by decide +kernel
theorem dX6_restore_33 : decode cX6_restore 33 = .ok (.ireturn, 1) := by decide +kernel
set_option maxRecDepth 20000 in
theorem ggX6_takeRule_X2_read : GoodIn wsX6_takeRule wsX2_read := goodIn_r _ [11, 12, 13, 14, 15, 16, 17, 18, 19, 20, 21, 22, 23, 24, 10, 25, 26, 27, 28, 29, 30, 31, 32, 33, 34, 35, 36, 37, 38, 39, 40, 41, 42, 43, 44, 45, 46, 47, 48, 49, 50, 51, 52, 53, 54, 103, 104, 105, 106, 90, 91, 92, 93, 94, 95, 96, 97, 98, 99, 100, 101, 102] (by decide +kernel) (by decide +kernel)
set_option maxRecDepth 20000 in
theorem gX6_takeRule_X2_read : GoodIn wsX6_takeRule (wsV RX6 273 RX2 yX2_read wsX2_read) := goodIn_app (goodIn_of _ (by decide +kernel)) ggX6_takeRule_X2_read
set_option maxRecDepth 20000 in
theorem ggX6_takeRule_X4_putRule : GoodIn wsX6_takeRule wsX4_putRule := goodIn_r _ [58, 59, 60, 61, 62, 63, 64, 65, 66, 67, 68, 69, 70, 38, 71, 72, 73, 74, 75, 45, 40, 76, 77, 78, 79, 80, 92, 93, 94, 95, 96, 97, 98, 99, 100, 101, 102, 103, 104, 105, 106] (by decide +kernel) (by decide +kernel)
set_option maxRecDepth 20000 in
theorem gX6_takeRule_X4_putRule : GoodIn wsX6_takeRule (wsV RX6 277 RX4 yX4_putRule wsX4_putRule) := goodIn_app (goodIn_of _ (by decide +kernel)) ggX6_takeRule_X4_putRule
theorem dX6_takeRule_0 : decode cX6_takeRule 0 = .ok (.aload_n 0, 1) := by decide +kernel
theorem dX6_takeRule_1 : decode cX6_takeRule 1 = .ok (.getfield 31, 3) := by decide +kernel
theorem dX6_takeRule_4 : decode cX6_takeRule 4 = .ok (.aload_n 0, 1) := by decide +kernel
theorem dX6_takeRule_5 : decode cX6_takeRule 5 = .ok (.getfield 24, 3) := by decide +kernel
theorem dX6_takeRule_8 : decode cX6_takeRule 8 = .ok (.aload_n 0, 1) := by decide +kernel
theorem dX6_takeRule_9 : decode cX6_takeRule 9 = .ok (.getfield 12, 3) := by decide +kernel
theorem dX6_takeRule_12 : decode cX6_takeRule 12 = .ok (.invokevirtual 273, 3) := by decide +kernel
theorem dX6_takeRule_15 : decode cX6_takeRule 15 = .ok (.istore_n 2, 1) := by decide +kernel
theorem dX6_takeRule_16 : decode cX6_takeRule 16 = .ok (.aload_n 0, 1) := by decide +kernel
theorem dX6_takeRule_17 : decode cX6_takeRule 17 = .ok (.getfield 24, 3) := by decide +kernel
theorem dX6_takeRule_20 : decode cX6_takeRule 20 = .ok (.iconst 0, 1) := by decide +kernel
theorem dX6_takeRule_21 : decode cX6_takeRule 21 = .ok (.putfield 115, 3) := by decide +kernel
theorem dX6_takeRule_24 : decode cX6_takeRule 24 = .ok (.iload_n 1, 1) := by decide +kernel
theorem dX6_takeRule_25 : decode cX6_takeRule 25 = .ok (.ifCond .lt 14, 3) := by decide +kernel
theorem dX6_takeRule_28 : decode cX6_takeRule 28 = .ok (.iload_n 1, 1) := by decide +kernel
theorem dX6_takeRule_29 : decode cX6_takeRule 29 = .ok (.aload_n 0, 1) := by decide +kernel
theorem dX6_takeRule_30 : decode cX6_takeRule 30 = .ok (.getfield 12, 3) := by decide +kernel
theorem dX6_takeRule_33 : decode cX6_takeRule 33 = .ok (.getfield 122, 3) := by decide +kernel
theorem dX6_takeRule_36 : decode cX6_takeRule 36 = .ok (.if_icmp .le 6, 3) := by decide +kernel
theorem dX6_takeRule_39 : decode cX6_takeRule 39 = .ok (.bipush (-3), 2) := by decide +kernel
theorem dX6_takeRule_41 : decode cX6_takeRule 41 = .ok (.ireturn, 1) := by decide +kernel
theorem dX6_takeRule_42 : decode cX6_takeRule 42 = .ok (.aload_n 0, 1) := by decide +kernel
theorem dX6_takeRule_43 : decode cX6_takeRule 43 = .ok (.getfield 12, 3) := by decide +kernel
theorem dX6_takeRule_46 : decode cX6_takeRule 46 = .ok (.getfield 122, 3) := by decide +kernel
theorem dX6_takeRule_49 : decode cX6_takeRule 49 = .ok (.bipush 12, 2) := by decide +kernel
theorem dX6_takeRule_51 : decode cX6_takeRule 51 = .ok (.if_icmp .lt 6, 3) := by decide +kernel
theorem dX6_takeRule_54 : decode cX6_takeRule 54 = .ok (.bipush (-4), 2) := by decide +kernel
theorem dX6_takeRule_56 : decode cX6_takeRule 56 = .ok (.ireturn, 1) := by decide +kernel
theorem dX6_takeRule_57 : decode cX6_takeRule 57 = .ok (.iload_n 2, 1) := by decide +kernel
theorem dX6_takeRule_58 : decode cX6_takeRule 58 = .ok (.ifCond .lt 9, 3) := by decide +kernel
theorem dX6_takeRule_61 : decode cX6_takeRule 61 = .ok (.sipush (-1000), 3) := by decide +kernel
theorem dX6_takeRule_64 : decode cX6_takeRule 64 = .ok (.iload_n 2, 1) := by decide +kernel
theorem dX6_takeRule_65 : decode cX6_takeRule 65 = .ok (.isub, 1) := by decide +kernel
theorem dX6_takeRule_66 : decode cX6_takeRule 66 = .ok (.ireturn, 1) := by decide +kernel
theorem dX6_takeRule_67 : decode cX6_takeRule 67 = .ok (.aload_n 0, 1) := by decide +kernel
theorem dX6_takeRule_68 : decode cX6_takeRule 68 = .ok (.getfield 12, 3) := by decide +kernel
theorem dX6_takeRule_71 : decode cX6_takeRule 71 = .ok (.iload_n 1, 1) := by decide +kernel
theorem dX6_takeRule_72 : decode cX6_takeRule 72 = .ok (.aload_n 0, 1) := by decide +kernel
theorem dX6_takeRule_73 : decode cX6_takeRule 73 = .ok (.getfield 31, 3) := by decide +kernel
theorem dX6_takeRule_76 : decode cX6_takeRule 76 = .ok (.invokevirtual 277, 3) := by decide +kernel
theorem dX6_takeRule_79 : decode cX6_takeRule 79 = .ok (.aload_n 0, 1) := by decide +kernel
theorem dX6_takeRule_80 : decode cX6_takeRule 80 = .ok (.iconst 0, 1) := by decide +kernel
theorem dX6_takeRule_81 : decode cX6_takeRule 81 = .ok (.putfield 64, 3) := by decide +kernel
theorem dX6_takeRule_84 : decode cX6_takeRule 84 = .ok (.iconst 0, 1) := by decide +kernel
theorem dX6_takeRule_85 : decode cX6_takeRule 85 = .ok (.ireturn, 1) := by decide +kernel
set_option maxRecDepth 20000 in
theorem ggX6_conflictAnswer_X4_lowestCommonCase : GoodIn wsX6_conflictAnswer wsX4_lowestCommonCase := goodIn_r _ [6, 7, 8, 9, 10, 11, 5, 12, 13, 14, 15, 16, 26, 27, 28, 29, 30, 31, 32, 33, 34, 35, 36] (by decide +kernel) (by decide +kernel)
set_option maxRecDepth 20000 in
theorem gX6_conflictAnswer_X4_lowestCommonCase : GoodIn wsX6_conflictAnswer (wsV RX6 281 RX4 yX4_lowestCommonCase wsX4_lowestCommonCase) := goodIn_app (goodIn_of _ (by decide +kernel)) ggX6_conflictAnswer_X4_lowestCommonCase
theorem dX6_conflictAnswer_0 : decode cX6_conflictAnswer 0 = .ok (.iload_n 3, 1) := by decide +kernel
theorem dX6_conflictAnswer_1 : decode cX6_conflictAnswer 1 = .ok (.ifCond .ne 5, 3) := by decide +kernel
theorem dX6_conflictAnswer_4 : decode cX6_conflictAnswer 4 = .ok (.iload_n 1, 1) := by decide +kernel
theorem dX6_conflictAnswer_5 : decode cX6_conflictAnswer 5 = .ok (.ireturn, 1) := by decide +kernel
theorem dX6_conflictAnswer_6 : decode cX6_conflictAnswer 6 = .ok (.iload_n 3, 1) := by decide +kernel
theorem dX6_conflictAnswer_7 : decode cX6_conflictAnswer 7 = .ok (.iconst 1, 1) := by decide +kernel
theorem dX6_conflictAnswer_8 : decode cX6_conflictAnswer 8 = .ok (.if_icmp .ne 7, 3) := by decide +kernel
theorem dX6_conflictAnswer_11 : decode cX6_conflictAnswer 11 = .ok (.iload_n 2, 1) := by decide +kernel
theorem dX6_conflictAnswer_12 : decode cX6_conflictAnswer 12 = .ok (.goto 12, 3) := by decide +kernel
theorem dX6_conflictAnswer_15 : decode cX6_conflictAnswer 15 = .ok (.aload_n 0, 1) := by decide +kernel
theorem dX6_conflictAnswer_16 : decode cX6_conflictAnswer 16 = .ok (.getfield 12, 3) := by decide +kernel
theorem dX6_conflictAnswer_19 : decode cX6_conflictAnswer 19 = .ok (.iload_n 1, 1) := by decide +kernel
theorem dX6_conflictAnswer_20 : decode cX6_conflictAnswer 20 = .ok (.iload_n 2, 1) := by decide +kernel
theorem dX6_conflictAnswer_21 : decode cX6_conflictAnswer 21 = .ok (.invokevirtual 281, 3) := by decide +kernel
theorem dX6_conflictAnswer_24 : decode cX6_conflictAnswer 24 = .ok (.ireturn, 1) := by decide +kernel
theorem dX6_actionAnswer_0 : decode cX6_actionAnswer 0 = .ok (.iload_n 0, 1) := by decide +kernel
theorem dX6_actionAnswer_1 : decode cX6_actionAnswer 1 = .ok (.ifCond .ge 8, 3) := by decide +kernel
theorem dX6_actionAnswer_4 : decode cX6_actionAnswer 4 = .ok (.bipush (-6), 2) := by decide +kernel
theorem dX6_actionAnswer_6 : decode cX6_actionAnswer 6 = .ok (.goto 4, 3) := by decide +kernel
theorem dX6_actionAnswer_9 : decode cX6_actionAnswer 9 = .ok (.iload_n 0, 1) := by decide +kernel
theorem dX6_actionAnswer_10 : decode cX6_actionAnswer 10 = .ok (.ireturn, 1) := by decide +kernel
theorem dX6_isActionOrNone_0 : decode cX6_isActionOrNone 0 = .ok (.iload_n 0, 1) := by decide +kernel
theorem dX6_isActionOrNone_1 : decode cX6_isActionOrNone 1 = .ok (.iconst (-1), 1) := by decide +kernel
theorem dX6_isActionOrNone_2 : decode cX6_isActionOrNone 2 = .ok (.if_icmp .lt 13, 3) := by decide +kernel
theorem dX6_isActionOrNone_5 : decode cX6_isActionOrNone 5 = .ok (.iload_n 0, 1) := by decide +kernel
theorem dX6_isActionOrNone_6 : decode cX6_isActionOrNone 6 = .ok (.bipush 9, 2) := by decide +kernel
theorem dX6_isActionOrNone_8 : decode cX6_isActionOrNone 8 = .ok (.if_icmp .gt 7, 3) := by decide +kernel
theorem dX6_isActionOrNone_11 : decode cX6_isActionOrNone 11 = .ok (.iconst 1, 1) := by decide +kernel
theorem dX6_isActionOrNone_12 : decode cX6_isActionOrNone 12 = .ok (.goto 4, 3) := by decide +kernel
theorem dX6_isActionOrNone_15 : decode cX6_isActionOrNone 15 = .ok (.iconst 0, 1) := by decide +kernel
theorem dX6_isActionOrNone_16 : decode cX6_isActionOrNone 16 = .ok (.ireturn, 1) := by decide +kernel
theorem dX6_isSize_0 : decode cX6_isSize 0 = .ok (.iload_n 0, 1) := by decide +kernel
theorem dX6_isSize_1 : decode cX6_isSize 1 = .ok (.iconst 2, 1) := by decide +kernel
theorem dX6_isSize_2 : decode cX6_isSize 2 = .ok (.if_icmp .lt 12, 3) := by decide +kernel
theorem dX6_isSize_5 : decode cX6_isSize 5 = .ok (.iload_n 0, 1) := by decide +kernel
theorem dX6_isSize_6 : decode cX6_isSize 6 = .ok (.iconst 5, 1) := by decide +kernel
theorem dX6_isSize_7 : decode cX6_isSize 7 = .ok (.if_icmp .gt 7, 3) := by decide +kernel
theorem dX6_isSize_10 : decode cX6_isSize 10 = .ok (.iconst 1, 1) := by decide +kernel
theorem dX6_isSize_11 : decode cX6_isSize 11 = .ok (.goto 4, 3) := by decide +kernel
theorem dX6_isSize_14 : decode cX6_isSize 14 = .ok (.iconst 0, 1) := by decide +kernel
theorem dX6_isSize_15 : decode cX6_isSize 15 = .ok (.ireturn, 1) := by decide +kernel
set_option maxRecDepth 20000 in
theorem ggX6_mayFollow_X6_isSize : GoodIn wsX6_mayFollow wsX6_isSize := goodIn_r _ [4] (by decide +kernel) (by decide +kernel)
set_option maxRecDepth 20000 in
theorem gX6_mayFollow_X6_isSize : GoodIn wsX6_mayFollow (va_wsS RX6 67 yX6_isSize wsX6_isSize) := goodIn_app (goodIn_of _ (by decide +kernel)) ggX6_mayFollow_X6_isSize
theorem dX6_mayFollow_0 : decode cX6_mayFollow 0 = .ok (.iload_n 1, 1) := by decide +kernel
theorem dX6_mayFollow_1 : decode cX6_mayFollow 1 = .ok (.ifCond .eq 14, 3) := by decide +kernel
theorem dX6_mayFollow_4 : decode cX6_mayFollow 4 = .ok (.iload_n 0, 1) := by decide +kernel
theorem dX6_mayFollow_5 : decode cX6_mayFollow 5 = .ok (.ifCond .eq 14, 3) := by decide +kernel
theorem dX6_mayFollow_8 : decode cX6_mayFollow 8 = .ok (.iload_n 1, 1) := by decide +kernel
theorem dX6_mayFollow_9 : decode cX6_mayFollow 9 = .ok (.invokestatic 67, 3) := by decide +kernel
theorem dX6_mayFollow_12 : decode cX6_mayFollow 12 = .ok (.ifCond .eq 7, 3) := by decide +kernel
theorem dX6_mayFollow_15 : decode cX6_mayFollow 15 = .ok (.iconst 1, 1) := by decide +kernel
theorem dX6_mayFollow_16 : decode cX6_mayFollow 16 = .ok (.goto 4, 3) := by decide +kernel
theorem dX6_mayFollow_19 : decode cX6_mayFollow 19 = .ok (.iconst 0, 1) := by decide +kernel
theorem dX6_mayFollow_20 : decode cX6_mayFollow 20 = .ok (.ireturn, 1) := by decide +kernel
theorem dX6_isSlot_0 : decode cX6_isSlot 0 = .ok (.iload_n 0, 1) := by decide +kernel
theorem dX6_isSlot_1 : decode cX6_isSlot 1 = .ok (.ifCond .lt 12, 3) := by decide +kernel
theorem dX6_isSlot_4 : decode cX6_isSlot 4 = .ok (.iload_n 0, 1) := by decide +kernel
theorem dX6_isSlot_5 : decode cX6_isSlot 5 = .ok (.iconst 4, 1) := by decide +kernel
theorem dX6_isSlot_6 : decode cX6_isSlot 6 = .ok (.if_icmp .ge 7, 3) := by decide +kernel
theorem dX6_isSlot_9 : decode cX6_isSlot 9 = .ok (.iconst 1, 1) := by decide +kernel
theorem dX6_isSlot_10 : decode cX6_isSlot 10 = .ok (.goto 4, 3) := by decide +kernel
theorem dX6_isSlot_13 : decode cX6_isSlot 13 = .ok (.iconst 0, 1) := by decide +kernel
theorem dX6_isSlot_14 : decode cX6_isSlot 14 = .ok (.ireturn, 1) := by decide +kernel
theorem dX6_quotient_0 : decode cX6_quotient 0 = .ok (.iload_n 1, 1) := by decide +kernel
theorem dX6_quotient_1 : decode cX6_quotient 1 = .ok (.ifCond .ne 7, 3) := by decide +kernel
theorem dX6_quotient_4 : decode cX6_quotient 4 = .ok (.iconst 0, 1) := by decide +kernel
theorem dX6_quotient_5 : decode cX6_quotient 5 = .ok (.goto 6, 3) := by decide +kernel
theorem dX6_quotient_8 : decode cX6_quotient 8 = .ok (.iload_n 0, 1) := by decide +kernel
theorem dX6_quotient_9 : decode cX6_quotient 9 = .ok (.iload_n 1, 1) := by decide +kernel
theorem dX6_quotient_10 : decode cX6_quotient 10 = .ok (.idiv, 1) := by decide +kernel
theorem dX6_quotient_11 : decode cX6_quotient 11 = .ok (.ireturn, 1) := by decide +kernel
theorem dX6_remainder_0 : decode cX6_remainder 0 = .ok (.iload_n 1, 1) := by decide +kernel
theorem dX6_remainder_1 : decode cX6_remainder 1 = .ok (.ifCond .ne 7, 3) := by decide +kernel
theorem dX6_remainder_4 : decode cX6_remainder 4 = .ok (.iconst 0, 1) := by decide +kernel
theorem dX6_remainder_5 : decode cX6_remainder 5 = .ok (.goto 6, 3) := by decide +kernel
theorem dX6_remainder_8 : decode cX6_remainder 8 = .ok (.iload_n 0, 1) := by decide +kernel
theorem dX6_remainder_9 : decode cX6_remainder 9 = .ok (.iload_n 1, 1) := by decide +kernel
theorem dX6_remainder_10 : decode cX6_remainder 10 = .ok (.irem, 1) := by decide +kernel
theorem dX6_remainder_11 : decode cX6_remainder 11 = .ok (.ireturn, 1) := by decide +kernel
