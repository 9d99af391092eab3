set_option maxRecDepth 20000 in
theorem ggX9_init_X0_init : GoodIn wsX9_init wsX0_init := goodIn_r _ [41, 42, 2, 3, 6, 43, 44, 45, 107, 108, 109, 110] (by decide +kernel) (by decide +kernel)
set_option maxRecDepth 20000 in
theorem gX9_init_X0_init : GoodIn wsX9_init (wsX0_init) := ggX9_init_X0_init
set_option maxRecDepth 20000 in
theorem ggX9_init_X4_init : GoodIn wsX9_init wsX4_init := goodIn_r _ [48, 49, 2, 3, 50, 6, 51, 111, 112] (by decide +kernel) (by decide +kernel)
set_option maxRecDepth 20000 in
theorem gX9_init_X4_init : GoodIn wsX9_init (wsX4_init) := ggX9_init_X4_init
set_option maxRecDepth 20000 in
theorem ggX9_init_X7_init : GoodIn wsX9_init wsX7_init := goodIn_r _ [54, 55, 2, 3, 56, 57, 58, 59, 60, 61, 113, 114, 115, 116, 117] (by decide +kernel) (by decide +kernel)
set_option maxRecDepth 20000 in
theorem gX9_init_X7_init : GoodIn wsX9_init (wsX7_init) := ggX9_init_X7_init
set_option maxRecDepth 20000 in
theorem ggX9_init_X6_init : GoodIn wsX9_init wsX6_init := goodIn_r _ [64, 65, 2, 3, 6, 66, 67, 118, 119] (by decide +kernel) (by decide +kernel)
set_option maxRecDepth 20000 in
theorem gX9_init_X6_init : GoodIn wsX9_init (wsX6_init) := ggX9_init_X6_init
set_option maxRecDepth 20000 in
theorem ggX9_init_X3_init : GoodIn wsX9_init wsX3_init := goodIn_r _ [70, 71, 2, 3, 6, 72, 73, 74, 75, 120, 121, 122, 123, 124] (by decide +kernel) (by decide +kernel)
set_option maxRecDepth 20000 in
theorem gX9_init_X3_init : GoodIn wsX9_init (wsX3_init) := ggX9_init_X3_init
set_option maxRecDepth 20000 in
theorem ggX9_init_X8_init : GoodIn wsX9_init wsX8_init := goodIn_r _ [78, 79, 2, 3, 6, 80, 56, 81, 82, 83, 84, 85, 125, 126, 127, 128, 129, 130] (by decide +kernel) (by decide +kernel)
set_option maxRecDepth 20000 in
theorem gX9_init_X8_init : GoodIn wsX9_init (wsX8_init) := ggX9_init_X8_init
set_option maxRecDepth 20000 in
theorem ggX9_init_X5_init : GoodIn wsX9_init wsX5_init := goodIn_r _ [88, 89, 2, 3, 90, 131, 132, 133] (by decide +kernel) (by decide +kernel)
set_option maxRecDepth 20000 in
theorem gX9_init_X5_init : GoodIn wsX9_init (wsX5_init) := ggX9_init_X5_init
set_option maxRecDepth 20000 in
theorem ggX9_init_X2_init : GoodIn wsX9_init wsX2_init := goodIn_r _ [93, 94, 2, 3, 95, 134] (by decide +kernel) (by decide +kernel)
set_option maxRecDepth 20000 in
theorem gX9_init_X2_init : GoodIn wsX9_init (wsX2_init) := ggX9_init_X2_init
theorem dX9_init_0 : decode cX9_init 0 = .ok (.aload_n 0, 1) := by decide +kernel
theorem dX9_init_1 : decode cX9_init 1 = .ok (.invokespecial 1, 3) := by decide +kernel
theorem dX9_init_4 : decode cX9_init 4 = .ok (.aload_n 0, 1) := by decide +kernel
theorem dX9_init_5 : decode cX9_init 5 = .ok (.bipush 6, 2) := by decide +kernel
theorem dX9_init_7 : decode cX9_init 7 = .ok (.anewarray 9, 3) := by decide +kernel
theorem dX9_init_10 : decode cX9_init 10 = .ok (.putfield 11, 3) := by decide +kernel
theorem dX9_init_13 : decode cX9_init 13 = .ok (.aload_n 0, 1) := by decide +kernel
theorem dX9_init_14 : decode cX9_init 14 = .ok (.bipush 30, 2) := by decide +kernel
theorem dX9_init_16 : decode cX9_init 16 = .ok (.newarray .int, 2) := by decide +kernel
theorem dX9_init_18 : decode cX9_init 18 = .ok (.putfield 15, 3) := by decide +kernel
theorem dX9_init_21 : decode cX9_init 21 = .ok (.aload_n 0, 1) := by decide +kernel
theorem dX9_init_22 : decode cX9_init 22 = .ok (.new 19, 3) := by decide +kernel
theorem dX9_init_25 : decode cX9_init 25 = .ok (.dup, 1) := by decide +kernel
theorem dX9_init_26 : decode cX9_init 26 = .ok (.invokespecial 21, 3) := by decide +kernel
theorem dX9_init_29 : decode cX9_init 29 = .ok (.putfield 22, 3) := by decide +kernel
theorem dX9_init_32 : decode cX9_init 32 = .ok (.aload_n 0, 1) := by decide +kernel
theorem dX9_init_33 : decode cX9_init 33 = .ok (.new 26, 3) := by decide +kernel
theorem dX9_init_36 : decode cX9_init 36 = .ok (.dup, 1) := by decide +kernel
theorem dX9_init_37 : decode cX9_init 37 = .ok (.invokespecial 28, 3) := by decide +kernel
theorem dX9_init_40 : decode cX9_init 40 = .ok (.putfield 29, 3) := by decide +kernel
theorem dX9_init_43 : decode cX9_init 43 = .ok (.aload_n 0, 1) := by decide +kernel
theorem dX9_init_44 : decode cX9_init 44 = .ok (.new 33, 3) := by decide +kernel
theorem dX9_init_47 : decode cX9_init 47 = .ok (.dup, 1) := by decide +kernel
theorem dX9_init_48 : decode cX9_init 48 = .ok (.invokespecial 35, 3) := by decide +kernel
theorem dX9_init_51 : decode cX9_init 51 = .ok (.putfield 36, 3) := by decide +kernel
theorem dX9_init_54 : decode cX9_init 54 = .ok (.aload_n 0, 1) := by decide +kernel
theorem dX9_init_55 : decode cX9_init 55 = .ok (.new 40, 3) := by decide +kernel
theorem dX9_init_58 : decode cX9_init 58 = .ok (.dup, 1) := by decide +kernel
theorem dX9_init_59 : decode cX9_init 59 = .ok (.invokespecial 42, 3) := by decide +kernel
theorem dX9_init_62 : decode cX9_init 62 = .ok (.putfield 43, 3) := by decide +kernel
theorem dX9_init_65 : decode cX9_init 65 = .ok (.new 47, 3) := by decide +kernel
theorem dX9_init_68 : decode cX9_init 68 = .ok (.dup, 1) := by decide +kernel
theorem dX9_init_69 : decode cX9_init 69 = .ok (.invokespecial 49, 3) := by decide +kernel
theorem dX9_init_72 : decode cX9_init 72 = .ok (.astore_n 1, 1) := by decide +kernel
theorem dX9_init_73 : decode cX9_init 73 = .ok (.aload_n 0, 1) := by decide +kernel
theorem dX9_init_74 : decode cX9_init 74 = .ok (.new 50, 3) := by decide +kernel
theorem dX9_init_77 : decode cX9_init 77 = .ok (.dup, 1) := by decide +kernel
theorem dX9_init_78 : decode cX9_init 78 = .ok (.aload_n 1, 1) := by decide +kernel
theorem dX9_init_79 : decode cX9_init 79 = .ok (.invokespecial 52, 3) := by decide +kernel
theorem dX9_init_82 : decode cX9_init 82 = .ok (.putfield 55, 3) := by decide +kernel
theorem dX9_init_85 : decode cX9_init 85 = .ok (.aload_n 0, 1) := by decide +kernel
theorem dX9_init_86 : decode cX9_init 86 = .ok (.new 59, 3) := by decide +kernel
theorem dX9_init_89 : decode cX9_init 89 = .ok (.dup, 1) := by decide +kernel
theorem dX9_init_90 : decode cX9_init 90 = .ok (.aload_n 1, 1) := by decide +kernel
theorem dX9_init_91 : decode cX9_init 91 = .ok (.invokespecial 61, 3) := by decide +kernel
theorem dX9_init_94 : decode cX9_init 94 = .ok (.putfield 62, 3) := by decide +kernel
theorem dX9_init_97 : decode cX9_init 97 = .ok (.aload_n 0, 1) := by decide +kernel
theorem dX9_init_98 : decode cX9_init 98 = .ok (.new 66, 3) := by decide +kernel
theorem dX9_init_101 : decode cX9_init 101 = .ok (.dup, 1) := by decide +kernel
theorem dX9_init_102 : decode cX9_init 102 = .ok (.aload_n 1, 1) := by decide +kernel
theorem dX9_init_103 : decode cX9_init 103 = .ok (.invokespecial 68, 3) := by decide +kernel
theorem dX9_init_106 : decode cX9_init 106 = .ok (.putfield 69, 3) := by decide +kernel
theorem dX9_init_109 : decode cX9_init 109 = .ok (.return_, 1) := by decide +kernel
set_option maxRecDepth 20000 in
theorem ggX9_set_X9_within : GoodIn wsX9_set wsX9_within := goodIn_r _ [8] (by decide +kernel) (by decide +kernel)
set_option maxRecDepth 20000 in
theorem gX9_set_X9_within : GoodIn wsX9_set (va_wsS RX9 73 yX9_within wsX9_within) := goodIn_app (goodIn_of _ (by decide +kernel)) ggX9_set_X9_within
set_option maxRecDepth 20000 in
theorem ggX9_set_X1_init : GoodIn wsX9_set wsX1_init := goodIn_r _ [11, 12, 13, 14, 15, 16, 17, 18, 19, 36, 37, 38, 39, 40, 41, 42] (by decide +kernel) (by decide +kernel)
set_option maxRecDepth 20000 in
theorem gX9_set_X1_init : GoodIn wsX9_set (wsX1_init) := ggX9_set_X1_init
set_option maxRecDepth 20000 in
theorem ggX9_set_X9_keep : GoodIn wsX9_set wsX9_keep := goodIn_r _ [23, 1, 24, 25, 26, 27, 28, 29, 30, 31, 32, 33, 34, 35] (by decide +kernel) (by decide +kernel)
set_option maxRecDepth 20000 in
theorem gX9_set_X9_keep : GoodIn wsX9_set (wsV RX9 84 RX9 yX9_keep wsX9_keep) := goodIn_app (goodIn_of _ (by decide +kernel)) ggX9_set_X9_keep
theorem dX9_set_0 : decode cX9_set 0 = .ok (.iload_n 1, 1) := by decide +kernel
theorem dX9_set_1 : decode cX9_set 1 = .ok (.iconst 2, 1) := by decide +kernel
theorem dX9_set_2 : decode cX9_set 2 = .ok (.iconst 4, 1) := by decide +kernel
theorem dX9_set_3 : decode cX9_set 3 = .ok (.invokestatic 73, 3) := by decide +kernel
theorem dX9_set_6 : decode cX9_set 6 = .ok (.ifCond .eq 13, 3) := by decide +kernel
theorem dX9_set_9 : decode cX9_set 9 = .ok (.iload_n 2, 1) := by decide +kernel
theorem dX9_set_10 : decode cX9_set 10 = .ok (.iconst 1, 1) := by decide +kernel
theorem dX9_set_11 : decode cX9_set 11 = .ok (.bipush 16, 2) := by decide +kernel
theorem dX9_set_13 : decode cX9_set 13 = .ok (.invokestatic 73, 3) := by decide +kernel
theorem dX9_set_16 : decode cX9_set 16 = .ok (.ifCond .ne 6, 3) := by decide +kernel
theorem dX9_set_19 : decode cX9_set 19 = .ok (.bipush (-2), 2) := by decide +kernel
theorem dX9_set_21 : decode cX9_set 21 = .ok (.ireturn, 1) := by decide +kernel
theorem dX9_set_22 : decode cX9_set 22 = .ok (.aload_n 0, 1) := by decide +kernel
theorem dX9_set_23 : decode cX9_set 23 = .ok (.getfield 77, 3) := by decide +kernel
theorem dX9_set_26 : decode cX9_set 26 = .ok (.bipush 6, 2) := by decide +kernel
theorem dX9_set_28 : decode cX9_set 28 = .ok (.if_icmp .lt 6, 3) := by decide +kernel
theorem dX9_set_31 : decode cX9_set 31 = .ok (.bipush (-4), 2) := by decide +kernel
theorem dX9_set_33 : decode cX9_set 33 = .ok (.ireturn, 1) := by decide +kernel
theorem dX9_set_34 : decode cX9_set 34 = .ok (.aload_n 0, 1) := by decide +kernel
theorem dX9_set_35 : decode cX9_set 35 = .ok (.new 9, 3) := by decide +kernel
theorem dX9_set_38 : decode cX9_set 38 = .ok (.dup, 1) := by decide +kernel
theorem dX9_set_39 : decode cX9_set 39 = .ok (.iload_n 1, 1) := by decide +kernel
theorem dX9_set_40 : decode cX9_set 40 = .ok (.iload_n 2, 1) := by decide +kernel
theorem dX9_set_41 : decode cX9_set 41 = .ok (.invokespecial 81, 3) := by decide +kernel
theorem dX9_set_44 : decode cX9_set 44 = .ok (.invokevirtual 84, 3) := by decide +kernel
theorem dX9_set_47 : decode cX9_set 47 = .ok (.ireturn, 1) := by decide +kernel
set_option maxRecDepth 20000 in
theorem ggX9_way_X9_graphAt : GoodIn wsX9_way wsX9_graphAt := goodIn_r _ [5, 6, 7, 8, 9, 4, 10, 67, 68, 69, 70, 71, 72, 73, 74, 75, 76, 77] (by decide +kernel) (by decide +kernel)
set_option maxRecDepth 20000 in
theorem gX9_way_X9_graphAt : GoodIn wsX9_way (wsV RX9 88 RX9 yX9_graphAt wsX9_graphAt) := goodIn_app (goodIn_of _ (by decide +kernel)) ggX9_way_X9_graphAt
set_option maxRecDepth 20000 in
theorem ggX9_way_X1_hasWayNumbers : GoodIn wsX9_way wsX1_hasWayNumbers := goodIn_r _ [15, 16, 17, 18, 19, 14, 20, 21, 9, 4, 10, 78, 79, 80, 81, 82, 83, 84] (by decide +kernel) (by decide +kernel)
set_option maxRecDepth 20000 in
theorem gX9_way_X1_hasWayNumbers : GoodIn wsX9_way (wsV RX9 92 RX1 yX1_hasWayNumbers wsX1_hasWayNumbers) := goodIn_app (goodIn_of _ (by decide +kernel)) ggX9_way_X1_hasWayNumbers
set_option maxRecDepth 20000 in
theorem ggX9_way_X1_leads : GoodIn wsX9_way wsX1_leads := goodIn_r _ [25, 26, 78, 79, 80, 81, 82, 83, 84] (by decide +kernel) (by decide +kernel)
set_option maxRecDepth 20000 in
theorem gX9_way_X1_leads : GoodIn wsX9_way (wsV RX9 95 RX1 yX1_leads wsX1_leads) := goodIn_app (goodIn_of _ (by decide +kernel)) ggX9_way_X1_leads
set_option maxRecDepth 20000 in
theorem ggX9_way_X1_turnWay : GoodIn wsX9_way wsX1_turnWay := goodIn_r _ [30, 31, 26, 32, 23, 24, 14, 25, 78, 79, 80, 81, 82, 83, 84] (by decide +kernel) (by decide +kernel)
set_option maxRecDepth 20000 in
theorem gX9_way_X1_turnWay : GoodIn wsX9_way (wsV RX9 98 RX1 yX1_turnWay wsX1_turnWay) := goodIn_app (goodIn_of _ (by decide +kernel)) ggX9_way_X1_turnWay
set_option maxRecDepth 20000 in
theorem ggX9_way_X1_settle : GoodIn wsX9_way wsX1_settle := goodIn_r _ [36, 21, 37, 38, 16, 39, 40, 41, 14, 42, 43, 44, 45, 46, 47, 48, 49, 50, 26, 51, 52, 53, 54, 55, 56, 57, 58, 59, 60, 61, 62, 63, 64, 65, 66, 78, 79, 80, 81, 82, 83, 84] (by decide +kernel) (by decide +kernel)
set_option maxRecDepth 20000 in
theorem gX9_way_X1_settle : GoodIn wsX9_way (wsV RX9 102 RX1 yX1_settle wsX1_settle) := goodIn_app (goodIn_of _ (by decide +kernel)) ggX9_way_X1_settle
theorem dX9_way_0 : decode cX9_way 0 = .ok (.aload_n 0, 1) := by decide +kernel
theorem dX9_way_1 : decode cX9_way 1 = .ok (.iload_n 1, 1) := by decide +kernel
theorem dX9_way_2 : decode cX9_way 2 = .ok (.invokevirtual 88, 3) := by decide +kernel
theorem dX9_way_5 : decode cX9_way 5 = .ok (.astore 5, 2) := by decide +kernel
theorem dX9_way_7 : decode cX9_way 7 = .ok (.aload 5, 2) := by decide +kernel
theorem dX9_way_9 : decode cX9_way 9 = .ok (.ifnull 15, 3) := by decide +kernel
theorem dX9_way_12 : decode cX9_way 12 = .ok (.aload 5, 2) := by decide +kernel
theorem dX9_way_14 : decode cX9_way 14 = .ok (.iload_n 2, 1) := by decide +kernel
theorem dX9_way_15 : decode cX9_way 15 = .ok (.iload_n 3, 1) := by decide +kernel
theorem dX9_way_16 : decode cX9_way 16 = .ok (.iload 4, 2) := by decide +kernel
theorem dX9_way_18 : decode cX9_way 18 = .ok (.invokevirtual 92, 3) := by decide +kernel
theorem dX9_way_21 : decode cX9_way 21 = .ok (.ifCond .ne 6, 3) := by decide +kernel
theorem dX9_way_24 : decode cX9_way 24 = .ok (.bipush (-2), 2) := by decide +kernel
theorem dX9_way_26 : decode cX9_way 26 = .ok (.ireturn, 1) := by decide +kernel
theorem dX9_way_27 : decode cX9_way 27 = .ok (.aload 5, 2) := by decide +kernel
theorem dX9_way_29 : decode cX9_way 29 = .ok (.iload_n 2, 1) := by decide +kernel
theorem dX9_way_30 : decode cX9_way 30 = .ok (.iload_n 3, 1) := by decide +kernel
theorem dX9_way_31 : decode cX9_way 31 = .ok (.iload 4, 2) := by decide +kernel
theorem dX9_way_33 : decode cX9_way 33 = .ok (.invokevirtual 95, 3) := by decide +kernel
theorem dX9_way_36 : decode cX9_way 36 = .ok (.ifCond .eq 6, 3) := by decide +kernel
theorem dX9_way_39 : decode cX9_way 39 = .ok (.bipush (-3), 2) := by decide +kernel
theorem dX9_way_41 : decode cX9_way 41 = .ok (.ireturn, 1) := by decide +kernel
theorem dX9_way_42 : decode cX9_way 42 = .ok (.aload 5, 2) := by decide +kernel
theorem dX9_way_44 : decode cX9_way 44 = .ok (.iload_n 2, 1) := by decide +kernel
theorem dX9_way_45 : decode cX9_way 45 = .ok (.iload_n 3, 1) := by decide +kernel
theorem dX9_way_46 : decode cX9_way 46 = .ok (.iload 4, 2) := by decide +kernel
theorem dX9_way_48 : decode cX9_way 48 = .ok (.invokevirtual 98, 3) := by decide +kernel
theorem dX9_way_51 : decode cX9_way 51 = .ok (.aload 5, 2) := by decide +kernel
theorem dX9_way_53 : decode cX9_way 53 = .ok (.invokevirtual 102, 3) := by decide +kernel
theorem dX9_way_56 : decode cX9_way 56 = .ok (.iconst 1, 1) := by decide +kernel
theorem dX9_way_57 : decode cX9_way 57 = .ok (.ireturn, 1) := by decide +kernel
set_option maxRecDepth 20000 in
theorem ggX9_unway_X9_graphAt : GoodIn wsX9_unway wsX9_graphAt := goodIn_r _ [5, 6, 7, 8, 9, 4, 10, 67, 68, 69, 70, 71, 72, 73, 74, 75, 76, 77] (by decide +kernel) (by decide +kernel)
set_option maxRecDepth 20000 in
theorem gX9_unway_X9_graphAt : GoodIn wsX9_unway (wsV RX9 88 RX9 yX9_graphAt wsX9_graphAt) := goodIn_app (goodIn_of _ (by decide +kernel)) ggX9_unway_X9_graphAt
set_option maxRecDepth 20000 in
theorem ggX9_unway_X1_hasWayNumbers : GoodIn wsX9_unway wsX1_hasWayNumbers := goodIn_r _ [15, 16, 17, 18, 19, 14, 20, 21, 9, 4, 10, 78, 79, 80, 81, 82, 83, 84] (by decide +kernel) (by decide +kernel)
set_option maxRecDepth 20000 in
theorem gX9_unway_X1_hasWayNumbers : GoodIn wsX9_unway (wsV RX9 92 RX1 yX1_hasWayNumbers wsX1_hasWayNumbers) := goodIn_app (goodIn_of _ (by decide +kernel)) ggX9_unway_X1_hasWayNumbers
set_option maxRecDepth 20000 in
theorem ggX9_unway_X1_leads : GoodIn wsX9_unway wsX1_leads := goodIn_r _ [25, 26, 78, 79, 80, 81, 82, 83, 84] (by decide +kernel) (by decide +kernel)
set_option maxRecDepth 20000 in
theorem gX9_unway_X1_leads : GoodIn wsX9_unway (wsV RX9 95 RX1 yX1_leads wsX1_leads) := goodIn_app (goodIn_of _ (by decide +kernel)) ggX9_unway_X1_leads
set_option maxRecDepth 20000 in
theorem ggX9_unway_X1_turnWay : GoodIn wsX9_unway wsX1_turnWay := goodIn_r _ [30, 31, 26, 32, 23, 24, 14, 25, 78, 79, 80, 81, 82, 83, 84] (by decide +kernel) (by decide +kernel)
set_option maxRecDepth 20000 in
theorem gX9_unway_X1_turnWay : GoodIn wsX9_unway (wsV RX9 98 RX1 yX1_turnWay wsX1_turnWay) := goodIn_app (goodIn_of _ (by decide +kernel)) ggX9_unway_X1_turnWay
set_option maxRecDepth 20000 in
theorem ggX9_unway_X1_settle : GoodIn wsX9_unway wsX1_settle := goodIn_r _ [36, 21, 37, 38, 16, 39, 40, 41, 14, 42, 43, 44, 45, 46, 47, 48, 49, 50, 26, 51, 52, 53, 54, 55, 56, 57, 58, 59, 60, 61, 62, 63, 64, 65, 66, 78, 79, 80, 81, 82, 83, 84] (by decide +kernel) (by decide +kernel)
set_option maxRecDepth 20000 in
theorem gX9_unway_X1_settle : GoodIn wsX9_unway (wsV RX9 102 RX1 yX1_settle wsX1_settle) := goodIn_app (goodIn_of _ (by decide +kernel)) ggX9_unway_X1_settle
theorem dX9_unway_0 : decode cX9_unway 0 = .ok (.aload_n 0, 1) := by decide +kernel
theorem dX9_unway_1 : decode cX9_unway 1 = .ok (.iload_n 1, 1) := by decide +kernel
theorem dX9_unway_2 : decode cX9_unway 2 = .ok (.invokevirtual 88, 3) := by decide +kernel
theorem dX9_unway_5 : decode cX9_unway 5 = .ok (.astore 5, 2) := by decide +kernel
theorem dX9_unway_7 : decode cX9_unway 7 = .ok (.aload 5, 2) := by decide +kernel
theorem dX9_unway_9 : decode cX9_unway 9 = .ok (.ifnull 15, 3) := by decide +kernel
theorem dX9_unway_12 : decode cX9_unway 12 = .ok (.aload 5, 2) := by decide +kernel
theorem dX9_unway_14 : decode cX9_unway 14 = .ok (.iload_n 2, 1) := by decide +kernel
theorem dX9_unway_15 : decode cX9_unway 15 = .ok (.iload_n 3, 1) := by decide +kernel
theorem dX9_unway_16 : decode cX9_unway 16 = .ok (.iload 4, 2) := by decide +kernel
theorem dX9_unway_18 : decode cX9_unway 18 = .ok (.invokevirtual 92, 3) := by decide +kernel
theorem dX9_unway_21 : decode cX9_unway 21 = .ok (.ifCond .ne 6, 3) := by decide +kernel
theorem dX9_unway_24 : decode cX9_unway 24 = .ok (.bipush (-2), 2) := by decide +kernel
theorem dX9_unway_26 : decode cX9_unway 26 = .ok (.ireturn, 1) := by decide +kernel
theorem dX9_unway_27 : decode cX9_unway 27 = .ok (.aload 5, 2) := by decide +kernel
theorem dX9_unway_29 : decode cX9_unway 29 = .ok (.iload_n 2, 1) := by decide +kernel
theorem dX9_unway_30 : decode cX9_unway 30 = .ok (.iload_n 3, 1) := by decide +kernel
theorem dX9_unway_31 : decode cX9_unway 31 = .ok (.iload 4, 2) := by decide +kernel
theorem dX9_unway_33 : decode cX9_unway 33 = .ok (.invokevirtual 95, 3) := by decide +kernel
theorem dX9_unway_36 : decode cX9_unway 36 = .ok (.ifCond .ne 6, 3) := by decide +kernel
theorem dX9_unway_39 : decode cX9_unway 39 = .ok (.bipush (-3), 2) := by decide +kernel
theorem dX9_unway_41 : decode cX9_unway 41 = .ok (.ireturn, 1) := by decide +kernel
theorem dX9_unway_42 : decode cX9_unway 42 = .ok (.aload 5, 2) := by decide +kernel
theorem dX9_unway_44 : decode cX9_unway 44 = .ok (.iload_n 2, 1) := by decide +kernel
theorem dX9_unway_45 : decode cX9_unway 45 = .ok (.iload_n 3, 1) := by decide +kernel
theorem dX9_unway_46 : decode cX9_unway 46 = .ok (.iload 4, 2) := by decide +kernel
theorem dX9_unway_48 : decode cX9_unway 48 = .ok (.invokevirtual 98, 3) := by decide +kernel
theorem dX9_unway_51 : decode cX9_unway 51 = .ok (.aload 5, 2) := by decide +kernel
theorem dX9_unway_53 : decode cX9_unway 53 = .ok (.invokevirtual 102, 3) := by decide +kernel
theorem dX9_unway_56 : decode cX9_unway 56 = .ok (.iconst 1, 1) := by decide +kernel
theorem dX9_unway_57 : decode cX9_unway 57 = .ok (.ireturn, 1) := by decide +kernel
theorem dX9_empty_0 : decode cX9_empty 0 = .ok (.aload_n 0, 1) := by decide +kernel
theorem dX9_empty_1 : decode cX9_empty 1 = .ok (.getfield 105, 3) := by decide +kernel
theorem dX9_empty_4 : decode cX9_empty 4 = .ok (.istore_n 1, 1) := by decide +kernel
theorem dX9_empty_5 : decode cX9_empty 5 = .ok (.aload_n 0, 1) := by decide +kernel
theorem dX9_empty_6 : decode cX9_empty 6 = .ok (.iconst 0, 1) := by decide +kernel
theorem dX9_empty_7 : decode cX9_empty 7 = .ok (.putfield 105, 3) := by decide +kernel
theorem dX9_empty_10 : decode cX9_empty 10 = .ok (.iload_n 1, 1) := by decide +kernel
theorem dX9_empty_11 : decode cX9_empty 11 = .ok (.ireturn, 1) := by decide +kernel
set_option maxRecDepth 20000 in
theorem ggX9_letter_X9_within : GoodIn wsX9_letter wsX9_within := goodIn_r _ [6] (by decide +kernel) (by decide +kernel)
set_option maxRecDepth 20000 in
theorem gX9_letter_X9_within : GoodIn wsX9_letter (va_wsS RX9 73 yX9_within wsX9_within) := goodIn_app (goodIn_of _ (by decide +kernel)) ggX9_letter_X9_within
theorem dX9_letter_0 : decode cX9_letter 0 = .ok (.iload_n 1, 1) := by decide +kernel
theorem dX9_letter_1 : decode cX9_letter 1 = .ok (.iconst 0, 1) := by decide +kernel
theorem dX9_letter_2 : decode cX9_letter 2 = .ok (.iconst 3, 1) := by decide +kernel
theorem dX9_letter_3 : decode cX9_letter 3 = .ok (.invokestatic 73, 3) := by decide +kernel
theorem dX9_letter_6 : decode cX9_letter 6 = .ok (.ifCond .ne 6, 3) := by decide +kernel
theorem dX9_letter_9 : decode cX9_letter 9 = .ok (.bipush (-2), 2) := by decide +kernel
theorem dX9_letter_11 : decode cX9_letter 11 = .ok (.ireturn, 1) := by decide +kernel
theorem dX9_letter_12 : decode cX9_letter 12 = .ok (.aload_n 0, 1) := by decide +kernel
theorem dX9_letter_13 : decode cX9_letter 13 = .ok (.getfield 105, 3) := by decide +kernel
theorem dX9_letter_16 : decode cX9_letter 16 = .ok (.bipush 30, 2) := by decide +kernel
theorem dX9_letter_18 : decode cX9_letter 18 = .ok (.if_icmp .lt 6, 3) := by decide +kernel
theorem dX9_letter_21 : decode cX9_letter 21 = .ok (.bipush (-4), 2) := by decide +kernel
theorem dX9_letter_23 : decode cX9_letter 23 = .ok (.ireturn, 1) := by decide +kernel
theorem dX9_letter_24 : decode cX9_letter 24 = .ok (.aload_n 0, 1) := by decide +kernel
theorem dX9_letter_25 : decode cX9_letter 25 = .ok (.getfield 15, 3) := by decide +kernel
theorem dX9_letter_28 : decode cX9_letter 28 = .ok (.aload_n 0, 1) := by decide +kernel
theorem dX9_letter_29 : decode cX9_letter 29 = .ok (.getfield 105, 3) := by decide +kernel
theorem dX9_letter_32 : decode cX9_letter 32 = .ok (.iload_n 1, 1) := by decide +kernel
theorem dX9_letter_33 : decode cX9_letter 33 = .ok (.iastore, 1) := by decide +kernel
theorem dX9_letter_34 : decode cX9_letter 34 = .ok (.aload_n 0, 1) := by decide +kernel
theorem dX9_letter_35 : decode cX9_letter 35 = .ok (.dup, 1) := by decide +kernel
theorem dX9_letter_36 : decode cX9_letter 36 = .ok (.getfield 105, 3) := by decide +kernel
theorem dX9_letter_39 : decode cX9_letter 39 = .ok (.iconst 1, 1) := by decide +kernel
theorem dX9_letter_40 : decode cX9_letter 40 = .ok (.iadd, 1) := by decide +kernel
theorem dX9_letter_41 : decode cX9_letter 41 = .ok (.putfield 105, 3) := by decide +kernel
theorem dX9_letter_44 : decode cX9_letter 44 = .ok (.aload_n 0, 1) := by decide +kernel
theorem dX9_letter_45 : decode cX9_letter 45 = .ok (.getfield 105, 3) := by decide +kernel
theorem dX9_letter_48 : decode cX9_letter 48 = .ok (.ireturn, 1) := by decide +kernel
set_option maxRecDepth 20000 in
theorem ggX9_letterAt_X9_within : GoodIn wsX9_letterAt wsX9_within := goodIn_r _ [6] (by decide +kernel) (by decide +kernel)
set_option maxRecDepth 20000 in
theorem gX9_letterAt_X9_within : GoodIn wsX9_letterAt (va_wsS RX9 73 yX9_within wsX9_within) := goodIn_app (goodIn_of _ (by decide +kernel)) ggX9_letterAt_X9_within
theorem dX9_letterAt_0 : decode cX9_letterAt 0 = .ok (.iload_n 1, 1) := by decide +kernel
theorem dX9_letterAt_1 : decode cX9_letterAt 1 = .ok (.iconst 0, 1) := by decide +kernel
theorem dX9_letterAt_2 : decode cX9_letterAt 2 = .ok (.aload_n 0, 1) := by decide +kernel
theorem dX9_letterAt_3 : decode cX9_letterAt 3 = .ok (.getfield 105, 3) := by decide +kernel
theorem dX9_letterAt_6 : decode cX9_letterAt 6 = .ok (.iconst 1, 1) := by decide +kernel
theorem dX9_letterAt_7 : decode cX9_letterAt 7 = .ok (.isub, 1) := by decide +kernel
theorem dX9_letterAt_8 : decode cX9_letterAt 8 = .ok (.invokestatic 73, 3) := by decide +kernel
theorem dX9_letterAt_11 : decode cX9_letterAt 11 = .ok (.ifCond .eq 12, 3) := by decide +kernel
theorem dX9_letterAt_14 : decode cX9_letterAt 14 = .ok (.aload_n 0, 1) := by decide +kernel
theorem dX9_letterAt_15 : decode cX9_letterAt 15 = .ok (.getfield 15, 3) := by decide +kernel
theorem dX9_letterAt_18 : decode cX9_letterAt 18 = .ok (.iload_n 1, 1) := by decide +kernel
theorem dX9_letterAt_19 : decode cX9_letterAt 19 = .ok (.iaload, 1) := by decide +kernel
theorem dX9_letterAt_20 : decode cX9_letterAt 20 = .ok (.goto 4, 3) := by decide +kernel
theorem dX9_letterAt_23 : decode cX9_letterAt 23 = .ok (.iconst (-1), 1) := by decide +kernel
theorem dX9_letterAt_24 : decode cX9_letterAt 24 = .ok (.ireturn, 1) := by decide +kernel
set_option maxRecDepth 20000 in
theorem ggX9_forbid_X9_within : GoodIn wsX9_forbid wsX9_within := goodIn_r _ [8] (by decide +kernel) (by decide +kernel)
set_option maxRecDepth 20000 in
theorem gX9_forbid_X9_within : GoodIn wsX9_forbid (va_wsS RX9 73 yX9_within wsX9_within) := goodIn_app (goodIn_of _ (by decide +kernel)) ggX9_forbid_X9_within
set_option maxRecDepth 20000 in
theorem ggX9_forbid_X0_add : GoodIn wsX9_forbid wsX0_add := goodIn_r _ [13, 14, 15, 16, 28, 29, 30, 31] (by decide +kernel) (by decide +kernel)
set_option maxRecDepth 20000 in
theorem gX9_forbid_X0_add : GoodIn wsX9_forbid (wsV RX9 111 RX0 yX0_add wsX0_add) := goodIn_app (goodIn_of _ (by decide +kernel)) ggX9_forbid_X0_add
theorem dX9_forbid_0 : decode cX9_forbid 0 = .ok (.aload_n 0, 1) := by decide +kernel
theorem dX9_forbid_1 : decode cX9_forbid 1 = .ok (.getfield 105, 3) := by decide +kernel
theorem dX9_forbid_4 : decode cX9_forbid 4 = .ok (.iconst 1, 1) := by decide +kernel
theorem dX9_forbid_5 : decode cX9_forbid 5 = .ok (.iconst 5, 1) := by decide +kernel
theorem dX9_forbid_6 : decode cX9_forbid 6 = .ok (.invokestatic 73, 3) := by decide +kernel
theorem dX9_forbid_9 : decode cX9_forbid 9 = .ok (.ifCond .ne 6, 3) := by decide +kernel
theorem dX9_forbid_12 : decode cX9_forbid 12 = .ok (.bipush (-3), 2) := by decide +kernel
theorem dX9_forbid_14 : decode cX9_forbid 14 = .ok (.ireturn, 1) := by decide +kernel
theorem dX9_forbid_15 : decode cX9_forbid 15 = .ok (.aload_n 0, 1) := by decide +kernel
theorem dX9_forbid_16 : decode cX9_forbid 16 = .ok (.getfield 22, 3) := by decide +kernel
theorem dX9_forbid_19 : decode cX9_forbid 19 = .ok (.getfield 108, 3) := by decide +kernel
theorem dX9_forbid_22 : decode cX9_forbid 22 = .ok (.bipush 8, 2) := by decide +kernel
theorem dX9_forbid_24 : decode cX9_forbid 24 = .ok (.if_icmp .lt 6, 3) := by decide +kernel
theorem dX9_forbid_27 : decode cX9_forbid 27 = .ok (.bipush (-4), 2) := by decide +kernel
theorem dX9_forbid_29 : decode cX9_forbid 29 = .ok (.ireturn, 1) := by decide +kernel
theorem dX9_forbid_30 : decode cX9_forbid 30 = .ok (.aload_n 0, 1) := by decide +kernel
theorem dX9_forbid_31 : decode cX9_forbid 31 = .ok (.getfield 22, 3) := by decide +kernel
theorem dX9_forbid_34 : decode cX9_forbid 34 = .ok (.aload_n 0, 1) := by decide +kernel
theorem dX9_forbid_35 : decode cX9_forbid 35 = .ok (.getfield 15, 3) := by decide +kernel
theorem dX9_forbid_38 : decode cX9_forbid 38 = .ok (.aload_n 0, 1) := by decide +kernel
theorem dX9_forbid_39 : decode cX9_forbid 39 = .ok (.getfield 105, 3) := by decide +kernel
theorem dX9_forbid_42 : decode cX9_forbid 42 = .ok (.invokevirtual 111, 3) := by decide +kernel
theorem dX9_forbid_45 : decode cX9_forbid 45 = .ok (.aload_n 0, 1) := by decide +kernel
theorem dX9_forbid_46 : decode cX9_forbid 46 = .ok (.getfield 22, 3) := by decide +kernel
theorem dX9_forbid_49 : decode cX9_forbid 49 = .ok (.getfield 108, 3) := by decide +kernel
theorem dX9_forbid_52 : decode cX9_forbid 52 = .ok (.ireturn, 1) := by decide +kernel
theorem dX9_unforbid_0 : decode cX9_unforbid 0 = .ok (.aload_n 0, 1) := by decide +kernel
theorem dX9_unforbid_1 : decode cX9_unforbid 1 = .ok (.getfield 22, 3) := by decide +kernel
theorem dX9_unforbid_4 : decode cX9_unforbid 4 = .ok (.getfield 108, 3) := by decide +kernel
theorem dX9_unforbid_7 : decode cX9_unforbid 7 = .ok (.istore_n 1, 1) := by decide +kernel
theorem dX9_unforbid_8 : decode cX9_unforbid 8 = .ok (.aload_n 0, 1) := by decide +kernel
theorem dX9_unforbid_9 : decode cX9_unforbid 9 = .ok (.getfield 22, 3) := by decide +kernel
theorem dX9_unforbid_12 : decode cX9_unforbid 12 = .ok (.iconst 0, 1) := by decide +kernel
theorem dX9_unforbid_13 : decode cX9_unforbid 13 = .ok (.putfield 108, 3) := by decide +kernel
theorem dX9_unforbid_16 : decode cX9_unforbid 16 = .ok (.iload_n 1, 1) := by decide +kernel
theorem dX9_unforbid_17 : decode cX9_unforbid 17 = .ok (.ireturn, 1) := by decide +kernel
set_option maxRecDepth 20000 in
theorem ggX9_byWords_X9_within : GoodIn wsX9_byWords wsX9_within := goodIn_r _ [9] (by decide +kernel) (by decide +kernel)
set_option maxRecDepth 20000 in
theorem gX9_byWords_X9_within : GoodIn wsX9_byWords (va_wsS RX9 73 yX9_within wsX9_within) := goodIn_app (goodIn_of _ (by decide +kernel)) ggX9_byWords_X9_within
set_option maxRecDepth 20000 in
theorem ggX9_byWords_X0_greatestLetter : GoodIn wsX9_byWords wsX0_greatestLetter := goodIn_r _ [14, 15, 16, 17, 18, 19, 20, 21, 124, 125, 126, 127] (by decide +kernel) (by decide +kernel)
set_option maxRecDepth 20000 in
theorem gX9_byWords_X0_greatestLetter : GoodIn wsX9_byWords (wsV RX9 115 RX0 yX0_greatestLetter wsX0_greatestLetter) := goodIn_app (goodIn_of _ (by decide +kernel)) ggX9_byWords_X0_greatestLetter
set_option maxRecDepth 20000 in
theorem ggX9_byWords_X0_longest : GoodIn wsX9_byWords wsX0_longest := goodIn_r _ [25, 15, 16, 18, 19, 20, 21, 124, 125, 126, 127] (by decide +kernel) (by decide +kernel)
set_option maxRecDepth 20000 in
theorem gX9_byWords_X0_longest : GoodIn wsX9_byWords (wsV RX9 119 RX0 yX0_longest wsX0_longest) := goodIn_app (goodIn_of _ (by decide +kernel)) ggX9_byWords_X0_longest
set_option maxRecDepth 20000 in
theorem ggX9_byWords_X9_power : GoodIn wsX9_byWords wsX9_power := goodIn_r _ [28] (by decide +kernel) (by decide +kernel)
set_option maxRecDepth 20000 in
theorem gX9_byWords_X9_power : GoodIn wsX9_byWords (va_wsS RX9 122 yX9_power wsX9_power) := goodIn_app (goodIn_of _ (by decide +kernel)) ggX9_byWords_X9_power
set_option maxRecDepth 20000 in
theorem ggX9_byWords_X1_init : GoodIn wsX9_byWords wsX1_init := goodIn_r _ [31, 32, 33, 34, 35, 36, 37, 38, 39, 117, 118, 119, 120, 121, 122, 123] (by decide +kernel) (by decide +kernel)
set_option maxRecDepth 20000 in
theorem gX9_byWords_X1_init : GoodIn wsX9_byWords (wsX1_init) := ggX9_byWords_X1_init
set_option maxRecDepth 20000 in
theorem ggX9_byWords_X0_layWays : GoodIn wsX9_byWords wsX0_layWays := goodIn_r _ [43, 44, 45, 46, 47, 48, 49, 13, 50, 51, 52, 53, 54, 15, 16, 55, 56, 57, 58, 17, 59, 60, 61, 5, 62, 63, 36, 64, 65, 66, 67, 117, 118, 119, 120, 121, 122, 123, 124, 125, 126, 127] (by decide +kernel) (by decide +kernel)
set_option maxRecDepth 20000 in
theorem gX9_byWords_X0_layWays : GoodIn wsX9_byWords (wsV RX9 126 RX0 yX0_layWays wsX0_layWays) := goodIn_app (goodIn_of _ (by decide +kernel)) ggX9_byWords_X0_layWays
set_option maxRecDepth 20000 in
theorem ggX9_byWords_X1_settle : GoodIn wsX9_byWords wsX1_settle := goodIn_r _ [71, 39, 72, 73, 38, 74, 75, 76, 5, 77, 78, 79, 80, 81, 82, 83, 84, 85, 36, 86, 87, 88, 89, 90, 91, 92, 93, 94, 95, 96, 97, 98, 99, 100, 37, 117, 118, 119, 120, 121, 122, 123] (by decide +kernel) (by decide +kernel)
set_option maxRecDepth 20000 in
theorem gX9_byWords_X1_settle : GoodIn wsX9_byWords (wsV RX9 102 RX1 yX1_settle wsX1_settle) := goodIn_app (goodIn_of _ (by decide +kernel)) ggX9_byWords_X1_settle
set_option maxRecDepth 20000 in
theorem ggX9_byWords_X9_keep : GoodIn wsX9_byWords wsX9_keep := goodIn_r _ [104, 2, 105, 106, 107, 108, 109, 110, 111, 112, 113, 114, 115, 116] (by decide +kernel) (by decide +kernel)
set_option maxRecDepth 20000 in
theorem gX9_byWords_X9_keep : GoodIn wsX9_byWords (wsV RX9 84 RX9 yX9_keep wsX9_keep) := goodIn_app (goodIn_of _ (by decide +kernel)) ggX9_byWords_X9_keep
theorem dX9_byWords_0 : decode cX9_byWords 0 = .ok (.iload_n 1, 1) := by decide +kernel
theorem dX9_byWords_1 : decode cX9_byWords 1 = .ok (.iconst 2, 1) := by decide +kernel
theorem dX9_byWords_2 : decode cX9_byWords 2 = .ok (.iconst 4, 1) := by decide +kernel
theorem dX9_byWords_3 : decode cX9_byWords 3 = .ok (.invokestatic 73, 3) := by decide +kernel
theorem dX9_byWords_6 : decode cX9_byWords 6 = .ok (.ifCond .eq 14, 3) := by decide +kernel
theorem dX9_byWords_9 : decode cX9_byWords 9 = .ok (.aload_n 0, 1) := by decide +kernel
theorem dX9_byWords_10 : decode cX9_byWords 10 = .ok (.getfield 22, 3) := by decide +kernel
theorem dX9_byWords_13 : decode cX9_byWords 13 = .ok (.invokevirtual 115, 3) := by decide +kernel
theorem dX9_byWords_16 : decode cX9_byWords 16 = .ok (.iload_n 1, 1) := by decide +kernel
theorem dX9_byWords_17 : decode cX9_byWords 17 = .ok (.if_icmp .lt 6, 3) := by decide +kernel
theorem dX9_byWords_20 : decode cX9_byWords 20 = .ok (.bipush (-2), 2) := by decide +kernel
theorem dX9_byWords_22 : decode cX9_byWords 22 = .ok (.ireturn, 1) := by decide +kernel
theorem dX9_byWords_23 : decode cX9_byWords 23 = .ok (.aload_n 0, 1) := by decide +kernel
theorem dX9_byWords_24 : decode cX9_byWords 24 = .ok (.getfield 22, 3) := by decide +kernel
theorem dX9_byWords_27 : decode cX9_byWords 27 = .ok (.invokevirtual 119, 3) := by decide +kernel
theorem dX9_byWords_30 : decode cX9_byWords 30 = .ok (.istore_n 2, 1) := by decide +kernel
theorem dX9_byWords_31 : decode cX9_byWords 31 = .ok (.iload_n 1, 1) := by decide +kernel
theorem dX9_byWords_32 : decode cX9_byWords 32 = .ok (.iload_n 2, 1) := by decide +kernel
theorem dX9_byWords_33 : decode cX9_byWords 33 = .ok (.iconst 1, 1) := by decide +kernel
theorem dX9_byWords_34 : decode cX9_byWords 34 = .ok (.isub, 1) := by decide +kernel
theorem dX9_byWords_35 : decode cX9_byWords 35 = .ok (.invokestatic 122, 3) := by decide +kernel
theorem dX9_byWords_38 : decode cX9_byWords 38 = .ok (.istore_n 3, 1) := by decide +kernel
theorem dX9_byWords_39 : decode cX9_byWords 39 = .ok (.iload_n 3, 1) := by decide +kernel
theorem dX9_byWords_40 : decode cX9_byWords 40 = .ok (.bipush 16, 2) := by decide +kernel
theorem dX9_byWords_42 : decode cX9_byWords 42 = .ok (.if_icmp .le 6, 3) := by decide +kernel
theorem dX9_byWords_45 : decode cX9_byWords 45 = .ok (.bipush (-3), 2) := by decide +kernel
theorem dX9_byWords_47 : decode cX9_byWords 47 = .ok (.ireturn, 1) := by decide +kernel
theorem dX9_byWords_48 : decode cX9_byWords 48 = .ok (.aload_n 0, 1) := by decide +kernel
theorem dX9_byWords_49 : decode cX9_byWords 49 = .ok (.getfield 77, 3) := by decide +kernel
theorem dX9_byWords_52 : decode cX9_byWords 52 = .ok (.bipush 6, 2) := by decide +kernel
theorem dX9_byWords_54 : decode cX9_byWords 54 = .ok (.if_icmp .lt 6, 3) := by decide +kernel
theorem dX9_byWords_57 : decode cX9_byWords 57 = .ok (.bipush (-4), 2) := by decide +kernel
theorem dX9_byWords_59 : decode cX9_byWords 59 = .ok (.ireturn, 1) := by decide +kernel
theorem dX9_byWords_60 : decode cX9_byWords 60 = .ok (.new 9, 3) := by decide +kernel
theorem dX9_byWords_63 : decode cX9_byWords 63 = .ok (.dup, 1) := by decide +kernel
theorem dX9_byWords_64 : decode cX9_byWords 64 = .ok (.iload_n 1, 1) := by decide +kernel
theorem dX9_byWords_65 : decode cX9_byWords 65 = .ok (.iload_n 3, 1) := by decide +kernel
theorem dX9_byWords_66 : decode cX9_byWords 66 = .ok (.invokespecial 81, 3) := by decide +kernel
theorem dX9_byWords_69 : decode cX9_byWords 69 = .ok (.astore 4, 2) := by decide +kernel
theorem dX9_byWords_71 : decode cX9_byWords 71 = .ok (.aload_n 0, 1) := by decide +kernel
theorem dX9_byWords_72 : decode cX9_byWords 72 = .ok (.getfield 22, 3) := by decide +kernel
theorem dX9_byWords_75 : decode cX9_byWords 75 = .ok (.aload 4, 2) := by decide +kernel
theorem dX9_byWords_77 : decode cX9_byWords 77 = .ok (.iload_n 2, 1) := by decide +kernel
theorem dX9_byWords_78 : decode cX9_byWords 78 = .ok (.invokevirtual 126, 3) := by decide +kernel
theorem dX9_byWords_81 : decode cX9_byWords 81 = .ok (.aload 4, 2) := by decide +kernel
theorem dX9_byWords_83 : decode cX9_byWords 83 = .ok (.invokevirtual 102, 3) := by decide +kernel
theorem dX9_byWords_86 : decode cX9_byWords 86 = .ok (.aload_n 0, 1) := by decide +kernel
theorem dX9_byWords_87 : decode cX9_byWords 87 = .ok (.aload 4, 2) := by decide +kernel
theorem dX9_byWords_89 : decode cX9_byWords 89 = .ok (.invokevirtual 84, 3) := by decide +kernel
theorem dX9_byWords_92 : decode cX9_byWords 92 = .ok (.ireturn, 1) := by decide +kernel
set_option maxRecDepth 20000 in
theorem ggX9_about_X9_graphAt : GoodIn wsX9_about wsX9_graphAt := goodIn_r _ [11, 12, 13, 14, 15, 10, 16, 66, 67, 68, 69, 70, 71, 72, 73, 74, 75, 76] (by decide +kernel) (by decide +kernel)
set_option maxRecDepth 20000 in
theorem gX9_about_X9_graphAt : GoodIn wsX9_about (wsV RX9 88 RX9 yX9_graphAt wsX9_graphAt) := goodIn_app (goodIn_of _ (by decide +kernel)) ggX9_about_X9_graphAt
set_option maxRecDepth 20000 in
theorem ggX9_about_J6_bitCount_0f7a4 : GoodIn wsX9_about wsJ6_bitCount_0f7a4 := goodIn_r _ [20, 21, 22, 23] (by decide +kernel) (by decide +kernel)
set_option maxRecDepth 20000 in
theorem gX9_about_J6_bitCount_0f7a4 : GoodIn wsX9_about (va_wsS RX9 142 yJ6_bitCount_0f7a4 wsJ6_bitCount_0f7a4) := goodIn_app (goodIn_of _ (by decide +kernel)) ggX9_about_J6_bitCount_0f7a4
set_option maxRecDepth 20000 in
theorem ggX9_about_X6_howManyParts : GoodIn wsX9_about wsX6_howManyParts := goodIn_r _ [28, 29, 30, 31, 32, 27, 33, 34, 35, 36, 37, 38, 39, 40, 41, 42, 43, 44, 45, 46, 47, 48, 49, 50, 51, 52, 53, 54, 55, 56, 57, 58, 59, 60, 61, 62, 63, 64, 65, 77, 78] (by decide +kernel) (by decide +kernel)
set_option maxRecDepth 20000 in
theorem gX9_about_X6_howManyParts : GoodIn wsX9_about (wsV RX9 151 RX6 yX6_howManyParts wsX6_howManyParts) := goodIn_app (goodIn_of _ (by decide +kernel)) ggX9_about_X6_howManyParts
theorem dX9_about_0 : decode cX9_about 0 = .ok (.aload_n 0, 1) := by decide +kernel
theorem dX9_about_1 : decode cX9_about 1 = .ok (.iload_n 1, 1) := by decide +kernel
theorem dX9_about_2 : decode cX9_about 2 = .ok (.invokevirtual 88, 3) := by decide +kernel
theorem dX9_about_5 : decode cX9_about 5 = .ok (.astore_n 3, 1) := by decide +kernel
theorem dX9_about_6 : decode cX9_about 6 = .ok (.aload_n 3, 1) := by decide +kernel
theorem dX9_about_7 : decode cX9_about 7 = .ok (.ifnonnull 6, 3) := by decide +kernel
theorem dX9_about_10 : decode cX9_about 10 = .ok (.bipush (-2), 2) := by decide +kernel
theorem dX9_about_12 : decode cX9_about 12 = .ok (.ireturn, 1) := by decide +kernel
theorem dX9_about_13 : decode cX9_about 13 = .ok (.iload_n 2, 1) := by decide +kernel
theorem dX9_about_14 : decode cX9_about 14 = .ok (.tableswitch 75 0 5 #[38, 43, 48, 53, 61, 66], 38) := by decide +kernel
theorem dX9_about_52 : decode cX9_about 52 = .ok (.aload_n 3, 1) := by decide +kernel
theorem dX9_about_53 : decode cX9_about 53 = .ok (.getfield 130, 3) := by decide +kernel
theorem dX9_about_56 : decode cX9_about 56 = .ok (.ireturn, 1) := by decide +kernel
theorem dX9_about_57 : decode cX9_about 57 = .ok (.aload_n 3, 1) := by decide +kernel
theorem dX9_about_58 : decode cX9_about 58 = .ok (.getfield 133, 3) := by decide +kernel
theorem dX9_about_61 : decode cX9_about 61 = .ok (.ireturn, 1) := by decide +kernel
theorem dX9_about_62 : decode cX9_about 62 = .ok (.aload_n 3, 1) := by decide +kernel
theorem dX9_about_63 : decode cX9_about 63 = .ok (.getfield 136, 3) := by decide +kernel
theorem dX9_about_66 : decode cX9_about 66 = .ok (.ireturn, 1) := by decide +kernel
theorem dX9_about_67 : decode cX9_about 67 = .ok (.aload_n 3, 1) := by decide +kernel
theorem dX9_about_68 : decode cX9_about 68 = .ok (.getfield 139, 3) := by decide +kernel
theorem dX9_about_71 : decode cX9_about 71 = .ok (.invokestatic 142, 3) := by decide +kernel
theorem dX9_about_74 : decode cX9_about 74 = .ok (.ireturn, 1) := by decide +kernel
theorem dX9_about_75 : decode cX9_about 75 = .ok (.aload_n 3, 1) := by decide +kernel
theorem dX9_about_76 : decode cX9_about 76 = .ok (.getfield 148, 3) := by decide +kernel
theorem dX9_about_79 : decode cX9_about 79 = .ok (.ireturn, 1) := by decide +kernel
theorem dX9_about_80 : decode cX9_about 80 = .ok (.aload_n 0, 1) := by decide +kernel
theorem dX9_about_81 : decode cX9_about 81 = .ok (.getfield 43, 3) := by decide +kernel
theorem dX9_about_84 : decode cX9_about 84 = .ok (.aload_n 3, 1) := by decide +kernel
theorem dX9_about_85 : decode cX9_about 85 = .ok (.invokevirtual 151, 3) := by decide +kernel
theorem dX9_about_88 : decode cX9_about 88 = .ok (.ireturn, 1) := by decide +kernel
theorem dX9_about_89 : decode cX9_about 89 = .ok (.bipush (-2), 2) := by decide +kernel
theorem dX9_about_91 : decode cX9_about 91 = .ok (.ireturn, 1) := by decide +kernel
set_option maxRecDepth 20000 in
theorem ggX9_live_X9_graphAt : GoodIn wsX9_live wsX9_graphAt := goodIn_r _ [5, 6, 7, 8, 9, 4, 10, 22, 23, 24, 25, 26, 27, 28, 29, 30, 31, 32] (by decide +kernel) (by decide +kernel)
set_option maxRecDepth 20000 in
theorem gX9_live_X9_graphAt : GoodIn wsX9_live (wsV RX9 88 RX9 yX9_graphAt wsX9_graphAt) := goodIn_app (goodIn_of _ (by decide +kernel)) ggX9_live_X9_graphAt
set_option maxRecDepth 20000 in
theorem ggX9_live_X1_hasState : GoodIn wsX9_live wsX1_hasState := goodIn_r _ [15, 16, 9, 4, 10, 33, 34, 35, 36, 37, 38, 39] (by decide +kernel) (by decide +kernel)
set_option maxRecDepth 20000 in
theorem gX9_live_X1_hasState : GoodIn wsX9_live (wsV RX9 154 RX1 yX1_hasState wsX1_hasState) := goodIn_app (goodIn_of _ (by decide +kernel)) ggX9_live_X1_hasState
set_option maxRecDepth 20000 in
theorem ggX9_live_X1_isLive : GoodIn wsX9_live wsX1_isLive := goodIn_r _ [20, 21, 33, 34, 35, 36, 37, 38, 39] (by decide +kernel) (by decide +kernel)
set_option maxRecDepth 20000 in
theorem gX9_live_X1_isLive : GoodIn wsX9_live (wsV RX9 158 RX1 yX1_isLive wsX1_isLive) := goodIn_app (goodIn_of _ (by decide +kernel)) ggX9_live_X1_isLive
theorem dX9_live_0 : decode cX9_live 0 = .ok (.aload_n 0, 1) := by decide +kernel
theorem dX9_live_1 : decode cX9_live 1 = .ok (.iload_n 1, 1) := by decide +kernel
theorem dX9_live_2 : decode cX9_live 2 = .ok (.invokevirtual 88, 3) := by decide +kernel
theorem dX9_live_5 : decode cX9_live 5 = .ok (.astore_n 3, 1) := by decide +kernel
theorem dX9_live_6 : decode cX9_live 6 = .ok (.aload_n 3, 1) := by decide +kernel
theorem dX9_live_7 : decode cX9_live 7 = .ok (.ifnull 11, 3) := by decide +kernel
theorem dX9_live_10 : decode cX9_live 10 = .ok (.aload_n 3, 1) := by decide +kernel
theorem dX9_live_11 : decode cX9_live 11 = .ok (.iload_n 2, 1) := by decide +kernel
theorem dX9_live_12 : decode cX9_live 12 = .ok (.invokevirtual 154, 3) := by decide +kernel
theorem dX9_live_15 : decode cX9_live 15 = .ok (.ifCond .ne 6, 3) := by decide +kernel
theorem dX9_live_18 : decode cX9_live 18 = .ok (.bipush (-2), 2) := by decide +kernel
theorem dX9_live_20 : decode cX9_live 20 = .ok (.ireturn, 1) := by decide +kernel
theorem dX9_live_21 : decode cX9_live 21 = .ok (.aload_n 3, 1) := by decide +kernel
theorem dX9_live_22 : decode cX9_live 22 = .ok (.iload_n 2, 1) := by decide +kernel
theorem dX9_live_23 : decode cX9_live 23 = .ok (.invokevirtual 158, 3) := by decide +kernel
theorem dX9_live_26 : decode cX9_live 26 = .ok (.ifCond .eq 7, 3) := by decide +kernel
theorem dX9_live_29 : decode cX9_live 29 = .ok (.iconst 1, 1) := by decide +kernel
theorem dX9_live_30 : decode cX9_live 30 = .ok (.goto 4, 3) := by decide +kernel
theorem dX9_live_33 : decode cX9_live 33 = .ok (.iconst 0, 1) := by decide +kernel
theorem dX9_live_34 : decode cX9_live 34 = .ok (.ireturn, 1) := by decide +kernel
set_option maxRecDepth 20000 in
theorem ggX9_may_X9_graphAt : GoodIn wsX9_may wsX9_graphAt := goodIn_r _ [8, 9, 10, 11, 12, 7, 13, 28, 29, 30, 31, 32, 33, 34, 35, 36, 37, 38] (by decide +kernel) (by decide +kernel)
set_option maxRecDepth 20000 in
theorem gX9_may_X9_graphAt : GoodIn wsX9_may (wsV RX9 88 RX9 yX9_graphAt wsX9_graphAt) := goodIn_app (goodIn_of _ (by decide +kernel)) ggX9_may_X9_graphAt
set_option maxRecDepth 20000 in
theorem ggX9_may_X1_step : GoodIn wsX9_may wsX1_step := goodIn_r _ [18, 19, 20, 21, 22, 23, 24, 25, 26, 27] (by decide +kernel) (by decide +kernel)
set_option maxRecDepth 20000 in
theorem gX9_may_X1_step : GoodIn wsX9_may (wsV RX9 161 RX1 yX1_step wsX1_step) := goodIn_app (goodIn_of _ (by decide +kernel)) ggX9_may_X1_step
theorem dX9_may_0 : decode cX9_may 0 = .ok (.aload_n 0, 1) := by decide +kernel
theorem dX9_may_1 : decode cX9_may 1 = .ok (.iload_n 1, 1) := by decide +kernel
theorem dX9_may_2 : decode cX9_may 2 = .ok (.invokevirtual 88, 3) := by decide +kernel
theorem dX9_may_5 : decode cX9_may 5 = .ok (.astore_n 2, 1) := by decide +kernel
theorem dX9_may_6 : decode cX9_may 6 = .ok (.aload_n 2, 1) := by decide +kernel
theorem dX9_may_7 : decode cX9_may 7 = .ok (.ifnonnull 6, 3) := by decide +kernel
theorem dX9_may_10 : decode cX9_may 10 = .ok (.bipush (-2), 2) := by decide +kernel
theorem dX9_may_12 : decode cX9_may 12 = .ok (.ireturn, 1) := by decide +kernel
theorem dX9_may_13 : decode cX9_may 13 = .ok (.aload_n 2, 1) := by decide +kernel
theorem dX9_may_14 : decode cX9_may 14 = .ok (.getfield 139, 3) := by decide +kernel
theorem dX9_may_17 : decode cX9_may 17 = .ok (.istore_n 3, 1) := by decide +kernel
theorem dX9_may_18 : decode cX9_may 18 = .ok (.iconst 0, 1) := by decide +kernel
theorem dX9_may_19 : decode cX9_may 19 = .ok (.istore 4, 2) := by decide +kernel
theorem dX9_may_21 : decode cX9_may 21 = .ok (.iload 4, 2) := by decide +kernel
theorem dX9_may_23 : decode cX9_may 23 = .ok (.aload_n 0, 1) := by decide +kernel
theorem dX9_may_24 : decode cX9_may 24 = .ok (.getfield 105, 3) := by decide +kernel
theorem dX9_may_27 : decode cX9_may 27 = .ok (.if_icmp .ge 22, 3) := by decide +kernel
theorem dX9_may_30 : decode cX9_may 30 = .ok (.aload_n 2, 1) := by decide +kernel
theorem dX9_may_31 : decode cX9_may 31 = .ok (.iload_n 3, 1) := by decide +kernel
theorem dX9_may_32 : decode cX9_may 32 = .ok (.aload_n 0, 1) := by decide +kernel
theorem dX9_may_33 : decode cX9_may 33 = .ok (.getfield 15, 3) := by decide +kernel
theorem dX9_may_36 : decode cX9_may 36 = .ok (.iload 4, 2) := by decide +kernel
theorem dX9_may_38 : decode cX9_may 38 = .ok (.iaload, 1) := by decide +kernel
theorem dX9_may_39 : decode cX9_may 39 = .ok (.invokevirtual 161, 3) := by decide +kernel
theorem dX9_may_42 : decode cX9_may 42 = .ok (.istore_n 3, 1) := by decide +kernel
theorem dX9_may_43 : decode cX9_may 43 = .ok (.iinc 4 1, 3) := by decide +kernel
theorem dX9_may_46 : decode cX9_may 46 = .ok (.goto (-25), 3) := by decide +kernel
theorem dX9_may_49 : decode cX9_may 49 = .ok (.iload_n 3, 1) := by decide +kernel
theorem dX9_may_50 : decode cX9_may 50 = .ok (.ifCond .eq 7, 3) := by decide +kernel
theorem dX9_may_53 : decode cX9_may 53 = .ok (.iconst 1, 1) := by decide +kernel
theorem dX9_may_54 : decode cX9_may 54 = .ok (.goto 4, 3) := by decide +kernel
theorem dX9_may_57 : decode cX9_may 57 = .ok (.iconst 0, 1) := by decide +kernel
theorem dX9_may_58 : decode cX9_may 58 = .ok (.ireturn, 1) := by decide +kernel
set_option maxRecDepth 20000 in
theorem ggX9_howMany_X9_graphAt : GoodIn wsX9_howMany wsX9_graphAt := goodIn_r _ [7, 8, 9, 10, 11, 6, 12, 107, 108, 109, 110, 111, 112, 113, 114, 115, 116, 117] (by decide +kernel) (by decide +kernel)
set_option maxRecDepth 20000 in
theorem gX9_howMany_X9_graphAt : GoodIn wsX9_howMany (wsV RX9 88 RX9 yX9_graphAt wsX9_graphAt) := goodIn_app (goodIn_of _ (by decide +kernel)) ggX9_howMany_X9_graphAt
set_option maxRecDepth 20000 in
theorem ggX9_howMany_X9_within : GoodIn wsX9_howMany wsX9_within := goodIn_r _ [12] (by decide +kernel) (by decide +kernel)
set_option maxRecDepth 20000 in
theorem gX9_howMany_X9_within : GoodIn wsX9_howMany (va_wsS RX9 73 yX9_within wsX9_within) := goodIn_app (goodIn_of _ (by decide +kernel)) ggX9_howMany_X9_within
set_option maxRecDepth 20000 in
theorem ggX9_howMany_X8_standing : GoodIn wsX9_howMany wsX8_standing := goodIn_r _ [17, 18, 19, 20, 21, 22, 23, 24, 25, 26, 27, 28, 29, 30, 31, 32, 33, 34, 35, 36, 37, 38, 39, 40, 41, 42, 43, 44, 45, 46, 47, 48, 49, 50, 51, 52, 53, 54, 55, 56, 57, 58, 59, 60, 61, 62, 63, 64, 65, 66, 67, 68, 69, 70, 71, 16, 72, 73, 74, 75, 76, 77, 78, 79, 80, 81, 82, 83, 84, 85, 86, 87, 88, 89, 90, 91, 92, 93, 94, 95, 11, 6, 12, 96, 97, 98, 99, 100, 101, 102, 103, 104, 105, 106, 118, 119, 120, 121, 122, 123, 124, 125, 126, 127, 128, 129, 130, 131, 132, 133, 134, 135] (by decide +kernel) (by decide +kernel)
set_option maxRecDepth 20000 in
theorem gX9_howMany_X8_standing : GoodIn wsX9_howMany (wsV RX9 166 RX8 yX8_standing wsX8_standing) := goodIn_app (goodIn_of _ (by decide +kernel)) ggX9_howMany_X8_standing
theorem dX9_howMany_0 : decode cX9_howMany 0 = .ok (.aload_n 0, 1) := by decide +kernel
theorem dX9_howMany_1 : decode cX9_howMany 1 = .ok (.iload_n 1, 1) := by decide +kernel
theorem dX9_howMany_2 : decode cX9_howMany 2 = .ok (.invokevirtual 88, 3) := by decide +kernel
theorem dX9_howMany_5 : decode cX9_howMany 5 = .ok (.astore_n 3, 1) := by decide +kernel
theorem dX9_howMany_6 : decode cX9_howMany 6 = .ok (.aload_n 3, 1) := by decide +kernel
theorem dX9_howMany_7 : decode cX9_howMany 7 = .ok (.ifnull 13, 3) := by decide +kernel
theorem dX9_howMany_10 : decode cX9_howMany 10 = .ok (.iload_n 2, 1) := by decide +kernel
theorem dX9_howMany_11 : decode cX9_howMany 11 = .ok (.iconst 0, 1) := by decide +kernel
theorem dX9_howMany_12 : decode cX9_howMany 12 = .ok (.bipush 24, 2) := by decide +kernel
theorem dX9_howMany_14 : decode cX9_howMany 14 = .ok (.invokestatic 73, 3) := by decide +kernel
theorem dX9_howMany_17 : decode cX9_howMany 17 = .ok (.ifCond .ne 9, 3) := by decide +kernel
theorem dX9_howMany_20 : decode cX9_howMany 20 = .ok (.ldc2_w 164, 3) := by decide +kernel
theorem dX9_howMany_23 : decode cX9_howMany 23 = .ok (.goto 12, 3) := by decide +kernel
theorem dX9_howMany_26 : decode cX9_howMany 26 = .ok (.aload_n 0, 1) := by decide +kernel
theorem dX9_howMany_27 : decode cX9_howMany 27 = .ok (.getfield 55, 3) := by decide +kernel
theorem dX9_howMany_30 : decode cX9_howMany 30 = .ok (.aload_n 3, 1) := by decide +kernel
theorem dX9_howMany_31 : decode cX9_howMany 31 = .ok (.iload_n 2, 1) := by decide +kernel
theorem dX9_howMany_32 : decode cX9_howMany 32 = .ok (.invokevirtual 166, 3) := by decide +kernel
theorem dX9_howMany_35 : decode cX9_howMany 35 = .ok (.lreturn, 1) := by decide +kernel
set_option maxRecDepth 20000 in
theorem ggX9_loops_X9_graphAt : GoodIn wsX9_loops wsX9_graphAt := goodIn_r _ [7, 8, 9, 10, 11, 6, 12, 54, 55, 56, 57, 58, 59, 60, 61, 62, 63, 64] (by decide +kernel) (by decide +kernel)
set_option maxRecDepth 20000 in
theorem gX9_loops_X9_graphAt : GoodIn wsX9_loops (wsV RX9 88 RX9 yX9_graphAt wsX9_graphAt) := goodIn_app (goodIn_of _ (by decide +kernel)) ggX9_loops_X9_graphAt
set_option maxRecDepth 20000 in
theorem ggX9_loops_X9_within : GoodIn wsX9_loops wsX9_within := goodIn_r _ [12] (by decide +kernel) (by decide +kernel)
set_option maxRecDepth 20000 in
theorem gX9_loops_X9_within : GoodIn wsX9_loops (va_wsS RX9 73 yX9_within wsX9_within) := goodIn_app (goodIn_of _ (by decide +kernel)) ggX9_loops_X9_within
set_option maxRecDepth 20000 in
theorem ggX9_loops_X7_closed : GoodIn wsX9_loops wsX7_closed := goodIn_r _ [17, 18, 19, 20, 21, 22, 16, 23, 24, 25, 26, 27, 28, 29, 30, 31, 32, 33, 34, 35, 36, 37, 38, 39, 40, 41, 42, 43, 44, 45, 46, 47, 48, 49, 50, 51, 52, 53, 65, 66, 67, 68, 69, 70, 71, 72, 73, 74, 75, 76] (by decide +kernel) (by decide +kernel)
set_option maxRecDepth 20000 in
theorem gX9_loops_X7_closed : GoodIn wsX9_loops (wsV RX9 170 RX7 yX7_closed wsX7_closed) := goodIn_app (goodIn_of _ (by decide +kernel)) ggX9_loops_X7_closed
theorem dX9_loops_0 : decode cX9_loops 0 = .ok (.aload_n 0, 1) := by decide +kernel
theorem dX9_loops_1 : decode cX9_loops 1 = .ok (.iload_n 1, 1) := by decide +kernel
theorem dX9_loops_2 : decode cX9_loops 2 = .ok (.invokevirtual 88, 3) := by decide +kernel
theorem dX9_loops_5 : decode cX9_loops 5 = .ok (.astore_n 3, 1) := by decide +kernel
theorem dX9_loops_6 : decode cX9_loops 6 = .ok (.aload_n 3, 1) := by decide +kernel
theorem dX9_loops_7 : decode cX9_loops 7 = .ok (.ifnull 13, 3) := by decide +kernel
theorem dX9_loops_10 : decode cX9_loops 10 = .ok (.iload_n 2, 1) := by decide +kernel
theorem dX9_loops_11 : decode cX9_loops 11 = .ok (.iconst 1, 1) := by decide +kernel
theorem dX9_loops_12 : decode cX9_loops 12 = .ok (.bipush 10, 2) := by decide +kernel
theorem dX9_loops_14 : decode cX9_loops 14 = .ok (.invokestatic 73, 3) := by decide +kernel
theorem dX9_loops_17 : decode cX9_loops 17 = .ok (.ifCond .ne 9, 3) := by decide +kernel
theorem dX9_loops_20 : decode cX9_loops 20 = .ok (.ldc2_w 164, 3) := by decide +kernel
theorem dX9_loops_23 : decode cX9_loops 23 = .ok (.goto 12, 3) := by decide +kernel
theorem dX9_loops_26 : decode cX9_loops 26 = .ok (.aload_n 0, 1) := by decide +kernel
theorem dX9_loops_27 : decode cX9_loops 27 = .ok (.getfield 36, 3) := by decide +kernel
theorem dX9_loops_30 : decode cX9_loops 30 = .ok (.aload_n 3, 1) := by decide +kernel
theorem dX9_loops_31 : decode cX9_loops 31 = .ok (.iload_n 2, 1) := by decide +kernel
theorem dX9_loops_32 : decode cX9_loops 32 = .ok (.invokevirtual 170, 3) := by decide +kernel
theorem dX9_loops_35 : decode cX9_loops 35 = .ok (.lreturn, 1) := by decide +kernel
set_option maxRecDepth 20000 in
theorem ggX9_rounds_X9_graphAt : GoodIn wsX9_rounds wsX9_graphAt := goodIn_r _ [6, 7, 8, 9, 10, 5, 11, 42, 43, 44, 45, 46, 47, 48, 49, 50, 51, 52] (by decide +kernel) (by decide +kernel)
set_option maxRecDepth 20000 in
theorem gX9_rounds_X9_graphAt : GoodIn wsX9_rounds (wsV RX9 88 RX9 yX9_graphAt wsX9_graphAt) := goodIn_app (goodIn_of _ (by decide +kernel)) ggX9_rounds_X9_graphAt
set_option maxRecDepth 20000 in
theorem ggX9_rounds_X9_within : GoodIn wsX9_rounds wsX9_within := goodIn_r _ [11] (by decide +kernel) (by decide +kernel)
set_option maxRecDepth 20000 in
theorem gX9_rounds_X9_within : GoodIn wsX9_rounds (va_wsS RX9 73 yX9_within wsX9_within) := goodIn_app (goodIn_of _ (by decide +kernel)) ggX9_rounds_X9_within
set_option maxRecDepth 20000 in
theorem ggX9_rounds_X8_comingRound : GoodIn wsX9_rounds wsX8_comingRound := goodIn_r _ [16, 17, 18, 19, 20, 21, 22, 23, 24, 25, 5, 26, 27, 28, 29, 30, 31, 32, 33, 34, 35, 36, 15, 37, 38, 39, 40, 41, 53, 54, 55, 56, 57, 58, 59, 60, 61, 62, 63, 64, 65] (by decide +kernel) (by decide +kernel)
set_option maxRecDepth 20000 in
theorem gX9_rounds_X8_comingRound : GoodIn wsX9_rounds (wsV RX9 173 RX8 yX8_comingRound wsX8_comingRound) := goodIn_app (goodIn_of _ (by decide +kernel)) ggX9_rounds_X8_comingRound
theorem dX9_rounds_0 : decode cX9_rounds 0 = .ok (.aload_n 0, 1) := by decide +kernel
theorem dX9_rounds_1 : decode cX9_rounds 1 = .ok (.iload_n 1, 1) := by decide +kernel
theorem dX9_rounds_2 : decode cX9_rounds 2 = .ok (.invokevirtual 88, 3) := by decide +kernel
theorem dX9_rounds_5 : decode cX9_rounds 5 = .ok (.astore_n 3, 1) := by decide +kernel
theorem dX9_rounds_6 : decode cX9_rounds 6 = .ok (.aload_n 3, 1) := by decide +kernel
theorem dX9_rounds_7 : decode cX9_rounds 7 = .ok (.ifnull 13, 3) := by decide +kernel
theorem dX9_rounds_10 : decode cX9_rounds 10 = .ok (.iload_n 2, 1) := by decide +kernel
theorem dX9_rounds_11 : decode cX9_rounds 11 = .ok (.iconst 1, 1) := by decide +kernel
theorem dX9_rounds_12 : decode cX9_rounds 12 = .ok (.bipush 7, 2) := by decide +kernel
theorem dX9_rounds_14 : decode cX9_rounds 14 = .ok (.invokestatic 73, 3) := by decide +kernel
theorem dX9_rounds_17 : decode cX9_rounds 17 = .ok (.ifCond .ne 8, 3) := by decide +kernel
theorem dX9_rounds_20 : decode cX9_rounds 20 = .ok (.bipush (-2), 2) := by decide +kernel
theorem dX9_rounds_22 : decode cX9_rounds 22 = .ok (.goto 12, 3) := by decide +kernel
theorem dX9_rounds_25 : decode cX9_rounds 25 = .ok (.aload_n 0, 1) := by decide +kernel
theorem dX9_rounds_26 : decode cX9_rounds 26 = .ok (.getfield 55, 3) := by decide +kernel
theorem dX9_rounds_29 : decode cX9_rounds 29 = .ok (.aload_n 3, 1) := by decide +kernel
theorem dX9_rounds_30 : decode cX9_rounds 30 = .ok (.iload_n 2, 1) := by decide +kernel
theorem dX9_rounds_31 : decode cX9_rounds 31 = .ok (.invokevirtual 173, 3) := by decide +kernel
theorem dX9_rounds_34 : decode cX9_rounds 34 = .ok (.ireturn, 1) := by decide +kernel
set_option maxRecDepth 20000 in
theorem ggX9_growth_X9_graphAt : GoodIn wsX9_growth wsX9_graphAt := goodIn_r _ [9, 10, 11, 12, 13, 8, 14, 77, 78, 79, 80, 81, 82, 83, 84, 85, 86, 87] (by decide +kernel) (by decide +kernel)
set_option maxRecDepth 20000 in
theorem gX9_growth_X9_graphAt : GoodIn wsX9_growth (wsV RX9 88 RX9 yX9_graphAt wsX9_graphAt) := goodIn_app (goodIn_of _ (by decide +kernel)) ggX9_growth_X9_graphAt
set_option maxRecDepth 20000 in
theorem ggX9_growth_X9_within : GoodIn wsX9_growth wsX9_within := goodIn_r _ [14] (by decide +kernel) (by decide +kernel)
set_option maxRecDepth 20000 in
theorem gX9_growth_X9_within : GoodIn wsX9_growth (va_wsS RX9 73 yX9_within wsX9_within) := goodIn_app (goodIn_of _ (by decide +kernel)) ggX9_growth_X9_within
set_option maxRecDepth 20000 in
theorem ggX9_growth_X7_growing : GoodIn wsX9_growth wsX7_growing := goodIn_r _ [19, 20, 21, 22, 23, 24, 25, 26, 18, 27, 28, 29, 30, 31, 32, 33, 34, 35, 36, 37, 38, 39, 40, 41, 42, 43, 44, 45, 46, 47, 48, 49, 50, 51, 52, 53, 54, 55, 56, 57, 58, 59, 60, 61, 62, 63, 64, 65, 66, 67, 68, 8, 69, 70, 71, 72, 73, 74, 75, 76, 88, 89, 90, 91, 92] (by decide +kernel) (by decide +kernel)
set_option maxRecDepth 20000 in
theorem gX9_growth_X7_growing : GoodIn wsX9_growth (wsV RX9 179 RX7 yX7_growing wsX7_growing) := goodIn_app (goodIn_of _ (by decide +kernel)) ggX9_growth_X7_growing
theorem dX9_growth_0 : decode cX9_growth 0 = .ok (.aload_n 0, 1) := by decide +kernel
theorem dX9_growth_1 : decode cX9_growth 1 = .ok (.iload_n 1, 1) := by decide +kernel
theorem dX9_growth_2 : decode cX9_growth 2 = .ok (.invokevirtual 88, 3) := by decide +kernel
theorem dX9_growth_5 : decode cX9_growth 5 = .ok (.astore 4, 2) := by decide +kernel
theorem dX9_growth_7 : decode cX9_growth 7 = .ok (.aload 4, 2) := by decide +kernel
theorem dX9_growth_9 : decode cX9_growth 9 = .ok (.ifnull 22, 3) := by decide +kernel
theorem dX9_growth_12 : decode cX9_growth 12 = .ok (.iload_n 2, 1) := by decide +kernel
theorem dX9_growth_13 : decode cX9_growth 13 = .ok (.iconst 0, 1) := by decide +kernel
theorem dX9_growth_14 : decode cX9_growth 14 = .ok (.bipush 9, 2) := by decide +kernel
theorem dX9_growth_16 : decode cX9_growth 16 = .ok (.invokestatic 73, 3) := by decide +kernel
theorem dX9_growth_19 : decode cX9_growth 19 = .ok (.ifCond .eq 12, 3) := by decide +kernel
theorem dX9_growth_22 : decode cX9_growth 22 = .ok (.iload_n 3, 1) := by decide +kernel
theorem dX9_growth_23 : decode cX9_growth 23 = .ok (.iconst 0, 1) := by decide +kernel
theorem dX9_growth_24 : decode cX9_growth 24 = .ok (.iconst 3, 1) := by decide +kernel
theorem dX9_growth_25 : decode cX9_growth 25 = .ok (.invokestatic 73, 3) := by decide +kernel
theorem dX9_growth_28 : decode cX9_growth 28 = .ok (.ifCond .ne 7, 3) := by decide +kernel
theorem dX9_growth_31 : decode cX9_growth 31 = .ok (.ldc2_w 164, 3) := by decide +kernel
theorem dX9_growth_34 : decode cX9_growth 34 = .ok (.lreturn, 1) := by decide +kernel
theorem dX9_growth_35 : decode cX9_growth 35 = .ok (.aload 4, 2) := by decide +kernel
theorem dX9_growth_37 : decode cX9_growth 37 = .ok (.getfield 139, 3) := by decide +kernel
theorem dX9_growth_40 : decode cX9_growth 40 = .ok (.ifCond .ne 9, 3) := by decide +kernel
theorem dX9_growth_43 : decode cX9_growth 43 = .ok (.ldc2_w 177, 3) := by decide +kernel
theorem dX9_growth_46 : decode cX9_growth 46 = .ok (.goto 14, 3) := by decide +kernel
theorem dX9_growth_49 : decode cX9_growth 49 = .ok (.aload_n 0, 1) := by decide +kernel
theorem dX9_growth_50 : decode cX9_growth 50 = .ok (.getfield 36, 3) := by decide +kernel
theorem dX9_growth_53 : decode cX9_growth 53 = .ok (.aload 4, 2) := by decide +kernel
theorem dX9_growth_55 : decode cX9_growth 55 = .ok (.iload_n 2, 1) := by decide +kernel
theorem dX9_growth_56 : decode cX9_growth 56 = .ok (.iload_n 3, 1) := by decide +kernel
theorem dX9_growth_57 : decode cX9_growth 57 = .ok (.invokevirtual 179, 3) := by decide +kernel
theorem dX9_growth_60 : decode cX9_growth 60 = .ok (.lreturn, 1) := by decide +kernel
set_option maxRecDepth 20000 in
theorem ggX9_same_X9_graphAt : GoodIn wsX9_same wsX9_graphAt := goodIn_r _ [9, 10, 11, 12, 13, 8, 14, 112, 113, 114, 115, 116, 117, 118, 119, 120, 121, 122] (by decide +kernel) (by decide +kernel)
set_option maxRecDepth 20000 in
theorem gX9_same_X9_graphAt : GoodIn wsX9_same (wsV RX9 88 RX9 yX9_graphAt wsX9_graphAt) := goodIn_app (goodIn_of _ (by decide +kernel)) ggX9_same_X9_graphAt
set_option maxRecDepth 20000 in
theorem ggX9_same_X5_seek : GoodIn wsX9_same wsX5_seek := goodIn_r _ [19, 20, 21, 22, 23, 24, 25, 26, 27, 28, 29, 30, 31, 32, 33, 34, 35, 36, 37, 38, 39, 40, 41, 42, 43, 44, 45, 46, 47, 48, 49, 50, 51, 52, 53, 54, 55, 56, 57, 58, 59, 60, 61, 62, 63, 64, 65, 66, 67, 68, 69, 70, 71, 72, 73, 74, 75, 76, 13, 8, 14, 77, 78, 79, 80, 81, 82, 83, 84, 85, 86, 18, 87, 88, 89, 90, 91, 123, 124, 125, 105, 106, 107, 108, 109, 110, 111, 126, 127, 128, 129, 130] (by decide +kernel) (by decide +kernel)
set_option maxRecDepth 20000 in
theorem gX9_same_X5_seek : GoodIn wsX9_same (wsV RX9 183 RX5 yX5_seek wsX5_seek) := goodIn_app (goodIn_of _ (by decide +kernel)) ggX9_same_X5_seek
set_option maxRecDepth 20000 in
theorem ggX9_same_X5_tellWord : GoodIn wsX9_same wsX5_tellWord := goodIn_r _ [95, 21, 26, 20, 96, 61, 62, 63, 97, 98, 99, 18, 100, 101, 102, 103, 30, 104, 33, 45, 13, 8, 14, 123, 124, 125, 126, 127, 128, 129, 130] (by decide +kernel) (by decide +kernel)
set_option maxRecDepth 20000 in
theorem gX9_same_X5_tellWord : GoodIn wsX9_same (wsV RX9 187 RX5 yX5_tellWord wsX5_tellWord) := goodIn_app (goodIn_of _ (by decide +kernel)) ggX9_same_X5_tellWord
theorem dX9_same_0 : decode cX9_same 0 = .ok (.aload_n 0, 1) := by decide +kernel
theorem dX9_same_1 : decode cX9_same 1 = .ok (.iload_n 1, 1) := by decide +kernel
theorem dX9_same_2 : decode cX9_same 2 = .ok (.invokevirtual 88, 3) := by decide +kernel
theorem dX9_same_5 : decode cX9_same 5 = .ok (.astore_n 3, 1) := by decide +kernel
theorem dX9_same_6 : decode cX9_same 6 = .ok (.aload_n 0, 1) := by decide +kernel
theorem dX9_same_7 : decode cX9_same 7 = .ok (.iload_n 2, 1) := by decide +kernel
theorem dX9_same_8 : decode cX9_same 8 = .ok (.invokevirtual 88, 3) := by decide +kernel
theorem dX9_same_11 : decode cX9_same 11 = .ok (.astore 4, 2) := by decide +kernel
theorem dX9_same_13 : decode cX9_same 13 = .ok (.aload_n 3, 1) := by decide +kernel
theorem dX9_same_14 : decode cX9_same 14 = .ok (.ifnull 8, 3) := by decide +kernel
theorem dX9_same_17 : decode cX9_same 17 = .ok (.aload 4, 2) := by decide +kernel
theorem dX9_same_19 : decode cX9_same 19 = .ok (.ifnonnull 6, 3) := by decide +kernel
theorem dX9_same_22 : decode cX9_same 22 = .ok (.bipush (-2), 2) := by decide +kernel
theorem dX9_same_24 : decode cX9_same 24 = .ok (.ireturn, 1) := by decide +kernel
theorem dX9_same_25 : decode cX9_same 25 = .ok (.aload_n 3, 1) := by decide +kernel
theorem dX9_same_26 : decode cX9_same 26 = .ok (.getfield 130, 3) := by decide +kernel
theorem dX9_same_29 : decode cX9_same 29 = .ok (.aload 4, 2) := by decide +kernel
theorem dX9_same_31 : decode cX9_same 31 = .ok (.getfield 130, 3) := by decide +kernel
theorem dX9_same_34 : decode cX9_same 34 = .ok (.if_icmp .eq 6, 3) := by decide +kernel
theorem dX9_same_37 : decode cX9_same 37 = .ok (.bipush (-3), 2) := by decide +kernel
theorem dX9_same_39 : decode cX9_same 39 = .ok (.ireturn, 1) := by decide +kernel
theorem dX9_same_40 : decode cX9_same 40 = .ok (.aload_n 0, 1) := by decide +kernel
theorem dX9_same_41 : decode cX9_same 41 = .ok (.getfield 62, 3) := by decide +kernel
theorem dX9_same_44 : decode cX9_same 44 = .ok (.aload_n 3, 1) := by decide +kernel
theorem dX9_same_45 : decode cX9_same 45 = .ok (.aload 4, 2) := by decide +kernel
theorem dX9_same_47 : decode cX9_same 47 = .ok (.invokevirtual 183, 3) := by decide +kernel
theorem dX9_same_50 : decode cX9_same 50 = .ok (.istore 5, 2) := by decide +kernel
theorem dX9_same_52 : decode cX9_same 52 = .ok (.iload 5, 2) := by decide +kernel
theorem dX9_same_54 : decode cX9_same 54 = .ok (.ifCond .ne 18, 3) := by decide +kernel
theorem dX9_same_57 : decode cX9_same 57 = .ok (.aload_n 0, 1) := by decide +kernel
theorem dX9_same_58 : decode cX9_same 58 = .ok (.aload_n 0, 1) := by decide +kernel
theorem dX9_same_59 : decode cX9_same 59 = .ok (.getfield 62, 3) := by decide +kernel
theorem dX9_same_62 : decode cX9_same 62 = .ok (.aload_n 0, 1) := by decide +kernel
theorem dX9_same_63 : decode cX9_same 63 = .ok (.getfield 15, 3) := by decide +kernel
theorem dX9_same_66 : decode cX9_same 66 = .ok (.invokevirtual 187, 3) := by decide +kernel
theorem dX9_same_69 : decode cX9_same 69 = .ok (.putfield 105, 3) := by decide +kernel
theorem dX9_same_72 : decode cX9_same 72 = .ok (.iload 5, 2) := by decide +kernel
theorem dX9_same_74 : decode cX9_same 74 = .ok (.ireturn, 1) := by decide +kernel
set_option maxRecDepth 20000 in
theorem ggX9_part_X9_graphAt : GoodIn wsX9_part wsX9_graphAt := goodIn_r _ [6, 7, 8, 9, 10, 5, 11, 52, 53, 54, 55, 56, 57, 58, 59, 60, 61, 62] (by decide +kernel) (by decide +kernel)
set_option maxRecDepth 20000 in
theorem gX9_part_X9_graphAt : GoodIn wsX9_part (wsV RX9 88 RX9 yX9_graphAt wsX9_graphAt) := goodIn_app (goodIn_of _ (by decide +kernel)) ggX9_part_X9_graphAt
set_option maxRecDepth 20000 in
theorem ggX9_part_X1_hasState : GoodIn wsX9_part wsX1_hasState := goodIn_r _ [16, 17, 10, 5, 11, 63, 64, 65, 66, 67, 68, 69] (by decide +kernel) (by decide +kernel)
set_option maxRecDepth 20000 in
theorem gX9_part_X1_hasState : GoodIn wsX9_part (wsV RX9 154 RX1 yX1_hasState wsX1_hasState) := goodIn_app (goodIn_of _ (by decide +kernel)) ggX9_part_X1_hasState
set_option maxRecDepth 20000 in
theorem ggX9_part_X1_isLive : GoodIn wsX9_part wsX1_isLive := goodIn_r _ [21, 22, 63, 64, 65, 66, 67, 68, 69] (by decide +kernel) (by decide +kernel)
set_option maxRecDepth 20000 in
theorem gX9_part_X1_isLive : GoodIn wsX9_part (wsV RX9 158 RX1 yX1_isLive wsX1_isLive) := goodIn_app (goodIn_of _ (by decide +kernel)) ggX9_part_X1_isLive
set_option maxRecDepth 20000 in
theorem ggX9_part_X6_leastOf : GoodIn wsX9_part wsX6_leastOf := goodIn_r _ [27, 28, 29, 30, 26, 31, 32, 33, 34, 35, 36, 15, 37, 38, 39, 40, 41, 42, 43, 22, 44, 19, 20, 21, 45, 46, 47, 48, 49, 50, 51, 70, 71, 63, 64, 65, 66, 67, 68, 69] (by decide +kernel) (by decide +kernel)
set_option maxRecDepth 20000 in
theorem gX9_part_X6_leastOf : GoodIn wsX9_part (wsV RX9 191 RX6 yX6_leastOf wsX6_leastOf) := goodIn_app (goodIn_of _ (by decide +kernel)) ggX9_part_X6_leastOf
theorem dX9_part_0 : decode cX9_part 0 = .ok (.aload_n 0, 1) := by decide +kernel
theorem dX9_part_1 : decode cX9_part 1 = .ok (.iload_n 1, 1) := by decide +kernel
theorem dX9_part_2 : decode cX9_part 2 = .ok (.invokevirtual 88, 3) := by decide +kernel
theorem dX9_part_5 : decode cX9_part 5 = .ok (.astore_n 3, 1) := by decide +kernel
theorem dX9_part_6 : decode cX9_part 6 = .ok (.aload_n 3, 1) := by decide +kernel
theorem dX9_part_7 : decode cX9_part 7 = .ok (.ifnull 11, 3) := by decide +kernel
theorem dX9_part_10 : decode cX9_part 10 = .ok (.aload_n 3, 1) := by decide +kernel
theorem dX9_part_11 : decode cX9_part 11 = .ok (.iload_n 2, 1) := by decide +kernel
theorem dX9_part_12 : decode cX9_part 12 = .ok (.invokevirtual 154, 3) := by decide +kernel
theorem dX9_part_15 : decode cX9_part 15 = .ok (.ifCond .ne 6, 3) := by decide +kernel
theorem dX9_part_18 : decode cX9_part 18 = .ok (.bipush (-2), 2) := by decide +kernel
theorem dX9_part_20 : decode cX9_part 20 = .ok (.ireturn, 1) := by decide +kernel
theorem dX9_part_21 : decode cX9_part 21 = .ok (.aload_n 3, 1) := by decide +kernel
theorem dX9_part_22 : decode cX9_part 22 = .ok (.iload_n 2, 1) := by decide +kernel
theorem dX9_part_23 : decode cX9_part 23 = .ok (.invokevirtual 158, 3) := by decide +kernel
theorem dX9_part_26 : decode cX9_part 26 = .ok (.ifCond .eq 15, 3) := by decide +kernel
theorem dX9_part_29 : decode cX9_part 29 = .ok (.aload_n 0, 1) := by decide +kernel
theorem dX9_part_30 : decode cX9_part 30 = .ok (.getfield 43, 3) := by decide +kernel
theorem dX9_part_33 : decode cX9_part 33 = .ok (.aload_n 3, 1) := by decide +kernel
theorem dX9_part_34 : decode cX9_part 34 = .ok (.iload_n 2, 1) := by decide +kernel
theorem dX9_part_35 : decode cX9_part 35 = .ok (.invokevirtual 191, 3) := by decide +kernel
theorem dX9_part_38 : decode cX9_part 38 = .ok (.goto 4, 3) := by decide +kernel
theorem dX9_part_41 : decode cX9_part 41 = .ok (.iconst (-1), 1) := by decide +kernel
theorem dX9_part_42 : decode cX9_part 42 = .ok (.ireturn, 1) := by decide +kernel
set_option maxRecDepth 20000 in
theorem ggX9_pace_X9_graphAt : GoodIn wsX9_pace wsX9_graphAt := goodIn_r _ [6, 7, 8, 9, 10, 5, 11, 68, 69, 70, 71, 72, 73, 74, 75, 76, 77, 78] (by decide +kernel) (by decide +kernel)
set_option maxRecDepth 20000 in
theorem gX9_pace_X9_graphAt : GoodIn wsX9_pace (wsV RX9 88 RX9 yX9_graphAt wsX9_graphAt) := goodIn_app (goodIn_of _ (by decide +kernel)) ggX9_pace_X9_graphAt
set_option maxRecDepth 20000 in
theorem ggX9_pace_X1_hasState : GoodIn wsX9_pace wsX1_hasState := goodIn_r _ [16, 17, 10, 5, 11, 79, 80, 81, 82, 83, 84, 85] (by decide +kernel) (by decide +kernel)
set_option maxRecDepth 20000 in
theorem gX9_pace_X1_hasState : GoodIn wsX9_pace (wsV RX9 154 RX1 yX1_hasState wsX1_hasState) := goodIn_app (goodIn_of _ (by decide +kernel)) ggX9_pace_X1_hasState
set_option maxRecDepth 20000 in
theorem ggX9_pace_X1_isLive : GoodIn wsX9_pace wsX1_isLive := goodIn_r _ [21, 22, 79, 80, 81, 82, 83, 84, 85] (by decide +kernel) (by decide +kernel)
set_option maxRecDepth 20000 in
theorem gX9_pace_X1_isLive : GoodIn wsX9_pace (wsV RX9 158 RX1 yX1_isLive wsX1_isLive) := goodIn_app (goodIn_of _ (by decide +kernel)) ggX9_pace_X1_isLive
set_option maxRecDepth 20000 in
theorem ggX9_pace_X6_paceOf : GoodIn wsX9_pace wsX6_paceOf := goodIn_r _ [27, 28, 29, 30, 31, 26, 32, 33, 34, 35, 36, 15, 37, 38, 39, 40, 41, 42, 43, 22, 44, 19, 20, 21, 45, 46, 47, 48, 49, 50, 51, 52, 53, 54, 55, 56, 57, 58, 59, 60, 61, 62, 63, 64, 65, 66, 5, 67, 79, 80, 81, 82, 83, 84, 85, 86, 87] (by decide +kernel) (by decide +kernel)
set_option maxRecDepth 20000 in
theorem gX9_pace_X6_paceOf : GoodIn wsX9_pace (wsV RX9 194 RX6 yX6_paceOf wsX6_paceOf) := goodIn_app (goodIn_of _ (by decide +kernel)) ggX9_pace_X6_paceOf
theorem dX9_pace_0 : decode cX9_pace 0 = .ok (.aload_n 0, 1) := by decide +kernel
theorem dX9_pace_1 : decode cX9_pace 1 = .ok (.iload_n 1, 1) := by decide +kernel
theorem dX9_pace_2 : decode cX9_pace 2 = .ok (.invokevirtual 88, 3) := by decide +kernel
theorem dX9_pace_5 : decode cX9_pace 5 = .ok (.astore_n 3, 1) := by decide +kernel
theorem dX9_pace_6 : decode cX9_pace 6 = .ok (.aload_n 3, 1) := by decide +kernel
theorem dX9_pace_7 : decode cX9_pace 7 = .ok (.ifnull 11, 3) := by decide +kernel
theorem dX9_pace_10 : decode cX9_pace 10 = .ok (.aload_n 3, 1) := by decide +kernel
theorem dX9_pace_11 : decode cX9_pace 11 = .ok (.iload_n 2, 1) := by decide +kernel
theorem dX9_pace_12 : decode cX9_pace 12 = .ok (.invokevirtual 154, 3) := by decide +kernel
theorem dX9_pace_15 : decode cX9_pace 15 = .ok (.ifCond .ne 6, 3) := by decide +kernel
theorem dX9_pace_18 : decode cX9_pace 18 = .ok (.bipush (-2), 2) := by decide +kernel
theorem dX9_pace_20 : decode cX9_pace 20 = .ok (.ireturn, 1) := by decide +kernel
theorem dX9_pace_21 : decode cX9_pace 21 = .ok (.aload_n 3, 1) := by decide +kernel
theorem dX9_pace_22 : decode cX9_pace 22 = .ok (.iload_n 2, 1) := by decide +kernel
theorem dX9_pace_23 : decode cX9_pace 23 = .ok (.invokevirtual 158, 3) := by decide +kernel
theorem dX9_pace_26 : decode cX9_pace 26 = .ok (.ifCond .eq 15, 3) := by decide +kernel
theorem dX9_pace_29 : decode cX9_pace 29 = .ok (.aload_n 0, 1) := by decide +kernel
theorem dX9_pace_30 : decode cX9_pace 30 = .ok (.getfield 43, 3) := by decide +kernel
theorem dX9_pace_33 : decode cX9_pace 33 = .ok (.aload_n 3, 1) := by decide +kernel
theorem dX9_pace_34 : decode cX9_pace 34 = .ok (.iload_n 2, 1) := by decide +kernel
theorem dX9_pace_35 : decode cX9_pace 35 = .ok (.invokevirtual 194, 3) := by decide +kernel
theorem dX9_pace_38 : decode cX9_pace 38 = .ok (.goto 4, 3) := by decide +kernel
theorem dX9_pace_41 : decode cX9_pace 41 = .ok (.iconst (-1), 1) := by decide +kernel
theorem dX9_pace_42 : decode cX9_pace 42 = .ok (.ireturn, 1) := by decide +kernel
set_option maxRecDepth 20000 in
theorem ggX9_window_X9_within : GoodIn wsX9_window wsX9_within := goodIn_r _ [5] (by decide +kernel) (by decide +kernel)
set_option maxRecDepth 20000 in
theorem gX9_window_X9_within : GoodIn wsX9_window (va_wsS RX9 73 yX9_within wsX9_within) := goodIn_app (goodIn_of _ (by decide +kernel)) ggX9_window_X9_within
set_option maxRecDepth 20000 in
theorem ggX9_window_X4_open : GoodIn wsX9_window wsX4_open := goodIn_r _ [10, 11, 12, 13, 14, 15, 16, 28, 29] (by decide +kernel) (by decide +kernel)
set_option maxRecDepth 20000 in
theorem gX9_window_X4_open : GoodIn wsX9_window (wsV RX9 197 RX4 yX4_open wsX4_open) := goodIn_app (goodIn_of _ (by decide +kernel)) ggX9_window_X4_open
theorem dX9_window_0 : decode cX9_window 0 = .ok (.iload_n 1, 1) := by decide +kernel
theorem dX9_window_1 : decode cX9_window 1 = .ok (.iconst 1, 1) := by decide +kernel
theorem dX9_window_2 : decode cX9_window 2 = .ok (.iconst 3, 1) := by decide +kernel
theorem dX9_window_3 : decode cX9_window 3 = .ok (.invokestatic 73, 3) := by decide +kernel
theorem dX9_window_6 : decode cX9_window 6 = .ok (.ifCond .ne 6, 3) := by decide +kernel
theorem dX9_window_9 : decode cX9_window 9 = .ok (.bipush (-2), 2) := by decide +kernel
theorem dX9_window_11 : decode cX9_window 11 = .ok (.ireturn, 1) := by decide +kernel
theorem dX9_window_12 : decode cX9_window 12 = .ok (.aload_n 0, 1) := by decide +kernel
theorem dX9_window_13 : decode cX9_window 13 = .ok (.getfield 29, 3) := by decide +kernel
theorem dX9_window_16 : decode cX9_window 16 = .ok (.iload_n 1, 1) := by decide +kernel
theorem dX9_window_17 : decode cX9_window 17 = .ok (.invokevirtual 197, 3) := by decide +kernel
theorem dX9_window_20 : decode cX9_window 20 = .ok (.iconst 1, 1) := by decide +kernel
theorem dX9_window_21 : decode cX9_window 21 = .ok (.ireturn, 1) := by decide +kernel
set_option maxRecDepth 20000 in
theorem ggX9_tells_X4_rows : GoodIn wsX9_tells wsX4_rows := goodIn_r _ [7, 8, 24, 25] (by decide +kernel) (by decide +kernel)
set_option maxRecDepth 20000 in
theorem gX9_tells_X4_rows : GoodIn wsX9_tells (wsV RX9 201 RX4 yX4_rows wsX4_rows) := goodIn_app (goodIn_of _ (by decide +kernel)) ggX9_tells_X4_rows
set_option maxRecDepth 20000 in
theorem ggX9_tells_X9_within : GoodIn wsX9_tells wsX9_within := goodIn_r _ [12] (by decide +kernel) (by decide +kernel)
set_option maxRecDepth 20000 in
theorem gX9_tells_X9_within : GoodIn wsX9_tells (va_wsS RX9 73 yX9_within wsX9_within) := goodIn_app (goodIn_of _ (by decide +kernel)) ggX9_tells_X9_within
theorem dX9_tells_0 : decode cX9_tells 0 = .ok (.iload_n 1, 1) := by decide +kernel
theorem dX9_tells_1 : decode cX9_tells 1 = .ok (.iconst 0, 1) := by decide +kernel
theorem dX9_tells_2 : decode cX9_tells 2 = .ok (.aload_n 0, 1) := by decide +kernel
theorem dX9_tells_3 : decode cX9_tells 3 = .ok (.getfield 29, 3) := by decide +kernel
theorem dX9_tells_6 : decode cX9_tells 6 = .ok (.invokevirtual 201, 3) := by decide +kernel
theorem dX9_tells_9 : decode cX9_tells 9 = .ok (.iconst 1, 1) := by decide +kernel
theorem dX9_tells_10 : decode cX9_tells 10 = .ok (.isub, 1) := by decide +kernel
theorem dX9_tells_11 : decode cX9_tells 11 = .ok (.invokestatic 73, 3) := by decide +kernel
theorem dX9_tells_14 : decode cX9_tells 14 = .ok (.ifCond .eq 12, 3) := by decide +kernel
theorem dX9_tells_17 : decode cX9_tells 17 = .ok (.iload_n 2, 1) := by decide +kernel
theorem dX9_tells_18 : decode cX9_tells 18 = .ok (.iconst 0, 1) := by decide +kernel
theorem dX9_tells_19 : decode cX9_tells 19 = .ok (.iconst 3, 1) := by decide +kernel
theorem dX9_tells_20 : decode cX9_tells 20 = .ok (.invokestatic 73, 3) := by decide +kernel
theorem dX9_tells_23 : decode cX9_tells 23 = .ok (.ifCond .ne 6, 3) := by decide +kernel
theorem dX9_tells_26 : decode cX9_tells 26 = .ok (.bipush (-2), 2) := by decide +kernel
theorem dX9_tells_28 : decode cX9_tells 28 = .ok (.ireturn, 1) := by decide +kernel
theorem dX9_tells_29 : decode cX9_tells 29 = .ok (.aload_n 0, 1) := by decide +kernel
theorem dX9_tells_30 : decode cX9_tells 30 = .ok (.getfield 29, 3) := by decide +kernel
theorem dX9_tells_33 : decode cX9_tells 33 = .ok (.getfield 204, 3) := by decide +kernel
theorem dX9_tells_36 : decode cX9_tells 36 = .ok (.iload_n 1, 1) := by decide +kernel
theorem dX9_tells_37 : decode cX9_tells 37 = .ok (.iaload, 1) := by decide +kernel
theorem dX9_tells_38 : decode cX9_tells 38 = .ok (.istore_n 3, 1) := by decide +kernel
theorem dX9_tells_39 : decode cX9_tells 39 = .ok (.aload_n 0, 1) := by decide +kernel
theorem dX9_tells_40 : decode cX9_tells 40 = .ok (.getfield 29, 3) := by decide +kernel
theorem dX9_tells_43 : decode cX9_tells 43 = .ok (.getfield 204, 3) := by decide +kernel
theorem dX9_tells_46 : decode cX9_tells 46 = .ok (.iload_n 1, 1) := by decide +kernel
theorem dX9_tells_47 : decode cX9_tells 47 = .ok (.iload_n 2, 1) := by decide +kernel
theorem dX9_tells_48 : decode cX9_tells 48 = .ok (.iastore, 1) := by decide +kernel
theorem dX9_tells_49 : decode cX9_tells 49 = .ok (.iload_n 3, 1) := by decide +kernel
theorem dX9_tells_50 : decode cX9_tells 50 = .ok (.ireturn, 1) := by decide +kernel
set_option maxRecDepth 20000 in
theorem ggX9_maps_X9_graphAt : GoodIn wsX9_maps wsX9_graphAt := goodIn_r _ [7, 8, 9, 10, 11, 6, 12, 106, 107, 108, 109, 110, 111, 112, 113, 114, 115, 116] (by decide +kernel) (by decide +kernel)
set_option maxRecDepth 20000 in
theorem gX9_maps_X9_graphAt : GoodIn wsX9_maps (wsV RX9 88 RX9 yX9_graphAt wsX9_graphAt) := goodIn_app (goodIn_of _ (by decide +kernel)) ggX9_maps_X9_graphAt
set_option maxRecDepth 20000 in
theorem ggX9_maps_X2_seek : GoodIn wsX9_maps wsX2_seek := goodIn_r _ [17, 18, 19, 20, 21, 22, 23, 24, 25, 26, 27, 28, 29, 30, 31, 32, 33, 34, 35, 36, 37, 38, 16, 39, 40, 41, 42, 43, 44, 45, 46, 47, 48, 49, 50, 51, 52, 53, 54, 55, 56, 57, 58, 59, 60, 61, 62, 63, 64, 65, 66, 67, 68, 69, 70, 71, 72, 73, 74, 75, 76, 11, 6, 12, 77, 78, 79, 80, 81, 82, 83, 84, 85, 86, 87, 88, 89, 90, 91, 92, 93, 94, 95, 96, 97, 98, 99, 100, 101, 102, 103, 104, 105, 117, 118, 119, 120, 121, 122, 123, 124, 125, 126, 127, 128, 129, 130, 131] (by decide +kernel) (by decide +kernel)
set_option maxRecDepth 20000 in
theorem gX9_maps_X2_seek : GoodIn wsX9_maps (wsV RX9 207 RX2 yX2_seek wsX2_seek) := goodIn_app (goodIn_of _ (by decide +kernel)) ggX9_maps_X2_seek
theorem dX9_maps_0 : decode cX9_maps 0 = .ok (.aload_n 0, 1) := by decide +kernel
theorem dX9_maps_1 : decode cX9_maps 1 = .ok (.iload_n 1, 1) := by decide +kernel
theorem dX9_maps_2 : decode cX9_maps 2 = .ok (.invokevirtual 88, 3) := by decide +kernel
theorem dX9_maps_5 : decode cX9_maps 5 = .ok (.astore_n 3, 1) := by decide +kernel
theorem dX9_maps_6 : decode cX9_maps 6 = .ok (.aload_n 0, 1) := by decide +kernel
theorem dX9_maps_7 : decode cX9_maps 7 = .ok (.iload_n 2, 1) := by decide +kernel
theorem dX9_maps_8 : decode cX9_maps 8 = .ok (.invokevirtual 88, 3) := by decide +kernel
theorem dX9_maps_11 : decode cX9_maps 11 = .ok (.astore 4, 2) := by decide +kernel
theorem dX9_maps_13 : decode cX9_maps 13 = .ok (.aload_n 3, 1) := by decide +kernel
theorem dX9_maps_14 : decode cX9_maps 14 = .ok (.ifnull 8, 3) := by decide +kernel
theorem dX9_maps_17 : decode cX9_maps 17 = .ok (.aload 4, 2) := by decide +kernel
theorem dX9_maps_19 : decode cX9_maps 19 = .ok (.ifnonnull 8, 3) := by decide +kernel
theorem dX9_maps_22 : decode cX9_maps 22 = .ok (.bipush (-2), 2) := by decide +kernel
theorem dX9_maps_24 : decode cX9_maps 24 = .ok (.goto 17, 3) := by decide +kernel
theorem dX9_maps_27 : decode cX9_maps 27 = .ok (.aload_n 0, 1) := by decide +kernel
theorem dX9_maps_28 : decode cX9_maps 28 = .ok (.getfield 69, 3) := by decide +kernel
theorem dX9_maps_31 : decode cX9_maps 31 = .ok (.aload_n 3, 1) := by decide +kernel
theorem dX9_maps_32 : decode cX9_maps 32 = .ok (.aload 4, 2) := by decide +kernel
theorem dX9_maps_34 : decode cX9_maps 34 = .ok (.aload_n 0, 1) := by decide +kernel
theorem dX9_maps_35 : decode cX9_maps 35 = .ok (.getfield 29, 3) := by decide +kernel
theorem dX9_maps_38 : decode cX9_maps 38 = .ok (.invokevirtual 207, 3) := by decide +kernel
theorem dX9_maps_41 : decode cX9_maps 41 = .ok (.ireturn, 1) := by decide +kernel
set_option maxRecDepth 20000 in
theorem ggX9_weights_X9_graphAt : GoodIn wsX9_weights wsX9_graphAt := goodIn_r _ [6, 7, 8, 9, 10, 5, 11, 88, 89, 90, 91, 92, 93, 94, 95, 96, 97, 98] (by decide +kernel) (by decide +kernel)
set_option maxRecDepth 20000 in
theorem gX9_weights_X9_graphAt : GoodIn wsX9_weights (wsV RX9 88 RX9 yX9_graphAt wsX9_graphAt) := goodIn_app (goodIn_of _ (by decide +kernel)) ggX9_weights_X9_graphAt
set_option maxRecDepth 20000 in
theorem ggX9_weights_X9_areCoderNumbers : GoodIn wsX9_weights wsX9_areCoderNumbers := goodIn_r _ [14, 9, 10, 5, 11] (by decide +kernel) (by decide +kernel)
set_option maxRecDepth 20000 in
theorem gX9_weights_X9_areCoderNumbers : GoodIn wsX9_weights (va_wsS RX9 210 yX9_areCoderNumbers wsX9_areCoderNumbers) := goodIn_app (goodIn_of _ (by decide +kernel)) ggX9_weights_X9_areCoderNumbers
set_option maxRecDepth 20000 in
theorem ggX9_weights_X7_weigh : GoodIn wsX9_weights wsX7_weigh := goodIn_r _ [19, 20, 21, 22, 23, 24, 25, 26, 27, 28, 29, 30, 18, 31, 32, 33, 34, 35, 36, 37, 38, 39, 40, 41, 42, 43, 44, 45, 46, 47, 48, 49, 50, 51, 52, 53, 54, 55, 56, 57, 58, 59, 60, 61, 62, 63, 64, 65, 66, 67, 68, 69, 70, 71, 72, 73, 74, 99, 100, 101, 102, 103, 104, 105, 106, 107, 108, 109, 110] (by decide +kernel) (by decide +kernel)
set_option maxRecDepth 20000 in
theorem gX9_weights_X7_weigh : GoodIn wsX9_weights (wsV RX9 213 RX7 yX7_weigh wsX7_weigh) := goodIn_app (goodIn_of _ (by decide +kernel)) ggX9_weights_X7_weigh
set_option maxRecDepth 20000 in
theorem ggX9_weights_X7_sumOfWeights : GoodIn wsX9_weights wsX7_sumOfWeights := goodIn_r _ [78, 20, 79, 80, 81, 18, 82, 22, 83, 84, 85, 49, 86, 87, 10, 5, 11, 99, 100, 101, 102, 103, 104, 105, 106, 107, 108, 109, 110] (by decide +kernel) (by decide +kernel)
set_option maxRecDepth 20000 in
theorem gX9_weights_X7_sumOfWeights : GoodIn wsX9_weights (wsV RX9 217 RX7 yX7_sumOfWeights wsX7_sumOfWeights) := goodIn_app (goodIn_of _ (by decide +kernel)) ggX9_weights_X7_sumOfWeights
theorem dX9_weights_0 : decode cX9_weights 0 = .ok (.aload_n 0, 1) := by decide +kernel
theorem dX9_weights_1 : decode cX9_weights 1 = .ok (.iload_n 1, 1) := by decide +kernel
theorem dX9_weights_2 : decode cX9_weights 2 = .ok (.invokevirtual 88, 3) := by decide +kernel
theorem dX9_weights_5 : decode cX9_weights 5 = .ok (.astore 5, 2) := by decide +kernel
theorem dX9_weights_7 : decode cX9_weights 7 = .ok (.aload 5, 2) := by decide +kernel
theorem dX9_weights_9 : decode cX9_weights 9 = .ok (.ifnull 13, 3) := by decide +kernel
theorem dX9_weights_12 : decode cX9_weights 12 = .ok (.iload_n 2, 1) := by decide +kernel
theorem dX9_weights_13 : decode cX9_weights 13 = .ok (.iload_n 3, 1) := by decide +kernel
theorem dX9_weights_14 : decode cX9_weights 14 = .ok (.iload 4, 2) := by decide +kernel
theorem dX9_weights_16 : decode cX9_weights 16 = .ok (.invokestatic 210, 3) := by decide +kernel
theorem dX9_weights_19 : decode cX9_weights 19 = .ok (.ifCond .ne 6, 3) := by decide +kernel
theorem dX9_weights_22 : decode cX9_weights 22 = .ok (.bipush (-2), 2) := by decide +kernel
theorem dX9_weights_24 : decode cX9_weights 24 = .ok (.ireturn, 1) := by decide +kernel
theorem dX9_weights_25 : decode cX9_weights 25 = .ok (.aload_n 0, 1) := by decide +kernel
theorem dX9_weights_26 : decode cX9_weights 26 = .ok (.getfield 36, 3) := by decide +kernel
theorem dX9_weights_29 : decode cX9_weights 29 = .ok (.aload 5, 2) := by decide +kernel
theorem dX9_weights_31 : decode cX9_weights 31 = .ok (.iload_n 2, 1) := by decide +kernel
theorem dX9_weights_32 : decode cX9_weights 32 = .ok (.iload_n 3, 1) := by decide +kernel
theorem dX9_weights_33 : decode cX9_weights 33 = .ok (.iload 4, 2) := by decide +kernel
theorem dX9_weights_35 : decode cX9_weights 35 = .ok (.invokevirtual 213, 3) := by decide +kernel
theorem dX9_weights_38 : decode cX9_weights 38 = .ok (.aload_n 0, 1) := by decide +kernel
theorem dX9_weights_39 : decode cX9_weights 39 = .ok (.getfield 36, 3) := by decide +kernel
theorem dX9_weights_42 : decode cX9_weights 42 = .ok (.aload 5, 2) := by decide +kernel
theorem dX9_weights_44 : decode cX9_weights 44 = .ok (.invokevirtual 217, 3) := by decide +kernel
theorem dX9_weights_47 : decode cX9_weights 47 = .ok (.ireturn, 1) := by decide +kernel
set_option maxRecDepth 20000 in
theorem ggX9_weight_X9_graphAt : GoodIn wsX9_weight wsX9_graphAt := goodIn_r _ [6, 7, 8, 9, 10, 5, 11, 85, 86, 87, 88, 89, 90, 91, 92, 93, 94, 95] (by decide +kernel) (by decide +kernel)
set_option maxRecDepth 20000 in
theorem gX9_weight_X9_graphAt : GoodIn wsX9_weight (wsV RX9 88 RX9 yX9_graphAt wsX9_graphAt) := goodIn_app (goodIn_of _ (by decide +kernel)) ggX9_weight_X9_graphAt
set_option maxRecDepth 20000 in
theorem ggX9_weight_X9_areCoderNumbers : GoodIn wsX9_weight wsX9_areCoderNumbers := goodIn_r _ [14, 9, 10, 5, 11] (by decide +kernel) (by decide +kernel)
set_option maxRecDepth 20000 in
theorem gX9_weight_X9_areCoderNumbers : GoodIn wsX9_weight (va_wsS RX9 210 yX9_areCoderNumbers wsX9_areCoderNumbers) := goodIn_app (goodIn_of _ (by decide +kernel)) ggX9_weight_X9_areCoderNumbers
set_option maxRecDepth 20000 in
theorem ggX9_weight_X1_hasState : GoodIn wsX9_weight wsX1_hasState := goodIn_r _ [19, 20, 10, 5, 11, 96, 97, 98, 99, 100, 101, 102] (by decide +kernel) (by decide +kernel)
set_option maxRecDepth 20000 in
theorem gX9_weight_X1_hasState : GoodIn wsX9_weight (wsV RX9 154 RX1 yX1_hasState wsX1_hasState) := goodIn_app (goodIn_of _ (by decide +kernel)) ggX9_weight_X1_hasState
set_option maxRecDepth 20000 in
theorem ggX9_weight_X7_weigh : GoodIn wsX9_weight wsX7_weigh := goodIn_r _ [25, 26, 27, 28, 29, 30, 31, 32, 33, 34, 35, 36, 24, 37, 38, 39, 40, 41, 42, 43, 44, 45, 46, 47, 48, 49, 50, 51, 52, 53, 54, 18, 55, 56, 57, 58, 59, 60, 61, 62, 63, 64, 65, 66, 67, 68, 69, 70, 71, 72, 73, 74, 75, 76, 77, 78, 79, 96, 97, 98, 99, 100, 101, 102, 103, 104, 105, 106, 107] (by decide +kernel) (by decide +kernel)
set_option maxRecDepth 20000 in
theorem gX9_weight_X7_weigh : GoodIn wsX9_weight (wsV RX9 213 RX7 yX7_weigh wsX7_weigh) := goodIn_app (goodIn_of _ (by decide +kernel)) ggX9_weight_X7_weigh
set_option maxRecDepth 20000 in
theorem ggX9_weight_X7_weightOf : GoodIn wsX9_weight wsX7_weightOf := goodIn_r _ [83, 28, 84, 16, 17, 18, 19, 20, 10, 5, 11, 103, 104, 105, 106, 107, 96, 97, 98, 99, 100, 101, 102] (by decide +kernel) (by decide +kernel)
set_option maxRecDepth 20000 in
theorem gX9_weight_X7_weightOf : GoodIn wsX9_weight (wsV RX9 220 RX7 yX7_weightOf wsX7_weightOf) := goodIn_app (goodIn_of _ (by decide +kernel)) ggX9_weight_X7_weightOf
theorem dX9_weight_0 : decode cX9_weight 0 = .ok (.aload_n 0, 1) := by decide +kernel
theorem dX9_weight_1 : decode cX9_weight 1 = .ok (.iload_n 1, 1) := by decide +kernel
theorem dX9_weight_2 : decode cX9_weight 2 = .ok (.invokevirtual 88, 3) := by decide +kernel
theorem dX9_weight_5 : decode cX9_weight 5 = .ok (.astore 6, 2) := by decide +kernel
theorem dX9_weight_7 : decode cX9_weight 7 = .ok (.aload 6, 2) := by decide +kernel
theorem dX9_weight_9 : decode cX9_weight 9 = .ok (.ifnull 23, 3) := by decide +kernel
theorem dX9_weight_12 : decode cX9_weight 12 = .ok (.iload_n 2, 1) := by decide +kernel
theorem dX9_weight_13 : decode cX9_weight 13 = .ok (.iload_n 3, 1) := by decide +kernel
theorem dX9_weight_14 : decode cX9_weight 14 = .ok (.iload 4, 2) := by decide +kernel
theorem dX9_weight_16 : decode cX9_weight 16 = .ok (.invokestatic 210, 3) := by decide +kernel
theorem dX9_weight_19 : decode cX9_weight 19 = .ok (.ifCond .eq 13, 3) := by decide +kernel
theorem dX9_weight_22 : decode cX9_weight 22 = .ok (.aload 6, 2) := by decide +kernel
theorem dX9_weight_24 : decode cX9_weight 24 = .ok (.iload 5, 2) := by decide +kernel
theorem dX9_weight_26 : decode cX9_weight 26 = .ok (.invokevirtual 154, 3) := by decide +kernel
theorem dX9_weight_29 : decode cX9_weight 29 = .ok (.ifCond .ne 6, 3) := by decide +kernel
theorem dX9_weight_32 : decode cX9_weight 32 = .ok (.bipush (-2), 2) := by decide +kernel
theorem dX9_weight_34 : decode cX9_weight 34 = .ok (.ireturn, 1) := by decide +kernel
theorem dX9_weight_35 : decode cX9_weight 35 = .ok (.aload_n 0, 1) := by decide +kernel
theorem dX9_weight_36 : decode cX9_weight 36 = .ok (.getfield 36, 3) := by decide +kernel
theorem dX9_weight_39 : decode cX9_weight 39 = .ok (.aload 6, 2) := by decide +kernel
theorem dX9_weight_41 : decode cX9_weight 41 = .ok (.iload_n 2, 1) := by decide +kernel
theorem dX9_weight_42 : decode cX9_weight 42 = .ok (.iload_n 3, 1) := by decide +kernel
theorem dX9_weight_43 : decode cX9_weight 43 = .ok (.iload 4, 2) := by decide +kernel
theorem dX9_weight_45 : decode cX9_weight 45 = .ok (.invokevirtual 213, 3) := by decide +kernel
theorem dX9_weight_48 : decode cX9_weight 48 = .ok (.aload_n 0, 1) := by decide +kernel
theorem dX9_weight_49 : decode cX9_weight 49 = .ok (.getfield 36, 3) := by decide +kernel
theorem dX9_weight_52 : decode cX9_weight 52 = .ok (.aload 6, 2) := by decide +kernel
theorem dX9_weight_54 : decode cX9_weight 54 = .ok (.iload 5, 2) := by decide +kernel
theorem dX9_weight_56 : decode cX9_weight 56 = .ok (.invokevirtual 220, 3) := by decide +kernel
theorem dX9_weight_59 : decode cX9_weight 59 = .ok (.ireturn, 1) := by decide +kernel
theorem dX9_count_0 : decode cX9_count 0 = .ok (.iload_n 1, 1) := by decide +kernel
theorem dX9_count_1 : decode cX9_count 1 = .ok (.tableswitch 57 0 3 #[31, 36, 41, 49], 31) := by decide +kernel
theorem dX9_count_32 : decode cX9_count 32 = .ok (.aload_n 0, 1) := by decide +kernel
theorem dX9_count_33 : decode cX9_count 33 = .ok (.getfield 77, 3) := by decide +kernel
theorem dX9_count_36 : decode cX9_count 36 = .ok (.ireturn, 1) := by decide +kernel
theorem dX9_count_37 : decode cX9_count 37 = .ok (.aload_n 0, 1) := by decide +kernel
theorem dX9_count_38 : decode cX9_count 38 = .ok (.getfield 105, 3) := by decide +kernel
theorem dX9_count_41 : decode cX9_count 41 = .ok (.ireturn, 1) := by decide +kernel
theorem dX9_count_42 : decode cX9_count 42 = .ok (.aload_n 0, 1) := by decide +kernel
theorem dX9_count_43 : decode cX9_count 43 = .ok (.getfield 22, 3) := by decide +kernel
theorem dX9_count_46 : decode cX9_count 46 = .ok (.getfield 108, 3) := by decide +kernel
theorem dX9_count_49 : decode cX9_count 49 = .ok (.ireturn, 1) := by decide +kernel
theorem dX9_count_50 : decode cX9_count 50 = .ok (.aload_n 0, 1) := by decide +kernel
theorem dX9_count_51 : decode cX9_count 51 = .ok (.getfield 29, 3) := by decide +kernel
theorem dX9_count_54 : decode cX9_count 54 = .ok (.getfield 223, 3) := by decide +kernel
theorem dX9_count_57 : decode cX9_count 57 = .ok (.ireturn, 1) := by decide +kernel
theorem dX9_count_58 : decode cX9_count 58 = .ok (.bipush (-2), 2) := by decide +kernel
theorem dX9_count_60 : decode cX9_count 60 = .ok (.ireturn, 1) := by decide +kernel
set_option maxRecDepth 20000 in
theorem ggX9_digest_X9_count : GoodIn wsX9_digest wsX9_count := goodIn_r _ [12, 3, 4, 7, 13, 6, 14, 63, 64, 65, 66, 67, 68, 69, 70, 71, 72, 73, 74, 75, 76, 77, 78, 79] (by decide +kernel) (by decide +kernel)
set_option maxRecDepth 20000 in
theorem gX9_digest_X9_count : GoodIn wsX9_digest (wsV RX9 230 RX9 yX9_count wsX9_count) := goodIn_app (goodIn_of _ (by decide +kernel)) ggX9_digest_X9_count
set_option maxRecDepth 20000 in
theorem ggX9_digest_X9_graphAt : GoodIn wsX9_digest wsX9_graphAt := goodIn_r _ [18, 3, 19, 20, 21, 11, 22, 63, 64, 65, 66, 67, 68, 69, 70, 71, 72, 73] (by decide +kernel) (by decide +kernel)
set_option maxRecDepth 20000 in
theorem gX9_digest_X9_graphAt : GoodIn wsX9_digest (wsV RX9 88 RX9 yX9_graphAt wsX9_graphAt) := goodIn_app (goodIn_of _ (by decide +kernel)) ggX9_digest_X9_graphAt
set_option maxRecDepth 20000 in
theorem ggX9_digest_X1_digestOn : GoodIn wsX9_digest wsX1_digestOn := goodIn_r _ [27, 28, 29, 30, 31, 32, 33, 34, 35, 36, 37, 38, 39, 40, 41, 80, 81, 82, 83, 84, 85, 86] (by decide +kernel) (by decide +kernel)
set_option maxRecDepth 20000 in
theorem gX9_digest_X1_digestOn : GoodIn wsX9_digest (wsV RX9 233 RX1 yX1_digestOn wsX1_digestOn) := goodIn_app (goodIn_of _ (by decide +kernel)) ggX9_digest_X1_digestOn
set_option maxRecDepth 20000 in
theorem ggX9_digest_X0_digestOn : GoodIn wsX9_digest wsX0_digestOn := goodIn_r _ [46, 47, 48, 49, 50, 74, 75, 76, 77] (by decide +kernel) (by decide +kernel)
set_option maxRecDepth 20000 in
theorem gX9_digest_X0_digestOn : GoodIn wsX9_digest (wsV RX9 237 RX0 yX0_digestOn wsX0_digestOn) := goodIn_app (goodIn_of _ (by decide +kernel)) ggX9_digest_X0_digestOn
set_option maxRecDepth 20000 in
theorem ggX9_digest_X4_digestOn : GoodIn wsX9_digest wsX4_digestOn := goodIn_r _ [55, 56, 57, 58, 59, 60, 54, 61, 62, 78, 79] (by decide +kernel) (by decide +kernel)
set_option maxRecDepth 20000 in
theorem gX9_digest_X4_digestOn : GoodIn wsX9_digest (wsV RX9 238 RX4 yX4_digestOn wsX4_digestOn) := goodIn_app (goodIn_of _ (by decide +kernel)) ggX9_digest_X4_digestOn
theorem dX9_digest_0 : decode cX9_digest 0 = .ok (.ldc2_w 226, 3) := by decide +kernel
theorem dX9_digest_3 : decode cX9_digest 3 = .ok (.lstore_n 1, 1) := by decide +kernel
theorem dX9_digest_4 : decode cX9_digest 4 = .ok (.iconst 0, 1) := by decide +kernel
theorem dX9_digest_5 : decode cX9_digest 5 = .ok (.istore_n 3, 1) := by decide +kernel
theorem dX9_digest_6 : decode cX9_digest 6 = .ok (.iload_n 3, 1) := by decide +kernel
theorem dX9_digest_7 : decode cX9_digest 7 = .ok (.iconst 3, 1) := by decide +kernel
theorem dX9_digest_8 : decode cX9_digest 8 = .ok (.if_icmp .gt 22, 3) := by decide +kernel
theorem dX9_digest_11 : decode cX9_digest 11 = .ok (.ldc2_w 228, 3) := by decide +kernel
theorem dX9_digest_14 : decode cX9_digest 14 = .ok (.lload_n 1, 1) := by decide +kernel
theorem dX9_digest_15 : decode cX9_digest 15 = .ok (.lmul, 1) := by decide +kernel
theorem dX9_digest_16 : decode cX9_digest 16 = .ok (.aload_n 0, 1) := by decide +kernel
theorem dX9_digest_17 : decode cX9_digest 17 = .ok (.iload_n 3, 1) := by decide +kernel
theorem dX9_digest_18 : decode cX9_digest 18 = .ok (.invokevirtual 230, 3) := by decide +kernel
theorem dX9_digest_21 : decode cX9_digest 21 = .ok (.i2l, 1) := by decide +kernel
theorem dX9_digest_22 : decode cX9_digest 22 = .ok (.ladd, 1) := by decide +kernel
theorem dX9_digest_23 : decode cX9_digest 23 = .ok (.lstore_n 1, 1) := by decide +kernel
theorem dX9_digest_24 : decode cX9_digest 24 = .ok (.iinc 3 1, 3) := by decide +kernel
theorem dX9_digest_27 : decode cX9_digest 27 = .ok (.goto (-21), 3) := by decide +kernel
theorem dX9_digest_30 : decode cX9_digest 30 = .ok (.iconst 0, 1) := by decide +kernel
theorem dX9_digest_31 : decode cX9_digest 31 = .ok (.istore_n 3, 1) := by decide +kernel
theorem dX9_digest_32 : decode cX9_digest 32 = .ok (.iload_n 3, 1) := by decide +kernel
theorem dX9_digest_33 : decode cX9_digest 33 = .ok (.aload_n 0, 1) := by decide +kernel
theorem dX9_digest_34 : decode cX9_digest 34 = .ok (.getfield 77, 3) := by decide +kernel
theorem dX9_digest_37 : decode cX9_digest 37 = .ok (.if_icmp .ge 32, 3) := by decide +kernel
theorem dX9_digest_40 : decode cX9_digest 40 = .ok (.aload_n 0, 1) := by decide +kernel
theorem dX9_digest_41 : decode cX9_digest 41 = .ok (.iload_n 3, 1) := by decide +kernel
theorem dX9_digest_42 : decode cX9_digest 42 = .ok (.invokevirtual 88, 3) := by decide +kernel
theorem dX9_digest_45 : decode cX9_digest 45 = .ok (.astore 4, 2) := by decide +kernel
theorem dX9_digest_47 : decode cX9_digest 47 = .ok (.aload 4, 2) := by decide +kernel
theorem dX9_digest_49 : decode cX9_digest 49 = .ok (.ifnonnull 7, 3) := by decide +kernel
theorem dX9_digest_52 : decode cX9_digest 52 = .ok (.lload_n 1, 1) := by decide +kernel
theorem dX9_digest_53 : decode cX9_digest 53 = .ok (.goto 9, 3) := by decide +kernel
theorem dX9_digest_56 : decode cX9_digest 56 = .ok (.aload 4, 2) := by decide +kernel
theorem dX9_digest_58 : decode cX9_digest 58 = .ok (.lload_n 1, 1) := by decide +kernel
theorem dX9_digest_59 : decode cX9_digest 59 = .ok (.invokevirtual 233, 3) := by decide +kernel
theorem dX9_digest_62 : decode cX9_digest 62 = .ok (.lstore_n 1, 1) := by decide +kernel
theorem dX9_digest_63 : decode cX9_digest 63 = .ok (.iinc 3 1, 3) := by decide +kernel
theorem dX9_digest_66 : decode cX9_digest 66 = .ok (.goto (-34), 3) := by decide +kernel
theorem dX9_digest_69 : decode cX9_digest 69 = .ok (.iconst 0, 1) := by decide +kernel
theorem dX9_digest_70 : decode cX9_digest 70 = .ok (.istore_n 3, 1) := by decide +kernel
theorem dX9_digest_71 : decode cX9_digest 71 = .ok (.iload_n 3, 1) := by decide +kernel
theorem dX9_digest_72 : decode cX9_digest 72 = .ok (.aload_n 0, 1) := by decide +kernel
theorem dX9_digest_73 : decode cX9_digest 73 = .ok (.getfield 105, 3) := by decide +kernel
theorem dX9_digest_76 : decode cX9_digest 76 = .ok (.if_icmp .ge 23, 3) := by decide +kernel
theorem dX9_digest_79 : decode cX9_digest 79 = .ok (.ldc2_w 228, 3) := by decide +kernel
theorem dX9_digest_82 : decode cX9_digest 82 = .ok (.lload_n 1, 1) := by decide +kernel
theorem dX9_digest_83 : decode cX9_digest 83 = .ok (.lmul, 1) := by decide +kernel
theorem dX9_digest_84 : decode cX9_digest 84 = .ok (.aload_n 0, 1) := by decide +kernel
theorem dX9_digest_85 : decode cX9_digest 85 = .ok (.getfield 15, 3) := by decide +kernel
theorem dX9_digest_88 : decode cX9_digest 88 = .ok (.iload_n 3, 1) := by decide +kernel
theorem dX9_digest_89 : decode cX9_digest 89 = .ok (.iaload, 1) := by decide +kernel
theorem dX9_digest_90 : decode cX9_digest 90 = .ok (.i2l, 1) := by decide +kernel
theorem dX9_digest_91 : decode cX9_digest 91 = .ok (.ladd, 1) := by decide +kernel
theorem dX9_digest_92 : decode cX9_digest 92 = .ok (.lstore_n 1, 1) := by decide +kernel
theorem dX9_digest_93 : decode cX9_digest 93 = .ok (.iinc 3 1, 3) := by decide +kernel
theorem dX9_digest_96 : decode cX9_digest 96 = .ok (.goto (-25), 3) := by decide +kernel
theorem dX9_digest_99 : decode cX9_digest 99 = .ok (.aload_n 0, 1) := by decide +kernel
theorem dX9_digest_100 : decode cX9_digest 100 = .ok (.getfield 29, 3) := by decide +kernel
theorem dX9_digest_103 : decode cX9_digest 103 = .ok (.aload_n 0, 1) := by decide +kernel
theorem dX9_digest_104 : decode cX9_digest 104 = .ok (.getfield 22, 3) := by decide +kernel
theorem dX9_digest_107 : decode cX9_digest 107 = .ok (.lload_n 1, 1) := by decide +kernel
theorem dX9_digest_108 : decode cX9_digest 108 = .ok (.invokevirtual 237, 3) := by decide +kernel
theorem dX9_digest_111 : decode cX9_digest 111 = .ok (.invokevirtual 238, 3) := by decide +kernel
theorem dX9_digest_114 : decode cX9_digest 114 = .ok (.lreturn, 1) := by decide +kernel
set_option maxRecDepth 20000 in
theorem ggX9_graphAt_X9_within : GoodIn wsX9_graphAt wsX9_within := goodIn_r _ [6] (by decide +kernel) (by decide +kernel)
set_option maxRecDepth 20000 in
theorem gX9_graphAt_X9_within : GoodIn wsX9_graphAt (va_wsS RX9 73 yX9_within wsX9_within) := goodIn_app (goodIn_of _ (by decide +kernel)) ggX9_graphAt_X9_within
theorem dX9_graphAt_0 : decode cX9_graphAt 0 = .ok (.iload_n 1, 1) := by decide +kernel
theorem dX9_graphAt_1 : decode cX9_graphAt 1 = .ok (.iconst 0, 1) := by decide +kernel
theorem dX9_graphAt_2 : decode cX9_graphAt 2 = .ok (.aload_n 0, 1) := by decide +kernel
theorem dX9_graphAt_3 : decode cX9_graphAt 3 = .ok (.getfield 77, 3) := by decide +kernel
theorem dX9_graphAt_6 : decode cX9_graphAt 6 = .ok (.iconst 1, 1) := by decide +kernel
theorem dX9_graphAt_7 : decode cX9_graphAt 7 = .ok (.isub, 1) := by decide +kernel
theorem dX9_graphAt_8 : decode cX9_graphAt 8 = .ok (.invokestatic 73, 3) := by decide +kernel
theorem dX9_graphAt_11 : decode cX9_graphAt 11 = .ok (.ifCond .eq 12, 3) := by decide +kernel
theorem dX9_graphAt_14 : decode cX9_graphAt 14 = .ok (.aload_n 0, 1) := by decide +kernel
theorem dX9_graphAt_15 : decode cX9_graphAt 15 = .ok (.getfield 11, 3) := by decide +kernel
theorem dX9_graphAt_18 : decode cX9_graphAt 18 = .ok (.iload_n 1, 1) := by decide +kernel
theorem dX9_graphAt_19 : decode cX9_graphAt 19 = .ok (.aaload, 1) := by decide +kernel
theorem dX9_graphAt_20 : decode cX9_graphAt 20 = .ok (.goto 4, 3) := by decide +kernel
theorem dX9_graphAt_23 : decode cX9_graphAt 23 = .ok (.aconst_null, 1) := by decide +kernel
theorem dX9_graphAt_24 : decode cX9_graphAt 24 = .ok (.areturn, 1) := by decide +kernel
theorem dX9_keep_0 : decode cX9_keep 0 = .ok (.aload_n 0, 1) := by decide +kernel
theorem dX9_keep_1 : decode cX9_keep 1 = .ok (.getfield 77, 3) := by decide +kernel
theorem dX9_keep_4 : decode cX9_keep 4 = .ok (.istore_n 2, 1) := by decide +kernel
theorem dX9_keep_5 : decode cX9_keep 5 = .ok (.iload_n 2, 1) := by decide +kernel
theorem dX9_keep_6 : decode cX9_keep 6 = .ok (.bipush 6, 2) := by decide +kernel
theorem dX9_keep_8 : decode cX9_keep 8 = .ok (.if_icmp .lt 6, 3) := by decide +kernel
theorem dX9_keep_11 : decode cX9_keep 11 = .ok (.bipush (-4), 2) := by decide +kernel
theorem dX9_keep_13 : decode cX9_keep 13 = .ok (.ireturn, 1) := by decide +kernel
theorem dX9_keep_14 : decode cX9_keep 14 = .ok (.aload_n 0, 1) := by decide +kernel
theorem dX9_keep_15 : decode cX9_keep 15 = .ok (.getfield 11, 3) := by decide +kernel
theorem dX9_keep_18 : decode cX9_keep 18 = .ok (.iload_n 2, 1) := by decide +kernel
theorem dX9_keep_19 : decode cX9_keep 19 = .ok (.aload_n 1, 1) := by decide +kernel
theorem dX9_keep_20 : decode cX9_keep 20 = .ok (.aastore, 1) := by decide +kernel
theorem dX9_keep_21 : decode cX9_keep 21 = .ok (.aload_n 0, 1) := by decide +kernel
theorem dX9_keep_22 : decode cX9_keep 22 = .ok (.dup, 1) := by decide +kernel
theorem dX9_keep_23 : decode cX9_keep 23 = .ok (.getfield 77, 3) := by decide +kernel
theorem dX9_keep_26 : decode cX9_keep 26 = .ok (.iconst 1, 1) := by decide +kernel
theorem dX9_keep_27 : decode cX9_keep 27 = .ok (.iadd, 1) := by decide +kernel
theorem dX9_keep_28 : decode cX9_keep 28 = .ok (.putfield 77, 3) := by decide +kernel
theorem dX9_keep_31 : decode cX9_keep 31 = .ok (.iload_n 2, 1) := by decide +kernel
theorem dX9_keep_32 : decode cX9_keep 32 = .ok (.ireturn, 1) := by decide +kernel
set_option maxRecDepth 20000 in
theorem ggX9_areCoderNumbers_X9_within : GoodIn wsX9_areCoderNumbers wsX9_within := goodIn_r _ [4] (by decide +kernel) (by decide +kernel)
set_option maxRecDepth 20000 in
theorem gX9_areCoderNumbers_X9_within : GoodIn wsX9_areCoderNumbers (va_wsS RX9 73 yX9_within wsX9_within) := goodIn_app (goodIn_of _ (by decide +kernel)) ggX9_areCoderNumbers_X9_within
theorem dX9_areCoderNumbers_0 : decode cX9_areCoderNumbers 0 = .ok (.iload_n 0, 1) := by decide +kernel
theorem dX9_areCoderNumbers_1 : decode cX9_areCoderNumbers 1 = .ok (.iconst 1, 1) := by decide +kernel
theorem dX9_areCoderNumbers_2 : decode cX9_areCoderNumbers 2 = .ok (.bipush 8, 2) := by decide +kernel
theorem dX9_areCoderNumbers_4 : decode cX9_areCoderNumbers 4 = .ok (.invokestatic 73, 3) := by decide +kernel
theorem dX9_areCoderNumbers_7 : decode cX9_areCoderNumbers 7 = .ok (.ifCond .eq 26, 3) := by decide +kernel
theorem dX9_areCoderNumbers_10 : decode cX9_areCoderNumbers 10 = .ok (.iload_n 1, 1) := by decide +kernel
theorem dX9_areCoderNumbers_11 : decode cX9_areCoderNumbers 11 = .ok (.iconst 1, 1) := by decide +kernel
theorem dX9_areCoderNumbers_12 : decode cX9_areCoderNumbers 12 = .ok (.iconst 4, 1) := by decide +kernel
theorem dX9_areCoderNumbers_13 : decode cX9_areCoderNumbers 13 = .ok (.invokestatic 73, 3) := by decide +kernel
theorem dX9_areCoderNumbers_16 : decode cX9_areCoderNumbers 16 = .ok (.ifCond .eq 17, 3) := by decide +kernel
theorem dX9_areCoderNumbers_19 : decode cX9_areCoderNumbers 19 = .ok (.iload_n 2, 1) := by decide +kernel
theorem dX9_areCoderNumbers_20 : decode cX9_areCoderNumbers 20 = .ok (.iconst 1, 1) := by decide +kernel
theorem dX9_areCoderNumbers_21 : decode cX9_areCoderNumbers 21 = .ok (.bipush 100, 2) := by decide +kernel
theorem dX9_areCoderNumbers_23 : decode cX9_areCoderNumbers 23 = .ok (.invokestatic 73, 3) := by decide +kernel
theorem dX9_areCoderNumbers_26 : decode cX9_areCoderNumbers 26 = .ok (.ifCond .eq 7, 3) := by decide +kernel
theorem dX9_areCoderNumbers_29 : decode cX9_areCoderNumbers 29 = .ok (.iconst 1, 1) := by decide +kernel
theorem dX9_areCoderNumbers_30 : decode cX9_areCoderNumbers 30 = .ok (.goto 4, 3) := by decide +kernel
theorem dX9_areCoderNumbers_33 : decode cX9_areCoderNumbers 33 = .ok (.iconst 0, 1) := by decide +kernel
theorem dX9_areCoderNumbers_34 : decode cX9_areCoderNumbers 34 = .ok (.ireturn, 1) := by decide +kernel
