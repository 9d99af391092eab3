theorem dX2_init_0 : decode cX2_init 0 = .ok (.aload_n 0, 1) := by decide +kernel
theorem dX2_init_1 : decode cX2_init 1 = .ok (.invokespecial 3, 3) := by decide +kernel
theorem dX2_init_4 : decode cX2_init 4 = .ok (.aload_n 0, 1) := by decide +kernel
theorem dX2_init_5 : decode cX2_init 5 = .ok (.aload_n 1, 1) := by decide +kernel
theorem dX2_init_6 : decode cX2_init 6 = .ok (.putfield 9, 3) := by decide +kernel
theorem dX2_init_9 : decode cX2_init 9 = .ok (.return_, 1) := by decide +kernel
set_option maxRecDepth 20000 in
theorem ggX2_seek_X3_clear : GoodIn wsX2_seek wsX3_clear := goodIn_r _ [10, 11, 12, 13, 14, 15, 16, 17, 18, 101, 102, 103, 104, 105] (by decide +kernel) (by decide +kernel)
set_option maxRecDepth 20000 in
theorem gX2_seek_X3_clear : GoodIn wsX2_seek (wsV RX2 15 RX3 yX3_clear wsX3_clear) := goodIn_app (goodIn_of _ (by decide +kernel)) ggX2_seek_X3_clear
set_option maxRecDepth 20000 in
theorem ggX2_seek_X2_meetAll : GoodIn wsX2_seek wsX2_meetAll := goodIn_r _ [23, 1, 24, 25, 26, 9, 27, 12, 28, 14, 11, 29, 30, 31, 32, 33, 34, 35, 36, 17, 37, 38, 39, 40, 41, 42, 43, 44, 45, 46, 47, 48, 49, 50, 51, 52, 53, 54, 55, 56, 93, 101, 102, 103, 104, 105] (by decide +kernel) (by decide +kernel)
set_option maxRecDepth 20000 in
theorem gX2_seek_X2_meetAll : GoodIn wsX2_seek (wsV RX2 26 RX2 yX2_meetAll wsX2_meetAll) := goodIn_app (goodIn_of _ (by decide +kernel)) ggX2_seek_X2_meetAll
set_option maxRecDepth 20000 in
theorem ggX2_seek_X3_keyAt : GoodIn wsX2_seek wsX3_keyAt := goodIn_r _ [60, 12, 28, 61, 62, 63, 101, 102, 103, 104, 105] (by decide +kernel) (by decide +kernel)
set_option maxRecDepth 20000 in
theorem gX2_seek_X3_keyAt : GoodIn wsX2_seek (wsV RX2 33 RX3 yX3_keyAt wsX3_keyAt) := goodIn_app (goodIn_of _ (by decide +kernel)) ggX2_seek_X3_keyAt
set_option maxRecDepth 20000 in
theorem ggX2_seek_X1_liveEnds : GoodIn wsX2_seek wsX1_liveEnds := goodIn_r _ [68, 69, 70, 71, 72, 73, 67, 74, 94, 95, 96, 97, 98, 99, 100] (by decide +kernel) (by decide +kernel)
set_option maxRecDepth 20000 in
theorem gX2_seek_X1_liveEnds : GoodIn wsX2_seek (wsV RX2 40 RX1 yX1_liveEnds wsX1_liveEnds) := goodIn_app (goodIn_of _ (by decide +kernel)) ggX2_seek_X1_liveEnds
set_option maxRecDepth 20000 in
theorem ggX2_seek_X2_behind : GoodIn wsX2_seek wsX2_behind := goodIn_r _ [78, 79, 5, 80, 81, 82, 83, 84, 85, 86, 87, 88, 89, 67, 90, 91, 92, 106, 107, 94, 95, 96, 97, 98, 99, 100] (by decide +kernel) (by decide +kernel)
set_option maxRecDepth 20000 in
theorem gX2_seek_X2_behind : GoodIn wsX2_seek (wsV RX2 44 RX2 yX2_behind wsX2_behind) := goodIn_app (goodIn_of _ (by decide +kernel)) ggX2_seek_X2_behind
theorem dX2_seek_0 : decode cX2_seek 0 = .ok (.aload_n 0, 1) := by decide +kernel
theorem dX2_seek_1 : decode cX2_seek 1 = .ok (.getfield 9, 3) := by decide +kernel
theorem dX2_seek_4 : decode cX2_seek 4 = .ok (.invokevirtual 15, 3) := by decide +kernel
theorem dX2_seek_7 : decode cX2_seek 7 = .ok (.aload_n 1, 1) := by decide +kernel
theorem dX2_seek_8 : decode cX2_seek 8 = .ok (.getfield 20, 3) := by decide +kernel
theorem dX2_seek_11 : decode cX2_seek 11 = .ok (.ifCond .ne 5, 3) := by decide +kernel
theorem dX2_seek_14 : decode cX2_seek 14 = .ok (.iconst 1, 1) := by decide +kernel
theorem dX2_seek_15 : decode cX2_seek 15 = .ok (.ireturn, 1) := by decide +kernel
theorem dX2_seek_16 : decode cX2_seek 16 = .ok (.aload_n 2, 1) := by decide +kernel
theorem dX2_seek_17 : decode cX2_seek 17 = .ok (.getfield 20, 3) := by decide +kernel
theorem dX2_seek_20 : decode cX2_seek 20 = .ok (.ifCond .ne 5, 3) := by decide +kernel
theorem dX2_seek_23 : decode cX2_seek 23 = .ok (.iconst 0, 1) := by decide +kernel
theorem dX2_seek_24 : decode cX2_seek 24 = .ok (.ireturn, 1) := by decide +kernel
theorem dX2_seek_25 : decode cX2_seek 25 = .ok (.aload_n 0, 1) := by decide +kernel
theorem dX2_seek_26 : decode cX2_seek 26 = .ok (.aload_n 1, 1) := by decide +kernel
theorem dX2_seek_27 : decode cX2_seek 27 = .ok (.getfield 20, 3) := by decide +kernel
theorem dX2_seek_30 : decode cX2_seek 30 = .ok (.aload_n 2, 1) := by decide +kernel
theorem dX2_seek_31 : decode cX2_seek 31 = .ok (.getfield 20, 3) := by decide +kernel
theorem dX2_seek_34 : decode cX2_seek 34 = .ok (.invokevirtual 26, 3) := by decide +kernel
theorem dX2_seek_37 : decode cX2_seek 37 = .ok (.iconst 0, 1) := by decide +kernel
theorem dX2_seek_38 : decode cX2_seek 38 = .ok (.istore 4, 2) := by decide +kernel
theorem dX2_seek_40 : decode cX2_seek 40 = .ok (.iload 4, 2) := by decide +kernel
theorem dX2_seek_42 : decode cX2_seek 42 = .ok (.aload_n 0, 1) := by decide +kernel
theorem dX2_seek_43 : decode cX2_seek 43 = .ok (.getfield 9, 3) := by decide +kernel
theorem dX2_seek_46 : decode cX2_seek 46 = .ok (.getfield 30, 3) := by decide +kernel
theorem dX2_seek_49 : decode cX2_seek 49 = .ok (.if_icmp .ge 116, 3) := by decide +kernel
theorem dX2_seek_52 : decode cX2_seek 52 = .ok (.iload 4, 2) := by decide +kernel
theorem dX2_seek_54 : decode cX2_seek 54 = .ok (.sipush 20000, 3) := by decide +kernel
theorem dX2_seek_57 : decode cX2_seek 57 = .ok (.if_icmp .ge 108, 3) := by decide +kernel
theorem dX2_seek_60 : decode cX2_seek 60 = .ok (.aload_n 0, 1) := by decide +kernel
theorem dX2_seek_61 : decode cX2_seek 61 = .ok (.getfield 9, 3) := by decide +kernel
theorem dX2_seek_64 : decode cX2_seek 64 = .ok (.iload 4, 2) := by decide +kernel
theorem dX2_seek_66 : decode cX2_seek 66 = .ok (.invokevirtual 33, 3) := by decide +kernel
theorem dX2_seek_69 : decode cX2_seek 69 = .ok (.istore 5, 2) := by decide +kernel
theorem dX2_seek_71 : decode cX2_seek 71 = .ok (.iconst 0, 1) := by decide +kernel
theorem dX2_seek_72 : decode cX2_seek 72 = .ok (.istore 6, 2) := by decide +kernel
theorem dX2_seek_74 : decode cX2_seek 74 = .ok (.iload 6, 2) := by decide +kernel
theorem dX2_seek_76 : decode cX2_seek 76 = .ok (.aload_n 1, 1) := by decide +kernel
theorem dX2_seek_77 : decode cX2_seek 77 = .ok (.getfield 37, 3) := by decide +kernel
theorem dX2_seek_80 : decode cX2_seek 80 = .ok (.if_icmp .ge 79, 3) := by decide +kernel
theorem dX2_seek_83 : decode cX2_seek 83 = .ok (.aload_n 1, 1) := by decide +kernel
theorem dX2_seek_84 : decode cX2_seek 84 = .ok (.iload 5, 2) := by decide +kernel
theorem dX2_seek_86 : decode cX2_seek 86 = .ok (.bipush 22, 2) := by decide +kernel
theorem dX2_seek_88 : decode cX2_seek 88 = .ok (.ishr, 1) := by decide +kernel
theorem dX2_seek_89 : decode cX2_seek 89 = .ok (.bipush 15, 2) := by decide +kernel
theorem dX2_seek_91 : decode cX2_seek 91 = .ok (.iand, 1) := by decide +kernel
theorem dX2_seek_92 : decode cX2_seek 92 = .ok (.iload 6, 2) := by decide +kernel
theorem dX2_seek_94 : decode cX2_seek 94 = .ok (.invokevirtual 40, 3) := by decide +kernel
theorem dX2_seek_97 : decode cX2_seek 97 = .ok (.istore 7, 2) := by decide +kernel
theorem dX2_seek_99 : decode cX2_seek 99 = .ok (.iload 7, 2) := by decide +kernel
theorem dX2_seek_101 : decode cX2_seek 101 = .ok (.ifCond .ne 6, 3) := by decide +kernel
theorem dX2_seek_104 : decode cX2_seek 104 = .ok (.goto 49, 3) := by decide +kernel
theorem dX2_seek_107 : decode cX2_seek 107 = .ok (.aload_n 0, 1) := by decide +kernel
theorem dX2_seek_108 : decode cX2_seek 108 = .ok (.iload 5, 2) := by decide +kernel
theorem dX2_seek_110 : decode cX2_seek 110 = .ok (.iload 6, 2) := by decide +kernel
theorem dX2_seek_112 : decode cX2_seek 112 = .ok (.aload_n 2, 1) := by decide +kernel
theorem dX2_seek_113 : decode cX2_seek 113 = .ok (.aload_n 3, 1) := by decide +kernel
theorem dX2_seek_114 : decode cX2_seek 114 = .ok (.invokevirtual 44, 3) := by decide +kernel
theorem dX2_seek_117 : decode cX2_seek 117 = .ok (.istore 8, 2) := by decide +kernel
theorem dX2_seek_119 : decode cX2_seek 119 = .ok (.iload 8, 2) := by decide +kernel
theorem dX2_seek_121 : decode cX2_seek 121 = .ok (.ldc 48, 2) := by decide +kernel
theorem dX2_seek_123 : decode cX2_seek 123 = .ok (.iand, 1) := by decide +kernel
theorem dX2_seek_124 : decode cX2_seek 124 = .ok (.ifCond .ne 5, 3) := by decide +kernel
theorem dX2_seek_127 : decode cX2_seek 127 = .ok (.iconst 0, 1) := by decide +kernel
theorem dX2_seek_128 : decode cX2_seek 128 = .ok (.ireturn, 1) := by decide +kernel
theorem dX2_seek_129 : decode cX2_seek 129 = .ok (.aload_n 0, 1) := by decide +kernel
theorem dX2_seek_130 : decode cX2_seek 130 = .ok (.iload 7, 2) := by decide +kernel
theorem dX2_seek_132 : decode cX2_seek 132 = .ok (.iload 8, 2) := by decide +kernel
theorem dX2_seek_134 : decode cX2_seek 134 = .ok (.invokevirtual 26, 3) := by decide +kernel
theorem dX2_seek_137 : decode cX2_seek 137 = .ok (.aload_n 0, 1) := by decide +kernel
theorem dX2_seek_138 : decode cX2_seek 138 = .ok (.getfield 9, 3) := by decide +kernel
theorem dX2_seek_141 : decode cX2_seek 141 = .ok (.getfield 30, 3) := by decide +kernel
theorem dX2_seek_144 : decode cX2_seek 144 = .ok (.sipush 20000, 3) := by decide +kernel
theorem dX2_seek_147 : decode cX2_seek 147 = .ok (.if_icmp .le 6, 3) := by decide +kernel
theorem dX2_seek_150 : decode cX2_seek 150 = .ok (.bipush (-5), 2) := by decide +kernel
theorem dX2_seek_152 : decode cX2_seek 152 = .ok (.ireturn, 1) := by decide +kernel
theorem dX2_seek_153 : decode cX2_seek 153 = .ok (.iinc 6 1, 3) := by decide +kernel
theorem dX2_seek_156 : decode cX2_seek 156 = .ok (.goto (-82), 3) := by decide +kernel
theorem dX2_seek_159 : decode cX2_seek 159 = .ok (.iinc 4 1, 3) := by decide +kernel
theorem dX2_seek_162 : decode cX2_seek 162 = .ok (.goto (-122), 3) := by decide +kernel
theorem dX2_seek_165 : decode cX2_seek 165 = .ok (.iconst 1, 1) := by decide +kernel
theorem dX2_seek_166 : decode cX2_seek 166 = .ok (.ireturn, 1) := by decide +kernel
set_option maxRecDepth 20000 in
theorem ggX2_meetAll_X3_placeOf : GoodIn wsX2_meetAll wsX3_placeOf := goodIn_r _ [6, 7, 8, 9, 10, 11, 12, 13, 14, 5, 15, 16, 17, 18, 19, 20, 21, 22, 23, 24, 25, 26, 27, 28, 29, 30, 31, 32, 33, 34, 35, 36, 37, 38, 39, 41, 42, 43, 44, 45] (by decide +kernel) (by decide +kernel)
set_option maxRecDepth 20000 in
theorem gX2_meetAll_X3_placeOf : GoodIn wsX2_meetAll (wsV RX2 49 RX3 yX3_placeOf wsX3_placeOf) := goodIn_app (goodIn_of _ (by decide +kernel)) ggX2_meetAll_X3_placeOf
theorem dX2_meetAll_0 : decode cX2_meetAll 0 = .ok (.iconst 0, 1) := by decide +kernel
theorem dX2_meetAll_1 : decode cX2_meetAll 1 = .ok (.istore_n 3, 1) := by decide +kernel
theorem dX2_meetAll_2 : decode cX2_meetAll 2 = .ok (.iload_n 3, 1) := by decide +kernel
theorem dX2_meetAll_3 : decode cX2_meetAll 3 = .ok (.bipush 16, 2) := by decide +kernel
theorem dX2_meetAll_5 : decode cX2_meetAll 5 = .ok (.if_icmp .ge 31, 3) := by decide +kernel
theorem dX2_meetAll_8 : decode cX2_meetAll 8 = .ok (.iload_n 1, 1) := by decide +kernel
theorem dX2_meetAll_9 : decode cX2_meetAll 9 = .ok (.iload_n 3, 1) := by decide +kernel
theorem dX2_meetAll_10 : decode cX2_meetAll 10 = .ok (.ishr, 1) := by decide +kernel
theorem dX2_meetAll_11 : decode cX2_meetAll 11 = .ok (.iconst 1, 1) := by decide +kernel
theorem dX2_meetAll_12 : decode cX2_meetAll 12 = .ok (.iand, 1) := by decide +kernel
theorem dX2_meetAll_13 : decode cX2_meetAll 13 = .ok (.ifCond .eq 17, 3) := by decide +kernel
theorem dX2_meetAll_16 : decode cX2_meetAll 16 = .ok (.aload_n 0, 1) := by decide +kernel
theorem dX2_meetAll_17 : decode cX2_meetAll 17 = .ok (.getfield 9, 3) := by decide +kernel
theorem dX2_meetAll_20 : decode cX2_meetAll 20 = .ok (.iload_n 3, 1) := by decide +kernel
theorem dX2_meetAll_21 : decode cX2_meetAll 21 = .ok (.bipush 22, 2) := by decide +kernel
theorem dX2_meetAll_23 : decode cX2_meetAll 23 = .ok (.ishl, 1) := by decide +kernel
theorem dX2_meetAll_24 : decode cX2_meetAll 24 = .ok (.iload_n 2, 1) := by decide +kernel
theorem dX2_meetAll_25 : decode cX2_meetAll 25 = .ok (.ior, 1) := by decide +kernel
theorem dX2_meetAll_26 : decode cX2_meetAll 26 = .ok (.invokevirtual 49, 3) := by decide +kernel
theorem dX2_meetAll_29 : decode cX2_meetAll 29 = .ok (.pop, 1) := by decide +kernel
theorem dX2_meetAll_30 : decode cX2_meetAll 30 = .ok (.iinc 3 1, 3) := by decide +kernel
theorem dX2_meetAll_33 : decode cX2_meetAll 33 = .ok (.goto (-31), 3) := by decide +kernel
theorem dX2_meetAll_36 : decode cX2_meetAll 36 = .ok (.return_, 1) := by decide +kernel
set_option maxRecDepth 20000 in
theorem ggX2_behind_X4_rows : GoodIn wsX2_behind wsX4_rows := goodIn_r _ [8, 9, 17, 18] (by decide +kernel) (by decide +kernel)
set_option maxRecDepth 20000 in
theorem gX2_behind_X4_rows : GoodIn wsX2_behind (wsV RX2 57 RX4 yX4_rows wsX4_rows) := goodIn_app (goodIn_of _ (by decide +kernel)) ggX2_behind_X4_rows
set_option maxRecDepth 20000 in
theorem ggX2_behind_X1_step : GoodIn wsX2_behind wsX1_step := goodIn_r _ [14, 15, 16, 19, 20, 21, 22, 23, 24, 25] (by decide +kernel) (by decide +kernel)
set_option maxRecDepth 20000 in
theorem gX2_behind_X1_step : GoodIn wsX2_behind (wsV RX2 65 RX1 yX1_step wsX1_step) := goodIn_app (goodIn_of _ (by decide +kernel)) ggX2_behind_X1_step
theorem dX2_behind_0 : decode cX2_behind 0 = .ok (.iload_n 1, 1) := by decide +kernel
theorem dX2_behind_1 : decode cX2_behind 1 = .ok (.bipush 20, 2) := by decide +kernel
theorem dX2_behind_3 : decode cX2_behind 3 = .ok (.ishr, 1) := by decide +kernel
theorem dX2_behind_4 : decode cX2_behind 4 = .ok (.iconst 3, 1) := by decide +kernel
theorem dX2_behind_5 : decode cX2_behind 5 = .ok (.iand, 1) := by decide +kernel
theorem dX2_behind_6 : decode cX2_behind 6 = .ok (.istore 5, 2) := by decide +kernel
theorem dX2_behind_8 : decode cX2_behind 8 = .ok (.iload_n 1, 1) := by decide +kernel
theorem dX2_behind_9 : decode cX2_behind 9 = .ok (.bipush 16, 2) := by decide +kernel
theorem dX2_behind_11 : decode cX2_behind 11 = .ok (.ishr, 1) := by decide +kernel
theorem dX2_behind_12 : decode cX2_behind 12 = .ok (.bipush 15, 2) := by decide +kernel
theorem dX2_behind_14 : decode cX2_behind 14 = .ok (.iand, 1) := by decide +kernel
theorem dX2_behind_15 : decode cX2_behind 15 = .ok (.iconst 2, 1) := by decide +kernel
theorem dX2_behind_16 : decode cX2_behind 16 = .ok (.ishl, 1) := by decide +kernel
theorem dX2_behind_17 : decode cX2_behind 17 = .ok (.iload_n 2, 1) := by decide +kernel
theorem dX2_behind_18 : decode cX2_behind 18 = .ok (.ior, 1) := by decide +kernel
theorem dX2_behind_19 : decode cX2_behind 19 = .ok (.istore 6, 2) := by decide +kernel
theorem dX2_behind_21 : decode cX2_behind 21 = .ok (.iload 5, 2) := by decide +kernel
theorem dX2_behind_23 : decode cX2_behind 23 = .ok (.aload 4, 2) := by decide +kernel
theorem dX2_behind_25 : decode cX2_behind 25 = .ok (.getfield 52, 3) := by decide +kernel
theorem dX2_behind_28 : decode cX2_behind 28 = .ok (.iconst 1, 1) := by decide +kernel
theorem dX2_behind_29 : decode cX2_behind 29 = .ok (.isub, 1) := by decide +kernel
theorem dX2_behind_30 : decode cX2_behind 30 = .ok (.if_icmp .ge 25, 3) := by decide +kernel
theorem dX2_behind_33 : decode cX2_behind 33 = .ok (.iload 5, 2) := by decide +kernel
theorem dX2_behind_35 : decode cX2_behind 35 = .ok (.iconst 1, 1) := by decide +kernel
theorem dX2_behind_36 : decode cX2_behind 36 = .ok (.iadd, 1) := by decide +kernel
theorem dX2_behind_37 : decode cX2_behind 37 = .ok (.bipush 20, 2) := by decide +kernel
theorem dX2_behind_39 : decode cX2_behind 39 = .ok (.ishl, 1) := by decide +kernel
theorem dX2_behind_40 : decode cX2_behind 40 = .ok (.iload 6, 2) := by decide +kernel
theorem dX2_behind_42 : decode cX2_behind 42 = .ok (.bipush 15, 2) := by decide +kernel
theorem dX2_behind_44 : decode cX2_behind 44 = .ok (.iand, 1) := by decide +kernel
theorem dX2_behind_45 : decode cX2_behind 45 = .ok (.bipush 16, 2) := by decide +kernel
theorem dX2_behind_47 : decode cX2_behind 47 = .ok (.ishl, 1) := by decide +kernel
theorem dX2_behind_48 : decode cX2_behind 48 = .ok (.ior, 1) := by decide +kernel
theorem dX2_behind_49 : decode cX2_behind 49 = .ok (.iload_n 1, 1) := by decide +kernel
theorem dX2_behind_50 : decode cX2_behind 50 = .ok (.ldc 48, 2) := by decide +kernel
theorem dX2_behind_52 : decode cX2_behind 52 = .ok (.iand, 1) := by decide +kernel
theorem dX2_behind_53 : decode cX2_behind 53 = .ok (.ior, 1) := by decide +kernel
theorem dX2_behind_54 : decode cX2_behind 54 = .ok (.ireturn, 1) := by decide +kernel
theorem dX2_behind_55 : decode cX2_behind 55 = .ok (.iload 6, 2) := by decide +kernel
theorem dX2_behind_57 : decode cX2_behind 57 = .ok (.aload 4, 2) := by decide +kernel
theorem dX2_behind_59 : decode cX2_behind 59 = .ok (.invokevirtual 57, 3) := by decide +kernel
theorem dX2_behind_62 : decode cX2_behind 62 = .ok (.if_icmp .ge 14, 3) := by decide +kernel
theorem dX2_behind_65 : decode cX2_behind 65 = .ok (.aload 4, 2) := by decide +kernel
theorem dX2_behind_67 : decode cX2_behind 67 = .ok (.getfield 61, 3) := by decide +kernel
theorem dX2_behind_70 : decode cX2_behind 70 = .ok (.iload 6, 2) := by decide +kernel
theorem dX2_behind_72 : decode cX2_behind 72 = .ok (.iaload, 1) := by decide +kernel
theorem dX2_behind_73 : decode cX2_behind 73 = .ok (.goto 4, 3) := by decide +kernel
theorem dX2_behind_76 : decode cX2_behind 76 = .ok (.iconst 0, 1) := by decide +kernel
theorem dX2_behind_77 : decode cX2_behind 77 = .ok (.istore 7, 2) := by decide +kernel
theorem dX2_behind_79 : decode cX2_behind 79 = .ok (.iload 6, 2) := by decide +kernel
theorem dX2_behind_81 : decode cX2_behind 81 = .ok (.aload 4, 2) := by decide +kernel
theorem dX2_behind_83 : decode cX2_behind 83 = .ok (.invokevirtual 57, 3) := by decide +kernel
theorem dX2_behind_86 : decode cX2_behind 86 = .ok (.iconst 2, 1) := by decide +kernel
theorem dX2_behind_87 : decode cX2_behind 87 = .ok (.ishr, 1) := by decide +kernel
theorem dX2_behind_88 : decode cX2_behind 88 = .ok (.iconst 1, 1) := by decide +kernel
theorem dX2_behind_89 : decode cX2_behind 89 = .ok (.isub, 1) := by decide +kernel
theorem dX2_behind_90 : decode cX2_behind 90 = .ok (.iand, 1) := by decide +kernel
theorem dX2_behind_91 : decode cX2_behind 91 = .ok (.istore 8, 2) := by decide +kernel
theorem dX2_behind_93 : decode cX2_behind 93 = .ok (.iload 5, 2) := by decide +kernel
theorem dX2_behind_95 : decode cX2_behind 95 = .ok (.bipush 20, 2) := by decide +kernel
theorem dX2_behind_97 : decode cX2_behind 97 = .ok (.ishl, 1) := by decide +kernel
theorem dX2_behind_98 : decode cX2_behind 98 = .ok (.iload 8, 2) := by decide +kernel
theorem dX2_behind_100 : decode cX2_behind 100 = .ok (.bipush 16, 2) := by decide +kernel
theorem dX2_behind_102 : decode cX2_behind 102 = .ok (.ishl, 1) := by decide +kernel
theorem dX2_behind_103 : decode cX2_behind 103 = .ok (.ior, 1) := by decide +kernel
theorem dX2_behind_104 : decode cX2_behind 104 = .ok (.aload_n 3, 1) := by decide +kernel
theorem dX2_behind_105 : decode cX2_behind 105 = .ok (.iload_n 1, 1) := by decide +kernel
theorem dX2_behind_106 : decode cX2_behind 106 = .ok (.ldc 48, 2) := by decide +kernel
theorem dX2_behind_108 : decode cX2_behind 108 = .ok (.iand, 1) := by decide +kernel
theorem dX2_behind_109 : decode cX2_behind 109 = .ok (.iload 7, 2) := by decide +kernel
theorem dX2_behind_111 : decode cX2_behind 111 = .ok (.invokevirtual 65, 3) := by decide +kernel
theorem dX2_behind_114 : decode cX2_behind 114 = .ok (.ior, 1) := by decide +kernel
theorem dX2_behind_115 : decode cX2_behind 115 = .ok (.ireturn, 1) := by decide +kernel
theorem dX3_init_0 : decode cX3_init 0 = .ok (.aload_n 0, 1) := by decide +kernel
theorem dX3_init_1 : decode cX3_init 1 = .ok (.invokespecial 1, 3) := by decide +kernel
theorem dX3_init_4 : decode cX3_init 4 = .ok (.aload_n 0, 1) := by decide +kernel
theorem dX3_init_5 : decode cX3_init 5 = .ok (.bipush 64, 2) := by decide +kernel
theorem dX3_init_7 : decode cX3_init 7 = .ok (.newarray .int, 2) := by decide +kernel
theorem dX3_init_9 : decode cX3_init 9 = .ok (.putfield 9, 3) := by decide +kernel
theorem dX3_init_12 : decode cX3_init 12 = .ok (.aload_n 0, 1) := by decide +kernel
theorem dX3_init_13 : decode cX3_init 13 = .ok (.bipush 64, 2) := by decide +kernel
theorem dX3_init_15 : decode cX3_init 15 = .ok (.newarray .int, 2) := by decide +kernel
theorem dX3_init_17 : decode cX3_init 17 = .ok (.putfield 13, 3) := by decide +kernel
theorem dX3_init_20 : decode cX3_init 20 = .ok (.aload_n 0, 1) := by decide +kernel
theorem dX3_init_21 : decode cX3_init 21 = .ok (.sipush 128, 3) := by decide +kernel
theorem dX3_init_24 : decode cX3_init 24 = .ok (.newarray .int, 2) := by decide +kernel
theorem dX3_init_26 : decode cX3_init 26 = .ok (.putfield 16, 3) := by decide +kernel
theorem dX3_init_29 : decode cX3_init 29 = .ok (.aload_n 0, 1) := by decide +kernel
theorem dX3_init_30 : decode cX3_init 30 = .ok (.iconst 1, 1) := by decide +kernel
theorem dX3_init_31 : decode cX3_init 31 = .ok (.putfield 19, 3) := by decide +kernel
theorem dX3_init_34 : decode cX3_init 34 = .ok (.return_, 1) := by decide +kernel
set_option maxRecDepth 20000 in
theorem ggX3_clear_J7_fill_53178 : GoodIn wsX3_clear wsJ7_fill_53178 := goodIn_r _ [8] (by decide +kernel) (by decide +kernel)
set_option maxRecDepth 20000 in
theorem gX3_clear_J7_fill_53178 : GoodIn wsX3_clear (va_wsS RX3 27 yJ7_fill_53178 wsJ7_fill_53178) := goodIn_app (goodIn_of _ (by decide +kernel)) ggX3_clear_J7_fill_53178
theorem dX3_clear_0 : decode cX3_clear 0 = .ok (.aload_n 0, 1) := by decide +kernel
theorem dX3_clear_1 : decode cX3_clear 1 = .ok (.dup, 1) := by decide +kernel
theorem dX3_clear_2 : decode cX3_clear 2 = .ok (.getfield 19, 3) := by decide +kernel
theorem dX3_clear_5 : decode cX3_clear 5 = .ok (.aload_n 0, 1) := by decide +kernel
theorem dX3_clear_6 : decode cX3_clear 6 = .ok (.getfield 23, 3) := by decide +kernel
theorem dX3_clear_9 : decode cX3_clear 9 = .ok (.iadd, 1) := by decide +kernel
theorem dX3_clear_10 : decode cX3_clear 10 = .ok (.putfield 19, 3) := by decide +kernel
theorem dX3_clear_13 : decode cX3_clear 13 = .ok (.aload_n 0, 1) := by decide +kernel
theorem dX3_clear_14 : decode cX3_clear 14 = .ok (.iconst 0, 1) := by decide +kernel
theorem dX3_clear_15 : decode cX3_clear 15 = .ok (.putfield 23, 3) := by decide +kernel
theorem dX3_clear_18 : decode cX3_clear 18 = .ok (.aload_n 0, 1) := by decide +kernel
theorem dX3_clear_19 : decode cX3_clear 19 = .ok (.getfield 19, 3) := by decide +kernel
theorem dX3_clear_22 : decode cX3_clear 22 = .ok (.ldc 26, 2) := by decide +kernel
theorem dX3_clear_24 : decode cX3_clear 24 = .ok (.if_icmp .le 16, 3) := by decide +kernel
theorem dX3_clear_27 : decode cX3_clear 27 = .ok (.aload_n 0, 1) := by decide +kernel
theorem dX3_clear_28 : decode cX3_clear 28 = .ok (.getfield 16, 3) := by decide +kernel
theorem dX3_clear_31 : decode cX3_clear 31 = .ok (.iconst 0, 1) := by decide +kernel
theorem dX3_clear_32 : decode cX3_clear 32 = .ok (.invokestatic 27, 3) := by decide +kernel
theorem dX3_clear_35 : decode cX3_clear 35 = .ok (.aload_n 0, 1) := by decide +kernel
theorem dX3_clear_36 : decode cX3_clear 36 = .ok (.iconst 1, 1) := by decide +kernel
theorem dX3_clear_37 : decode cX3_clear 37 = .ok (.putfield 19, 3) := by decide +kernel
theorem dX3_clear_40 : decode cX3_clear 40 = .ok (.return_, 1) := by decide +kernel
set_option maxRecDepth 20000 in
theorem ggX3_keyAt_X9_within : GoodIn wsX3_keyAt wsX9_within := goodIn_r _ [5] (by decide +kernel) (by decide +kernel)
set_option maxRecDepth 20000 in
theorem gX3_keyAt_X9_within_n33 : GoodIn wsX3_keyAt (wsX9_within) := ggX3_keyAt_X9_within
theorem dX3_keyAt_0 : decode cX3_keyAt 0 = .ok (.iload_n 1, 1) := by decide +kernel
theorem dX3_keyAt_1 : decode cX3_keyAt 1 = .ok (.iconst 0, 1) := by decide +kernel
theorem dX3_keyAt_2 : decode cX3_keyAt 2 = .ok (.aload_n 0, 1) := by decide +kernel
theorem dX3_keyAt_3 : decode cX3_keyAt 3 = .ok (.getfield 23, 3) := by decide +kernel
theorem dX3_keyAt_6 : decode cX3_keyAt 6 = .ok (.iconst 1, 1) := by decide +kernel
theorem dX3_keyAt_7 : decode cX3_keyAt 7 = .ok (.isub, 1) := by decide +kernel
theorem dX3_keyAt_8 : decode cX3_keyAt 8 = .ok (.invokestatic 33, 3) := by decide +kernel
theorem dX3_keyAt_11 : decode cX3_keyAt 11 = .ok (.ifCond .eq 12, 3) := by decide +kernel
theorem dX3_keyAt_14 : decode cX3_keyAt 14 = .ok (.aload_n 0, 1) := by decide +kernel
theorem dX3_keyAt_15 : decode cX3_keyAt 15 = .ok (.getfield 9, 3) := by decide +kernel
theorem dX3_keyAt_18 : decode cX3_keyAt 18 = .ok (.iload_n 1, 1) := by decide +kernel
theorem dX3_keyAt_19 : decode cX3_keyAt 19 = .ok (.iaload, 1) := by decide +kernel
theorem dX3_keyAt_20 : decode cX3_keyAt 20 = .ok (.goto 4, 3) := by decide +kernel
theorem dX3_keyAt_23 : decode cX3_keyAt 23 = .ok (.iconst 0, 1) := by decide +kernel
theorem dX3_keyAt_24 : decode cX3_keyAt 24 = .ok (.ireturn, 1) := by decide +kernel
set_option maxRecDepth 20000 in
theorem ggX3_noteAt_X9_within : GoodIn wsX3_noteAt wsX9_within := goodIn_r _ [5] (by decide +kernel) (by decide +kernel)
set_option maxRecDepth 20000 in
theorem gX3_noteAt_X9_within_n33 : GoodIn wsX3_noteAt (wsX9_within) := ggX3_noteAt_X9_within
theorem dX3_noteAt_0 : decode cX3_noteAt 0 = .ok (.iload_n 1, 1) := by decide +kernel
theorem dX3_noteAt_1 : decode cX3_noteAt 1 = .ok (.iconst 0, 1) := by decide +kernel
theorem dX3_noteAt_2 : decode cX3_noteAt 2 = .ok (.aload_n 0, 1) := by decide +kernel
theorem dX3_noteAt_3 : decode cX3_noteAt 3 = .ok (.getfield 23, 3) := by decide +kernel
theorem dX3_noteAt_6 : decode cX3_noteAt 6 = .ok (.iconst 1, 1) := by decide +kernel
theorem dX3_noteAt_7 : decode cX3_noteAt 7 = .ok (.isub, 1) := by decide +kernel
theorem dX3_noteAt_8 : decode cX3_noteAt 8 = .ok (.invokestatic 33, 3) := by decide +kernel
theorem dX3_noteAt_11 : decode cX3_noteAt 11 = .ok (.ifCond .eq 12, 3) := by decide +kernel
theorem dX3_noteAt_14 : decode cX3_noteAt 14 = .ok (.aload_n 0, 1) := by decide +kernel
theorem dX3_noteAt_15 : decode cX3_noteAt 15 = .ok (.getfield 13, 3) := by decide +kernel
theorem dX3_noteAt_18 : decode cX3_noteAt 18 = .ok (.iload_n 1, 1) := by decide +kernel
theorem dX3_noteAt_19 : decode cX3_noteAt 19 = .ok (.iaload, 1) := by decide +kernel
theorem dX3_noteAt_20 : decode cX3_noteAt 20 = .ok (.goto 4, 3) := by decide +kernel
theorem dX3_noteAt_23 : decode cX3_noteAt 23 = .ok (.iconst 0, 1) := by decide +kernel
theorem dX3_noteAt_24 : decode cX3_noteAt 24 = .ok (.ireturn, 1) := by decide +kernel
set_option maxRecDepth 20000 in
theorem ggX3_putNote_X9_within : GoodIn wsX3_putNote wsX9_within := goodIn_r _ [5] (by decide +kernel) (by decide +kernel)
set_option maxRecDepth 20000 in
theorem gX3_putNote_X9_within_n33 : GoodIn wsX3_putNote (wsX9_within) := ggX3_putNote_X9_within
theorem dX3_putNote_0 : decode cX3_putNote 0 = .ok (.iload_n 1, 1) := by decide +kernel
theorem dX3_putNote_1 : decode cX3_putNote 1 = .ok (.iconst 0, 1) := by decide +kernel
theorem dX3_putNote_2 : decode cX3_putNote 2 = .ok (.aload_n 0, 1) := by decide +kernel
theorem dX3_putNote_3 : decode cX3_putNote 3 = .ok (.getfield 23, 3) := by decide +kernel
theorem dX3_putNote_6 : decode cX3_putNote 6 = .ok (.iconst 1, 1) := by decide +kernel
theorem dX3_putNote_7 : decode cX3_putNote 7 = .ok (.isub, 1) := by decide +kernel
theorem dX3_putNote_8 : decode cX3_putNote 8 = .ok (.invokestatic 33, 3) := by decide +kernel
theorem dX3_putNote_11 : decode cX3_putNote 11 = .ok (.ifCond .eq 10, 3) := by decide +kernel
theorem dX3_putNote_14 : decode cX3_putNote 14 = .ok (.aload_n 0, 1) := by decide +kernel
theorem dX3_putNote_15 : decode cX3_putNote 15 = .ok (.getfield 13, 3) := by decide +kernel
theorem dX3_putNote_18 : decode cX3_putNote 18 = .ok (.iload_n 1, 1) := by decide +kernel
theorem dX3_putNote_19 : decode cX3_putNote 19 = .ok (.iload_n 2, 1) := by decide +kernel
theorem dX3_putNote_20 : decode cX3_putNote 20 = .ok (.iastore, 1) := by decide +kernel
theorem dX3_putNote_21 : decode cX3_putNote 21 = .ok (.return_, 1) := by decide +kernel
theorem dX3_room_0 : decode cX3_room 0 = .ok (.aload_n 0, 1) := by decide +kernel
theorem dX3_room_1 : decode cX3_room 1 = .ok (.getfield 9, 3) := by decide +kernel
theorem dX3_room_4 : decode cX3_room 4 = .ok (.arraylength, 1) := by decide +kernel
theorem dX3_room_5 : decode cX3_room 5 = .ok (.ireturn, 1) := by decide +kernel
set_option maxRecDepth 20000 in
theorem ggX3_placeOf_X3_grow : GoodIn wsX3_placeOf wsX3_grow := goodIn_r _ [10, 2, 5, 11, 3, 4, 1, 12, 13, 14, 15, 16, 17, 18, 19, 20, 21, 22, 23, 24, 25, 26, 27, 28, 29, 30, 31, 32, 9, 33, 34, 35, 36, 37, 38, 39] (by decide +kernel) (by decide +kernel)
set_option maxRecDepth 20000 in
theorem gX3_placeOf_X3_grow : GoodIn wsX3_placeOf (wsV RX3 39 RX3 yX3_grow wsX3_grow) := goodIn_app (goodIn_of _ (by decide +kernel)) ggX3_placeOf_X3_grow
set_option maxRecDepth 20000 in
theorem ggX3_placeOf_X3_slotOf : GoodIn wsX3_placeOf wsX3_slotOf := goodIn_r _ [33, 3, 34, 4, 1, 2, 35, 36, 37, 38, 39] (by decide +kernel) (by decide +kernel)
set_option maxRecDepth 20000 in
theorem gX3_placeOf_X3_slotOf : GoodIn wsX3_placeOf (wsV RX3 42 RX3 yX3_slotOf wsX3_slotOf) := goodIn_app (goodIn_of _ (by decide +kernel)) ggX3_placeOf_X3_slotOf
theorem dX3_placeOf_0 : decode cX3_placeOf 0 = .ok (.aload_n 0, 1) := by decide +kernel
theorem dX3_placeOf_1 : decode cX3_placeOf 1 = .ok (.getfield 23, 3) := by decide +kernel
theorem dX3_placeOf_4 : decode cX3_placeOf 4 = .ok (.aload_n 0, 1) := by decide +kernel
theorem dX3_placeOf_5 : decode cX3_placeOf 5 = .ok (.getfield 9, 3) := by decide +kernel
theorem dX3_placeOf_8 : decode cX3_placeOf 8 = .ok (.arraylength, 1) := by decide +kernel
theorem dX3_placeOf_9 : decode cX3_placeOf 9 = .ok (.if_icmp .lt 7, 3) := by decide +kernel
theorem dX3_placeOf_12 : decode cX3_placeOf 12 = .ok (.aload_n 0, 1) := by decide +kernel
theorem dX3_placeOf_13 : decode cX3_placeOf 13 = .ok (.invokevirtual 39, 3) := by decide +kernel
theorem dX3_placeOf_16 : decode cX3_placeOf 16 = .ok (.aload_n 0, 1) := by decide +kernel
theorem dX3_placeOf_17 : decode cX3_placeOf 17 = .ok (.iload_n 1, 1) := by decide +kernel
theorem dX3_placeOf_18 : decode cX3_placeOf 18 = .ok (.invokevirtual 42, 3) := by decide +kernel
theorem dX3_placeOf_21 : decode cX3_placeOf 21 = .ok (.istore_n 2, 1) := by decide +kernel
theorem dX3_placeOf_22 : decode cX3_placeOf 22 = .ok (.aload_n 0, 1) := by decide +kernel
theorem dX3_placeOf_23 : decode cX3_placeOf 23 = .ok (.getfield 16, 3) := by decide +kernel
theorem dX3_placeOf_26 : decode cX3_placeOf 26 = .ok (.iload_n 2, 1) := by decide +kernel
theorem dX3_placeOf_27 : decode cX3_placeOf 27 = .ok (.iaload, 1) := by decide +kernel
theorem dX3_placeOf_28 : decode cX3_placeOf 28 = .ok (.aload_n 0, 1) := by decide +kernel
theorem dX3_placeOf_29 : decode cX3_placeOf 29 = .ok (.getfield 19, 3) := by decide +kernel
theorem dX3_placeOf_32 : decode cX3_placeOf 32 = .ok (.isub, 1) := by decide +kernel
theorem dX3_placeOf_33 : decode cX3_placeOf 33 = .ok (.istore_n 3, 1) := by decide +kernel
theorem dX3_placeOf_34 : decode cX3_placeOf 34 = .ok (.iload_n 3, 1) := by decide +kernel
theorem dX3_placeOf_35 : decode cX3_placeOf 35 = .ok (.ifCond .lt 13, 3) := by decide +kernel
theorem dX3_placeOf_38 : decode cX3_placeOf 38 = .ok (.iload_n 3, 1) := by decide +kernel
theorem dX3_placeOf_39 : decode cX3_placeOf 39 = .ok (.aload_n 0, 1) := by decide +kernel
theorem dX3_placeOf_40 : decode cX3_placeOf 40 = .ok (.getfield 23, 3) := by decide +kernel
theorem dX3_placeOf_43 : decode cX3_placeOf 43 = .ok (.if_icmp .ge 5, 3) := by decide +kernel
theorem dX3_placeOf_46 : decode cX3_placeOf 46 = .ok (.iload_n 3, 1) := by decide +kernel
theorem dX3_placeOf_47 : decode cX3_placeOf 47 = .ok (.ireturn, 1) := by decide +kernel
theorem dX3_placeOf_48 : decode cX3_placeOf 48 = .ok (.aload_n 0, 1) := by decide +kernel
theorem dX3_placeOf_49 : decode cX3_placeOf 49 = .ok (.getfield 16, 3) := by decide +kernel
theorem dX3_placeOf_52 : decode cX3_placeOf 52 = .ok (.iload_n 2, 1) := by decide +kernel
theorem dX3_placeOf_53 : decode cX3_placeOf 53 = .ok (.aload_n 0, 1) := by decide +kernel
theorem dX3_placeOf_54 : decode cX3_placeOf 54 = .ok (.getfield 19, 3) := by decide +kernel
theorem dX3_placeOf_57 : decode cX3_placeOf 57 = .ok (.aload_n 0, 1) := by decide +kernel
theorem dX3_placeOf_58 : decode cX3_placeOf 58 = .ok (.getfield 23, 3) := by decide +kernel
theorem dX3_placeOf_61 : decode cX3_placeOf 61 = .ok (.iadd, 1) := by decide +kernel
theorem dX3_placeOf_62 : decode cX3_placeOf 62 = .ok (.iastore, 1) := by decide +kernel
theorem dX3_placeOf_63 : decode cX3_placeOf 63 = .ok (.aload_n 0, 1) := by decide +kernel
theorem dX3_placeOf_64 : decode cX3_placeOf 64 = .ok (.getfield 9, 3) := by decide +kernel
theorem dX3_placeOf_67 : decode cX3_placeOf 67 = .ok (.aload_n 0, 1) := by decide +kernel
theorem dX3_placeOf_68 : decode cX3_placeOf 68 = .ok (.getfield 23, 3) := by decide +kernel
theorem dX3_placeOf_71 : decode cX3_placeOf 71 = .ok (.iload_n 1, 1) := by decide +kernel
theorem dX3_placeOf_72 : decode cX3_placeOf 72 = .ok (.iastore, 1) := by decide +kernel
theorem dX3_placeOf_73 : decode cX3_placeOf 73 = .ok (.aload_n 0, 1) := by decide +kernel
theorem dX3_placeOf_74 : decode cX3_placeOf 74 = .ok (.getfield 13, 3) := by decide +kernel
theorem dX3_placeOf_77 : decode cX3_placeOf 77 = .ok (.aload_n 0, 1) := by decide +kernel
theorem dX3_placeOf_78 : decode cX3_placeOf 78 = .ok (.getfield 23, 3) := by decide +kernel
theorem dX3_placeOf_81 : decode cX3_placeOf 81 = .ok (.iconst 0, 1) := by decide +kernel
theorem dX3_placeOf_82 : decode cX3_placeOf 82 = .ok (.iastore, 1) := by decide +kernel
theorem dX3_placeOf_83 : decode cX3_placeOf 83 = .ok (.aload_n 0, 1) := by decide +kernel
theorem dX3_placeOf_84 : decode cX3_placeOf 84 = .ok (.dup, 1) := by decide +kernel
theorem dX3_placeOf_85 : decode cX3_placeOf 85 = .ok (.getfield 23, 3) := by decide +kernel
theorem dX3_placeOf_88 : decode cX3_placeOf 88 = .ok (.iconst 1, 1) := by decide +kernel
theorem dX3_placeOf_89 : decode cX3_placeOf 89 = .ok (.iadd, 1) := by decide +kernel
theorem dX3_placeOf_90 : decode cX3_placeOf 90 = .ok (.putfield 23, 3) := by decide +kernel
theorem dX3_placeOf_93 : decode cX3_placeOf 93 = .ok (.aload_n 0, 1) := by decide +kernel
theorem dX3_placeOf_94 : decode cX3_placeOf 94 = .ok (.getfield 23, 3) := by decide +kernel
theorem dX3_placeOf_97 : decode cX3_placeOf 97 = .ok (.iconst 1, 1) := by decide +kernel
theorem dX3_placeOf_98 : decode cX3_placeOf 98 = .ok (.isub, 1) := by decide +kernel
theorem dX3_placeOf_99 : decode cX3_placeOf 99 = .ok (.ireturn, 1) := by decide +kernel
theorem dX3_slotOf_0 : decode cX3_slotOf 0 = .ok (.aload_n 0, 1) := by decide +kernel
theorem dX3_slotOf_1 : decode cX3_slotOf 1 = .ok (.getfield 16, 3) := by decide +kernel
theorem dX3_slotOf_4 : decode cX3_slotOf 4 = .ok (.arraylength, 1) := by decide +kernel
theorem dX3_slotOf_5 : decode cX3_slotOf 5 = .ok (.iconst 1, 1) := by decide +kernel
theorem dX3_slotOf_6 : decode cX3_slotOf 6 = .ok (.isub, 1) := by decide +kernel
theorem dX3_slotOf_7 : decode cX3_slotOf 7 = .ok (.istore_n 2, 1) := by decide +kernel
theorem dX3_slotOf_8 : decode cX3_slotOf 8 = .ok (.iload_n 1, 1) := by decide +kernel
theorem dX3_slotOf_9 : decode cX3_slotOf 9 = .ok (.ldc 46, 2) := by decide +kernel
theorem dX3_slotOf_11 : decode cX3_slotOf 11 = .ok (.imul, 1) := by decide +kernel
theorem dX3_slotOf_12 : decode cX3_slotOf 12 = .ok (.istore_n 3, 1) := by decide +kernel
theorem dX3_slotOf_13 : decode cX3_slotOf 13 = .ok (.iload_n 3, 1) := by decide +kernel
theorem dX3_slotOf_14 : decode cX3_slotOf 14 = .ok (.iload_n 3, 1) := by decide +kernel
theorem dX3_slotOf_15 : decode cX3_slotOf 15 = .ok (.bipush 15, 2) := by decide +kernel
theorem dX3_slotOf_17 : decode cX3_slotOf 17 = .ok (.iushr, 1) := by decide +kernel
theorem dX3_slotOf_18 : decode cX3_slotOf 18 = .ok (.ixor, 1) := by decide +kernel
theorem dX3_slotOf_19 : decode cX3_slotOf 19 = .ok (.iload_n 2, 1) := by decide +kernel
theorem dX3_slotOf_20 : decode cX3_slotOf 20 = .ok (.iand, 1) := by decide +kernel
theorem dX3_slotOf_21 : decode cX3_slotOf 21 = .ok (.istore 4, 2) := by decide +kernel
theorem dX3_slotOf_23 : decode cX3_slotOf 23 = .ok (.iconst 0, 1) := by decide +kernel
theorem dX3_slotOf_24 : decode cX3_slotOf 24 = .ok (.istore 5, 2) := by decide +kernel
theorem dX3_slotOf_26 : decode cX3_slotOf 26 = .ok (.iload 5, 2) := by decide +kernel
theorem dX3_slotOf_28 : decode cX3_slotOf 28 = .ok (.aload_n 0, 1) := by decide +kernel
theorem dX3_slotOf_29 : decode cX3_slotOf 29 = .ok (.getfield 16, 3) := by decide +kernel
theorem dX3_slotOf_32 : decode cX3_slotOf 32 = .ok (.arraylength, 1) := by decide +kernel
theorem dX3_slotOf_33 : decode cX3_slotOf 33 = .ok (.if_icmp .ge 59, 3) := by decide +kernel
theorem dX3_slotOf_36 : decode cX3_slotOf 36 = .ok (.aload_n 0, 1) := by decide +kernel
theorem dX3_slotOf_37 : decode cX3_slotOf 37 = .ok (.getfield 16, 3) := by decide +kernel
theorem dX3_slotOf_40 : decode cX3_slotOf 40 = .ok (.iload 4, 2) := by decide +kernel
theorem dX3_slotOf_42 : decode cX3_slotOf 42 = .ok (.iaload, 1) := by decide +kernel
theorem dX3_slotOf_43 : decode cX3_slotOf 43 = .ok (.aload_n 0, 1) := by decide +kernel
theorem dX3_slotOf_44 : decode cX3_slotOf 44 = .ok (.getfield 19, 3) := by decide +kernel
theorem dX3_slotOf_47 : decode cX3_slotOf 47 = .ok (.isub, 1) := by decide +kernel
theorem dX3_slotOf_48 : decode cX3_slotOf 48 = .ok (.istore 6, 2) := by decide +kernel
theorem dX3_slotOf_50 : decode cX3_slotOf 50 = .ok (.iload 6, 2) := by decide +kernel
theorem dX3_slotOf_52 : decode cX3_slotOf 52 = .ok (.ifCond .lt 23, 3) := by decide +kernel
theorem dX3_slotOf_55 : decode cX3_slotOf 55 = .ok (.iload 6, 2) := by decide +kernel
theorem dX3_slotOf_57 : decode cX3_slotOf 57 = .ok (.aload_n 0, 1) := by decide +kernel
theorem dX3_slotOf_58 : decode cX3_slotOf 58 = .ok (.getfield 23, 3) := by decide +kernel
theorem dX3_slotOf_61 : decode cX3_slotOf 61 = .ok (.if_icmp .ge 14, 3) := by decide +kernel
theorem dX3_slotOf_64 : decode cX3_slotOf 64 = .ok (.aload_n 0, 1) := by decide +kernel
theorem dX3_slotOf_65 : decode cX3_slotOf 65 = .ok (.getfield 9, 3) := by decide +kernel
theorem dX3_slotOf_68 : decode cX3_slotOf 68 = .ok (.iload 6, 2) := by decide +kernel
theorem dX3_slotOf_70 : decode cX3_slotOf 70 = .ok (.iaload, 1) := by decide +kernel
theorem dX3_slotOf_71 : decode cX3_slotOf 71 = .ok (.iload_n 1, 1) := by decide +kernel
theorem dX3_slotOf_72 : decode cX3_slotOf 72 = .ok (.if_icmp .ne 6, 3) := by decide +kernel
theorem dX3_slotOf_75 : decode cX3_slotOf 75 = .ok (.iload 4, 2) := by decide +kernel
theorem dX3_slotOf_77 : decode cX3_slotOf 77 = .ok (.ireturn, 1) := by decide +kernel
theorem dX3_slotOf_78 : decode cX3_slotOf 78 = .ok (.iload 4, 2) := by decide +kernel
theorem dX3_slotOf_80 : decode cX3_slotOf 80 = .ok (.iconst 1, 1) := by decide +kernel
theorem dX3_slotOf_81 : decode cX3_slotOf 81 = .ok (.iadd, 1) := by decide +kernel
theorem dX3_slotOf_82 : decode cX3_slotOf 82 = .ok (.iload_n 2, 1) := by decide +kernel
theorem dX3_slotOf_83 : decode cX3_slotOf 83 = .ok (.iand, 1) := by decide +kernel
theorem dX3_slotOf_84 : decode cX3_slotOf 84 = .ok (.istore 4, 2) := by decide +kernel
theorem dX3_slotOf_86 : decode cX3_slotOf 86 = .ok (.iinc 5 1, 3) := by decide +kernel
theorem dX3_slotOf_89 : decode cX3_slotOf 89 = .ok (.goto (-63), 3) := by decide +kernel
theorem dX3_slotOf_92 : decode cX3_slotOf 92 = .ok (.iload 4, 2) := by decide +kernel
theorem dX3_slotOf_94 : decode cX3_slotOf 94 = .ok (.ireturn, 1) := by decide +kernel
set_option maxRecDepth 20000 in
theorem ggX3_grow_J7_copyOf_59c91 : GoodIn wsX3_grow wsJ7_copyOf_59c91 := goodIn_r _ [10, 11, 12, 13, 14, 15, 16, 3, 17, 18, 19, 20, 21, 22, 23, 24] (by decide +kernel) (by decide +kernel)
set_option maxRecDepth 20000 in
theorem gX3_grow_J7_copyOf_59c91 : GoodIn wsX3_grow (va_wsS RX3 47 yJ7_copyOf_59c91 wsJ7_copyOf_59c91) := goodIn_app (goodIn_of _ (by decide +kernel)) ggX3_grow_J7_copyOf_59c91
set_option maxRecDepth 20000 in
theorem ggX3_grow_X3_slotOf : GoodIn wsX3_grow wsX3_slotOf := goodIn_r _ [29, 4, 30, 5, 6, 1, 31, 32, 33, 34, 35] (by decide +kernel) (by decide +kernel)
set_option maxRecDepth 20000 in
theorem gX3_grow_X3_slotOf : GoodIn wsX3_grow (wsV RX3 42 RX3 yX3_slotOf wsX3_slotOf) := goodIn_app (goodIn_of _ (by decide +kernel)) ggX3_grow_X3_slotOf
theorem dX3_grow_0 : decode cX3_grow 0 = .ok (.iconst 2, 1) := by decide +kernel
theorem dX3_grow_1 : decode cX3_grow 1 = .ok (.aload_n 0, 1) := by decide +kernel
theorem dX3_grow_2 : decode cX3_grow 2 = .ok (.getfield 9, 3) := by decide +kernel
theorem dX3_grow_5 : decode cX3_grow 5 = .ok (.arraylength, 1) := by decide +kernel
theorem dX3_grow_6 : decode cX3_grow 6 = .ok (.imul, 1) := by decide +kernel
theorem dX3_grow_7 : decode cX3_grow 7 = .ok (.istore_n 1, 1) := by decide +kernel
theorem dX3_grow_8 : decode cX3_grow 8 = .ok (.aload_n 0, 1) := by decide +kernel
theorem dX3_grow_9 : decode cX3_grow 9 = .ok (.aload_n 0, 1) := by decide +kernel
theorem dX3_grow_10 : decode cX3_grow 10 = .ok (.getfield 9, 3) := by decide +kernel
theorem dX3_grow_13 : decode cX3_grow 13 = .ok (.iload_n 1, 1) := by decide +kernel
theorem dX3_grow_14 : decode cX3_grow 14 = .ok (.invokestatic 47, 3) := by decide +kernel
theorem dX3_grow_17 : decode cX3_grow 17 = .ok (.putfield 9, 3) := by decide +kernel
theorem dX3_grow_20 : decode cX3_grow 20 = .ok (.aload_n 0, 1) := by decide +kernel
theorem dX3_grow_21 : decode cX3_grow 21 = .ok (.aload_n 0, 1) := by decide +kernel
theorem dX3_grow_22 : decode cX3_grow 22 = .ok (.getfield 13, 3) := by decide +kernel
theorem dX3_grow_25 : decode cX3_grow 25 = .ok (.iload_n 1, 1) := by decide +kernel
theorem dX3_grow_26 : decode cX3_grow 26 = .ok (.invokestatic 47, 3) := by decide +kernel
theorem dX3_grow_29 : decode cX3_grow 29 = .ok (.putfield 13, 3) := by decide +kernel
theorem dX3_grow_32 : decode cX3_grow 32 = .ok (.aload_n 0, 1) := by decide +kernel
theorem dX3_grow_33 : decode cX3_grow 33 = .ok (.iconst 2, 1) := by decide +kernel
theorem dX3_grow_34 : decode cX3_grow 34 = .ok (.iload_n 1, 1) := by decide +kernel
theorem dX3_grow_35 : decode cX3_grow 35 = .ok (.imul, 1) := by decide +kernel
theorem dX3_grow_36 : decode cX3_grow 36 = .ok (.newarray .int, 2) := by decide +kernel
theorem dX3_grow_38 : decode cX3_grow 38 = .ok (.putfield 16, 3) := by decide +kernel
theorem dX3_grow_41 : decode cX3_grow 41 = .ok (.aload_n 0, 1) := by decide +kernel
theorem dX3_grow_42 : decode cX3_grow 42 = .ok (.iconst 1, 1) := by decide +kernel
theorem dX3_grow_43 : decode cX3_grow 43 = .ok (.putfield 19, 3) := by decide +kernel
theorem dX3_grow_46 : decode cX3_grow 46 = .ok (.iconst 0, 1) := by decide +kernel
theorem dX3_grow_47 : decode cX3_grow 47 = .ok (.istore_n 2, 1) := by decide +kernel
theorem dX3_grow_48 : decode cX3_grow 48 = .ok (.iload_n 2, 1) := by decide +kernel
theorem dX3_grow_49 : decode cX3_grow 49 = .ok (.aload_n 0, 1) := by decide +kernel
theorem dX3_grow_50 : decode cX3_grow 50 = .ok (.getfield 23, 3) := by decide +kernel
theorem dX3_grow_53 : decode cX3_grow 53 = .ok (.if_icmp .ge 30, 3) := by decide +kernel
theorem dX3_grow_56 : decode cX3_grow 56 = .ok (.aload_n 0, 1) := by decide +kernel
theorem dX3_grow_57 : decode cX3_grow 57 = .ok (.getfield 16, 3) := by decide +kernel
theorem dX3_grow_60 : decode cX3_grow 60 = .ok (.aload_n 0, 1) := by decide +kernel
theorem dX3_grow_61 : decode cX3_grow 61 = .ok (.aload_n 0, 1) := by decide +kernel
theorem dX3_grow_62 : decode cX3_grow 62 = .ok (.getfield 9, 3) := by decide +kernel
theorem dX3_grow_65 : decode cX3_grow 65 = .ok (.iload_n 2, 1) := by decide +kernel
theorem dX3_grow_66 : decode cX3_grow 66 = .ok (.iaload, 1) := by decide +kernel
theorem dX3_grow_67 : decode cX3_grow 67 = .ok (.invokevirtual 42, 3) := by decide +kernel
theorem dX3_grow_70 : decode cX3_grow 70 = .ok (.aload_n 0, 1) := by decide +kernel
theorem dX3_grow_71 : decode cX3_grow 71 = .ok (.getfield 19, 3) := by decide +kernel
theorem dX3_grow_74 : decode cX3_grow 74 = .ok (.iload_n 2, 1) := by decide +kernel
theorem dX3_grow_75 : decode cX3_grow 75 = .ok (.iadd, 1) := by decide +kernel
theorem dX3_grow_76 : decode cX3_grow 76 = .ok (.iastore, 1) := by decide +kernel
theorem dX3_grow_77 : decode cX3_grow 77 = .ok (.iinc 2 1, 3) := by decide +kernel
theorem dX3_grow_80 : decode cX3_grow 80 = .ok (.goto (-32), 3) := by decide +kernel
theorem dX3_grow_83 : decode cX3_grow 83 = .ok (.return_, 1) := by decide +kernel
theorem dX5_init_0 : decode cX5_init 0 = .ok (.aload_n 0, 1) := by decide +kernel
theorem dX5_init_1 : decode cX5_init 1 = .ok (.invokespecial 3, 3) := by decide +kernel
theorem dX5_init_4 : decode cX5_init 4 = .ok (.aload_n 0, 1) := by decide +kernel
theorem dX5_init_5 : decode cX5_init 5 = .ok (.aload_n 1, 1) := by decide +kernel
theorem dX5_init_6 : decode cX5_init 6 = .ok (.putfield 9, 3) := by decide +kernel
theorem dX5_init_9 : decode cX5_init 9 = .ok (.return_, 1) := by decide +kernel
set_option maxRecDepth 20000 in
theorem ggX5_seek_X3_clear : GoodIn wsX5_seek wsX3_clear := goodIn_r _ [12, 13, 14, 15, 16, 17, 18, 19, 20, 87, 88, 89, 90, 91] (by decide +kernel) (by decide +kernel)
set_option maxRecDepth 20000 in
theorem gX5_seek_X3_clear : GoodIn wsX5_seek (wsV RX5 15 RX3 yX3_clear wsX3_clear) := goodIn_app (goodIn_of _ (by decide +kernel)) ggX5_seek_X3_clear
set_option maxRecDepth 20000 in
theorem ggX5_seek_X3_placeOf : GoodIn wsX5_seek wsX3_placeOf := goodIn_r _ [24, 14, 25, 16, 13, 26, 27, 28, 29, 11, 30, 31, 32, 33, 19, 34, 35, 36, 37, 38, 39, 40, 41, 42, 43, 44, 45, 46, 47, 48, 49, 50, 51, 52, 53, 87, 88, 89, 90, 91] (by decide +kernel) (by decide +kernel)
set_option maxRecDepth 20000 in
theorem gX5_seek_X3_placeOf : GoodIn wsX5_seek (wsV RX5 29 RX3 yX3_placeOf wsX3_placeOf) := goodIn_app (goodIn_of _ (by decide +kernel)) ggX5_seek_X3_placeOf
set_option maxRecDepth 20000 in
theorem ggX5_seek_X3_keyAt : GoodIn wsX5_seek wsX3_keyAt := goodIn_r _ [57, 14, 25, 58, 59, 60, 87, 88, 89, 90, 91] (by decide +kernel) (by decide +kernel)
set_option maxRecDepth 20000 in
theorem gX5_seek_X3_keyAt : GoodIn wsX5_seek (wsV RX5 39 RX3 yX3_keyAt wsX3_keyAt) := goodIn_app (goodIn_of _ (by decide +kernel)) ggX5_seek_X3_keyAt
set_option maxRecDepth 20000 in
theorem ggX5_seek_X1_step : GoodIn wsX5_seek wsX1_step := goodIn_r _ [65, 66, 67, 80, 81, 82, 83, 84, 85, 86] (by decide +kernel) (by decide +kernel)
set_option maxRecDepth 20000 in
theorem gX5_seek_X1_step : GoodIn wsX5_seek (wsV RX5 42 RX1 yX1_step wsX1_step) := goodIn_app (goodIn_of _ (by decide +kernel)) ggX5_seek_X1_step
set_option maxRecDepth 20000 in
theorem ggX5_seek_X5_isSpentBy : GoodIn wsX5_seek wsX5_isSpentBy := goodIn_r _ [72, 1, 4, 21, 22, 23, 11, 24, 14, 25, 16, 13, 26, 27, 28, 29, 30, 31, 32, 33, 19, 34, 35, 36, 37, 38, 39, 40, 41, 42, 43, 44, 45, 46, 47, 48, 49, 50, 51, 52, 53, 73, 74, 75, 76, 58, 59, 60, 77, 78, 79, 87, 88, 89, 90, 91] (by decide +kernel) (by decide +kernel)
set_option maxRecDepth 20000 in
theorem gX5_seek_X5_isSpentBy : GoodIn wsX5_seek (wsV RX5 50 RX5 yX5_isSpentBy wsX5_isSpentBy) := goodIn_app (goodIn_of _ (by decide +kernel)) ggX5_seek_X5_isSpentBy
theorem dX5_seek_0 : decode cX5_seek 0 = .ok (.aload_n 0, 1) := by decide +kernel
theorem dX5_seek_1 : decode cX5_seek 1 = .ok (.getfield 9, 3) := by decide +kernel
theorem dX5_seek_4 : decode cX5_seek 4 = .ok (.invokevirtual 15, 3) := by decide +kernel
theorem dX5_seek_7 : decode cX5_seek 7 = .ok (.aload_n 0, 1) := by decide +kernel
theorem dX5_seek_8 : decode cX5_seek 8 = .ok (.iconst (-1), 1) := by decide +kernel
theorem dX5_seek_9 : decode cX5_seek 9 = .ok (.putfield 20, 3) := by decide +kernel
theorem dX5_seek_12 : decode cX5_seek 12 = .ok (.aload_n 1, 1) := by decide +kernel
theorem dX5_seek_13 : decode cX5_seek 13 = .ok (.getfield 24, 3) := by decide +kernel
theorem dX5_seek_16 : decode cX5_seek 16 = .ok (.ifCond .ne 7, 3) := by decide +kernel
theorem dX5_seek_19 : decode cX5_seek 19 = .ok (.iconst 1, 1) := by decide +kernel
theorem dX5_seek_20 : decode cX5_seek 20 = .ok (.goto 4, 3) := by decide +kernel
theorem dX5_seek_23 : decode cX5_seek 23 = .ok (.iconst 0, 1) := by decide +kernel
theorem dX5_seek_24 : decode cX5_seek 24 = .ok (.aload_n 2, 1) := by decide +kernel
theorem dX5_seek_25 : decode cX5_seek 25 = .ok (.getfield 24, 3) := by decide +kernel
theorem dX5_seek_28 : decode cX5_seek 28 = .ok (.ifCond .ne 7, 3) := by decide +kernel
theorem dX5_seek_31 : decode cX5_seek 31 = .ok (.iconst 1, 1) := by decide +kernel
theorem dX5_seek_32 : decode cX5_seek 32 = .ok (.goto 4, 3) := by decide +kernel
theorem dX5_seek_35 : decode cX5_seek 35 = .ok (.iconst 0, 1) := by decide +kernel
theorem dX5_seek_36 : decode cX5_seek 36 = .ok (.if_icmp .eq 5, 3) := by decide +kernel
theorem dX5_seek_39 : decode cX5_seek 39 = .ok (.iconst 0, 1) := by decide +kernel
theorem dX5_seek_40 : decode cX5_seek 40 = .ok (.ireturn, 1) := by decide +kernel
theorem dX5_seek_41 : decode cX5_seek 41 = .ok (.aload_n 0, 1) := by decide +kernel
theorem dX5_seek_42 : decode cX5_seek 42 = .ok (.getfield 9, 3) := by decide +kernel
theorem dX5_seek_45 : decode cX5_seek 45 = .ok (.aload_n 1, 1) := by decide +kernel
theorem dX5_seek_46 : decode cX5_seek 46 = .ok (.getfield 24, 3) := by decide +kernel
theorem dX5_seek_49 : decode cX5_seek 49 = .ok (.bipush 16, 2) := by decide +kernel
theorem dX5_seek_51 : decode cX5_seek 51 = .ok (.ishl, 1) := by decide +kernel
theorem dX5_seek_52 : decode cX5_seek 52 = .ok (.aload_n 2, 1) := by decide +kernel
theorem dX5_seek_53 : decode cX5_seek 53 = .ok (.getfield 24, 3) := by decide +kernel
theorem dX5_seek_56 : decode cX5_seek 56 = .ok (.ior, 1) := by decide +kernel
theorem dX5_seek_57 : decode cX5_seek 57 = .ok (.invokevirtual 29, 3) := by decide +kernel
theorem dX5_seek_60 : decode cX5_seek 60 = .ok (.pop, 1) := by decide +kernel
theorem dX5_seek_61 : decode cX5_seek 61 = .ok (.iconst 0, 1) := by decide +kernel
theorem dX5_seek_62 : decode cX5_seek 62 = .ok (.istore_n 3, 1) := by decide +kernel
theorem dX5_seek_63 : decode cX5_seek 63 = .ok (.iload_n 3, 1) := by decide +kernel
theorem dX5_seek_64 : decode cX5_seek 64 = .ok (.aload_n 0, 1) := by decide +kernel
theorem dX5_seek_65 : decode cX5_seek 65 = .ok (.getfield 9, 3) := by decide +kernel
theorem dX5_seek_68 : decode cX5_seek 68 = .ok (.getfield 33, 3) := by decide +kernel
theorem dX5_seek_71 : decode cX5_seek 71 = .ok (.if_icmp .ge 134, 3) := by decide +kernel
theorem dX5_seek_74 : decode cX5_seek 74 = .ok (.iload_n 3, 1) := by decide +kernel
theorem dX5_seek_75 : decode cX5_seek 75 = .ok (.sipush 20000, 3) := by decide +kernel
theorem dX5_seek_78 : decode cX5_seek 78 = .ok (.if_icmp .ge 127, 3) := by decide +kernel
theorem dX5_seek_81 : decode cX5_seek 81 = .ok (.iconst 0, 1) := by decide +kernel
theorem dX5_seek_82 : decode cX5_seek 82 = .ok (.istore 4, 2) := by decide +kernel
theorem dX5_seek_84 : decode cX5_seek 84 = .ok (.iload 4, 2) := by decide +kernel
theorem dX5_seek_86 : decode cX5_seek 86 = .ok (.aload_n 1, 1) := by decide +kernel
theorem dX5_seek_87 : decode cX5_seek 87 = .ok (.getfield 36, 3) := by decide +kernel
theorem dX5_seek_90 : decode cX5_seek 90 = .ok (.if_icmp .ge 109, 3) := by decide +kernel
theorem dX5_seek_93 : decode cX5_seek 93 = .ok (.aload_n 1, 1) := by decide +kernel
theorem dX5_seek_94 : decode cX5_seek 94 = .ok (.aload_n 0, 1) := by decide +kernel
theorem dX5_seek_95 : decode cX5_seek 95 = .ok (.getfield 9, 3) := by decide +kernel
theorem dX5_seek_98 : decode cX5_seek 98 = .ok (.iload_n 3, 1) := by decide +kernel
theorem dX5_seek_99 : decode cX5_seek 99 = .ok (.invokevirtual 39, 3) := by decide +kernel
theorem dX5_seek_102 : decode cX5_seek 102 = .ok (.bipush 16, 2) := by decide +kernel
theorem dX5_seek_104 : decode cX5_seek 104 = .ok (.iushr, 1) := by decide +kernel
theorem dX5_seek_105 : decode cX5_seek 105 = .ok (.iload 4, 2) := by decide +kernel
theorem dX5_seek_107 : decode cX5_seek 107 = .ok (.invokevirtual 42, 3) := by decide +kernel
theorem dX5_seek_110 : decode cX5_seek 110 = .ok (.istore 5, 2) := by decide +kernel
theorem dX5_seek_112 : decode cX5_seek 112 = .ok (.aload_n 2, 1) := by decide +kernel
theorem dX5_seek_113 : decode cX5_seek 113 = .ok (.aload_n 0, 1) := by decide +kernel
theorem dX5_seek_114 : decode cX5_seek 114 = .ok (.getfield 9, 3) := by decide +kernel
theorem dX5_seek_117 : decode cX5_seek 117 = .ok (.iload_n 3, 1) := by decide +kernel
theorem dX5_seek_118 : decode cX5_seek 118 = .ok (.invokevirtual 39, 3) := by decide +kernel
theorem dX5_seek_121 : decode cX5_seek 121 = .ok (.ldc 46, 2) := by decide +kernel
theorem dX5_seek_123 : decode cX5_seek 123 = .ok (.iand, 1) := by decide +kernel
theorem dX5_seek_124 : decode cX5_seek 124 = .ok (.iload 4, 2) := by decide +kernel
theorem dX5_seek_126 : decode cX5_seek 126 = .ok (.invokevirtual 42, 3) := by decide +kernel
theorem dX5_seek_129 : decode cX5_seek 129 = .ok (.istore 6, 2) := by decide +kernel
theorem dX5_seek_131 : decode cX5_seek 131 = .ok (.iload 5, 2) := by decide +kernel
theorem dX5_seek_133 : decode cX5_seek 133 = .ok (.ifCond .ne 7, 3) := by decide +kernel
theorem dX5_seek_136 : decode cX5_seek 136 = .ok (.iconst 1, 1) := by decide +kernel
theorem dX5_seek_137 : decode cX5_seek 137 = .ok (.goto 4, 3) := by decide +kernel
theorem dX5_seek_140 : decode cX5_seek 140 = .ok (.iconst 0, 1) := by decide +kernel
theorem dX5_seek_141 : decode cX5_seek 141 = .ok (.iload 6, 2) := by decide +kernel
theorem dX5_seek_143 : decode cX5_seek 143 = .ok (.ifCond .ne 7, 3) := by decide +kernel
theorem dX5_seek_146 : decode cX5_seek 146 = .ok (.iconst 1, 1) := by decide +kernel
theorem dX5_seek_147 : decode cX5_seek 147 = .ok (.goto 4, 3) := by decide +kernel
theorem dX5_seek_150 : decode cX5_seek 150 = .ok (.iconst 0, 1) := by decide +kernel
theorem dX5_seek_151 : decode cX5_seek 151 = .ok (.if_icmp .eq 16, 3) := by decide +kernel
theorem dX5_seek_154 : decode cX5_seek 154 = .ok (.aload_n 0, 1) := by decide +kernel
theorem dX5_seek_155 : decode cX5_seek 155 = .ok (.iload_n 3, 1) := by decide +kernel
theorem dX5_seek_156 : decode cX5_seek 156 = .ok (.putfield 20, 3) := by decide +kernel
theorem dX5_seek_159 : decode cX5_seek 159 = .ok (.aload_n 0, 1) := by decide +kernel
theorem dX5_seek_160 : decode cX5_seek 160 = .ok (.iload 4, 2) := by decide +kernel
theorem dX5_seek_162 : decode cX5_seek 162 = .ok (.putfield 47, 3) := by decide +kernel
theorem dX5_seek_165 : decode cX5_seek 165 = .ok (.iconst 0, 1) := by decide +kernel
theorem dX5_seek_166 : decode cX5_seek 166 = .ok (.ireturn, 1) := by decide +kernel
theorem dX5_seek_167 : decode cX5_seek 167 = .ok (.iload 5, 2) := by decide +kernel
theorem dX5_seek_169 : decode cX5_seek 169 = .ok (.ifCond .eq 24, 3) := by decide +kernel
theorem dX5_seek_172 : decode cX5_seek 172 = .ok (.aload_n 0, 1) := by decide +kernel
theorem dX5_seek_173 : decode cX5_seek 173 = .ok (.iload 5, 2) := by decide +kernel
theorem dX5_seek_175 : decode cX5_seek 175 = .ok (.bipush 16, 2) := by decide +kernel
theorem dX5_seek_177 : decode cX5_seek 177 = .ok (.ishl, 1) := by decide +kernel
theorem dX5_seek_178 : decode cX5_seek 178 = .ok (.iload 6, 2) := by decide +kernel
theorem dX5_seek_180 : decode cX5_seek 180 = .ok (.ior, 1) := by decide +kernel
theorem dX5_seek_181 : decode cX5_seek 181 = .ok (.iload_n 3, 1) := by decide +kernel
theorem dX5_seek_182 : decode cX5_seek 182 = .ok (.iload 4, 2) := by decide +kernel
theorem dX5_seek_184 : decode cX5_seek 184 = .ok (.invokevirtual 50, 3) := by decide +kernel
theorem dX5_seek_187 : decode cX5_seek 187 = .ok (.ifCond .eq 6, 3) := by decide +kernel
theorem dX5_seek_190 : decode cX5_seek 190 = .ok (.bipush (-5), 2) := by decide +kernel
theorem dX5_seek_192 : decode cX5_seek 192 = .ok (.ireturn, 1) := by decide +kernel
theorem dX5_seek_193 : decode cX5_seek 193 = .ok (.iinc 4 1, 3) := by decide +kernel
theorem dX5_seek_196 : decode cX5_seek 196 = .ok (.goto (-112), 3) := by decide +kernel
theorem dX5_seek_199 : decode cX5_seek 199 = .ok (.iinc 3 1, 3) := by decide +kernel
theorem dX5_seek_202 : decode cX5_seek 202 = .ok (.goto (-139), 3) := by decide +kernel
theorem dX5_seek_205 : decode cX5_seek 205 = .ok (.iconst 1, 1) := by decide +kernel
theorem dX5_seek_206 : decode cX5_seek 206 = .ok (.ireturn, 1) := by decide +kernel
set_option maxRecDepth 20000 in
theorem ggX5_isSpentBy_X3_placeOf : GoodIn wsX5_isSpentBy wsX3_placeOf := goodIn_r _ [7, 8, 9, 10, 11, 12, 13, 14, 15, 6, 16, 17, 18, 19, 20, 21, 22, 23, 24, 25, 26, 27, 28, 29, 30, 31, 32, 33, 34, 35, 36, 37, 38, 39, 40, 51, 52, 53, 54, 55] (by decide +kernel) (by decide +kernel)
set_option maxRecDepth 20000 in
theorem gX5_isSpentBy_X3_placeOf : GoodIn wsX5_isSpentBy (wsV RX5 29 RX3 yX3_placeOf wsX3_placeOf) := goodIn_app (goodIn_of _ (by decide +kernel)) ggX5_isSpentBy_X3_placeOf
set_option maxRecDepth 20000 in
theorem ggX5_isSpentBy_X3_putNote : GoodIn wsX5_isSpentBy wsX3_putNote := goodIn_r _ [44, 8, 12, 45, 46, 47, 51, 52, 53, 54, 55] (by decide +kernel) (by decide +kernel)
set_option maxRecDepth 20000 in
theorem gX5_isSpentBy_X3_putNote : GoodIn wsX5_isSpentBy (wsV RX5 54 RX3 yX3_putNote wsX3_putNote) := goodIn_app (goodIn_of _ (by decide +kernel)) ggX5_isSpentBy_X3_putNote
theorem dX5_isSpentBy_0 : decode cX5_isSpentBy 0 = .ok (.aload_n 0, 1) := by decide +kernel
theorem dX5_isSpentBy_1 : decode cX5_isSpentBy 1 = .ok (.getfield 9, 3) := by decide +kernel
theorem dX5_isSpentBy_4 : decode cX5_isSpentBy 4 = .ok (.getfield 33, 3) := by decide +kernel
theorem dX5_isSpentBy_7 : decode cX5_isSpentBy 7 = .ok (.istore 4, 2) := by decide +kernel
theorem dX5_isSpentBy_9 : decode cX5_isSpentBy 9 = .ok (.aload_n 0, 1) := by decide +kernel
theorem dX5_isSpentBy_10 : decode cX5_isSpentBy 10 = .ok (.getfield 9, 3) := by decide +kernel
theorem dX5_isSpentBy_13 : decode cX5_isSpentBy 13 = .ok (.iload_n 1, 1) := by decide +kernel
theorem dX5_isSpentBy_14 : decode cX5_isSpentBy 14 = .ok (.invokevirtual 29, 3) := by decide +kernel
theorem dX5_isSpentBy_17 : decode cX5_isSpentBy 17 = .ok (.istore 5, 2) := by decide +kernel
theorem dX5_isSpentBy_19 : decode cX5_isSpentBy 19 = .ok (.iload 5, 2) := by decide +kernel
theorem dX5_isSpentBy_21 : decode cX5_isSpentBy 21 = .ok (.iload 4, 2) := by decide +kernel
theorem dX5_isSpentBy_23 : decode cX5_isSpentBy 23 = .ok (.if_icmp .ne 17, 3) := by decide +kernel
theorem dX5_isSpentBy_26 : decode cX5_isSpentBy 26 = .ok (.aload_n 0, 1) := by decide +kernel
theorem dX5_isSpentBy_27 : decode cX5_isSpentBy 27 = .ok (.getfield 9, 3) := by decide +kernel
theorem dX5_isSpentBy_30 : decode cX5_isSpentBy 30 = .ok (.iload 5, 2) := by decide +kernel
theorem dX5_isSpentBy_32 : decode cX5_isSpentBy 32 = .ok (.iconst 4, 1) := by decide +kernel
theorem dX5_isSpentBy_33 : decode cX5_isSpentBy 33 = .ok (.iload_n 2, 1) := by decide +kernel
theorem dX5_isSpentBy_34 : decode cX5_isSpentBy 34 = .ok (.imul, 1) := by decide +kernel
theorem dX5_isSpentBy_35 : decode cX5_isSpentBy 35 = .ok (.iload_n 3, 1) := by decide +kernel
theorem dX5_isSpentBy_36 : decode cX5_isSpentBy 36 = .ok (.iadd, 1) := by decide +kernel
theorem dX5_isSpentBy_37 : decode cX5_isSpentBy 37 = .ok (.invokevirtual 54, 3) := by decide +kernel
theorem dX5_isSpentBy_40 : decode cX5_isSpentBy 40 = .ok (.aload_n 0, 1) := by decide +kernel
theorem dX5_isSpentBy_41 : decode cX5_isSpentBy 41 = .ok (.getfield 9, 3) := by decide +kernel
theorem dX5_isSpentBy_44 : decode cX5_isSpentBy 44 = .ok (.getfield 33, 3) := by decide +kernel
theorem dX5_isSpentBy_47 : decode cX5_isSpentBy 47 = .ok (.sipush 20000, 3) := by decide +kernel
theorem dX5_isSpentBy_50 : decode cX5_isSpentBy 50 = .ok (.if_icmp .le 7, 3) := by decide +kernel
theorem dX5_isSpentBy_53 : decode cX5_isSpentBy 53 = .ok (.iconst 1, 1) := by decide +kernel
theorem dX5_isSpentBy_54 : decode cX5_isSpentBy 54 = .ok (.goto 4, 3) := by decide +kernel
theorem dX5_isSpentBy_57 : decode cX5_isSpentBy 57 = .ok (.iconst 0, 1) := by decide +kernel
theorem dX5_isSpentBy_58 : decode cX5_isSpentBy 58 = .ok (.ireturn, 1) := by decide +kernel
set_option maxRecDepth 20000 in
theorem ggX5_tellWord_X5_length : GoodIn wsX5_tellWord wsX5_length := goodIn_r _ [12, 1, 3, 13, 14, 15, 16, 17, 18, 19, 20, 21, 22, 23, 24, 25, 26, 27, 28, 29, 30] (by decide +kernel) (by decide +kernel)
set_option maxRecDepth 20000 in
theorem gX5_tellWord_X5_length : GoodIn wsX5_tellWord (wsV RX5 58 RX5 yX5_length wsX5_length) := goodIn_app (goodIn_of _ (by decide +kernel)) ggX5_tellWord_X5_length
set_option maxRecDepth 20000 in
theorem ggX5_tellWord_X3_noteAt : GoodIn wsX5_tellWord wsX3_noteAt := goodIn_r _ [17, 18, 19, 20, 21, 22, 26, 27, 28, 29, 30] (by decide +kernel) (by decide +kernel)
set_option maxRecDepth 20000 in
theorem gX5_tellWord_X3_noteAt : GoodIn wsX5_tellWord (wsV RX5 62 RX3 yX3_noteAt wsX3_noteAt) := goodIn_app (goodIn_of _ (by decide +kernel)) ggX5_tellWord_X3_noteAt
theorem dX5_tellWord_0 : decode cX5_tellWord 0 = .ok (.aload_n 0, 1) := by decide +kernel
theorem dX5_tellWord_1 : decode cX5_tellWord 1 = .ok (.invokevirtual 58, 3) := by decide +kernel
theorem dX5_tellWord_4 : decode cX5_tellWord 4 = .ok (.istore_n 2, 1) := by decide +kernel
theorem dX5_tellWord_5 : decode cX5_tellWord 5 = .ok (.aload_n 0, 1) := by decide +kernel
theorem dX5_tellWord_6 : decode cX5_tellWord 6 = .ok (.getfield 20, 3) := by decide +kernel
theorem dX5_tellWord_9 : decode cX5_tellWord 9 = .ok (.istore_n 3, 1) := by decide +kernel
theorem dX5_tellWord_10 : decode cX5_tellWord 10 = .ok (.aload_n 0, 1) := by decide +kernel
theorem dX5_tellWord_11 : decode cX5_tellWord 11 = .ok (.getfield 47, 3) := by decide +kernel
theorem dX5_tellWord_14 : decode cX5_tellWord 14 = .ok (.istore 4, 2) := by decide +kernel
theorem dX5_tellWord_16 : decode cX5_tellWord 16 = .ok (.iload_n 2, 1) := by decide +kernel
theorem dX5_tellWord_17 : decode cX5_tellWord 17 = .ok (.iconst 1, 1) := by decide +kernel
theorem dX5_tellWord_18 : decode cX5_tellWord 18 = .ok (.isub, 1) := by decide +kernel
theorem dX5_tellWord_19 : decode cX5_tellWord 19 = .ok (.istore 5, 2) := by decide +kernel
theorem dX5_tellWord_21 : decode cX5_tellWord 21 = .ok (.iload 5, 2) := by decide +kernel
theorem dX5_tellWord_23 : decode cX5_tellWord 23 = .ok (.ifCond .lt 45, 3) := by decide +kernel
theorem dX5_tellWord_26 : decode cX5_tellWord 26 = .ok (.iload 5, 2) := by decide +kernel
theorem dX5_tellWord_28 : decode cX5_tellWord 28 = .ok (.aload_n 1, 1) := by decide +kernel
theorem dX5_tellWord_29 : decode cX5_tellWord 29 = .ok (.arraylength, 1) := by decide +kernel
theorem dX5_tellWord_30 : decode cX5_tellWord 30 = .ok (.if_icmp .ge 9, 3) := by decide +kernel
theorem dX5_tellWord_33 : decode cX5_tellWord 33 = .ok (.aload_n 1, 1) := by decide +kernel
theorem dX5_tellWord_34 : decode cX5_tellWord 34 = .ok (.iload 5, 2) := by decide +kernel
theorem dX5_tellWord_36 : decode cX5_tellWord 36 = .ok (.iload 4, 2) := by decide +kernel
theorem dX5_tellWord_38 : decode cX5_tellWord 38 = .ok (.iastore, 1) := by decide +kernel
theorem dX5_tellWord_39 : decode cX5_tellWord 39 = .ok (.aload_n 0, 1) := by decide +kernel
theorem dX5_tellWord_40 : decode cX5_tellWord 40 = .ok (.getfield 9, 3) := by decide +kernel
theorem dX5_tellWord_43 : decode cX5_tellWord 43 = .ok (.iload_n 3, 1) := by decide +kernel
theorem dX5_tellWord_44 : decode cX5_tellWord 44 = .ok (.invokevirtual 62, 3) := by decide +kernel
theorem dX5_tellWord_47 : decode cX5_tellWord 47 = .ok (.iconst 4, 1) := by decide +kernel
theorem dX5_tellWord_48 : decode cX5_tellWord 48 = .ok (.irem, 1) := by decide +kernel
theorem dX5_tellWord_49 : decode cX5_tellWord 49 = .ok (.istore 4, 2) := by decide +kernel
theorem dX5_tellWord_51 : decode cX5_tellWord 51 = .ok (.aload_n 0, 1) := by decide +kernel
theorem dX5_tellWord_52 : decode cX5_tellWord 52 = .ok (.getfield 9, 3) := by decide +kernel
theorem dX5_tellWord_55 : decode cX5_tellWord 55 = .ok (.iload_n 3, 1) := by decide +kernel
theorem dX5_tellWord_56 : decode cX5_tellWord 56 = .ok (.invokevirtual 62, 3) := by decide +kernel
theorem dX5_tellWord_59 : decode cX5_tellWord 59 = .ok (.iconst 4, 1) := by decide +kernel
theorem dX5_tellWord_60 : decode cX5_tellWord 60 = .ok (.idiv, 1) := by decide +kernel
theorem dX5_tellWord_61 : decode cX5_tellWord 61 = .ok (.istore_n 3, 1) := by decide +kernel
theorem dX5_tellWord_62 : decode cX5_tellWord 62 = .ok (.iinc 5 (-1), 3) := by decide +kernel
theorem dX5_tellWord_65 : decode cX5_tellWord 65 = .ok (.goto (-44), 3) := by decide +kernel
theorem dX5_tellWord_68 : decode cX5_tellWord 68 = .ok (.iload_n 2, 1) := by decide +kernel
theorem dX5_tellWord_69 : decode cX5_tellWord 69 = .ok (.aload_n 1, 1) := by decide +kernel
theorem dX5_tellWord_70 : decode cX5_tellWord 70 = .ok (.arraylength, 1) := by decide +kernel
theorem dX5_tellWord_71 : decode cX5_tellWord 71 = .ok (.invokestatic 65, 3) := by decide +kernel
theorem dX5_tellWord_74 : decode cX5_tellWord 74 = .ok (.ireturn, 1) := by decide +kernel
set_option maxRecDepth 20000 in
theorem ggX5_length_X3_noteAt : GoodIn wsX5_length wsX3_noteAt := goodIn_r _ [7, 8, 9, 10, 11, 12, 16, 17, 18, 19, 20] (by decide +kernel) (by decide +kernel)
set_option maxRecDepth 20000 in
theorem gX5_length_X3_noteAt : GoodIn wsX5_length (wsV RX5 62 RX3 yX3_noteAt wsX3_noteAt) := goodIn_app (goodIn_of _ (by decide +kernel)) ggX5_length_X3_noteAt
theorem dX5_length_0 : decode cX5_length 0 = .ok (.aload_n 0, 1) := by decide +kernel
theorem dX5_length_1 : decode cX5_length 1 = .ok (.getfield 20, 3) := by decide +kernel
theorem dX5_length_4 : decode cX5_length 4 = .ok (.ifCond .ge 5, 3) := by decide +kernel
theorem dX5_length_7 : decode cX5_length 7 = .ok (.iconst 0, 1) := by decide +kernel
theorem dX5_length_8 : decode cX5_length 8 = .ok (.ireturn, 1) := by decide +kernel
theorem dX5_length_9 : decode cX5_length 9 = .ok (.iconst 1, 1) := by decide +kernel
theorem dX5_length_10 : decode cX5_length 10 = .ok (.istore_n 1, 1) := by decide +kernel
theorem dX5_length_11 : decode cX5_length 11 = .ok (.aload_n 0, 1) := by decide +kernel
theorem dX5_length_12 : decode cX5_length 12 = .ok (.getfield 20, 3) := by decide +kernel
theorem dX5_length_15 : decode cX5_length 15 = .ok (.istore_n 2, 1) := by decide +kernel
theorem dX5_length_16 : decode cX5_length 16 = .ok (.iconst 0, 1) := by decide +kernel
theorem dX5_length_17 : decode cX5_length 17 = .ok (.istore_n 3, 1) := by decide +kernel
theorem dX5_length_18 : decode cX5_length 18 = .ok (.iload_n 3, 1) := by decide +kernel
theorem dX5_length_19 : decode cX5_length 19 = .ok (.sipush 20000, 3) := by decide +kernel
theorem dX5_length_22 : decode cX5_length 22 = .ok (.if_icmp .ge 27, 3) := by decide +kernel
theorem dX5_length_25 : decode cX5_length 25 = .ok (.iload_n 2, 1) := by decide +kernel
theorem dX5_length_26 : decode cX5_length 26 = .ok (.ifCond .le 23, 3) := by decide +kernel
theorem dX5_length_29 : decode cX5_length 29 = .ok (.aload_n 0, 1) := by decide +kernel
theorem dX5_length_30 : decode cX5_length 30 = .ok (.getfield 9, 3) := by decide +kernel
theorem dX5_length_33 : decode cX5_length 33 = .ok (.iload_n 2, 1) := by decide +kernel
theorem dX5_length_34 : decode cX5_length 34 = .ok (.invokevirtual 62, 3) := by decide +kernel
theorem dX5_length_37 : decode cX5_length 37 = .ok (.iconst 4, 1) := by decide +kernel
theorem dX5_length_38 : decode cX5_length 38 = .ok (.idiv, 1) := by decide +kernel
theorem dX5_length_39 : decode cX5_length 39 = .ok (.istore_n 2, 1) := by decide +kernel
theorem dX5_length_40 : decode cX5_length 40 = .ok (.iinc 1 1, 3) := by decide +kernel
theorem dX5_length_43 : decode cX5_length 43 = .ok (.iinc 3 1, 3) := by decide +kernel
theorem dX5_length_46 : decode cX5_length 46 = .ok (.goto (-28), 3) := by decide +kernel
theorem dX5_length_49 : decode cX5_length 49 = .ok (.iload_n 1, 1) := by decide +kernel
theorem dX5_length_50 : decode cX5_length 50 = .ok (.ireturn, 1) := by decide +kernel
theorem dX8_init_0 : decode cX8_init 0 = .ok (.aload_n 0, 1) := by decide +kernel
theorem dX8_init_1 : decode cX8_init 1 = .ok (.invokespecial 3, 3) := by decide +kernel
theorem dX8_init_4 : decode cX8_init 4 = .ok (.aload_n 0, 1) := by decide +kernel
theorem dX8_init_5 : decode cX8_init 5 = .ok (.iconst 4, 1) := by decide +kernel
theorem dX8_init_6 : decode cX8_init 6 = .ok (.newarray .int, 2) := by decide +kernel
theorem dX8_init_8 : decode cX8_init 8 = .ok (.putfield 9, 3) := by decide +kernel
theorem dX8_init_11 : decode cX8_init 11 = .ok (.aload_n 0, 1) := by decide +kernel
theorem dX8_init_12 : decode cX8_init 12 = .ok (.iconst 1, 1) := by decide +kernel
theorem dX8_init_13 : decode cX8_init 13 = .ok (.newarray .long, 2) := by decide +kernel
theorem dX8_init_15 : decode cX8_init 15 = .ok (.putfield 15, 3) := by decide +kernel
theorem dX8_init_18 : decode cX8_init 18 = .ok (.aload_n 0, 1) := by decide +kernel
theorem dX8_init_19 : decode cX8_init 19 = .ok (.iconst 1, 1) := by decide +kernel
theorem dX8_init_20 : decode cX8_init 20 = .ok (.newarray .long, 2) := by decide +kernel
theorem dX8_init_22 : decode cX8_init 22 = .ok (.putfield 19, 3) := by decide +kernel
theorem dX8_init_25 : decode cX8_init 25 = .ok (.aload_n 0, 1) := by decide +kernel
theorem dX8_init_26 : decode cX8_init 26 = .ok (.bipush 7, 2) := by decide +kernel
theorem dX8_init_28 : decode cX8_init 28 = .ok (.newarray .int, 2) := by decide +kernel
theorem dX8_init_30 : decode cX8_init 30 = .ok (.putfield 22, 3) := by decide +kernel
theorem dX8_init_33 : decode cX8_init 33 = .ok (.aload_n 0, 1) := by decide +kernel
theorem dX8_init_34 : decode cX8_init 34 = .ok (.bipush 8, 2) := by decide +kernel
theorem dX8_init_36 : decode cX8_init 36 = .ok (.newarray .int, 2) := by decide +kernel
theorem dX8_init_38 : decode cX8_init 38 = .ok (.putfield 25, 3) := by decide +kernel
theorem dX8_init_41 : decode cX8_init 41 = .ok (.aload_n 0, 1) := by decide +kernel
theorem dX8_init_42 : decode cX8_init 42 = .ok (.aload_n 1, 1) := by decide +kernel
theorem dX8_init_43 : decode cX8_init 43 = .ok (.putfield 28, 3) := by decide +kernel
theorem dX8_init_46 : decode cX8_init 46 = .ok (.return_, 1) := by decide +kernel
set_option maxRecDepth 20000 in
theorem ggX8_standing_X3_clear : GoodIn wsX8_standing wsX3_clear := goodIn_r _ [10, 11, 12, 13, 14, 15, 16, 17, 18, 107, 108, 109, 110, 111] (by decide +kernel) (by decide +kernel)
set_option maxRecDepth 20000 in
theorem gX8_standing_X3_clear : GoodIn wsX8_standing (wsV RX8 32 RX3 yX3_clear wsX3_clear) := goodIn_app (goodIn_of _ (by decide +kernel)) ggX8_standing_X3_clear
set_option maxRecDepth 20000 in
theorem ggX8_standing_X3_placeOf : GoodIn wsX8_standing wsX3_placeOf := goodIn_r _ [22, 12, 23, 14, 11, 24, 25, 26, 27, 9, 28, 29, 30, 31, 17, 32, 33, 34, 35, 36, 37, 38, 39, 40, 41, 42, 43, 44, 45, 46, 47, 48, 49, 50, 51, 107, 108, 109, 110, 111] (by decide +kernel) (by decide +kernel)
set_option maxRecDepth 20000 in
theorem gX8_standing_X3_placeOf : GoodIn wsX8_standing (wsV RX8 43 RX3 yX3_placeOf wsX3_placeOf) := goodIn_app (goodIn_of _ (by decide +kernel)) ggX8_standing_X3_placeOf
set_option maxRecDepth 20000 in
theorem ggX8_standing_X8_makeRoom : GoodIn wsX8_standing wsX8_makeRoom := goodIn_r _ [56, 1, 3, 57, 58, 59, 60, 61, 9, 62, 23, 63, 64, 17, 65, 66, 67, 35, 36, 68, 69, 70, 39, 40, 41, 42, 43, 44, 45, 46, 71, 31, 32, 33, 34, 37, 38, 29, 94, 95, 96, 97, 98, 99, 107, 108, 109, 110, 111] (by decide +kernel) (by decide +kernel)
set_option maxRecDepth 20000 in
theorem gX8_standing_X8_makeRoom : GoodIn wsX8_standing (wsV RX8 47 RX8 yX8_makeRoom wsX8_makeRoom) := goodIn_app (goodIn_of _ (by decide +kernel)) ggX8_standing_X8_makeRoom
set_option maxRecDepth 20000 in
theorem ggX8_standing_X8_linkOn : GoodIn wsX8_standing wsX8_linkOn := goodIn_r _ [75, 1, 5, 58, 76, 77, 78, 9, 79, 12, 23, 80, 81, 82, 83, 84, 85, 86, 87, 88, 89, 19, 20, 21, 22, 14, 11, 24, 25, 26, 27, 28, 29, 30, 31, 17, 32, 33, 34, 35, 36, 37, 38, 39, 40, 41, 42, 43, 44, 45, 46, 47, 48, 49, 50, 51, 94, 95, 96, 97, 98, 99, 100, 101, 102, 103, 104, 105, 106, 107, 108, 109, 110, 111] (by decide +kernel) (by decide +kernel)
set_option maxRecDepth 20000 in
theorem gX8_standing_X8_linkOn : GoodIn wsX8_standing (wsV RX8 53 RX8 yX8_linkOn wsX8_linkOn) := goodIn_app (goodIn_of _ (by decide +kernel)) ggX8_standing_X8_linkOn
set_option maxRecDepth 20000 in
theorem ggX8_standing_X8_countLonger : GoodIn wsX8_standing wsX8_countLonger := goodIn_r _ [93, 1, 4, 57, 3, 58, 94, 95, 96, 97, 98, 99, 107, 108, 109, 110, 111] (by decide +kernel) (by decide +kernel)
set_option maxRecDepth 20000 in
theorem gX8_standing_X8_countLonger : GoodIn wsX8_standing (wsV RX8 60 RX8 yX8_countLonger wsX8_countLonger) := goodIn_app (goodIn_of _ (by decide +kernel)) ggX8_standing_X8_countLonger
theorem dX8_standing_0 : decode cX8_standing 0 = .ok (.aload_n 0, 1) := by decide +kernel
theorem dX8_standing_1 : decode cX8_standing 1 = .ok (.getfield 28, 3) := by decide +kernel
theorem dX8_standing_4 : decode cX8_standing 4 = .ok (.invokevirtual 32, 3) := by decide +kernel
theorem dX8_standing_7 : decode cX8_standing 7 = .ok (.aload_n 1, 1) := by decide +kernel
theorem dX8_standing_8 : decode cX8_standing 8 = .ok (.getfield 37, 3) := by decide +kernel
theorem dX8_standing_11 : decode cX8_standing 11 = .ok (.ifCond .ne 5, 3) := by decide +kernel
theorem dX8_standing_14 : decode cX8_standing 14 = .ok (.lconst 0, 1) := by decide +kernel
theorem dX8_standing_15 : decode cX8_standing 15 = .ok (.lreturn, 1) := by decide +kernel
theorem dX8_standing_16 : decode cX8_standing 16 = .ok (.aload_n 0, 1) := by decide +kernel
theorem dX8_standing_17 : decode cX8_standing 17 = .ok (.getfield 28, 3) := by decide +kernel
theorem dX8_standing_20 : decode cX8_standing 20 = .ok (.aload_n 1, 1) := by decide +kernel
theorem dX8_standing_21 : decode cX8_standing 21 = .ok (.getfield 37, 3) := by decide +kernel
theorem dX8_standing_24 : decode cX8_standing 24 = .ok (.invokevirtual 43, 3) := by decide +kernel
theorem dX8_standing_27 : decode cX8_standing 27 = .ok (.pop, 1) := by decide +kernel
theorem dX8_standing_28 : decode cX8_standing 28 = .ok (.aload_n 0, 1) := by decide +kernel
theorem dX8_standing_29 : decode cX8_standing 29 = .ok (.invokevirtual 47, 3) := by decide +kernel
theorem dX8_standing_32 : decode cX8_standing 32 = .ok (.aload_n 0, 1) := by decide +kernel
theorem dX8_standing_33 : decode cX8_standing 33 = .ok (.getfield 15, 3) := by decide +kernel
theorem dX8_standing_36 : decode cX8_standing 36 = .ok (.iconst 0, 1) := by decide +kernel
theorem dX8_standing_37 : decode cX8_standing 37 = .ok (.lconst 1, 1) := by decide +kernel
theorem dX8_standing_38 : decode cX8_standing 38 = .ok (.lastore, 1) := by decide +kernel
theorem dX8_standing_39 : decode cX8_standing 39 = .ok (.iconst 0, 1) := by decide +kernel
theorem dX8_standing_40 : decode cX8_standing 40 = .ok (.istore_n 3, 1) := by decide +kernel
theorem dX8_standing_41 : decode cX8_standing 41 = .ok (.iconst 0, 1) := by decide +kernel
theorem dX8_standing_42 : decode cX8_standing 42 = .ok (.istore 4, 2) := by decide +kernel
theorem dX8_standing_44 : decode cX8_standing 44 = .ok (.iload 4, 2) := by decide +kernel
theorem dX8_standing_46 : decode cX8_standing 46 = .ok (.iload_n 2, 1) := by decide +kernel
theorem dX8_standing_47 : decode cX8_standing 47 = .ok (.if_icmp .ge 43, 3) := by decide +kernel
theorem dX8_standing_50 : decode cX8_standing 50 = .ok (.aload_n 0, 1) := by decide +kernel
theorem dX8_standing_51 : decode cX8_standing 51 = .ok (.getfield 28, 3) := by decide +kernel
theorem dX8_standing_54 : decode cX8_standing 54 = .ok (.getfield 50, 3) := by decide +kernel
theorem dX8_standing_57 : decode cX8_standing 57 = .ok (.istore 5, 2) := by decide +kernel
theorem dX8_standing_59 : decode cX8_standing 59 = .ok (.aload_n 0, 1) := by decide +kernel
theorem dX8_standing_60 : decode cX8_standing 60 = .ok (.aload_n 1, 1) := by decide +kernel
theorem dX8_standing_61 : decode cX8_standing 61 = .ok (.iload_n 3, 1) := by decide +kernel
theorem dX8_standing_62 : decode cX8_standing 62 = .ok (.iload 5, 2) := by decide +kernel
theorem dX8_standing_64 : decode cX8_standing 64 = .ok (.invokevirtual 53, 3) := by decide +kernel
theorem dX8_standing_67 : decode cX8_standing 67 = .ok (.iload 5, 2) := by decide +kernel
theorem dX8_standing_69 : decode cX8_standing 69 = .ok (.istore_n 3, 1) := by decide +kernel
theorem dX8_standing_70 : decode cX8_standing 70 = .ok (.aload_n 0, 1) := by decide +kernel
theorem dX8_standing_71 : decode cX8_standing 71 = .ok (.invokevirtual 47, 3) := by decide +kernel
theorem dX8_standing_74 : decode cX8_standing 74 = .ok (.aload_n 0, 1) := by decide +kernel
theorem dX8_standing_75 : decode cX8_standing 75 = .ok (.aload_n 1, 1) := by decide +kernel
theorem dX8_standing_76 : decode cX8_standing 76 = .ok (.getfield 57, 3) := by decide +kernel
theorem dX8_standing_79 : decode cX8_standing 79 = .ok (.iload 5, 2) := by decide +kernel
theorem dX8_standing_81 : decode cX8_standing 81 = .ok (.invokevirtual 60, 3) := by decide +kernel
theorem dX8_standing_84 : decode cX8_standing 84 = .ok (.iinc 4 1, 3) := by decide +kernel
theorem dX8_standing_87 : decode cX8_standing 87 = .ok (.goto (-43), 3) := by decide +kernel
theorem dX8_standing_90 : decode cX8_standing 90 = .ok (.lconst 0, 1) := by decide +kernel
theorem dX8_standing_91 : decode cX8_standing 91 = .ok (.lstore 4, 2) := by decide +kernel
theorem dX8_standing_93 : decode cX8_standing 93 = .ok (.iconst 0, 1) := by decide +kernel
theorem dX8_standing_94 : decode cX8_standing 94 = .ok (.istore 6, 2) := by decide +kernel
theorem dX8_standing_96 : decode cX8_standing 96 = .ok (.iload 6, 2) := by decide +kernel
theorem dX8_standing_98 : decode cX8_standing 98 = .ok (.aload_n 0, 1) := by decide +kernel
theorem dX8_standing_99 : decode cX8_standing 99 = .ok (.getfield 28, 3) := by decide +kernel
theorem dX8_standing_102 : decode cX8_standing 102 = .ok (.getfield 50, 3) := by decide +kernel
theorem dX8_standing_105 : decode cX8_standing 105 = .ok (.if_icmp .ge 21, 3) := by decide +kernel
theorem dX8_standing_108 : decode cX8_standing 108 = .ok (.lload 4, 2) := by decide +kernel
theorem dX8_standing_110 : decode cX8_standing 110 = .ok (.aload_n 0, 1) := by decide +kernel
theorem dX8_standing_111 : decode cX8_standing 111 = .ok (.getfield 15, 3) := by decide +kernel
theorem dX8_standing_114 : decode cX8_standing 114 = .ok (.iload 6, 2) := by decide +kernel
theorem dX8_standing_116 : decode cX8_standing 116 = .ok (.laload, 1) := by decide +kernel
theorem dX8_standing_117 : decode cX8_standing 117 = .ok (.ladd, 1) := by decide +kernel
theorem dX8_standing_118 : decode cX8_standing 118 = .ok (.lstore 4, 2) := by decide +kernel
theorem dX8_standing_120 : decode cX8_standing 120 = .ok (.iinc 6 1, 3) := by decide +kernel
theorem dX8_standing_123 : decode cX8_standing 123 = .ok (.goto (-27), 3) := by decide +kernel
theorem dX8_standing_126 : decode cX8_standing 126 = .ok (.lload 4, 2) := by decide +kernel
theorem dX8_standing_128 : decode cX8_standing 128 = .ok (.lreturn, 1) := by decide +kernel
set_option maxRecDepth 20000 in
theorem ggX8_makeRoom_X3_room : GoodIn wsX8_makeRoom wsX3_room := goodIn_r _ [9, 10, 44, 45, 46, 47, 48] (by decide +kernel) (by decide +kernel)
set_option maxRecDepth 20000 in
theorem gX8_makeRoom_X3_room : GoodIn wsX8_makeRoom (wsV RX8 64 RX3 yX3_room wsX3_room) := goodIn_app (goodIn_of _ (by decide +kernel)) ggX8_makeRoom_X3_room
set_option maxRecDepth 20000 in
theorem ggX8_makeRoom_J7_copyOf_c38d5 : GoodIn wsX8_makeRoom wsJ7_copyOf_c38d5 := goodIn_r _ [14, 15, 16, 17, 18, 19, 20, 21, 22, 23, 24, 25, 26, 27, 28, 29] (by decide +kernel) (by decide +kernel)
set_option maxRecDepth 20000 in
theorem gX8_makeRoom_J7_copyOf_c38d5 : GoodIn wsX8_makeRoom (va_wsS RX8 68 yJ7_copyOf_c38d5 wsJ7_copyOf_c38d5) := goodIn_app (goodIn_of _ (by decide +kernel)) ggX8_makeRoom_J7_copyOf_c38d5
set_option maxRecDepth 20000 in
theorem ggX8_makeRoom_J7_copyOf_59c91 : GoodIn wsX8_makeRoom wsJ7_copyOf_59c91 := goodIn_r _ [32, 33, 34, 17, 18, 35, 36, 37, 22, 23, 24, 25, 26, 27, 28, 29] (by decide +kernel) (by decide +kernel)
set_option maxRecDepth 20000 in
theorem gX8_makeRoom_J7_copyOf_59c91 : GoodIn wsX8_makeRoom (va_wsS RX8 74 yJ7_copyOf_59c91 wsJ7_copyOf_59c91) := goodIn_app (goodIn_of _ (by decide +kernel)) ggX8_makeRoom_J7_copyOf_59c91
theorem dX8_makeRoom_0 : decode cX8_makeRoom 0 = .ok (.aload_n 0, 1) := by decide +kernel
theorem dX8_makeRoom_1 : decode cX8_makeRoom 1 = .ok (.getfield 28, 3) := by decide +kernel
theorem dX8_makeRoom_4 : decode cX8_makeRoom 4 = .ok (.invokevirtual 64, 3) := by decide +kernel
theorem dX8_makeRoom_7 : decode cX8_makeRoom 7 = .ok (.istore_n 1, 1) := by decide +kernel
theorem dX8_makeRoom_8 : decode cX8_makeRoom 8 = .ok (.aload_n 0, 1) := by decide +kernel
theorem dX8_makeRoom_9 : decode cX8_makeRoom 9 = .ok (.getfield 15, 3) := by decide +kernel
theorem dX8_makeRoom_12 : decode cX8_makeRoom 12 = .ok (.arraylength, 1) := by decide +kernel
theorem dX8_makeRoom_13 : decode cX8_makeRoom 13 = .ok (.iload_n 1, 1) := by decide +kernel
theorem dX8_makeRoom_14 : decode cX8_makeRoom 14 = .ok (.if_icmp .ge 41, 3) := by decide +kernel
theorem dX8_makeRoom_17 : decode cX8_makeRoom 17 = .ok (.aload_n 0, 1) := by decide +kernel
theorem dX8_makeRoom_18 : decode cX8_makeRoom 18 = .ok (.aload_n 0, 1) := by decide +kernel
theorem dX8_makeRoom_19 : decode cX8_makeRoom 19 = .ok (.getfield 15, 3) := by decide +kernel
theorem dX8_makeRoom_22 : decode cX8_makeRoom 22 = .ok (.iload_n 1, 1) := by decide +kernel
theorem dX8_makeRoom_23 : decode cX8_makeRoom 23 = .ok (.invokestatic 68, 3) := by decide +kernel
theorem dX8_makeRoom_26 : decode cX8_makeRoom 26 = .ok (.putfield 15, 3) := by decide +kernel
theorem dX8_makeRoom_29 : decode cX8_makeRoom 29 = .ok (.aload_n 0, 1) := by decide +kernel
theorem dX8_makeRoom_30 : decode cX8_makeRoom 30 = .ok (.aload_n 0, 1) := by decide +kernel
theorem dX8_makeRoom_31 : decode cX8_makeRoom 31 = .ok (.getfield 19, 3) := by decide +kernel
theorem dX8_makeRoom_34 : decode cX8_makeRoom 34 = .ok (.iload_n 1, 1) := by decide +kernel
theorem dX8_makeRoom_35 : decode cX8_makeRoom 35 = .ok (.invokestatic 68, 3) := by decide +kernel
theorem dX8_makeRoom_38 : decode cX8_makeRoom 38 = .ok (.putfield 19, 3) := by decide +kernel
theorem dX8_makeRoom_41 : decode cX8_makeRoom 41 = .ok (.aload_n 0, 1) := by decide +kernel
theorem dX8_makeRoom_42 : decode cX8_makeRoom 42 = .ok (.aload_n 0, 1) := by decide +kernel
theorem dX8_makeRoom_43 : decode cX8_makeRoom 43 = .ok (.getfield 9, 3) := by decide +kernel
theorem dX8_makeRoom_46 : decode cX8_makeRoom 46 = .ok (.iconst 4, 1) := by decide +kernel
theorem dX8_makeRoom_47 : decode cX8_makeRoom 47 = .ok (.iload_n 1, 1) := by decide +kernel
theorem dX8_makeRoom_48 : decode cX8_makeRoom 48 = .ok (.imul, 1) := by decide +kernel
theorem dX8_makeRoom_49 : decode cX8_makeRoom 49 = .ok (.invokestatic 74, 3) := by decide +kernel
theorem dX8_makeRoom_52 : decode cX8_makeRoom 52 = .ok (.putfield 9, 3) := by decide +kernel
theorem dX8_makeRoom_55 : decode cX8_makeRoom 55 = .ok (.return_, 1) := by decide +kernel
set_option maxRecDepth 20000 in
theorem ggX8_linkOn_X3_keyAt : GoodIn wsX8_linkOn wsX3_keyAt := goodIn_r _ [8, 9, 10, 11, 12, 13, 69, 70, 71, 72, 73] (by decide +kernel) (by decide +kernel)
set_option maxRecDepth 20000 in
theorem gX8_linkOn_X3_keyAt : GoodIn wsX8_linkOn (wsV RX8 77 RX3 yX3_keyAt wsX3_keyAt) := goodIn_app (goodIn_of _ (by decide +kernel)) ggX8_linkOn_X3_keyAt
set_option maxRecDepth 20000 in
theorem ggX8_linkOn_X1_step : GoodIn wsX8_linkOn wsX1_step := goodIn_r _ [18, 19, 20, 62, 63, 64, 65, 66, 67, 68] (by decide +kernel) (by decide +kernel)
set_option maxRecDepth 20000 in
theorem gX8_linkOn_X1_step : GoodIn wsX8_linkOn (wsV RX8 80 RX1 yX1_step wsX1_step) := goodIn_app (goodIn_of _ (by decide +kernel)) ggX8_linkOn_X1_step
set_option maxRecDepth 20000 in
theorem ggX8_linkOn_X3_placeOf : GoodIn wsX8_linkOn wsX3_placeOf := goodIn_r _ [24, 9, 10, 25, 26, 27, 28, 29, 30, 7, 31, 32, 33, 34, 35, 36, 37, 38, 39, 40, 41, 42, 43, 44, 45, 46, 47, 48, 49, 50, 51, 52, 53, 54, 55, 69, 70, 71, 72, 73] (by decide +kernel) (by decide +kernel)
set_option maxRecDepth 20000 in
theorem gX8_linkOn_X3_placeOf : GoodIn wsX8_linkOn (wsV RX8 43 RX3 yX3_placeOf wsX3_placeOf) := goodIn_app (goodIn_of _ (by decide +kernel)) ggX8_linkOn_X3_placeOf
theorem dX8_linkOn_0 : decode cX8_linkOn 0 = .ok (.iload_n 2, 1) := by decide +kernel
theorem dX8_linkOn_1 : decode cX8_linkOn 1 = .ok (.istore 4, 2) := by decide +kernel
theorem dX8_linkOn_3 : decode cX8_linkOn 3 = .ok (.iload 4, 2) := by decide +kernel
theorem dX8_linkOn_5 : decode cX8_linkOn 5 = .ok (.iload_n 3, 1) := by decide +kernel
theorem dX8_linkOn_6 : decode cX8_linkOn 6 = .ok (.if_icmp .ge 78, 3) := by decide +kernel
theorem dX8_linkOn_9 : decode cX8_linkOn 9 = .ok (.aload_n 0, 1) := by decide +kernel
theorem dX8_linkOn_10 : decode cX8_linkOn 10 = .ok (.getfield 28, 3) := by decide +kernel
theorem dX8_linkOn_13 : decode cX8_linkOn 13 = .ok (.iload 4, 2) := by decide +kernel
theorem dX8_linkOn_15 : decode cX8_linkOn 15 = .ok (.invokevirtual 77, 3) := by decide +kernel
theorem dX8_linkOn_18 : decode cX8_linkOn 18 = .ok (.istore 5, 2) := by decide +kernel
theorem dX8_linkOn_20 : decode cX8_linkOn 20 = .ok (.iconst 0, 1) := by decide +kernel
theorem dX8_linkOn_21 : decode cX8_linkOn 21 = .ok (.istore 6, 2) := by decide +kernel
theorem dX8_linkOn_23 : decode cX8_linkOn 23 = .ok (.iload 6, 2) := by decide +kernel
theorem dX8_linkOn_25 : decode cX8_linkOn 25 = .ok (.aload_n 1, 1) := by decide +kernel
theorem dX8_linkOn_26 : decode cX8_linkOn 26 = .ok (.getfield 57, 3) := by decide +kernel
theorem dX8_linkOn_29 : decode cX8_linkOn 29 = .ok (.if_icmp .ge 49, 3) := by decide +kernel
theorem dX8_linkOn_32 : decode cX8_linkOn 32 = .ok (.aload_n 1, 1) := by decide +kernel
theorem dX8_linkOn_33 : decode cX8_linkOn 33 = .ok (.iload 5, 2) := by decide +kernel
theorem dX8_linkOn_35 : decode cX8_linkOn 35 = .ok (.iload 6, 2) := by decide +kernel
theorem dX8_linkOn_37 : decode cX8_linkOn 37 = .ok (.invokevirtual 80, 3) := by decide +kernel
theorem dX8_linkOn_40 : decode cX8_linkOn 40 = .ok (.istore 7, 2) := by decide +kernel
theorem dX8_linkOn_42 : decode cX8_linkOn 42 = .ok (.aload_n 0, 1) := by decide +kernel
theorem dX8_linkOn_43 : decode cX8_linkOn 43 = .ok (.getfield 9, 3) := by decide +kernel
theorem dX8_linkOn_46 : decode cX8_linkOn 46 = .ok (.iload 4, 2) := by decide +kernel
theorem dX8_linkOn_48 : decode cX8_linkOn 48 = .ok (.iconst 4, 1) := by decide +kernel
theorem dX8_linkOn_49 : decode cX8_linkOn 49 = .ok (.imul, 1) := by decide +kernel
theorem dX8_linkOn_50 : decode cX8_linkOn 50 = .ok (.iload 6, 2) := by decide +kernel
theorem dX8_linkOn_52 : decode cX8_linkOn 52 = .ok (.iadd, 1) := by decide +kernel
theorem dX8_linkOn_53 : decode cX8_linkOn 53 = .ok (.iload 7, 2) := by decide +kernel
theorem dX8_linkOn_55 : decode cX8_linkOn 55 = .ok (.ifCond .ne 7, 3) := by decide +kernel
theorem dX8_linkOn_58 : decode cX8_linkOn 58 = .ok (.iconst (-1), 1) := by decide +kernel
theorem dX8_linkOn_59 : decode cX8_linkOn 59 = .ok (.goto 12, 3) := by decide +kernel
theorem dX8_linkOn_62 : decode cX8_linkOn 62 = .ok (.aload_n 0, 1) := by decide +kernel
theorem dX8_linkOn_63 : decode cX8_linkOn 63 = .ok (.getfield 28, 3) := by decide +kernel
theorem dX8_linkOn_66 : decode cX8_linkOn 66 = .ok (.iload 7, 2) := by decide +kernel
theorem dX8_linkOn_68 : decode cX8_linkOn 68 = .ok (.invokevirtual 43, 3) := by decide +kernel
theorem dX8_linkOn_71 : decode cX8_linkOn 71 = .ok (.iastore, 1) := by decide +kernel
theorem dX8_linkOn_72 : decode cX8_linkOn 72 = .ok (.iinc 6 1, 3) := by decide +kernel
theorem dX8_linkOn_75 : decode cX8_linkOn 75 = .ok (.goto (-52), 3) := by decide +kernel
theorem dX8_linkOn_78 : decode cX8_linkOn 78 = .ok (.iinc 4 1, 3) := by decide +kernel
theorem dX8_linkOn_81 : decode cX8_linkOn 81 = .ok (.goto (-78), 3) := by decide +kernel
theorem dX8_linkOn_84 : decode cX8_linkOn 84 = .ok (.return_, 1) := by decide +kernel
theorem dX8_countLonger_0 : decode cX8_countLonger 0 = .ok (.iconst 0, 1) := by decide +kernel
theorem dX8_countLonger_1 : decode cX8_countLonger 1 = .ok (.istore_n 3, 1) := by decide +kernel
theorem dX8_countLonger_2 : decode cX8_countLonger 2 = .ok (.iload_n 3, 1) := by decide +kernel
theorem dX8_countLonger_3 : decode cX8_countLonger 3 = .ok (.aload_n 0, 1) := by decide +kernel
theorem dX8_countLonger_4 : decode cX8_countLonger 4 = .ok (.getfield 28, 3) := by decide +kernel
theorem dX8_countLonger_7 : decode cX8_countLonger 7 = .ok (.getfield 50, 3) := by decide +kernel
theorem dX8_countLonger_10 : decode cX8_countLonger 10 = .ok (.if_icmp .ge 16, 3) := by decide +kernel
theorem dX8_countLonger_13 : decode cX8_countLonger 13 = .ok (.aload_n 0, 1) := by decide +kernel
theorem dX8_countLonger_14 : decode cX8_countLonger 14 = .ok (.getfield 19, 3) := by decide +kernel
theorem dX8_countLonger_17 : decode cX8_countLonger 17 = .ok (.iload_n 3, 1) := by decide +kernel
theorem dX8_countLonger_18 : decode cX8_countLonger 18 = .ok (.lconst 0, 1) := by decide +kernel
theorem dX8_countLonger_19 : decode cX8_countLonger 19 = .ok (.lastore, 1) := by decide +kernel
theorem dX8_countLonger_20 : decode cX8_countLonger 20 = .ok (.iinc 3 1, 3) := by decide +kernel
theorem dX8_countLonger_23 : decode cX8_countLonger 23 = .ok (.goto (-21), 3) := by decide +kernel
theorem dX8_countLonger_26 : decode cX8_countLonger 26 = .ok (.iconst 0, 1) := by decide +kernel
theorem dX8_countLonger_27 : decode cX8_countLonger 27 = .ok (.istore_n 3, 1) := by decide +kernel
theorem dX8_countLonger_28 : decode cX8_countLonger 28 = .ok (.iload_n 3, 1) := by decide +kernel
theorem dX8_countLonger_29 : decode cX8_countLonger 29 = .ok (.iload_n 2, 1) := by decide +kernel
theorem dX8_countLonger_30 : decode cX8_countLonger 30 = .ok (.if_icmp .ge 69, 3) := by decide +kernel
theorem dX8_countLonger_33 : decode cX8_countLonger 33 = .ok (.aload_n 0, 1) := by decide +kernel
theorem dX8_countLonger_34 : decode cX8_countLonger 34 = .ok (.getfield 15, 3) := by decide +kernel
theorem dX8_countLonger_37 : decode cX8_countLonger 37 = .ok (.iload_n 3, 1) := by decide +kernel
theorem dX8_countLonger_38 : decode cX8_countLonger 38 = .ok (.laload, 1) := by decide +kernel
theorem dX8_countLonger_39 : decode cX8_countLonger 39 = .ok (.lstore 4, 2) := by decide +kernel
theorem dX8_countLonger_41 : decode cX8_countLonger 41 = .ok (.iconst 0, 1) := by decide +kernel
theorem dX8_countLonger_42 : decode cX8_countLonger 42 = .ok (.istore 6, 2) := by decide +kernel
theorem dX8_countLonger_44 : decode cX8_countLonger 44 = .ok (.iload 6, 2) := by decide +kernel
theorem dX8_countLonger_46 : decode cX8_countLonger 46 = .ok (.iload_n 1, 1) := by decide +kernel
theorem dX8_countLonger_47 : decode cX8_countLonger 47 = .ok (.if_icmp .ge 46, 3) := by decide +kernel
theorem dX8_countLonger_50 : decode cX8_countLonger 50 = .ok (.lload 4, 2) := by decide +kernel
theorem dX8_countLonger_52 : decode cX8_countLonger 52 = .ok (.lconst 0, 1) := by decide +kernel
theorem dX8_countLonger_53 : decode cX8_countLonger 53 = .ok (.lcmp, 1) := by decide +kernel
theorem dX8_countLonger_54 : decode cX8_countLonger 54 = .ok (.ifCond .eq 39, 3) := by decide +kernel
theorem dX8_countLonger_57 : decode cX8_countLonger 57 = .ok (.aload_n 0, 1) := by decide +kernel
theorem dX8_countLonger_58 : decode cX8_countLonger 58 = .ok (.getfield 9, 3) := by decide +kernel
theorem dX8_countLonger_61 : decode cX8_countLonger 61 = .ok (.iload_n 3, 1) := by decide +kernel
theorem dX8_countLonger_62 : decode cX8_countLonger 62 = .ok (.iconst 4, 1) := by decide +kernel
theorem dX8_countLonger_63 : decode cX8_countLonger 63 = .ok (.imul, 1) := by decide +kernel
theorem dX8_countLonger_64 : decode cX8_countLonger 64 = .ok (.iload 6, 2) := by decide +kernel
theorem dX8_countLonger_66 : decode cX8_countLonger 66 = .ok (.iadd, 1) := by decide +kernel
theorem dX8_countLonger_67 : decode cX8_countLonger 67 = .ok (.iaload, 1) := by decide +kernel
theorem dX8_countLonger_68 : decode cX8_countLonger 68 = .ok (.istore 7, 2) := by decide +kernel
theorem dX8_countLonger_70 : decode cX8_countLonger 70 = .ok (.iload 7, 2) := by decide +kernel
theorem dX8_countLonger_72 : decode cX8_countLonger 72 = .ok (.ifCond .lt 15, 3) := by decide +kernel
theorem dX8_countLonger_75 : decode cX8_countLonger 75 = .ok (.aload_n 0, 1) := by decide +kernel
theorem dX8_countLonger_76 : decode cX8_countLonger 76 = .ok (.getfield 19, 3) := by decide +kernel
theorem dX8_countLonger_79 : decode cX8_countLonger 79 = .ok (.iload 7, 2) := by decide +kernel
theorem dX8_countLonger_81 : decode cX8_countLonger 81 = .ok (.dup2, 1) := by decide +kernel
theorem dX8_countLonger_82 : decode cX8_countLonger 82 = .ok (.laload, 1) := by decide +kernel
theorem dX8_countLonger_83 : decode cX8_countLonger 83 = .ok (.lload 4, 2) := by decide +kernel
theorem dX8_countLonger_85 : decode cX8_countLonger 85 = .ok (.ladd, 1) := by decide +kernel
theorem dX8_countLonger_86 : decode cX8_countLonger 86 = .ok (.lastore, 1) := by decide +kernel
theorem dX8_countLonger_87 : decode cX8_countLonger 87 = .ok (.iinc 6 1, 3) := by decide +kernel
theorem dX8_countLonger_90 : decode cX8_countLonger 90 = .ok (.goto (-46), 3) := by decide +kernel
theorem dX8_countLonger_93 : decode cX8_countLonger 93 = .ok (.iinc 3 1, 3) := by decide +kernel
theorem dX8_countLonger_96 : decode cX8_countLonger 96 = .ok (.goto (-68), 3) := by decide +kernel
theorem dX8_countLonger_99 : decode cX8_countLonger 99 = .ok (.aload_n 0, 1) := by decide +kernel
theorem dX8_countLonger_100 : decode cX8_countLonger 100 = .ok (.getfield 15, 3) := by decide +kernel
theorem dX8_countLonger_103 : decode cX8_countLonger 103 = .ok (.astore_n 3, 1) := by decide +kernel
theorem dX8_countLonger_104 : decode cX8_countLonger 104 = .ok (.aload_n 0, 1) := by decide +kernel
theorem dX8_countLonger_105 : decode cX8_countLonger 105 = .ok (.aload_n 0, 1) := by decide +kernel
theorem dX8_countLonger_106 : decode cX8_countLonger 106 = .ok (.getfield 19, 3) := by decide +kernel
theorem dX8_countLonger_109 : decode cX8_countLonger 109 = .ok (.putfield 15, 3) := by decide +kernel
theorem dX8_countLonger_112 : decode cX8_countLonger 112 = .ok (.aload_n 0, 1) := by decide +kernel
theorem dX8_countLonger_113 : decode cX8_countLonger 113 = .ok (.aload_n 3, 1) := by decide +kernel
theorem dX8_countLonger_114 : decode cX8_countLonger 114 = .ok (.putfield 19, 3) := by decide +kernel
theorem dX8_countLonger_117 : decode cX8_countLonger 117 = .ok (.return_, 1) := by decide +kernel
set_option maxRecDepth 20000 in
theorem ggX8_comingRound_J7_fill_53178 : GoodIn wsX8_comingRound wsJ7_fill_53178 := goodIn_r _ [8] (by decide +kernel) (by decide +kernel)
set_option maxRecDepth 20000 in
theorem gX8_comingRound_J7_fill_53178 : GoodIn wsX8_comingRound (va_wsS RX8 84 yJ7_fill_53178 wsJ7_fill_53178) := goodIn_app (goodIn_of _ (by decide +kernel)) ggX8_comingRound_J7_fill_53178
set_option maxRecDepth 20000 in
theorem ggX8_comingRound_X9_power : GoodIn wsX8_comingRound wsX9_power := goodIn_r _ [11] (by decide +kernel) (by decide +kernel)
set_option maxRecDepth 20000 in
theorem gX8_comingRound_X9_power_n88 : GoodIn wsX8_comingRound (wsX9_power) := ggX8_comingRound_X9_power
set_option maxRecDepth 20000 in
theorem ggX8_comingRound_X1_step : GoodIn wsX8_comingRound wsX1_step := goodIn_r _ [16, 17, 18, 34, 35, 36, 37, 38, 39, 40] (by decide +kernel) (by decide +kernel)
set_option maxRecDepth 20000 in
theorem gX8_comingRound_X1_step : GoodIn wsX8_comingRound (wsV RX8 80 RX1 yX1_step wsX1_step) := goodIn_app (goodIn_of _ (by decide +kernel)) ggX8_comingRound_X1_step
set_option maxRecDepth 20000 in
theorem ggX8_comingRound_X8_lasts : GoodIn wsX8_comingRound wsX8_lasts := goodIn_r _ [23, 3, 2, 1, 12, 13, 14, 15, 16, 17, 18, 34, 35, 36, 37, 38, 39, 40, 28, 29, 30, 31, 32, 33] (by decide +kernel) (by decide +kernel)
set_option maxRecDepth 20000 in
theorem gX8_comingRound_X8_lasts : GoodIn wsX8_comingRound (wsV RX8 91 RX8 yX8_lasts wsX8_lasts) := goodIn_app (goodIn_of _ (by decide +kernel)) ggX8_comingRound_X8_lasts
set_option maxRecDepth 20000 in
theorem ggX8_comingRound_X8_turnToNextRow : GoodIn wsX8_comingRound wsX8_turnToNextRow := goodIn_r _ [27, 1, 28, 29, 30, 31, 32, 33] (by decide +kernel) (by decide +kernel)
set_option maxRecDepth 20000 in
theorem gX8_comingRound_X8_turnToNextRow : GoodIn wsX8_comingRound (wsV RX8 95 RX8 yX8_turnToNextRow wsX8_turnToNextRow) := goodIn_app (goodIn_of _ (by decide +kernel)) ggX8_comingRound_X8_turnToNextRow
theorem dX8_comingRound_0 : decode cX8_comingRound 0 = .ok (.aload_n 0, 1) := by decide +kernel
theorem dX8_comingRound_1 : decode cX8_comingRound 1 = .ok (.getfield 22, 3) := by decide +kernel
theorem dX8_comingRound_4 : decode cX8_comingRound 4 = .ok (.iconst 0, 1) := by decide +kernel
theorem dX8_comingRound_5 : decode cX8_comingRound 5 = .ok (.invokestatic 84, 3) := by decide +kernel
theorem dX8_comingRound_8 : decode cX8_comingRound 8 = .ok (.aload_n 0, 1) := by decide +kernel
theorem dX8_comingRound_9 : decode cX8_comingRound 9 = .ok (.getfield 25, 3) := by decide +kernel
theorem dX8_comingRound_12 : decode cX8_comingRound 12 = .ok (.iconst 0, 1) := by decide +kernel
theorem dX8_comingRound_13 : decode cX8_comingRound 13 = .ok (.aload_n 1, 1) := by decide +kernel
theorem dX8_comingRound_14 : decode cX8_comingRound 14 = .ok (.getfield 37, 3) := by decide +kernel
theorem dX8_comingRound_17 : decode cX8_comingRound 17 = .ok (.iastore, 1) := by decide +kernel
theorem dX8_comingRound_18 : decode cX8_comingRound 18 = .ok (.aload_n 1, 1) := by decide +kernel
theorem dX8_comingRound_19 : decode cX8_comingRound 19 = .ok (.getfield 57, 3) := by decide +kernel
theorem dX8_comingRound_22 : decode cX8_comingRound 22 = .ok (.iload_n 2, 1) := by decide +kernel
theorem dX8_comingRound_23 : decode cX8_comingRound 23 = .ok (.invokestatic 88, 3) := by decide +kernel
theorem dX8_comingRound_26 : decode cX8_comingRound 26 = .ok (.istore_n 3, 1) := by decide +kernel
theorem dX8_comingRound_27 : decode cX8_comingRound 27 = .ok (.iconst 0, 1) := by decide +kernel
theorem dX8_comingRound_28 : decode cX8_comingRound 28 = .ok (.istore 4, 2) := by decide +kernel
theorem dX8_comingRound_30 : decode cX8_comingRound 30 = .ok (.iconst 0, 1) := by decide +kernel
theorem dX8_comingRound_31 : decode cX8_comingRound 31 = .ok (.istore 5, 2) := by decide +kernel
theorem dX8_comingRound_33 : decode cX8_comingRound 33 = .ok (.iconst 0, 1) := by decide +kernel
theorem dX8_comingRound_34 : decode cX8_comingRound 34 = .ok (.istore 6, 2) := by decide +kernel
theorem dX8_comingRound_36 : decode cX8_comingRound 36 = .ok (.iload 6, 2) := by decide +kernel
theorem dX8_comingRound_38 : decode cX8_comingRound 38 = .ok (.iload_n 3, 1) := by decide +kernel
theorem dX8_comingRound_39 : decode cX8_comingRound 39 = .ok (.if_icmp .ge 75, 3) := by decide +kernel
theorem dX8_comingRound_42 : decode cX8_comingRound 42 = .ok (.iload 5, 2) := by decide +kernel
theorem dX8_comingRound_44 : decode cX8_comingRound 44 = .ok (.istore 7, 2) := by decide +kernel
theorem dX8_comingRound_46 : decode cX8_comingRound 46 = .ok (.iload 7, 2) := by decide +kernel
theorem dX8_comingRound_48 : decode cX8_comingRound 48 = .ok (.iload_n 2, 1) := by decide +kernel
theorem dX8_comingRound_49 : decode cX8_comingRound 49 = .ok (.if_icmp .ge 36, 3) := by decide +kernel
theorem dX8_comingRound_52 : decode cX8_comingRound 52 = .ok (.aload_n 0, 1) := by decide +kernel
theorem dX8_comingRound_53 : decode cX8_comingRound 53 = .ok (.getfield 25, 3) := by decide +kernel
theorem dX8_comingRound_56 : decode cX8_comingRound 56 = .ok (.iload 7, 2) := by decide +kernel
theorem dX8_comingRound_58 : decode cX8_comingRound 58 = .ok (.iconst 1, 1) := by decide +kernel
theorem dX8_comingRound_59 : decode cX8_comingRound 59 = .ok (.iadd, 1) := by decide +kernel
theorem dX8_comingRound_60 : decode cX8_comingRound 60 = .ok (.aload_n 1, 1) := by decide +kernel
theorem dX8_comingRound_61 : decode cX8_comingRound 61 = .ok (.aload_n 0, 1) := by decide +kernel
theorem dX8_comingRound_62 : decode cX8_comingRound 62 = .ok (.getfield 25, 3) := by decide +kernel
theorem dX8_comingRound_65 : decode cX8_comingRound 65 = .ok (.iload 7, 2) := by decide +kernel
theorem dX8_comingRound_67 : decode cX8_comingRound 67 = .ok (.iaload, 1) := by decide +kernel
theorem dX8_comingRound_68 : decode cX8_comingRound 68 = .ok (.aload_n 0, 1) := by decide +kernel
theorem dX8_comingRound_69 : decode cX8_comingRound 69 = .ok (.getfield 22, 3) := by decide +kernel
theorem dX8_comingRound_72 : decode cX8_comingRound 72 = .ok (.iload 7, 2) := by decide +kernel
theorem dX8_comingRound_74 : decode cX8_comingRound 74 = .ok (.iaload, 1) := by decide +kernel
theorem dX8_comingRound_75 : decode cX8_comingRound 75 = .ok (.invokevirtual 80, 3) := by decide +kernel
theorem dX8_comingRound_78 : decode cX8_comingRound 78 = .ok (.iastore, 1) := by decide +kernel
theorem dX8_comingRound_79 : decode cX8_comingRound 79 = .ok (.iinc 7 1, 3) := by decide +kernel
theorem dX8_comingRound_82 : decode cX8_comingRound 82 = .ok (.goto (-36), 3) := by decide +kernel
theorem dX8_comingRound_85 : decode cX8_comingRound 85 = .ok (.aload_n 0, 1) := by decide +kernel
theorem dX8_comingRound_86 : decode cX8_comingRound 86 = .ok (.aload_n 1, 1) := by decide +kernel
theorem dX8_comingRound_87 : decode cX8_comingRound 87 = .ok (.iload_n 2, 1) := by decide +kernel
theorem dX8_comingRound_88 : decode cX8_comingRound 88 = .ok (.invokevirtual 91, 3) := by decide +kernel
theorem dX8_comingRound_91 : decode cX8_comingRound 91 = .ok (.ifCond .eq 6, 3) := by decide +kernel
theorem dX8_comingRound_94 : decode cX8_comingRound 94 = .ok (.iinc 4 1, 3) := by decide +kernel
theorem dX8_comingRound_97 : decode cX8_comingRound 97 = .ok (.aload_n 0, 1) := by decide +kernel
theorem dX8_comingRound_98 : decode cX8_comingRound 98 = .ok (.aload_n 1, 1) := by decide +kernel
theorem dX8_comingRound_99 : decode cX8_comingRound 99 = .ok (.getfield 57, 3) := by decide +kernel
theorem dX8_comingRound_102 : decode cX8_comingRound 102 = .ok (.iload_n 2, 1) := by decide +kernel
theorem dX8_comingRound_103 : decode cX8_comingRound 103 = .ok (.invokevirtual 95, 3) := by decide +kernel
theorem dX8_comingRound_106 : decode cX8_comingRound 106 = .ok (.istore 5, 2) := by decide +kernel
theorem dX8_comingRound_108 : decode cX8_comingRound 108 = .ok (.iinc 6 1, 3) := by decide +kernel
theorem dX8_comingRound_111 : decode cX8_comingRound 111 = .ok (.goto (-75), 3) := by decide +kernel
theorem dX8_comingRound_114 : decode cX8_comingRound 114 = .ok (.iload 4, 2) := by decide +kernel
theorem dX8_comingRound_116 : decode cX8_comingRound 116 = .ok (.ireturn, 1) := by decide +kernel
theorem dX8_turnToNextRow_0 : decode cX8_turnToNextRow 0 = .ok (.iload_n 2, 1) := by decide +kernel
theorem dX8_turnToNextRow_1 : decode cX8_turnToNextRow 1 = .ok (.iconst 1, 1) := by decide +kernel
theorem dX8_turnToNextRow_2 : decode cX8_turnToNextRow 2 = .ok (.isub, 1) := by decide +kernel
theorem dX8_turnToNextRow_3 : decode cX8_turnToNextRow 3 = .ok (.istore_n 3, 1) := by decide +kernel
theorem dX8_turnToNextRow_4 : decode cX8_turnToNextRow 4 = .ok (.iload_n 3, 1) := by decide +kernel
theorem dX8_turnToNextRow_5 : decode cX8_turnToNextRow 5 = .ok (.ifCond .le 40, 3) := by decide +kernel
theorem dX8_turnToNextRow_8 : decode cX8_turnToNextRow 8 = .ok (.aload_n 0, 1) := by decide +kernel
theorem dX8_turnToNextRow_9 : decode cX8_turnToNextRow 9 = .ok (.getfield 22, 3) := by decide +kernel
theorem dX8_turnToNextRow_12 : decode cX8_turnToNextRow 12 = .ok (.iload_n 3, 1) := by decide +kernel
theorem dX8_turnToNextRow_13 : decode cX8_turnToNextRow 13 = .ok (.iaload, 1) := by decide +kernel
theorem dX8_turnToNextRow_14 : decode cX8_turnToNextRow 14 = .ok (.iload_n 1, 1) := by decide +kernel
theorem dX8_turnToNextRow_15 : decode cX8_turnToNextRow 15 = .ok (.iconst 1, 1) := by decide +kernel
theorem dX8_turnToNextRow_16 : decode cX8_turnToNextRow 16 = .ok (.isub, 1) := by decide +kernel
theorem dX8_turnToNextRow_17 : decode cX8_turnToNextRow 17 = .ok (.if_icmp .ge 15, 3) := by decide +kernel
theorem dX8_turnToNextRow_20 : decode cX8_turnToNextRow 20 = .ok (.aload_n 0, 1) := by decide +kernel
theorem dX8_turnToNextRow_21 : decode cX8_turnToNextRow 21 = .ok (.getfield 22, 3) := by decide +kernel
theorem dX8_turnToNextRow_24 : decode cX8_turnToNextRow 24 = .ok (.iload_n 3, 1) := by decide +kernel
theorem dX8_turnToNextRow_25 : decode cX8_turnToNextRow 25 = .ok (.dup2, 1) := by decide +kernel
theorem dX8_turnToNextRow_26 : decode cX8_turnToNextRow 26 = .ok (.iaload, 1) := by decide +kernel
theorem dX8_turnToNextRow_27 : decode cX8_turnToNextRow 27 = .ok (.iconst 1, 1) := by decide +kernel
theorem dX8_turnToNextRow_28 : decode cX8_turnToNextRow 28 = .ok (.iadd, 1) := by decide +kernel
theorem dX8_turnToNextRow_29 : decode cX8_turnToNextRow 29 = .ok (.iastore, 1) := by decide +kernel
theorem dX8_turnToNextRow_30 : decode cX8_turnToNextRow 30 = .ok (.iload_n 3, 1) := by decide +kernel
theorem dX8_turnToNextRow_31 : decode cX8_turnToNextRow 31 = .ok (.ireturn, 1) := by decide +kernel
theorem dX8_turnToNextRow_32 : decode cX8_turnToNextRow 32 = .ok (.aload_n 0, 1) := by decide +kernel
theorem dX8_turnToNextRow_33 : decode cX8_turnToNextRow 33 = .ok (.getfield 22, 3) := by decide +kernel
theorem dX8_turnToNextRow_36 : decode cX8_turnToNextRow 36 = .ok (.iload_n 3, 1) := by decide +kernel
theorem dX8_turnToNextRow_37 : decode cX8_turnToNextRow 37 = .ok (.iconst 0, 1) := by decide +kernel
theorem dX8_turnToNextRow_38 : decode cX8_turnToNextRow 38 = .ok (.iastore, 1) := by decide +kernel
theorem dX8_turnToNextRow_39 : decode cX8_turnToNextRow 39 = .ok (.iinc 3 (-1), 3) := by decide +kernel
theorem dX8_turnToNextRow_42 : decode cX8_turnToNextRow 42 = .ok (.goto (-38), 3) := by decide +kernel
theorem dX8_turnToNextRow_45 : decode cX8_turnToNextRow 45 = .ok (.aload_n 0, 1) := by decide +kernel
theorem dX8_turnToNextRow_46 : decode cX8_turnToNextRow 46 = .ok (.getfield 22, 3) := by decide +kernel
theorem dX8_turnToNextRow_49 : decode cX8_turnToNextRow 49 = .ok (.iconst 0, 1) := by decide +kernel
theorem dX8_turnToNextRow_50 : decode cX8_turnToNextRow 50 = .ok (.dup2, 1) := by decide +kernel
theorem dX8_turnToNextRow_51 : decode cX8_turnToNextRow 51 = .ok (.iaload, 1) := by decide +kernel
theorem dX8_turnToNextRow_52 : decode cX8_turnToNextRow 52 = .ok (.iconst 1, 1) := by decide +kernel
theorem dX8_turnToNextRow_53 : decode cX8_turnToNextRow 53 = .ok (.iadd, 1) := by decide +kernel
theorem dX8_turnToNextRow_54 : decode cX8_turnToNextRow 54 = .ok (.iastore, 1) := by decide +kernel
theorem dX8_turnToNextRow_55 : decode cX8_turnToNextRow 55 = .ok (.iconst 0, 1) := by decide +kernel
theorem dX8_turnToNextRow_56 : decode cX8_turnToNextRow 56 = .ok (.ireturn, 1) := by decide +kernel
set_option maxRecDepth 20000 in
theorem ggX8_lasts_X1_step : GoodIn wsX8_lasts wsX1_step := goodIn_r _ [8, 9, 10, 11, 12, 13, 14, 15, 16, 17] (by decide +kernel) (by decide +kernel)
set_option maxRecDepth 20000 in
theorem gX8_lasts_X1_step : GoodIn wsX8_lasts (wsV RX8 80 RX1 yX1_step wsX1_step) := goodIn_app (goodIn_of _ (by decide +kernel)) ggX8_lasts_X1_step
theorem dX8_lasts_0 : decode cX8_lasts 0 = .ok (.aload_n 1, 1) := by decide +kernel
theorem dX8_lasts_1 : decode cX8_lasts 1 = .ok (.getfield 37, 3) := by decide +kernel
theorem dX8_lasts_4 : decode cX8_lasts 4 = .ok (.istore_n 3, 1) := by decide +kernel
theorem dX8_lasts_5 : decode cX8_lasts 5 = .ok (.aload_n 0, 1) := by decide +kernel
theorem dX8_lasts_6 : decode cX8_lasts 6 = .ok (.getfield 25, 3) := by decide +kernel
theorem dX8_lasts_9 : decode cX8_lasts 9 = .ok (.iload_n 2, 1) := by decide +kernel
theorem dX8_lasts_10 : decode cX8_lasts 10 = .ok (.iaload, 1) := by decide +kernel
theorem dX8_lasts_11 : decode cX8_lasts 11 = .ok (.istore 4, 2) := by decide +kernel
theorem dX8_lasts_13 : decode cX8_lasts 13 = .ok (.iconst 0, 1) := by decide +kernel
theorem dX8_lasts_14 : decode cX8_lasts 14 = .ok (.istore 5, 2) := by decide +kernel
theorem dX8_lasts_16 : decode cX8_lasts 16 = .ok (.iload 5, 2) := by decide +kernel
theorem dX8_lasts_18 : decode cX8_lasts 18 = .ok (.bipush 16, 2) := by decide +kernel
theorem dX8_lasts_20 : decode cX8_lasts 20 = .ok (.if_icmp .ge 53, 3) := by decide +kernel
theorem dX8_lasts_23 : decode cX8_lasts 23 = .ok (.iload 4, 2) := by decide +kernel
theorem dX8_lasts_25 : decode cX8_lasts 25 = .ok (.iload_n 3, 1) := by decide +kernel
theorem dX8_lasts_26 : decode cX8_lasts 26 = .ok (.if_icmp .eq 47, 3) := by decide +kernel
theorem dX8_lasts_29 : decode cX8_lasts 29 = .ok (.iload 4, 2) := by decide +kernel
theorem dX8_lasts_31 : decode cX8_lasts 31 = .ok (.ifCond .eq 42, 3) := by decide +kernel
theorem dX8_lasts_34 : decode cX8_lasts 34 = .ok (.iload 4, 2) := by decide +kernel
theorem dX8_lasts_36 : decode cX8_lasts 36 = .ok (.istore_n 3, 1) := by decide +kernel
theorem dX8_lasts_37 : decode cX8_lasts 37 = .ok (.iconst 0, 1) := by decide +kernel
theorem dX8_lasts_38 : decode cX8_lasts 38 = .ok (.istore 6, 2) := by decide +kernel
theorem dX8_lasts_40 : decode cX8_lasts 40 = .ok (.iload 6, 2) := by decide +kernel
theorem dX8_lasts_42 : decode cX8_lasts 42 = .ok (.iload_n 2, 1) := by decide +kernel
theorem dX8_lasts_43 : decode cX8_lasts 43 = .ok (.if_icmp .ge 24, 3) := by decide +kernel
theorem dX8_lasts_46 : decode cX8_lasts 46 = .ok (.aload_n 1, 1) := by decide +kernel
theorem dX8_lasts_47 : decode cX8_lasts 47 = .ok (.iload 4, 2) := by decide +kernel
theorem dX8_lasts_49 : decode cX8_lasts 49 = .ok (.aload_n 0, 1) := by decide +kernel
theorem dX8_lasts_50 : decode cX8_lasts 50 = .ok (.getfield 22, 3) := by decide +kernel
theorem dX8_lasts_53 : decode cX8_lasts 53 = .ok (.iload 6, 2) := by decide +kernel
theorem dX8_lasts_55 : decode cX8_lasts 55 = .ok (.iaload, 1) := by decide +kernel
theorem dX8_lasts_56 : decode cX8_lasts 56 = .ok (.invokevirtual 80, 3) := by decide +kernel
theorem dX8_lasts_59 : decode cX8_lasts 59 = .ok (.istore 4, 2) := by decide +kernel
theorem dX8_lasts_61 : decode cX8_lasts 61 = .ok (.iinc 6 1, 3) := by decide +kernel
theorem dX8_lasts_64 : decode cX8_lasts 64 = .ok (.goto (-24), 3) := by decide +kernel
theorem dX8_lasts_67 : decode cX8_lasts 67 = .ok (.iinc 5 1, 3) := by decide +kernel
theorem dX8_lasts_70 : decode cX8_lasts 70 = .ok (.goto (-54), 3) := by decide +kernel
theorem dX8_lasts_73 : decode cX8_lasts 73 = .ok (.iload 4, 2) := by decide +kernel
theorem dX8_lasts_75 : decode cX8_lasts 75 = .ok (.ifCond .eq 7, 3) := by decide +kernel
theorem dX8_lasts_78 : decode cX8_lasts 78 = .ok (.iconst 1, 1) := by decide +kernel
theorem dX8_lasts_79 : decode cX8_lasts 79 = .ok (.goto 4, 3) := by decide +kernel
theorem dX8_lasts_82 : decode cX8_lasts 82 = .ok (.iconst 0, 1) := by decide +kernel
theorem dX8_lasts_83 : decode cX8_lasts 83 = .ok (.ireturn, 1) := by decide +kernel
theorem dJ7_fill_d0a16_0 : decode cJ7_fill_d0a16 0 = .ok (.iconst 0, 1) := by decide +kernel
theorem dJ7_fill_d0a16_1 : decode cJ7_fill_d0a16 1 = .ok (.istore_n 3, 1) := by decide +kernel
theorem dJ7_fill_d0a16_2 : decode cJ7_fill_d0a16 2 = .ok (.aload_n 0, 1) := by decide +kernel
theorem dJ7_fill_d0a16_3 : decode cJ7_fill_d0a16 3 = .ok (.arraylength, 1) := by decide +kernel
theorem dJ7_fill_d0a16_4 : decode cJ7_fill_d0a16 4 = .ok (.istore 4, 2) := by decide +kernel
theorem dJ7_fill_d0a16_6 : decode cJ7_fill_d0a16 6 = .ok (.iload_n 3, 1) := by decide +kernel
theorem dJ7_fill_d0a16_7 : decode cJ7_fill_d0a16 7 = .ok (.iload 4, 2) := by decide +kernel
theorem dJ7_fill_d0a16_9 : decode cJ7_fill_d0a16 9 = .ok (.if_icmp .ge 13, 3) := by decide +kernel
theorem dJ7_fill_d0a16_12 : decode cJ7_fill_d0a16 12 = .ok (.aload_n 0, 1) := by decide +kernel
theorem dJ7_fill_d0a16_13 : decode cJ7_fill_d0a16 13 = .ok (.iload_n 3, 1) := by decide +kernel
theorem dJ7_fill_d0a16_14 : decode cJ7_fill_d0a16 14 = .ok (.lload_n 1, 1) := by decide +kernel
theorem dJ7_fill_d0a16_15 : decode cJ7_fill_d0a16 15 = .ok (.lastore, 1) := by decide +kernel
theorem dJ7_fill_d0a16_16 : decode cJ7_fill_d0a16 16 = .ok (.iinc 3 1, 3) := by decide +kernel
theorem dJ7_fill_d0a16_19 : decode cJ7_fill_d0a16 19 = .ok (.goto (-13), 3) := by decide +kernel
theorem dJ7_fill_d0a16_22 : decode cJ7_fill_d0a16 22 = .ok (.return_, 1) := by decide +kernel
theorem dJ7_fill_53178_0 : decode cJ7_fill_53178 0 = .ok (.iconst 0, 1) := by decide +kernel
theorem dJ7_fill_53178_1 : decode cJ7_fill_53178 1 = .ok (.istore_n 2, 1) := by decide +kernel
theorem dJ7_fill_53178_2 : decode cJ7_fill_53178 2 = .ok (.aload_n 0, 1) := by decide +kernel
theorem dJ7_fill_53178_3 : decode cJ7_fill_53178 3 = .ok (.arraylength, 1) := by decide +kernel
theorem dJ7_fill_53178_4 : decode cJ7_fill_53178 4 = .ok (.istore_n 3, 1) := by decide +kernel
theorem dJ7_fill_53178_5 : decode cJ7_fill_53178 5 = .ok (.iload_n 2, 1) := by decide +kernel
theorem dJ7_fill_53178_6 : decode cJ7_fill_53178 6 = .ok (.iload_n 3, 1) := by decide +kernel
theorem dJ7_fill_53178_7 : decode cJ7_fill_53178 7 = .ok (.if_icmp .ge 13, 3) := by decide +kernel
theorem dJ7_fill_53178_10 : decode cJ7_fill_53178 10 = .ok (.aload_n 0, 1) := by decide +kernel
theorem dJ7_fill_53178_11 : decode cJ7_fill_53178 11 = .ok (.iload_n 2, 1) := by decide +kernel
theorem dJ7_fill_53178_12 : decode cJ7_fill_53178 12 = .ok (.iload_n 1, 1) := by decide +kernel
theorem dJ7_fill_53178_13 : decode cJ7_fill_53178 13 = .ok (.iastore, 1) := by decide +kernel
theorem dJ7_fill_53178_14 : decode cJ7_fill_53178 14 = .ok (.iinc 2 1, 3) := by decide +kernel
theorem dJ7_fill_53178_17 : decode cJ7_fill_53178 17 = .ok (.goto (-12), 3) := by decide +kernel
theorem dJ7_fill_53178_20 : decode cJ7_fill_53178 20 = .ok (.return_, 1) := by decide +kernel
theorem dJ7_copyOf_59c91_0 : decode cJ7_copyOf_59c91 0 = .ok (.iload_n 1, 1) := by decide +kernel
theorem dJ7_copyOf_59c91_1 : decode cJ7_copyOf_59c91 1 = .ok (.aload_n 0, 1) := by decide +kernel
theorem dJ7_copyOf_59c91_2 : decode cJ7_copyOf_59c91 2 = .ok (.arraylength, 1) := by decide +kernel
theorem dJ7_copyOf_59c91_3 : decode cJ7_copyOf_59c91 3 = .ok (.if_icmp .ne 11, 3) := by decide +kernel
theorem dJ7_copyOf_59c91_6 : decode cJ7_copyOf_59c91 6 = .ok (.aload_n 0, 1) := by decide +kernel
theorem dJ7_copyOf_59c91_7 : decode cJ7_copyOf_59c91 7 = .ok (.invokevirtual 316, 3) := by decide +kernel
theorem dJ7_copyOf_59c91_10 : decode cJ7_copyOf_59c91 10 = .ok (.checkcast 317, 3) := by decide +kernel
theorem dJ7_copyOf_59c91_13 : decode cJ7_copyOf_59c91 13 = .ok (.areturn, 1) := by decide +kernel
theorem dJ7_copyOf_59c91_14 : decode cJ7_copyOf_59c91 14 = .ok (.iload_n 1, 1) := by decide +kernel
theorem dJ7_copyOf_59c91_15 : decode cJ7_copyOf_59c91 15 = .ok (.newarray .int, 2) := by decide +kernel
theorem dJ7_copyOf_59c91_17 : decode cJ7_copyOf_59c91 17 = .ok (.astore_n 2, 1) := by decide +kernel
theorem dJ7_copyOf_59c91_18 : decode cJ7_copyOf_59c91 18 = .ok (.aload_n 0, 1) := by decide +kernel
theorem dJ7_copyOf_59c91_19 : decode cJ7_copyOf_59c91 19 = .ok (.iconst 0, 1) := by decide +kernel
theorem dJ7_copyOf_59c91_20 : decode cJ7_copyOf_59c91 20 = .ok (.aload_n 2, 1) := by decide +kernel
theorem dJ7_copyOf_59c91_21 : decode cJ7_copyOf_59c91 21 = .ok (.iconst 0, 1) := by decide +kernel
theorem dJ7_copyOf_59c91_22 : decode cJ7_copyOf_59c91 22 = .ok (.aload_n 0, 1) := by decide +kernel
theorem dJ7_copyOf_59c91_23 : decode cJ7_copyOf_59c91 23 = .ok (.arraylength, 1) := by decide +kernel
theorem dJ7_copyOf_59c91_24 : decode cJ7_copyOf_59c91 24 = .ok (.iload_n 1, 1) := by decide +kernel
theorem dJ7_copyOf_59c91_25 : decode cJ7_copyOf_59c91 25 = .ok (.invokestatic 304, 3) := by decide +kernel
theorem dJ7_copyOf_59c91_28 : decode cJ7_copyOf_59c91 28 = .ok (.invokestatic 150, 3) := by decide +kernel
theorem dJ7_copyOf_59c91_31 : decode cJ7_copyOf_59c91 31 = .ok (.aload_n 2, 1) := by decide +kernel
theorem dJ7_copyOf_59c91_32 : decode cJ7_copyOf_59c91 32 = .ok (.areturn, 1) := by decide +kernel
theorem dJ7_copyOf_c38d5_0 : decode cJ7_copyOf_c38d5 0 = .ok (.iload_n 1, 1) := by decide +kernel
theorem dJ7_copyOf_c38d5_1 : decode cJ7_copyOf_c38d5 1 = .ok (.aload_n 0, 1) := by decide +kernel
theorem dJ7_copyOf_c38d5_2 : decode cJ7_copyOf_c38d5 2 = .ok (.arraylength, 1) := by decide +kernel
theorem dJ7_copyOf_c38d5_3 : decode cJ7_copyOf_c38d5 3 = .ok (.if_icmp .ne 11, 3) := by decide +kernel
theorem dJ7_copyOf_c38d5_6 : decode cJ7_copyOf_c38d5 6 = .ok (.aload_n 0, 1) := by decide +kernel
theorem dJ7_copyOf_c38d5_7 : decode cJ7_copyOf_c38d5 7 = .ok (.invokevirtual 319, 3) := by decide +kernel
theorem dJ7_copyOf_c38d5_10 : decode cJ7_copyOf_c38d5 10 = .ok (.checkcast 320, 3) := by decide +kernel
theorem dJ7_copyOf_c38d5_13 : decode cJ7_copyOf_c38d5 13 = .ok (.areturn, 1) := by decide +kernel
theorem dJ7_copyOf_c38d5_14 : decode cJ7_copyOf_c38d5 14 = .ok (.iload_n 1, 1) := by decide +kernel
theorem dJ7_copyOf_c38d5_15 : decode cJ7_copyOf_c38d5 15 = .ok (.newarray .long, 2) := by decide +kernel
theorem dJ7_copyOf_c38d5_17 : decode cJ7_copyOf_c38d5 17 = .ok (.astore_n 2, 1) := by decide +kernel
theorem dJ7_copyOf_c38d5_18 : decode cJ7_copyOf_c38d5 18 = .ok (.aload_n 0, 1) := by decide +kernel
theorem dJ7_copyOf_c38d5_19 : decode cJ7_copyOf_c38d5 19 = .ok (.iconst 0, 1) := by decide +kernel
theorem dJ7_copyOf_c38d5_20 : decode cJ7_copyOf_c38d5 20 = .ok (.aload_n 2, 1) := by decide +kernel
theorem dJ7_copyOf_c38d5_21 : decode cJ7_copyOf_c38d5 21 = .ok (.iconst 0, 1) := by decide +kernel
theorem dJ7_copyOf_c38d5_22 : decode cJ7_copyOf_c38d5 22 = .ok (.aload_n 0, 1) := by decide +kernel
theorem dJ7_copyOf_c38d5_23 : decode cJ7_copyOf_c38d5 23 = .ok (.arraylength, 1) := by decide +kernel
theorem dJ7_copyOf_c38d5_24 : decode cJ7_copyOf_c38d5 24 = .ok (.iload_n 1, 1) := by decide +kernel
theorem dJ7_copyOf_c38d5_25 : decode cJ7_copyOf_c38d5 25 = .ok (.invokestatic 304, 3) := by decide +kernel
theorem dJ7_copyOf_c38d5_28 : decode cJ7_copyOf_c38d5 28 = .ok (.invokestatic 150, 3) := by decide +kernel
theorem dJ7_copyOf_c38d5_31 : decode cJ7_copyOf_c38d5 31 = .ok (.aload_n 2, 1) := by decide +kernel
theorem dJ7_copyOf_c38d5_32 : decode cJ7_copyOf_c38d5 32 = .ok (.areturn, 1) := by decide +kernel
