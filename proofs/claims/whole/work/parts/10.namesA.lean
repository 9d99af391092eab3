theorem dX0_init_0 : decode cX0_init 0 = .ok (.aload_n 0, 1) := by decide +kernel
theorem dX0_init_1 : decode cX0_init 1 = .ok (.invokespecial 3, 3) := by decide +kernel
theorem dX0_init_4 : decode cX0_init 4 = .ok (.aload_n 0, 1) := by decide +kernel
theorem dX0_init_5 : decode cX0_init 5 = .ok (.bipush 8, 2) := by decide +kernel
theorem dX0_init_7 : decode cX0_init 7 = .ok (.newarray .int, 2) := by decide +kernel
theorem dX0_init_9 : decode cX0_init 9 = .ok (.putfield 9, 3) := by decide +kernel
theorem dX0_init_12 : decode cX0_init 12 = .ok (.aload_n 0, 1) := by decide +kernel
theorem dX0_init_13 : decode cX0_init 13 = .ok (.bipush 40, 2) := by decide +kernel
theorem dX0_init_15 : decode cX0_init 15 = .ok (.newarray .int, 2) := by decide +kernel
theorem dX0_init_17 : decode cX0_init 17 = .ok (.putfield 15, 3) := by decide +kernel
theorem dX0_init_20 : decode cX0_init 20 = .ok (.aload_n 0, 1) := by decide +kernel
theorem dX0_init_21 : decode cX0_init 21 = .ok (.iconst 5, 1) := by decide +kernel
theorem dX0_init_22 : decode cX0_init 22 = .ok (.newarray .int, 2) := by decide +kernel
theorem dX0_init_24 : decode cX0_init 24 = .ok (.putfield 18, 3) := by decide +kernel
theorem dX0_init_27 : decode cX0_init 27 = .ok (.return_, 1) := by decide +kernel
theorem dX0_add_0 : decode cX0_add 0 = .ok (.aload_n 0, 1) := by decide +kernel
theorem dX0_add_1 : decode cX0_add 1 = .ok (.getfield 9, 3) := by decide +kernel
theorem dX0_add_4 : decode cX0_add 4 = .ok (.aload_n 0, 1) := by decide +kernel
theorem dX0_add_5 : decode cX0_add 5 = .ok (.getfield 21, 3) := by decide +kernel
theorem dX0_add_8 : decode cX0_add 8 = .ok (.iload_n 2, 1) := by decide +kernel
theorem dX0_add_9 : decode cX0_add 9 = .ok (.iastore, 1) := by decide +kernel
theorem dX0_add_10 : decode cX0_add 10 = .ok (.iconst 0, 1) := by decide +kernel
theorem dX0_add_11 : decode cX0_add 11 = .ok (.istore_n 3, 1) := by decide +kernel
theorem dX0_add_12 : decode cX0_add 12 = .ok (.iload_n 3, 1) := by decide +kernel
theorem dX0_add_13 : decode cX0_add 13 = .ok (.iload_n 2, 1) := by decide +kernel
theorem dX0_add_14 : decode cX0_add 14 = .ok (.if_icmp .ge 25, 3) := by decide +kernel
theorem dX0_add_17 : decode cX0_add 17 = .ok (.aload_n 0, 1) := by decide +kernel
theorem dX0_add_18 : decode cX0_add 18 = .ok (.getfield 15, 3) := by decide +kernel
theorem dX0_add_21 : decode cX0_add 21 = .ok (.aload_n 0, 1) := by decide +kernel
theorem dX0_add_22 : decode cX0_add 22 = .ok (.getfield 21, 3) := by decide +kernel
theorem dX0_add_25 : decode cX0_add 25 = .ok (.iconst 5, 1) := by decide +kernel
theorem dX0_add_26 : decode cX0_add 26 = .ok (.imul, 1) := by decide +kernel
theorem dX0_add_27 : decode cX0_add 27 = .ok (.iload_n 3, 1) := by decide +kernel
theorem dX0_add_28 : decode cX0_add 28 = .ok (.iadd, 1) := by decide +kernel
theorem dX0_add_29 : decode cX0_add 29 = .ok (.aload_n 1, 1) := by decide +kernel
theorem dX0_add_30 : decode cX0_add 30 = .ok (.iload_n 3, 1) := by decide +kernel
theorem dX0_add_31 : decode cX0_add 31 = .ok (.iaload, 1) := by decide +kernel
theorem dX0_add_32 : decode cX0_add 32 = .ok (.iastore, 1) := by decide +kernel
theorem dX0_add_33 : decode cX0_add 33 = .ok (.iinc 3 1, 3) := by decide +kernel
theorem dX0_add_36 : decode cX0_add 36 = .ok (.goto (-24), 3) := by decide +kernel
theorem dX0_add_39 : decode cX0_add 39 = .ok (.aload_n 0, 1) := by decide +kernel
theorem dX0_add_40 : decode cX0_add 40 = .ok (.dup, 1) := by decide +kernel
theorem dX0_add_41 : decode cX0_add 41 = .ok (.getfield 21, 3) := by decide +kernel
theorem dX0_add_44 : decode cX0_add 44 = .ok (.iconst 1, 1) := by decide +kernel
theorem dX0_add_45 : decode cX0_add 45 = .ok (.iadd, 1) := by decide +kernel
theorem dX0_add_46 : decode cX0_add 46 = .ok (.putfield 21, 3) := by decide +kernel
theorem dX0_add_49 : decode cX0_add 49 = .ok (.return_, 1) := by decide +kernel
theorem dX0_greatestLetter_0 : decode cX0_greatestLetter 0 = .ok (.iconst 0, 1) := by decide +kernel
theorem dX0_greatestLetter_1 : decode cX0_greatestLetter 1 = .ok (.istore_n 1, 1) := by decide +kernel
theorem dX0_greatestLetter_2 : decode cX0_greatestLetter 2 = .ok (.iconst 0, 1) := by decide +kernel
theorem dX0_greatestLetter_3 : decode cX0_greatestLetter 3 = .ok (.istore_n 2, 1) := by decide +kernel
theorem dX0_greatestLetter_4 : decode cX0_greatestLetter 4 = .ok (.iload_n 2, 1) := by decide +kernel
theorem dX0_greatestLetter_5 : decode cX0_greatestLetter 5 = .ok (.aload_n 0, 1) := by decide +kernel
theorem dX0_greatestLetter_6 : decode cX0_greatestLetter 6 = .ok (.getfield 21, 3) := by decide +kernel
theorem dX0_greatestLetter_9 : decode cX0_greatestLetter 9 = .ok (.if_icmp .ge 42, 3) := by decide +kernel
theorem dX0_greatestLetter_12 : decode cX0_greatestLetter 12 = .ok (.iconst 0, 1) := by decide +kernel
theorem dX0_greatestLetter_13 : decode cX0_greatestLetter 13 = .ok (.istore_n 3, 1) := by decide +kernel
theorem dX0_greatestLetter_14 : decode cX0_greatestLetter 14 = .ok (.iload_n 3, 1) := by decide +kernel
theorem dX0_greatestLetter_15 : decode cX0_greatestLetter 15 = .ok (.aload_n 0, 1) := by decide +kernel
theorem dX0_greatestLetter_16 : decode cX0_greatestLetter 16 = .ok (.getfield 9, 3) := by decide +kernel
theorem dX0_greatestLetter_19 : decode cX0_greatestLetter 19 = .ok (.iload_n 2, 1) := by decide +kernel
theorem dX0_greatestLetter_20 : decode cX0_greatestLetter 20 = .ok (.iaload, 1) := by decide +kernel
theorem dX0_greatestLetter_21 : decode cX0_greatestLetter 21 = .ok (.if_icmp .ge 24, 3) := by decide +kernel
theorem dX0_greatestLetter_24 : decode cX0_greatestLetter 24 = .ok (.iload_n 1, 1) := by decide +kernel
theorem dX0_greatestLetter_25 : decode cX0_greatestLetter 25 = .ok (.aload_n 0, 1) := by decide +kernel
theorem dX0_greatestLetter_26 : decode cX0_greatestLetter 26 = .ok (.getfield 15, 3) := by decide +kernel
theorem dX0_greatestLetter_29 : decode cX0_greatestLetter 29 = .ok (.iload_n 2, 1) := by decide +kernel
theorem dX0_greatestLetter_30 : decode cX0_greatestLetter 30 = .ok (.iconst 5, 1) := by decide +kernel
theorem dX0_greatestLetter_31 : decode cX0_greatestLetter 31 = .ok (.imul, 1) := by decide +kernel
theorem dX0_greatestLetter_32 : decode cX0_greatestLetter 32 = .ok (.iload_n 3, 1) := by decide +kernel
theorem dX0_greatestLetter_33 : decode cX0_greatestLetter 33 = .ok (.iadd, 1) := by decide +kernel
theorem dX0_greatestLetter_34 : decode cX0_greatestLetter 34 = .ok (.iaload, 1) := by decide +kernel
theorem dX0_greatestLetter_35 : decode cX0_greatestLetter 35 = .ok (.invokestatic 25, 3) := by decide +kernel
theorem dX0_greatestLetter_38 : decode cX0_greatestLetter 38 = .ok (.istore_n 1, 1) := by decide +kernel
theorem dX0_greatestLetter_39 : decode cX0_greatestLetter 39 = .ok (.iinc 3 1, 3) := by decide +kernel
theorem dX0_greatestLetter_42 : decode cX0_greatestLetter 42 = .ok (.goto (-28), 3) := by decide +kernel
theorem dX0_greatestLetter_45 : decode cX0_greatestLetter 45 = .ok (.iinc 2 1, 3) := by decide +kernel
theorem dX0_greatestLetter_48 : decode cX0_greatestLetter 48 = .ok (.goto (-44), 3) := by decide +kernel
theorem dX0_greatestLetter_51 : decode cX0_greatestLetter 51 = .ok (.iload_n 1, 1) := by decide +kernel
theorem dX0_greatestLetter_52 : decode cX0_greatestLetter 52 = .ok (.ireturn, 1) := by decide +kernel
theorem dX0_longest_0 : decode cX0_longest 0 = .ok (.iconst 2, 1) := by decide +kernel
theorem dX0_longest_1 : decode cX0_longest 1 = .ok (.istore_n 1, 1) := by decide +kernel
theorem dX0_longest_2 : decode cX0_longest 2 = .ok (.iconst 0, 1) := by decide +kernel
theorem dX0_longest_3 : decode cX0_longest 3 = .ok (.istore_n 2, 1) := by decide +kernel
theorem dX0_longest_4 : decode cX0_longest 4 = .ok (.iload_n 2, 1) := by decide +kernel
theorem dX0_longest_5 : decode cX0_longest 5 = .ok (.aload_n 0, 1) := by decide +kernel
theorem dX0_longest_6 : decode cX0_longest 6 = .ok (.getfield 21, 3) := by decide +kernel
theorem dX0_longest_9 : decode cX0_longest 9 = .ok (.if_icmp .ge 20, 3) := by decide +kernel
theorem dX0_longest_12 : decode cX0_longest 12 = .ok (.iload_n 1, 1) := by decide +kernel
theorem dX0_longest_13 : decode cX0_longest 13 = .ok (.aload_n 0, 1) := by decide +kernel
theorem dX0_longest_14 : decode cX0_longest 14 = .ok (.getfield 9, 3) := by decide +kernel
theorem dX0_longest_17 : decode cX0_longest 17 = .ok (.iload_n 2, 1) := by decide +kernel
theorem dX0_longest_18 : decode cX0_longest 18 = .ok (.iaload, 1) := by decide +kernel
theorem dX0_longest_19 : decode cX0_longest 19 = .ok (.invokestatic 25, 3) := by decide +kernel
theorem dX0_longest_22 : decode cX0_longest 22 = .ok (.istore_n 1, 1) := by decide +kernel
theorem dX0_longest_23 : decode cX0_longest 23 = .ok (.iinc 2 1, 3) := by decide +kernel
theorem dX0_longest_26 : decode cX0_longest 26 = .ok (.goto (-22), 3) := by decide +kernel
theorem dX0_longest_29 : decode cX0_longest 29 = .ok (.iload_n 1, 1) := by decide +kernel
theorem dX0_longest_30 : decode cX0_longest 30 = .ok (.ireturn, 1) := by decide +kernel
set_option maxRecDepth 20000 in
theorem ggX0_layWays_X0_writeRow : GoodIn wsX0_layWays wsX0_writeRow := goodIn_r _ [8, 3, 38, 39, 40, 41] (by decide +kernel) (by decide +kernel)
set_option maxRecDepth 20000 in
theorem gX0_layWays_X0_writeRow : GoodIn wsX0_layWays (wsV RX0 38 RX0 yX0_writeRow wsX0_writeRow) := goodIn_app (goodIn_of _ (by decide +kernel)) ggX0_layWays_X0_writeRow
set_option maxRecDepth 20000 in
theorem ggX0_layWays_X0_standsInRow : GoodIn wsX0_layWays wsX0_standsInRow := goodIn_r _ [12, 13, 14, 15, 16, 17, 7, 18, 3, 19, 38, 39, 40, 41] (by decide +kernel) (by decide +kernel)
set_option maxRecDepth 20000 in
theorem gX0_layWays_X0_standsInRow : GoodIn wsX0_layWays (wsV RX0 42 RX0 yX0_standsInRow wsX0_standsInRow) := goodIn_app (goodIn_of _ (by decide +kernel)) ggX0_layWays_X0_standsInRow
set_option maxRecDepth 20000 in
theorem ggX0_layWays_X1_turnWay : GoodIn wsX0_layWays wsX1_turnWay := goodIn_r _ [24, 25, 26, 27, 28, 29, 23, 30, 31, 32, 33, 34, 35, 36, 37] (by decide +kernel) (by decide +kernel)
set_option maxRecDepth 20000 in
theorem gX0_layWays_X1_turnWay : GoodIn wsX0_layWays (wsV RX0 46 RX1 yX1_turnWay wsX1_turnWay) := goodIn_app (goodIn_of _ (by decide +kernel)) ggX0_layWays_X1_turnWay
theorem dX0_layWays_0 : decode cX0_layWays 0 = .ok (.aload_n 1, 1) := by decide +kernel
theorem dX0_layWays_1 : decode cX0_layWays 1 = .ok (.getfield 31, 3) := by decide +kernel
theorem dX0_layWays_4 : decode cX0_layWays 4 = .ok (.aload_n 1, 1) := by decide +kernel
theorem dX0_layWays_5 : decode cX0_layWays 5 = .ok (.getfield 36, 3) := by decide +kernel
theorem dX0_layWays_8 : decode cX0_layWays 8 = .ok (.imul, 1) := by decide +kernel
theorem dX0_layWays_9 : decode cX0_layWays 9 = .ok (.istore_n 3, 1) := by decide +kernel
theorem dX0_layWays_10 : decode cX0_layWays 10 = .ok (.iconst 0, 1) := by decide +kernel
theorem dX0_layWays_11 : decode cX0_layWays 11 = .ok (.istore 4, 2) := by decide +kernel
theorem dX0_layWays_13 : decode cX0_layWays 13 = .ok (.iload 4, 2) := by decide +kernel
theorem dX0_layWays_15 : decode cX0_layWays 15 = .ok (.iload_n 3, 1) := by decide +kernel
theorem dX0_layWays_16 : decode cX0_layWays 16 = .ok (.if_icmp .ge 58, 3) := by decide +kernel
theorem dX0_layWays_19 : decode cX0_layWays 19 = .ok (.aload_n 0, 1) := by decide +kernel
theorem dX0_layWays_20 : decode cX0_layWays 20 = .ok (.iload 4, 2) := by decide +kernel
theorem dX0_layWays_22 : decode cX0_layWays 22 = .ok (.aload_n 1, 1) := by decide +kernel
theorem dX0_layWays_23 : decode cX0_layWays 23 = .ok (.getfield 36, 3) := by decide +kernel
theorem dX0_layWays_26 : decode cX0_layWays 26 = .ok (.iload_n 2, 1) := by decide +kernel
theorem dX0_layWays_27 : decode cX0_layWays 27 = .ok (.invokevirtual 38, 3) := by decide +kernel
theorem dX0_layWays_30 : decode cX0_layWays 30 = .ok (.aload_n 0, 1) := by decide +kernel
theorem dX0_layWays_31 : decode cX0_layWays 31 = .ok (.iload_n 2, 1) := by decide +kernel
theorem dX0_layWays_32 : decode cX0_layWays 32 = .ok (.invokevirtual 42, 3) := by decide +kernel
theorem dX0_layWays_35 : decode cX0_layWays 35 = .ok (.ifCond .ne 33, 3) := by decide +kernel
theorem dX0_layWays_38 : decode cX0_layWays 38 = .ok (.aload_n 0, 1) := by decide +kernel
theorem dX0_layWays_39 : decode cX0_layWays 39 = .ok (.getfield 18, 3) := by decide +kernel
theorem dX0_layWays_42 : decode cX0_layWays 42 = .ok (.iload_n 2, 1) := by decide +kernel
theorem dX0_layWays_43 : decode cX0_layWays 43 = .ok (.iconst 1, 1) := by decide +kernel
theorem dX0_layWays_44 : decode cX0_layWays 44 = .ok (.isub, 1) := by decide +kernel
theorem dX0_layWays_45 : decode cX0_layWays 45 = .ok (.iaload, 1) := by decide +kernel
theorem dX0_layWays_46 : decode cX0_layWays 46 = .ok (.istore 5, 2) := by decide +kernel
theorem dX0_layWays_48 : decode cX0_layWays 48 = .ok (.aload_n 1, 1) := by decide +kernel
theorem dX0_layWays_49 : decode cX0_layWays 49 = .ok (.iload 4, 2) := by decide +kernel
theorem dX0_layWays_51 : decode cX0_layWays 51 = .ok (.aload_n 1, 1) := by decide +kernel
theorem dX0_layWays_52 : decode cX0_layWays 52 = .ok (.getfield 36, 3) := by decide +kernel
theorem dX0_layWays_55 : decode cX0_layWays 55 = .ok (.idiv, 1) := by decide +kernel
theorem dX0_layWays_56 : decode cX0_layWays 56 = .ok (.iload 5, 2) := by decide +kernel
theorem dX0_layWays_58 : decode cX0_layWays 58 = .ok (.iload 4, 2) := by decide +kernel
theorem dX0_layWays_60 : decode cX0_layWays 60 = .ok (.aload_n 1, 1) := by decide +kernel
theorem dX0_layWays_61 : decode cX0_layWays 61 = .ok (.getfield 31, 3) := by decide +kernel
theorem dX0_layWays_64 : decode cX0_layWays 64 = .ok (.irem, 1) := by decide +kernel
theorem dX0_layWays_65 : decode cX0_layWays 65 = .ok (.invokevirtual 46, 3) := by decide +kernel
theorem dX0_layWays_68 : decode cX0_layWays 68 = .ok (.iinc 4 1, 3) := by decide +kernel
theorem dX0_layWays_71 : decode cX0_layWays 71 = .ok (.goto (-58), 3) := by decide +kernel
theorem dX0_layWays_74 : decode cX0_layWays 74 = .ok (.return_, 1) := by decide +kernel
theorem dX0_writeRow_0 : decode cX0_writeRow 0 = .ok (.iload_n 1, 1) := by decide +kernel
theorem dX0_writeRow_1 : decode cX0_writeRow 1 = .ok (.istore 4, 2) := by decide +kernel
theorem dX0_writeRow_3 : decode cX0_writeRow 3 = .ok (.iload_n 3, 1) := by decide +kernel
theorem dX0_writeRow_4 : decode cX0_writeRow 4 = .ok (.iconst 1, 1) := by decide +kernel
theorem dX0_writeRow_5 : decode cX0_writeRow 5 = .ok (.isub, 1) := by decide +kernel
theorem dX0_writeRow_6 : decode cX0_writeRow 6 = .ok (.istore 5, 2) := by decide +kernel
theorem dX0_writeRow_8 : decode cX0_writeRow 8 = .ok (.iload 5, 2) := by decide +kernel
theorem dX0_writeRow_10 : decode cX0_writeRow 10 = .ok (.ifCond .lt 26, 3) := by decide +kernel
theorem dX0_writeRow_13 : decode cX0_writeRow 13 = .ok (.aload_n 0, 1) := by decide +kernel
theorem dX0_writeRow_14 : decode cX0_writeRow 14 = .ok (.getfield 18, 3) := by decide +kernel
theorem dX0_writeRow_17 : decode cX0_writeRow 17 = .ok (.iload 5, 2) := by decide +kernel
theorem dX0_writeRow_19 : decode cX0_writeRow 19 = .ok (.iload 4, 2) := by decide +kernel
theorem dX0_writeRow_21 : decode cX0_writeRow 21 = .ok (.iload_n 2, 1) := by decide +kernel
theorem dX0_writeRow_22 : decode cX0_writeRow 22 = .ok (.irem, 1) := by decide +kernel
theorem dX0_writeRow_23 : decode cX0_writeRow 23 = .ok (.iastore, 1) := by decide +kernel
theorem dX0_writeRow_24 : decode cX0_writeRow 24 = .ok (.iload 4, 2) := by decide +kernel
theorem dX0_writeRow_26 : decode cX0_writeRow 26 = .ok (.iload_n 2, 1) := by decide +kernel
theorem dX0_writeRow_27 : decode cX0_writeRow 27 = .ok (.idiv, 1) := by decide +kernel
theorem dX0_writeRow_28 : decode cX0_writeRow 28 = .ok (.istore 4, 2) := by decide +kernel
theorem dX0_writeRow_30 : decode cX0_writeRow 30 = .ok (.iinc 5 (-1), 3) := by decide +kernel
theorem dX0_writeRow_33 : decode cX0_writeRow 33 = .ok (.goto (-25), 3) := by decide +kernel
theorem dX0_writeRow_36 : decode cX0_writeRow 36 = .ok (.return_, 1) := by decide +kernel
set_option maxRecDepth 20000 in
theorem ggX0_standsInRow_X0_standsAt : GoodIn wsX0_standsInRow wsX0_standsAt := goodIn_r _ [7, 2, 8, 9, 10, 11, 12, 13] (by decide +kernel) (by decide +kernel)
set_option maxRecDepth 20000 in
theorem gX0_standsInRow_X0_standsAt : GoodIn wsX0_standsInRow (wsV RX0 49 RX0 yX0_standsAt wsX0_standsAt) := goodIn_app (goodIn_of _ (by decide +kernel)) ggX0_standsInRow_X0_standsAt
theorem dX0_standsInRow_0 : decode cX0_standsInRow 0 = .ok (.iconst 0, 1) := by decide +kernel
theorem dX0_standsInRow_1 : decode cX0_standsInRow 1 = .ok (.istore_n 2, 1) := by decide +kernel
theorem dX0_standsInRow_2 : decode cX0_standsInRow 2 = .ok (.iload_n 2, 1) := by decide +kernel
theorem dX0_standsInRow_3 : decode cX0_standsInRow 3 = .ok (.aload_n 0, 1) := by decide +kernel
theorem dX0_standsInRow_4 : decode cX0_standsInRow 4 = .ok (.getfield 21, 3) := by decide +kernel
theorem dX0_standsInRow_7 : decode cX0_standsInRow 7 = .ok (.if_icmp .ge 40, 3) := by decide +kernel
theorem dX0_standsInRow_10 : decode cX0_standsInRow 10 = .ok (.iconst 0, 1) := by decide +kernel
theorem dX0_standsInRow_11 : decode cX0_standsInRow 11 = .ok (.istore_n 3, 1) := by decide +kernel
theorem dX0_standsInRow_12 : decode cX0_standsInRow 12 = .ok (.iload_n 3, 1) := by decide +kernel
theorem dX0_standsInRow_13 : decode cX0_standsInRow 13 = .ok (.aload_n 0, 1) := by decide +kernel
theorem dX0_standsInRow_14 : decode cX0_standsInRow 14 = .ok (.getfield 9, 3) := by decide +kernel
theorem dX0_standsInRow_17 : decode cX0_standsInRow 17 = .ok (.iload_n 2, 1) := by decide +kernel
theorem dX0_standsInRow_18 : decode cX0_standsInRow 18 = .ok (.iaload, 1) := by decide +kernel
theorem dX0_standsInRow_19 : decode cX0_standsInRow 19 = .ok (.iadd, 1) := by decide +kernel
theorem dX0_standsInRow_20 : decode cX0_standsInRow 20 = .ok (.iload_n 1, 1) := by decide +kernel
theorem dX0_standsInRow_21 : decode cX0_standsInRow 21 = .ok (.if_icmp .gt 20, 3) := by decide +kernel
theorem dX0_standsInRow_24 : decode cX0_standsInRow 24 = .ok (.aload_n 0, 1) := by decide +kernel
theorem dX0_standsInRow_25 : decode cX0_standsInRow 25 = .ok (.iload_n 2, 1) := by decide +kernel
theorem dX0_standsInRow_26 : decode cX0_standsInRow 26 = .ok (.iload_n 3, 1) := by decide +kernel
theorem dX0_standsInRow_27 : decode cX0_standsInRow 27 = .ok (.invokevirtual 49, 3) := by decide +kernel
theorem dX0_standsInRow_30 : decode cX0_standsInRow 30 = .ok (.ifCond .eq 5, 3) := by decide +kernel
theorem dX0_standsInRow_33 : decode cX0_standsInRow 33 = .ok (.iconst 1, 1) := by decide +kernel
theorem dX0_standsInRow_34 : decode cX0_standsInRow 34 = .ok (.ireturn, 1) := by decide +kernel
theorem dX0_standsInRow_35 : decode cX0_standsInRow 35 = .ok (.iinc 3 1, 3) := by decide +kernel
theorem dX0_standsInRow_38 : decode cX0_standsInRow 38 = .ok (.goto (-26), 3) := by decide +kernel
theorem dX0_standsInRow_41 : decode cX0_standsInRow 41 = .ok (.iinc 2 1, 3) := by decide +kernel
theorem dX0_standsInRow_44 : decode cX0_standsInRow 44 = .ok (.goto (-42), 3) := by decide +kernel
theorem dX0_standsInRow_47 : decode cX0_standsInRow 47 = .ok (.iconst 0, 1) := by decide +kernel
theorem dX0_standsInRow_48 : decode cX0_standsInRow 48 = .ok (.ireturn, 1) := by decide +kernel
theorem dX0_standsAt_0 : decode cX0_standsAt 0 = .ok (.iconst 0, 1) := by decide +kernel
theorem dX0_standsAt_1 : decode cX0_standsAt 1 = .ok (.istore_n 3, 1) := by decide +kernel
theorem dX0_standsAt_2 : decode cX0_standsAt 2 = .ok (.iload_n 3, 1) := by decide +kernel
theorem dX0_standsAt_3 : decode cX0_standsAt 3 = .ok (.aload_n 0, 1) := by decide +kernel
theorem dX0_standsAt_4 : decode cX0_standsAt 4 = .ok (.getfield 9, 3) := by decide +kernel
theorem dX0_standsAt_7 : decode cX0_standsAt 7 = .ok (.iload_n 1, 1) := by decide +kernel
theorem dX0_standsAt_8 : decode cX0_standsAt 8 = .ok (.iaload, 1) := by decide +kernel
theorem dX0_standsAt_9 : decode cX0_standsAt 9 = .ok (.if_icmp .ge 32, 3) := by decide +kernel
theorem dX0_standsAt_12 : decode cX0_standsAt 12 = .ok (.aload_n 0, 1) := by decide +kernel
theorem dX0_standsAt_13 : decode cX0_standsAt 13 = .ok (.getfield 18, 3) := by decide +kernel
theorem dX0_standsAt_16 : decode cX0_standsAt 16 = .ok (.iload_n 2, 1) := by decide +kernel
theorem dX0_standsAt_17 : decode cX0_standsAt 17 = .ok (.iload_n 3, 1) := by decide +kernel
theorem dX0_standsAt_18 : decode cX0_standsAt 18 = .ok (.iadd, 1) := by decide +kernel
theorem dX0_standsAt_19 : decode cX0_standsAt 19 = .ok (.iaload, 1) := by decide +kernel
theorem dX0_standsAt_20 : decode cX0_standsAt 20 = .ok (.aload_n 0, 1) := by decide +kernel
theorem dX0_standsAt_21 : decode cX0_standsAt 21 = .ok (.getfield 15, 3) := by decide +kernel
theorem dX0_standsAt_24 : decode cX0_standsAt 24 = .ok (.iload_n 1, 1) := by decide +kernel
theorem dX0_standsAt_25 : decode cX0_standsAt 25 = .ok (.iconst 5, 1) := by decide +kernel
theorem dX0_standsAt_26 : decode cX0_standsAt 26 = .ok (.imul, 1) := by decide +kernel
theorem dX0_standsAt_27 : decode cX0_standsAt 27 = .ok (.iload_n 3, 1) := by decide +kernel
theorem dX0_standsAt_28 : decode cX0_standsAt 28 = .ok (.iadd, 1) := by decide +kernel
theorem dX0_standsAt_29 : decode cX0_standsAt 29 = .ok (.iaload, 1) := by decide +kernel
theorem dX0_standsAt_30 : decode cX0_standsAt 30 = .ok (.if_icmp .eq 5, 3) := by decide +kernel
theorem dX0_standsAt_33 : decode cX0_standsAt 33 = .ok (.iconst 0, 1) := by decide +kernel
theorem dX0_standsAt_34 : decode cX0_standsAt 34 = .ok (.ireturn, 1) := by decide +kernel
theorem dX0_standsAt_35 : decode cX0_standsAt 35 = .ok (.iinc 3 1, 3) := by decide +kernel
theorem dX0_standsAt_38 : decode cX0_standsAt 38 = .ok (.goto (-36), 3) := by decide +kernel
theorem dX0_standsAt_41 : decode cX0_standsAt 41 = .ok (.iconst 1, 1) := by decide +kernel
theorem dX0_standsAt_42 : decode cX0_standsAt 42 = .ok (.ireturn, 1) := by decide +kernel
theorem dX0_digestOn_0 : decode cX0_digestOn 0 = .ok (.lload_n 1, 1) := by decide +kernel
theorem dX0_digestOn_1 : decode cX0_digestOn 1 = .ok (.lstore_n 3, 1) := by decide +kernel
theorem dX0_digestOn_2 : decode cX0_digestOn 2 = .ok (.iconst 0, 1) := by decide +kernel
theorem dX0_digestOn_3 : decode cX0_digestOn 3 = .ok (.istore 5, 2) := by decide +kernel
theorem dX0_digestOn_5 : decode cX0_digestOn 5 = .ok (.iload 5, 2) := by decide +kernel
theorem dX0_digestOn_7 : decode cX0_digestOn 7 = .ok (.aload_n 0, 1) := by decide +kernel
theorem dX0_digestOn_8 : decode cX0_digestOn 8 = .ok (.getfield 21, 3) := by decide +kernel
theorem dX0_digestOn_11 : decode cX0_digestOn 11 = .ok (.if_icmp .ge 65, 3) := by decide +kernel
theorem dX0_digestOn_14 : decode cX0_digestOn 14 = .ok (.ldc2_w 53, 3) := by decide +kernel
theorem dX0_digestOn_17 : decode cX0_digestOn 17 = .ok (.lload_n 3, 1) := by decide +kernel
theorem dX0_digestOn_18 : decode cX0_digestOn 18 = .ok (.lmul, 1) := by decide +kernel
theorem dX0_digestOn_19 : decode cX0_digestOn 19 = .ok (.aload_n 0, 1) := by decide +kernel
theorem dX0_digestOn_20 : decode cX0_digestOn 20 = .ok (.getfield 9, 3) := by decide +kernel
theorem dX0_digestOn_23 : decode cX0_digestOn 23 = .ok (.iload 5, 2) := by decide +kernel
theorem dX0_digestOn_25 : decode cX0_digestOn 25 = .ok (.iaload, 1) := by decide +kernel
theorem dX0_digestOn_26 : decode cX0_digestOn 26 = .ok (.i2l, 1) := by decide +kernel
theorem dX0_digestOn_27 : decode cX0_digestOn 27 = .ok (.ladd, 1) := by decide +kernel
theorem dX0_digestOn_28 : decode cX0_digestOn 28 = .ok (.lstore_n 3, 1) := by decide +kernel
theorem dX0_digestOn_29 : decode cX0_digestOn 29 = .ok (.iconst 0, 1) := by decide +kernel
theorem dX0_digestOn_30 : decode cX0_digestOn 30 = .ok (.istore 6, 2) := by decide +kernel
theorem dX0_digestOn_32 : decode cX0_digestOn 32 = .ok (.iload 6, 2) := by decide +kernel
theorem dX0_digestOn_34 : decode cX0_digestOn 34 = .ok (.aload_n 0, 1) := by decide +kernel
theorem dX0_digestOn_35 : decode cX0_digestOn 35 = .ok (.getfield 9, 3) := by decide +kernel
theorem dX0_digestOn_38 : decode cX0_digestOn 38 = .ok (.iload 5, 2) := by decide +kernel
theorem dX0_digestOn_40 : decode cX0_digestOn 40 = .ok (.iaload, 1) := by decide +kernel
theorem dX0_digestOn_41 : decode cX0_digestOn 41 = .ok (.if_icmp .ge 29, 3) := by decide +kernel
theorem dX0_digestOn_44 : decode cX0_digestOn 44 = .ok (.ldc2_w 53, 3) := by decide +kernel
theorem dX0_digestOn_47 : decode cX0_digestOn 47 = .ok (.lload_n 3, 1) := by decide +kernel
theorem dX0_digestOn_48 : decode cX0_digestOn 48 = .ok (.lmul, 1) := by decide +kernel
theorem dX0_digestOn_49 : decode cX0_digestOn 49 = .ok (.aload_n 0, 1) := by decide +kernel
theorem dX0_digestOn_50 : decode cX0_digestOn 50 = .ok (.getfield 15, 3) := by decide +kernel
theorem dX0_digestOn_53 : decode cX0_digestOn 53 = .ok (.iload 5, 2) := by decide +kernel
theorem dX0_digestOn_55 : decode cX0_digestOn 55 = .ok (.iconst 5, 1) := by decide +kernel
theorem dX0_digestOn_56 : decode cX0_digestOn 56 = .ok (.imul, 1) := by decide +kernel
theorem dX0_digestOn_57 : decode cX0_digestOn 57 = .ok (.iload 6, 2) := by decide +kernel
theorem dX0_digestOn_59 : decode cX0_digestOn 59 = .ok (.iadd, 1) := by decide +kernel
theorem dX0_digestOn_60 : decode cX0_digestOn 60 = .ok (.iaload, 1) := by decide +kernel
theorem dX0_digestOn_61 : decode cX0_digestOn 61 = .ok (.i2l, 1) := by decide +kernel
theorem dX0_digestOn_62 : decode cX0_digestOn 62 = .ok (.ladd, 1) := by decide +kernel
theorem dX0_digestOn_63 : decode cX0_digestOn 63 = .ok (.lstore_n 3, 1) := by decide +kernel
theorem dX0_digestOn_64 : decode cX0_digestOn 64 = .ok (.iinc 6 1, 3) := by decide +kernel
theorem dX0_digestOn_67 : decode cX0_digestOn 67 = .ok (.goto (-35), 3) := by decide +kernel
theorem dX0_digestOn_70 : decode cX0_digestOn 70 = .ok (.iinc 5 1, 3) := by decide +kernel
theorem dX0_digestOn_73 : decode cX0_digestOn 73 = .ok (.goto (-68), 3) := by decide +kernel
theorem dX0_digestOn_76 : decode cX0_digestOn 76 = .ok (.lload_n 3, 1) := by decide +kernel
theorem dX0_digestOn_77 : decode cX0_digestOn 77 = .ok (.lreturn, 1) := by decide +kernel
theorem dX1_init_0 : decode cX1_init 0 = .ok (.aload_n 0, 1) := by decide +kernel
theorem dX1_init_1 : decode cX1_init 1 = .ok (.invokespecial 3, 3) := by decide +kernel
theorem dX1_init_4 : decode cX1_init 4 = .ok (.aload_n 0, 1) := by decide +kernel
theorem dX1_init_5 : decode cX1_init 5 = .ok (.bipush 64, 2) := by decide +kernel
theorem dX1_init_7 : decode cX1_init 7 = .ok (.newarray .int, 2) := by decide +kernel
theorem dX1_init_9 : decode cX1_init 9 = .ok (.putfield 9, 3) := by decide +kernel
theorem dX1_init_12 : decode cX1_init 12 = .ok (.aload_n 0, 1) := by decide +kernel
theorem dX1_init_13 : decode cX1_init 13 = .ok (.sipush 256, 3) := by decide +kernel
theorem dX1_init_16 : decode cX1_init 16 = .ok (.newarray .int, 2) := by decide +kernel
theorem dX1_init_18 : decode cX1_init 18 = .ok (.putfield 15, 3) := by decide +kernel
theorem dX1_init_21 : decode cX1_init 21 = .ok (.aload_n 0, 1) := by decide +kernel
theorem dX1_init_22 : decode cX1_init 22 = .ok (.iload_n 1, 1) := by decide +kernel
theorem dX1_init_23 : decode cX1_init 23 = .ok (.putfield 18, 3) := by decide +kernel
theorem dX1_init_26 : decode cX1_init 26 = .ok (.aload_n 0, 1) := by decide +kernel
theorem dX1_init_27 : decode cX1_init 27 = .ok (.iload_n 2, 1) := by decide +kernel
theorem dX1_init_28 : decode cX1_init 28 = .ok (.putfield 22, 3) := by decide +kernel
theorem dX1_init_31 : decode cX1_init 31 = .ok (.return_, 1) := by decide +kernel
set_option maxRecDepth 20000 in
theorem ggX1_hasState_X9_within : GoodIn wsX1_hasState wsX9_within := goodIn_r _ [4] (by decide +kernel) (by decide +kernel)
set_option maxRecDepth 20000 in
theorem gX1_hasState_X9_within_n25 : GoodIn wsX1_hasState (wsX9_within) := ggX1_hasState_X9_within
theorem dX1_hasState_0 : decode cX1_hasState 0 = .ok (.iload_n 1, 1) := by decide +kernel
theorem dX1_hasState_1 : decode cX1_hasState 1 = .ok (.iconst 0, 1) := by decide +kernel
theorem dX1_hasState_2 : decode cX1_hasState 2 = .ok (.aload_n 0, 1) := by decide +kernel
theorem dX1_hasState_3 : decode cX1_hasState 3 = .ok (.getfield 22, 3) := by decide +kernel
theorem dX1_hasState_6 : decode cX1_hasState 6 = .ok (.iconst 1, 1) := by decide +kernel
theorem dX1_hasState_7 : decode cX1_hasState 7 = .ok (.isub, 1) := by decide +kernel
theorem dX1_hasState_8 : decode cX1_hasState 8 = .ok (.invokestatic 25, 3) := by decide +kernel
theorem dX1_hasState_11 : decode cX1_hasState 11 = .ok (.ireturn, 1) := by decide +kernel
set_option maxRecDepth 20000 in
theorem ggX1_hasWayNumbers_X1_hasState : GoodIn wsX1_hasWayNumbers wsX1_hasState := goodIn_r _ [6, 7, 8, 9, 10, 11, 12, 13, 14, 15, 16, 17] (by decide +kernel) (by decide +kernel)
set_option maxRecDepth 20000 in
theorem gX1_hasWayNumbers_X1_hasState : GoodIn wsX1_hasWayNumbers (wsV RX1 29 RX1 yX1_hasState wsX1_hasState) := goodIn_app (goodIn_of _ (by decide +kernel)) ggX1_hasWayNumbers_X1_hasState
set_option maxRecDepth 20000 in
theorem ggX1_hasWayNumbers_X9_within : GoodIn wsX1_hasWayNumbers wsX9_within := goodIn_r _ [10] (by decide +kernel) (by decide +kernel)
set_option maxRecDepth 20000 in
theorem gX1_hasWayNumbers_X9_within_n25 : GoodIn wsX1_hasWayNumbers (wsX9_within) := ggX1_hasWayNumbers_X9_within
theorem dX1_hasWayNumbers_0 : decode cX1_hasWayNumbers 0 = .ok (.aload_n 0, 1) := by decide +kernel
theorem dX1_hasWayNumbers_1 : decode cX1_hasWayNumbers 1 = .ok (.iload_n 1, 1) := by decide +kernel
theorem dX1_hasWayNumbers_2 : decode cX1_hasWayNumbers 2 = .ok (.invokevirtual 29, 3) := by decide +kernel
theorem dX1_hasWayNumbers_5 : decode cX1_hasWayNumbers 5 = .ok (.ifCond .eq 29, 3) := by decide +kernel
theorem dX1_hasWayNumbers_8 : decode cX1_hasWayNumbers 8 = .ok (.iload_n 2, 1) := by decide +kernel
theorem dX1_hasWayNumbers_9 : decode cX1_hasWayNumbers 9 = .ok (.iconst 0, 1) := by decide +kernel
theorem dX1_hasWayNumbers_10 : decode cX1_hasWayNumbers 10 = .ok (.aload_n 0, 1) := by decide +kernel
theorem dX1_hasWayNumbers_11 : decode cX1_hasWayNumbers 11 = .ok (.getfield 18, 3) := by decide +kernel
theorem dX1_hasWayNumbers_14 : decode cX1_hasWayNumbers 14 = .ok (.iconst 1, 1) := by decide +kernel
theorem dX1_hasWayNumbers_15 : decode cX1_hasWayNumbers 15 = .ok (.isub, 1) := by decide +kernel
theorem dX1_hasWayNumbers_16 : decode cX1_hasWayNumbers 16 = .ok (.invokestatic 25, 3) := by decide +kernel
theorem dX1_hasWayNumbers_19 : decode cX1_hasWayNumbers 19 = .ok (.ifCond .eq 15, 3) := by decide +kernel
theorem dX1_hasWayNumbers_22 : decode cX1_hasWayNumbers 22 = .ok (.aload_n 0, 1) := by decide +kernel
theorem dX1_hasWayNumbers_23 : decode cX1_hasWayNumbers 23 = .ok (.iload_n 3, 1) := by decide +kernel
theorem dX1_hasWayNumbers_24 : decode cX1_hasWayNumbers 24 = .ok (.invokevirtual 29, 3) := by decide +kernel
theorem dX1_hasWayNumbers_27 : decode cX1_hasWayNumbers 27 = .ok (.ifCond .eq 7, 3) := by decide +kernel
theorem dX1_hasWayNumbers_30 : decode cX1_hasWayNumbers 30 = .ok (.iconst 1, 1) := by decide +kernel
theorem dX1_hasWayNumbers_31 : decode cX1_hasWayNumbers 31 = .ok (.goto 4, 3) := by decide +kernel
theorem dX1_hasWayNumbers_34 : decode cX1_hasWayNumbers 34 = .ok (.iconst 0, 1) := by decide +kernel
theorem dX1_hasWayNumbers_35 : decode cX1_hasWayNumbers 35 = .ok (.ireturn, 1) := by decide +kernel
theorem dX1_isLive_0 : decode cX1_isLive 0 = .ok (.aload_n 0, 1) := by decide +kernel
theorem dX1_isLive_1 : decode cX1_isLive 1 = .ok (.getfield 33, 3) := by decide +kernel
theorem dX1_isLive_4 : decode cX1_isLive 4 = .ok (.iload_n 1, 1) := by decide +kernel
theorem dX1_isLive_5 : decode cX1_isLive 5 = .ok (.ishr, 1) := by decide +kernel
theorem dX1_isLive_6 : decode cX1_isLive 6 = .ok (.iconst 1, 1) := by decide +kernel
theorem dX1_isLive_7 : decode cX1_isLive 7 = .ok (.iand, 1) := by decide +kernel
theorem dX1_isLive_8 : decode cX1_isLive 8 = .ok (.ifCond .eq 7, 3) := by decide +kernel
theorem dX1_isLive_11 : decode cX1_isLive 11 = .ok (.iconst 1, 1) := by decide +kernel
theorem dX1_isLive_12 : decode cX1_isLive 12 = .ok (.goto 4, 3) := by decide +kernel
theorem dX1_isLive_15 : decode cX1_isLive 15 = .ok (.iconst 0, 1) := by decide +kernel
theorem dX1_isLive_16 : decode cX1_isLive 16 = .ok (.ireturn, 1) := by decide +kernel
theorem dX1_leads_0 : decode cX1_leads 0 = .ok (.aload_n 0, 1) := by decide +kernel
theorem dX1_leads_1 : decode cX1_leads 1 = .ok (.getfield 9, 3) := by decide +kernel
theorem dX1_leads_4 : decode cX1_leads 4 = .ok (.iload_n 1, 1) := by decide +kernel
theorem dX1_leads_5 : decode cX1_leads 5 = .ok (.iconst 4, 1) := by decide +kernel
theorem dX1_leads_6 : decode cX1_leads 6 = .ok (.imul, 1) := by decide +kernel
theorem dX1_leads_7 : decode cX1_leads 7 = .ok (.iload_n 2, 1) := by decide +kernel
theorem dX1_leads_8 : decode cX1_leads 8 = .ok (.iadd, 1) := by decide +kernel
theorem dX1_leads_9 : decode cX1_leads 9 = .ok (.iaload, 1) := by decide +kernel
theorem dX1_leads_10 : decode cX1_leads 10 = .ok (.iload_n 3, 1) := by decide +kernel
theorem dX1_leads_11 : decode cX1_leads 11 = .ok (.ishr, 1) := by decide +kernel
theorem dX1_leads_12 : decode cX1_leads 12 = .ok (.iconst 1, 1) := by decide +kernel
theorem dX1_leads_13 : decode cX1_leads 13 = .ok (.iand, 1) := by decide +kernel
theorem dX1_leads_14 : decode cX1_leads 14 = .ok (.ifCond .eq 7, 3) := by decide +kernel
theorem dX1_leads_17 : decode cX1_leads 17 = .ok (.iconst 1, 1) := by decide +kernel
theorem dX1_leads_18 : decode cX1_leads 18 = .ok (.goto 4, 3) := by decide +kernel
theorem dX1_leads_21 : decode cX1_leads 21 = .ok (.iconst 0, 1) := by decide +kernel
theorem dX1_leads_22 : decode cX1_leads 22 = .ok (.ireturn, 1) := by decide +kernel
set_option maxRecDepth 20000 in
theorem ggX1_turnWay_X1_leads : GoodIn wsX1_turnWay wsX1_leads := goodIn_r _ [7, 2, 8, 9, 10, 11, 12, 13, 14] (by decide +kernel) (by decide +kernel)
set_option maxRecDepth 20000 in
theorem gX1_turnWay_X1_leads : GoodIn wsX1_turnWay (wsV RX1 39 RX1 yX1_leads wsX1_leads) := goodIn_app (goodIn_of _ (by decide +kernel)) ggX1_turnWay_X1_leads
theorem dX1_turnWay_0 : decode cX1_turnWay 0 = .ok (.aload_n 0, 1) := by decide +kernel
theorem dX1_turnWay_1 : decode cX1_turnWay 1 = .ok (.dup, 1) := by decide +kernel
theorem dX1_turnWay_2 : decode cX1_turnWay 2 = .ok (.getfield 36, 3) := by decide +kernel
theorem dX1_turnWay_5 : decode cX1_turnWay 5 = .ok (.aload_n 0, 1) := by decide +kernel
theorem dX1_turnWay_6 : decode cX1_turnWay 6 = .ok (.iload_n 1, 1) := by decide +kernel
theorem dX1_turnWay_7 : decode cX1_turnWay 7 = .ok (.iload_n 2, 1) := by decide +kernel
theorem dX1_turnWay_8 : decode cX1_turnWay 8 = .ok (.iload_n 3, 1) := by decide +kernel
theorem dX1_turnWay_9 : decode cX1_turnWay 9 = .ok (.invokevirtual 39, 3) := by decide +kernel
theorem dX1_turnWay_12 : decode cX1_turnWay 12 = .ok (.ifCond .eq 7, 3) := by decide +kernel
theorem dX1_turnWay_15 : decode cX1_turnWay 15 = .ok (.iconst (-1), 1) := by decide +kernel
theorem dX1_turnWay_16 : decode cX1_turnWay 16 = .ok (.goto 4, 3) := by decide +kernel
theorem dX1_turnWay_19 : decode cX1_turnWay 19 = .ok (.iconst 1, 1) := by decide +kernel
theorem dX1_turnWay_20 : decode cX1_turnWay 20 = .ok (.iadd, 1) := by decide +kernel
theorem dX1_turnWay_21 : decode cX1_turnWay 21 = .ok (.putfield 36, 3) := by decide +kernel
theorem dX1_turnWay_24 : decode cX1_turnWay 24 = .ok (.aload_n 0, 1) := by decide +kernel
theorem dX1_turnWay_25 : decode cX1_turnWay 25 = .ok (.getfield 9, 3) := by decide +kernel
theorem dX1_turnWay_28 : decode cX1_turnWay 28 = .ok (.iload_n 1, 1) := by decide +kernel
theorem dX1_turnWay_29 : decode cX1_turnWay 29 = .ok (.iconst 4, 1) := by decide +kernel
theorem dX1_turnWay_30 : decode cX1_turnWay 30 = .ok (.imul, 1) := by decide +kernel
theorem dX1_turnWay_31 : decode cX1_turnWay 31 = .ok (.iload_n 2, 1) := by decide +kernel
theorem dX1_turnWay_32 : decode cX1_turnWay 32 = .ok (.iadd, 1) := by decide +kernel
theorem dX1_turnWay_33 : decode cX1_turnWay 33 = .ok (.dup2, 1) := by decide +kernel
theorem dX1_turnWay_34 : decode cX1_turnWay 34 = .ok (.iaload, 1) := by decide +kernel
theorem dX1_turnWay_35 : decode cX1_turnWay 35 = .ok (.iconst 1, 1) := by decide +kernel
theorem dX1_turnWay_36 : decode cX1_turnWay 36 = .ok (.iload_n 3, 1) := by decide +kernel
theorem dX1_turnWay_37 : decode cX1_turnWay 37 = .ok (.ishl, 1) := by decide +kernel
theorem dX1_turnWay_38 : decode cX1_turnWay 38 = .ok (.ixor, 1) := by decide +kernel
theorem dX1_turnWay_39 : decode cX1_turnWay 39 = .ok (.iastore, 1) := by decide +kernel
theorem dX1_turnWay_40 : decode cX1_turnWay 40 = .ok (.return_, 1) := by decide +kernel
set_option maxRecDepth 20000 in
theorem ggX1_liveEnds_X1_isLive : GoodIn wsX1_liveEnds wsX1_isLive := goodIn_r _ [7, 2, 8, 9, 10, 11, 12, 13, 14] (by decide +kernel) (by decide +kernel)
set_option maxRecDepth 20000 in
theorem gX1_liveEnds_X1_isLive : GoodIn wsX1_liveEnds (wsV RX1 42 RX1 yX1_isLive wsX1_isLive) := goodIn_app (goodIn_of _ (by decide +kernel)) ggX1_liveEnds_X1_isLive
theorem dX1_liveEnds_0 : decode cX1_liveEnds 0 = .ok (.aload_n 0, 1) := by decide +kernel
theorem dX1_liveEnds_1 : decode cX1_liveEnds 1 = .ok (.iload_n 1, 1) := by decide +kernel
theorem dX1_liveEnds_2 : decode cX1_liveEnds 2 = .ok (.invokevirtual 42, 3) := by decide +kernel
theorem dX1_liveEnds_5 : decode cX1_liveEnds 5 = .ok (.ifCond .eq 21, 3) := by decide +kernel
theorem dX1_liveEnds_8 : decode cX1_liveEnds 8 = .ok (.aload_n 0, 1) := by decide +kernel
theorem dX1_liveEnds_9 : decode cX1_liveEnds 9 = .ok (.getfield 9, 3) := by decide +kernel
theorem dX1_liveEnds_12 : decode cX1_liveEnds 12 = .ok (.iload_n 1, 1) := by decide +kernel
theorem dX1_liveEnds_13 : decode cX1_liveEnds 13 = .ok (.iconst 4, 1) := by decide +kernel
theorem dX1_liveEnds_14 : decode cX1_liveEnds 14 = .ok (.imul, 1) := by decide +kernel
theorem dX1_liveEnds_15 : decode cX1_liveEnds 15 = .ok (.iload_n 2, 1) := by decide +kernel
theorem dX1_liveEnds_16 : decode cX1_liveEnds 16 = .ok (.iadd, 1) := by decide +kernel
theorem dX1_liveEnds_17 : decode cX1_liveEnds 17 = .ok (.iaload, 1) := by decide +kernel
theorem dX1_liveEnds_18 : decode cX1_liveEnds 18 = .ok (.aload_n 0, 1) := by decide +kernel
theorem dX1_liveEnds_19 : decode cX1_liveEnds 19 = .ok (.getfield 33, 3) := by decide +kernel
theorem dX1_liveEnds_22 : decode cX1_liveEnds 22 = .ok (.iand, 1) := by decide +kernel
theorem dX1_liveEnds_23 : decode cX1_liveEnds 23 = .ok (.goto 4, 3) := by decide +kernel
theorem dX1_liveEnds_26 : decode cX1_liveEnds 26 = .ok (.iconst 0, 1) := by decide +kernel
theorem dX1_liveEnds_27 : decode cX1_liveEnds 27 = .ok (.ireturn, 1) := by decide +kernel
set_option maxRecDepth 20000 in
theorem ggX1_liveOuts_X1_liveEnds : GoodIn wsX1_liveOuts wsX1_liveEnds := goodIn_r _ [6, 7, 8, 9, 10, 11, 5, 12, 13, 14, 15, 16, 17, 18, 19] (by decide +kernel) (by decide +kernel)
set_option maxRecDepth 20000 in
theorem gX1_liveOuts_X1_liveEnds : GoodIn wsX1_liveOuts (wsV RX1 45 RX1 yX1_liveEnds wsX1_liveEnds) := goodIn_app (goodIn_of _ (by decide +kernel)) ggX1_liveOuts_X1_liveEnds
theorem dX1_liveOuts_0 : decode cX1_liveOuts 0 = .ok (.iconst 0, 1) := by decide +kernel
theorem dX1_liveOuts_1 : decode cX1_liveOuts 1 = .ok (.istore_n 2, 1) := by decide +kernel
theorem dX1_liveOuts_2 : decode cX1_liveOuts 2 = .ok (.iconst 0, 1) := by decide +kernel
theorem dX1_liveOuts_3 : decode cX1_liveOuts 3 = .ok (.istore_n 3, 1) := by decide +kernel
theorem dX1_liveOuts_4 : decode cX1_liveOuts 4 = .ok (.iload_n 3, 1) := by decide +kernel
theorem dX1_liveOuts_5 : decode cX1_liveOuts 5 = .ok (.aload_n 0, 1) := by decide +kernel
theorem dX1_liveOuts_6 : decode cX1_liveOuts 6 = .ok (.getfield 18, 3) := by decide +kernel
theorem dX1_liveOuts_9 : decode cX1_liveOuts 9 = .ok (.if_icmp .ge 18, 3) := by decide +kernel
theorem dX1_liveOuts_12 : decode cX1_liveOuts 12 = .ok (.iload_n 2, 1) := by decide +kernel
theorem dX1_liveOuts_13 : decode cX1_liveOuts 13 = .ok (.aload_n 0, 1) := by decide +kernel
theorem dX1_liveOuts_14 : decode cX1_liveOuts 14 = .ok (.iload_n 1, 1) := by decide +kernel
theorem dX1_liveOuts_15 : decode cX1_liveOuts 15 = .ok (.iload_n 3, 1) := by decide +kernel
theorem dX1_liveOuts_16 : decode cX1_liveOuts 16 = .ok (.invokevirtual 45, 3) := by decide +kernel
theorem dX1_liveOuts_19 : decode cX1_liveOuts 19 = .ok (.ior, 1) := by decide +kernel
theorem dX1_liveOuts_20 : decode cX1_liveOuts 20 = .ok (.istore_n 2, 1) := by decide +kernel
theorem dX1_liveOuts_21 : decode cX1_liveOuts 21 = .ok (.iinc 3 1, 3) := by decide +kernel
theorem dX1_liveOuts_24 : decode cX1_liveOuts 24 = .ok (.goto (-20), 3) := by decide +kernel
theorem dX1_liveOuts_27 : decode cX1_liveOuts 27 = .ok (.iload_n 2, 1) := by decide +kernel
theorem dX1_liveOuts_28 : decode cX1_liveOuts 28 = .ok (.ireturn, 1) := by decide +kernel
theorem dX1_step_0 : decode cX1_step 0 = .ok (.iload_n 2, 1) := by decide +kernel
theorem dX1_step_1 : decode cX1_step 1 = .ok (.ifCond .lt 11, 3) := by decide +kernel
theorem dX1_step_4 : decode cX1_step 4 = .ok (.iload_n 2, 1) := by decide +kernel
theorem dX1_step_5 : decode cX1_step 5 = .ok (.aload_n 0, 1) := by decide +kernel
theorem dX1_step_6 : decode cX1_step 6 = .ok (.getfield 18, 3) := by decide +kernel
theorem dX1_step_9 : decode cX1_step 9 = .ok (.if_icmp .lt 5, 3) := by decide +kernel
theorem dX1_step_12 : decode cX1_step 12 = .ok (.iconst 0, 1) := by decide +kernel
theorem dX1_step_13 : decode cX1_step 13 = .ok (.ireturn, 1) := by decide +kernel
theorem dX1_step_14 : decode cX1_step 14 = .ok (.iload_n 2, 1) := by decide +kernel
theorem dX1_step_15 : decode cX1_step 15 = .ok (.bipush 64, 2) := by decide +kernel
theorem dX1_step_17 : decode cX1_step 17 = .ok (.imul, 1) := by decide +kernel
theorem dX1_step_18 : decode cX1_step 18 = .ok (.istore_n 3, 1) := by decide +kernel
theorem dX1_step_19 : decode cX1_step 19 = .ok (.aload_n 0, 1) := by decide +kernel
theorem dX1_step_20 : decode cX1_step 20 = .ok (.getfield 15, 3) := by decide +kernel
theorem dX1_step_23 : decode cX1_step 23 = .ok (.iload_n 3, 1) := by decide +kernel
theorem dX1_step_24 : decode cX1_step 24 = .ok (.iload_n 1, 1) := by decide +kernel
theorem dX1_step_25 : decode cX1_step 25 = .ok (.bipush 15, 2) := by decide +kernel
theorem dX1_step_27 : decode cX1_step 27 = .ok (.iand, 1) := by decide +kernel
theorem dX1_step_28 : decode cX1_step 28 = .ok (.iadd, 1) := by decide +kernel
theorem dX1_step_29 : decode cX1_step 29 = .ok (.iaload, 1) := by decide +kernel
theorem dX1_step_30 : decode cX1_step 30 = .ok (.aload_n 0, 1) := by decide +kernel
theorem dX1_step_31 : decode cX1_step 31 = .ok (.getfield 15, 3) := by decide +kernel
theorem dX1_step_34 : decode cX1_step 34 = .ok (.iload_n 3, 1) := by decide +kernel
theorem dX1_step_35 : decode cX1_step 35 = .ok (.bipush 16, 2) := by decide +kernel
theorem dX1_step_37 : decode cX1_step 37 = .ok (.iadd, 1) := by decide +kernel
theorem dX1_step_38 : decode cX1_step 38 = .ok (.iload_n 1, 1) := by decide +kernel
theorem dX1_step_39 : decode cX1_step 39 = .ok (.iconst 4, 1) := by decide +kernel
theorem dX1_step_40 : decode cX1_step 40 = .ok (.ishr, 1) := by decide +kernel
theorem dX1_step_41 : decode cX1_step 41 = .ok (.bipush 15, 2) := by decide +kernel
theorem dX1_step_43 : decode cX1_step 43 = .ok (.iand, 1) := by decide +kernel
theorem dX1_step_44 : decode cX1_step 44 = .ok (.iadd, 1) := by decide +kernel
theorem dX1_step_45 : decode cX1_step 45 = .ok (.iaload, 1) := by decide +kernel
theorem dX1_step_46 : decode cX1_step 46 = .ok (.ior, 1) := by decide +kernel
theorem dX1_step_47 : decode cX1_step 47 = .ok (.aload_n 0, 1) := by decide +kernel
theorem dX1_step_48 : decode cX1_step 48 = .ok (.getfield 15, 3) := by decide +kernel
theorem dX1_step_51 : decode cX1_step 51 = .ok (.iload_n 3, 1) := by decide +kernel
theorem dX1_step_52 : decode cX1_step 52 = .ok (.bipush 32, 2) := by decide +kernel
theorem dX1_step_54 : decode cX1_step 54 = .ok (.iadd, 1) := by decide +kernel
theorem dX1_step_55 : decode cX1_step 55 = .ok (.iload_n 1, 1) := by decide +kernel
theorem dX1_step_56 : decode cX1_step 56 = .ok (.bipush 8, 2) := by decide +kernel
theorem dX1_step_58 : decode cX1_step 58 = .ok (.ishr, 1) := by decide +kernel
theorem dX1_step_59 : decode cX1_step 59 = .ok (.bipush 15, 2) := by decide +kernel
theorem dX1_step_61 : decode cX1_step 61 = .ok (.iand, 1) := by decide +kernel
theorem dX1_step_62 : decode cX1_step 62 = .ok (.iadd, 1) := by decide +kernel
theorem dX1_step_63 : decode cX1_step 63 = .ok (.iaload, 1) := by decide +kernel
theorem dX1_step_64 : decode cX1_step 64 = .ok (.ior, 1) := by decide +kernel
theorem dX1_step_65 : decode cX1_step 65 = .ok (.aload_n 0, 1) := by decide +kernel
theorem dX1_step_66 : decode cX1_step 66 = .ok (.getfield 15, 3) := by decide +kernel
theorem dX1_step_69 : decode cX1_step 69 = .ok (.iload_n 3, 1) := by decide +kernel
theorem dX1_step_70 : decode cX1_step 70 = .ok (.bipush 48, 2) := by decide +kernel
theorem dX1_step_72 : decode cX1_step 72 = .ok (.iadd, 1) := by decide +kernel
theorem dX1_step_73 : decode cX1_step 73 = .ok (.iload_n 1, 1) := by decide +kernel
theorem dX1_step_74 : decode cX1_step 74 = .ok (.bipush 12, 2) := by decide +kernel
theorem dX1_step_76 : decode cX1_step 76 = .ok (.ishr, 1) := by decide +kernel
theorem dX1_step_77 : decode cX1_step 77 = .ok (.bipush 15, 2) := by decide +kernel
theorem dX1_step_79 : decode cX1_step 79 = .ok (.iand, 1) := by decide +kernel
theorem dX1_step_80 : decode cX1_step 80 = .ok (.iadd, 1) := by decide +kernel
theorem dX1_step_81 : decode cX1_step 81 = .ok (.iaload, 1) := by decide +kernel
theorem dX1_step_82 : decode cX1_step 82 = .ok (.ior, 1) := by decide +kernel
theorem dX1_step_83 : decode cX1_step 83 = .ok (.ireturn, 1) := by decide +kernel
set_option maxRecDepth 20000 in
theorem ggX1_settle_X1_stillLinked : GoodIn wsX1_settle wsX1_stillLinked := goodIn_r _ [9, 1, 10, 11, 12, 8, 13, 4, 14, 15, 16, 17, 18, 2, 19, 20, 21, 22, 35, 36, 37, 38, 39, 40, 41] (by decide +kernel) (by decide +kernel)
set_option maxRecDepth 20000 in
theorem gX1_settle_X1_stillLinked : GoodIn wsX1_settle (wsV RX1 49 RX1 yX1_stillLinked wsX1_stillLinked) := goodIn_app (goodIn_of _ (by decide +kernel)) ggX1_settle_X1_stillLinked
set_option maxRecDepth 20000 in
theorem ggX1_settle_X1_liveEnds : GoodIn wsX1_settle wsX1_liveEnds := goodIn_r _ [17, 18, 2, 19, 20, 21, 8, 22, 35, 36, 37, 38, 39, 40, 41] (by decide +kernel) (by decide +kernel)
set_option maxRecDepth 20000 in
theorem gX1_settle_X1_liveEnds : GoodIn wsX1_settle (wsV RX1 45 RX1 yX1_liveEnds wsX1_liveEnds) := goodIn_app (goodIn_of _ (by decide +kernel)) ggX1_settle_X1_liveEnds
set_option maxRecDepth 20000 in
theorem ggX1_settle_J6_bitCount_0f7a4 : GoodIn wsX1_settle wsJ6_bitCount_0f7a4 := goodIn_r _ [26, 27, 28, 29] (by decide +kernel) (by decide +kernel)
set_option maxRecDepth 20000 in
theorem gX1_settle_J6_bitCount_0f7a4 : GoodIn wsX1_settle (va_wsS RX1 56 yJ6_bitCount_0f7a4 wsJ6_bitCount_0f7a4) := goodIn_app (goodIn_of _ (by decide +kernel)) ggX1_settle_J6_bitCount_0f7a4
set_option maxRecDepth 20000 in
theorem ggX1_settle_X1_fillSteps : GoodIn wsX1_settle wsX1_fillSteps := goodIn_r _ [33, 4, 1, 34, 14, 15, 16, 8, 17, 18, 2, 19, 20, 21, 22, 35, 36, 37, 38, 39, 40, 41] (by decide +kernel) (by decide +kernel)
set_option maxRecDepth 20000 in
theorem gX1_settle_X1_fillSteps : GoodIn wsX1_settle (wsV RX1 62 RX1 yX1_fillSteps wsX1_fillSteps) := goodIn_app (goodIn_of _ (by decide +kernel)) ggX1_settle_X1_fillSteps
theorem dX1_settle_0 : decode cX1_settle 0 = .ok (.aload_n 0, 1) := by decide +kernel
theorem dX1_settle_1 : decode cX1_settle 1 = .ok (.iconst 1, 1) := by decide +kernel
theorem dX1_settle_2 : decode cX1_settle 2 = .ok (.aload_n 0, 1) := by decide +kernel
theorem dX1_settle_3 : decode cX1_settle 3 = .ok (.getfield 22, 3) := by decide +kernel
theorem dX1_settle_6 : decode cX1_settle 6 = .ok (.ishl, 1) := by decide +kernel
theorem dX1_settle_7 : decode cX1_settle 7 = .ok (.iconst 1, 1) := by decide +kernel
theorem dX1_settle_8 : decode cX1_settle 8 = .ok (.isub, 1) := by decide +kernel
theorem dX1_settle_9 : decode cX1_settle 9 = .ok (.putfield 33, 3) := by decide +kernel
theorem dX1_settle_12 : decode cX1_settle 12 = .ok (.iconst 1, 1) := by decide +kernel
theorem dX1_settle_13 : decode cX1_settle 13 = .ok (.istore_n 1, 1) := by decide +kernel
theorem dX1_settle_14 : decode cX1_settle 14 = .ok (.iconst 0, 1) := by decide +kernel
theorem dX1_settle_15 : decode cX1_settle 15 = .ok (.istore_n 2, 1) := by decide +kernel
theorem dX1_settle_16 : decode cX1_settle 16 = .ok (.iload_n 2, 1) := by decide +kernel
theorem dX1_settle_17 : decode cX1_settle 17 = .ok (.aload_n 0, 1) := by decide +kernel
theorem dX1_settle_18 : decode cX1_settle 18 = .ok (.getfield 22, 3) := by decide +kernel
theorem dX1_settle_21 : decode cX1_settle 21 = .ok (.if_icmp .gt 37, 3) := by decide +kernel
theorem dX1_settle_24 : decode cX1_settle 24 = .ok (.iload_n 1, 1) := by decide +kernel
theorem dX1_settle_25 : decode cX1_settle 25 = .ok (.ifCond .eq 33, 3) := by decide +kernel
theorem dX1_settle_28 : decode cX1_settle 28 = .ok (.aload_n 0, 1) := by decide +kernel
theorem dX1_settle_29 : decode cX1_settle 29 = .ok (.invokevirtual 49, 3) := by decide +kernel
theorem dX1_settle_32 : decode cX1_settle 32 = .ok (.istore_n 3, 1) := by decide +kernel
theorem dX1_settle_33 : decode cX1_settle 33 = .ok (.iload_n 3, 1) := by decide +kernel
theorem dX1_settle_34 : decode cX1_settle 34 = .ok (.aload_n 0, 1) := by decide +kernel
theorem dX1_settle_35 : decode cX1_settle 35 = .ok (.getfield 33, 3) := by decide +kernel
theorem dX1_settle_38 : decode cX1_settle 38 = .ok (.if_icmp .eq 7, 3) := by decide +kernel
theorem dX1_settle_41 : decode cX1_settle 41 = .ok (.iconst 1, 1) := by decide +kernel
theorem dX1_settle_42 : decode cX1_settle 42 = .ok (.goto 4, 3) := by decide +kernel
theorem dX1_settle_45 : decode cX1_settle 45 = .ok (.iconst 0, 1) := by decide +kernel
theorem dX1_settle_46 : decode cX1_settle 46 = .ok (.istore_n 1, 1) := by decide +kernel
theorem dX1_settle_47 : decode cX1_settle 47 = .ok (.aload_n 0, 1) := by decide +kernel
theorem dX1_settle_48 : decode cX1_settle 48 = .ok (.iload_n 3, 1) := by decide +kernel
theorem dX1_settle_49 : decode cX1_settle 49 = .ok (.putfield 33, 3) := by decide +kernel
theorem dX1_settle_52 : decode cX1_settle 52 = .ok (.iinc 2 1, 3) := by decide +kernel
theorem dX1_settle_55 : decode cX1_settle 55 = .ok (.goto (-39), 3) := by decide +kernel
theorem dX1_settle_58 : decode cX1_settle 58 = .ok (.aload_n 0, 1) := by decide +kernel
theorem dX1_settle_59 : decode cX1_settle 59 = .ok (.iconst 0, 1) := by decide +kernel
theorem dX1_settle_60 : decode cX1_settle 60 = .ok (.putfield 53, 3) := by decide +kernel
theorem dX1_settle_63 : decode cX1_settle 63 = .ok (.iconst 0, 1) := by decide +kernel
theorem dX1_settle_64 : decode cX1_settle 64 = .ok (.istore_n 2, 1) := by decide +kernel
theorem dX1_settle_65 : decode cX1_settle 65 = .ok (.iload_n 2, 1) := by decide +kernel
theorem dX1_settle_66 : decode cX1_settle 66 = .ok (.aload_n 0, 1) := by decide +kernel
theorem dX1_settle_67 : decode cX1_settle 67 = .ok (.getfield 22, 3) := by decide +kernel
theorem dX1_settle_70 : decode cX1_settle 70 = .ok (.if_icmp .ge 47, 3) := by decide +kernel
theorem dX1_settle_73 : decode cX1_settle 73 = .ok (.iconst 0, 1) := by decide +kernel
theorem dX1_settle_74 : decode cX1_settle 74 = .ok (.istore_n 3, 1) := by decide +kernel
theorem dX1_settle_75 : decode cX1_settle 75 = .ok (.iload_n 3, 1) := by decide +kernel
theorem dX1_settle_76 : decode cX1_settle 76 = .ok (.aload_n 0, 1) := by decide +kernel
theorem dX1_settle_77 : decode cX1_settle 77 = .ok (.getfield 18, 3) := by decide +kernel
theorem dX1_settle_80 : decode cX1_settle 80 = .ok (.if_icmp .ge 31, 3) := by decide +kernel
theorem dX1_settle_83 : decode cX1_settle 83 = .ok (.aload_n 0, 1) := by decide +kernel
theorem dX1_settle_84 : decode cX1_settle 84 = .ok (.iload_n 2, 1) := by decide +kernel
theorem dX1_settle_85 : decode cX1_settle 85 = .ok (.iload_n 3, 1) := by decide +kernel
theorem dX1_settle_86 : decode cX1_settle 86 = .ok (.invokevirtual 45, 3) := by decide +kernel
theorem dX1_settle_89 : decode cX1_settle 89 = .ok (.istore 4, 2) := by decide +kernel
theorem dX1_settle_91 : decode cX1_settle 91 = .ok (.aload_n 0, 1) := by decide +kernel
theorem dX1_settle_92 : decode cX1_settle 92 = .ok (.dup, 1) := by decide +kernel
theorem dX1_settle_93 : decode cX1_settle 93 = .ok (.getfield 53, 3) := by decide +kernel
theorem dX1_settle_96 : decode cX1_settle 96 = .ok (.iload 4, 2) := by decide +kernel
theorem dX1_settle_98 : decode cX1_settle 98 = .ok (.invokestatic 56, 3) := by decide +kernel
theorem dX1_settle_101 : decode cX1_settle 101 = .ok (.iadd, 1) := by decide +kernel
theorem dX1_settle_102 : decode cX1_settle 102 = .ok (.putfield 53, 3) := by decide +kernel
theorem dX1_settle_105 : decode cX1_settle 105 = .ok (.iinc 3 1, 3) := by decide +kernel
theorem dX1_settle_108 : decode cX1_settle 108 = .ok (.goto (-33), 3) := by decide +kernel
theorem dX1_settle_111 : decode cX1_settle 111 = .ok (.iinc 2 1, 3) := by decide +kernel
theorem dX1_settle_114 : decode cX1_settle 114 = .ok (.goto (-49), 3) := by decide +kernel
theorem dX1_settle_117 : decode cX1_settle 117 = .ok (.aload_n 0, 1) := by decide +kernel
theorem dX1_settle_118 : decode cX1_settle 118 = .ok (.invokevirtual 62, 3) := by decide +kernel
theorem dX1_settle_121 : decode cX1_settle 121 = .ok (.return_, 1) := by decide +kernel
set_option maxRecDepth 20000 in
theorem ggX1_stillLinked_X1_liveOuts : GoodIn wsX1_stillLinked wsX1_liveOuts := goodIn_r _ [6, 7, 8, 9, 10, 5, 11, 12, 13, 14, 15, 16, 17, 18, 19, 20, 21, 22, 23, 24] (by decide +kernel) (by decide +kernel)
set_option maxRecDepth 20000 in
theorem gX1_stillLinked_X1_liveOuts : GoodIn wsX1_stillLinked (wsV RX1 65 RX1 yX1_liveOuts wsX1_liveOuts) := goodIn_app (goodIn_of _ (by decide +kernel)) ggX1_stillLinked_X1_liveOuts
theorem dX1_stillLinked_0 : decode cX1_stillLinked 0 = .ok (.iconst 0, 1) := by decide +kernel
theorem dX1_stillLinked_1 : decode cX1_stillLinked 1 = .ok (.istore_n 1, 1) := by decide +kernel
theorem dX1_stillLinked_2 : decode cX1_stillLinked 2 = .ok (.iconst 0, 1) := by decide +kernel
theorem dX1_stillLinked_3 : decode cX1_stillLinked 3 = .ok (.istore_n 2, 1) := by decide +kernel
theorem dX1_stillLinked_4 : decode cX1_stillLinked 4 = .ok (.iconst 0, 1) := by decide +kernel
theorem dX1_stillLinked_5 : decode cX1_stillLinked 5 = .ok (.istore_n 3, 1) := by decide +kernel
theorem dX1_stillLinked_6 : decode cX1_stillLinked 6 = .ok (.iload_n 3, 1) := by decide +kernel
theorem dX1_stillLinked_7 : decode cX1_stillLinked 7 = .ok (.aload_n 0, 1) := by decide +kernel
theorem dX1_stillLinked_8 : decode cX1_stillLinked 8 = .ok (.getfield 22, 3) := by decide +kernel
theorem dX1_stillLinked_11 : decode cX1_stillLinked 11 = .ok (.if_icmp .ge 32, 3) := by decide +kernel
theorem dX1_stillLinked_14 : decode cX1_stillLinked 14 = .ok (.aload_n 0, 1) := by decide +kernel
theorem dX1_stillLinked_15 : decode cX1_stillLinked 15 = .ok (.iload_n 3, 1) := by decide +kernel
theorem dX1_stillLinked_16 : decode cX1_stillLinked 16 = .ok (.invokevirtual 65, 3) := by decide +kernel
theorem dX1_stillLinked_19 : decode cX1_stillLinked 19 = .ok (.istore 4, 2) := by decide +kernel
theorem dX1_stillLinked_21 : decode cX1_stillLinked 21 = .ok (.iload_n 2, 1) := by decide +kernel
theorem dX1_stillLinked_22 : decode cX1_stillLinked 22 = .ok (.iload 4, 2) := by decide +kernel
theorem dX1_stillLinked_24 : decode cX1_stillLinked 24 = .ok (.ior, 1) := by decide +kernel
theorem dX1_stillLinked_25 : decode cX1_stillLinked 25 = .ok (.istore_n 2, 1) := by decide +kernel
theorem dX1_stillLinked_26 : decode cX1_stillLinked 26 = .ok (.iload 4, 2) := by decide +kernel
theorem dX1_stillLinked_28 : decode cX1_stillLinked 28 = .ok (.ifCond .eq 9, 3) := by decide +kernel
theorem dX1_stillLinked_31 : decode cX1_stillLinked 31 = .ok (.iload_n 1, 1) := by decide +kernel
theorem dX1_stillLinked_32 : decode cX1_stillLinked 32 = .ok (.iconst 1, 1) := by decide +kernel
theorem dX1_stillLinked_33 : decode cX1_stillLinked 33 = .ok (.iload_n 3, 1) := by decide +kernel
theorem dX1_stillLinked_34 : decode cX1_stillLinked 34 = .ok (.ishl, 1) := by decide +kernel
theorem dX1_stillLinked_35 : decode cX1_stillLinked 35 = .ok (.ior, 1) := by decide +kernel
theorem dX1_stillLinked_36 : decode cX1_stillLinked 36 = .ok (.istore_n 1, 1) := by decide +kernel
theorem dX1_stillLinked_37 : decode cX1_stillLinked 37 = .ok (.iinc 3 1, 3) := by decide +kernel
theorem dX1_stillLinked_40 : decode cX1_stillLinked 40 = .ok (.goto (-34), 3) := by decide +kernel
theorem dX1_stillLinked_43 : decode cX1_stillLinked 43 = .ok (.iload_n 1, 1) := by decide +kernel
theorem dX1_stillLinked_44 : decode cX1_stillLinked 44 = .ok (.iload_n 2, 1) := by decide +kernel
theorem dX1_stillLinked_45 : decode cX1_stillLinked 45 = .ok (.iand, 1) := by decide +kernel
theorem dX1_stillLinked_46 : decode cX1_stillLinked 46 = .ok (.ireturn, 1) := by decide +kernel
set_option maxRecDepth 20000 in
theorem ggX1_fillSteps_X1_liveEnds : GoodIn wsX1_fillSteps wsX1_liveEnds := goodIn_r _ [8, 9, 10, 11, 12, 13, 7, 14, 15, 16, 17, 18, 19, 20, 21] (by decide +kernel) (by decide +kernel)
set_option maxRecDepth 20000 in
theorem gX1_fillSteps_X1_liveEnds : GoodIn wsX1_fillSteps (wsV RX1 45 RX1 yX1_liveEnds wsX1_liveEnds) := goodIn_app (goodIn_of _ (by decide +kernel)) ggX1_fillSteps_X1_liveEnds
theorem dX1_fillSteps_0 : decode cX1_fillSteps 0 = .ok (.iconst 0, 1) := by decide +kernel
theorem dX1_fillSteps_1 : decode cX1_fillSteps 1 = .ok (.istore_n 1, 1) := by decide +kernel
theorem dX1_fillSteps_2 : decode cX1_fillSteps 2 = .ok (.iload_n 1, 1) := by decide +kernel
theorem dX1_fillSteps_3 : decode cX1_fillSteps 3 = .ok (.aload_n 0, 1) := by decide +kernel
theorem dX1_fillSteps_4 : decode cX1_fillSteps 4 = .ok (.getfield 18, 3) := by decide +kernel
theorem dX1_fillSteps_7 : decode cX1_fillSteps 7 = .ok (.if_icmp .ge 103, 3) := by decide +kernel
theorem dX1_fillSteps_10 : decode cX1_fillSteps 10 = .ok (.iconst 0, 1) := by decide +kernel
theorem dX1_fillSteps_11 : decode cX1_fillSteps 11 = .ok (.istore_n 2, 1) := by decide +kernel
theorem dX1_fillSteps_12 : decode cX1_fillSteps 12 = .ok (.iload_n 2, 1) := by decide +kernel
theorem dX1_fillSteps_13 : decode cX1_fillSteps 13 = .ok (.bipush 16, 2) := by decide +kernel
theorem dX1_fillSteps_15 : decode cX1_fillSteps 15 = .ok (.if_icmp .ge 89, 3) := by decide +kernel
theorem dX1_fillSteps_18 : decode cX1_fillSteps 18 = .ok (.iload_n 2, 1) := by decide +kernel
theorem dX1_fillSteps_19 : decode cX1_fillSteps 19 = .ok (.aload_n 0, 1) := by decide +kernel
theorem dX1_fillSteps_20 : decode cX1_fillSteps 20 = .ok (.getfield 22, 3) := by decide +kernel
theorem dX1_fillSteps_23 : decode cX1_fillSteps 23 = .ok (.if_icmp .ge 12, 3) := by decide +kernel
theorem dX1_fillSteps_26 : decode cX1_fillSteps 26 = .ok (.aload_n 0, 1) := by decide +kernel
theorem dX1_fillSteps_27 : decode cX1_fillSteps 27 = .ok (.iload_n 2, 1) := by decide +kernel
theorem dX1_fillSteps_28 : decode cX1_fillSteps 28 = .ok (.iload_n 1, 1) := by decide +kernel
theorem dX1_fillSteps_29 : decode cX1_fillSteps 29 = .ok (.invokevirtual 45, 3) := by decide +kernel
theorem dX1_fillSteps_32 : decode cX1_fillSteps 32 = .ok (.goto 4, 3) := by decide +kernel
theorem dX1_fillSteps_35 : decode cX1_fillSteps 35 = .ok (.iconst 0, 1) := by decide +kernel
theorem dX1_fillSteps_36 : decode cX1_fillSteps 36 = .ok (.istore_n 3, 1) := by decide +kernel
theorem dX1_fillSteps_37 : decode cX1_fillSteps 37 = .ok (.iload_n 1, 1) := by decide +kernel
theorem dX1_fillSteps_38 : decode cX1_fillSteps 38 = .ok (.bipush 64, 2) := by decide +kernel
theorem dX1_fillSteps_40 : decode cX1_fillSteps 40 = .ok (.imul, 1) := by decide +kernel
theorem dX1_fillSteps_41 : decode cX1_fillSteps 41 = .ok (.iload_n 2, 1) := by decide +kernel
theorem dX1_fillSteps_42 : decode cX1_fillSteps 42 = .ok (.iconst 2, 1) := by decide +kernel
theorem dX1_fillSteps_43 : decode cX1_fillSteps 43 = .ok (.ishr, 1) := by decide +kernel
theorem dX1_fillSteps_44 : decode cX1_fillSteps 44 = .ok (.bipush 16, 2) := by decide +kernel
theorem dX1_fillSteps_46 : decode cX1_fillSteps 46 = .ok (.imul, 1) := by decide +kernel
theorem dX1_fillSteps_47 : decode cX1_fillSteps 47 = .ok (.iadd, 1) := by decide +kernel
theorem dX1_fillSteps_48 : decode cX1_fillSteps 48 = .ok (.istore 4, 2) := by decide +kernel
theorem dX1_fillSteps_50 : decode cX1_fillSteps 50 = .ok (.iconst 1, 1) := by decide +kernel
theorem dX1_fillSteps_51 : decode cX1_fillSteps 51 = .ok (.iload_n 2, 1) := by decide +kernel
theorem dX1_fillSteps_52 : decode cX1_fillSteps 52 = .ok (.iconst 3, 1) := by decide +kernel
theorem dX1_fillSteps_53 : decode cX1_fillSteps 53 = .ok (.iand, 1) := by decide +kernel
theorem dX1_fillSteps_54 : decode cX1_fillSteps 54 = .ok (.ishl, 1) := by decide +kernel
theorem dX1_fillSteps_55 : decode cX1_fillSteps 55 = .ok (.istore 5, 2) := by decide +kernel
theorem dX1_fillSteps_57 : decode cX1_fillSteps 57 = .ok (.iconst 0, 1) := by decide +kernel
theorem dX1_fillSteps_58 : decode cX1_fillSteps 58 = .ok (.istore 6, 2) := by decide +kernel
theorem dX1_fillSteps_60 : decode cX1_fillSteps 60 = .ok (.iload 6, 2) := by decide +kernel
theorem dX1_fillSteps_62 : decode cX1_fillSteps 62 = .ok (.iload 5, 2) := by decide +kernel
theorem dX1_fillSteps_64 : decode cX1_fillSteps 64 = .ok (.if_icmp .ge 34, 3) := by decide +kernel
theorem dX1_fillSteps_67 : decode cX1_fillSteps 67 = .ok (.aload_n 0, 1) := by decide +kernel
theorem dX1_fillSteps_68 : decode cX1_fillSteps 68 = .ok (.getfield 15, 3) := by decide +kernel
theorem dX1_fillSteps_71 : decode cX1_fillSteps 71 = .ok (.iload 4, 2) := by decide +kernel
theorem dX1_fillSteps_73 : decode cX1_fillSteps 73 = .ok (.iload 5, 2) := by decide +kernel
theorem dX1_fillSteps_75 : decode cX1_fillSteps 75 = .ok (.iadd, 1) := by decide +kernel
theorem dX1_fillSteps_76 : decode cX1_fillSteps 76 = .ok (.iload 6, 2) := by decide +kernel
theorem dX1_fillSteps_78 : decode cX1_fillSteps 78 = .ok (.iadd, 1) := by decide +kernel
theorem dX1_fillSteps_79 : decode cX1_fillSteps 79 = .ok (.aload_n 0, 1) := by decide +kernel
theorem dX1_fillSteps_80 : decode cX1_fillSteps 80 = .ok (.getfield 15, 3) := by decide +kernel
theorem dX1_fillSteps_83 : decode cX1_fillSteps 83 = .ok (.iload 4, 2) := by decide +kernel
theorem dX1_fillSteps_85 : decode cX1_fillSteps 85 = .ok (.iload 6, 2) := by decide +kernel
theorem dX1_fillSteps_87 : decode cX1_fillSteps 87 = .ok (.iadd, 1) := by decide +kernel
theorem dX1_fillSteps_88 : decode cX1_fillSteps 88 = .ok (.iaload, 1) := by decide +kernel
theorem dX1_fillSteps_89 : decode cX1_fillSteps 89 = .ok (.iload_n 3, 1) := by decide +kernel
theorem dX1_fillSteps_90 : decode cX1_fillSteps 90 = .ok (.ior, 1) := by decide +kernel
theorem dX1_fillSteps_91 : decode cX1_fillSteps 91 = .ok (.iastore, 1) := by decide +kernel
theorem dX1_fillSteps_92 : decode cX1_fillSteps 92 = .ok (.iinc 6 1, 3) := by decide +kernel
theorem dX1_fillSteps_95 : decode cX1_fillSteps 95 = .ok (.goto (-35), 3) := by decide +kernel
theorem dX1_fillSteps_98 : decode cX1_fillSteps 98 = .ok (.iinc 2 1, 3) := by decide +kernel
theorem dX1_fillSteps_101 : decode cX1_fillSteps 101 = .ok (.goto (-89), 3) := by decide +kernel
theorem dX1_fillSteps_104 : decode cX1_fillSteps 104 = .ok (.iinc 1 1, 3) := by decide +kernel
theorem dX1_fillSteps_107 : decode cX1_fillSteps 107 = .ok (.goto (-105), 3) := by decide +kernel
theorem dX1_fillSteps_110 : decode cX1_fillSteps 110 = .ok (.return_, 1) := by decide +kernel
set_option maxRecDepth 20000 in
theorem ggX1_digestOn_J6_bitCount_0f7a4 : GoodIn wsX1_digestOn wsJ6_bitCount_0f7a4 := goodIn_r _ [11, 12, 13, 14] (by decide +kernel) (by decide +kernel)
set_option maxRecDepth 20000 in
theorem gX1_digestOn_J6_bitCount_0f7a4 : GoodIn wsX1_digestOn (va_wsS RX1 56 yJ6_bitCount_0f7a4 wsJ6_bitCount_0f7a4) := goodIn_app (goodIn_of _ (by decide +kernel)) ggX1_digestOn_J6_bitCount_0f7a4
theorem dX1_digestOn_0 : decode cX1_digestOn 0 = .ok (.ldc2_w 68, 3) := by decide +kernel
theorem dX1_digestOn_3 : decode cX1_digestOn 3 = .ok (.lload_n 1, 1) := by decide +kernel
theorem dX1_digestOn_4 : decode cX1_digestOn 4 = .ok (.lmul, 1) := by decide +kernel
theorem dX1_digestOn_5 : decode cX1_digestOn 5 = .ok (.aload_n 0, 1) := by decide +kernel
theorem dX1_digestOn_6 : decode cX1_digestOn 6 = .ok (.getfield 18, 3) := by decide +kernel
theorem dX1_digestOn_9 : decode cX1_digestOn 9 = .ok (.i2l, 1) := by decide +kernel
theorem dX1_digestOn_10 : decode cX1_digestOn 10 = .ok (.ladd, 1) := by decide +kernel
theorem dX1_digestOn_11 : decode cX1_digestOn 11 = .ok (.lstore_n 3, 1) := by decide +kernel
theorem dX1_digestOn_12 : decode cX1_digestOn 12 = .ok (.ldc2_w 68, 3) := by decide +kernel
theorem dX1_digestOn_15 : decode cX1_digestOn 15 = .ok (.lload_n 3, 1) := by decide +kernel
theorem dX1_digestOn_16 : decode cX1_digestOn 16 = .ok (.lmul, 1) := by decide +kernel
theorem dX1_digestOn_17 : decode cX1_digestOn 17 = .ok (.aload_n 0, 1) := by decide +kernel
theorem dX1_digestOn_18 : decode cX1_digestOn 18 = .ok (.getfield 22, 3) := by decide +kernel
theorem dX1_digestOn_21 : decode cX1_digestOn 21 = .ok (.i2l, 1) := by decide +kernel
theorem dX1_digestOn_22 : decode cX1_digestOn 22 = .ok (.ladd, 1) := by decide +kernel
theorem dX1_digestOn_23 : decode cX1_digestOn 23 = .ok (.lstore_n 3, 1) := by decide +kernel
theorem dX1_digestOn_24 : decode cX1_digestOn 24 = .ok (.ldc2_w 68, 3) := by decide +kernel
theorem dX1_digestOn_27 : decode cX1_digestOn 27 = .ok (.lload_n 3, 1) := by decide +kernel
theorem dX1_digestOn_28 : decode cX1_digestOn 28 = .ok (.lmul, 1) := by decide +kernel
theorem dX1_digestOn_29 : decode cX1_digestOn 29 = .ok (.aload_n 0, 1) := by decide +kernel
theorem dX1_digestOn_30 : decode cX1_digestOn 30 = .ok (.getfield 36, 3) := by decide +kernel
theorem dX1_digestOn_33 : decode cX1_digestOn 33 = .ok (.i2l, 1) := by decide +kernel
theorem dX1_digestOn_34 : decode cX1_digestOn 34 = .ok (.ladd, 1) := by decide +kernel
theorem dX1_digestOn_35 : decode cX1_digestOn 35 = .ok (.lstore_n 3, 1) := by decide +kernel
theorem dX1_digestOn_36 : decode cX1_digestOn 36 = .ok (.ldc2_w 68, 3) := by decide +kernel
theorem dX1_digestOn_39 : decode cX1_digestOn 39 = .ok (.lload_n 3, 1) := by decide +kernel
theorem dX1_digestOn_40 : decode cX1_digestOn 40 = .ok (.lmul, 1) := by decide +kernel
theorem dX1_digestOn_41 : decode cX1_digestOn 41 = .ok (.aload_n 0, 1) := by decide +kernel
theorem dX1_digestOn_42 : decode cX1_digestOn 42 = .ok (.getfield 33, 3) := by decide +kernel
theorem dX1_digestOn_45 : decode cX1_digestOn 45 = .ok (.invokestatic 56, 3) := by decide +kernel
theorem dX1_digestOn_48 : decode cX1_digestOn 48 = .ok (.i2l, 1) := by decide +kernel
theorem dX1_digestOn_49 : decode cX1_digestOn 49 = .ok (.ladd, 1) := by decide +kernel
theorem dX1_digestOn_50 : decode cX1_digestOn 50 = .ok (.lstore_n 3, 1) := by decide +kernel
theorem dX1_digestOn_51 : decode cX1_digestOn 51 = .ok (.ldc2_w 68, 3) := by decide +kernel
theorem dX1_digestOn_54 : decode cX1_digestOn 54 = .ok (.lload_n 3, 1) := by decide +kernel
theorem dX1_digestOn_55 : decode cX1_digestOn 55 = .ok (.lmul, 1) := by decide +kernel
theorem dX1_digestOn_56 : decode cX1_digestOn 56 = .ok (.aload_n 0, 1) := by decide +kernel
theorem dX1_digestOn_57 : decode cX1_digestOn 57 = .ok (.getfield 53, 3) := by decide +kernel
theorem dX1_digestOn_60 : decode cX1_digestOn 60 = .ok (.i2l, 1) := by decide +kernel
theorem dX1_digestOn_61 : decode cX1_digestOn 61 = .ok (.ladd, 1) := by decide +kernel
theorem dX1_digestOn_62 : decode cX1_digestOn 62 = .ok (.lstore_n 3, 1) := by decide +kernel
theorem dX1_digestOn_63 : decode cX1_digestOn 63 = .ok (.iconst 0, 1) := by decide +kernel
theorem dX1_digestOn_64 : decode cX1_digestOn 64 = .ok (.istore 5, 2) := by decide +kernel
theorem dX1_digestOn_66 : decode cX1_digestOn 66 = .ok (.iload 5, 2) := by decide +kernel
theorem dX1_digestOn_68 : decode cX1_digestOn 68 = .ok (.aload_n 0, 1) := by decide +kernel
theorem dX1_digestOn_69 : decode cX1_digestOn 69 = .ok (.getfield 22, 3) := by decide +kernel
theorem dX1_digestOn_72 : decode cX1_digestOn 72 = .ok (.if_icmp .ge 47, 3) := by decide +kernel
theorem dX1_digestOn_75 : decode cX1_digestOn 75 = .ok (.iconst 0, 1) := by decide +kernel
theorem dX1_digestOn_76 : decode cX1_digestOn 76 = .ok (.istore 6, 2) := by decide +kernel
theorem dX1_digestOn_78 : decode cX1_digestOn 78 = .ok (.iload 6, 2) := by decide +kernel
theorem dX1_digestOn_80 : decode cX1_digestOn 80 = .ok (.aload_n 0, 1) := by decide +kernel
theorem dX1_digestOn_81 : decode cX1_digestOn 81 = .ok (.getfield 18, 3) := by decide +kernel
theorem dX1_digestOn_84 : decode cX1_digestOn 84 = .ok (.if_icmp .ge 29, 3) := by decide +kernel
theorem dX1_digestOn_87 : decode cX1_digestOn 87 = .ok (.ldc2_w 68, 3) := by decide +kernel
theorem dX1_digestOn_90 : decode cX1_digestOn 90 = .ok (.lload_n 3, 1) := by decide +kernel
theorem dX1_digestOn_91 : decode cX1_digestOn 91 = .ok (.lmul, 1) := by decide +kernel
theorem dX1_digestOn_92 : decode cX1_digestOn 92 = .ok (.aload_n 0, 1) := by decide +kernel
theorem dX1_digestOn_93 : decode cX1_digestOn 93 = .ok (.getfield 9, 3) := by decide +kernel
theorem dX1_digestOn_96 : decode cX1_digestOn 96 = .ok (.iload 5, 2) := by decide +kernel
theorem dX1_digestOn_98 : decode cX1_digestOn 98 = .ok (.iconst 4, 1) := by decide +kernel
theorem dX1_digestOn_99 : decode cX1_digestOn 99 = .ok (.imul, 1) := by decide +kernel
theorem dX1_digestOn_100 : decode cX1_digestOn 100 = .ok (.iload 6, 2) := by decide +kernel
theorem dX1_digestOn_102 : decode cX1_digestOn 102 = .ok (.iadd, 1) := by decide +kernel
theorem dX1_digestOn_103 : decode cX1_digestOn 103 = .ok (.iaload, 1) := by decide +kernel
theorem dX1_digestOn_104 : decode cX1_digestOn 104 = .ok (.i2l, 1) := by decide +kernel
theorem dX1_digestOn_105 : decode cX1_digestOn 105 = .ok (.ladd, 1) := by decide +kernel
theorem dX1_digestOn_106 : decode cX1_digestOn 106 = .ok (.lstore_n 3, 1) := by decide +kernel
theorem dX1_digestOn_107 : decode cX1_digestOn 107 = .ok (.iinc 6 1, 3) := by decide +kernel
theorem dX1_digestOn_110 : decode cX1_digestOn 110 = .ok (.goto (-32), 3) := by decide +kernel
theorem dX1_digestOn_113 : decode cX1_digestOn 113 = .ok (.iinc 5 1, 3) := by decide +kernel
theorem dX1_digestOn_116 : decode cX1_digestOn 116 = .ok (.goto (-50), 3) := by decide +kernel
theorem dX1_digestOn_119 : decode cX1_digestOn 119 = .ok (.lload_n 3, 1) := by decide +kernel
theorem dX1_digestOn_120 : decode cX1_digestOn 120 = .ok (.lreturn, 1) := by decide +kernel
theorem dX4_init_0 : decode cX4_init 0 = .ok (.aload_n 0, 1) := by decide +kernel
theorem dX4_init_1 : decode cX4_init 1 = .ok (.invokespecial 3, 3) := by decide +kernel
theorem dX4_init_4 : decode cX4_init 4 = .ok (.aload_n 0, 1) := by decide +kernel
theorem dX4_init_5 : decode cX4_init 5 = .ok (.iconst 1, 1) := by decide +kernel
theorem dX4_init_6 : decode cX4_init 6 = .ok (.putfield 9, 3) := by decide +kernel
theorem dX4_init_9 : decode cX4_init 9 = .ok (.aload_n 0, 1) := by decide +kernel
theorem dX4_init_10 : decode cX4_init 10 = .ok (.bipush 64, 2) := by decide +kernel
theorem dX4_init_12 : decode cX4_init 12 = .ok (.newarray .int, 2) := by decide +kernel
theorem dX4_init_14 : decode cX4_init 14 = .ok (.putfield 15, 3) := by decide +kernel
theorem dX4_init_17 : decode cX4_init 17 = .ok (.return_, 1) := by decide +kernel
set_option maxRecDepth 20000 in
theorem ggX4_open_J7_fill_53178 : GoodIn wsX4_open wsJ7_fill_53178 := goodIn_r _ [6] (by decide +kernel) (by decide +kernel)
set_option maxRecDepth 20000 in
theorem gX4_open_J7_fill_53178 : GoodIn wsX4_open (va_wsS RX4 19 yJ7_fill_53178 wsJ7_fill_53178) := goodIn_app (goodIn_of _ (by decide +kernel)) ggX4_open_J7_fill_53178
theorem dX4_open_0 : decode cX4_open 0 = .ok (.aload_n 0, 1) := by decide +kernel
theorem dX4_open_1 : decode cX4_open 1 = .ok (.iload_n 1, 1) := by decide +kernel
theorem dX4_open_2 : decode cX4_open 2 = .ok (.putfield 9, 3) := by decide +kernel
theorem dX4_open_5 : decode cX4_open 5 = .ok (.aload_n 0, 1) := by decide +kernel
theorem dX4_open_6 : decode cX4_open 6 = .ok (.getfield 15, 3) := by decide +kernel
theorem dX4_open_9 : decode cX4_open 9 = .ok (.iconst 0, 1) := by decide +kernel
theorem dX4_open_10 : decode cX4_open 10 = .ok (.invokestatic 19, 3) := by decide +kernel
theorem dX4_open_13 : decode cX4_open 13 = .ok (.return_, 1) := by decide +kernel
theorem dX4_rows_0 : decode cX4_rows 0 = .ok (.iconst 1, 1) := by decide +kernel
theorem dX4_rows_1 : decode cX4_rows 1 = .ok (.iconst 2, 1) := by decide +kernel
theorem dX4_rows_2 : decode cX4_rows 2 = .ok (.aload_n 0, 1) := by decide +kernel
theorem dX4_rows_3 : decode cX4_rows 3 = .ok (.getfield 9, 3) := by decide +kernel
theorem dX4_rows_6 : decode cX4_rows 6 = .ok (.imul, 1) := by decide +kernel
theorem dX4_rows_7 : decode cX4_rows 7 = .ok (.ishl, 1) := by decide +kernel
theorem dX4_rows_8 : decode cX4_rows 8 = .ok (.ireturn, 1) := by decide +kernel
set_option maxRecDepth 20000 in
theorem ggX4_digestOn_X4_rows : GoodIn wsX4_digestOn wsX4_rows := goodIn_r _ [7, 8, 9, 10] (by decide +kernel) (by decide +kernel)
set_option maxRecDepth 20000 in
theorem gX4_digestOn_X4_rows : GoodIn wsX4_digestOn (wsV RX4 25 RX4 yX4_rows wsX4_rows) := goodIn_app (goodIn_of _ (by decide +kernel)) ggX4_digestOn_X4_rows
theorem dX4_digestOn_0 : decode cX4_digestOn 0 = .ok (.lload_n 1, 1) := by decide +kernel
theorem dX4_digestOn_1 : decode cX4_digestOn 1 = .ok (.lstore_n 3, 1) := by decide +kernel
theorem dX4_digestOn_2 : decode cX4_digestOn 2 = .ok (.iconst 0, 1) := by decide +kernel
theorem dX4_digestOn_3 : decode cX4_digestOn 3 = .ok (.istore 5, 2) := by decide +kernel
theorem dX4_digestOn_5 : decode cX4_digestOn 5 = .ok (.iload 5, 2) := by decide +kernel
theorem dX4_digestOn_7 : decode cX4_digestOn 7 = .ok (.aload_n 0, 1) := by decide +kernel
theorem dX4_digestOn_8 : decode cX4_digestOn 8 = .ok (.invokevirtual 25, 3) := by decide +kernel
theorem dX4_digestOn_11 : decode cX4_digestOn 11 = .ok (.if_icmp .ge 24, 3) := by decide +kernel
theorem dX4_digestOn_14 : decode cX4_digestOn 14 = .ok (.ldc2_w 29, 3) := by decide +kernel
theorem dX4_digestOn_17 : decode cX4_digestOn 17 = .ok (.lload_n 3, 1) := by decide +kernel
theorem dX4_digestOn_18 : decode cX4_digestOn 18 = .ok (.lmul, 1) := by decide +kernel
theorem dX4_digestOn_19 : decode cX4_digestOn 19 = .ok (.aload_n 0, 1) := by decide +kernel
theorem dX4_digestOn_20 : decode cX4_digestOn 20 = .ok (.getfield 15, 3) := by decide +kernel
theorem dX4_digestOn_23 : decode cX4_digestOn 23 = .ok (.iload 5, 2) := by decide +kernel
theorem dX4_digestOn_25 : decode cX4_digestOn 25 = .ok (.iaload, 1) := by decide +kernel
theorem dX4_digestOn_26 : decode cX4_digestOn 26 = .ok (.i2l, 1) := by decide +kernel
theorem dX4_digestOn_27 : decode cX4_digestOn 27 = .ok (.ladd, 1) := by decide +kernel
theorem dX4_digestOn_28 : decode cX4_digestOn 28 = .ok (.lstore_n 3, 1) := by decide +kernel
theorem dX4_digestOn_29 : decode cX4_digestOn 29 = .ok (.iinc 5 1, 3) := by decide +kernel
theorem dX4_digestOn_32 : decode cX4_digestOn 32 = .ok (.goto (-27), 3) := by decide +kernel
theorem dX4_digestOn_35 : decode cX4_digestOn 35 = .ok (.lload_n 3, 1) := by decide +kernel
theorem dX4_digestOn_36 : decode cX4_digestOn 36 = .ok (.lreturn, 1) := by decide +kernel
theorem dX9_within_0 : decode cX9_within 0 = .ok (.iload_n 0, 1) := by decide +kernel
theorem dX9_within_1 : decode cX9_within 1 = .ok (.iload_n 1, 1) := by decide +kernel
theorem dX9_within_2 : decode cX9_within 2 = .ok (.if_icmp .lt 12, 3) := by decide +kernel
theorem dX9_within_5 : decode cX9_within 5 = .ok (.iload_n 0, 1) := by decide +kernel
theorem dX9_within_6 : decode cX9_within 6 = .ok (.iload_n 2, 1) := by decide +kernel
theorem dX9_within_7 : decode cX9_within 7 = .ok (.if_icmp .gt 7, 3) := by decide +kernel
theorem dX9_within_10 : decode cX9_within 10 = .ok (.iconst 1, 1) := by decide +kernel
theorem dX9_within_11 : decode cX9_within 11 = .ok (.goto 4, 3) := by decide +kernel
theorem dX9_within_14 : decode cX9_within 14 = .ok (.iconst 0, 1) := by decide +kernel
theorem dX9_within_15 : decode cX9_within 15 = .ok (.ireturn, 1) := by decide +kernel
theorem dX9_power_0 : decode cX9_power 0 = .ok (.iconst 1, 1) := by decide +kernel
theorem dX9_power_1 : decode cX9_power 1 = .ok (.istore_n 2, 1) := by decide +kernel
theorem dX9_power_2 : decode cX9_power 2 = .ok (.iconst 0, 1) := by decide +kernel
theorem dX9_power_3 : decode cX9_power 3 = .ok (.istore_n 3, 1) := by decide +kernel
theorem dX9_power_4 : decode cX9_power 4 = .ok (.iload_n 3, 1) := by decide +kernel
theorem dX9_power_5 : decode cX9_power 5 = .ok (.iload_n 1, 1) := by decide +kernel
theorem dX9_power_6 : decode cX9_power 6 = .ok (.if_icmp .ge 13, 3) := by decide +kernel
theorem dX9_power_9 : decode cX9_power 9 = .ok (.iload_n 2, 1) := by decide +kernel
theorem dX9_power_10 : decode cX9_power 10 = .ok (.iload_n 0, 1) := by decide +kernel
theorem dX9_power_11 : decode cX9_power 11 = .ok (.imul, 1) := by decide +kernel
theorem dX9_power_12 : decode cX9_power 12 = .ok (.istore_n 2, 1) := by decide +kernel
theorem dX9_power_13 : decode cX9_power 13 = .ok (.iinc 3 1, 3) := by decide +kernel
theorem dX9_power_16 : decode cX9_power 16 = .ok (.goto (-12), 3) := by decide +kernel
theorem dX9_power_19 : decode cX9_power 19 = .ok (.iload_n 2, 1) := by decide +kernel
theorem dX9_power_20 : decode cX9_power 20 = .ok (.ireturn, 1) := by decide +kernel
theorem dX9_commonDivisor_0 : decode cX9_commonDivisor 0 = .ok (.lload_n 0, 1) := by decide +kernel
theorem dX9_commonDivisor_1 : decode cX9_commonDivisor 1 = .ok (.lstore 4, 2) := by decide +kernel
theorem dX9_commonDivisor_3 : decode cX9_commonDivisor 3 = .ok (.lload_n 2, 1) := by decide +kernel
theorem dX9_commonDivisor_4 : decode cX9_commonDivisor 4 = .ok (.lstore 6, 2) := by decide +kernel
theorem dX9_commonDivisor_6 : decode cX9_commonDivisor 6 = .ok (.iconst 0, 1) := by decide +kernel
theorem dX9_commonDivisor_7 : decode cX9_commonDivisor 7 = .ok (.istore 8, 2) := by decide +kernel
theorem dX9_commonDivisor_9 : decode cX9_commonDivisor 9 = .ok (.iload 8, 2) := by decide +kernel
theorem dX9_commonDivisor_11 : decode cX9_commonDivisor 11 = .ok (.bipush 100, 2) := by decide +kernel
theorem dX9_commonDivisor_13 : decode cX9_commonDivisor 13 = .ok (.if_icmp .ge 31, 3) := by decide +kernel
theorem dX9_commonDivisor_16 : decode cX9_commonDivisor 16 = .ok (.lload 6, 2) := by decide +kernel
theorem dX9_commonDivisor_18 : decode cX9_commonDivisor 18 = .ok (.lconst 0, 1) := by decide +kernel
theorem dX9_commonDivisor_19 : decode cX9_commonDivisor 19 = .ok (.lcmp, 1) := by decide +kernel
theorem dX9_commonDivisor_20 : decode cX9_commonDivisor 20 = .ok (.ifCond .eq 24, 3) := by decide +kernel
theorem dX9_commonDivisor_23 : decode cX9_commonDivisor 23 = .ok (.lload 4, 2) := by decide +kernel
theorem dX9_commonDivisor_25 : decode cX9_commonDivisor 25 = .ok (.lload 6, 2) := by decide +kernel
theorem dX9_commonDivisor_27 : decode cX9_commonDivisor 27 = .ok (.lrem, 1) := by decide +kernel
theorem dX9_commonDivisor_28 : decode cX9_commonDivisor 28 = .ok (.lstore 9, 2) := by decide +kernel
theorem dX9_commonDivisor_30 : decode cX9_commonDivisor 30 = .ok (.lload 6, 2) := by decide +kernel
theorem dX9_commonDivisor_32 : decode cX9_commonDivisor 32 = .ok (.lstore 4, 2) := by decide +kernel
theorem dX9_commonDivisor_34 : decode cX9_commonDivisor 34 = .ok (.lload 9, 2) := by decide +kernel
theorem dX9_commonDivisor_36 : decode cX9_commonDivisor 36 = .ok (.lstore 6, 2) := by decide +kernel
theorem dX9_commonDivisor_38 : decode cX9_commonDivisor 38 = .ok (.iinc 8 1, 3) := by decide +kernel
theorem dX9_commonDivisor_41 : decode cX9_commonDivisor 41 = .ok (.goto (-32), 3) := by decide +kernel
theorem dX9_commonDivisor_44 : decode cX9_commonDivisor 44 = .ok (.lload 4, 2) := by decide +kernel
theorem dX9_commonDivisor_46 : decode cX9_commonDivisor 46 = .ok (.lreturn, 1) := by decide +kernel
theorem dJ6_bitCount_0f7a4_0 : decode cJ6_bitCount_0f7a4 0 = .ok (.iload_n 0, 1) := by decide +kernel
theorem dJ6_bitCount_0f7a4_1 : decode cJ6_bitCount_0f7a4 1 = .ok (.iload_n 0, 1) := by decide +kernel
theorem dJ6_bitCount_0f7a4_2 : decode cJ6_bitCount_0f7a4 2 = .ok (.iconst 1, 1) := by decide +kernel
theorem dJ6_bitCount_0f7a4_3 : decode cJ6_bitCount_0f7a4 3 = .ok (.iushr, 1) := by decide +kernel
theorem dJ6_bitCount_0f7a4_4 : decode cJ6_bitCount_0f7a4 4 = .ok (.ldc_w 265, 3) := by decide +kernel
theorem dJ6_bitCount_0f7a4_7 : decode cJ6_bitCount_0f7a4 7 = .ok (.iand, 1) := by decide +kernel
theorem dJ6_bitCount_0f7a4_8 : decode cJ6_bitCount_0f7a4 8 = .ok (.isub, 1) := by decide +kernel
theorem dJ6_bitCount_0f7a4_9 : decode cJ6_bitCount_0f7a4 9 = .ok (.istore_n 0, 1) := by decide +kernel
theorem dJ6_bitCount_0f7a4_10 : decode cJ6_bitCount_0f7a4 10 = .ok (.iload_n 0, 1) := by decide +kernel
theorem dJ6_bitCount_0f7a4_11 : decode cJ6_bitCount_0f7a4 11 = .ok (.ldc_w 266, 3) := by decide +kernel
theorem dJ6_bitCount_0f7a4_14 : decode cJ6_bitCount_0f7a4 14 = .ok (.iand, 1) := by decide +kernel
theorem dJ6_bitCount_0f7a4_15 : decode cJ6_bitCount_0f7a4 15 = .ok (.iload_n 0, 1) := by decide +kernel
theorem dJ6_bitCount_0f7a4_16 : decode cJ6_bitCount_0f7a4 16 = .ok (.iconst 2, 1) := by decide +kernel
theorem dJ6_bitCount_0f7a4_17 : decode cJ6_bitCount_0f7a4 17 = .ok (.iushr, 1) := by decide +kernel
theorem dJ6_bitCount_0f7a4_18 : decode cJ6_bitCount_0f7a4 18 = .ok (.ldc_w 266, 3) := by decide +kernel
theorem dJ6_bitCount_0f7a4_21 : decode cJ6_bitCount_0f7a4 21 = .ok (.iand, 1) := by decide +kernel
theorem dJ6_bitCount_0f7a4_22 : decode cJ6_bitCount_0f7a4 22 = .ok (.iadd, 1) := by decide +kernel
theorem dJ6_bitCount_0f7a4_23 : decode cJ6_bitCount_0f7a4 23 = .ok (.istore_n 0, 1) := by decide +kernel
theorem dJ6_bitCount_0f7a4_24 : decode cJ6_bitCount_0f7a4 24 = .ok (.iload_n 0, 1) := by decide +kernel
theorem dJ6_bitCount_0f7a4_25 : decode cJ6_bitCount_0f7a4 25 = .ok (.iload_n 0, 1) := by decide +kernel
theorem dJ6_bitCount_0f7a4_26 : decode cJ6_bitCount_0f7a4 26 = .ok (.iconst 4, 1) := by decide +kernel
theorem dJ6_bitCount_0f7a4_27 : decode cJ6_bitCount_0f7a4 27 = .ok (.iushr, 1) := by decide +kernel
theorem dJ6_bitCount_0f7a4_28 : decode cJ6_bitCount_0f7a4 28 = .ok (.iadd, 1) := by decide +kernel
theorem dJ6_bitCount_0f7a4_29 : decode cJ6_bitCount_0f7a4 29 = .ok (.ldc_w 267, 3) := by decide +kernel
theorem dJ6_bitCount_0f7a4_32 : decode cJ6_bitCount_0f7a4 32 = .ok (.iand, 1) := by decide +kernel
theorem dJ6_bitCount_0f7a4_33 : decode cJ6_bitCount_0f7a4 33 = .ok (.istore_n 0, 1) := by decide +kernel
theorem dJ6_bitCount_0f7a4_34 : decode cJ6_bitCount_0f7a4 34 = .ok (.iload_n 0, 1) := by decide +kernel
theorem dJ6_bitCount_0f7a4_35 : decode cJ6_bitCount_0f7a4 35 = .ok (.iload_n 0, 1) := by decide +kernel
theorem dJ6_bitCount_0f7a4_36 : decode cJ6_bitCount_0f7a4 36 = .ok (.bipush 8, 2) := by decide +kernel
theorem dJ6_bitCount_0f7a4_38 : decode cJ6_bitCount_0f7a4 38 = .ok (.iushr, 1) := by decide +kernel
theorem dJ6_bitCount_0f7a4_39 : decode cJ6_bitCount_0f7a4 39 = .ok (.iadd, 1) := by decide +kernel
theorem dJ6_bitCount_0f7a4_40 : decode cJ6_bitCount_0f7a4 40 = .ok (.istore_n 0, 1) := by decide +kernel
theorem dJ6_bitCount_0f7a4_41 : decode cJ6_bitCount_0f7a4 41 = .ok (.iload_n 0, 1) := by decide +kernel
theorem dJ6_bitCount_0f7a4_42 : decode cJ6_bitCount_0f7a4 42 = .ok (.iload_n 0, 1) := by decide +kernel
theorem dJ6_bitCount_0f7a4_43 : decode cJ6_bitCount_0f7a4 43 = .ok (.bipush 16, 2) := by decide +kernel
theorem dJ6_bitCount_0f7a4_45 : decode cJ6_bitCount_0f7a4 45 = .ok (.iushr, 1) := by decide +kernel
theorem dJ6_bitCount_0f7a4_46 : decode cJ6_bitCount_0f7a4 46 = .ok (.iadd, 1) := by decide +kernel
theorem dJ6_bitCount_0f7a4_47 : decode cJ6_bitCount_0f7a4 47 = .ok (.istore_n 0, 1) := by decide +kernel
theorem dJ6_bitCount_0f7a4_48 : decode cJ6_bitCount_0f7a4 48 = .ok (.iload_n 0, 1) := by decide +kernel
theorem dJ6_bitCount_0f7a4_49 : decode cJ6_bitCount_0f7a4 49 = .ok (.bipush 63, 2) := by decide +kernel
theorem dJ6_bitCount_0f7a4_51 : decode cJ6_bitCount_0f7a4 51 = .ok (.iand, 1) := by decide +kernel
theorem dJ6_bitCount_0f7a4_52 : decode cJ6_bitCount_0f7a4 52 = .ok (.ireturn, 1) := by decide +kernel
theorem dJ9_abs_0f7a4_0 : decode cJ9_abs_0f7a4 0 = .ok (.iload_n 0, 1) := by decide +kernel
theorem dJ9_abs_0f7a4_1 : decode cJ9_abs_0f7a4 1 = .ok (.ifCond .ge 8, 3) := by decide +kernel
theorem dJ9_abs_0f7a4_4 : decode cJ9_abs_0f7a4 4 = .ok (.iload_n 0, 1) := by decide +kernel
theorem dJ9_abs_0f7a4_5 : decode cJ9_abs_0f7a4 5 = .ok (.ineg, 1) := by decide +kernel
theorem dJ9_abs_0f7a4_6 : decode cJ9_abs_0f7a4 6 = .ok (.goto 4, 3) := by decide +kernel
theorem dJ9_abs_0f7a4_9 : decode cJ9_abs_0f7a4 9 = .ok (.iload_n 0, 1) := by decide +kernel
theorem dJ9_abs_0f7a4_10 : decode cJ9_abs_0f7a4 10 = .ok (.ireturn, 1) := by decide +kernel
theorem dJ9_max_7cf53_0 : decode cJ9_max_7cf53 0 = .ok (.iload_n 0, 1) := by decide +kernel
theorem dJ9_max_7cf53_1 : decode cJ9_max_7cf53 1 = .ok (.iload_n 1, 1) := by decide +kernel
theorem dJ9_max_7cf53_2 : decode cJ9_max_7cf53 2 = .ok (.if_icmp .lt 7, 3) := by decide +kernel
theorem dJ9_max_7cf53_5 : decode cJ9_max_7cf53 5 = .ok (.iload_n 0, 1) := by decide +kernel
theorem dJ9_max_7cf53_6 : decode cJ9_max_7cf53 6 = .ok (.goto 4, 3) := by decide +kernel
theorem dJ9_max_7cf53_9 : decode cJ9_max_7cf53 9 = .ok (.iload_n 1, 1) := by decide +kernel
theorem dJ9_max_7cf53_10 : decode cJ9_max_7cf53 10 = .ok (.ireturn, 1) := by decide +kernel
theorem dJ9_min_7cf53_0 : decode cJ9_min_7cf53 0 = .ok (.iload_n 0, 1) := by decide +kernel
theorem dJ9_min_7cf53_1 : decode cJ9_min_7cf53 1 = .ok (.iload_n 1, 1) := by decide +kernel
theorem dJ9_min_7cf53_2 : decode cJ9_min_7cf53 2 = .ok (.if_icmp .gt 7, 3) := by decide +kernel
theorem dJ9_min_7cf53_5 : decode cJ9_min_7cf53 5 = .ok (.iload_n 0, 1) := by decide +kernel
theorem dJ9_min_7cf53_6 : decode cJ9_min_7cf53 6 = .ok (.goto 4, 3) := by decide +kernel
theorem dJ9_min_7cf53_9 : decode cJ9_min_7cf53 9 = .ok (.iload_n 1, 1) := by decide +kernel
theorem dJ9_min_7cf53_10 : decode cJ9_min_7cf53 10 = .ok (.ireturn, 1) := by decide +kernel
theorem dJ9_min_f86c9_0 : decode cJ9_min_f86c9 0 = .ok (.lload_n 0, 1) := by decide +kernel
theorem dJ9_min_f86c9_1 : decode cJ9_min_f86c9 1 = .ok (.lload_n 2, 1) := by decide +kernel
theorem dJ9_min_f86c9_2 : decode cJ9_min_f86c9 2 = .ok (.lcmp, 1) := by decide +kernel
theorem dJ9_min_f86c9_3 : decode cJ9_min_f86c9 3 = .ok (.ifCond .gt 7, 3) := by decide +kernel
theorem dJ9_min_f86c9_6 : decode cJ9_min_f86c9 6 = .ok (.lload_n 0, 1) := by decide +kernel
theorem dJ9_min_f86c9_7 : decode cJ9_min_f86c9 7 = .ok (.goto 4, 3) := by decide +kernel
theorem dJ9_min_f86c9_10 : decode cJ9_min_f86c9 10 = .ok (.lload_n 2, 1) := by decide +kernel
theorem dJ9_min_f86c9_11 : decode cJ9_min_f86c9 11 = .ok (.lreturn, 1) := by decide +kernel
