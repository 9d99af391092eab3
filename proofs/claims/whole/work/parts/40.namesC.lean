theorem dX6_init_0 : decode cX6_init 0 = .ok (.aload_n 0, 1) := by decide +kernel
theorem dX6_init_1 : decode cX6_init 1 = .ok (.invokespecial 3, 3) := by decide +kernel
theorem dX6_init_4 : decode cX6_init 4 = .ok (.aload_n 0, 1) := by decide +kernel
theorem dX6_init_5 : decode cX6_init 5 = .ok (.bipush 16, 2) := by decide +kernel
theorem dX6_init_7 : decode cX6_init 7 = .ok (.newarray .int, 2) := by decide +kernel
theorem dX6_init_9 : decode cX6_init 9 = .ok (.putfield 9, 3) := by decide +kernel
theorem dX6_init_12 : decode cX6_init 12 = .ok (.aload_n 0, 1) := by decide +kernel
theorem dX6_init_13 : decode cX6_init 13 = .ok (.bipush 16, 2) := by decide +kernel
theorem dX6_init_15 : decode cX6_init 15 = .ok (.newarray .int, 2) := by decide +kernel
theorem dX6_init_17 : decode cX6_init 17 = .ok (.putfield 15, 3) := by decide +kernel
theorem dX6_init_20 : decode cX6_init 20 = .ok (.return_, 1) := by decide +kernel
set_option maxRecDepth 20000 in
theorem ggX6_howManyParts_X6_findReached : GoodIn wsX6_howManyParts wsX6_findReached := goodIn_r _ [6, 7, 1, 8, 9, 10, 11, 12, 13, 14, 15, 16, 17, 18, 19, 20, 21, 22, 23, 39, 40, 32, 33, 34, 35, 36, 37, 38] (by decide +kernel) (by decide +kernel)
set_option maxRecDepth 20000 in
theorem gX6_howManyParts_X6_findReached : GoodIn wsX6_howManyParts (wsV RX6 18 RX6 yX6_findReached wsX6_findReached) := goodIn_app (goodIn_of _ (by decide +kernel)) ggX6_howManyParts_X6_findReached
set_option maxRecDepth 20000 in
theorem ggX6_howManyParts_X1_isLive : GoodIn wsX6_howManyParts wsX1_isLive := goodIn_r _ [23, 19, 32, 33, 34, 35, 36, 37, 38] (by decide +kernel) (by decide +kernel)
set_option maxRecDepth 20000 in
theorem gX6_howManyParts_X1_isLive : GoodIn wsX6_howManyParts (wsV RX6 28 RX1 yX1_isLive wsX1_isLive) := goodIn_app (goodIn_of _ (by decide +kernel)) ggX6_howManyParts_X1_isLive
set_option maxRecDepth 20000 in
theorem ggX6_howManyParts_X6_members : GoodIn wsX6_howManyParts wsX6_members := goodIn_r _ [28, 7, 39, 40] (by decide +kernel) (by decide +kernel)
set_option maxRecDepth 20000 in
theorem gX6_howManyParts_X6_members : GoodIn wsX6_howManyParts (wsV RX6 32 RX6 yX6_members wsX6_members) := goodIn_app (goodIn_of _ (by decide +kernel)) ggX6_howManyParts_X6_members
set_option maxRecDepth 20000 in
theorem ggX6_howManyParts_X6_leastIn : GoodIn wsX6_howManyParts wsX6_leastIn := goodIn_r _ [31] (by decide +kernel) (by decide +kernel)
set_option maxRecDepth 20000 in
theorem gX6_howManyParts_X6_leastIn : GoodIn wsX6_howManyParts (va_wsS RX6 36 yX6_leastIn wsX6_leastIn) := goodIn_app (goodIn_of _ (by decide +kernel)) ggX6_howManyParts_X6_leastIn
theorem dX6_howManyParts_0 : decode cX6_howManyParts 0 = .ok (.aload_n 0, 1) := by decide +kernel
theorem dX6_howManyParts_1 : decode cX6_howManyParts 1 = .ok (.aload_n 1, 1) := by decide +kernel
theorem dX6_howManyParts_2 : decode cX6_howManyParts 2 = .ok (.invokevirtual 18, 3) := by decide +kernel
theorem dX6_howManyParts_5 : decode cX6_howManyParts 5 = .ok (.iconst 0, 1) := by decide +kernel
theorem dX6_howManyParts_6 : decode cX6_howManyParts 6 = .ok (.istore_n 2, 1) := by decide +kernel
theorem dX6_howManyParts_7 : decode cX6_howManyParts 7 = .ok (.iconst 0, 1) := by decide +kernel
theorem dX6_howManyParts_8 : decode cX6_howManyParts 8 = .ok (.istore_n 3, 1) := by decide +kernel
theorem dX6_howManyParts_9 : decode cX6_howManyParts 9 = .ok (.iload_n 3, 1) := by decide +kernel
theorem dX6_howManyParts_10 : decode cX6_howManyParts 10 = .ok (.aload_n 1, 1) := by decide +kernel
theorem dX6_howManyParts_11 : decode cX6_howManyParts 11 = .ok (.getfield 22, 3) := by decide +kernel
theorem dX6_howManyParts_14 : decode cX6_howManyParts 14 = .ok (.if_icmp .ge 32, 3) := by decide +kernel
theorem dX6_howManyParts_17 : decode cX6_howManyParts 17 = .ok (.aload_n 1, 1) := by decide +kernel
theorem dX6_howManyParts_18 : decode cX6_howManyParts 18 = .ok (.iload_n 3, 1) := by decide +kernel
theorem dX6_howManyParts_19 : decode cX6_howManyParts 19 = .ok (.invokevirtual 28, 3) := by decide +kernel
theorem dX6_howManyParts_22 : decode cX6_howManyParts 22 = .ok (.ifCond .eq 18, 3) := by decide +kernel
theorem dX6_howManyParts_25 : decode cX6_howManyParts 25 = .ok (.aload_n 0, 1) := by decide +kernel
theorem dX6_howManyParts_26 : decode cX6_howManyParts 26 = .ok (.iload_n 3, 1) := by decide +kernel
theorem dX6_howManyParts_27 : decode cX6_howManyParts 27 = .ok (.invokevirtual 32, 3) := by decide +kernel
theorem dX6_howManyParts_30 : decode cX6_howManyParts 30 = .ok (.invokestatic 36, 3) := by decide +kernel
theorem dX6_howManyParts_33 : decode cX6_howManyParts 33 = .ok (.iload_n 3, 1) := by decide +kernel
theorem dX6_howManyParts_34 : decode cX6_howManyParts 34 = .ok (.if_icmp .ne 6, 3) := by decide +kernel
theorem dX6_howManyParts_37 : decode cX6_howManyParts 37 = .ok (.iinc 2 1, 3) := by decide +kernel
theorem dX6_howManyParts_40 : decode cX6_howManyParts 40 = .ok (.iinc 3 1, 3) := by decide +kernel
theorem dX6_howManyParts_43 : decode cX6_howManyParts 43 = .ok (.goto (-34), 3) := by decide +kernel
theorem dX6_howManyParts_46 : decode cX6_howManyParts 46 = .ok (.iload_n 2, 1) := by decide +kernel
theorem dX6_howManyParts_47 : decode cX6_howManyParts 47 = .ok (.ireturn, 1) := by decide +kernel
set_option maxRecDepth 20000 in
theorem ggX6_leastOf_X6_findReached : GoodIn wsX6_leastOf wsX6_findReached := goodIn_r _ [5, 6, 7, 8, 9, 10, 11, 12, 13, 14, 15, 16, 17, 18, 19, 20, 21, 22, 23, 31, 32, 33, 34, 35, 36, 37, 38, 39] (by decide +kernel) (by decide +kernel)
set_option maxRecDepth 20000 in
theorem gX6_leastOf_X6_findReached : GoodIn wsX6_leastOf (wsV RX6 18 RX6 yX6_findReached wsX6_findReached) := goodIn_app (goodIn_of _ (by decide +kernel)) ggX6_leastOf_X6_findReached
set_option maxRecDepth 20000 in
theorem ggX6_leastOf_X6_members : GoodIn wsX6_leastOf wsX6_members := goodIn_r _ [27, 6, 31, 32] (by decide +kernel) (by decide +kernel)
set_option maxRecDepth 20000 in
theorem gX6_leastOf_X6_members : GoodIn wsX6_leastOf (wsV RX6 32 RX6 yX6_members wsX6_members) := goodIn_app (goodIn_of _ (by decide +kernel)) ggX6_leastOf_X6_members
set_option maxRecDepth 20000 in
theorem ggX6_leastOf_X6_leastIn : GoodIn wsX6_leastOf wsX6_leastIn := goodIn_r _ [30] (by decide +kernel) (by decide +kernel)
set_option maxRecDepth 20000 in
theorem gX6_leastOf_X6_leastIn : GoodIn wsX6_leastOf (va_wsS RX6 36 yX6_leastIn wsX6_leastIn) := goodIn_app (goodIn_of _ (by decide +kernel)) ggX6_leastOf_X6_leastIn
theorem dX6_leastOf_0 : decode cX6_leastOf 0 = .ok (.aload_n 0, 1) := by decide +kernel
theorem dX6_leastOf_1 : decode cX6_leastOf 1 = .ok (.aload_n 1, 1) := by decide +kernel
theorem dX6_leastOf_2 : decode cX6_leastOf 2 = .ok (.invokevirtual 18, 3) := by decide +kernel
theorem dX6_leastOf_5 : decode cX6_leastOf 5 = .ok (.aload_n 0, 1) := by decide +kernel
theorem dX6_leastOf_6 : decode cX6_leastOf 6 = .ok (.iload_n 2, 1) := by decide +kernel
theorem dX6_leastOf_7 : decode cX6_leastOf 7 = .ok (.invokevirtual 32, 3) := by decide +kernel
theorem dX6_leastOf_10 : decode cX6_leastOf 10 = .ok (.invokestatic 36, 3) := by decide +kernel
theorem dX6_leastOf_13 : decode cX6_leastOf 13 = .ok (.ireturn, 1) := by decide +kernel
set_option maxRecDepth 20000 in
theorem ggX6_findReached_X1_liveOuts : GoodIn wsX6_findReached wsX1_liveOuts := goodIn_r _ [7, 8, 9, 10, 11, 6, 12, 13, 14, 15, 16, 17, 18, 21, 22, 23, 24, 25, 26, 27] (by decide +kernel) (by decide +kernel)
set_option maxRecDepth 20000 in
theorem gX6_findReached_X1_liveOuts : GoodIn wsX6_findReached (wsV RX6 39 RX1 yX1_liveOuts wsX1_liveOuts) := goodIn_app (goodIn_of _ (by decide +kernel)) ggX6_findReached_X1_liveOuts
theorem dX6_findReached_0 : decode cX6_findReached 0 = .ok (.iconst 0, 1) := by decide +kernel
theorem dX6_findReached_1 : decode cX6_findReached 1 = .ok (.istore_n 2, 1) := by decide +kernel
theorem dX6_findReached_2 : decode cX6_findReached 2 = .ok (.iload_n 2, 1) := by decide +kernel
theorem dX6_findReached_3 : decode cX6_findReached 3 = .ok (.bipush 16, 2) := by decide +kernel
theorem dX6_findReached_5 : decode cX6_findReached 5 = .ok (.if_icmp .ge 32, 3) := by decide +kernel
theorem dX6_findReached_8 : decode cX6_findReached 8 = .ok (.aload_n 0, 1) := by decide +kernel
theorem dX6_findReached_9 : decode cX6_findReached 9 = .ok (.getfield 9, 3) := by decide +kernel
theorem dX6_findReached_12 : decode cX6_findReached 12 = .ok (.iload_n 2, 1) := by decide +kernel
theorem dX6_findReached_13 : decode cX6_findReached 13 = .ok (.iload_n 2, 1) := by decide +kernel
theorem dX6_findReached_14 : decode cX6_findReached 14 = .ok (.aload_n 1, 1) := by decide +kernel
theorem dX6_findReached_15 : decode cX6_findReached 15 = .ok (.getfield 22, 3) := by decide +kernel
theorem dX6_findReached_18 : decode cX6_findReached 18 = .ok (.if_icmp .ge 11, 3) := by decide +kernel
theorem dX6_findReached_21 : decode cX6_findReached 21 = .ok (.aload_n 1, 1) := by decide +kernel
theorem dX6_findReached_22 : decode cX6_findReached 22 = .ok (.iload_n 2, 1) := by decide +kernel
theorem dX6_findReached_23 : decode cX6_findReached 23 = .ok (.invokevirtual 39, 3) := by decide +kernel
theorem dX6_findReached_26 : decode cX6_findReached 26 = .ok (.goto 4, 3) := by decide +kernel
theorem dX6_findReached_29 : decode cX6_findReached 29 = .ok (.iconst 0, 1) := by decide +kernel
theorem dX6_findReached_30 : decode cX6_findReached 30 = .ok (.iastore, 1) := by decide +kernel
theorem dX6_findReached_31 : decode cX6_findReached 31 = .ok (.iinc 2 1, 3) := by decide +kernel
theorem dX6_findReached_34 : decode cX6_findReached 34 = .ok (.goto (-32), 3) := by decide +kernel
theorem dX6_findReached_37 : decode cX6_findReached 37 = .ok (.iconst 0, 1) := by decide +kernel
theorem dX6_findReached_38 : decode cX6_findReached 38 = .ok (.istore_n 2, 1) := by decide +kernel
theorem dX6_findReached_39 : decode cX6_findReached 39 = .ok (.iload_n 2, 1) := by decide +kernel
theorem dX6_findReached_40 : decode cX6_findReached 40 = .ok (.aload_n 1, 1) := by decide +kernel
theorem dX6_findReached_41 : decode cX6_findReached 41 = .ok (.getfield 22, 3) := by decide +kernel
theorem dX6_findReached_44 : decode cX6_findReached 44 = .ok (.if_icmp .ge 53, 3) := by decide +kernel
theorem dX6_findReached_47 : decode cX6_findReached 47 = .ok (.iconst 0, 1) := by decide +kernel
theorem dX6_findReached_48 : decode cX6_findReached 48 = .ok (.istore_n 3, 1) := by decide +kernel
theorem dX6_findReached_49 : decode cX6_findReached 49 = .ok (.iload_n 3, 1) := by decide +kernel
theorem dX6_findReached_50 : decode cX6_findReached 50 = .ok (.aload_n 1, 1) := by decide +kernel
theorem dX6_findReached_51 : decode cX6_findReached 51 = .ok (.getfield 22, 3) := by decide +kernel
theorem dX6_findReached_54 : decode cX6_findReached 54 = .ok (.if_icmp .ge 37, 3) := by decide +kernel
theorem dX6_findReached_57 : decode cX6_findReached 57 = .ok (.aload_n 0, 1) := by decide +kernel
theorem dX6_findReached_58 : decode cX6_findReached 58 = .ok (.getfield 9, 3) := by decide +kernel
theorem dX6_findReached_61 : decode cX6_findReached 61 = .ok (.iload_n 3, 1) := by decide +kernel
theorem dX6_findReached_62 : decode cX6_findReached 62 = .ok (.iaload, 1) := by decide +kernel
theorem dX6_findReached_63 : decode cX6_findReached 63 = .ok (.iload_n 2, 1) := by decide +kernel
theorem dX6_findReached_64 : decode cX6_findReached 64 = .ok (.ishr, 1) := by decide +kernel
theorem dX6_findReached_65 : decode cX6_findReached 65 = .ok (.iconst 1, 1) := by decide +kernel
theorem dX6_findReached_66 : decode cX6_findReached 66 = .ok (.iand, 1) := by decide +kernel
theorem dX6_findReached_67 : decode cX6_findReached 67 = .ok (.ifCond .eq 18, 3) := by decide +kernel
theorem dX6_findReached_70 : decode cX6_findReached 70 = .ok (.aload_n 0, 1) := by decide +kernel
theorem dX6_findReached_71 : decode cX6_findReached 71 = .ok (.getfield 9, 3) := by decide +kernel
theorem dX6_findReached_74 : decode cX6_findReached 74 = .ok (.iload_n 3, 1) := by decide +kernel
theorem dX6_findReached_75 : decode cX6_findReached 75 = .ok (.dup2, 1) := by decide +kernel
theorem dX6_findReached_76 : decode cX6_findReached 76 = .ok (.iaload, 1) := by decide +kernel
theorem dX6_findReached_77 : decode cX6_findReached 77 = .ok (.aload_n 0, 1) := by decide +kernel
theorem dX6_findReached_78 : decode cX6_findReached 78 = .ok (.getfield 9, 3) := by decide +kernel
theorem dX6_findReached_81 : decode cX6_findReached 81 = .ok (.iload_n 2, 1) := by decide +kernel
theorem dX6_findReached_82 : decode cX6_findReached 82 = .ok (.iaload, 1) := by decide +kernel
theorem dX6_findReached_83 : decode cX6_findReached 83 = .ok (.ior, 1) := by decide +kernel
theorem dX6_findReached_84 : decode cX6_findReached 84 = .ok (.iastore, 1) := by decide +kernel
theorem dX6_findReached_85 : decode cX6_findReached 85 = .ok (.iinc 3 1, 3) := by decide +kernel
theorem dX6_findReached_88 : decode cX6_findReached 88 = .ok (.goto (-39), 3) := by decide +kernel
theorem dX6_findReached_91 : decode cX6_findReached 91 = .ok (.iinc 2 1, 3) := by decide +kernel
theorem dX6_findReached_94 : decode cX6_findReached 94 = .ok (.goto (-55), 3) := by decide +kernel
theorem dX6_findReached_97 : decode cX6_findReached 97 = .ok (.return_, 1) := by decide +kernel
theorem dX6_members_0 : decode cX6_members 0 = .ok (.iconst 1, 1) := by decide +kernel
theorem dX6_members_1 : decode cX6_members 1 = .ok (.iload_n 1, 1) := by decide +kernel
theorem dX6_members_2 : decode cX6_members 2 = .ok (.ishl, 1) := by decide +kernel
theorem dX6_members_3 : decode cX6_members 3 = .ok (.istore_n 2, 1) := by decide +kernel
theorem dX6_members_4 : decode cX6_members 4 = .ok (.iconst 0, 1) := by decide +kernel
theorem dX6_members_5 : decode cX6_members 5 = .ok (.istore_n 3, 1) := by decide +kernel
theorem dX6_members_6 : decode cX6_members 6 = .ok (.iload_n 3, 1) := by decide +kernel
theorem dX6_members_7 : decode cX6_members 7 = .ok (.bipush 16, 2) := by decide +kernel
theorem dX6_members_9 : decode cX6_members 9 = .ok (.if_icmp .ge 41, 3) := by decide +kernel
theorem dX6_members_12 : decode cX6_members 12 = .ok (.aload_n 0, 1) := by decide +kernel
theorem dX6_members_13 : decode cX6_members 13 = .ok (.getfield 9, 3) := by decide +kernel
theorem dX6_members_16 : decode cX6_members 16 = .ok (.iload_n 1, 1) := by decide +kernel
theorem dX6_members_17 : decode cX6_members 17 = .ok (.iaload, 1) := by decide +kernel
theorem dX6_members_18 : decode cX6_members 18 = .ok (.iload_n 3, 1) := by decide +kernel
theorem dX6_members_19 : decode cX6_members 19 = .ok (.ishr, 1) := by decide +kernel
theorem dX6_members_20 : decode cX6_members 20 = .ok (.iconst 1, 1) := by decide +kernel
theorem dX6_members_21 : decode cX6_members 21 = .ok (.iand, 1) := by decide +kernel
theorem dX6_members_22 : decode cX6_members 22 = .ok (.ifCond .eq 22, 3) := by decide +kernel
theorem dX6_members_25 : decode cX6_members 25 = .ok (.aload_n 0, 1) := by decide +kernel
theorem dX6_members_26 : decode cX6_members 26 = .ok (.getfield 9, 3) := by decide +kernel
theorem dX6_members_29 : decode cX6_members 29 = .ok (.iload_n 3, 1) := by decide +kernel
theorem dX6_members_30 : decode cX6_members 30 = .ok (.iaload, 1) := by decide +kernel
theorem dX6_members_31 : decode cX6_members 31 = .ok (.iload_n 1, 1) := by decide +kernel
theorem dX6_members_32 : decode cX6_members 32 = .ok (.ishr, 1) := by decide +kernel
theorem dX6_members_33 : decode cX6_members 33 = .ok (.iconst 1, 1) := by decide +kernel
theorem dX6_members_34 : decode cX6_members 34 = .ok (.iand, 1) := by decide +kernel
theorem dX6_members_35 : decode cX6_members 35 = .ok (.ifCond .eq 9, 3) := by decide +kernel
theorem dX6_members_38 : decode cX6_members 38 = .ok (.iload_n 2, 1) := by decide +kernel
theorem dX6_members_39 : decode cX6_members 39 = .ok (.iconst 1, 1) := by decide +kernel
theorem dX6_members_40 : decode cX6_members 40 = .ok (.iload_n 3, 1) := by decide +kernel
theorem dX6_members_41 : decode cX6_members 41 = .ok (.ishl, 1) := by decide +kernel
theorem dX6_members_42 : decode cX6_members 42 = .ok (.ior, 1) := by decide +kernel
theorem dX6_members_43 : decode cX6_members 43 = .ok (.istore_n 2, 1) := by decide +kernel
theorem dX6_members_44 : decode cX6_members 44 = .ok (.iinc 3 1, 3) := by decide +kernel
theorem dX6_members_47 : decode cX6_members 47 = .ok (.goto (-41), 3) := by decide +kernel
theorem dX6_members_50 : decode cX6_members 50 = .ok (.iload_n 2, 1) := by decide +kernel
theorem dX6_members_51 : decode cX6_members 51 = .ok (.ireturn, 1) := by decide +kernel
theorem dX6_leastIn_0 : decode cX6_leastIn 0 = .ok (.iconst 0, 1) := by decide +kernel
theorem dX6_leastIn_1 : decode cX6_leastIn 1 = .ok (.istore_n 1, 1) := by decide +kernel
theorem dX6_leastIn_2 : decode cX6_leastIn 2 = .ok (.iload_n 1, 1) := by decide +kernel
theorem dX6_leastIn_3 : decode cX6_leastIn 3 = .ok (.bipush 16, 2) := by decide +kernel
theorem dX6_leastIn_5 : decode cX6_leastIn 5 = .ok (.if_icmp .ge 17, 3) := by decide +kernel
theorem dX6_leastIn_8 : decode cX6_leastIn 8 = .ok (.iload_n 0, 1) := by decide +kernel
theorem dX6_leastIn_9 : decode cX6_leastIn 9 = .ok (.iload_n 1, 1) := by decide +kernel
theorem dX6_leastIn_10 : decode cX6_leastIn 10 = .ok (.ishr, 1) := by decide +kernel
theorem dX6_leastIn_11 : decode cX6_leastIn 11 = .ok (.iconst 1, 1) := by decide +kernel
theorem dX6_leastIn_12 : decode cX6_leastIn 12 = .ok (.iand, 1) := by decide +kernel
theorem dX6_leastIn_13 : decode cX6_leastIn 13 = .ok (.ifCond .ne 9, 3) := by decide +kernel
theorem dX6_leastIn_16 : decode cX6_leastIn 16 = .ok (.iinc 1 1, 3) := by decide +kernel
theorem dX6_leastIn_19 : decode cX6_leastIn 19 = .ok (.goto (-17), 3) := by decide +kernel
theorem dX6_leastIn_22 : decode cX6_leastIn 22 = .ok (.iload_n 1, 1) := by decide +kernel
theorem dX6_leastIn_23 : decode cX6_leastIn 23 = .ok (.ireturn, 1) := by decide +kernel
set_option maxRecDepth 20000 in
theorem ggX6_paceOf_X6_findReached : GoodIn wsX6_paceOf wsX6_findReached := goodIn_r _ [6, 7, 1, 8, 9, 10, 11, 12, 13, 14, 15, 16, 17, 18, 19, 20, 21, 22, 23, 55, 56, 48, 49, 50, 51, 52, 53, 54] (by decide +kernel) (by decide +kernel)
set_option maxRecDepth 20000 in
theorem gX6_paceOf_X6_findReached : GoodIn wsX6_paceOf (wsV RX6 18 RX6 yX6_findReached wsX6_findReached) := goodIn_app (goodIn_of _ (by decide +kernel)) ggX6_paceOf_X6_findReached
set_option maxRecDepth 20000 in
theorem ggX6_paceOf_X6_members : GoodIn wsX6_paceOf wsX6_members := goodIn_r _ [27, 7, 55, 56] (by decide +kernel) (by decide +kernel)
set_option maxRecDepth 20000 in
theorem gX6_paceOf_X6_members : GoodIn wsX6_paceOf (wsV RX6 32 RX6 yX6_members wsX6_members) := goodIn_app (goodIn_of _ (by decide +kernel)) ggX6_paceOf_X6_members
set_option maxRecDepth 20000 in
theorem ggX6_paceOf_X6_measure : GoodIn wsX6_paceOf wsX6_measure := goodIn_r _ [31, 32, 1, 33, 34, 35, 36, 8, 9, 10, 11, 12, 13, 14, 15, 16, 17, 18, 19, 20, 21, 22, 23, 55, 56, 48, 49, 50, 51, 52, 53, 54] (by decide +kernel) (by decide +kernel)
set_option maxRecDepth 20000 in
theorem gX6_paceOf_X6_measure : GoodIn wsX6_paceOf (wsV RX6 42 RX6 yX6_measure wsX6_measure) := goodIn_app (goodIn_of _ (by decide +kernel)) ggX6_paceOf_X6_measure
set_option maxRecDepth 20000 in
theorem ggX6_paceOf_X1_liveOuts : GoodIn wsX6_paceOf wsX1_liveOuts := goodIn_r _ [12, 13, 14, 15, 16, 11, 17, 18, 19, 20, 21, 22, 23, 48, 49, 50, 51, 52, 53, 54] (by decide +kernel) (by decide +kernel)
set_option maxRecDepth 20000 in
theorem gX6_paceOf_X1_liveOuts : GoodIn wsX6_paceOf (wsV RX6 39 RX1 yX1_liveOuts wsX1_liveOuts) := goodIn_app (goodIn_of _ (by decide +kernel)) ggX6_paceOf_X1_liveOuts
set_option maxRecDepth 20000 in
theorem ggX6_paceOf_X6_paceWith : GoodIn wsX6_paceOf wsX6_paceWith := goodIn_r _ [40, 32, 41, 42, 43, 44, 45, 46, 47, 55, 56] (by decide +kernel) (by decide +kernel)
set_option maxRecDepth 20000 in
theorem gX6_paceOf_X6_paceWith : GoodIn wsX6_paceOf (wsV RX6 46 RX6 yX6_paceWith wsX6_paceWith) := goodIn_app (goodIn_of _ (by decide +kernel)) ggX6_paceOf_X6_paceWith
theorem dX6_paceOf_0 : decode cX6_paceOf 0 = .ok (.aload_n 0, 1) := by decide +kernel
theorem dX6_paceOf_1 : decode cX6_paceOf 1 = .ok (.aload_n 1, 1) := by decide +kernel
theorem dX6_paceOf_2 : decode cX6_paceOf 2 = .ok (.invokevirtual 18, 3) := by decide +kernel
theorem dX6_paceOf_5 : decode cX6_paceOf 5 = .ok (.aload_n 0, 1) := by decide +kernel
theorem dX6_paceOf_6 : decode cX6_paceOf 6 = .ok (.iload_n 2, 1) := by decide +kernel
theorem dX6_paceOf_7 : decode cX6_paceOf 7 = .ok (.invokevirtual 32, 3) := by decide +kernel
theorem dX6_paceOf_10 : decode cX6_paceOf 10 = .ok (.istore_n 3, 1) := by decide +kernel
theorem dX6_paceOf_11 : decode cX6_paceOf 11 = .ok (.aload_n 0, 1) := by decide +kernel
theorem dX6_paceOf_12 : decode cX6_paceOf 12 = .ok (.aload_n 1, 1) := by decide +kernel
theorem dX6_paceOf_13 : decode cX6_paceOf 13 = .ok (.iload_n 2, 1) := by decide +kernel
theorem dX6_paceOf_14 : decode cX6_paceOf 14 = .ok (.iload_n 3, 1) := by decide +kernel
theorem dX6_paceOf_15 : decode cX6_paceOf 15 = .ok (.invokevirtual 42, 3) := by decide +kernel
theorem dX6_paceOf_18 : decode cX6_paceOf 18 = .ok (.lconst 0, 1) := by decide +kernel
theorem dX6_paceOf_19 : decode cX6_paceOf 19 = .ok (.lstore 4, 2) := by decide +kernel
theorem dX6_paceOf_21 : decode cX6_paceOf 21 = .ok (.iconst 0, 1) := by decide +kernel
theorem dX6_paceOf_22 : decode cX6_paceOf 22 = .ok (.istore 6, 2) := by decide +kernel
theorem dX6_paceOf_24 : decode cX6_paceOf 24 = .ok (.iload 6, 2) := by decide +kernel
theorem dX6_paceOf_26 : decode cX6_paceOf 26 = .ok (.aload_n 1, 1) := by decide +kernel
theorem dX6_paceOf_27 : decode cX6_paceOf 27 = .ok (.getfield 22, 3) := by decide +kernel
theorem dX6_paceOf_30 : decode cX6_paceOf 30 = .ok (.if_icmp .ge 36, 3) := by decide +kernel
theorem dX6_paceOf_33 : decode cX6_paceOf 33 = .ok (.iload_n 3, 1) := by decide +kernel
theorem dX6_paceOf_34 : decode cX6_paceOf 34 = .ok (.iload 6, 2) := by decide +kernel
theorem dX6_paceOf_36 : decode cX6_paceOf 36 = .ok (.ishr, 1) := by decide +kernel
theorem dX6_paceOf_37 : decode cX6_paceOf 37 = .ok (.iconst 1, 1) := by decide +kernel
theorem dX6_paceOf_38 : decode cX6_paceOf 38 = .ok (.iand, 1) := by decide +kernel
theorem dX6_paceOf_39 : decode cX6_paceOf 39 = .ok (.ifCond .eq 21, 3) := by decide +kernel
theorem dX6_paceOf_42 : decode cX6_paceOf 42 = .ok (.aload_n 0, 1) := by decide +kernel
theorem dX6_paceOf_43 : decode cX6_paceOf 43 = .ok (.lload 4, 2) := by decide +kernel
theorem dX6_paceOf_45 : decode cX6_paceOf 45 = .ok (.iload 6, 2) := by decide +kernel
theorem dX6_paceOf_47 : decode cX6_paceOf 47 = .ok (.aload_n 1, 1) := by decide +kernel
theorem dX6_paceOf_48 : decode cX6_paceOf 48 = .ok (.iload 6, 2) := by decide +kernel
theorem dX6_paceOf_50 : decode cX6_paceOf 50 = .ok (.invokevirtual 39, 3) := by decide +kernel
theorem dX6_paceOf_53 : decode cX6_paceOf 53 = .ok (.iload_n 3, 1) := by decide +kernel
theorem dX6_paceOf_54 : decode cX6_paceOf 54 = .ok (.iand, 1) := by decide +kernel
theorem dX6_paceOf_55 : decode cX6_paceOf 55 = .ok (.invokevirtual 46, 3) := by decide +kernel
theorem dX6_paceOf_58 : decode cX6_paceOf 58 = .ok (.lstore 4, 2) := by decide +kernel
theorem dX6_paceOf_60 : decode cX6_paceOf 60 = .ok (.iinc 6 1, 3) := by decide +kernel
theorem dX6_paceOf_63 : decode cX6_paceOf 63 = .ok (.goto (-39), 3) := by decide +kernel
theorem dX6_paceOf_66 : decode cX6_paceOf 66 = .ok (.lload 4, 2) := by decide +kernel
theorem dX6_paceOf_68 : decode cX6_paceOf 68 = .ok (.l2i, 1) := by decide +kernel
theorem dX6_paceOf_69 : decode cX6_paceOf 69 = .ok (.ireturn, 1) := by decide +kernel
set_option maxRecDepth 20000 in
theorem ggX6_paceWith_X9_commonDivisor : GoodIn wsX6_paceWith wsX9_commonDivisor := goodIn_r _ [8] (by decide +kernel) (by decide +kernel)
set_option maxRecDepth 20000 in
theorem gX6_paceWith_X9_commonDivisor_n55 : GoodIn wsX6_paceWith (wsX9_commonDivisor) := ggX6_paceWith_X9_commonDivisor
theorem dX6_paceWith_0 : decode cX6_paceWith 0 = .ok (.lload_n 1, 1) := by decide +kernel
theorem dX6_paceWith_1 : decode cX6_paceWith 1 = .ok (.lstore 5, 2) := by decide +kernel
theorem dX6_paceWith_3 : decode cX6_paceWith 3 = .ok (.iconst 0, 1) := by decide +kernel
theorem dX6_paceWith_4 : decode cX6_paceWith 4 = .ok (.istore 7, 2) := by decide +kernel
theorem dX6_paceWith_6 : decode cX6_paceWith 6 = .ok (.iload 7, 2) := by decide +kernel
theorem dX6_paceWith_8 : decode cX6_paceWith 8 = .ok (.bipush 16, 2) := by decide +kernel
theorem dX6_paceWith_10 : decode cX6_paceWith 10 = .ok (.if_icmp .ge 46, 3) := by decide +kernel
theorem dX6_paceWith_13 : decode cX6_paceWith 13 = .ok (.iload 4, 2) := by decide +kernel
theorem dX6_paceWith_15 : decode cX6_paceWith 15 = .ok (.iload 7, 2) := by decide +kernel
theorem dX6_paceWith_17 : decode cX6_paceWith 17 = .ok (.ishr, 1) := by decide +kernel
theorem dX6_paceWith_18 : decode cX6_paceWith 18 = .ok (.iconst 1, 1) := by decide +kernel
theorem dX6_paceWith_19 : decode cX6_paceWith 19 = .ok (.iand, 1) := by decide +kernel
theorem dX6_paceWith_20 : decode cX6_paceWith 20 = .ok (.ifCond .eq 30, 3) := by decide +kernel
theorem dX6_paceWith_23 : decode cX6_paceWith 23 = .ok (.lload 5, 2) := by decide +kernel
theorem dX6_paceWith_25 : decode cX6_paceWith 25 = .ok (.aload_n 0, 1) := by decide +kernel
theorem dX6_paceWith_26 : decode cX6_paceWith 26 = .ok (.getfield 15, 3) := by decide +kernel
theorem dX6_paceWith_29 : decode cX6_paceWith 29 = .ok (.iload_n 3, 1) := by decide +kernel
theorem dX6_paceWith_30 : decode cX6_paceWith 30 = .ok (.iaload, 1) := by decide +kernel
theorem dX6_paceWith_31 : decode cX6_paceWith 31 = .ok (.iconst 1, 1) := by decide +kernel
theorem dX6_paceWith_32 : decode cX6_paceWith 32 = .ok (.iadd, 1) := by decide +kernel
theorem dX6_paceWith_33 : decode cX6_paceWith 33 = .ok (.aload_n 0, 1) := by decide +kernel
theorem dX6_paceWith_34 : decode cX6_paceWith 34 = .ok (.getfield 15, 3) := by decide +kernel
theorem dX6_paceWith_37 : decode cX6_paceWith 37 = .ok (.iload 7, 2) := by decide +kernel
theorem dX6_paceWith_39 : decode cX6_paceWith 39 = .ok (.iaload, 1) := by decide +kernel
theorem dX6_paceWith_40 : decode cX6_paceWith 40 = .ok (.isub, 1) := by decide +kernel
theorem dX6_paceWith_41 : decode cX6_paceWith 41 = .ok (.invokestatic 50, 3) := by decide +kernel
theorem dX6_paceWith_44 : decode cX6_paceWith 44 = .ok (.i2l, 1) := by decide +kernel
theorem dX6_paceWith_45 : decode cX6_paceWith 45 = .ok (.invokestatic 55, 3) := by decide +kernel
theorem dX6_paceWith_48 : decode cX6_paceWith 48 = .ok (.lstore 5, 2) := by decide +kernel
theorem dX6_paceWith_50 : decode cX6_paceWith 50 = .ok (.iinc 7 1, 3) := by decide +kernel
theorem dX6_paceWith_53 : decode cX6_paceWith 53 = .ok (.goto (-47), 3) := by decide +kernel
theorem dX6_paceWith_56 : decode cX6_paceWith 56 = .ok (.lload 5, 2) := by decide +kernel
theorem dX6_paceWith_58 : decode cX6_paceWith 58 = .ok (.lreturn, 1) := by decide +kernel
set_option maxRecDepth 20000 in
theorem ggX6_measure_J7_fill_53178 : GoodIn wsX6_measure wsJ7_fill_53178 := goodIn_r _ [6] (by decide +kernel) (by decide +kernel)
set_option maxRecDepth 20000 in
theorem gX6_measure_J7_fill_53178 : GoodIn wsX6_measure (va_wsS RX6 59 yJ7_fill_53178 wsJ7_fill_53178) := goodIn_app (goodIn_of _ (by decide +kernel)) ggX6_measure_J7_fill_53178
set_option maxRecDepth 20000 in
theorem ggX6_measure_X1_liveOuts : GoodIn wsX6_measure wsX1_liveOuts := goodIn_r _ [11, 12, 13, 14, 15, 10, 16, 17, 18, 19, 20, 21, 22, 25, 26, 27, 28, 29, 30, 31] (by decide +kernel) (by decide +kernel)
set_option maxRecDepth 20000 in
theorem gX6_measure_X1_liveOuts : GoodIn wsX6_measure (wsV RX6 39 RX1 yX1_liveOuts wsX1_liveOuts) := goodIn_app (goodIn_of _ (by decide +kernel)) ggX6_measure_X1_liveOuts
theorem dX6_measure_0 : decode cX6_measure 0 = .ok (.aload_n 0, 1) := by decide +kernel
theorem dX6_measure_1 : decode cX6_measure 1 = .ok (.getfield 15, 3) := by decide +kernel
theorem dX6_measure_4 : decode cX6_measure 4 = .ok (.iconst (-1), 1) := by decide +kernel
theorem dX6_measure_5 : decode cX6_measure 5 = .ok (.invokestatic 59, 3) := by decide +kernel
theorem dX6_measure_8 : decode cX6_measure 8 = .ok (.iconst 1, 1) := by decide +kernel
theorem dX6_measure_9 : decode cX6_measure 9 = .ok (.iload_n 2, 1) := by decide +kernel
theorem dX6_measure_10 : decode cX6_measure 10 = .ok (.ishl, 1) := by decide +kernel
theorem dX6_measure_11 : decode cX6_measure 11 = .ok (.istore 4, 2) := by decide +kernel
theorem dX6_measure_13 : decode cX6_measure 13 = .ok (.iload 4, 2) := by decide +kernel
theorem dX6_measure_15 : decode cX6_measure 15 = .ok (.istore 5, 2) := by decide +kernel
theorem dX6_measure_17 : decode cX6_measure 17 = .ok (.iconst 0, 1) := by decide +kernel
theorem dX6_measure_18 : decode cX6_measure 18 = .ok (.istore 6, 2) := by decide +kernel
theorem dX6_measure_20 : decode cX6_measure 20 = .ok (.iload 6, 2) := by decide +kernel
theorem dX6_measure_22 : decode cX6_measure 22 = .ok (.bipush 16, 2) := by decide +kernel
theorem dX6_measure_24 : decode cX6_measure 24 = .ok (.if_icmp .ge 78, 3) := by decide +kernel
theorem dX6_measure_27 : decode cX6_measure 27 = .ok (.iconst 0, 1) := by decide +kernel
theorem dX6_measure_28 : decode cX6_measure 28 = .ok (.istore 7, 2) := by decide +kernel
theorem dX6_measure_30 : decode cX6_measure 30 = .ok (.iconst 0, 1) := by decide +kernel
theorem dX6_measure_31 : decode cX6_measure 31 = .ok (.istore 8, 2) := by decide +kernel
theorem dX6_measure_33 : decode cX6_measure 33 = .ok (.iload 8, 2) := by decide +kernel
theorem dX6_measure_35 : decode cX6_measure 35 = .ok (.aload_n 1, 1) := by decide +kernel
theorem dX6_measure_36 : decode cX6_measure 36 = .ok (.getfield 22, 3) := by decide +kernel
theorem dX6_measure_39 : decode cX6_measure 39 = .ok (.if_icmp .ge 39, 3) := by decide +kernel
theorem dX6_measure_42 : decode cX6_measure 42 = .ok (.iload 5, 2) := by decide +kernel
theorem dX6_measure_44 : decode cX6_measure 44 = .ok (.iload 8, 2) := by decide +kernel
theorem dX6_measure_46 : decode cX6_measure 46 = .ok (.ishr, 1) := by decide +kernel
theorem dX6_measure_47 : decode cX6_measure 47 = .ok (.iconst 1, 1) := by decide +kernel
theorem dX6_measure_48 : decode cX6_measure 48 = .ok (.iand, 1) := by decide +kernel
theorem dX6_measure_49 : decode cX6_measure 49 = .ok (.ifCond .eq 23, 3) := by decide +kernel
theorem dX6_measure_52 : decode cX6_measure 52 = .ok (.aload_n 0, 1) := by decide +kernel
theorem dX6_measure_53 : decode cX6_measure 53 = .ok (.getfield 15, 3) := by decide +kernel
theorem dX6_measure_56 : decode cX6_measure 56 = .ok (.iload 8, 2) := by decide +kernel
theorem dX6_measure_58 : decode cX6_measure 58 = .ok (.iload 6, 2) := by decide +kernel
theorem dX6_measure_60 : decode cX6_measure 60 = .ok (.iastore, 1) := by decide +kernel
theorem dX6_measure_61 : decode cX6_measure 61 = .ok (.iload 7, 2) := by decide +kernel
theorem dX6_measure_63 : decode cX6_measure 63 = .ok (.aload_n 1, 1) := by decide +kernel
theorem dX6_measure_64 : decode cX6_measure 64 = .ok (.iload 8, 2) := by decide +kernel
theorem dX6_measure_66 : decode cX6_measure 66 = .ok (.invokevirtual 39, 3) := by decide +kernel
theorem dX6_measure_69 : decode cX6_measure 69 = .ok (.ior, 1) := by decide +kernel
theorem dX6_measure_70 : decode cX6_measure 70 = .ok (.istore 7, 2) := by decide +kernel
theorem dX6_measure_72 : decode cX6_measure 72 = .ok (.iinc 8 1, 3) := by decide +kernel
theorem dX6_measure_75 : decode cX6_measure 75 = .ok (.goto (-42), 3) := by decide +kernel
theorem dX6_measure_78 : decode cX6_measure 78 = .ok (.iload 7, 2) := by decide +kernel
theorem dX6_measure_80 : decode cX6_measure 80 = .ok (.iload_n 3, 1) := by decide +kernel
theorem dX6_measure_81 : decode cX6_measure 81 = .ok (.iand, 1) := by decide +kernel
theorem dX6_measure_82 : decode cX6_measure 82 = .ok (.iload 4, 2) := by decide +kernel
theorem dX6_measure_84 : decode cX6_measure 84 = .ok (.iconst (-1), 1) := by decide +kernel
theorem dX6_measure_85 : decode cX6_measure 85 = .ok (.ixor, 1) := by decide +kernel
theorem dX6_measure_86 : decode cX6_measure 86 = .ok (.iand, 1) := by decide +kernel
theorem dX6_measure_87 : decode cX6_measure 87 = .ok (.istore 5, 2) := by decide +kernel
theorem dX6_measure_89 : decode cX6_measure 89 = .ok (.iload 4, 2) := by decide +kernel
theorem dX6_measure_91 : decode cX6_measure 91 = .ok (.iload 5, 2) := by decide +kernel
theorem dX6_measure_93 : decode cX6_measure 93 = .ok (.ior, 1) := by decide +kernel
theorem dX6_measure_94 : decode cX6_measure 94 = .ok (.istore 4, 2) := by decide +kernel
theorem dX6_measure_96 : decode cX6_measure 96 = .ok (.iinc 6 1, 3) := by decide +kernel
theorem dX6_measure_99 : decode cX6_measure 99 = .ok (.goto (-79), 3) := by decide +kernel
theorem dX6_measure_102 : decode cX6_measure 102 = .ok (.return_, 1) := by decide +kernel
theorem dX7_init_0 : decode cX7_init 0 = .ok (.aload_n 0, 1) := by decide +kernel
theorem dX7_init_1 : decode cX7_init 1 = .ok (.invokespecial 3, 3) := by decide +kernel
theorem dX7_init_4 : decode cX7_init 4 = .ok (.aload_n 0, 1) := by decide +kernel
theorem dX7_init_5 : decode cX7_init 5 = .ok (.sipush 256, 3) := by decide +kernel
theorem dX7_init_8 : decode cX7_init 8 = .ok (.newarray .long, 2) := by decide +kernel
theorem dX7_init_10 : decode cX7_init 10 = .ok (.putfield 9, 3) := by decide +kernel
theorem dX7_init_13 : decode cX7_init 13 = .ok (.aload_n 0, 1) := by decide +kernel
theorem dX7_init_14 : decode cX7_init 14 = .ok (.sipush 256, 3) := by decide +kernel
theorem dX7_init_17 : decode cX7_init 17 = .ok (.newarray .long, 2) := by decide +kernel
theorem dX7_init_19 : decode cX7_init 19 = .ok (.putfield 15, 3) := by decide +kernel
theorem dX7_init_22 : decode cX7_init 22 = .ok (.aload_n 0, 1) := by decide +kernel
theorem dX7_init_23 : decode cX7_init 23 = .ok (.sipush 256, 3) := by decide +kernel
theorem dX7_init_26 : decode cX7_init 26 = .ok (.newarray .long, 2) := by decide +kernel
theorem dX7_init_28 : decode cX7_init 28 = .ok (.putfield 18, 3) := by decide +kernel
theorem dX7_init_31 : decode cX7_init 31 = .ok (.aload_n 0, 1) := by decide +kernel
theorem dX7_init_32 : decode cX7_init 32 = .ok (.bipush 16, 2) := by decide +kernel
theorem dX7_init_34 : decode cX7_init 34 = .ok (.newarray .long, 2) := by decide +kernel
theorem dX7_init_36 : decode cX7_init 36 = .ok (.putfield 21, 3) := by decide +kernel
theorem dX7_init_39 : decode cX7_init 39 = .ok (.aload_n 0, 1) := by decide +kernel
theorem dX7_init_40 : decode cX7_init 40 = .ok (.bipush 16, 2) := by decide +kernel
theorem dX7_init_42 : decode cX7_init 42 = .ok (.newarray .long, 2) := by decide +kernel
theorem dX7_init_44 : decode cX7_init 44 = .ok (.putfield 24, 3) := by decide +kernel
theorem dX7_init_47 : decode cX7_init 47 = .ok (.return_, 1) := by decide +kernel
set_option maxRecDepth 20000 in
theorem ggX7_closed_X7_countRows : GoodIn wsX7_closed wsX7_countRows := goodIn_r _ [7, 8, 2, 9, 10, 11, 12, 1, 13, 14, 15, 6, 16, 17, 18, 19, 20, 21, 22, 23, 24, 25, 26, 27, 28, 29, 30, 31, 32, 33, 34, 35, 36, 37, 45, 46, 47, 48, 49, 38, 39, 40, 41, 42, 43, 44] (by decide +kernel) (by decide +kernel)
set_option maxRecDepth 20000 in
theorem gX7_closed_X7_countRows : GoodIn wsX7_closed (wsV RX7 27 RX7 yX7_countRows wsX7_countRows) := goodIn_app (goodIn_of _ (by decide +kernel)) ggX7_closed_X7_countRows
theorem dX7_closed_0 : decode cX7_closed 0 = .ok (.aload_n 0, 1) := by decide +kernel
theorem dX7_closed_1 : decode cX7_closed 1 = .ok (.aload_n 1, 1) := by decide +kernel
theorem dX7_closed_2 : decode cX7_closed 2 = .ok (.iload_n 2, 1) := by decide +kernel
theorem dX7_closed_3 : decode cX7_closed 3 = .ok (.invokevirtual 27, 3) := by decide +kernel
theorem dX7_closed_6 : decode cX7_closed 6 = .ok (.lconst 0, 1) := by decide +kernel
theorem dX7_closed_7 : decode cX7_closed 7 = .ok (.lstore_n 3, 1) := by decide +kernel
theorem dX7_closed_8 : decode cX7_closed 8 = .ok (.iconst 0, 1) := by decide +kernel
theorem dX7_closed_9 : decode cX7_closed 9 = .ok (.istore 5, 2) := by decide +kernel
theorem dX7_closed_11 : decode cX7_closed 11 = .ok (.iload 5, 2) := by decide +kernel
theorem dX7_closed_13 : decode cX7_closed 13 = .ok (.aload_n 1, 1) := by decide +kernel
theorem dX7_closed_14 : decode cX7_closed 14 = .ok (.getfield 31, 3) := by decide +kernel
theorem dX7_closed_17 : decode cX7_closed 17 = .ok (.if_icmp .ge 25, 3) := by decide +kernel
theorem dX7_closed_20 : decode cX7_closed 20 = .ok (.lload_n 3, 1) := by decide +kernel
theorem dX7_closed_21 : decode cX7_closed 21 = .ok (.aload_n 0, 1) := by decide +kernel
theorem dX7_closed_22 : decode cX7_closed 22 = .ok (.getfield 15, 3) := by decide +kernel
theorem dX7_closed_25 : decode cX7_closed 25 = .ok (.iload 5, 2) := by decide +kernel
theorem dX7_closed_27 : decode cX7_closed 27 = .ok (.bipush 16, 2) := by decide +kernel
theorem dX7_closed_29 : decode cX7_closed 29 = .ok (.imul, 1) := by decide +kernel
theorem dX7_closed_30 : decode cX7_closed 30 = .ok (.iload 5, 2) := by decide +kernel
theorem dX7_closed_32 : decode cX7_closed 32 = .ok (.iadd, 1) := by decide +kernel
theorem dX7_closed_33 : decode cX7_closed 33 = .ok (.laload, 1) := by decide +kernel
theorem dX7_closed_34 : decode cX7_closed 34 = .ok (.ladd, 1) := by decide +kernel
theorem dX7_closed_35 : decode cX7_closed 35 = .ok (.lstore_n 3, 1) := by decide +kernel
theorem dX7_closed_36 : decode cX7_closed 36 = .ok (.iinc 5 1, 3) := by decide +kernel
theorem dX7_closed_39 : decode cX7_closed 39 = .ok (.goto (-28), 3) := by decide +kernel
theorem dX7_closed_42 : decode cX7_closed 42 = .ok (.lload_n 3, 1) := by decide +kernel
theorem dX7_closed_43 : decode cX7_closed 43 = .ok (.lreturn, 1) := by decide +kernel
set_option maxRecDepth 20000 in
theorem ggX7_countRows_X7_countSingle : GoodIn wsX7_countRows wsX7_countSingle := goodIn_r _ [12, 1, 7, 13, 14, 15, 16, 17, 18, 19, 20, 21, 22, 23, 24, 25, 26, 27, 28, 34, 35, 36, 37, 38, 39, 40, 41, 42, 43, 44, 45] (by decide +kernel) (by decide +kernel)
set_option maxRecDepth 20000 in
theorem gX7_countRows_X7_countSingle : GoodIn wsX7_countRows (wsV RX7 37 RX7 yX7_countSingle wsX7_countSingle) := goodIn_app (goodIn_of _ (by decide +kernel)) ggX7_countRows_X7_countSingle
set_option maxRecDepth 20000 in
theorem ggX7_countRows_X7_lengthen : GoodIn wsX7_countRows wsX7_lengthen := goodIn_r _ [32, 2, 1, 33, 34, 35, 36, 37, 38] (by decide +kernel) (by decide +kernel)
set_option maxRecDepth 20000 in
theorem gX7_countRows_X7_lengthen : GoodIn wsX7_countRows (wsV RX7 47 RX7 yX7_lengthen wsX7_lengthen) := goodIn_app (goodIn_of _ (by decide +kernel)) ggX7_countRows_X7_lengthen
theorem dX7_countRows_0 : decode cX7_countRows 0 = .ok (.aload_n 0, 1) := by decide +kernel
theorem dX7_countRows_1 : decode cX7_countRows 1 = .ok (.aload_n 1, 1) := by decide +kernel
theorem dX7_countRows_2 : decode cX7_countRows 2 = .ok (.invokevirtual 37, 3) := by decide +kernel
theorem dX7_countRows_5 : decode cX7_countRows 5 = .ok (.aload_n 0, 1) := by decide +kernel
theorem dX7_countRows_6 : decode cX7_countRows 6 = .ok (.getfield 9, 3) := by decide +kernel
theorem dX7_countRows_9 : decode cX7_countRows 9 = .ok (.iconst 0, 1) := by decide +kernel
theorem dX7_countRows_10 : decode cX7_countRows 10 = .ok (.aload_n 0, 1) := by decide +kernel
theorem dX7_countRows_11 : decode cX7_countRows 11 = .ok (.getfield 15, 3) := by decide +kernel
theorem dX7_countRows_14 : decode cX7_countRows 14 = .ok (.iconst 0, 1) := by decide +kernel
theorem dX7_countRows_15 : decode cX7_countRows 15 = .ok (.aload_n 0, 1) := by decide +kernel
theorem dX7_countRows_16 : decode cX7_countRows 16 = .ok (.getfield 15, 3) := by decide +kernel
theorem dX7_countRows_19 : decode cX7_countRows 19 = .ok (.arraylength, 1) := by decide +kernel
theorem dX7_countRows_20 : decode cX7_countRows 20 = .ok (.invokestatic 41, 3) := by decide +kernel
theorem dX7_countRows_23 : decode cX7_countRows 23 = .ok (.iconst 1, 1) := by decide +kernel
theorem dX7_countRows_24 : decode cX7_countRows 24 = .ok (.istore_n 3, 1) := by decide +kernel
theorem dX7_countRows_25 : decode cX7_countRows 25 = .ok (.iload_n 3, 1) := by decide +kernel
theorem dX7_countRows_26 : decode cX7_countRows 26 = .ok (.iload_n 2, 1) := by decide +kernel
theorem dX7_countRows_27 : decode cX7_countRows 27 = .ok (.if_icmp .ge 17, 3) := by decide +kernel
theorem dX7_countRows_30 : decode cX7_countRows 30 = .ok (.aload_n 0, 1) := by decide +kernel
theorem dX7_countRows_31 : decode cX7_countRows 31 = .ok (.aload_n 1, 1) := by decide +kernel
theorem dX7_countRows_32 : decode cX7_countRows 32 = .ok (.getfield 31, 3) := by decide +kernel
theorem dX7_countRows_35 : decode cX7_countRows 35 = .ok (.invokevirtual 47, 3) := by decide +kernel
theorem dX7_countRows_38 : decode cX7_countRows 38 = .ok (.iinc 3 1, 3) := by decide +kernel
theorem dX7_countRows_41 : decode cX7_countRows 41 = .ok (.goto (-16), 3) := by decide +kernel
theorem dX7_countRows_44 : decode cX7_countRows 44 = .ok (.return_, 1) := by decide +kernel
set_option maxRecDepth 20000 in
theorem ggX7_countSingle_J7_fill_d0a16 : GoodIn wsX7_countSingle wsJ7_fill_d0a16 := goodIn_r _ [7] (by decide +kernel) (by decide +kernel)
set_option maxRecDepth 20000 in
theorem gX7_countSingle_J7_fill_d0a16 : GoodIn wsX7_countSingle (va_wsS RX7 51 yJ7_fill_d0a16 wsJ7_fill_d0a16) := goodIn_app (goodIn_of _ (by decide +kernel)) ggX7_countSingle_J7_fill_d0a16
set_option maxRecDepth 20000 in
theorem ggX7_countSingle_X1_liveEnds : GoodIn wsX7_countSingle wsX1_liveEnds := goodIn_r _ [12, 13, 14, 15, 16, 17, 11, 18, 24, 25, 26, 27, 28, 29, 30] (by decide +kernel) (by decide +kernel)
set_option maxRecDepth 20000 in
theorem gX7_countSingle_X1_liveEnds : GoodIn wsX7_countSingle (wsV RX7 60 RX1 yX1_liveEnds wsX1_liveEnds) := goodIn_app (goodIn_of _ (by decide +kernel)) ggX7_countSingle_X1_liveEnds
theorem dX7_countSingle_0 : decode cX7_countSingle 0 = .ok (.aload_n 0, 1) := by decide +kernel
theorem dX7_countSingle_1 : decode cX7_countSingle 1 = .ok (.getfield 9, 3) := by decide +kernel
theorem dX7_countSingle_4 : decode cX7_countSingle 4 = .ok (.lconst 0, 1) := by decide +kernel
theorem dX7_countSingle_5 : decode cX7_countSingle 5 = .ok (.invokestatic 51, 3) := by decide +kernel
theorem dX7_countSingle_8 : decode cX7_countSingle 8 = .ok (.iconst 0, 1) := by decide +kernel
theorem dX7_countSingle_9 : decode cX7_countSingle 9 = .ok (.istore_n 2, 1) := by decide +kernel
theorem dX7_countSingle_10 : decode cX7_countSingle 10 = .ok (.iload_n 2, 1) := by decide +kernel
theorem dX7_countSingle_11 : decode cX7_countSingle 11 = .ok (.aload_n 1, 1) := by decide +kernel
theorem dX7_countSingle_12 : decode cX7_countSingle 12 = .ok (.getfield 31, 3) := by decide +kernel
theorem dX7_countSingle_15 : decode cX7_countSingle 15 = .ok (.if_icmp .ge 74, 3) := by decide +kernel
theorem dX7_countSingle_18 : decode cX7_countSingle 18 = .ok (.iconst 0, 1) := by decide +kernel
theorem dX7_countSingle_19 : decode cX7_countSingle 19 = .ok (.istore_n 3, 1) := by decide +kernel
theorem dX7_countSingle_20 : decode cX7_countSingle 20 = .ok (.iload_n 3, 1) := by decide +kernel
theorem dX7_countSingle_21 : decode cX7_countSingle 21 = .ok (.aload_n 1, 1) := by decide +kernel
theorem dX7_countSingle_22 : decode cX7_countSingle 22 = .ok (.getfield 57, 3) := by decide +kernel
theorem dX7_countSingle_25 : decode cX7_countSingle 25 = .ok (.if_icmp .ge 58, 3) := by decide +kernel
theorem dX7_countSingle_28 : decode cX7_countSingle 28 = .ok (.aload_n 1, 1) := by decide +kernel
theorem dX7_countSingle_29 : decode cX7_countSingle 29 = .ok (.iload_n 2, 1) := by decide +kernel
theorem dX7_countSingle_30 : decode cX7_countSingle 30 = .ok (.iload_n 3, 1) := by decide +kernel
theorem dX7_countSingle_31 : decode cX7_countSingle 31 = .ok (.invokevirtual 60, 3) := by decide +kernel
theorem dX7_countSingle_34 : decode cX7_countSingle 34 = .ok (.istore 4, 2) := by decide +kernel
theorem dX7_countSingle_36 : decode cX7_countSingle 36 = .ok (.iconst 0, 1) := by decide +kernel
theorem dX7_countSingle_37 : decode cX7_countSingle 37 = .ok (.istore 5, 2) := by decide +kernel
theorem dX7_countSingle_39 : decode cX7_countSingle 39 = .ok (.iload 5, 2) := by decide +kernel
theorem dX7_countSingle_41 : decode cX7_countSingle 41 = .ok (.aload_n 1, 1) := by decide +kernel
theorem dX7_countSingle_42 : decode cX7_countSingle 42 = .ok (.getfield 31, 3) := by decide +kernel
theorem dX7_countSingle_45 : decode cX7_countSingle 45 = .ok (.if_icmp .ge 32, 3) := by decide +kernel
theorem dX7_countSingle_48 : decode cX7_countSingle 48 = .ok (.aload_n 0, 1) := by decide +kernel
theorem dX7_countSingle_49 : decode cX7_countSingle 49 = .ok (.getfield 9, 3) := by decide +kernel
theorem dX7_countSingle_52 : decode cX7_countSingle 52 = .ok (.iload_n 2, 1) := by decide +kernel
theorem dX7_countSingle_53 : decode cX7_countSingle 53 = .ok (.bipush 16, 2) := by decide +kernel
theorem dX7_countSingle_55 : decode cX7_countSingle 55 = .ok (.imul, 1) := by decide +kernel
theorem dX7_countSingle_56 : decode cX7_countSingle 56 = .ok (.iload 5, 2) := by decide +kernel
theorem dX7_countSingle_58 : decode cX7_countSingle 58 = .ok (.iadd, 1) := by decide +kernel
theorem dX7_countSingle_59 : decode cX7_countSingle 59 = .ok (.dup2, 1) := by decide +kernel
theorem dX7_countSingle_60 : decode cX7_countSingle 60 = .ok (.laload, 1) := by decide +kernel
theorem dX7_countSingle_61 : decode cX7_countSingle 61 = .ok (.iload 4, 2) := by decide +kernel
theorem dX7_countSingle_63 : decode cX7_countSingle 63 = .ok (.iload 5, 2) := by decide +kernel
theorem dX7_countSingle_65 : decode cX7_countSingle 65 = .ok (.ishr, 1) := by decide +kernel
theorem dX7_countSingle_66 : decode cX7_countSingle 66 = .ok (.iconst 1, 1) := by decide +kernel
theorem dX7_countSingle_67 : decode cX7_countSingle 67 = .ok (.iand, 1) := by decide +kernel
theorem dX7_countSingle_68 : decode cX7_countSingle 68 = .ok (.i2l, 1) := by decide +kernel
theorem dX7_countSingle_69 : decode cX7_countSingle 69 = .ok (.ladd, 1) := by decide +kernel
theorem dX7_countSingle_70 : decode cX7_countSingle 70 = .ok (.lastore, 1) := by decide +kernel
theorem dX7_countSingle_71 : decode cX7_countSingle 71 = .ok (.iinc 5 1, 3) := by decide +kernel
theorem dX7_countSingle_74 : decode cX7_countSingle 74 = .ok (.goto (-35), 3) := by decide +kernel
theorem dX7_countSingle_77 : decode cX7_countSingle 77 = .ok (.iinc 3 1, 3) := by decide +kernel
theorem dX7_countSingle_80 : decode cX7_countSingle 80 = .ok (.goto (-60), 3) := by decide +kernel
theorem dX7_countSingle_83 : decode cX7_countSingle 83 = .ok (.iinc 2 1, 3) := by decide +kernel
theorem dX7_countSingle_86 : decode cX7_countSingle 86 = .ok (.goto (-76), 3) := by decide +kernel
theorem dX7_countSingle_89 : decode cX7_countSingle 89 = .ok (.return_, 1) := by decide +kernel
theorem dX7_lengthen_0 : decode cX7_lengthen 0 = .ok (.iconst 0, 1) := by decide +kernel
theorem dX7_lengthen_1 : decode cX7_lengthen 1 = .ok (.istore_n 2, 1) := by decide +kernel
theorem dX7_lengthen_2 : decode cX7_lengthen 2 = .ok (.iload_n 2, 1) := by decide +kernel
theorem dX7_lengthen_3 : decode cX7_lengthen 3 = .ok (.iload_n 1, 1) := by decide +kernel
theorem dX7_lengthen_4 : decode cX7_lengthen 4 = .ok (.if_icmp .ge 83, 3) := by decide +kernel
theorem dX7_lengthen_7 : decode cX7_lengthen 7 = .ok (.iconst 0, 1) := by decide +kernel
theorem dX7_lengthen_8 : decode cX7_lengthen 8 = .ok (.istore_n 3, 1) := by decide +kernel
theorem dX7_lengthen_9 : decode cX7_lengthen 9 = .ok (.iload_n 3, 1) := by decide +kernel
theorem dX7_lengthen_10 : decode cX7_lengthen 10 = .ok (.iload_n 1, 1) := by decide +kernel
theorem dX7_lengthen_11 : decode cX7_lengthen 11 = .ok (.if_icmp .ge 70, 3) := by decide +kernel
theorem dX7_lengthen_14 : decode cX7_lengthen 14 = .ok (.lconst 0, 1) := by decide +kernel
theorem dX7_lengthen_15 : decode cX7_lengthen 15 = .ok (.lstore 4, 2) := by decide +kernel
theorem dX7_lengthen_17 : decode cX7_lengthen 17 = .ok (.iconst 0, 1) := by decide +kernel
theorem dX7_lengthen_18 : decode cX7_lengthen 18 = .ok (.istore 6, 2) := by decide +kernel
theorem dX7_lengthen_20 : decode cX7_lengthen 20 = .ok (.iload 6, 2) := by decide +kernel
theorem dX7_lengthen_22 : decode cX7_lengthen 22 = .ok (.iload_n 1, 1) := by decide +kernel
theorem dX7_lengthen_23 : decode cX7_lengthen 23 = .ok (.if_icmp .ge 39, 3) := by decide +kernel
theorem dX7_lengthen_26 : decode cX7_lengthen 26 = .ok (.lload 4, 2) := by decide +kernel
theorem dX7_lengthen_28 : decode cX7_lengthen 28 = .ok (.aload_n 0, 1) := by decide +kernel
theorem dX7_lengthen_29 : decode cX7_lengthen 29 = .ok (.getfield 15, 3) := by decide +kernel
theorem dX7_lengthen_32 : decode cX7_lengthen 32 = .ok (.iload_n 2, 1) := by decide +kernel
theorem dX7_lengthen_33 : decode cX7_lengthen 33 = .ok (.bipush 16, 2) := by decide +kernel
theorem dX7_lengthen_35 : decode cX7_lengthen 35 = .ok (.imul, 1) := by decide +kernel
theorem dX7_lengthen_36 : decode cX7_lengthen 36 = .ok (.iload 6, 2) := by decide +kernel
theorem dX7_lengthen_38 : decode cX7_lengthen 38 = .ok (.iadd, 1) := by decide +kernel
theorem dX7_lengthen_39 : decode cX7_lengthen 39 = .ok (.laload, 1) := by decide +kernel
theorem dX7_lengthen_40 : decode cX7_lengthen 40 = .ok (.aload_n 0, 1) := by decide +kernel
theorem dX7_lengthen_41 : decode cX7_lengthen 41 = .ok (.getfield 9, 3) := by decide +kernel
theorem dX7_lengthen_44 : decode cX7_lengthen 44 = .ok (.iload 6, 2) := by decide +kernel
theorem dX7_lengthen_46 : decode cX7_lengthen 46 = .ok (.bipush 16, 2) := by decide +kernel
theorem dX7_lengthen_48 : decode cX7_lengthen 48 = .ok (.imul, 1) := by decide +kernel
theorem dX7_lengthen_49 : decode cX7_lengthen 49 = .ok (.iload_n 3, 1) := by decide +kernel
theorem dX7_lengthen_50 : decode cX7_lengthen 50 = .ok (.iadd, 1) := by decide +kernel
theorem dX7_lengthen_51 : decode cX7_lengthen 51 = .ok (.laload, 1) := by decide +kernel
theorem dX7_lengthen_52 : decode cX7_lengthen 52 = .ok (.lmul, 1) := by decide +kernel
theorem dX7_lengthen_53 : decode cX7_lengthen 53 = .ok (.ladd, 1) := by decide +kernel
theorem dX7_lengthen_54 : decode cX7_lengthen 54 = .ok (.lstore 4, 2) := by decide +kernel
theorem dX7_lengthen_56 : decode cX7_lengthen 56 = .ok (.iinc 6 1, 3) := by decide +kernel
theorem dX7_lengthen_59 : decode cX7_lengthen 59 = .ok (.goto (-39), 3) := by decide +kernel
theorem dX7_lengthen_62 : decode cX7_lengthen 62 = .ok (.aload_n 0, 1) := by decide +kernel
theorem dX7_lengthen_63 : decode cX7_lengthen 63 = .ok (.getfield 18, 3) := by decide +kernel
theorem dX7_lengthen_66 : decode cX7_lengthen 66 = .ok (.iload_n 2, 1) := by decide +kernel
theorem dX7_lengthen_67 : decode cX7_lengthen 67 = .ok (.bipush 16, 2) := by decide +kernel
theorem dX7_lengthen_69 : decode cX7_lengthen 69 = .ok (.imul, 1) := by decide +kernel
theorem dX7_lengthen_70 : decode cX7_lengthen 70 = .ok (.iload_n 3, 1) := by decide +kernel
theorem dX7_lengthen_71 : decode cX7_lengthen 71 = .ok (.iadd, 1) := by decide +kernel
theorem dX7_lengthen_72 : decode cX7_lengthen 72 = .ok (.lload 4, 2) := by decide +kernel
theorem dX7_lengthen_74 : decode cX7_lengthen 74 = .ok (.lastore, 1) := by decide +kernel
theorem dX7_lengthen_75 : decode cX7_lengthen 75 = .ok (.iinc 3 1, 3) := by decide +kernel
theorem dX7_lengthen_78 : decode cX7_lengthen 78 = .ok (.goto (-69), 3) := by decide +kernel
theorem dX7_lengthen_81 : decode cX7_lengthen 81 = .ok (.iinc 2 1, 3) := by decide +kernel
theorem dX7_lengthen_84 : decode cX7_lengthen 84 = .ok (.goto (-82), 3) := by decide +kernel
theorem dX7_lengthen_87 : decode cX7_lengthen 87 = .ok (.aload_n 0, 1) := by decide +kernel
theorem dX7_lengthen_88 : decode cX7_lengthen 88 = .ok (.getfield 15, 3) := by decide +kernel
theorem dX7_lengthen_91 : decode cX7_lengthen 91 = .ok (.astore_n 2, 1) := by decide +kernel
theorem dX7_lengthen_92 : decode cX7_lengthen 92 = .ok (.aload_n 0, 1) := by decide +kernel
theorem dX7_lengthen_93 : decode cX7_lengthen 93 = .ok (.aload_n 0, 1) := by decide +kernel
theorem dX7_lengthen_94 : decode cX7_lengthen 94 = .ok (.getfield 18, 3) := by decide +kernel
theorem dX7_lengthen_97 : decode cX7_lengthen 97 = .ok (.putfield 15, 3) := by decide +kernel
theorem dX7_lengthen_100 : decode cX7_lengthen 100 = .ok (.aload_n 0, 1) := by decide +kernel
theorem dX7_lengthen_101 : decode cX7_lengthen 101 = .ok (.aload_n 2, 1) := by decide +kernel
theorem dX7_lengthen_102 : decode cX7_lengthen 102 = .ok (.putfield 18, 3) := by decide +kernel
theorem dX7_lengthen_105 : decode cX7_lengthen 105 = .ok (.return_, 1) := by decide +kernel
theorem dX7_sumAtEnds_0 : decode cX7_sumAtEnds 0 = .ok (.lconst 0, 1) := by decide +kernel
theorem dX7_sumAtEnds_1 : decode cX7_sumAtEnds 1 = .ok (.lstore 4, 2) := by decide +kernel
theorem dX7_sumAtEnds_3 : decode cX7_sumAtEnds 3 = .ok (.iconst 0, 1) := by decide +kernel
theorem dX7_sumAtEnds_4 : decode cX7_sumAtEnds 4 = .ok (.istore 6, 2) := by decide +kernel
theorem dX7_sumAtEnds_6 : decode cX7_sumAtEnds 6 = .ok (.iload 6, 2) := by decide +kernel
theorem dX7_sumAtEnds_8 : decode cX7_sumAtEnds 8 = .ok (.iload_n 3, 1) := by decide +kernel
theorem dX7_sumAtEnds_9 : decode cX7_sumAtEnds 9 = .ok (.if_icmp .ge 31, 3) := by decide +kernel
theorem dX7_sumAtEnds_12 : decode cX7_sumAtEnds 12 = .ok (.lload 4, 2) := by decide +kernel
theorem dX7_sumAtEnds_14 : decode cX7_sumAtEnds 14 = .ok (.aload_n 1, 1) := by decide +kernel
theorem dX7_sumAtEnds_15 : decode cX7_sumAtEnds 15 = .ok (.iload_n 2, 1) := by decide +kernel
theorem dX7_sumAtEnds_16 : decode cX7_sumAtEnds 16 = .ok (.bipush 16, 2) := by decide +kernel
theorem dX7_sumAtEnds_18 : decode cX7_sumAtEnds 18 = .ok (.imul, 1) := by decide +kernel
theorem dX7_sumAtEnds_19 : decode cX7_sumAtEnds 19 = .ok (.iload 6, 2) := by decide +kernel
theorem dX7_sumAtEnds_21 : decode cX7_sumAtEnds 21 = .ok (.iadd, 1) := by decide +kernel
theorem dX7_sumAtEnds_22 : decode cX7_sumAtEnds 22 = .ok (.laload, 1) := by decide +kernel
theorem dX7_sumAtEnds_23 : decode cX7_sumAtEnds 23 = .ok (.aload_n 0, 1) := by decide +kernel
theorem dX7_sumAtEnds_24 : decode cX7_sumAtEnds 24 = .ok (.getfield 21, 3) := by decide +kernel
theorem dX7_sumAtEnds_27 : decode cX7_sumAtEnds 27 = .ok (.iload 6, 2) := by decide +kernel
theorem dX7_sumAtEnds_29 : decode cX7_sumAtEnds 29 = .ok (.laload, 1) := by decide +kernel
theorem dX7_sumAtEnds_30 : decode cX7_sumAtEnds 30 = .ok (.lmul, 1) := by decide +kernel
theorem dX7_sumAtEnds_31 : decode cX7_sumAtEnds 31 = .ok (.ladd, 1) := by decide +kernel
theorem dX7_sumAtEnds_32 : decode cX7_sumAtEnds 32 = .ok (.lstore 4, 2) := by decide +kernel
theorem dX7_sumAtEnds_34 : decode cX7_sumAtEnds 34 = .ok (.iinc 6 1, 3) := by decide +kernel
theorem dX7_sumAtEnds_37 : decode cX7_sumAtEnds 37 = .ok (.goto (-31), 3) := by decide +kernel
theorem dX7_sumAtEnds_40 : decode cX7_sumAtEnds 40 = .ok (.lload 4, 2) := by decide +kernel
theorem dX7_sumAtEnds_42 : decode cX7_sumAtEnds 42 = .ok (.lreturn, 1) := by decide +kernel
theorem dX7_turnValues_0 : decode cX7_turnValues 0 = .ok (.aload_n 0, 1) := by decide +kernel
theorem dX7_turnValues_1 : decode cX7_turnValues 1 = .ok (.getfield 21, 3) := by decide +kernel
theorem dX7_turnValues_4 : decode cX7_turnValues 4 = .ok (.astore_n 1, 1) := by decide +kernel
theorem dX7_turnValues_5 : decode cX7_turnValues 5 = .ok (.aload_n 0, 1) := by decide +kernel
theorem dX7_turnValues_6 : decode cX7_turnValues 6 = .ok (.aload_n 0, 1) := by decide +kernel
theorem dX7_turnValues_7 : decode cX7_turnValues 7 = .ok (.getfield 24, 3) := by decide +kernel
theorem dX7_turnValues_10 : decode cX7_turnValues 10 = .ok (.putfield 21, 3) := by decide +kernel
theorem dX7_turnValues_13 : decode cX7_turnValues 13 = .ok (.aload_n 0, 1) := by decide +kernel
theorem dX7_turnValues_14 : decode cX7_turnValues 14 = .ok (.aload_n 1, 1) := by decide +kernel
theorem dX7_turnValues_15 : decode cX7_turnValues 15 = .ok (.putfield 24, 3) := by decide +kernel
theorem dX7_turnValues_18 : decode cX7_turnValues 18 = .ok (.return_, 1) := by decide +kernel
set_option maxRecDepth 20000 in
theorem ggX7_growing_X7_countSingle : GoodIn wsX7_growing wsX7_countSingle := goodIn_r _ [9, 3, 1, 10, 11, 12, 13, 14, 15, 16, 17, 18, 19, 20, 21, 22, 23, 24, 25, 60, 61, 62, 63, 64, 53, 54, 55, 56, 57, 58, 59] (by decide +kernel) (by decide +kernel)
set_option maxRecDepth 20000 in
theorem gX7_growing_X7_countSingle : GoodIn wsX7_growing (wsV RX7 37 RX7 yX7_countSingle wsX7_countSingle) := goodIn_app (goodIn_of _ (by decide +kernel)) ggX7_growing_X7_countSingle
set_option maxRecDepth 20000 in
theorem ggX7_growing_X7_setLive : GoodIn wsX7_growing wsX7_setLive := goodIn_r _ [29, 4, 30, 23, 24, 18, 25, 21, 60, 61, 62, 63, 64, 53, 54, 55, 56, 57, 58, 59] (by decide +kernel) (by decide +kernel)
set_option maxRecDepth 20000 in
theorem gX7_growing_X7_setLive : GoodIn wsX7_growing (wsV RX7 64 RX7 yX7_setLive wsX7_setLive) := goodIn_app (goodIn_of _ (by decide +kernel)) ggX7_growing_X7_setLive
set_option maxRecDepth 20000 in
theorem ggX7_growing_X7_sumAtEnds : GoodIn wsX7_growing wsX7_sumAtEnds := goodIn_r _ [34, 4, 60, 61, 62, 63, 64] (by decide +kernel) (by decide +kernel)
set_option maxRecDepth 20000 in
theorem gX7_growing_X7_sumAtEnds : GoodIn wsX7_growing (wsV RX7 68 RX7 yX7_sumAtEnds wsX7_sumAtEnds) := goodIn_app (goodIn_of _ (by decide +kernel)) ggX7_growing_X7_sumAtEnds
set_option maxRecDepth 20000 in
theorem ggX7_growing_X7_turnValues : GoodIn wsX7_growing wsX7_turnValues := goodIn_r _ [38, 4, 2, 60, 61, 62, 63, 64] (by decide +kernel) (by decide +kernel)
set_option maxRecDepth 20000 in
theorem gX7_growing_X7_turnValues : GoodIn wsX7_growing (wsV RX7 72 RX7 yX7_turnValues wsX7_turnValues) := goodIn_app (goodIn_of _ (by decide +kernel)) ggX7_growing_X7_turnValues
set_option maxRecDepth 20000 in
theorem ggX7_growing_X7_utmost : GoodIn wsX7_growing wsX7_utmost := goodIn_r _ [42, 1, 4, 2, 43, 44, 45, 46, 30, 23, 24, 18, 25, 21, 47, 48, 8, 49, 53, 54, 55, 56, 57, 58, 59, 60, 61, 62, 63, 64] (by decide +kernel) (by decide +kernel)
set_option maxRecDepth 20000 in
theorem gX7_growing_X7_utmost : GoodIn wsX7_growing (wsV RX7 75 RX7 yX7_utmost wsX7_utmost) := goodIn_app (goodIn_of _ (by decide +kernel)) ggX7_growing_X7_utmost
set_option maxRecDepth 20000 in
theorem ggX7_growing_X9_commonDivisor : GoodIn wsX7_growing wsX9_commonDivisor := goodIn_r _ [52] (by decide +kernel) (by decide +kernel)
set_option maxRecDepth 20000 in
theorem gX7_growing_X9_commonDivisor_n79 : GoodIn wsX7_growing (wsX9_commonDivisor) := ggX7_growing_X9_commonDivisor
theorem dX7_growing_0 : decode cX7_growing 0 = .ok (.aload_n 0, 1) := by decide +kernel
theorem dX7_growing_1 : decode cX7_growing 1 = .ok (.aload_n 1, 1) := by decide +kernel
theorem dX7_growing_2 : decode cX7_growing 2 = .ok (.invokevirtual 37, 3) := by decide +kernel
theorem dX7_growing_5 : decode cX7_growing 5 = .ok (.aload_n 0, 1) := by decide +kernel
theorem dX7_growing_6 : decode cX7_growing 6 = .ok (.aload_n 1, 1) := by decide +kernel
theorem dX7_growing_7 : decode cX7_growing 7 = .ok (.lconst 1, 1) := by decide +kernel
theorem dX7_growing_8 : decode cX7_growing 8 = .ok (.invokevirtual 64, 3) := by decide +kernel
theorem dX7_growing_11 : decode cX7_growing 11 = .ok (.iconst 0, 1) := by decide +kernel
theorem dX7_growing_12 : decode cX7_growing 12 = .ok (.istore 4, 2) := by decide +kernel
theorem dX7_growing_14 : decode cX7_growing 14 = .ok (.iload 4, 2) := by decide +kernel
theorem dX7_growing_16 : decode cX7_growing 16 = .ok (.iload_n 2, 1) := by decide +kernel
theorem dX7_growing_17 : decode cX7_growing 17 = .ok (.if_icmp .gt 52, 3) := by decide +kernel
theorem dX7_growing_20 : decode cX7_growing 20 = .ok (.iconst 0, 1) := by decide +kernel
theorem dX7_growing_21 : decode cX7_growing 21 = .ok (.istore 5, 2) := by decide +kernel
theorem dX7_growing_23 : decode cX7_growing 23 = .ok (.iload 5, 2) := by decide +kernel
theorem dX7_growing_25 : decode cX7_growing 25 = .ok (.aload_n 1, 1) := by decide +kernel
theorem dX7_growing_26 : decode cX7_growing 26 = .ok (.getfield 31, 3) := by decide +kernel
theorem dX7_growing_29 : decode cX7_growing 29 = .ok (.if_icmp .ge 30, 3) := by decide +kernel
theorem dX7_growing_32 : decode cX7_growing 32 = .ok (.aload_n 0, 1) := by decide +kernel
theorem dX7_growing_33 : decode cX7_growing 33 = .ok (.getfield 24, 3) := by decide +kernel
theorem dX7_growing_36 : decode cX7_growing 36 = .ok (.iload 5, 2) := by decide +kernel
theorem dX7_growing_38 : decode cX7_growing 38 = .ok (.aload_n 0, 1) := by decide +kernel
theorem dX7_growing_39 : decode cX7_growing 39 = .ok (.aload_n 0, 1) := by decide +kernel
theorem dX7_growing_40 : decode cX7_growing 40 = .ok (.getfield 9, 3) := by decide +kernel
theorem dX7_growing_43 : decode cX7_growing 43 = .ok (.iload 5, 2) := by decide +kernel
theorem dX7_growing_45 : decode cX7_growing 45 = .ok (.aload_n 1, 1) := by decide +kernel
theorem dX7_growing_46 : decode cX7_growing 46 = .ok (.getfield 31, 3) := by decide +kernel
theorem dX7_growing_49 : decode cX7_growing 49 = .ok (.invokevirtual 68, 3) := by decide +kernel
theorem dX7_growing_52 : decode cX7_growing 52 = .ok (.lastore, 1) := by decide +kernel
theorem dX7_growing_53 : decode cX7_growing 53 = .ok (.iinc 5 1, 3) := by decide +kernel
theorem dX7_growing_56 : decode cX7_growing 56 = .ok (.goto (-33), 3) := by decide +kernel
theorem dX7_growing_59 : decode cX7_growing 59 = .ok (.aload_n 0, 1) := by decide +kernel
theorem dX7_growing_60 : decode cX7_growing 60 = .ok (.invokevirtual 72, 3) := by decide +kernel
theorem dX7_growing_63 : decode cX7_growing 63 = .ok (.iinc 4 1, 3) := by decide +kernel
theorem dX7_growing_66 : decode cX7_growing 66 = .ok (.goto (-52), 3) := by decide +kernel
theorem dX7_growing_69 : decode cX7_growing 69 = .ok (.aload_n 0, 1) := by decide +kernel
theorem dX7_growing_70 : decode cX7_growing 70 = .ok (.aload_n 1, 1) := by decide +kernel
theorem dX7_growing_71 : decode cX7_growing 71 = .ok (.iload_n 3, 1) := by decide +kernel
theorem dX7_growing_72 : decode cX7_growing 72 = .ok (.iconst 2, 1) := by decide +kernel
theorem dX7_growing_73 : decode cX7_growing 73 = .ok (.if_icmp .ge 7, 3) := by decide +kernel
theorem dX7_growing_76 : decode cX7_growing 76 = .ok (.iconst (-1), 1) := by decide +kernel
theorem dX7_growing_77 : decode cX7_growing 77 = .ok (.goto 4, 3) := by decide +kernel
theorem dX7_growing_80 : decode cX7_growing 80 = .ok (.iconst 1, 1) := by decide +kernel
theorem dX7_growing_81 : decode cX7_growing 81 = .ok (.invokevirtual 75, 3) := by decide +kernel
theorem dX7_growing_84 : decode cX7_growing 84 = .ok (.istore 4, 2) := by decide +kernel
theorem dX7_growing_86 : decode cX7_growing 86 = .ok (.aload_n 0, 1) := by decide +kernel
theorem dX7_growing_87 : decode cX7_growing 87 = .ok (.getfield 21, 3) := by decide +kernel
theorem dX7_growing_90 : decode cX7_growing 90 = .ok (.iload 4, 2) := by decide +kernel
theorem dX7_growing_92 : decode cX7_growing 92 = .ok (.laload, 1) := by decide +kernel
theorem dX7_growing_93 : decode cX7_growing 93 = .ok (.aload_n 0, 1) := by decide +kernel
theorem dX7_growing_94 : decode cX7_growing 94 = .ok (.getfield 24, 3) := by decide +kernel
theorem dX7_growing_97 : decode cX7_growing 97 = .ok (.iload 4, 2) := by decide +kernel
theorem dX7_growing_99 : decode cX7_growing 99 = .ok (.laload, 1) := by decide +kernel
theorem dX7_growing_100 : decode cX7_growing 100 = .ok (.invokestatic 79, 3) := by decide +kernel
theorem dX7_growing_103 : decode cX7_growing 103 = .ok (.lstore 5, 2) := by decide +kernel
theorem dX7_growing_105 : decode cX7_growing 105 = .ok (.iload_n 3, 1) := by decide +kernel
theorem dX7_growing_106 : decode cX7_growing 106 = .ok (.iconst 1, 1) := by decide +kernel
theorem dX7_growing_107 : decode cX7_growing 107 = .ok (.iand, 1) := by decide +kernel
theorem dX7_growing_108 : decode cX7_growing 108 = .ok (.ifCond .ne 13, 3) := by decide +kernel
theorem dX7_growing_111 : decode cX7_growing 111 = .ok (.aload_n 0, 1) := by decide +kernel
theorem dX7_growing_112 : decode cX7_growing 112 = .ok (.getfield 21, 3) := by decide +kernel
theorem dX7_growing_115 : decode cX7_growing 115 = .ok (.iload 4, 2) := by decide +kernel
theorem dX7_growing_117 : decode cX7_growing 117 = .ok (.laload, 1) := by decide +kernel
theorem dX7_growing_118 : decode cX7_growing 118 = .ok (.goto 10, 3) := by decide +kernel
theorem dX7_growing_121 : decode cX7_growing 121 = .ok (.aload_n 0, 1) := by decide +kernel
theorem dX7_growing_122 : decode cX7_growing 122 = .ok (.getfield 24, 3) := by decide +kernel
theorem dX7_growing_125 : decode cX7_growing 125 = .ok (.iload 4, 2) := by decide +kernel
theorem dX7_growing_127 : decode cX7_growing 127 = .ok (.laload, 1) := by decide +kernel
theorem dX7_growing_128 : decode cX7_growing 128 = .ok (.lstore 7, 2) := by decide +kernel
theorem dX7_growing_130 : decode cX7_growing 130 = .ok (.lload 5, 2) := by decide +kernel
theorem dX7_growing_132 : decode cX7_growing 132 = .ok (.lconst 0, 1) := by decide +kernel
theorem dX7_growing_133 : decode cX7_growing 133 = .ok (.lcmp, 1) := by decide +kernel
theorem dX7_growing_134 : decode cX7_growing 134 = .ok (.ifCond .ne 7, 3) := by decide +kernel
theorem dX7_growing_137 : decode cX7_growing 137 = .ok (.lconst 0, 1) := by decide +kernel
theorem dX7_growing_138 : decode cX7_growing 138 = .ok (.goto 8, 3) := by decide +kernel
theorem dX7_growing_141 : decode cX7_growing 141 = .ok (.lload 7, 2) := by decide +kernel
theorem dX7_growing_143 : decode cX7_growing 143 = .ok (.lload 5, 2) := by decide +kernel
theorem dX7_growing_145 : decode cX7_growing 145 = .ok (.ldiv, 1) := by decide +kernel
theorem dX7_growing_146 : decode cX7_growing 146 = .ok (.lreturn, 1) := by decide +kernel
set_option maxRecDepth 20000 in
theorem ggX7_setLive_X1_isLive : GoodIn wsX7_setLive wsX1_isLive := goodIn_r _ [6, 7, 13, 14, 15, 16, 17, 18, 19] (by decide +kernel) (by decide +kernel)
set_option maxRecDepth 20000 in
theorem gX7_setLive_X1_isLive : GoodIn wsX7_setLive (wsV RX7 83 RX1 yX1_isLive wsX1_isLive) := goodIn_app (goodIn_of _ (by decide +kernel)) ggX7_setLive_X1_isLive
theorem dX7_setLive_0 : decode cX7_setLive 0 = .ok (.iconst 0, 1) := by decide +kernel
theorem dX7_setLive_1 : decode cX7_setLive 1 = .ok (.istore 4, 2) := by decide +kernel
theorem dX7_setLive_3 : decode cX7_setLive 3 = .ok (.iload 4, 2) := by decide +kernel
theorem dX7_setLive_5 : decode cX7_setLive 5 = .ok (.bipush 16, 2) := by decide +kernel
theorem dX7_setLive_7 : decode cX7_setLive 7 = .ok (.if_icmp .ge 30, 3) := by decide +kernel
theorem dX7_setLive_10 : decode cX7_setLive 10 = .ok (.aload_n 0, 1) := by decide +kernel
theorem dX7_setLive_11 : decode cX7_setLive 11 = .ok (.getfield 21, 3) := by decide +kernel
theorem dX7_setLive_14 : decode cX7_setLive 14 = .ok (.iload 4, 2) := by decide +kernel
theorem dX7_setLive_16 : decode cX7_setLive 16 = .ok (.aload_n 1, 1) := by decide +kernel
theorem dX7_setLive_17 : decode cX7_setLive 17 = .ok (.iload 4, 2) := by decide +kernel
theorem dX7_setLive_19 : decode cX7_setLive 19 = .ok (.invokevirtual 83, 3) := by decide +kernel
theorem dX7_setLive_22 : decode cX7_setLive 22 = .ok (.ifCond .eq 7, 3) := by decide +kernel
theorem dX7_setLive_25 : decode cX7_setLive 25 = .ok (.lload_n 2, 1) := by decide +kernel
theorem dX7_setLive_26 : decode cX7_setLive 26 = .ok (.goto 4, 3) := by decide +kernel
theorem dX7_setLive_29 : decode cX7_setLive 29 = .ok (.lconst 0, 1) := by decide +kernel
theorem dX7_setLive_30 : decode cX7_setLive 30 = .ok (.lastore, 1) := by decide +kernel
theorem dX7_setLive_31 : decode cX7_setLive 31 = .ok (.iinc 4 1, 3) := by decide +kernel
theorem dX7_setLive_34 : decode cX7_setLive 34 = .ok (.goto (-31), 3) := by decide +kernel
theorem dX7_setLive_37 : decode cX7_setLive 37 = .ok (.return_, 1) := by decide +kernel
set_option maxRecDepth 20000 in
theorem ggX7_utmost_X1_isLive : GoodIn wsX7_utmost wsX1_isLive := goodIn_r _ [12, 13, 18, 19, 20, 21, 22, 23, 24] (by decide +kernel) (by decide +kernel)
set_option maxRecDepth 20000 in
theorem gX7_utmost_X1_isLive : GoodIn wsX7_utmost (wsV RX7 83 RX1 yX1_isLive wsX1_isLive) := goodIn_app (goodIn_of _ (by decide +kernel)) ggX7_utmost_X1_isLive
set_option maxRecDepth 20000 in
theorem ggX7_utmost_X7_sideOf : GoodIn wsX7_utmost wsX7_sideOf := goodIn_r _ [17] (by decide +kernel) (by decide +kernel)
set_option maxRecDepth 20000 in
theorem gX7_utmost_X7_sideOf : GoodIn wsX7_utmost (va_wsS RX7 87 yX7_sideOf wsX7_sideOf) := goodIn_app (goodIn_of _ (by decide +kernel)) ggX7_utmost_X7_sideOf
theorem dX7_utmost_0 : decode cX7_utmost 0 = .ok (.iconst (-1), 1) := by decide +kernel
theorem dX7_utmost_1 : decode cX7_utmost 1 = .ok (.istore_n 3, 1) := by decide +kernel
theorem dX7_utmost_2 : decode cX7_utmost 2 = .ok (.iconst 0, 1) := by decide +kernel
theorem dX7_utmost_3 : decode cX7_utmost 3 = .ok (.istore 4, 2) := by decide +kernel
theorem dX7_utmost_5 : decode cX7_utmost 5 = .ok (.iload 4, 2) := by decide +kernel
theorem dX7_utmost_7 : decode cX7_utmost 7 = .ok (.aload_n 1, 1) := by decide +kernel
theorem dX7_utmost_8 : decode cX7_utmost 8 = .ok (.getfield 31, 3) := by decide +kernel
theorem dX7_utmost_11 : decode cX7_utmost 11 = .ok (.if_icmp .ge 58, 3) := by decide +kernel
theorem dX7_utmost_14 : decode cX7_utmost 14 = .ok (.aload_n 1, 1) := by decide +kernel
theorem dX7_utmost_15 : decode cX7_utmost 15 = .ok (.iload 4, 2) := by decide +kernel
theorem dX7_utmost_17 : decode cX7_utmost 17 = .ok (.invokevirtual 83, 3) := by decide +kernel
theorem dX7_utmost_20 : decode cX7_utmost 20 = .ok (.ifCond .eq 43, 3) := by decide +kernel
theorem dX7_utmost_23 : decode cX7_utmost 23 = .ok (.iload_n 3, 1) := by decide +kernel
theorem dX7_utmost_24 : decode cX7_utmost 24 = .ok (.ifCond .lt 36, 3) := by decide +kernel
theorem dX7_utmost_27 : decode cX7_utmost 27 = .ok (.aload_n 0, 1) := by decide +kernel
theorem dX7_utmost_28 : decode cX7_utmost 28 = .ok (.getfield 21, 3) := by decide +kernel
theorem dX7_utmost_31 : decode cX7_utmost 31 = .ok (.iload 4, 2) := by decide +kernel
theorem dX7_utmost_33 : decode cX7_utmost 33 = .ok (.laload, 1) := by decide +kernel
theorem dX7_utmost_34 : decode cX7_utmost 34 = .ok (.aload_n 0, 1) := by decide +kernel
theorem dX7_utmost_35 : decode cX7_utmost 35 = .ok (.getfield 24, 3) := by decide +kernel
theorem dX7_utmost_38 : decode cX7_utmost 38 = .ok (.iload 4, 2) := by decide +kernel
theorem dX7_utmost_40 : decode cX7_utmost 40 = .ok (.laload, 1) := by decide +kernel
theorem dX7_utmost_41 : decode cX7_utmost 41 = .ok (.aload_n 0, 1) := by decide +kernel
theorem dX7_utmost_42 : decode cX7_utmost 42 = .ok (.getfield 21, 3) := by decide +kernel
theorem dX7_utmost_45 : decode cX7_utmost 45 = .ok (.iload_n 3, 1) := by decide +kernel
theorem dX7_utmost_46 : decode cX7_utmost 46 = .ok (.laload, 1) := by decide +kernel
theorem dX7_utmost_47 : decode cX7_utmost 47 = .ok (.aload_n 0, 1) := by decide +kernel
theorem dX7_utmost_48 : decode cX7_utmost 48 = .ok (.getfield 24, 3) := by decide +kernel
theorem dX7_utmost_51 : decode cX7_utmost 51 = .ok (.iload_n 3, 1) := by decide +kernel
theorem dX7_utmost_52 : decode cX7_utmost 52 = .ok (.laload, 1) := by decide +kernel
theorem dX7_utmost_53 : decode cX7_utmost 53 = .ok (.invokestatic 87, 3) := by decide +kernel
theorem dX7_utmost_56 : decode cX7_utmost 56 = .ok (.iload_n 2, 1) := by decide +kernel
theorem dX7_utmost_57 : decode cX7_utmost 57 = .ok (.if_icmp .ne 6, 3) := by decide +kernel
theorem dX7_utmost_60 : decode cX7_utmost 60 = .ok (.iload 4, 2) := by decide +kernel
theorem dX7_utmost_62 : decode cX7_utmost 62 = .ok (.istore_n 3, 1) := by decide +kernel
theorem dX7_utmost_63 : decode cX7_utmost 63 = .ok (.iinc 4 1, 3) := by decide +kernel
theorem dX7_utmost_66 : decode cX7_utmost 66 = .ok (.goto (-61), 3) := by decide +kernel
theorem dX7_utmost_69 : decode cX7_utmost 69 = .ok (.iload_n 3, 1) := by decide +kernel
theorem dX7_utmost_70 : decode cX7_utmost 70 = .ok (.iconst 0, 1) := by decide +kernel
theorem dX7_utmost_71 : decode cX7_utmost 71 = .ok (.invokestatic 91, 3) := by decide +kernel
theorem dX7_utmost_74 : decode cX7_utmost 74 = .ok (.ireturn, 1) := by decide +kernel
theorem dX7_sideOf_0 : decode cX7_sideOf 0 = .ok (.lload_n 0, 1) := by decide +kernel
theorem dX7_sideOf_1 : decode cX7_sideOf 1 = .ok (.lstore 8, 2) := by decide +kernel
theorem dX7_sideOf_3 : decode cX7_sideOf 3 = .ok (.lload_n 2, 1) := by decide +kernel
theorem dX7_sideOf_4 : decode cX7_sideOf 4 = .ok (.lstore 10, 2) := by decide +kernel
theorem dX7_sideOf_6 : decode cX7_sideOf 6 = .ok (.lload 4, 2) := by decide +kernel
theorem dX7_sideOf_8 : decode cX7_sideOf 8 = .ok (.lstore 12, 2) := by decide +kernel
theorem dX7_sideOf_10 : decode cX7_sideOf 10 = .ok (.lload 6, 2) := by decide +kernel
theorem dX7_sideOf_12 : decode cX7_sideOf 12 = .ok (.lstore 14, 2) := by decide +kernel
theorem dX7_sideOf_14 : decode cX7_sideOf 14 = .ok (.iconst 1, 1) := by decide +kernel
theorem dX7_sideOf_15 : decode cX7_sideOf 15 = .ok (.istore 16, 2) := by decide +kernel
theorem dX7_sideOf_17 : decode cX7_sideOf 17 = .ok (.iconst 0, 1) := by decide +kernel
theorem dX7_sideOf_18 : decode cX7_sideOf 18 = .ok (.istore 17, 2) := by decide +kernel
theorem dX7_sideOf_20 : decode cX7_sideOf 20 = .ok (.iload 17, 2) := by decide +kernel
theorem dX7_sideOf_22 : decode cX7_sideOf 22 = .ok (.bipush 100, 2) := by decide +kernel
theorem dX7_sideOf_24 : decode cX7_sideOf 24 = .ok (.if_icmp .ge 95, 3) := by decide +kernel
theorem dX7_sideOf_27 : decode cX7_sideOf 27 = .ok (.lload 10, 2) := by decide +kernel
theorem dX7_sideOf_29 : decode cX7_sideOf 29 = .ok (.lconst 0, 1) := by decide +kernel
theorem dX7_sideOf_30 : decode cX7_sideOf 30 = .ok (.lcmp, 1) := by decide +kernel
theorem dX7_sideOf_31 : decode cX7_sideOf 31 = .ok (.ifCond .eq 88, 3) := by decide +kernel
theorem dX7_sideOf_34 : decode cX7_sideOf 34 = .ok (.lload 14, 2) := by decide +kernel
theorem dX7_sideOf_36 : decode cX7_sideOf 36 = .ok (.lconst 0, 1) := by decide +kernel
theorem dX7_sideOf_37 : decode cX7_sideOf 37 = .ok (.lcmp, 1) := by decide +kernel
theorem dX7_sideOf_38 : decode cX7_sideOf 38 = .ok (.ifCond .eq 81, 3) := by decide +kernel
theorem dX7_sideOf_41 : decode cX7_sideOf 41 = .ok (.lload 8, 2) := by decide +kernel
theorem dX7_sideOf_43 : decode cX7_sideOf 43 = .ok (.lload 10, 2) := by decide +kernel
theorem dX7_sideOf_45 : decode cX7_sideOf 45 = .ok (.ldiv, 1) := by decide +kernel
theorem dX7_sideOf_46 : decode cX7_sideOf 46 = .ok (.lload 12, 2) := by decide +kernel
theorem dX7_sideOf_48 : decode cX7_sideOf 48 = .ok (.lload 14, 2) := by decide +kernel
theorem dX7_sideOf_50 : decode cX7_sideOf 50 = .ok (.ldiv, 1) := by decide +kernel
theorem dX7_sideOf_51 : decode cX7_sideOf 51 = .ok (.lcmp, 1) := by decide +kernel
theorem dX7_sideOf_52 : decode cX7_sideOf 52 = .ok (.ifCond .eq 26, 3) := by decide +kernel
theorem dX7_sideOf_55 : decode cX7_sideOf 55 = .ok (.lload 8, 2) := by decide +kernel
theorem dX7_sideOf_57 : decode cX7_sideOf 57 = .ok (.lload 10, 2) := by decide +kernel
theorem dX7_sideOf_59 : decode cX7_sideOf 59 = .ok (.ldiv, 1) := by decide +kernel
theorem dX7_sideOf_60 : decode cX7_sideOf 60 = .ok (.lload 12, 2) := by decide +kernel
theorem dX7_sideOf_62 : decode cX7_sideOf 62 = .ok (.lload 14, 2) := by decide +kernel
theorem dX7_sideOf_64 : decode cX7_sideOf 64 = .ok (.ldiv, 1) := by decide +kernel
theorem dX7_sideOf_65 : decode cX7_sideOf 65 = .ok (.lcmp, 1) := by decide +kernel
theorem dX7_sideOf_66 : decode cX7_sideOf 66 = .ok (.ifCond .ge 9, 3) := by decide +kernel
theorem dX7_sideOf_69 : decode cX7_sideOf 69 = .ok (.iload 16, 2) := by decide +kernel
theorem dX7_sideOf_71 : decode cX7_sideOf 71 = .ok (.ineg, 1) := by decide +kernel
theorem dX7_sideOf_72 : decode cX7_sideOf 72 = .ok (.goto 5, 3) := by decide +kernel
theorem dX7_sideOf_75 : decode cX7_sideOf 75 = .ok (.iload 16, 2) := by decide +kernel
theorem dX7_sideOf_77 : decode cX7_sideOf 77 = .ok (.ireturn, 1) := by decide +kernel
theorem dX7_sideOf_78 : decode cX7_sideOf 78 = .ok (.lload 8, 2) := by decide +kernel
theorem dX7_sideOf_80 : decode cX7_sideOf 80 = .ok (.lload 10, 2) := by decide +kernel
theorem dX7_sideOf_82 : decode cX7_sideOf 82 = .ok (.lrem, 1) := by decide +kernel
theorem dX7_sideOf_83 : decode cX7_sideOf 83 = .ok (.lstore 18, 2) := by decide +kernel
theorem dX7_sideOf_85 : decode cX7_sideOf 85 = .ok (.lload 10, 2) := by decide +kernel
theorem dX7_sideOf_87 : decode cX7_sideOf 87 = .ok (.lstore 8, 2) := by decide +kernel
theorem dX7_sideOf_89 : decode cX7_sideOf 89 = .ok (.lload 18, 2) := by decide +kernel
theorem dX7_sideOf_91 : decode cX7_sideOf 91 = .ok (.lstore 10, 2) := by decide +kernel
theorem dX7_sideOf_93 : decode cX7_sideOf 93 = .ok (.lload 12, 2) := by decide +kernel
theorem dX7_sideOf_95 : decode cX7_sideOf 95 = .ok (.lload 14, 2) := by decide +kernel
theorem dX7_sideOf_97 : decode cX7_sideOf 97 = .ok (.lrem, 1) := by decide +kernel
theorem dX7_sideOf_98 : decode cX7_sideOf 98 = .ok (.lstore 18, 2) := by decide +kernel
theorem dX7_sideOf_100 : decode cX7_sideOf 100 = .ok (.lload 14, 2) := by decide +kernel
theorem dX7_sideOf_102 : decode cX7_sideOf 102 = .ok (.lstore 12, 2) := by decide +kernel
theorem dX7_sideOf_104 : decode cX7_sideOf 104 = .ok (.lload 18, 2) := by decide +kernel
theorem dX7_sideOf_106 : decode cX7_sideOf 106 = .ok (.lstore 14, 2) := by decide +kernel
theorem dX7_sideOf_108 : decode cX7_sideOf 108 = .ok (.iload 16, 2) := by decide +kernel
theorem dX7_sideOf_110 : decode cX7_sideOf 110 = .ok (.ineg, 1) := by decide +kernel
theorem dX7_sideOf_111 : decode cX7_sideOf 111 = .ok (.istore 16, 2) := by decide +kernel
theorem dX7_sideOf_113 : decode cX7_sideOf 113 = .ok (.iinc 17 1, 3) := by decide +kernel
theorem dX7_sideOf_116 : decode cX7_sideOf 116 = .ok (.goto (-96), 3) := by decide +kernel
theorem dX7_sideOf_119 : decode cX7_sideOf 119 = .ok (.lload 10, 2) := by decide +kernel
theorem dX7_sideOf_121 : decode cX7_sideOf 121 = .ok (.lconst 0, 1) := by decide +kernel
theorem dX7_sideOf_122 : decode cX7_sideOf 122 = .ok (.lcmp, 1) := by decide +kernel
theorem dX7_sideOf_123 : decode cX7_sideOf 123 = .ok (.ifCond .ne 12, 3) := by decide +kernel
theorem dX7_sideOf_126 : decode cX7_sideOf 126 = .ok (.lload 14, 2) := by decide +kernel
theorem dX7_sideOf_128 : decode cX7_sideOf 128 = .ok (.lconst 0, 1) := by decide +kernel
theorem dX7_sideOf_129 : decode cX7_sideOf 129 = .ok (.lcmp, 1) := by decide +kernel
theorem dX7_sideOf_130 : decode cX7_sideOf 130 = .ok (.ifCond .ne 5, 3) := by decide +kernel
theorem dX7_sideOf_133 : decode cX7_sideOf 133 = .ok (.iconst 0, 1) := by decide +kernel
theorem dX7_sideOf_134 : decode cX7_sideOf 134 = .ok (.ireturn, 1) := by decide +kernel
theorem dX7_sideOf_135 : decode cX7_sideOf 135 = .ok (.lload 10, 2) := by decide +kernel
theorem dX7_sideOf_137 : decode cX7_sideOf 137 = .ok (.lconst 0, 1) := by decide +kernel
theorem dX7_sideOf_138 : decode cX7_sideOf 138 = .ok (.lcmp, 1) := by decide +kernel
theorem dX7_sideOf_139 : decode cX7_sideOf 139 = .ok (.ifCond .ne 8, 3) := by decide +kernel
theorem dX7_sideOf_142 : decode cX7_sideOf 142 = .ok (.iload 16, 2) := by decide +kernel
theorem dX7_sideOf_144 : decode cX7_sideOf 144 = .ok (.goto 6, 3) := by decide +kernel
theorem dX7_sideOf_147 : decode cX7_sideOf 147 = .ok (.iload 16, 2) := by decide +kernel
theorem dX7_sideOf_149 : decode cX7_sideOf 149 = .ok (.ineg, 1) := by decide +kernel
theorem dX7_sideOf_150 : decode cX7_sideOf 150 = .ok (.ireturn, 1) := by decide +kernel
set_option maxRecDepth 20000 in
theorem ggX7_weigh_X7_countRows : GoodIn wsX7_weigh wsX7_countRows := goodIn_r _ [13, 14, 4, 15, 16, 17, 18, 1, 19, 20, 21, 12, 22, 23, 24, 25, 26, 27, 28, 29, 30, 31, 32, 33, 34, 35, 36, 37, 38, 39, 40, 41, 42, 43, 64, 65, 66, 67, 68, 57, 58, 59, 60, 61, 62, 63] (by decide +kernel) (by decide +kernel)
set_option maxRecDepth 20000 in
theorem gX7_weigh_X7_countRows : GoodIn wsX7_weigh (wsV RX7 27 RX7 yX7_countRows wsX7_countRows) := goodIn_app (goodIn_of _ (by decide +kernel)) ggX7_weigh_X7_countRows
set_option maxRecDepth 20000 in
theorem ggX7_weigh_X7_setLive : GoodIn wsX7_weigh wsX7_setLive := goodIn_r _ [47, 3, 48, 36, 37, 31, 38, 34, 64, 65, 66, 67, 68, 57, 58, 59, 60, 61, 62, 63] (by decide +kernel) (by decide +kernel)
set_option maxRecDepth 20000 in
theorem gX7_weigh_X7_setLive : GoodIn wsX7_weigh (wsV RX7 64 RX7 yX7_setLive wsX7_setLive) := goodIn_app (goodIn_of _ (by decide +kernel)) ggX7_weigh_X7_setLive
set_option maxRecDepth 20000 in
theorem ggX7_weigh_X7_sumAtEnds : GoodIn wsX7_weigh wsX7_sumAtEnds := goodIn_r _ [52, 3, 64, 65, 66, 67, 68] (by decide +kernel) (by decide +kernel)
set_option maxRecDepth 20000 in
theorem gX7_weigh_X7_sumAtEnds : GoodIn wsX7_weigh (wsV RX7 68 RX7 yX7_sumAtEnds wsX7_sumAtEnds) := goodIn_app (goodIn_of _ (by decide +kernel)) ggX7_weigh_X7_sumAtEnds
set_option maxRecDepth 20000 in
theorem ggX7_weigh_X7_turnValues : GoodIn wsX7_weigh wsX7_turnValues := goodIn_r _ [56, 3, 2, 64, 65, 66, 67, 68] (by decide +kernel) (by decide +kernel)
set_option maxRecDepth 20000 in
theorem gX7_weigh_X7_turnValues : GoodIn wsX7_weigh (wsV RX7 72 RX7 yX7_turnValues wsX7_turnValues) := goodIn_app (goodIn_of _ (by decide +kernel)) ggX7_weigh_X7_turnValues
theorem dX7_weigh_0 : decode cX7_weigh 0 = .ok (.aload_n 0, 1) := by decide +kernel
theorem dX7_weigh_1 : decode cX7_weigh 1 = .ok (.aload_n 1, 1) := by decide +kernel
theorem dX7_weigh_2 : decode cX7_weigh 2 = .ok (.iload_n 3, 1) := by decide +kernel
theorem dX7_weigh_3 : decode cX7_weigh 3 = .ok (.invokevirtual 27, 3) := by decide +kernel
theorem dX7_weigh_6 : decode cX7_weigh 6 = .ok (.aload_n 0, 1) := by decide +kernel
theorem dX7_weigh_7 : decode cX7_weigh 7 = .ok (.aload_n 1, 1) := by decide +kernel
theorem dX7_weigh_8 : decode cX7_weigh 8 = .ok (.iload 4, 2) := by decide +kernel
theorem dX7_weigh_10 : decode cX7_weigh 10 = .ok (.i2l, 1) := by decide +kernel
theorem dX7_weigh_11 : decode cX7_weigh 11 = .ok (.invokevirtual 64, 3) := by decide +kernel
theorem dX7_weigh_14 : decode cX7_weigh 14 = .ok (.bipush 16, 2) := by decide +kernel
theorem dX7_weigh_16 : decode cX7_weigh 16 = .ok (.iload 4, 2) := by decide +kernel
theorem dX7_weigh_18 : decode cX7_weigh 18 = .ok (.imul, 1) := by decide +kernel
theorem dX7_weigh_19 : decode cX7_weigh 19 = .ok (.istore 5, 2) := by decide +kernel
theorem dX7_weigh_21 : decode cX7_weigh 21 = .ok (.iconst 1, 1) := by decide +kernel
theorem dX7_weigh_22 : decode cX7_weigh 22 = .ok (.istore 6, 2) := by decide +kernel
theorem dX7_weigh_24 : decode cX7_weigh 24 = .ok (.iconst 0, 1) := by decide +kernel
theorem dX7_weigh_25 : decode cX7_weigh 25 = .ok (.istore 7, 2) := by decide +kernel
theorem dX7_weigh_27 : decode cX7_weigh 27 = .ok (.iload 7, 2) := by decide +kernel
theorem dX7_weigh_29 : decode cX7_weigh 29 = .ok (.iload 5, 2) := by decide +kernel
theorem dX7_weigh_31 : decode cX7_weigh 31 = .ok (.if_icmp .gt 102, 3) := by decide +kernel
theorem dX7_weigh_34 : decode cX7_weigh 34 = .ok (.iload 6, 2) := by decide +kernel
theorem dX7_weigh_36 : decode cX7_weigh 36 = .ok (.ifCond .eq 97, 3) := by decide +kernel
theorem dX7_weigh_39 : decode cX7_weigh 39 = .ok (.iconst 0, 1) := by decide +kernel
theorem dX7_weigh_40 : decode cX7_weigh 40 = .ok (.istore 6, 2) := by decide +kernel
theorem dX7_weigh_42 : decode cX7_weigh 42 = .ok (.iconst 0, 1) := by decide +kernel
theorem dX7_weigh_43 : decode cX7_weigh 43 = .ok (.istore 8, 2) := by decide +kernel
theorem dX7_weigh_45 : decode cX7_weigh 45 = .ok (.iload 8, 2) := by decide +kernel
theorem dX7_weigh_47 : decode cX7_weigh 47 = .ok (.aload_n 1, 1) := by decide +kernel
theorem dX7_weigh_48 : decode cX7_weigh 48 = .ok (.getfield 31, 3) := by decide +kernel
theorem dX7_weigh_51 : decode cX7_weigh 51 = .ok (.if_icmp .ge 72, 3) := by decide +kernel
theorem dX7_weigh_54 : decode cX7_weigh 54 = .ok (.aload_n 0, 1) := by decide +kernel
theorem dX7_weigh_55 : decode cX7_weigh 55 = .ok (.getfield 24, 3) := by decide +kernel
theorem dX7_weigh_58 : decode cX7_weigh 58 = .ok (.iload 8, 2) := by decide +kernel
theorem dX7_weigh_60 : decode cX7_weigh 60 = .ok (.aload_n 0, 1) := by decide +kernel
theorem dX7_weigh_61 : decode cX7_weigh 61 = .ok (.getfield 21, 3) := by decide +kernel
theorem dX7_weigh_64 : decode cX7_weigh 64 = .ok (.iload 8, 2) := by decide +kernel
theorem dX7_weigh_66 : decode cX7_weigh 66 = .ok (.laload, 1) := by decide +kernel
theorem dX7_weigh_67 : decode cX7_weigh 67 = .ok (.aload_n 0, 1) := by decide +kernel
theorem dX7_weigh_68 : decode cX7_weigh 68 = .ok (.aload_n 0, 1) := by decide +kernel
theorem dX7_weigh_69 : decode cX7_weigh 69 = .ok (.getfield 15, 3) := by decide +kernel
theorem dX7_weigh_72 : decode cX7_weigh 72 = .ok (.iload 8, 2) := by decide +kernel
theorem dX7_weigh_74 : decode cX7_weigh 74 = .ok (.aload_n 1, 1) := by decide +kernel
theorem dX7_weigh_75 : decode cX7_weigh 75 = .ok (.getfield 31, 3) := by decide +kernel
theorem dX7_weigh_78 : decode cX7_weigh 78 = .ok (.invokevirtual 68, 3) := by decide +kernel
theorem dX7_weigh_81 : decode cX7_weigh 81 = .ok (.iload_n 2, 1) := by decide +kernel
theorem dX7_weigh_82 : decode cX7_weigh 82 = .ok (.lshr, 1) := by decide +kernel
theorem dX7_weigh_83 : decode cX7_weigh 83 = .ok (.invokestatic 96, 3) := by decide +kernel
theorem dX7_weigh_86 : decode cX7_weigh 86 = .ok (.lastore, 1) := by decide +kernel
theorem dX7_weigh_87 : decode cX7_weigh 87 = .ok (.iload 6, 2) := by decide +kernel
theorem dX7_weigh_89 : decode cX7_weigh 89 = .ok (.ifCond .ne 21, 3) := by decide +kernel
theorem dX7_weigh_92 : decode cX7_weigh 92 = .ok (.aload_n 0, 1) := by decide +kernel
theorem dX7_weigh_93 : decode cX7_weigh 93 = .ok (.getfield 24, 3) := by decide +kernel
theorem dX7_weigh_96 : decode cX7_weigh 96 = .ok (.iload 8, 2) := by decide +kernel
theorem dX7_weigh_98 : decode cX7_weigh 98 = .ok (.laload, 1) := by decide +kernel
theorem dX7_weigh_99 : decode cX7_weigh 99 = .ok (.aload_n 0, 1) := by decide +kernel
theorem dX7_weigh_100 : decode cX7_weigh 100 = .ok (.getfield 21, 3) := by decide +kernel
theorem dX7_weigh_103 : decode cX7_weigh 103 = .ok (.iload 8, 2) := by decide +kernel
theorem dX7_weigh_105 : decode cX7_weigh 105 = .ok (.laload, 1) := by decide +kernel
theorem dX7_weigh_106 : decode cX7_weigh 106 = .ok (.lcmp, 1) := by decide +kernel
theorem dX7_weigh_107 : decode cX7_weigh 107 = .ok (.ifCond .eq 7, 3) := by decide +kernel
theorem dX7_weigh_110 : decode cX7_weigh 110 = .ok (.iconst 1, 1) := by decide +kernel
theorem dX7_weigh_111 : decode cX7_weigh 111 = .ok (.goto 4, 3) := by decide +kernel
theorem dX7_weigh_114 : decode cX7_weigh 114 = .ok (.iconst 0, 1) := by decide +kernel
theorem dX7_weigh_115 : decode cX7_weigh 115 = .ok (.istore 6, 2) := by decide +kernel
theorem dX7_weigh_117 : decode cX7_weigh 117 = .ok (.iinc 8 1, 3) := by decide +kernel
theorem dX7_weigh_120 : decode cX7_weigh 120 = .ok (.goto (-75), 3) := by decide +kernel
theorem dX7_weigh_123 : decode cX7_weigh 123 = .ok (.aload_n 0, 1) := by decide +kernel
theorem dX7_weigh_124 : decode cX7_weigh 124 = .ok (.invokevirtual 72, 3) := by decide +kernel
theorem dX7_weigh_127 : decode cX7_weigh 127 = .ok (.iinc 7 1, 3) := by decide +kernel
theorem dX7_weigh_130 : decode cX7_weigh 130 = .ok (.goto (-103), 3) := by decide +kernel
theorem dX7_weigh_133 : decode cX7_weigh 133 = .ok (.return_, 1) := by decide +kernel
set_option maxRecDepth 20000 in
theorem ggX7_sumOfWeights_X7_weightOf : GoodIn wsX7_sumOfWeights wsX7_weightOf := goodIn_r _ [6, 7, 8, 9, 10, 11, 12, 13, 14, 15, 16, 24, 25, 26, 27, 28, 17, 18, 19, 20, 21, 22, 23] (by decide +kernel) (by decide +kernel)
set_option maxRecDepth 20000 in
theorem gX7_sumOfWeights_X7_weightOf : GoodIn wsX7_sumOfWeights (wsV RX7 99 RX7 yX7_weightOf wsX7_weightOf) := goodIn_app (goodIn_of _ (by decide +kernel)) ggX7_sumOfWeights_X7_weightOf
theorem dX7_sumOfWeights_0 : decode cX7_sumOfWeights 0 = .ok (.iconst 0, 1) := by decide +kernel
theorem dX7_sumOfWeights_1 : decode cX7_sumOfWeights 1 = .ok (.istore_n 2, 1) := by decide +kernel
theorem dX7_sumOfWeights_2 : decode cX7_sumOfWeights 2 = .ok (.iconst 0, 1) := by decide +kernel
theorem dX7_sumOfWeights_3 : decode cX7_sumOfWeights 3 = .ok (.istore_n 3, 1) := by decide +kernel
theorem dX7_sumOfWeights_4 : decode cX7_sumOfWeights 4 = .ok (.iload_n 3, 1) := by decide +kernel
theorem dX7_sumOfWeights_5 : decode cX7_sumOfWeights 5 = .ok (.aload_n 1, 1) := by decide +kernel
theorem dX7_sumOfWeights_6 : decode cX7_sumOfWeights 6 = .ok (.getfield 31, 3) := by decide +kernel
theorem dX7_sumOfWeights_9 : decode cX7_sumOfWeights 9 = .ok (.if_icmp .ge 18, 3) := by decide +kernel
theorem dX7_sumOfWeights_12 : decode cX7_sumOfWeights 12 = .ok (.iload_n 2, 1) := by decide +kernel
theorem dX7_sumOfWeights_13 : decode cX7_sumOfWeights 13 = .ok (.aload_n 0, 1) := by decide +kernel
theorem dX7_sumOfWeights_14 : decode cX7_sumOfWeights 14 = .ok (.aload_n 1, 1) := by decide +kernel
theorem dX7_sumOfWeights_15 : decode cX7_sumOfWeights 15 = .ok (.iload_n 3, 1) := by decide +kernel
theorem dX7_sumOfWeights_16 : decode cX7_sumOfWeights 16 = .ok (.invokevirtual 99, 3) := by decide +kernel
theorem dX7_sumOfWeights_19 : decode cX7_sumOfWeights 19 = .ok (.iadd, 1) := by decide +kernel
theorem dX7_sumOfWeights_20 : decode cX7_sumOfWeights 20 = .ok (.istore_n 2, 1) := by decide +kernel
theorem dX7_sumOfWeights_21 : decode cX7_sumOfWeights 21 = .ok (.iinc 3 1, 3) := by decide +kernel
theorem dX7_sumOfWeights_24 : decode cX7_sumOfWeights 24 = .ok (.goto (-20), 3) := by decide +kernel
theorem dX7_sumOfWeights_27 : decode cX7_sumOfWeights 27 = .ok (.iload_n 2, 1) := by decide +kernel
theorem dX7_sumOfWeights_28 : decode cX7_sumOfWeights 28 = .ok (.ireturn, 1) := by decide +kernel
set_option maxRecDepth 20000 in
theorem ggX7_weightOf_X1_hasState : GoodIn wsX7_weightOf wsX1_hasState := goodIn_r _ [6, 7, 8, 9, 10, 16, 17, 18, 19, 20, 21, 22] (by decide +kernel) (by decide +kernel)
set_option maxRecDepth 20000 in
theorem gX7_weightOf_X1_hasState : GoodIn wsX7_weightOf (wsV RX7 102 RX1 yX1_hasState wsX1_hasState) := goodIn_app (goodIn_of _ (by decide +kernel)) ggX7_weightOf_X1_hasState
theorem dX7_weightOf_0 : decode cX7_weightOf 0 = .ok (.aload_n 1, 1) := by decide +kernel
theorem dX7_weightOf_1 : decode cX7_weightOf 1 = .ok (.iload_n 2, 1) := by decide +kernel
theorem dX7_weightOf_2 : decode cX7_weightOf 2 = .ok (.invokevirtual 102, 3) := by decide +kernel
theorem dX7_weightOf_5 : decode cX7_weightOf 5 = .ok (.ifCond .eq 13, 3) := by decide +kernel
theorem dX7_weightOf_8 : decode cX7_weightOf 8 = .ok (.aload_n 0, 1) := by decide +kernel
theorem dX7_weightOf_9 : decode cX7_weightOf 9 = .ok (.getfield 21, 3) := by decide +kernel
theorem dX7_weightOf_12 : decode cX7_weightOf 12 = .ok (.iload_n 2, 1) := by decide +kernel
theorem dX7_weightOf_13 : decode cX7_weightOf 13 = .ok (.laload, 1) := by decide +kernel
theorem dX7_weightOf_14 : decode cX7_weightOf 14 = .ok (.l2i, 1) := by decide +kernel
theorem dX7_weightOf_15 : decode cX7_weightOf 15 = .ok (.goto 4, 3) := by decide +kernel
theorem dX7_weightOf_18 : decode cX7_weightOf 18 = .ok (.iconst 0, 1) := by decide +kernel
theorem dX7_weightOf_19 : decode cX7_weightOf 19 = .ok (.ireturn, 1) := by decide +kernel
