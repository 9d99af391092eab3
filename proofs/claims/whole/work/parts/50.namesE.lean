theorem dX10_init_0 : decode cX10_init 0 = .ok (.aload_n 0, 1) := by decide +kernel
theorem dX10_init_1 : decode cX10_init 1 = .ok (.invokespecial 1, 3) := by decide +kernel
theorem dX10_init_4 : decode cX10_init 4 = .ok (.aload_n 0, 1) := by decide +kernel
theorem dX10_init_5 : decode cX10_init 5 = .ok (.bipush 6, 2) := by decide +kernel
theorem dX10_init_7 : decode cX10_init 7 = .ok (.newarray .int, 2) := by decide +kernel
theorem dX10_init_9 : decode cX10_init 9 = .ok (.putfield 7, 3) := by decide +kernel
theorem dX10_init_12 : decode cX10_init 12 = .ok (.aload_n 0, 1) := by decide +kernel
theorem dX10_init_13 : decode cX10_init 13 = .ok (.bipush 6, 2) := by decide +kernel
theorem dX10_init_15 : decode cX10_init 15 = .ok (.newarray .int, 2) := by decide +kernel
theorem dX10_init_17 : decode cX10_init 17 = .ok (.putfield 13, 3) := by decide +kernel
theorem dX10_init_20 : decode cX10_init 20 = .ok (.aload_n 0, 1) := by decide +kernel
theorem dX10_init_21 : decode cX10_init 21 = .ok (.sipush 384, 3) := by decide +kernel
theorem dX10_init_24 : decode cX10_init 24 = .ok (.newarray .int, 2) := by decide +kernel
theorem dX10_init_26 : decode cX10_init 26 = .ok (.putfield 16, 3) := by decide +kernel
theorem dX10_init_29 : decode cX10_init 29 = .ok (.aload_n 0, 1) := by decide +kernel
theorem dX10_init_30 : decode cX10_init 30 = .ok (.bipush 30, 2) := by decide +kernel
theorem dX10_init_32 : decode cX10_init 32 = .ok (.newarray .int, 2) := by decide +kernel
theorem dX10_init_34 : decode cX10_init 34 = .ok (.putfield 19, 3) := by decide +kernel
theorem dX10_init_37 : decode cX10_init 37 = .ok (.aload_n 0, 1) := by decide +kernel
theorem dX10_init_38 : decode cX10_init 38 = .ok (.bipush 8, 2) := by decide +kernel
theorem dX10_init_40 : decode cX10_init 40 = .ok (.newarray .int, 2) := by decide +kernel
theorem dX10_init_42 : decode cX10_init 42 = .ok (.putfield 22, 3) := by decide +kernel
theorem dX10_init_45 : decode cX10_init 45 = .ok (.aload_n 0, 1) := by decide +kernel
theorem dX10_init_46 : decode cX10_init 46 = .ok (.bipush 40, 2) := by decide +kernel
theorem dX10_init_48 : decode cX10_init 48 = .ok (.newarray .int, 2) := by decide +kernel
theorem dX10_init_50 : decode cX10_init 50 = .ok (.putfield 25, 3) := by decide +kernel
theorem dX10_init_53 : decode cX10_init 53 = .ok (.aload_n 0, 1) := by decide +kernel
theorem dX10_init_54 : decode cX10_init 54 = .ok (.iconst 1, 1) := by decide +kernel
theorem dX10_init_55 : decode cX10_init 55 = .ok (.putfield 28, 3) := by decide +kernel
theorem dX10_init_58 : decode cX10_init 58 = .ok (.aload_n 0, 1) := by decide +kernel
theorem dX10_init_59 : decode cX10_init 59 = .ok (.bipush 64, 2) := by decide +kernel
theorem dX10_init_61 : decode cX10_init 61 = .ok (.newarray .int, 2) := by decide +kernel
theorem dX10_init_63 : decode cX10_init 63 = .ok (.putfield 32, 3) := by decide +kernel
theorem dX10_init_66 : decode cX10_init 66 = .ok (.aload_n 0, 1) := by decide +kernel
theorem dX10_init_67 : decode cX10_init 67 = .ok (.iconst 5, 1) := by decide +kernel
theorem dX10_init_68 : decode cX10_init 68 = .ok (.newarray .int, 2) := by decide +kernel
theorem dX10_init_70 : decode cX10_init 70 = .ok (.putfield 35, 3) := by decide +kernel
theorem dX10_init_73 : decode cX10_init 73 = .ok (.aload_n 0, 1) := by decide +kernel
theorem dX10_init_74 : decode cX10_init 74 = .ok (.ldc 38, 2) := by decide +kernel
theorem dX10_init_76 : decode cX10_init 76 = .ok (.newarray .int, 2) := by decide +kernel
theorem dX10_init_78 : decode cX10_init 78 = .ok (.putfield 39, 3) := by decide +kernel
theorem dX10_init_81 : decode cX10_init 81 = .ok (.aload_n 0, 1) := by decide +kernel
theorem dX10_init_82 : decode cX10_init 82 = .ok (.ldc 38, 2) := by decide +kernel
theorem dX10_init_84 : decode cX10_init 84 = .ok (.newarray .int, 2) := by decide +kernel
theorem dX10_init_86 : decode cX10_init 86 = .ok (.putfield 42, 3) := by decide +kernel
theorem dX10_init_89 : decode cX10_init 89 = .ok (.aload_n 0, 1) := by decide +kernel
theorem dX10_init_90 : decode cX10_init 90 = .ok (.ldc 38, 2) := by decide +kernel
theorem dX10_init_92 : decode cX10_init 92 = .ok (.newarray .long, 2) := by decide +kernel
theorem dX10_init_94 : decode cX10_init 94 = .ok (.putfield 45, 3) := by decide +kernel
theorem dX10_init_97 : decode cX10_init 97 = .ok (.aload_n 0, 1) := by decide +kernel
theorem dX10_init_98 : decode cX10_init 98 = .ok (.ldc 38, 2) := by decide +kernel
theorem dX10_init_100 : decode cX10_init 100 = .ok (.newarray .int, 2) := by decide +kernel
theorem dX10_init_102 : decode cX10_init 102 = .ok (.putfield 49, 3) := by decide +kernel
theorem dX10_init_105 : decode cX10_init 105 = .ok (.aload_n 0, 1) := by decide +kernel
theorem dX10_init_106 : decode cX10_init 106 = .ok (.ldc 38, 2) := by decide +kernel
theorem dX10_init_108 : decode cX10_init 108 = .ok (.newarray .long, 2) := by decide +kernel
theorem dX10_init_110 : decode cX10_init 110 = .ok (.putfield 52, 3) := by decide +kernel
theorem dX10_init_113 : decode cX10_init 113 = .ok (.aload_n 0, 1) := by decide +kernel
theorem dX10_init_114 : decode cX10_init 114 = .ok (.bipush 16, 2) := by decide +kernel
theorem dX10_init_116 : decode cX10_init 116 = .ok (.newarray .long, 2) := by decide +kernel
theorem dX10_init_118 : decode cX10_init 118 = .ok (.putfield 55, 3) := by decide +kernel
theorem dX10_init_121 : decode cX10_init 121 = .ok (.aload_n 0, 1) := by decide +kernel
theorem dX10_init_122 : decode cX10_init 122 = .ok (.bipush 16, 2) := by decide +kernel
theorem dX10_init_124 : decode cX10_init 124 = .ok (.newarray .long, 2) := by decide +kernel
theorem dX10_init_126 : decode cX10_init 126 = .ok (.putfield 58, 3) := by decide +kernel
theorem dX10_init_129 : decode cX10_init 129 = .ok (.aload_n 0, 1) := by decide +kernel
theorem dX10_init_130 : decode cX10_init 130 = .ok (.sipush 20001, 3) := by decide +kernel
theorem dX10_init_133 : decode cX10_init 133 = .ok (.newarray .long, 2) := by decide +kernel
theorem dX10_init_135 : decode cX10_init 135 = .ok (.putfield 61, 3) := by decide +kernel
theorem dX10_init_138 : decode cX10_init 138 = .ok (.aload_n 0, 1) := by decide +kernel
theorem dX10_init_139 : decode cX10_init 139 = .ok (.sipush 20001, 3) := by decide +kernel
theorem dX10_init_142 : decode cX10_init 142 = .ok (.newarray .int, 2) := by decide +kernel
theorem dX10_init_144 : decode cX10_init 144 = .ok (.putfield 64, 3) := by decide +kernel
theorem dX10_init_147 : decode cX10_init 147 = .ok (.aload_n 0, 1) := by decide +kernel
theorem dX10_init_148 : decode cX10_init 148 = .ok (.sipush 20001, 3) := by decide +kernel
theorem dX10_init_151 : decode cX10_init 151 = .ok (.newarray .int, 2) := by decide +kernel
theorem dX10_init_153 : decode cX10_init 153 = .ok (.putfield 67, 3) := by decide +kernel
theorem dX10_init_156 : decode cX10_init 156 = .ok (.aload_n 0, 1) := by decide +kernel
theorem dX10_init_157 : decode cX10_init 157 = .ok (.sipush 20001, 3) := by decide +kernel
theorem dX10_init_160 : decode cX10_init 160 = .ok (.newarray .int, 2) := by decide +kernel
theorem dX10_init_162 : decode cX10_init 162 = .ok (.putfield 70, 3) := by decide +kernel
theorem dX10_init_165 : decode cX10_init 165 = .ok (.aload_n 0, 1) := by decide +kernel
theorem dX10_init_166 : decode cX10_init 166 = .ok (.ldc 73, 2) := by decide +kernel
theorem dX10_init_168 : decode cX10_init 168 = .ok (.newarray .int, 2) := by decide +kernel
theorem dX10_init_170 : decode cX10_init 170 = .ok (.putfield 74, 3) := by decide +kernel
theorem dX10_init_173 : decode cX10_init 173 = .ok (.aload_n 0, 1) := by decide +kernel
theorem dX10_init_174 : decode cX10_init 174 = .ok (.bipush 16, 2) := by decide +kernel
theorem dX10_init_176 : decode cX10_init 176 = .ok (.newarray .int, 2) := by decide +kernel
theorem dX10_init_178 : decode cX10_init 178 = .ok (.putfield 77, 3) := by decide +kernel
theorem dX10_init_181 : decode cX10_init 181 = .ok (.aload_n 0, 1) := by decide +kernel
theorem dX10_init_182 : decode cX10_init 182 = .ok (.bipush 16, 2) := by decide +kernel
theorem dX10_init_184 : decode cX10_init 184 = .ok (.newarray .long, 2) := by decide +kernel
theorem dX10_init_186 : decode cX10_init 186 = .ok (.putfield 80, 3) := by decide +kernel
theorem dX10_init_189 : decode cX10_init 189 = .ok (.return_, 1) := by decide +kernel
theorem dX10_in_0 : decode cX10_in 0 = .ok (.iload_n 0, 1) := by decide +kernel
theorem dX10_in_1 : decode cX10_in 1 = .ok (.iload_n 1, 1) := by decide +kernel
theorem dX10_in_2 : decode cX10_in 2 = .ok (.if_icmp .lt 12, 3) := by decide +kernel
theorem dX10_in_5 : decode cX10_in 5 = .ok (.iload_n 0, 1) := by decide +kernel
theorem dX10_in_6 : decode cX10_in 6 = .ok (.iload_n 2, 1) := by decide +kernel
theorem dX10_in_7 : decode cX10_in 7 = .ok (.if_icmp .gt 7, 3) := by decide +kernel
theorem dX10_in_10 : decode cX10_in 10 = .ok (.iconst 1, 1) := by decide +kernel
theorem dX10_in_11 : decode cX10_in 11 = .ok (.goto 4, 3) := by decide +kernel
theorem dX10_in_14 : decode cX10_in 14 = .ok (.iconst 0, 1) := by decide +kernel
theorem dX10_in_15 : decode cX10_in 15 = .ok (.ireturn, 1) := by decide +kernel
set_option maxRecDepth 20000 in
theorem ggX10_isSet_X10_in : GoodIn wsX10_isSet wsX10_in := goodIn_r _ [5] (by decide +kernel) (by decide +kernel)
set_option maxRecDepth 20000 in
theorem gX10_isSet_X10_in : GoodIn wsX10_isSet (va_wsS RX10 86 yX10_in wsX10_in) := goodIn_app (goodIn_of _ (by decide +kernel)) ggX10_isSet_X10_in
theorem dX10_isSet_0 : decode cX10_isSet 0 = .ok (.iload_n 1, 1) := by decide +kernel
theorem dX10_isSet_1 : decode cX10_isSet 1 = .ok (.iconst 0, 1) := by decide +kernel
theorem dX10_isSet_2 : decode cX10_isSet 2 = .ok (.aload_n 0, 1) := by decide +kernel
theorem dX10_isSet_3 : decode cX10_isSet 3 = .ok (.getfield 83, 3) := by decide +kernel
theorem dX10_isSet_6 : decode cX10_isSet 6 = .ok (.iconst 1, 1) := by decide +kernel
theorem dX10_isSet_7 : decode cX10_isSet 7 = .ok (.isub, 1) := by decide +kernel
theorem dX10_isSet_8 : decode cX10_isSet 8 = .ok (.invokestatic 86, 3) := by decide +kernel
theorem dX10_isSet_11 : decode cX10_isSet 11 = .ok (.ireturn, 1) := by decide +kernel
set_option maxRecDepth 20000 in
theorem ggX10_isState_X10_isSet : GoodIn wsX10_isState wsX10_isSet := goodIn_r _ [6, 7, 8, 9, 5, 10, 11, 12, 13, 14, 15, 16, 17, 18, 19, 20, 21, 22, 23, 24, 25, 26, 27, 28, 29, 30, 31, 32, 33, 34, 35, 36, 37] (by decide +kernel) (by decide +kernel)
set_option maxRecDepth 20000 in
theorem gX10_isState_X10_isSet : GoodIn wsX10_isState (wsV RX10 90 RX10 yX10_isSet wsX10_isSet) := goodIn_app (goodIn_of _ (by decide +kernel)) ggX10_isState_X10_isSet
set_option maxRecDepth 20000 in
theorem ggX10_isState_X10_in : GoodIn wsX10_isState wsX10_in := goodIn_r _ [10] (by decide +kernel) (by decide +kernel)
set_option maxRecDepth 20000 in
theorem gX10_isState_X10_in : GoodIn wsX10_isState (va_wsS RX10 86 yX10_in wsX10_in) := goodIn_app (goodIn_of _ (by decide +kernel)) ggX10_isState_X10_in
theorem dX10_isState_0 : decode cX10_isState 0 = .ok (.aload_n 0, 1) := by decide +kernel
theorem dX10_isState_1 : decode cX10_isState 1 = .ok (.iload_n 1, 1) := by decide +kernel
theorem dX10_isState_2 : decode cX10_isState 2 = .ok (.invokevirtual 90, 3) := by decide +kernel
theorem dX10_isState_5 : decode cX10_isState 5 = .ok (.ifCond .eq 23, 3) := by decide +kernel
theorem dX10_isState_8 : decode cX10_isState 8 = .ok (.iload_n 2, 1) := by decide +kernel
theorem dX10_isState_9 : decode cX10_isState 9 = .ok (.iconst 0, 1) := by decide +kernel
theorem dX10_isState_10 : decode cX10_isState 10 = .ok (.aload_n 0, 1) := by decide +kernel
theorem dX10_isState_11 : decode cX10_isState 11 = .ok (.getfield 13, 3) := by decide +kernel
theorem dX10_isState_14 : decode cX10_isState 14 = .ok (.iload_n 1, 1) := by decide +kernel
theorem dX10_isState_15 : decode cX10_isState 15 = .ok (.iaload, 1) := by decide +kernel
theorem dX10_isState_16 : decode cX10_isState 16 = .ok (.iconst 1, 1) := by decide +kernel
theorem dX10_isState_17 : decode cX10_isState 17 = .ok (.isub, 1) := by decide +kernel
theorem dX10_isState_18 : decode cX10_isState 18 = .ok (.invokestatic 86, 3) := by decide +kernel
theorem dX10_isState_21 : decode cX10_isState 21 = .ok (.ifCond .eq 7, 3) := by decide +kernel
theorem dX10_isState_24 : decode cX10_isState 24 = .ok (.iconst 1, 1) := by decide +kernel
theorem dX10_isState_25 : decode cX10_isState 25 = .ok (.goto 4, 3) := by decide +kernel
theorem dX10_isState_28 : decode cX10_isState 28 = .ok (.iconst 0, 1) := by decide +kernel
theorem dX10_isState_29 : decode cX10_isState 29 = .ok (.ireturn, 1) := by decide +kernel
theorem dX10_at_0 : decode cX10_at 0 = .ok (.bipush 64, 2) := by decide +kernel
theorem dX10_at_2 : decode cX10_at 2 = .ok (.iload_n 0, 1) := by decide +kernel
theorem dX10_at_3 : decode cX10_at 3 = .ok (.imul, 1) := by decide +kernel
theorem dX10_at_4 : decode cX10_at 4 = .ok (.iconst 4, 1) := by decide +kernel
theorem dX10_at_5 : decode cX10_at 5 = .ok (.iload_n 1, 1) := by decide +kernel
theorem dX10_at_6 : decode cX10_at 6 = .ok (.imul, 1) := by decide +kernel
theorem dX10_at_7 : decode cX10_at 7 = .ok (.iadd, 1) := by decide +kernel
theorem dX10_at_8 : decode cX10_at 8 = .ok (.iload_n 2, 1) := by decide +kernel
theorem dX10_at_9 : decode cX10_at 9 = .ok (.iadd, 1) := by decide +kernel
theorem dX10_at_10 : decode cX10_at 10 = .ok (.ireturn, 1) := by decide +kernel
theorem dX10_newSet_0 : decode cX10_newSet 0 = .ok (.aload_n 0, 1) := by decide +kernel
theorem dX10_newSet_1 : decode cX10_newSet 1 = .ok (.getfield 7, 3) := by decide +kernel
theorem dX10_newSet_4 : decode cX10_newSet 4 = .ok (.aload_n 0, 1) := by decide +kernel
theorem dX10_newSet_5 : decode cX10_newSet 5 = .ok (.getfield 83, 3) := by decide +kernel
theorem dX10_newSet_8 : decode cX10_newSet 8 = .ok (.iload_n 1, 1) := by decide +kernel
theorem dX10_newSet_9 : decode cX10_newSet 9 = .ok (.iastore, 1) := by decide +kernel
theorem dX10_newSet_10 : decode cX10_newSet 10 = .ok (.aload_n 0, 1) := by decide +kernel
theorem dX10_newSet_11 : decode cX10_newSet 11 = .ok (.getfield 13, 3) := by decide +kernel
theorem dX10_newSet_14 : decode cX10_newSet 14 = .ok (.aload_n 0, 1) := by decide +kernel
theorem dX10_newSet_15 : decode cX10_newSet 15 = .ok (.getfield 83, 3) := by decide +kernel
theorem dX10_newSet_18 : decode cX10_newSet 18 = .ok (.iload_n 2, 1) := by decide +kernel
theorem dX10_newSet_19 : decode cX10_newSet 19 = .ok (.iastore, 1) := by decide +kernel
theorem dX10_newSet_20 : decode cX10_newSet 20 = .ok (.iconst 0, 1) := by decide +kernel
theorem dX10_newSet_21 : decode cX10_newSet 21 = .ok (.istore_n 3, 1) := by decide +kernel
theorem dX10_newSet_22 : decode cX10_newSet 22 = .ok (.iload_n 3, 1) := by decide +kernel
theorem dX10_newSet_23 : decode cX10_newSet 23 = .ok (.bipush 64, 2) := by decide +kernel
theorem dX10_newSet_25 : decode cX10_newSet 25 = .ok (.if_icmp .ge 24, 3) := by decide +kernel
theorem dX10_newSet_28 : decode cX10_newSet 28 = .ok (.aload_n 0, 1) := by decide +kernel
theorem dX10_newSet_29 : decode cX10_newSet 29 = .ok (.getfield 16, 3) := by decide +kernel
theorem dX10_newSet_32 : decode cX10_newSet 32 = .ok (.bipush 64, 2) := by decide +kernel
theorem dX10_newSet_34 : decode cX10_newSet 34 = .ok (.aload_n 0, 1) := by decide +kernel
theorem dX10_newSet_35 : decode cX10_newSet 35 = .ok (.getfield 83, 3) := by decide +kernel
theorem dX10_newSet_38 : decode cX10_newSet 38 = .ok (.imul, 1) := by decide +kernel
theorem dX10_newSet_39 : decode cX10_newSet 39 = .ok (.iload_n 3, 1) := by decide +kernel
theorem dX10_newSet_40 : decode cX10_newSet 40 = .ok (.iadd, 1) := by decide +kernel
theorem dX10_newSet_41 : decode cX10_newSet 41 = .ok (.iconst 0, 1) := by decide +kernel
theorem dX10_newSet_42 : decode cX10_newSet 42 = .ok (.iastore, 1) := by decide +kernel
theorem dX10_newSet_43 : decode cX10_newSet 43 = .ok (.iinc 3 1, 3) := by decide +kernel
theorem dX10_newSet_46 : decode cX10_newSet 46 = .ok (.goto (-24), 3) := by decide +kernel
theorem dX10_newSet_49 : decode cX10_newSet 49 = .ok (.aload_n 0, 1) := by decide +kernel
theorem dX10_newSet_50 : decode cX10_newSet 50 = .ok (.dup, 1) := by decide +kernel
theorem dX10_newSet_51 : decode cX10_newSet 51 = .ok (.getfield 83, 3) := by decide +kernel
theorem dX10_newSet_54 : decode cX10_newSet 54 = .ok (.iconst 1, 1) := by decide +kernel
theorem dX10_newSet_55 : decode cX10_newSet 55 = .ok (.iadd, 1) := by decide +kernel
theorem dX10_newSet_56 : decode cX10_newSet 56 = .ok (.putfield 83, 3) := by decide +kernel
theorem dX10_newSet_59 : decode cX10_newSet 59 = .ok (.aload_n 0, 1) := by decide +kernel
theorem dX10_newSet_60 : decode cX10_newSet 60 = .ok (.getfield 83, 3) := by decide +kernel
theorem dX10_newSet_63 : decode cX10_newSet 63 = .ok (.iconst 1, 1) := by decide +kernel
theorem dX10_newSet_64 : decode cX10_newSet 64 = .ok (.isub, 1) := by decide +kernel
theorem dX10_newSet_65 : decode cX10_newSet 65 = .ok (.ireturn, 1) := by decide +kernel
set_option maxRecDepth 20000 in
theorem ggX10_set_X10_in : GoodIn wsX10_set wsX10_in := goodIn_r _ [5] (by decide +kernel) (by decide +kernel)
set_option maxRecDepth 20000 in
theorem gX10_set_X10_in : GoodIn wsX10_set (va_wsS RX10 86 yX10_in wsX10_in) := goodIn_app (goodIn_of _ (by decide +kernel)) ggX10_set_X10_in
set_option maxRecDepth 20000 in
theorem ggX10_set_X10_newSet : GoodIn wsX10_set wsX10_newSet := goodIn_r _ [9, 10, 1, 11, 12, 13, 14, 15, 16, 17, 18, 19, 20, 21, 22, 23, 24, 25, 26, 27, 28, 29, 30, 31, 32, 33, 34, 35, 36, 37, 38, 39] (by decide +kernel) (by decide +kernel)
set_option maxRecDepth 20000 in
theorem gX10_set_X10_newSet : GoodIn wsX10_set (wsV RX10 94 RX10 yX10_newSet wsX10_newSet) := goodIn_app (goodIn_of _ (by decide +kernel)) ggX10_set_X10_newSet
theorem dX10_set_0 : decode cX10_set 0 = .ok (.iload_n 1, 1) := by decide +kernel
theorem dX10_set_1 : decode cX10_set 1 = .ok (.iconst 2, 1) := by decide +kernel
theorem dX10_set_2 : decode cX10_set 2 = .ok (.iconst 4, 1) := by decide +kernel
theorem dX10_set_3 : decode cX10_set 3 = .ok (.invokestatic 86, 3) := by decide +kernel
theorem dX10_set_6 : decode cX10_set 6 = .ok (.ifCond .eq 13, 3) := by decide +kernel
theorem dX10_set_9 : decode cX10_set 9 = .ok (.iload_n 2, 1) := by decide +kernel
theorem dX10_set_10 : decode cX10_set 10 = .ok (.iconst 1, 1) := by decide +kernel
theorem dX10_set_11 : decode cX10_set 11 = .ok (.bipush 16, 2) := by decide +kernel
theorem dX10_set_13 : decode cX10_set 13 = .ok (.invokestatic 86, 3) := by decide +kernel
theorem dX10_set_16 : decode cX10_set 16 = .ok (.ifCond .ne 6, 3) := by decide +kernel
theorem dX10_set_19 : decode cX10_set 19 = .ok (.bipush (-2), 2) := by decide +kernel
theorem dX10_set_21 : decode cX10_set 21 = .ok (.ireturn, 1) := by decide +kernel
theorem dX10_set_22 : decode cX10_set 22 = .ok (.aload_n 0, 1) := by decide +kernel
theorem dX10_set_23 : decode cX10_set 23 = .ok (.getfield 83, 3) := by decide +kernel
theorem dX10_set_26 : decode cX10_set 26 = .ok (.bipush 6, 2) := by decide +kernel
theorem dX10_set_28 : decode cX10_set 28 = .ok (.if_icmp .ne 8, 3) := by decide +kernel
theorem dX10_set_31 : decode cX10_set 31 = .ok (.bipush (-4), 2) := by decide +kernel
theorem dX10_set_33 : decode cX10_set 33 = .ok (.goto 9, 3) := by decide +kernel
theorem dX10_set_36 : decode cX10_set 36 = .ok (.aload_n 0, 1) := by decide +kernel
theorem dX10_set_37 : decode cX10_set 37 = .ok (.iload_n 1, 1) := by decide +kernel
theorem dX10_set_38 : decode cX10_set 38 = .ok (.iload_n 2, 1) := by decide +kernel
theorem dX10_set_39 : decode cX10_set 39 = .ok (.invokevirtual 94, 3) := by decide +kernel
theorem dX10_set_42 : decode cX10_set 42 = .ok (.ireturn, 1) := by decide +kernel
set_option maxRecDepth 20000 in
theorem ggX10_isWay_X10_isState : GoodIn wsX10_isWay wsX10_isState := goodIn_r _ [6, 7, 8, 9, 10, 5, 11, 12, 13, 14, 15, 16, 17, 18, 19, 20, 21, 22, 23, 24, 25, 26, 27, 28, 29, 30, 31, 32, 33, 34, 35, 36, 37, 38, 39, 40, 41, 42] (by decide +kernel) (by decide +kernel)
set_option maxRecDepth 20000 in
theorem gX10_isWay_X10_isState : GoodIn wsX10_isWay (wsV RX10 98 RX10 yX10_isState wsX10_isState) := goodIn_app (goodIn_of _ (by decide +kernel)) ggX10_isWay_X10_isState
set_option maxRecDepth 20000 in
theorem ggX10_isWay_X10_in : GoodIn wsX10_isWay wsX10_in := goodIn_r _ [15] (by decide +kernel) (by decide +kernel)
set_option maxRecDepth 20000 in
theorem gX10_isWay_X10_in : GoodIn wsX10_isWay (va_wsS RX10 86 yX10_in wsX10_in) := goodIn_app (goodIn_of _ (by decide +kernel)) ggX10_isWay_X10_in
theorem dX10_isWay_0 : decode cX10_isWay 0 = .ok (.aload_n 0, 1) := by decide +kernel
theorem dX10_isWay_1 : decode cX10_isWay 1 = .ok (.iload_n 1, 1) := by decide +kernel
theorem dX10_isWay_2 : decode cX10_isWay 2 = .ok (.iload_n 2, 1) := by decide +kernel
theorem dX10_isWay_3 : decode cX10_isWay 3 = .ok (.invokevirtual 98, 3) := by decide +kernel
theorem dX10_isWay_6 : decode cX10_isWay 6 = .ok (.ifCond .eq 33, 3) := by decide +kernel
theorem dX10_isWay_9 : decode cX10_isWay 9 = .ok (.aload_n 0, 1) := by decide +kernel
theorem dX10_isWay_10 : decode cX10_isWay 10 = .ok (.iload_n 1, 1) := by decide +kernel
theorem dX10_isWay_11 : decode cX10_isWay 11 = .ok (.iload 4, 2) := by decide +kernel
theorem dX10_isWay_13 : decode cX10_isWay 13 = .ok (.invokevirtual 98, 3) := by decide +kernel
theorem dX10_isWay_16 : decode cX10_isWay 16 = .ok (.ifCond .eq 23, 3) := by decide +kernel
theorem dX10_isWay_19 : decode cX10_isWay 19 = .ok (.iload_n 3, 1) := by decide +kernel
theorem dX10_isWay_20 : decode cX10_isWay 20 = .ok (.iconst 0, 1) := by decide +kernel
theorem dX10_isWay_21 : decode cX10_isWay 21 = .ok (.aload_n 0, 1) := by decide +kernel
theorem dX10_isWay_22 : decode cX10_isWay 22 = .ok (.getfield 7, 3) := by decide +kernel
theorem dX10_isWay_25 : decode cX10_isWay 25 = .ok (.iload_n 1, 1) := by decide +kernel
theorem dX10_isWay_26 : decode cX10_isWay 26 = .ok (.iaload, 1) := by decide +kernel
theorem dX10_isWay_27 : decode cX10_isWay 27 = .ok (.iconst 1, 1) := by decide +kernel
theorem dX10_isWay_28 : decode cX10_isWay 28 = .ok (.isub, 1) := by decide +kernel
theorem dX10_isWay_29 : decode cX10_isWay 29 = .ok (.invokestatic 86, 3) := by decide +kernel
theorem dX10_isWay_32 : decode cX10_isWay 32 = .ok (.ifCond .eq 7, 3) := by decide +kernel
theorem dX10_isWay_35 : decode cX10_isWay 35 = .ok (.iconst 1, 1) := by decide +kernel
theorem dX10_isWay_36 : decode cX10_isWay 36 = .ok (.goto 4, 3) := by decide +kernel
theorem dX10_isWay_39 : decode cX10_isWay 39 = .ok (.iconst 0, 1) := by decide +kernel
theorem dX10_isWay_40 : decode cX10_isWay 40 = .ok (.ireturn, 1) := by decide +kernel
set_option maxRecDepth 20000 in
theorem ggX10_way_X10_isWay : GoodIn wsX10_way wsX10_isWay := goodIn_r _ [6, 7, 8, 9, 10, 5, 11, 12, 13, 14, 15, 16, 17, 18, 19, 20, 24, 25, 26, 27, 28, 29, 30, 31, 32, 33, 34, 35, 36, 37, 38, 39, 40, 41, 42, 43, 44, 45, 46, 47, 48, 49, 50] (by decide +kernel) (by decide +kernel)
set_option maxRecDepth 20000 in
theorem gX10_way_X10_isWay : GoodIn wsX10_way (wsV RX10 102 RX10 yX10_isWay wsX10_isWay) := goodIn_app (goodIn_of _ (by decide +kernel)) ggX10_way_X10_isWay
set_option maxRecDepth 20000 in
theorem ggX10_way_X10_at : GoodIn wsX10_way wsX10_at := goodIn_r _ [23] (by decide +kernel) (by decide +kernel)
set_option maxRecDepth 20000 in
theorem gX10_way_X10_at : GoodIn wsX10_way (va_wsS RX10 106 yX10_at wsX10_at) := goodIn_app (goodIn_of _ (by decide +kernel)) ggX10_way_X10_at
theorem dX10_way_0 : decode cX10_way 0 = .ok (.aload_n 0, 1) := by decide +kernel
theorem dX10_way_1 : decode cX10_way 1 = .ok (.iload_n 1, 1) := by decide +kernel
theorem dX10_way_2 : decode cX10_way 2 = .ok (.iload_n 2, 1) := by decide +kernel
theorem dX10_way_3 : decode cX10_way 3 = .ok (.iload_n 3, 1) := by decide +kernel
theorem dX10_way_4 : decode cX10_way 4 = .ok (.iload 4, 2) := by decide +kernel
theorem dX10_way_6 : decode cX10_way 6 = .ok (.invokevirtual 102, 3) := by decide +kernel
theorem dX10_way_9 : decode cX10_way 9 = .ok (.ifCond .ne 6, 3) := by decide +kernel
theorem dX10_way_12 : decode cX10_way 12 = .ok (.bipush (-2), 2) := by decide +kernel
theorem dX10_way_14 : decode cX10_way 14 = .ok (.ireturn, 1) := by decide +kernel
theorem dX10_way_15 : decode cX10_way 15 = .ok (.iload_n 1, 1) := by decide +kernel
theorem dX10_way_16 : decode cX10_way 16 = .ok (.iload_n 2, 1) := by decide +kernel
theorem dX10_way_17 : decode cX10_way 17 = .ok (.iload_n 3, 1) := by decide +kernel
theorem dX10_way_18 : decode cX10_way 18 = .ok (.invokestatic 106, 3) := by decide +kernel
theorem dX10_way_21 : decode cX10_way 21 = .ok (.istore 5, 2) := by decide +kernel
theorem dX10_way_23 : decode cX10_way 23 = .ok (.aload_n 0, 1) := by decide +kernel
theorem dX10_way_24 : decode cX10_way 24 = .ok (.getfield 16, 3) := by decide +kernel
theorem dX10_way_27 : decode cX10_way 27 = .ok (.iload 5, 2) := by decide +kernel
theorem dX10_way_29 : decode cX10_way 29 = .ok (.iaload, 1) := by decide +kernel
theorem dX10_way_30 : decode cX10_way 30 = .ok (.iload 4, 2) := by decide +kernel
theorem dX10_way_32 : decode cX10_way 32 = .ok (.ishr, 1) := by decide +kernel
theorem dX10_way_33 : decode cX10_way 33 = .ok (.iconst 1, 1) := by decide +kernel
theorem dX10_way_34 : decode cX10_way 34 = .ok (.iand, 1) := by decide +kernel
theorem dX10_way_35 : decode cX10_way 35 = .ok (.iconst 1, 1) := by decide +kernel
theorem dX10_way_36 : decode cX10_way 36 = .ok (.if_icmp .ne 6, 3) := by decide +kernel
theorem dX10_way_39 : decode cX10_way 39 = .ok (.bipush (-3), 2) := by decide +kernel
theorem dX10_way_41 : decode cX10_way 41 = .ok (.ireturn, 1) := by decide +kernel
theorem dX10_way_42 : decode cX10_way 42 = .ok (.aload_n 0, 1) := by decide +kernel
theorem dX10_way_43 : decode cX10_way 43 = .ok (.getfield 16, 3) := by decide +kernel
theorem dX10_way_46 : decode cX10_way 46 = .ok (.iload 5, 2) := by decide +kernel
theorem dX10_way_48 : decode cX10_way 48 = .ok (.dup2, 1) := by decide +kernel
theorem dX10_way_49 : decode cX10_way 49 = .ok (.iaload, 1) := by decide +kernel
theorem dX10_way_50 : decode cX10_way 50 = .ok (.iconst 1, 1) := by decide +kernel
theorem dX10_way_51 : decode cX10_way 51 = .ok (.iload 4, 2) := by decide +kernel
theorem dX10_way_53 : decode cX10_way 53 = .ok (.ishl, 1) := by decide +kernel
theorem dX10_way_54 : decode cX10_way 54 = .ok (.ior, 1) := by decide +kernel
theorem dX10_way_55 : decode cX10_way 55 = .ok (.iastore, 1) := by decide +kernel
theorem dX10_way_56 : decode cX10_way 56 = .ok (.iconst 1, 1) := by decide +kernel
theorem dX10_way_57 : decode cX10_way 57 = .ok (.ireturn, 1) := by decide +kernel
set_option maxRecDepth 20000 in
theorem ggX10_unway_X10_isWay : GoodIn wsX10_unway wsX10_isWay := goodIn_r _ [6, 7, 8, 9, 10, 5, 11, 12, 13, 14, 15, 16, 17, 18, 19, 20, 24, 25, 26, 27, 28, 29, 30, 31, 32, 33, 34, 35, 36, 37, 38, 39, 40, 41, 42, 43, 44, 45, 46, 47, 48, 49, 50] (by decide +kernel) (by decide +kernel)
set_option maxRecDepth 20000 in
theorem gX10_unway_X10_isWay : GoodIn wsX10_unway (wsV RX10 102 RX10 yX10_isWay wsX10_isWay) := goodIn_app (goodIn_of _ (by decide +kernel)) ggX10_unway_X10_isWay
set_option maxRecDepth 20000 in
theorem ggX10_unway_X10_at : GoodIn wsX10_unway wsX10_at := goodIn_r _ [23] (by decide +kernel) (by decide +kernel)
set_option maxRecDepth 20000 in
theorem gX10_unway_X10_at : GoodIn wsX10_unway (va_wsS RX10 106 yX10_at wsX10_at) := goodIn_app (goodIn_of _ (by decide +kernel)) ggX10_unway_X10_at
theorem dX10_unway_0 : decode cX10_unway 0 = .ok (.aload_n 0, 1) := by decide +kernel
theorem dX10_unway_1 : decode cX10_unway 1 = .ok (.iload_n 1, 1) := by decide +kernel
theorem dX10_unway_2 : decode cX10_unway 2 = .ok (.iload_n 2, 1) := by decide +kernel
theorem dX10_unway_3 : decode cX10_unway 3 = .ok (.iload_n 3, 1) := by decide +kernel
theorem dX10_unway_4 : decode cX10_unway 4 = .ok (.iload 4, 2) := by decide +kernel
theorem dX10_unway_6 : decode cX10_unway 6 = .ok (.invokevirtual 102, 3) := by decide +kernel
theorem dX10_unway_9 : decode cX10_unway 9 = .ok (.ifCond .ne 6, 3) := by decide +kernel
theorem dX10_unway_12 : decode cX10_unway 12 = .ok (.bipush (-2), 2) := by decide +kernel
theorem dX10_unway_14 : decode cX10_unway 14 = .ok (.ireturn, 1) := by decide +kernel
theorem dX10_unway_15 : decode cX10_unway 15 = .ok (.iload_n 1, 1) := by decide +kernel
theorem dX10_unway_16 : decode cX10_unway 16 = .ok (.iload_n 2, 1) := by decide +kernel
theorem dX10_unway_17 : decode cX10_unway 17 = .ok (.iload_n 3, 1) := by decide +kernel
theorem dX10_unway_18 : decode cX10_unway 18 = .ok (.invokestatic 106, 3) := by decide +kernel
theorem dX10_unway_21 : decode cX10_unway 21 = .ok (.istore 5, 2) := by decide +kernel
theorem dX10_unway_23 : decode cX10_unway 23 = .ok (.aload_n 0, 1) := by decide +kernel
theorem dX10_unway_24 : decode cX10_unway 24 = .ok (.getfield 16, 3) := by decide +kernel
theorem dX10_unway_27 : decode cX10_unway 27 = .ok (.iload 5, 2) := by decide +kernel
theorem dX10_unway_29 : decode cX10_unway 29 = .ok (.iaload, 1) := by decide +kernel
theorem dX10_unway_30 : decode cX10_unway 30 = .ok (.iload 4, 2) := by decide +kernel
theorem dX10_unway_32 : decode cX10_unway 32 = .ok (.ishr, 1) := by decide +kernel
theorem dX10_unway_33 : decode cX10_unway 33 = .ok (.iconst 1, 1) := by decide +kernel
theorem dX10_unway_34 : decode cX10_unway 34 = .ok (.iand, 1) := by decide +kernel
theorem dX10_unway_35 : decode cX10_unway 35 = .ok (.ifCond .ne 6, 3) := by decide +kernel
theorem dX10_unway_38 : decode cX10_unway 38 = .ok (.bipush (-3), 2) := by decide +kernel
theorem dX10_unway_40 : decode cX10_unway 40 = .ok (.ireturn, 1) := by decide +kernel
theorem dX10_unway_41 : decode cX10_unway 41 = .ok (.aload_n 0, 1) := by decide +kernel
theorem dX10_unway_42 : decode cX10_unway 42 = .ok (.getfield 16, 3) := by decide +kernel
theorem dX10_unway_45 : decode cX10_unway 45 = .ok (.iload 5, 2) := by decide +kernel
theorem dX10_unway_47 : decode cX10_unway 47 = .ok (.dup2, 1) := by decide +kernel
theorem dX10_unway_48 : decode cX10_unway 48 = .ok (.iaload, 1) := by decide +kernel
theorem dX10_unway_49 : decode cX10_unway 49 = .ok (.iconst 1, 1) := by decide +kernel
theorem dX10_unway_50 : decode cX10_unway 50 = .ok (.iload 4, 2) := by decide +kernel
theorem dX10_unway_52 : decode cX10_unway 52 = .ok (.ishl, 1) := by decide +kernel
theorem dX10_unway_53 : decode cX10_unway 53 = .ok (.iconst (-1), 1) := by decide +kernel
theorem dX10_unway_54 : decode cX10_unway 54 = .ok (.ixor, 1) := by decide +kernel
theorem dX10_unway_55 : decode cX10_unway 55 = .ok (.iand, 1) := by decide +kernel
theorem dX10_unway_56 : decode cX10_unway 56 = .ok (.iastore, 1) := by decide +kernel
theorem dX10_unway_57 : decode cX10_unway 57 = .ok (.iconst 1, 1) := by decide +kernel
theorem dX10_unway_58 : decode cX10_unway 58 = .ok (.ireturn, 1) := by decide +kernel
theorem dX10_empty_0 : decode cX10_empty 0 = .ok (.aload_n 0, 1) := by decide +kernel
theorem dX10_empty_1 : decode cX10_empty 1 = .ok (.getfield 110, 3) := by decide +kernel
theorem dX10_empty_4 : decode cX10_empty 4 = .ok (.istore_n 1, 1) := by decide +kernel
theorem dX10_empty_5 : decode cX10_empty 5 = .ok (.aload_n 0, 1) := by decide +kernel
theorem dX10_empty_6 : decode cX10_empty 6 = .ok (.iconst 0, 1) := by decide +kernel
theorem dX10_empty_7 : decode cX10_empty 7 = .ok (.putfield 110, 3) := by decide +kernel
theorem dX10_empty_10 : decode cX10_empty 10 = .ok (.iload_n 1, 1) := by decide +kernel
theorem dX10_empty_11 : decode cX10_empty 11 = .ok (.ireturn, 1) := by decide +kernel
set_option maxRecDepth 20000 in
theorem ggX10_letter_X10_in : GoodIn wsX10_letter wsX10_in := goodIn_r _ [6] (by decide +kernel) (by decide +kernel)
set_option maxRecDepth 20000 in
theorem gX10_letter_X10_in : GoodIn wsX10_letter (va_wsS RX10 86 yX10_in wsX10_in) := goodIn_app (goodIn_of _ (by decide +kernel)) ggX10_letter_X10_in
theorem dX10_letter_0 : decode cX10_letter 0 = .ok (.iload_n 1, 1) := by decide +kernel
theorem dX10_letter_1 : decode cX10_letter 1 = .ok (.iconst 0, 1) := by decide +kernel
theorem dX10_letter_2 : decode cX10_letter 2 = .ok (.iconst 3, 1) := by decide +kernel
theorem dX10_letter_3 : decode cX10_letter 3 = .ok (.invokestatic 86, 3) := by decide +kernel
theorem dX10_letter_6 : decode cX10_letter 6 = .ok (.ifCond .ne 6, 3) := by decide +kernel
theorem dX10_letter_9 : decode cX10_letter 9 = .ok (.bipush (-2), 2) := by decide +kernel
theorem dX10_letter_11 : decode cX10_letter 11 = .ok (.ireturn, 1) := by decide +kernel
theorem dX10_letter_12 : decode cX10_letter 12 = .ok (.aload_n 0, 1) := by decide +kernel
theorem dX10_letter_13 : decode cX10_letter 13 = .ok (.getfield 110, 3) := by decide +kernel
theorem dX10_letter_16 : decode cX10_letter 16 = .ok (.bipush 30, 2) := by decide +kernel
theorem dX10_letter_18 : decode cX10_letter 18 = .ok (.if_icmp .ne 6, 3) := by decide +kernel
theorem dX10_letter_21 : decode cX10_letter 21 = .ok (.bipush (-4), 2) := by decide +kernel
theorem dX10_letter_23 : decode cX10_letter 23 = .ok (.ireturn, 1) := by decide +kernel
theorem dX10_letter_24 : decode cX10_letter 24 = .ok (.aload_n 0, 1) := by decide +kernel
theorem dX10_letter_25 : decode cX10_letter 25 = .ok (.getfield 19, 3) := by decide +kernel
theorem dX10_letter_28 : decode cX10_letter 28 = .ok (.aload_n 0, 1) := by decide +kernel
theorem dX10_letter_29 : decode cX10_letter 29 = .ok (.getfield 110, 3) := by decide +kernel
theorem dX10_letter_32 : decode cX10_letter 32 = .ok (.iload_n 1, 1) := by decide +kernel
theorem dX10_letter_33 : decode cX10_letter 33 = .ok (.iastore, 1) := by decide +kernel
theorem dX10_letter_34 : decode cX10_letter 34 = .ok (.aload_n 0, 1) := by decide +kernel
theorem dX10_letter_35 : decode cX10_letter 35 = .ok (.dup, 1) := by decide +kernel
theorem dX10_letter_36 : decode cX10_letter 36 = .ok (.getfield 110, 3) := by decide +kernel
theorem dX10_letter_39 : decode cX10_letter 39 = .ok (.iconst 1, 1) := by decide +kernel
theorem dX10_letter_40 : decode cX10_letter 40 = .ok (.iadd, 1) := by decide +kernel
theorem dX10_letter_41 : decode cX10_letter 41 = .ok (.putfield 110, 3) := by decide +kernel
theorem dX10_letter_44 : decode cX10_letter 44 = .ok (.aload_n 0, 1) := by decide +kernel
theorem dX10_letter_45 : decode cX10_letter 45 = .ok (.getfield 110, 3) := by decide +kernel
theorem dX10_letter_48 : decode cX10_letter 48 = .ok (.ireturn, 1) := by decide +kernel
set_option maxRecDepth 20000 in
theorem ggX10_letterAt_X10_in : GoodIn wsX10_letterAt wsX10_in := goodIn_r _ [6] (by decide +kernel) (by decide +kernel)
set_option maxRecDepth 20000 in
theorem gX10_letterAt_X10_in : GoodIn wsX10_letterAt (va_wsS RX10 86 yX10_in wsX10_in) := goodIn_app (goodIn_of _ (by decide +kernel)) ggX10_letterAt_X10_in
theorem dX10_letterAt_0 : decode cX10_letterAt 0 = .ok (.iload_n 1, 1) := by decide +kernel
theorem dX10_letterAt_1 : decode cX10_letterAt 1 = .ok (.iconst 0, 1) := by decide +kernel
theorem dX10_letterAt_2 : decode cX10_letterAt 2 = .ok (.aload_n 0, 1) := by decide +kernel
theorem dX10_letterAt_3 : decode cX10_letterAt 3 = .ok (.getfield 110, 3) := by decide +kernel
theorem dX10_letterAt_6 : decode cX10_letterAt 6 = .ok (.iconst 1, 1) := by decide +kernel
theorem dX10_letterAt_7 : decode cX10_letterAt 7 = .ok (.isub, 1) := by decide +kernel
theorem dX10_letterAt_8 : decode cX10_letterAt 8 = .ok (.invokestatic 86, 3) := by decide +kernel
theorem dX10_letterAt_11 : decode cX10_letterAt 11 = .ok (.ifCond .eq 12, 3) := by decide +kernel
theorem dX10_letterAt_14 : decode cX10_letterAt 14 = .ok (.aload_n 0, 1) := by decide +kernel
theorem dX10_letterAt_15 : decode cX10_letterAt 15 = .ok (.getfield 19, 3) := by decide +kernel
theorem dX10_letterAt_18 : decode cX10_letterAt 18 = .ok (.iload_n 1, 1) := by decide +kernel
theorem dX10_letterAt_19 : decode cX10_letterAt 19 = .ok (.iaload, 1) := by decide +kernel
theorem dX10_letterAt_20 : decode cX10_letterAt 20 = .ok (.goto 4, 3) := by decide +kernel
theorem dX10_letterAt_23 : decode cX10_letterAt 23 = .ok (.iconst (-1), 1) := by decide +kernel
theorem dX10_letterAt_24 : decode cX10_letterAt 24 = .ok (.ireturn, 1) := by decide +kernel
set_option maxRecDepth 20000 in
theorem ggX10_forbid_X10_in : GoodIn wsX10_forbid wsX10_in := goodIn_r _ [9] (by decide +kernel) (by decide +kernel)
set_option maxRecDepth 20000 in
theorem gX10_forbid_X10_in : GoodIn wsX10_forbid (va_wsS RX10 86 yX10_in wsX10_in) := goodIn_app (goodIn_of _ (by decide +kernel)) ggX10_forbid_X10_in
theorem dX10_forbid_0 : decode cX10_forbid 0 = .ok (.aload_n 0, 1) := by decide +kernel
theorem dX10_forbid_1 : decode cX10_forbid 1 = .ok (.getfield 110, 3) := by decide +kernel
theorem dX10_forbid_4 : decode cX10_forbid 4 = .ok (.iconst 1, 1) := by decide +kernel
theorem dX10_forbid_5 : decode cX10_forbid 5 = .ok (.iconst 5, 1) := by decide +kernel
theorem dX10_forbid_6 : decode cX10_forbid 6 = .ok (.invokestatic 86, 3) := by decide +kernel
theorem dX10_forbid_9 : decode cX10_forbid 9 = .ok (.ifCond .ne 6, 3) := by decide +kernel
theorem dX10_forbid_12 : decode cX10_forbid 12 = .ok (.bipush (-3), 2) := by decide +kernel
theorem dX10_forbid_14 : decode cX10_forbid 14 = .ok (.ireturn, 1) := by decide +kernel
theorem dX10_forbid_15 : decode cX10_forbid 15 = .ok (.aload_n 0, 1) := by decide +kernel
theorem dX10_forbid_16 : decode cX10_forbid 16 = .ok (.getfield 113, 3) := by decide +kernel
theorem dX10_forbid_19 : decode cX10_forbid 19 = .ok (.bipush 8, 2) := by decide +kernel
theorem dX10_forbid_21 : decode cX10_forbid 21 = .ok (.if_icmp .ne 6, 3) := by decide +kernel
theorem dX10_forbid_24 : decode cX10_forbid 24 = .ok (.bipush (-4), 2) := by decide +kernel
theorem dX10_forbid_26 : decode cX10_forbid 26 = .ok (.ireturn, 1) := by decide +kernel
theorem dX10_forbid_27 : decode cX10_forbid 27 = .ok (.aload_n 0, 1) := by decide +kernel
theorem dX10_forbid_28 : decode cX10_forbid 28 = .ok (.getfield 22, 3) := by decide +kernel
theorem dX10_forbid_31 : decode cX10_forbid 31 = .ok (.aload_n 0, 1) := by decide +kernel
theorem dX10_forbid_32 : decode cX10_forbid 32 = .ok (.getfield 113, 3) := by decide +kernel
theorem dX10_forbid_35 : decode cX10_forbid 35 = .ok (.aload_n 0, 1) := by decide +kernel
theorem dX10_forbid_36 : decode cX10_forbid 36 = .ok (.getfield 110, 3) := by decide +kernel
theorem dX10_forbid_39 : decode cX10_forbid 39 = .ok (.iastore, 1) := by decide +kernel
theorem dX10_forbid_40 : decode cX10_forbid 40 = .ok (.iconst 0, 1) := by decide +kernel
theorem dX10_forbid_41 : decode cX10_forbid 41 = .ok (.istore_n 1, 1) := by decide +kernel
theorem dX10_forbid_42 : decode cX10_forbid 42 = .ok (.iload_n 1, 1) := by decide +kernel
theorem dX10_forbid_43 : decode cX10_forbid 43 = .ok (.aload_n 0, 1) := by decide +kernel
theorem dX10_forbid_44 : decode cX10_forbid 44 = .ok (.getfield 110, 3) := by decide +kernel
theorem dX10_forbid_47 : decode cX10_forbid 47 = .ok (.if_icmp .ge 28, 3) := by decide +kernel
theorem dX10_forbid_50 : decode cX10_forbid 50 = .ok (.aload_n 0, 1) := by decide +kernel
theorem dX10_forbid_51 : decode cX10_forbid 51 = .ok (.getfield 25, 3) := by decide +kernel
theorem dX10_forbid_54 : decode cX10_forbid 54 = .ok (.iconst 5, 1) := by decide +kernel
theorem dX10_forbid_55 : decode cX10_forbid 55 = .ok (.aload_n 0, 1) := by decide +kernel
theorem dX10_forbid_56 : decode cX10_forbid 56 = .ok (.getfield 113, 3) := by decide +kernel
theorem dX10_forbid_59 : decode cX10_forbid 59 = .ok (.imul, 1) := by decide +kernel
theorem dX10_forbid_60 : decode cX10_forbid 60 = .ok (.iload_n 1, 1) := by decide +kernel
theorem dX10_forbid_61 : decode cX10_forbid 61 = .ok (.iadd, 1) := by decide +kernel
theorem dX10_forbid_62 : decode cX10_forbid 62 = .ok (.aload_n 0, 1) := by decide +kernel
theorem dX10_forbid_63 : decode cX10_forbid 63 = .ok (.getfield 19, 3) := by decide +kernel
theorem dX10_forbid_66 : decode cX10_forbid 66 = .ok (.iload_n 1, 1) := by decide +kernel
theorem dX10_forbid_67 : decode cX10_forbid 67 = .ok (.iaload, 1) := by decide +kernel
theorem dX10_forbid_68 : decode cX10_forbid 68 = .ok (.iastore, 1) := by decide +kernel
theorem dX10_forbid_69 : decode cX10_forbid 69 = .ok (.iinc 1 1, 3) := by decide +kernel
theorem dX10_forbid_72 : decode cX10_forbid 72 = .ok (.goto (-30), 3) := by decide +kernel
theorem dX10_forbid_75 : decode cX10_forbid 75 = .ok (.aload_n 0, 1) := by decide +kernel
theorem dX10_forbid_76 : decode cX10_forbid 76 = .ok (.dup, 1) := by decide +kernel
theorem dX10_forbid_77 : decode cX10_forbid 77 = .ok (.getfield 113, 3) := by decide +kernel
theorem dX10_forbid_80 : decode cX10_forbid 80 = .ok (.iconst 1, 1) := by decide +kernel
theorem dX10_forbid_81 : decode cX10_forbid 81 = .ok (.iadd, 1) := by decide +kernel
theorem dX10_forbid_82 : decode cX10_forbid 82 = .ok (.putfield 113, 3) := by decide +kernel
theorem dX10_forbid_85 : decode cX10_forbid 85 = .ok (.aload_n 0, 1) := by decide +kernel
theorem dX10_forbid_86 : decode cX10_forbid 86 = .ok (.getfield 113, 3) := by decide +kernel
theorem dX10_forbid_89 : decode cX10_forbid 89 = .ok (.ireturn, 1) := by decide +kernel
theorem dX10_unforbid_0 : decode cX10_unforbid 0 = .ok (.aload_n 0, 1) := by decide +kernel
theorem dX10_unforbid_1 : decode cX10_unforbid 1 = .ok (.getfield 113, 3) := by decide +kernel
theorem dX10_unforbid_4 : decode cX10_unforbid 4 = .ok (.istore_n 1, 1) := by decide +kernel
theorem dX10_unforbid_5 : decode cX10_unforbid 5 = .ok (.aload_n 0, 1) := by decide +kernel
theorem dX10_unforbid_6 : decode cX10_unforbid 6 = .ok (.iconst 0, 1) := by decide +kernel
theorem dX10_unforbid_7 : decode cX10_unforbid 7 = .ok (.putfield 113, 3) := by decide +kernel
theorem dX10_unforbid_10 : decode cX10_unforbid 10 = .ok (.iload_n 1, 1) := by decide +kernel
theorem dX10_unforbid_11 : decode cX10_unforbid 11 = .ok (.ireturn, 1) := by decide +kernel
theorem dX10_isBarred_0 : decode cX10_isBarred 0 = .ok (.iconst 0, 1) := by decide +kernel
theorem dX10_isBarred_1 : decode cX10_isBarred 1 = .ok (.istore_n 2, 1) := by decide +kernel
theorem dX10_isBarred_2 : decode cX10_isBarred 2 = .ok (.iconst 0, 1) := by decide +kernel
theorem dX10_isBarred_3 : decode cX10_isBarred 3 = .ok (.istore_n 3, 1) := by decide +kernel
theorem dX10_isBarred_4 : decode cX10_isBarred 4 = .ok (.iload_n 3, 1) := by decide +kernel
theorem dX10_isBarred_5 : decode cX10_isBarred 5 = .ok (.aload_n 0, 1) := by decide +kernel
theorem dX10_isBarred_6 : decode cX10_isBarred 6 = .ok (.getfield 113, 3) := by decide +kernel
theorem dX10_isBarred_9 : decode cX10_isBarred 9 = .ok (.if_icmp .ge 105, 3) := by decide +kernel
theorem dX10_isBarred_12 : decode cX10_isBarred 12 = .ok (.iconst 0, 1) := by decide +kernel
theorem dX10_isBarred_13 : decode cX10_isBarred 13 = .ok (.istore 4, 2) := by decide +kernel
theorem dX10_isBarred_15 : decode cX10_isBarred 15 = .ok (.iload 4, 2) := by decide +kernel
theorem dX10_isBarred_17 : decode cX10_isBarred 17 = .ok (.aload_n 0, 1) := by decide +kernel
theorem dX10_isBarred_18 : decode cX10_isBarred 18 = .ok (.getfield 22, 3) := by decide +kernel
theorem dX10_isBarred_21 : decode cX10_isBarred 21 = .ok (.iload_n 3, 1) := by decide +kernel
theorem dX10_isBarred_22 : decode cX10_isBarred 22 = .ok (.iaload, 1) := by decide +kernel
theorem dX10_isBarred_23 : decode cX10_isBarred 23 = .ok (.iadd, 1) := by decide +kernel
theorem dX10_isBarred_24 : decode cX10_isBarred 24 = .ok (.iload_n 1, 1) := by decide +kernel
theorem dX10_isBarred_25 : decode cX10_isBarred 25 = .ok (.if_icmp .gt 83, 3) := by decide +kernel
theorem dX10_isBarred_28 : decode cX10_isBarred 28 = .ok (.iconst 1, 1) := by decide +kernel
theorem dX10_isBarred_29 : decode cX10_isBarred 29 = .ok (.istore 5, 2) := by decide +kernel
theorem dX10_isBarred_31 : decode cX10_isBarred 31 = .ok (.iconst 0, 1) := by decide +kernel
theorem dX10_isBarred_32 : decode cX10_isBarred 32 = .ok (.istore 6, 2) := by decide +kernel
theorem dX10_isBarred_34 : decode cX10_isBarred 34 = .ok (.iload 6, 2) := by decide +kernel
theorem dX10_isBarred_36 : decode cX10_isBarred 36 = .ok (.aload_n 0, 1) := by decide +kernel
theorem dX10_isBarred_37 : decode cX10_isBarred 37 = .ok (.getfield 22, 3) := by decide +kernel
theorem dX10_isBarred_40 : decode cX10_isBarred 40 = .ok (.iload_n 3, 1) := by decide +kernel
theorem dX10_isBarred_41 : decode cX10_isBarred 41 = .ok (.iaload, 1) := by decide +kernel
theorem dX10_isBarred_42 : decode cX10_isBarred 42 = .ok (.if_icmp .ge 45, 3) := by decide +kernel
theorem dX10_isBarred_45 : decode cX10_isBarred 45 = .ok (.iload 5, 2) := by decide +kernel
theorem dX10_isBarred_47 : decode cX10_isBarred 47 = .ok (.ifCond .eq 31, 3) := by decide +kernel
theorem dX10_isBarred_50 : decode cX10_isBarred 50 = .ok (.aload_n 0, 1) := by decide +kernel
theorem dX10_isBarred_51 : decode cX10_isBarred 51 = .ok (.getfield 35, 3) := by decide +kernel
theorem dX10_isBarred_54 : decode cX10_isBarred 54 = .ok (.iload 4, 2) := by decide +kernel
theorem dX10_isBarred_56 : decode cX10_isBarred 56 = .ok (.iload 6, 2) := by decide +kernel
theorem dX10_isBarred_58 : decode cX10_isBarred 58 = .ok (.iadd, 1) := by decide +kernel
theorem dX10_isBarred_59 : decode cX10_isBarred 59 = .ok (.iaload, 1) := by decide +kernel
theorem dX10_isBarred_60 : decode cX10_isBarred 60 = .ok (.aload_n 0, 1) := by decide +kernel
theorem dX10_isBarred_61 : decode cX10_isBarred 61 = .ok (.getfield 25, 3) := by decide +kernel
theorem dX10_isBarred_64 : decode cX10_isBarred 64 = .ok (.iconst 5, 1) := by decide +kernel
theorem dX10_isBarred_65 : decode cX10_isBarred 65 = .ok (.iload_n 3, 1) := by decide +kernel
theorem dX10_isBarred_66 : decode cX10_isBarred 66 = .ok (.imul, 1) := by decide +kernel
theorem dX10_isBarred_67 : decode cX10_isBarred 67 = .ok (.iload 6, 2) := by decide +kernel
theorem dX10_isBarred_69 : decode cX10_isBarred 69 = .ok (.iadd, 1) := by decide +kernel
theorem dX10_isBarred_70 : decode cX10_isBarred 70 = .ok (.iaload, 1) := by decide +kernel
theorem dX10_isBarred_71 : decode cX10_isBarred 71 = .ok (.if_icmp .ne 7, 3) := by decide +kernel
theorem dX10_isBarred_74 : decode cX10_isBarred 74 = .ok (.iconst 1, 1) := by decide +kernel
theorem dX10_isBarred_75 : decode cX10_isBarred 75 = .ok (.goto 4, 3) := by decide +kernel
theorem dX10_isBarred_78 : decode cX10_isBarred 78 = .ok (.iconst 0, 1) := by decide +kernel
theorem dX10_isBarred_79 : decode cX10_isBarred 79 = .ok (.istore 5, 2) := by decide +kernel
theorem dX10_isBarred_81 : decode cX10_isBarred 81 = .ok (.iinc 6 1, 3) := by decide +kernel
theorem dX10_isBarred_84 : decode cX10_isBarred 84 = .ok (.goto (-50), 3) := by decide +kernel
theorem dX10_isBarred_87 : decode cX10_isBarred 87 = .ok (.iload_n 2, 1) := by decide +kernel
theorem dX10_isBarred_88 : decode cX10_isBarred 88 = .ok (.ifCond .ne 8, 3) := by decide +kernel
theorem dX10_isBarred_91 : decode cX10_isBarred 91 = .ok (.iload 5, 2) := by decide +kernel
theorem dX10_isBarred_93 : decode cX10_isBarred 93 = .ok (.ifCond .eq 7, 3) := by decide +kernel
theorem dX10_isBarred_96 : decode cX10_isBarred 96 = .ok (.iconst 1, 1) := by decide +kernel
theorem dX10_isBarred_97 : decode cX10_isBarred 97 = .ok (.goto 4, 3) := by decide +kernel
theorem dX10_isBarred_100 : decode cX10_isBarred 100 = .ok (.iconst 0, 1) := by decide +kernel
theorem dX10_isBarred_101 : decode cX10_isBarred 101 = .ok (.istore_n 2, 1) := by decide +kernel
theorem dX10_isBarred_102 : decode cX10_isBarred 102 = .ok (.iinc 4 1, 3) := by decide +kernel
theorem dX10_isBarred_105 : decode cX10_isBarred 105 = .ok (.goto (-90), 3) := by decide +kernel
theorem dX10_isBarred_108 : decode cX10_isBarred 108 = .ok (.iinc 3 1, 3) := by decide +kernel
theorem dX10_isBarred_111 : decode cX10_isBarred 111 = .ok (.goto (-107), 3) := by decide +kernel
theorem dX10_isBarred_114 : decode cX10_isBarred 114 = .ok (.iload_n 2, 1) := by decide +kernel
theorem dX10_isBarred_115 : decode cX10_isBarred 115 = .ok (.ireturn, 1) := by decide +kernel
set_option maxRecDepth 20000 in
theorem ggX10_byWords_X10_in : GoodIn wsX10_byWords wsX10_in := goodIn_r _ [10] (by decide +kernel) (by decide +kernel)
set_option maxRecDepth 20000 in
theorem gX10_byWords_X10_in : GoodIn wsX10_byWords (va_wsS RX10 86 yX10_in wsX10_in) := goodIn_app (goodIn_of _ (by decide +kernel)) ggX10_byWords_X10_in
set_option maxRecDepth 20000 in
theorem ggX10_byWords_X10_newSet : GoodIn wsX10_byWords wsX10_newSet := goodIn_r _ [14, 15, 4, 16, 6, 24, 25, 26, 27, 28, 29, 30, 31, 32, 33, 34, 35, 36, 37, 38, 39, 40, 41, 42, 43, 44, 45, 46, 47, 48, 49, 50] (by decide +kernel) (by decide +kernel)
set_option maxRecDepth 20000 in
theorem gX10_byWords_X10_newSet : GoodIn wsX10_byWords (wsV RX10 94 RX10 yX10_newSet wsX10_newSet) := goodIn_app (goodIn_of _ (by decide +kernel)) ggX10_byWords_X10_newSet
set_option maxRecDepth 20000 in
theorem ggX10_byWords_X10_isBarred : GoodIn wsX10_byWords wsX10_isBarred := goodIn_r _ [20, 1, 2, 5, 3, 24, 25, 26, 27, 28, 29, 30, 31, 32, 33, 34, 35, 36, 37, 38, 39, 40, 41, 42, 43, 44, 45, 46, 47, 48, 49, 50] (by decide +kernel) (by decide +kernel)
set_option maxRecDepth 20000 in
theorem gX10_byWords_X10_isBarred : GoodIn wsX10_byWords (wsV RX10 116 RX10 yX10_isBarred wsX10_isBarred) := goodIn_app (goodIn_of _ (by decide +kernel)) ggX10_byWords_X10_isBarred
set_option maxRecDepth 20000 in
theorem ggX10_byWords_X10_at : GoodIn wsX10_byWords wsX10_at := goodIn_r _ [23] (by decide +kernel) (by decide +kernel)
set_option maxRecDepth 20000 in
theorem gX10_byWords_X10_at : GoodIn wsX10_byWords (va_wsS RX10 106 yX10_at wsX10_at) := goodIn_app (goodIn_of _ (by decide +kernel)) ggX10_byWords_X10_at
theorem dX10_byWords_0 : decode cX10_byWords 0 = .ok (.iload_n 1, 1) := by decide +kernel
theorem dX10_byWords_1 : decode cX10_byWords 1 = .ok (.iconst 2, 1) := by decide +kernel
theorem dX10_byWords_2 : decode cX10_byWords 2 = .ok (.iconst 4, 1) := by decide +kernel
theorem dX10_byWords_3 : decode cX10_byWords 3 = .ok (.invokestatic 86, 3) := by decide +kernel
theorem dX10_byWords_6 : decode cX10_byWords 6 = .ok (.ifCond .ne 6, 3) := by decide +kernel
theorem dX10_byWords_9 : decode cX10_byWords 9 = .ok (.bipush (-2), 2) := by decide +kernel
theorem dX10_byWords_11 : decode cX10_byWords 11 = .ok (.ireturn, 1) := by decide +kernel
theorem dX10_byWords_12 : decode cX10_byWords 12 = .ok (.iconst 2, 1) := by decide +kernel
theorem dX10_byWords_13 : decode cX10_byWords 13 = .ok (.istore_n 2, 1) := by decide +kernel
theorem dX10_byWords_14 : decode cX10_byWords 14 = .ok (.iconst 0, 1) := by decide +kernel
theorem dX10_byWords_15 : decode cX10_byWords 15 = .ok (.istore_n 3, 1) := by decide +kernel
theorem dX10_byWords_16 : decode cX10_byWords 16 = .ok (.iload_n 3, 1) := by decide +kernel
theorem dX10_byWords_17 : decode cX10_byWords 17 = .ok (.aload_n 0, 1) := by decide +kernel
theorem dX10_byWords_18 : decode cX10_byWords 18 = .ok (.getfield 113, 3) := by decide +kernel
theorem dX10_byWords_21 : decode cX10_byWords 21 = .ok (.if_icmp .ge 68, 3) := by decide +kernel
theorem dX10_byWords_24 : decode cX10_byWords 24 = .ok (.aload_n 0, 1) := by decide +kernel
theorem dX10_byWords_25 : decode cX10_byWords 25 = .ok (.getfield 22, 3) := by decide +kernel
theorem dX10_byWords_28 : decode cX10_byWords 28 = .ok (.iload_n 3, 1) := by decide +kernel
theorem dX10_byWords_29 : decode cX10_byWords 29 = .ok (.iaload, 1) := by decide +kernel
theorem dX10_byWords_30 : decode cX10_byWords 30 = .ok (.iload_n 2, 1) := by decide +kernel
theorem dX10_byWords_31 : decode cX10_byWords 31 = .ok (.if_icmp .le 12, 3) := by decide +kernel
theorem dX10_byWords_34 : decode cX10_byWords 34 = .ok (.aload_n 0, 1) := by decide +kernel
theorem dX10_byWords_35 : decode cX10_byWords 35 = .ok (.getfield 22, 3) := by decide +kernel
theorem dX10_byWords_38 : decode cX10_byWords 38 = .ok (.iload_n 3, 1) := by decide +kernel
theorem dX10_byWords_39 : decode cX10_byWords 39 = .ok (.iaload, 1) := by decide +kernel
theorem dX10_byWords_40 : decode cX10_byWords 40 = .ok (.goto 4, 3) := by decide +kernel
theorem dX10_byWords_43 : decode cX10_byWords 43 = .ok (.iload_n 2, 1) := by decide +kernel
theorem dX10_byWords_44 : decode cX10_byWords 44 = .ok (.istore_n 2, 1) := by decide +kernel
theorem dX10_byWords_45 : decode cX10_byWords 45 = .ok (.iconst 0, 1) := by decide +kernel
theorem dX10_byWords_46 : decode cX10_byWords 46 = .ok (.istore 4, 2) := by decide +kernel
theorem dX10_byWords_48 : decode cX10_byWords 48 = .ok (.iload 4, 2) := by decide +kernel
theorem dX10_byWords_50 : decode cX10_byWords 50 = .ok (.aload_n 0, 1) := by decide +kernel
theorem dX10_byWords_51 : decode cX10_byWords 51 = .ok (.getfield 22, 3) := by decide +kernel
theorem dX10_byWords_54 : decode cX10_byWords 54 = .ok (.iload_n 3, 1) := by decide +kernel
theorem dX10_byWords_55 : decode cX10_byWords 55 = .ok (.iaload, 1) := by decide +kernel
theorem dX10_byWords_56 : decode cX10_byWords 56 = .ok (.if_icmp .ge 27, 3) := by decide +kernel
theorem dX10_byWords_59 : decode cX10_byWords 59 = .ok (.aload_n 0, 1) := by decide +kernel
theorem dX10_byWords_60 : decode cX10_byWords 60 = .ok (.getfield 25, 3) := by decide +kernel
theorem dX10_byWords_63 : decode cX10_byWords 63 = .ok (.iconst 5, 1) := by decide +kernel
theorem dX10_byWords_64 : decode cX10_byWords 64 = .ok (.iload_n 3, 1) := by decide +kernel
theorem dX10_byWords_65 : decode cX10_byWords 65 = .ok (.imul, 1) := by decide +kernel
theorem dX10_byWords_66 : decode cX10_byWords 66 = .ok (.iload 4, 2) := by decide +kernel
theorem dX10_byWords_68 : decode cX10_byWords 68 = .ok (.iadd, 1) := by decide +kernel
theorem dX10_byWords_69 : decode cX10_byWords 69 = .ok (.iaload, 1) := by decide +kernel
theorem dX10_byWords_70 : decode cX10_byWords 70 = .ok (.iload_n 1, 1) := by decide +kernel
theorem dX10_byWords_71 : decode cX10_byWords 71 = .ok (.if_icmp .lt 6, 3) := by decide +kernel
theorem dX10_byWords_74 : decode cX10_byWords 74 = .ok (.bipush (-2), 2) := by decide +kernel
theorem dX10_byWords_76 : decode cX10_byWords 76 = .ok (.ireturn, 1) := by decide +kernel
theorem dX10_byWords_77 : decode cX10_byWords 77 = .ok (.iinc 4 1, 3) := by decide +kernel
theorem dX10_byWords_80 : decode cX10_byWords 80 = .ok (.goto (-32), 3) := by decide +kernel
theorem dX10_byWords_83 : decode cX10_byWords 83 = .ok (.iinc 3 1, 3) := by decide +kernel
theorem dX10_byWords_86 : decode cX10_byWords 86 = .ok (.goto (-70), 3) := by decide +kernel
theorem dX10_byWords_89 : decode cX10_byWords 89 = .ok (.iconst 1, 1) := by decide +kernel
theorem dX10_byWords_90 : decode cX10_byWords 90 = .ok (.istore_n 3, 1) := by decide +kernel
theorem dX10_byWords_91 : decode cX10_byWords 91 = .ok (.iconst 1, 1) := by decide +kernel
theorem dX10_byWords_92 : decode cX10_byWords 92 = .ok (.istore 4, 2) := by decide +kernel
theorem dX10_byWords_94 : decode cX10_byWords 94 = .ok (.iload 4, 2) := by decide +kernel
theorem dX10_byWords_96 : decode cX10_byWords 96 = .ok (.iload_n 2, 1) := by decide +kernel
theorem dX10_byWords_97 : decode cX10_byWords 97 = .ok (.if_icmp .ge 13, 3) := by decide +kernel
theorem dX10_byWords_100 : decode cX10_byWords 100 = .ok (.iload_n 3, 1) := by decide +kernel
theorem dX10_byWords_101 : decode cX10_byWords 101 = .ok (.iload_n 1, 1) := by decide +kernel
theorem dX10_byWords_102 : decode cX10_byWords 102 = .ok (.imul, 1) := by decide +kernel
theorem dX10_byWords_103 : decode cX10_byWords 103 = .ok (.istore_n 3, 1) := by decide +kernel
theorem dX10_byWords_104 : decode cX10_byWords 104 = .ok (.iinc 4 1, 3) := by decide +kernel
theorem dX10_byWords_107 : decode cX10_byWords 107 = .ok (.goto (-13), 3) := by decide +kernel
theorem dX10_byWords_110 : decode cX10_byWords 110 = .ok (.iload_n 3, 1) := by decide +kernel
theorem dX10_byWords_111 : decode cX10_byWords 111 = .ok (.bipush 16, 2) := by decide +kernel
theorem dX10_byWords_113 : decode cX10_byWords 113 = .ok (.if_icmp .le 6, 3) := by decide +kernel
theorem dX10_byWords_116 : decode cX10_byWords 116 = .ok (.bipush (-3), 2) := by decide +kernel
theorem dX10_byWords_118 : decode cX10_byWords 118 = .ok (.ireturn, 1) := by decide +kernel
theorem dX10_byWords_119 : decode cX10_byWords 119 = .ok (.aload_n 0, 1) := by decide +kernel
theorem dX10_byWords_120 : decode cX10_byWords 120 = .ok (.getfield 83, 3) := by decide +kernel
theorem dX10_byWords_123 : decode cX10_byWords 123 = .ok (.bipush 6, 2) := by decide +kernel
theorem dX10_byWords_125 : decode cX10_byWords 125 = .ok (.if_icmp .ne 6, 3) := by decide +kernel
theorem dX10_byWords_128 : decode cX10_byWords 128 = .ok (.bipush (-4), 2) := by decide +kernel
theorem dX10_byWords_130 : decode cX10_byWords 130 = .ok (.ireturn, 1) := by decide +kernel
theorem dX10_byWords_131 : decode cX10_byWords 131 = .ok (.aload_n 0, 1) := by decide +kernel
theorem dX10_byWords_132 : decode cX10_byWords 132 = .ok (.iload_n 1, 1) := by decide +kernel
theorem dX10_byWords_133 : decode cX10_byWords 133 = .ok (.iload_n 3, 1) := by decide +kernel
theorem dX10_byWords_134 : decode cX10_byWords 134 = .ok (.invokevirtual 94, 3) := by decide +kernel
theorem dX10_byWords_137 : decode cX10_byWords 137 = .ok (.istore 4, 2) := by decide +kernel
theorem dX10_byWords_139 : decode cX10_byWords 139 = .ok (.iconst 0, 1) := by decide +kernel
theorem dX10_byWords_140 : decode cX10_byWords 140 = .ok (.istore 5, 2) := by decide +kernel
theorem dX10_byWords_142 : decode cX10_byWords 142 = .ok (.iload 5, 2) := by decide +kernel
theorem dX10_byWords_144 : decode cX10_byWords 144 = .ok (.iload_n 3, 1) := by decide +kernel
theorem dX10_byWords_145 : decode cX10_byWords 145 = .ok (.if_icmp .ge 109, 3) := by decide +kernel
theorem dX10_byWords_148 : decode cX10_byWords 148 = .ok (.iconst 0, 1) := by decide +kernel
theorem dX10_byWords_149 : decode cX10_byWords 149 = .ok (.istore 6, 2) := by decide +kernel
theorem dX10_byWords_151 : decode cX10_byWords 151 = .ok (.iload 6, 2) := by decide +kernel
theorem dX10_byWords_153 : decode cX10_byWords 153 = .ok (.iload_n 1, 1) := by decide +kernel
theorem dX10_byWords_154 : decode cX10_byWords 154 = .ok (.if_icmp .ge 94, 3) := by decide +kernel
theorem dX10_byWords_157 : decode cX10_byWords 157 = .ok (.iload 5, 2) := by decide +kernel
theorem dX10_byWords_159 : decode cX10_byWords 159 = .ok (.istore 7, 2) := by decide +kernel
theorem dX10_byWords_161 : decode cX10_byWords 161 = .ok (.iload_n 2, 1) := by decide +kernel
theorem dX10_byWords_162 : decode cX10_byWords 162 = .ok (.iconst 2, 1) := by decide +kernel
theorem dX10_byWords_163 : decode cX10_byWords 163 = .ok (.isub, 1) := by decide +kernel
theorem dX10_byWords_164 : decode cX10_byWords 164 = .ok (.istore 8, 2) := by decide +kernel
theorem dX10_byWords_166 : decode cX10_byWords 166 = .ok (.iload 8, 2) := by decide +kernel
theorem dX10_byWords_168 : decode cX10_byWords 168 = .ok (.ifCond .lt 26, 3) := by decide +kernel
theorem dX10_byWords_171 : decode cX10_byWords 171 = .ok (.aload_n 0, 1) := by decide +kernel
theorem dX10_byWords_172 : decode cX10_byWords 172 = .ok (.getfield 35, 3) := by decide +kernel
theorem dX10_byWords_175 : decode cX10_byWords 175 = .ok (.iload 8, 2) := by decide +kernel
theorem dX10_byWords_177 : decode cX10_byWords 177 = .ok (.iload 7, 2) := by decide +kernel
theorem dX10_byWords_179 : decode cX10_byWords 179 = .ok (.iload_n 1, 1) := by decide +kernel
theorem dX10_byWords_180 : decode cX10_byWords 180 = .ok (.irem, 1) := by decide +kernel
theorem dX10_byWords_181 : decode cX10_byWords 181 = .ok (.iastore, 1) := by decide +kernel
theorem dX10_byWords_182 : decode cX10_byWords 182 = .ok (.iload 7, 2) := by decide +kernel
theorem dX10_byWords_184 : decode cX10_byWords 184 = .ok (.iload_n 1, 1) := by decide +kernel
theorem dX10_byWords_185 : decode cX10_byWords 185 = .ok (.idiv, 1) := by decide +kernel
theorem dX10_byWords_186 : decode cX10_byWords 186 = .ok (.istore 7, 2) := by decide +kernel
theorem dX10_byWords_188 : decode cX10_byWords 188 = .ok (.iinc 8 (-1), 3) := by decide +kernel
theorem dX10_byWords_191 : decode cX10_byWords 191 = .ok (.goto (-25), 3) := by decide +kernel
theorem dX10_byWords_194 : decode cX10_byWords 194 = .ok (.aload_n 0, 1) := by decide +kernel
theorem dX10_byWords_195 : decode cX10_byWords 195 = .ok (.getfield 35, 3) := by decide +kernel
theorem dX10_byWords_198 : decode cX10_byWords 198 = .ok (.iload_n 2, 1) := by decide +kernel
theorem dX10_byWords_199 : decode cX10_byWords 199 = .ok (.iconst 1, 1) := by decide +kernel
theorem dX10_byWords_200 : decode cX10_byWords 200 = .ok (.isub, 1) := by decide +kernel
theorem dX10_byWords_201 : decode cX10_byWords 201 = .ok (.iload 6, 2) := by decide +kernel
theorem dX10_byWords_203 : decode cX10_byWords 203 = .ok (.iastore, 1) := by decide +kernel
theorem dX10_byWords_204 : decode cX10_byWords 204 = .ok (.aload_n 0, 1) := by decide +kernel
theorem dX10_byWords_205 : decode cX10_byWords 205 = .ok (.iload_n 2, 1) := by decide +kernel
theorem dX10_byWords_206 : decode cX10_byWords 206 = .ok (.invokevirtual 116, 3) := by decide +kernel
theorem dX10_byWords_209 : decode cX10_byWords 209 = .ok (.ifCond .ne 33, 3) := by decide +kernel
theorem dX10_byWords_212 : decode cX10_byWords 212 = .ok (.aload_n 0, 1) := by decide +kernel
theorem dX10_byWords_213 : decode cX10_byWords 213 = .ok (.getfield 16, 3) := by decide +kernel
theorem dX10_byWords_216 : decode cX10_byWords 216 = .ok (.iload 4, 2) := by decide +kernel
theorem dX10_byWords_218 : decode cX10_byWords 218 = .ok (.iload 5, 2) := by decide +kernel
theorem dX10_byWords_220 : decode cX10_byWords 220 = .ok (.iload 6, 2) := by decide +kernel
theorem dX10_byWords_222 : decode cX10_byWords 222 = .ok (.invokestatic 106, 3) := by decide +kernel
theorem dX10_byWords_225 : decode cX10_byWords 225 = .ok (.dup2, 1) := by decide +kernel
theorem dX10_byWords_226 : decode cX10_byWords 226 = .ok (.iaload, 1) := by decide +kernel
theorem dX10_byWords_227 : decode cX10_byWords 227 = .ok (.iconst 1, 1) := by decide +kernel
theorem dX10_byWords_228 : decode cX10_byWords 228 = .ok (.iload 5, 2) := by decide +kernel
theorem dX10_byWords_230 : decode cX10_byWords 230 = .ok (.iload_n 3, 1) := by decide +kernel
theorem dX10_byWords_231 : decode cX10_byWords 231 = .ok (.iload_n 1, 1) := by decide +kernel
theorem dX10_byWords_232 : decode cX10_byWords 232 = .ok (.idiv, 1) := by decide +kernel
theorem dX10_byWords_233 : decode cX10_byWords 233 = .ok (.irem, 1) := by decide +kernel
theorem dX10_byWords_234 : decode cX10_byWords 234 = .ok (.iload_n 1, 1) := by decide +kernel
theorem dX10_byWords_235 : decode cX10_byWords 235 = .ok (.imul, 1) := by decide +kernel
theorem dX10_byWords_236 : decode cX10_byWords 236 = .ok (.iload 6, 2) := by decide +kernel
theorem dX10_byWords_238 : decode cX10_byWords 238 = .ok (.iadd, 1) := by decide +kernel
theorem dX10_byWords_239 : decode cX10_byWords 239 = .ok (.ishl, 1) := by decide +kernel
theorem dX10_byWords_240 : decode cX10_byWords 240 = .ok (.ior, 1) := by decide +kernel
theorem dX10_byWords_241 : decode cX10_byWords 241 = .ok (.iastore, 1) := by decide +kernel
theorem dX10_byWords_242 : decode cX10_byWords 242 = .ok (.iinc 6 1, 3) := by decide +kernel
theorem dX10_byWords_245 : decode cX10_byWords 245 = .ok (.goto (-94), 3) := by decide +kernel
theorem dX10_byWords_248 : decode cX10_byWords 248 = .ok (.iinc 5 1, 3) := by decide +kernel
theorem dX10_byWords_251 : decode cX10_byWords 251 = .ok (.goto (-109), 3) := by decide +kernel
theorem dX10_byWords_254 : decode cX10_byWords 254 = .ok (.iload 4, 2) := by decide +kernel
theorem dX10_byWords_256 : decode cX10_byWords 256 = .ok (.ireturn, 1) := by decide +kernel
theorem dX10_bits_0 : decode cX10_bits 0 = .ok (.iconst 0, 1) := by decide +kernel
theorem dX10_bits_1 : decode cX10_bits 1 = .ok (.istore_n 1, 1) := by decide +kernel
theorem dX10_bits_2 : decode cX10_bits 2 = .ok (.iconst 0, 1) := by decide +kernel
theorem dX10_bits_3 : decode cX10_bits 3 = .ok (.istore_n 2, 1) := by decide +kernel
theorem dX10_bits_4 : decode cX10_bits 4 = .ok (.iload_n 2, 1) := by decide +kernel
theorem dX10_bits_5 : decode cX10_bits 5 = .ok (.bipush 16, 2) := by decide +kernel
theorem dX10_bits_7 : decode cX10_bits 7 = .ok (.if_icmp .ge 17, 3) := by decide +kernel
theorem dX10_bits_10 : decode cX10_bits 10 = .ok (.iload_n 1, 1) := by decide +kernel
theorem dX10_bits_11 : decode cX10_bits 11 = .ok (.iload_n 0, 1) := by decide +kernel
theorem dX10_bits_12 : decode cX10_bits 12 = .ok (.iload_n 2, 1) := by decide +kernel
theorem dX10_bits_13 : decode cX10_bits 13 = .ok (.ishr, 1) := by decide +kernel
theorem dX10_bits_14 : decode cX10_bits 14 = .ok (.iconst 1, 1) := by decide +kernel
theorem dX10_bits_15 : decode cX10_bits 15 = .ok (.iand, 1) := by decide +kernel
theorem dX10_bits_16 : decode cX10_bits 16 = .ok (.iadd, 1) := by decide +kernel
theorem dX10_bits_17 : decode cX10_bits 17 = .ok (.istore_n 1, 1) := by decide +kernel
theorem dX10_bits_18 : decode cX10_bits 18 = .ok (.iinc 2 1, 3) := by decide +kernel
theorem dX10_bits_21 : decode cX10_bits 21 = .ok (.goto (-17), 3) := by decide +kernel
theorem dX10_bits_24 : decode cX10_bits 24 = .ok (.iload_n 1, 1) := by decide +kernel
theorem dX10_bits_25 : decode cX10_bits 25 = .ok (.ireturn, 1) := by decide +kernel
set_option maxRecDepth 20000 in
theorem ggX10_outOf_X10_at : GoodIn wsX10_outOf wsX10_at := goodIn_r _ [6] (by decide +kernel) (by decide +kernel)
set_option maxRecDepth 20000 in
theorem gX10_outOf_X10_at : GoodIn wsX10_outOf (va_wsS RX10 106 yX10_at wsX10_at) := goodIn_app (goodIn_of _ (by decide +kernel)) ggX10_outOf_X10_at
theorem dX10_outOf_0 : decode cX10_outOf 0 = .ok (.iconst 0, 1) := by decide +kernel
theorem dX10_outOf_1 : decode cX10_outOf 1 = .ok (.istore_n 3, 1) := by decide +kernel
theorem dX10_outOf_2 : decode cX10_outOf 2 = .ok (.iconst 0, 1) := by decide +kernel
theorem dX10_outOf_3 : decode cX10_outOf 3 = .ok (.istore 4, 2) := by decide +kernel
theorem dX10_outOf_5 : decode cX10_outOf 5 = .ok (.iload 4, 2) := by decide +kernel
theorem dX10_outOf_7 : decode cX10_outOf 7 = .ok (.aload_n 0, 1) := by decide +kernel
theorem dX10_outOf_8 : decode cX10_outOf 8 = .ok (.getfield 7, 3) := by decide +kernel
theorem dX10_outOf_11 : decode cX10_outOf 11 = .ok (.iload_n 1, 1) := by decide +kernel
theorem dX10_outOf_12 : decode cX10_outOf 12 = .ok (.iaload, 1) := by decide +kernel
theorem dX10_outOf_13 : decode cX10_outOf 13 = .ok (.if_icmp .ge 24, 3) := by decide +kernel
theorem dX10_outOf_16 : decode cX10_outOf 16 = .ok (.iload_n 3, 1) := by decide +kernel
theorem dX10_outOf_17 : decode cX10_outOf 17 = .ok (.aload_n 0, 1) := by decide +kernel
theorem dX10_outOf_18 : decode cX10_outOf 18 = .ok (.getfield 16, 3) := by decide +kernel
theorem dX10_outOf_21 : decode cX10_outOf 21 = .ok (.iload_n 1, 1) := by decide +kernel
theorem dX10_outOf_22 : decode cX10_outOf 22 = .ok (.iload_n 2, 1) := by decide +kernel
theorem dX10_outOf_23 : decode cX10_outOf 23 = .ok (.iload 4, 2) := by decide +kernel
theorem dX10_outOf_25 : decode cX10_outOf 25 = .ok (.invokestatic 106, 3) := by decide +kernel
theorem dX10_outOf_28 : decode cX10_outOf 28 = .ok (.iaload, 1) := by decide +kernel
theorem dX10_outOf_29 : decode cX10_outOf 29 = .ok (.ior, 1) := by decide +kernel
theorem dX10_outOf_30 : decode cX10_outOf 30 = .ok (.istore_n 3, 1) := by decide +kernel
theorem dX10_outOf_31 : decode cX10_outOf 31 = .ok (.iinc 4 1, 3) := by decide +kernel
theorem dX10_outOf_34 : decode cX10_outOf 34 = .ok (.goto (-29), 3) := by decide +kernel
theorem dX10_outOf_37 : decode cX10_outOf 37 = .ok (.iload_n 3, 1) := by decide +kernel
theorem dX10_outOf_38 : decode cX10_outOf 38 = .ok (.ireturn, 1) := by decide +kernel
set_option maxRecDepth 20000 in
theorem ggX10_liveOf_X10_outOf : GoodIn wsX10_liveOf wsX10_outOf := goodIn_r _ [6, 7, 8, 9, 10, 5, 11, 12, 13, 14, 15, 16, 17, 18, 19, 20, 21, 22, 23, 24, 25, 26, 27, 28, 29, 30, 31, 32, 33, 34, 35, 36, 37, 38] (by decide +kernel) (by decide +kernel)
set_option maxRecDepth 20000 in
theorem gX10_liveOf_X10_outOf : GoodIn wsX10_liveOf (wsV RX10 119 RX10 yX10_outOf wsX10_outOf) := goodIn_app (goodIn_of _ (by decide +kernel)) ggX10_liveOf_X10_outOf
theorem dX10_liveOf_0 : decode cX10_liveOf 0 = .ok (.iconst 1, 1) := by decide +kernel
theorem dX10_liveOf_1 : decode cX10_liveOf 1 = .ok (.aload_n 0, 1) := by decide +kernel
theorem dX10_liveOf_2 : decode cX10_liveOf 2 = .ok (.getfield 13, 3) := by decide +kernel
theorem dX10_liveOf_5 : decode cX10_liveOf 5 = .ok (.iload_n 1, 1) := by decide +kernel
theorem dX10_liveOf_6 : decode cX10_liveOf 6 = .ok (.iaload, 1) := by decide +kernel
theorem dX10_liveOf_7 : decode cX10_liveOf 7 = .ok (.ishl, 1) := by decide +kernel
theorem dX10_liveOf_8 : decode cX10_liveOf 8 = .ok (.iconst 1, 1) := by decide +kernel
theorem dX10_liveOf_9 : decode cX10_liveOf 9 = .ok (.isub, 1) := by decide +kernel
theorem dX10_liveOf_10 : decode cX10_liveOf 10 = .ok (.istore_n 2, 1) := by decide +kernel
theorem dX10_liveOf_11 : decode cX10_liveOf 11 = .ok (.iconst 1, 1) := by decide +kernel
theorem dX10_liveOf_12 : decode cX10_liveOf 12 = .ok (.istore_n 3, 1) := by decide +kernel
theorem dX10_liveOf_13 : decode cX10_liveOf 13 = .ok (.iload_n 3, 1) := by decide +kernel
theorem dX10_liveOf_14 : decode cX10_liveOf 14 = .ok (.ifCond .eq 102, 3) := by decide +kernel
theorem dX10_liveOf_17 : decode cX10_liveOf 17 = .ok (.iconst 0, 1) := by decide +kernel
theorem dX10_liveOf_18 : decode cX10_liveOf 18 = .ok (.istore 4, 2) := by decide +kernel
theorem dX10_liveOf_20 : decode cX10_liveOf 20 = .ok (.iconst 0, 1) := by decide +kernel
theorem dX10_liveOf_21 : decode cX10_liveOf 21 = .ok (.istore 5, 2) := by decide +kernel
theorem dX10_liveOf_23 : decode cX10_liveOf 23 = .ok (.iconst 0, 1) := by decide +kernel
theorem dX10_liveOf_24 : decode cX10_liveOf 24 = .ok (.istore 6, 2) := by decide +kernel
theorem dX10_liveOf_26 : decode cX10_liveOf 26 = .ok (.iload 6, 2) := by decide +kernel
theorem dX10_liveOf_28 : decode cX10_liveOf 28 = .ok (.aload_n 0, 1) := by decide +kernel
theorem dX10_liveOf_29 : decode cX10_liveOf 29 = .ok (.getfield 13, 3) := by decide +kernel
theorem dX10_liveOf_32 : decode cX10_liveOf 32 = .ok (.iload_n 1, 1) := by decide +kernel
theorem dX10_liveOf_33 : decode cX10_liveOf 33 = .ok (.iaload, 1) := by decide +kernel
theorem dX10_liveOf_34 : decode cX10_liveOf 34 = .ok (.if_icmp .ge 55, 3) := by decide +kernel
theorem dX10_liveOf_37 : decode cX10_liveOf 37 = .ok (.iload_n 2, 1) := by decide +kernel
theorem dX10_liveOf_38 : decode cX10_liveOf 38 = .ok (.iload 6, 2) := by decide +kernel
theorem dX10_liveOf_40 : decode cX10_liveOf 40 = .ok (.ishr, 1) := by decide +kernel
theorem dX10_liveOf_41 : decode cX10_liveOf 41 = .ok (.iconst 1, 1) := by decide +kernel
theorem dX10_liveOf_42 : decode cX10_liveOf 42 = .ok (.iand, 1) := by decide +kernel
theorem dX10_liveOf_43 : decode cX10_liveOf 43 = .ok (.iconst 1, 1) := by decide +kernel
theorem dX10_liveOf_44 : decode cX10_liveOf 44 = .ok (.if_icmp .ne 39, 3) := by decide +kernel
theorem dX10_liveOf_47 : decode cX10_liveOf 47 = .ok (.aload_n 0, 1) := by decide +kernel
theorem dX10_liveOf_48 : decode cX10_liveOf 48 = .ok (.iload_n 1, 1) := by decide +kernel
theorem dX10_liveOf_49 : decode cX10_liveOf 49 = .ok (.iload 6, 2) := by decide +kernel
theorem dX10_liveOf_51 : decode cX10_liveOf 51 = .ok (.invokevirtual 119, 3) := by decide +kernel
theorem dX10_liveOf_54 : decode cX10_liveOf 54 = .ok (.iload_n 2, 1) := by decide +kernel
theorem dX10_liveOf_55 : decode cX10_liveOf 55 = .ok (.iand, 1) := by decide +kernel
theorem dX10_liveOf_56 : decode cX10_liveOf 56 = .ok (.istore 7, 2) := by decide +kernel
theorem dX10_liveOf_58 : decode cX10_liveOf 58 = .ok (.iload 4, 2) := by decide +kernel
theorem dX10_liveOf_60 : decode cX10_liveOf 60 = .ok (.iload 7, 2) := by decide +kernel
theorem dX10_liveOf_62 : decode cX10_liveOf 62 = .ok (.ior, 1) := by decide +kernel
theorem dX10_liveOf_63 : decode cX10_liveOf 63 = .ok (.istore 4, 2) := by decide +kernel
theorem dX10_liveOf_65 : decode cX10_liveOf 65 = .ok (.iload 5, 2) := by decide +kernel
theorem dX10_liveOf_67 : decode cX10_liveOf 67 = .ok (.iload 7, 2) := by decide +kernel
theorem dX10_liveOf_69 : decode cX10_liveOf 69 = .ok (.ifCond .eq 10, 3) := by decide +kernel
theorem dX10_liveOf_72 : decode cX10_liveOf 72 = .ok (.iconst 1, 1) := by decide +kernel
theorem dX10_liveOf_73 : decode cX10_liveOf 73 = .ok (.iload 6, 2) := by decide +kernel
theorem dX10_liveOf_75 : decode cX10_liveOf 75 = .ok (.ishl, 1) := by decide +kernel
theorem dX10_liveOf_76 : decode cX10_liveOf 76 = .ok (.goto 4, 3) := by decide +kernel
theorem dX10_liveOf_79 : decode cX10_liveOf 79 = .ok (.iconst 0, 1) := by decide +kernel
theorem dX10_liveOf_80 : decode cX10_liveOf 80 = .ok (.ior, 1) := by decide +kernel
theorem dX10_liveOf_81 : decode cX10_liveOf 81 = .ok (.istore 5, 2) := by decide +kernel
theorem dX10_liveOf_83 : decode cX10_liveOf 83 = .ok (.iinc 6 1, 3) := by decide +kernel
theorem dX10_liveOf_86 : decode cX10_liveOf 86 = .ok (.goto (-60), 3) := by decide +kernel
theorem dX10_liveOf_89 : decode cX10_liveOf 89 = .ok (.iload_n 2, 1) := by decide +kernel
theorem dX10_liveOf_90 : decode cX10_liveOf 90 = .ok (.iload 4, 2) := by decide +kernel
theorem dX10_liveOf_92 : decode cX10_liveOf 92 = .ok (.iand, 1) := by decide +kernel
theorem dX10_liveOf_93 : decode cX10_liveOf 93 = .ok (.iload 5, 2) := by decide +kernel
theorem dX10_liveOf_95 : decode cX10_liveOf 95 = .ok (.iand, 1) := by decide +kernel
theorem dX10_liveOf_96 : decode cX10_liveOf 96 = .ok (.istore 6, 2) := by decide +kernel
theorem dX10_liveOf_98 : decode cX10_liveOf 98 = .ok (.iload 6, 2) := by decide +kernel
theorem dX10_liveOf_100 : decode cX10_liveOf 100 = .ok (.iload_n 2, 1) := by decide +kernel
theorem dX10_liveOf_101 : decode cX10_liveOf 101 = .ok (.if_icmp .eq 7, 3) := by decide +kernel
theorem dX10_liveOf_104 : decode cX10_liveOf 104 = .ok (.iconst 1, 1) := by decide +kernel
theorem dX10_liveOf_105 : decode cX10_liveOf 105 = .ok (.goto 4, 3) := by decide +kernel
theorem dX10_liveOf_108 : decode cX10_liveOf 108 = .ok (.iconst 0, 1) := by decide +kernel
theorem dX10_liveOf_109 : decode cX10_liveOf 109 = .ok (.istore_n 3, 1) := by decide +kernel
theorem dX10_liveOf_110 : decode cX10_liveOf 110 = .ok (.iload 6, 2) := by decide +kernel
theorem dX10_liveOf_112 : decode cX10_liveOf 112 = .ok (.istore_n 2, 1) := by decide +kernel
theorem dX10_liveOf_113 : decode cX10_liveOf 113 = .ok (.goto (-100), 3) := by decide +kernel
theorem dX10_liveOf_116 : decode cX10_liveOf 116 = .ok (.iload_n 2, 1) := by decide +kernel
theorem dX10_liveOf_117 : decode cX10_liveOf 117 = .ok (.ireturn, 1) := by decide +kernel
set_option maxRecDepth 20000 in
theorem ggX10_lead_X10_at : GoodIn wsX10_lead wsX10_at := goodIn_r _ [7] (by decide +kernel) (by decide +kernel)
set_option maxRecDepth 20000 in
theorem gX10_lead_X10_at : GoodIn wsX10_lead (va_wsS RX10 106 yX10_at wsX10_at) := goodIn_app (goodIn_of _ (by decide +kernel)) ggX10_lead_X10_at
theorem dX10_lead_0 : decode cX10_lead 0 = .ok (.iconst 0, 1) := by decide +kernel
theorem dX10_lead_1 : decode cX10_lead 1 = .ok (.istore 5, 2) := by decide +kernel
theorem dX10_lead_3 : decode cX10_lead 3 = .ok (.iconst 0, 1) := by decide +kernel
theorem dX10_lead_4 : decode cX10_lead 4 = .ok (.istore 6, 2) := by decide +kernel
theorem dX10_lead_6 : decode cX10_lead 6 = .ok (.iload 6, 2) := by decide +kernel
theorem dX10_lead_8 : decode cX10_lead 8 = .ok (.aload_n 0, 1) := by decide +kernel
theorem dX10_lead_9 : decode cX10_lead 9 = .ok (.getfield 13, 3) := by decide +kernel
theorem dX10_lead_12 : decode cX10_lead 12 = .ok (.iload_n 1, 1) := by decide +kernel
theorem dX10_lead_13 : decode cX10_lead 13 = .ok (.iaload, 1) := by decide +kernel
theorem dX10_lead_14 : decode cX10_lead 14 = .ok (.if_icmp .ge 52, 3) := by decide +kernel
theorem dX10_lead_17 : decode cX10_lead 17 = .ok (.iload 4, 2) := by decide +kernel
theorem dX10_lead_19 : decode cX10_lead 19 = .ok (.aload_n 0, 1) := by decide +kernel
theorem dX10_lead_20 : decode cX10_lead 20 = .ok (.getfield 7, 3) := by decide +kernel
theorem dX10_lead_23 : decode cX10_lead 23 = .ok (.iload_n 1, 1) := by decide +kernel
theorem dX10_lead_24 : decode cX10_lead 24 = .ok (.iaload, 1) := by decide +kernel
theorem dX10_lead_25 : decode cX10_lead 25 = .ok (.if_icmp .ge 41, 3) := by decide +kernel
theorem dX10_lead_28 : decode cX10_lead 28 = .ok (.iload 5, 2) := by decide +kernel
theorem dX10_lead_30 : decode cX10_lead 30 = .ok (.iload_n 3, 1) := by decide +kernel
theorem dX10_lead_31 : decode cX10_lead 31 = .ok (.iload 6, 2) := by decide +kernel
theorem dX10_lead_33 : decode cX10_lead 33 = .ok (.ishr, 1) := by decide +kernel
theorem dX10_lead_34 : decode cX10_lead 34 = .ok (.iconst 1, 1) := by decide +kernel
theorem dX10_lead_35 : decode cX10_lead 35 = .ok (.iand, 1) := by decide +kernel
theorem dX10_lead_36 : decode cX10_lead 36 = .ok (.iconst 1, 1) := by decide +kernel
theorem dX10_lead_37 : decode cX10_lead 37 = .ok (.if_icmp .ne 19, 3) := by decide +kernel
theorem dX10_lead_40 : decode cX10_lead 40 = .ok (.aload_n 0, 1) := by decide +kernel
theorem dX10_lead_41 : decode cX10_lead 41 = .ok (.getfield 16, 3) := by decide +kernel
theorem dX10_lead_44 : decode cX10_lead 44 = .ok (.iload_n 1, 1) := by decide +kernel
theorem dX10_lead_45 : decode cX10_lead 45 = .ok (.iload 6, 2) := by decide +kernel
theorem dX10_lead_47 : decode cX10_lead 47 = .ok (.iload 4, 2) := by decide +kernel
theorem dX10_lead_49 : decode cX10_lead 49 = .ok (.invokestatic 106, 3) := by decide +kernel
theorem dX10_lead_52 : decode cX10_lead 52 = .ok (.iaload, 1) := by decide +kernel
theorem dX10_lead_53 : decode cX10_lead 53 = .ok (.goto 4, 3) := by decide +kernel
theorem dX10_lead_56 : decode cX10_lead 56 = .ok (.iconst 0, 1) := by decide +kernel
theorem dX10_lead_57 : decode cX10_lead 57 = .ok (.ior, 1) := by decide +kernel
theorem dX10_lead_58 : decode cX10_lead 58 = .ok (.istore 5, 2) := by decide +kernel
theorem dX10_lead_60 : decode cX10_lead 60 = .ok (.iinc 6 1, 3) := by decide +kernel
theorem dX10_lead_63 : decode cX10_lead 63 = .ok (.goto (-57), 3) := by decide +kernel
theorem dX10_lead_66 : decode cX10_lead 66 = .ok (.iload 5, 2) := by decide +kernel
theorem dX10_lead_68 : decode cX10_lead 68 = .ok (.iload_n 2, 1) := by decide +kernel
theorem dX10_lead_69 : decode cX10_lead 69 = .ok (.iand, 1) := by decide +kernel
theorem dX10_lead_70 : decode cX10_lead 70 = .ok (.ireturn, 1) := by decide +kernel
set_option maxRecDepth 20000 in
theorem ggX10_waysBetween_X10_at : GoodIn wsX10_waysBetween wsX10_at := goodIn_r _ [6] (by decide +kernel) (by decide +kernel)
set_option maxRecDepth 20000 in
theorem gX10_waysBetween_X10_at : GoodIn wsX10_waysBetween (va_wsS RX10 106 yX10_at wsX10_at) := goodIn_app (goodIn_of _ (by decide +kernel)) ggX10_waysBetween_X10_at
theorem dX10_waysBetween_0 : decode cX10_waysBetween 0 = .ok (.iconst 0, 1) := by decide +kernel
theorem dX10_waysBetween_1 : decode cX10_waysBetween 1 = .ok (.istore 4, 2) := by decide +kernel
theorem dX10_waysBetween_3 : decode cX10_waysBetween 3 = .ok (.iconst 0, 1) := by decide +kernel
theorem dX10_waysBetween_4 : decode cX10_waysBetween 4 = .ok (.istore 5, 2) := by decide +kernel
theorem dX10_waysBetween_6 : decode cX10_waysBetween 6 = .ok (.iload 5, 2) := by decide +kernel
theorem dX10_waysBetween_8 : decode cX10_waysBetween 8 = .ok (.aload_n 0, 1) := by decide +kernel
theorem dX10_waysBetween_9 : decode cX10_waysBetween 9 = .ok (.getfield 7, 3) := by decide +kernel
theorem dX10_waysBetween_12 : decode cX10_waysBetween 12 = .ok (.iload_n 1, 1) := by decide +kernel
theorem dX10_waysBetween_13 : decode cX10_waysBetween 13 = .ok (.iaload, 1) := by decide +kernel
theorem dX10_waysBetween_14 : decode cX10_waysBetween 14 = .ok (.if_icmp .ge 30, 3) := by decide +kernel
theorem dX10_waysBetween_17 : decode cX10_waysBetween 17 = .ok (.iload 4, 2) := by decide +kernel
theorem dX10_waysBetween_19 : decode cX10_waysBetween 19 = .ok (.aload_n 0, 1) := by decide +kernel
theorem dX10_waysBetween_20 : decode cX10_waysBetween 20 = .ok (.getfield 16, 3) := by decide +kernel
theorem dX10_waysBetween_23 : decode cX10_waysBetween 23 = .ok (.iload_n 1, 1) := by decide +kernel
theorem dX10_waysBetween_24 : decode cX10_waysBetween 24 = .ok (.iload_n 2, 1) := by decide +kernel
theorem dX10_waysBetween_25 : decode cX10_waysBetween 25 = .ok (.iload 5, 2) := by decide +kernel
theorem dX10_waysBetween_27 : decode cX10_waysBetween 27 = .ok (.invokestatic 106, 3) := by decide +kernel
theorem dX10_waysBetween_30 : decode cX10_waysBetween 30 = .ok (.iaload, 1) := by decide +kernel
theorem dX10_waysBetween_31 : decode cX10_waysBetween 31 = .ok (.iload_n 3, 1) := by decide +kernel
theorem dX10_waysBetween_32 : decode cX10_waysBetween 32 = .ok (.ishr, 1) := by decide +kernel
theorem dX10_waysBetween_33 : decode cX10_waysBetween 33 = .ok (.iconst 1, 1) := by decide +kernel
theorem dX10_waysBetween_34 : decode cX10_waysBetween 34 = .ok (.iand, 1) := by decide +kernel
theorem dX10_waysBetween_35 : decode cX10_waysBetween 35 = .ok (.iadd, 1) := by decide +kernel
theorem dX10_waysBetween_36 : decode cX10_waysBetween 36 = .ok (.istore 4, 2) := by decide +kernel
theorem dX10_waysBetween_38 : decode cX10_waysBetween 38 = .ok (.iinc 5 1, 3) := by decide +kernel
theorem dX10_waysBetween_41 : decode cX10_waysBetween 41 = .ok (.goto (-35), 3) := by decide +kernel
theorem dX10_waysBetween_44 : decode cX10_waysBetween 44 = .ok (.iload 4, 2) := by decide +kernel
theorem dX10_waysBetween_46 : decode cX10_waysBetween 46 = .ok (.ireturn, 1) := by decide +kernel
set_option maxRecDepth 20000 in
theorem ggX10_about_X10_isSet : GoodIn wsX10_about wsX10_isSet := goodIn_r _ [8, 9, 10, 11, 7, 12, 35, 36, 37, 38, 39, 40, 41, 42, 43, 44, 45, 46, 47, 48, 49, 50, 51, 52, 53, 54, 55, 56, 57, 58, 59, 60, 61] (by decide +kernel) (by decide +kernel)
set_option maxRecDepth 20000 in
theorem gX10_about_X10_isSet : GoodIn wsX10_about (wsV RX10 90 RX10 yX10_isSet wsX10_isSet) := goodIn_app (goodIn_of _ (by decide +kernel)) ggX10_about_X10_isSet
set_option maxRecDepth 20000 in
theorem ggX10_about_X10_in : GoodIn wsX10_about wsX10_in := goodIn_r _ [12] (by decide +kernel) (by decide +kernel)
set_option maxRecDepth 20000 in
theorem gX10_about_X10_in : GoodIn wsX10_about (va_wsS RX10 86 yX10_in wsX10_in) := goodIn_app (goodIn_of _ (by decide +kernel)) ggX10_about_X10_in
set_option maxRecDepth 20000 in
theorem ggX10_about_X10_liveOf : GoodIn wsX10_about wsX10_liveOf := goodIn_r _ [16, 2, 17, 18, 19, 7, 20, 1, 3, 21, 22, 23, 35, 36, 37, 38, 39, 40, 41, 42, 43, 44, 45, 46, 47, 48, 49, 50, 51, 52, 53, 54, 55, 56, 57, 58, 59, 60, 61] (by decide +kernel) (by decide +kernel)
set_option maxRecDepth 20000 in
theorem gX10_about_X10_liveOf : GoodIn wsX10_about (wsV RX10 122 RX10 yX10_liveOf wsX10_liveOf) := goodIn_app (goodIn_of _ (by decide +kernel)) ggX10_about_X10_liveOf
set_option maxRecDepth 20000 in
theorem ggX10_about_X10_bits : GoodIn wsX10_about wsX10_bits := goodIn_r _ [26] (by decide +kernel) (by decide +kernel)
set_option maxRecDepth 20000 in
theorem gX10_about_X10_bits : GoodIn wsX10_about (va_wsS RX10 126 yX10_bits wsX10_bits) := goodIn_app (goodIn_of _ (by decide +kernel)) ggX10_about_X10_bits
set_option maxRecDepth 20000 in
theorem ggX10_about_X10_partOf : GoodIn wsX10_about wsX10_partOf := goodIn_r _ [30, 31, 32, 33, 7, 34, 2, 17, 18, 19, 20, 1, 3, 21, 22, 23, 35, 36, 37, 38, 39, 40, 41, 42, 43, 44, 45, 46, 47, 48, 49, 50, 51, 52, 53, 54, 55, 56, 57, 58, 59, 60, 61] (by decide +kernel) (by decide +kernel)
set_option maxRecDepth 20000 in
theorem gX10_about_X10_partOf : GoodIn wsX10_about (wsV RX10 129 RX10 yX10_partOf wsX10_partOf) := goodIn_app (goodIn_of _ (by decide +kernel)) ggX10_about_X10_partOf
set_option maxRecDepth 20000 in
theorem ggX10_about_X10_at : GoodIn wsX10_about wsX10_at := goodIn_r _ [23] (by decide +kernel) (by decide +kernel)
set_option maxRecDepth 20000 in
theorem gX10_about_X10_at : GoodIn wsX10_about (va_wsS RX10 106 yX10_at wsX10_at) := goodIn_app (goodIn_of _ (by decide +kernel)) ggX10_about_X10_at
theorem dX10_about_0 : decode cX10_about 0 = .ok (.aload_n 0, 1) := by decide +kernel
theorem dX10_about_1 : decode cX10_about 1 = .ok (.iload_n 1, 1) := by decide +kernel
theorem dX10_about_2 : decode cX10_about 2 = .ok (.invokevirtual 90, 3) := by decide +kernel
theorem dX10_about_5 : decode cX10_about 5 = .ok (.ifCond .eq 12, 3) := by decide +kernel
theorem dX10_about_8 : decode cX10_about 8 = .ok (.iload_n 2, 1) := by decide +kernel
theorem dX10_about_9 : decode cX10_about 9 = .ok (.iconst 0, 1) := by decide +kernel
theorem dX10_about_10 : decode cX10_about 10 = .ok (.iconst 5, 1) := by decide +kernel
theorem dX10_about_11 : decode cX10_about 11 = .ok (.invokestatic 86, 3) := by decide +kernel
theorem dX10_about_14 : decode cX10_about 14 = .ok (.ifCond .ne 6, 3) := by decide +kernel
theorem dX10_about_17 : decode cX10_about 17 = .ok (.bipush (-2), 2) := by decide +kernel
theorem dX10_about_19 : decode cX10_about 19 = .ok (.ireturn, 1) := by decide +kernel
theorem dX10_about_20 : decode cX10_about 20 = .ok (.aload_n 0, 1) := by decide +kernel
theorem dX10_about_21 : decode cX10_about 21 = .ok (.iload_n 1, 1) := by decide +kernel
theorem dX10_about_22 : decode cX10_about 22 = .ok (.invokevirtual 122, 3) := by decide +kernel
theorem dX10_about_25 : decode cX10_about 25 = .ok (.istore_n 3, 1) := by decide +kernel
theorem dX10_about_26 : decode cX10_about 26 = .ok (.iconst 0, 1) := by decide +kernel
theorem dX10_about_27 : decode cX10_about 27 = .ok (.istore 4, 2) := by decide +kernel
theorem dX10_about_29 : decode cX10_about 29 = .ok (.iload_n 2, 1) := by decide +kernel
theorem dX10_about_30 : decode cX10_about 30 = .ok (.tableswitch 113 0 5 #[38, 45, 113, 52, 113, 57], 38) := by decide +kernel
theorem dX10_about_68 : decode cX10_about 68 = .ok (.aload_n 0, 1) := by decide +kernel
theorem dX10_about_69 : decode cX10_about 69 = .ok (.getfield 7, 3) := by decide +kernel
theorem dX10_about_72 : decode cX10_about 72 = .ok (.iload_n 1, 1) := by decide +kernel
theorem dX10_about_73 : decode cX10_about 73 = .ok (.iaload, 1) := by decide +kernel
theorem dX10_about_74 : decode cX10_about 74 = .ok (.ireturn, 1) := by decide +kernel
theorem dX10_about_75 : decode cX10_about 75 = .ok (.aload_n 0, 1) := by decide +kernel
theorem dX10_about_76 : decode cX10_about 76 = .ok (.getfield 13, 3) := by decide +kernel
theorem dX10_about_79 : decode cX10_about 79 = .ok (.iload_n 1, 1) := by decide +kernel
theorem dX10_about_80 : decode cX10_about 80 = .ok (.iaload, 1) := by decide +kernel
theorem dX10_about_81 : decode cX10_about 81 = .ok (.ireturn, 1) := by decide +kernel
theorem dX10_about_82 : decode cX10_about 82 = .ok (.iload_n 3, 1) := by decide +kernel
theorem dX10_about_83 : decode cX10_about 83 = .ok (.invokestatic 126, 3) := by decide +kernel
theorem dX10_about_86 : decode cX10_about 86 = .ok (.ireturn, 1) := by decide +kernel
theorem dX10_about_87 : decode cX10_about 87 = .ok (.iconst 0, 1) := by decide +kernel
theorem dX10_about_88 : decode cX10_about 88 = .ok (.istore 5, 2) := by decide +kernel
theorem dX10_about_90 : decode cX10_about 90 = .ok (.iload 5, 2) := by decide +kernel
theorem dX10_about_92 : decode cX10_about 92 = .ok (.aload_n 0, 1) := by decide +kernel
theorem dX10_about_93 : decode cX10_about 93 = .ok (.getfield 13, 3) := by decide +kernel
theorem dX10_about_96 : decode cX10_about 96 = .ok (.iload_n 1, 1) := by decide +kernel
theorem dX10_about_97 : decode cX10_about 97 = .ok (.iaload, 1) := by decide +kernel
theorem dX10_about_98 : decode cX10_about 98 = .ok (.if_icmp .ge 42, 3) := by decide +kernel
theorem dX10_about_101 : decode cX10_about 101 = .ok (.iload 4, 2) := by decide +kernel
theorem dX10_about_103 : decode cX10_about 103 = .ok (.iload_n 3, 1) := by decide +kernel
theorem dX10_about_104 : decode cX10_about 104 = .ok (.iload 5, 2) := by decide +kernel
theorem dX10_about_106 : decode cX10_about 106 = .ok (.ishr, 1) := by decide +kernel
theorem dX10_about_107 : decode cX10_about 107 = .ok (.iconst 1, 1) := by decide +kernel
theorem dX10_about_108 : decode cX10_about 108 = .ok (.iand, 1) := by decide +kernel
theorem dX10_about_109 : decode cX10_about 109 = .ok (.iconst 1, 1) := by decide +kernel
theorem dX10_about_110 : decode cX10_about 110 = .ok (.if_icmp .ne 20, 3) := by decide +kernel
theorem dX10_about_113 : decode cX10_about 113 = .ok (.aload_n 0, 1) := by decide +kernel
theorem dX10_about_114 : decode cX10_about 114 = .ok (.iload_n 1, 1) := by decide +kernel
theorem dX10_about_115 : decode cX10_about 115 = .ok (.iload_n 3, 1) := by decide +kernel
theorem dX10_about_116 : decode cX10_about 116 = .ok (.iload 5, 2) := by decide +kernel
theorem dX10_about_118 : decode cX10_about 118 = .ok (.invokevirtual 129, 3) := by decide +kernel
theorem dX10_about_121 : decode cX10_about 121 = .ok (.iload 5, 2) := by decide +kernel
theorem dX10_about_123 : decode cX10_about 123 = .ok (.if_icmp .ne 7, 3) := by decide +kernel
theorem dX10_about_126 : decode cX10_about 126 = .ok (.iconst 1, 1) := by decide +kernel
theorem dX10_about_127 : decode cX10_about 127 = .ok (.goto 4, 3) := by decide +kernel
theorem dX10_about_130 : decode cX10_about 130 = .ok (.iconst 0, 1) := by decide +kernel
theorem dX10_about_131 : decode cX10_about 131 = .ok (.iadd, 1) := by decide +kernel
theorem dX10_about_132 : decode cX10_about 132 = .ok (.istore 4, 2) := by decide +kernel
theorem dX10_about_134 : decode cX10_about 134 = .ok (.iinc 5 1, 3) := by decide +kernel
theorem dX10_about_137 : decode cX10_about 137 = .ok (.goto (-47), 3) := by decide +kernel
theorem dX10_about_140 : decode cX10_about 140 = .ok (.iload 4, 2) := by decide +kernel
theorem dX10_about_142 : decode cX10_about 142 = .ok (.ireturn, 1) := by decide +kernel
theorem dX10_about_143 : decode cX10_about 143 = .ok (.iconst 0, 1) := by decide +kernel
theorem dX10_about_144 : decode cX10_about 144 = .ok (.istore 5, 2) := by decide +kernel
theorem dX10_about_146 : decode cX10_about 146 = .ok (.iload 5, 2) := by decide +kernel
theorem dX10_about_148 : decode cX10_about 148 = .ok (.aload_n 0, 1) := by decide +kernel
theorem dX10_about_149 : decode cX10_about 149 = .ok (.getfield 13, 3) := by decide +kernel
theorem dX10_about_152 : decode cX10_about 152 = .ok (.iload_n 1, 1) := by decide +kernel
theorem dX10_about_153 : decode cX10_about 153 = .ok (.iaload, 1) := by decide +kernel
theorem dX10_about_154 : decode cX10_about 154 = .ok (.if_icmp .ge 83, 3) := by decide +kernel
theorem dX10_about_157 : decode cX10_about 157 = .ok (.iconst 0, 1) := by decide +kernel
theorem dX10_about_158 : decode cX10_about 158 = .ok (.istore 6, 2) := by decide +kernel
theorem dX10_about_160 : decode cX10_about 160 = .ok (.iload 6, 2) := by decide +kernel
theorem dX10_about_162 : decode cX10_about 162 = .ok (.aload_n 0, 1) := by decide +kernel
theorem dX10_about_163 : decode cX10_about 163 = .ok (.getfield 7, 3) := by decide +kernel
theorem dX10_about_166 : decode cX10_about 166 = .ok (.iload_n 1, 1) := by decide +kernel
theorem dX10_about_167 : decode cX10_about 167 = .ok (.iaload, 1) := by decide +kernel
theorem dX10_about_168 : decode cX10_about 168 = .ok (.if_icmp .ge 63, 3) := by decide +kernel
theorem dX10_about_171 : decode cX10_about 171 = .ok (.aload_n 0, 1) := by decide +kernel
theorem dX10_about_172 : decode cX10_about 172 = .ok (.getfield 16, 3) := by decide +kernel
theorem dX10_about_175 : decode cX10_about 175 = .ok (.iload_n 1, 1) := by decide +kernel
theorem dX10_about_176 : decode cX10_about 176 = .ok (.iload 5, 2) := by decide +kernel
theorem dX10_about_178 : decode cX10_about 178 = .ok (.iload 6, 2) := by decide +kernel
theorem dX10_about_180 : decode cX10_about 180 = .ok (.invokestatic 106, 3) := by decide +kernel
theorem dX10_about_183 : decode cX10_about 183 = .ok (.iaload, 1) := by decide +kernel
theorem dX10_about_184 : decode cX10_about 184 = .ok (.istore 7, 2) := by decide +kernel
theorem dX10_about_186 : decode cX10_about 186 = .ok (.iload 4, 2) := by decide +kernel
theorem dX10_about_188 : decode cX10_about 188 = .ok (.iload_n 2, 1) := by decide +kernel
theorem dX10_about_189 : decode cX10_about 189 = .ok (.iconst 2, 1) := by decide +kernel
theorem dX10_about_190 : decode cX10_about 190 = .ok (.if_icmp .ne 11, 3) := by decide +kernel
theorem dX10_about_193 : decode cX10_about 193 = .ok (.iload 7, 2) := by decide +kernel
theorem dX10_about_195 : decode cX10_about 195 = .ok (.invokestatic 126, 3) := by decide +kernel
theorem dX10_about_198 : decode cX10_about 198 = .ok (.goto 24, 3) := by decide +kernel
theorem dX10_about_201 : decode cX10_about 201 = .ok (.iload_n 3, 1) := by decide +kernel
theorem dX10_about_202 : decode cX10_about 202 = .ok (.iload 5, 2) := by decide +kernel
theorem dX10_about_204 : decode cX10_about 204 = .ok (.ishr, 1) := by decide +kernel
theorem dX10_about_205 : decode cX10_about 205 = .ok (.iconst 1, 1) := by decide +kernel
theorem dX10_about_206 : decode cX10_about 206 = .ok (.iand, 1) := by decide +kernel
theorem dX10_about_207 : decode cX10_about 207 = .ok (.iconst 1, 1) := by decide +kernel
theorem dX10_about_208 : decode cX10_about 208 = .ok (.if_icmp .ne 13, 3) := by decide +kernel
theorem dX10_about_211 : decode cX10_about 211 = .ok (.iload 7, 2) := by decide +kernel
theorem dX10_about_213 : decode cX10_about 213 = .ok (.iload_n 3, 1) := by decide +kernel
theorem dX10_about_214 : decode cX10_about 214 = .ok (.iand, 1) := by decide +kernel
theorem dX10_about_215 : decode cX10_about 215 = .ok (.invokestatic 126, 3) := by decide +kernel
theorem dX10_about_218 : decode cX10_about 218 = .ok (.goto 4, 3) := by decide +kernel
theorem dX10_about_221 : decode cX10_about 221 = .ok (.iconst 0, 1) := by decide +kernel
theorem dX10_about_222 : decode cX10_about 222 = .ok (.iadd, 1) := by decide +kernel
theorem dX10_about_223 : decode cX10_about 223 = .ok (.istore 4, 2) := by decide +kernel
theorem dX10_about_225 : decode cX10_about 225 = .ok (.iinc 6 1, 3) := by decide +kernel
theorem dX10_about_228 : decode cX10_about 228 = .ok (.goto (-68), 3) := by decide +kernel
theorem dX10_about_231 : decode cX10_about 231 = .ok (.iinc 5 1, 3) := by decide +kernel
theorem dX10_about_234 : decode cX10_about 234 = .ok (.goto (-88), 3) := by decide +kernel
theorem dX10_about_237 : decode cX10_about 237 = .ok (.iload 4, 2) := by decide +kernel
theorem dX10_about_239 : decode cX10_about 239 = .ok (.ireturn, 1) := by decide +kernel
set_option maxRecDepth 20000 in
theorem ggX10_live_X10_isState : GoodIn wsX10_live wsX10_isState := goodIn_r _ [5, 6, 7, 8, 9, 4, 10, 11, 12, 13, 14, 28, 29, 30, 31, 32, 33, 34, 35, 36, 37, 38, 39, 40, 41, 42, 43, 44, 45, 46, 47, 48, 49, 50, 51, 52, 53, 54] (by decide +kernel) (by decide +kernel)
set_option maxRecDepth 20000 in
theorem gX10_live_X10_isState : GoodIn wsX10_live (wsV RX10 98 RX10 yX10_isState wsX10_isState) := goodIn_app (goodIn_of _ (by decide +kernel)) ggX10_live_X10_isState
set_option maxRecDepth 20000 in
theorem ggX10_live_X10_liveOf : GoodIn wsX10_live wsX10_liveOf := goodIn_r _ [18, 6, 19, 20, 21, 4, 22, 23, 24, 25, 26, 27, 28, 29, 30, 31, 32, 33, 34, 35, 36, 37, 38, 39, 40, 41, 42, 43, 44, 45, 46, 47, 48, 49, 50, 51, 52, 53, 54] (by decide +kernel) (by decide +kernel)
set_option maxRecDepth 20000 in
theorem gX10_live_X10_liveOf : GoodIn wsX10_live (wsV RX10 122 RX10 yX10_liveOf wsX10_liveOf) := goodIn_app (goodIn_of _ (by decide +kernel)) ggX10_live_X10_liveOf
theorem dX10_live_0 : decode cX10_live 0 = .ok (.aload_n 0, 1) := by decide +kernel
theorem dX10_live_1 : decode cX10_live 1 = .ok (.iload_n 1, 1) := by decide +kernel
theorem dX10_live_2 : decode cX10_live 2 = .ok (.iload_n 2, 1) := by decide +kernel
theorem dX10_live_3 : decode cX10_live 3 = .ok (.invokevirtual 98, 3) := by decide +kernel
theorem dX10_live_6 : decode cX10_live 6 = .ok (.ifCond .eq 15, 3) := by decide +kernel
theorem dX10_live_9 : decode cX10_live 9 = .ok (.aload_n 0, 1) := by decide +kernel
theorem dX10_live_10 : decode cX10_live 10 = .ok (.iload_n 1, 1) := by decide +kernel
theorem dX10_live_11 : decode cX10_live 11 = .ok (.invokevirtual 122, 3) := by decide +kernel
theorem dX10_live_14 : decode cX10_live 14 = .ok (.iload_n 2, 1) := by decide +kernel
theorem dX10_live_15 : decode cX10_live 15 = .ok (.ishr, 1) := by decide +kernel
theorem dX10_live_16 : decode cX10_live 16 = .ok (.iconst 1, 1) := by decide +kernel
theorem dX10_live_17 : decode cX10_live 17 = .ok (.iand, 1) := by decide +kernel
theorem dX10_live_18 : decode cX10_live 18 = .ok (.goto 5, 3) := by decide +kernel
theorem dX10_live_21 : decode cX10_live 21 = .ok (.bipush (-2), 2) := by decide +kernel
theorem dX10_live_23 : decode cX10_live 23 = .ok (.ireturn, 1) := by decide +kernel
set_option maxRecDepth 20000 in
theorem ggX10_may_X10_isSet : GoodIn wsX10_may wsX10_isSet := goodIn_r _ [7, 8, 9, 10, 6, 11, 30, 31, 32, 33, 34, 35, 36, 37, 38, 39, 40, 41, 42, 43, 44, 45, 46, 47, 48, 49, 50, 51, 52, 53, 54, 55, 56] (by decide +kernel) (by decide +kernel)
set_option maxRecDepth 20000 in
theorem gX10_may_X10_isSet : GoodIn wsX10_may (wsV RX10 90 RX10 yX10_isSet wsX10_isSet) := goodIn_app (goodIn_of _ (by decide +kernel)) ggX10_may_X10_isSet
set_option maxRecDepth 20000 in
theorem ggX10_may_X10_liveOf : GoodIn wsX10_may wsX10_liveOf := goodIn_r _ [15, 16, 17, 18, 19, 6, 20, 21, 22, 23, 24, 25, 30, 31, 32, 33, 34, 35, 36, 37, 38, 39, 40, 41, 42, 43, 44, 45, 46, 47, 48, 49, 50, 51, 52, 53, 54, 55, 56] (by decide +kernel) (by decide +kernel)
set_option maxRecDepth 20000 in
theorem gX10_may_X10_liveOf : GoodIn wsX10_may (wsV RX10 122 RX10 yX10_liveOf wsX10_liveOf) := goodIn_app (goodIn_of _ (by decide +kernel)) ggX10_may_X10_liveOf
set_option maxRecDepth 20000 in
theorem ggX10_may_X10_lead : GoodIn wsX10_may wsX10_lead := goodIn_r _ [29, 16, 21, 22, 23, 24, 6, 25, 30, 31, 32, 33, 34, 35, 36, 37, 38, 39, 40, 41, 42, 43, 44, 45, 46, 47, 48, 49, 50, 51, 52, 53, 54, 55, 56] (by decide +kernel) (by decide +kernel)
set_option maxRecDepth 20000 in
theorem gX10_may_X10_lead : GoodIn wsX10_may (wsV RX10 132 RX10 yX10_lead wsX10_lead) := goodIn_app (goodIn_of _ (by decide +kernel)) ggX10_may_X10_lead
theorem dX10_may_0 : decode cX10_may 0 = .ok (.aload_n 0, 1) := by decide +kernel
theorem dX10_may_1 : decode cX10_may 1 = .ok (.iload_n 1, 1) := by decide +kernel
theorem dX10_may_2 : decode cX10_may 2 = .ok (.invokevirtual 90, 3) := by decide +kernel
theorem dX10_may_5 : decode cX10_may 5 = .ok (.ifCond .ne 6, 3) := by decide +kernel
theorem dX10_may_8 : decode cX10_may 8 = .ok (.bipush (-2), 2) := by decide +kernel
theorem dX10_may_10 : decode cX10_may 10 = .ok (.ireturn, 1) := by decide +kernel
theorem dX10_may_11 : decode cX10_may 11 = .ok (.aload_n 0, 1) := by decide +kernel
theorem dX10_may_12 : decode cX10_may 12 = .ok (.iload_n 1, 1) := by decide +kernel
theorem dX10_may_13 : decode cX10_may 13 = .ok (.invokevirtual 122, 3) := by decide +kernel
theorem dX10_may_16 : decode cX10_may 16 = .ok (.istore_n 2, 1) := by decide +kernel
theorem dX10_may_17 : decode cX10_may 17 = .ok (.iload_n 2, 1) := by decide +kernel
theorem dX10_may_18 : decode cX10_may 18 = .ok (.istore_n 3, 1) := by decide +kernel
theorem dX10_may_19 : decode cX10_may 19 = .ok (.iconst 0, 1) := by decide +kernel
theorem dX10_may_20 : decode cX10_may 20 = .ok (.istore 4, 2) := by decide +kernel
theorem dX10_may_22 : decode cX10_may 22 = .ok (.iload 4, 2) := by decide +kernel
theorem dX10_may_24 : decode cX10_may 24 = .ok (.aload_n 0, 1) := by decide +kernel
theorem dX10_may_25 : decode cX10_may 25 = .ok (.getfield 110, 3) := by decide +kernel
theorem dX10_may_28 : decode cX10_may 28 = .ok (.if_icmp .ge 24, 3) := by decide +kernel
theorem dX10_may_31 : decode cX10_may 31 = .ok (.aload_n 0, 1) := by decide +kernel
theorem dX10_may_32 : decode cX10_may 32 = .ok (.iload_n 1, 1) := by decide +kernel
theorem dX10_may_33 : decode cX10_may 33 = .ok (.iload_n 2, 1) := by decide +kernel
theorem dX10_may_34 : decode cX10_may 34 = .ok (.iload_n 3, 1) := by decide +kernel
theorem dX10_may_35 : decode cX10_may 35 = .ok (.aload_n 0, 1) := by decide +kernel
theorem dX10_may_36 : decode cX10_may 36 = .ok (.getfield 19, 3) := by decide +kernel
theorem dX10_may_39 : decode cX10_may 39 = .ok (.iload 4, 2) := by decide +kernel
theorem dX10_may_41 : decode cX10_may 41 = .ok (.iaload, 1) := by decide +kernel
theorem dX10_may_42 : decode cX10_may 42 = .ok (.invokevirtual 132, 3) := by decide +kernel
theorem dX10_may_45 : decode cX10_may 45 = .ok (.istore_n 3, 1) := by decide +kernel
theorem dX10_may_46 : decode cX10_may 46 = .ok (.iinc 4 1, 3) := by decide +kernel
theorem dX10_may_49 : decode cX10_may 49 = .ok (.goto (-27), 3) := by decide +kernel
theorem dX10_may_52 : decode cX10_may 52 = .ok (.iload_n 3, 1) := by decide +kernel
theorem dX10_may_53 : decode cX10_may 53 = .ok (.ifCond .eq 7, 3) := by decide +kernel
theorem dX10_may_56 : decode cX10_may 56 = .ok (.iconst 1, 1) := by decide +kernel
theorem dX10_may_57 : decode cX10_may 57 = .ok (.goto 4, 3) := by decide +kernel
theorem dX10_may_60 : decode cX10_may 60 = .ok (.iconst 0, 1) := by decide +kernel
theorem dX10_may_61 : decode cX10_may 61 = .ok (.ireturn, 1) := by decide +kernel
set_option maxRecDepth 20000 in
theorem ggX10_howMany_X10_isSet : GoodIn wsX10_howMany wsX10_isSet := goodIn_r _ [12, 13, 14, 15, 11, 16, 34, 35, 36, 37, 38, 39, 40, 41, 42, 43, 44, 45, 46, 47, 48, 49, 50, 51, 52, 53, 54, 55, 56, 57, 58, 59, 60] (by decide +kernel) (by decide +kernel)
set_option maxRecDepth 20000 in
theorem gX10_howMany_X10_isSet : GoodIn wsX10_howMany (wsV RX10 90 RX10 yX10_isSet wsX10_isSet) := goodIn_app (goodIn_of _ (by decide +kernel)) ggX10_howMany_X10_isSet
set_option maxRecDepth 20000 in
theorem ggX10_howMany_X10_in : GoodIn wsX10_howMany wsX10_in := goodIn_r _ [16] (by decide +kernel) (by decide +kernel)
set_option maxRecDepth 20000 in
theorem gX10_howMany_X10_in : GoodIn wsX10_howMany (va_wsS RX10 86 yX10_in wsX10_in) := goodIn_app (goodIn_of _ (by decide +kernel)) ggX10_howMany_X10_in
set_option maxRecDepth 20000 in
theorem ggX10_howMany_X10_liveOf : GoodIn wsX10_howMany wsX10_liveOf := goodIn_r _ [20, 21, 22, 23, 24, 11, 25, 4, 26, 27, 28, 29, 34, 35, 36, 37, 38, 39, 40, 41, 42, 43, 44, 45, 46, 47, 48, 49, 50, 51, 52, 53, 54, 55, 56, 57, 58, 59, 60] (by decide +kernel) (by decide +kernel)
set_option maxRecDepth 20000 in
theorem gX10_howMany_X10_liveOf : GoodIn wsX10_howMany (wsV RX10 122 RX10 yX10_liveOf wsX10_liveOf) := goodIn_app (goodIn_of _ (by decide +kernel)) ggX10_howMany_X10_liveOf
set_option maxRecDepth 20000 in
theorem ggX10_howMany_X10_lead : GoodIn wsX10_howMany wsX10_lead := goodIn_r _ [33, 21, 4, 26, 27, 28, 11, 29, 34, 35, 36, 37, 38, 39, 40, 41, 42, 43, 44, 45, 46, 47, 48, 49, 50, 51, 52, 53, 54, 55, 56, 57, 58, 59, 60] (by decide +kernel) (by decide +kernel)
set_option maxRecDepth 20000 in
theorem gX10_howMany_X10_lead : GoodIn wsX10_howMany (wsV RX10 132 RX10 yX10_lead wsX10_lead) := goodIn_app (goodIn_of _ (by decide +kernel)) ggX10_howMany_X10_lead
theorem dX10_howMany_0 : decode cX10_howMany 0 = .ok (.aload_n 0, 1) := by decide +kernel
theorem dX10_howMany_1 : decode cX10_howMany 1 = .ok (.iload_n 1, 1) := by decide +kernel
theorem dX10_howMany_2 : decode cX10_howMany 2 = .ok (.invokevirtual 90, 3) := by decide +kernel
theorem dX10_howMany_5 : decode cX10_howMany 5 = .ok (.ifCond .eq 13, 3) := by decide +kernel
theorem dX10_howMany_8 : decode cX10_howMany 8 = .ok (.iload_n 2, 1) := by decide +kernel
theorem dX10_howMany_9 : decode cX10_howMany 9 = .ok (.iconst 0, 1) := by decide +kernel
theorem dX10_howMany_10 : decode cX10_howMany 10 = .ok (.bipush 24, 2) := by decide +kernel
theorem dX10_howMany_12 : decode cX10_howMany 12 = .ok (.invokestatic 86, 3) := by decide +kernel
theorem dX10_howMany_15 : decode cX10_howMany 15 = .ok (.ifCond .ne 7, 3) := by decide +kernel
theorem dX10_howMany_18 : decode cX10_howMany 18 = .ok (.ldc2_w 136, 3) := by decide +kernel
theorem dX10_howMany_21 : decode cX10_howMany 21 = .ok (.lreturn, 1) := by decide +kernel
theorem dX10_howMany_22 : decode cX10_howMany 22 = .ok (.aload_n 0, 1) := by decide +kernel
theorem dX10_howMany_23 : decode cX10_howMany 23 = .ok (.iload_n 1, 1) := by decide +kernel
theorem dX10_howMany_24 : decode cX10_howMany 24 = .ok (.invokevirtual 122, 3) := by decide +kernel
theorem dX10_howMany_27 : decode cX10_howMany 27 = .ok (.istore_n 3, 1) := by decide +kernel
theorem dX10_howMany_28 : decode cX10_howMany 28 = .ok (.iload_n 3, 1) := by decide +kernel
theorem dX10_howMany_29 : decode cX10_howMany 29 = .ok (.ifCond .eq 7, 3) := by decide +kernel
theorem dX10_howMany_32 : decode cX10_howMany 32 = .ok (.iconst 1, 1) := by decide +kernel
theorem dX10_howMany_33 : decode cX10_howMany 33 = .ok (.goto 4, 3) := by decide +kernel
theorem dX10_howMany_36 : decode cX10_howMany 36 = .ok (.iconst 0, 1) := by decide +kernel
theorem dX10_howMany_37 : decode cX10_howMany 37 = .ok (.istore 4, 2) := by decide +kernel
theorem dX10_howMany_39 : decode cX10_howMany 39 = .ok (.aload_n 0, 1) := by decide +kernel
theorem dX10_howMany_40 : decode cX10_howMany 40 = .ok (.getfield 42, 3) := by decide +kernel
theorem dX10_howMany_43 : decode cX10_howMany 43 = .ok (.iconst 0, 1) := by decide +kernel
theorem dX10_howMany_44 : decode cX10_howMany 44 = .ok (.iload_n 3, 1) := by decide +kernel
theorem dX10_howMany_45 : decode cX10_howMany 45 = .ok (.iastore, 1) := by decide +kernel
theorem dX10_howMany_46 : decode cX10_howMany 46 = .ok (.aload_n 0, 1) := by decide +kernel
theorem dX10_howMany_47 : decode cX10_howMany 47 = .ok (.getfield 45, 3) := by decide +kernel
theorem dX10_howMany_50 : decode cX10_howMany 50 = .ok (.iconst 0, 1) := by decide +kernel
theorem dX10_howMany_51 : decode cX10_howMany 51 = .ok (.lconst 1, 1) := by decide +kernel
theorem dX10_howMany_52 : decode cX10_howMany 52 = .ok (.lastore, 1) := by decide +kernel
theorem dX10_howMany_53 : decode cX10_howMany 53 = .ok (.iconst 0, 1) := by decide +kernel
theorem dX10_howMany_54 : decode cX10_howMany 54 = .ok (.istore 5, 2) := by decide +kernel
theorem dX10_howMany_56 : decode cX10_howMany 56 = .ok (.iload 5, 2) := by decide +kernel
theorem dX10_howMany_58 : decode cX10_howMany 58 = .ok (.iload_n 2, 1) := by decide +kernel
theorem dX10_howMany_59 : decode cX10_howMany 59 = .ok (.if_icmp .ge 194, 3) := by decide +kernel
theorem dX10_howMany_62 : decode cX10_howMany 62 = .ok (.iconst 0, 1) := by decide +kernel
theorem dX10_howMany_63 : decode cX10_howMany 63 = .ok (.istore 6, 2) := by decide +kernel
theorem dX10_howMany_65 : decode cX10_howMany 65 = .ok (.iconst 0, 1) := by decide +kernel
theorem dX10_howMany_66 : decode cX10_howMany 66 = .ok (.istore 7, 2) := by decide +kernel
theorem dX10_howMany_68 : decode cX10_howMany 68 = .ok (.iload 7, 2) := by decide +kernel
theorem dX10_howMany_70 : decode cX10_howMany 70 = .ok (.iload 4, 2) := by decide +kernel
theorem dX10_howMany_72 : decode cX10_howMany 72 = .ok (.if_icmp .ge 114, 3) := by decide +kernel
theorem dX10_howMany_75 : decode cX10_howMany 75 = .ok (.iconst 0, 1) := by decide +kernel
theorem dX10_howMany_76 : decode cX10_howMany 76 = .ok (.istore 8, 2) := by decide +kernel
theorem dX10_howMany_78 : decode cX10_howMany 78 = .ok (.iload 8, 2) := by decide +kernel
theorem dX10_howMany_80 : decode cX10_howMany 80 = .ok (.aload_n 0, 1) := by decide +kernel
theorem dX10_howMany_81 : decode cX10_howMany 81 = .ok (.getfield 7, 3) := by decide +kernel
theorem dX10_howMany_84 : decode cX10_howMany 84 = .ok (.iload_n 1, 1) := by decide +kernel
theorem dX10_howMany_85 : decode cX10_howMany 85 = .ok (.iaload, 1) := by decide +kernel
theorem dX10_howMany_86 : decode cX10_howMany 86 = .ok (.if_icmp .ge 94, 3) := by decide +kernel
theorem dX10_howMany_89 : decode cX10_howMany 89 = .ok (.aload_n 0, 1) := by decide +kernel
theorem dX10_howMany_90 : decode cX10_howMany 90 = .ok (.iload_n 1, 1) := by decide +kernel
theorem dX10_howMany_91 : decode cX10_howMany 91 = .ok (.iload_n 3, 1) := by decide +kernel
theorem dX10_howMany_92 : decode cX10_howMany 92 = .ok (.aload_n 0, 1) := by decide +kernel
theorem dX10_howMany_93 : decode cX10_howMany 93 = .ok (.getfield 42, 3) := by decide +kernel
theorem dX10_howMany_96 : decode cX10_howMany 96 = .ok (.iload 7, 2) := by decide +kernel
theorem dX10_howMany_98 : decode cX10_howMany 98 = .ok (.iaload, 1) := by decide +kernel
theorem dX10_howMany_99 : decode cX10_howMany 99 = .ok (.iload 8, 2) := by decide +kernel
theorem dX10_howMany_101 : decode cX10_howMany 101 = .ok (.invokevirtual 132, 3) := by decide +kernel
theorem dX10_howMany_104 : decode cX10_howMany 104 = .ok (.istore 9, 2) := by decide +kernel
theorem dX10_howMany_106 : decode cX10_howMany 106 = .ok (.iload 9, 2) := by decide +kernel
theorem dX10_howMany_108 : decode cX10_howMany 108 = .ok (.ifCond .eq 66, 3) := by decide +kernel
theorem dX10_howMany_111 : decode cX10_howMany 111 = .ok (.aload_n 0, 1) := by decide +kernel
theorem dX10_howMany_112 : decode cX10_howMany 112 = .ok (.getfield 39, 3) := by decide +kernel
theorem dX10_howMany_115 : decode cX10_howMany 115 = .ok (.iload 9, 2) := by decide +kernel
theorem dX10_howMany_117 : decode cX10_howMany 117 = .ok (.iaload, 1) := by decide +kernel
theorem dX10_howMany_118 : decode cX10_howMany 118 = .ok (.ifCond .ne 32, 3) := by decide +kernel
theorem dX10_howMany_121 : decode cX10_howMany 121 = .ok (.aload_n 0, 1) := by decide +kernel
theorem dX10_howMany_122 : decode cX10_howMany 122 = .ok (.getfield 49, 3) := by decide +kernel
theorem dX10_howMany_125 : decode cX10_howMany 125 = .ok (.iload 6, 2) := by decide +kernel
theorem dX10_howMany_127 : decode cX10_howMany 127 = .ok (.iload 9, 2) := by decide +kernel
theorem dX10_howMany_129 : decode cX10_howMany 129 = .ok (.iastore, 1) := by decide +kernel
theorem dX10_howMany_130 : decode cX10_howMany 130 = .ok (.aload_n 0, 1) := by decide +kernel
theorem dX10_howMany_131 : decode cX10_howMany 131 = .ok (.getfield 52, 3) := by decide +kernel
theorem dX10_howMany_134 : decode cX10_howMany 134 = .ok (.iload 6, 2) := by decide +kernel
theorem dX10_howMany_136 : decode cX10_howMany 136 = .ok (.lconst 0, 1) := by decide +kernel
theorem dX10_howMany_137 : decode cX10_howMany 137 = .ok (.lastore, 1) := by decide +kernel
theorem dX10_howMany_138 : decode cX10_howMany 138 = .ok (.iinc 6 1, 3) := by decide +kernel
theorem dX10_howMany_141 : decode cX10_howMany 141 = .ok (.aload_n 0, 1) := by decide +kernel
theorem dX10_howMany_142 : decode cX10_howMany 142 = .ok (.getfield 39, 3) := by decide +kernel
theorem dX10_howMany_145 : decode cX10_howMany 145 = .ok (.iload 9, 2) := by decide +kernel
theorem dX10_howMany_147 : decode cX10_howMany 147 = .ok (.iload 6, 2) := by decide +kernel
theorem dX10_howMany_149 : decode cX10_howMany 149 = .ok (.iastore, 1) := by decide +kernel
theorem dX10_howMany_150 : decode cX10_howMany 150 = .ok (.aload_n 0, 1) := by decide +kernel
theorem dX10_howMany_151 : decode cX10_howMany 151 = .ok (.getfield 52, 3) := by decide +kernel
theorem dX10_howMany_154 : decode cX10_howMany 154 = .ok (.aload_n 0, 1) := by decide +kernel
theorem dX10_howMany_155 : decode cX10_howMany 155 = .ok (.getfield 39, 3) := by decide +kernel
theorem dX10_howMany_158 : decode cX10_howMany 158 = .ok (.iload 9, 2) := by decide +kernel
theorem dX10_howMany_160 : decode cX10_howMany 160 = .ok (.iaload, 1) := by decide +kernel
theorem dX10_howMany_161 : decode cX10_howMany 161 = .ok (.iconst 1, 1) := by decide +kernel
theorem dX10_howMany_162 : decode cX10_howMany 162 = .ok (.isub, 1) := by decide +kernel
theorem dX10_howMany_163 : decode cX10_howMany 163 = .ok (.dup2, 1) := by decide +kernel
theorem dX10_howMany_164 : decode cX10_howMany 164 = .ok (.laload, 1) := by decide +kernel
theorem dX10_howMany_165 : decode cX10_howMany 165 = .ok (.aload_n 0, 1) := by decide +kernel
theorem dX10_howMany_166 : decode cX10_howMany 166 = .ok (.getfield 45, 3) := by decide +kernel
theorem dX10_howMany_169 : decode cX10_howMany 169 = .ok (.iload 7, 2) := by decide +kernel
theorem dX10_howMany_171 : decode cX10_howMany 171 = .ok (.laload, 1) := by decide +kernel
theorem dX10_howMany_172 : decode cX10_howMany 172 = .ok (.ladd, 1) := by decide +kernel
theorem dX10_howMany_173 : decode cX10_howMany 173 = .ok (.lastore, 1) := by decide +kernel
theorem dX10_howMany_174 : decode cX10_howMany 174 = .ok (.iinc 8 1, 3) := by decide +kernel
theorem dX10_howMany_177 : decode cX10_howMany 177 = .ok (.goto (-99), 3) := by decide +kernel
theorem dX10_howMany_180 : decode cX10_howMany 180 = .ok (.iinc 7 1, 3) := by decide +kernel
theorem dX10_howMany_183 : decode cX10_howMany 183 = .ok (.goto (-115), 3) := by decide +kernel
theorem dX10_howMany_186 : decode cX10_howMany 186 = .ok (.iconst 0, 1) := by decide +kernel
theorem dX10_howMany_187 : decode cX10_howMany 187 = .ok (.istore 7, 2) := by decide +kernel
theorem dX10_howMany_189 : decode cX10_howMany 189 = .ok (.iload 7, 2) := by decide +kernel
theorem dX10_howMany_191 : decode cX10_howMany 191 = .ok (.iload 6, 2) := by decide +kernel
theorem dX10_howMany_193 : decode cX10_howMany 193 = .ok (.if_icmp .ge 50, 3) := by decide +kernel
theorem dX10_howMany_196 : decode cX10_howMany 196 = .ok (.aload_n 0, 1) := by decide +kernel
theorem dX10_howMany_197 : decode cX10_howMany 197 = .ok (.getfield 42, 3) := by decide +kernel
theorem dX10_howMany_200 : decode cX10_howMany 200 = .ok (.iload 7, 2) := by decide +kernel
theorem dX10_howMany_202 : decode cX10_howMany 202 = .ok (.aload_n 0, 1) := by decide +kernel
theorem dX10_howMany_203 : decode cX10_howMany 203 = .ok (.getfield 49, 3) := by decide +kernel
theorem dX10_howMany_206 : decode cX10_howMany 206 = .ok (.iload 7, 2) := by decide +kernel
theorem dX10_howMany_208 : decode cX10_howMany 208 = .ok (.iaload, 1) := by decide +kernel
theorem dX10_howMany_209 : decode cX10_howMany 209 = .ok (.iastore, 1) := by decide +kernel
theorem dX10_howMany_210 : decode cX10_howMany 210 = .ok (.aload_n 0, 1) := by decide +kernel
theorem dX10_howMany_211 : decode cX10_howMany 211 = .ok (.getfield 45, 3) := by decide +kernel
theorem dX10_howMany_214 : decode cX10_howMany 214 = .ok (.iload 7, 2) := by decide +kernel
theorem dX10_howMany_216 : decode cX10_howMany 216 = .ok (.aload_n 0, 1) := by decide +kernel
theorem dX10_howMany_217 : decode cX10_howMany 217 = .ok (.getfield 52, 3) := by decide +kernel
theorem dX10_howMany_220 : decode cX10_howMany 220 = .ok (.iload 7, 2) := by decide +kernel
theorem dX10_howMany_222 : decode cX10_howMany 222 = .ok (.laload, 1) := by decide +kernel
theorem dX10_howMany_223 : decode cX10_howMany 223 = .ok (.lastore, 1) := by decide +kernel
theorem dX10_howMany_224 : decode cX10_howMany 224 = .ok (.aload_n 0, 1) := by decide +kernel
theorem dX10_howMany_225 : decode cX10_howMany 225 = .ok (.getfield 39, 3) := by decide +kernel
theorem dX10_howMany_228 : decode cX10_howMany 228 = .ok (.aload_n 0, 1) := by decide +kernel
theorem dX10_howMany_229 : decode cX10_howMany 229 = .ok (.getfield 49, 3) := by decide +kernel
theorem dX10_howMany_232 : decode cX10_howMany 232 = .ok (.iload 7, 2) := by decide +kernel
theorem dX10_howMany_234 : decode cX10_howMany 234 = .ok (.iaload, 1) := by decide +kernel
theorem dX10_howMany_235 : decode cX10_howMany 235 = .ok (.iconst 0, 1) := by decide +kernel
theorem dX10_howMany_236 : decode cX10_howMany 236 = .ok (.iastore, 1) := by decide +kernel
theorem dX10_howMany_237 : decode cX10_howMany 237 = .ok (.iinc 7 1, 3) := by decide +kernel
theorem dX10_howMany_240 : decode cX10_howMany 240 = .ok (.goto (-51), 3) := by decide +kernel
theorem dX10_howMany_243 : decode cX10_howMany 243 = .ok (.iload 6, 2) := by decide +kernel
theorem dX10_howMany_245 : decode cX10_howMany 245 = .ok (.istore 4, 2) := by decide +kernel
theorem dX10_howMany_247 : decode cX10_howMany 247 = .ok (.iinc 5 1, 3) := by decide +kernel
theorem dX10_howMany_250 : decode cX10_howMany 250 = .ok (.goto (-194), 3) := by decide +kernel
theorem dX10_howMany_253 : decode cX10_howMany 253 = .ok (.lconst 0, 1) := by decide +kernel
theorem dX10_howMany_254 : decode cX10_howMany 254 = .ok (.lstore 5, 2) := by decide +kernel
theorem dX10_howMany_256 : decode cX10_howMany 256 = .ok (.iconst 0, 1) := by decide +kernel
theorem dX10_howMany_257 : decode cX10_howMany 257 = .ok (.istore 7, 2) := by decide +kernel
theorem dX10_howMany_259 : decode cX10_howMany 259 = .ok (.iload 7, 2) := by decide +kernel
theorem dX10_howMany_261 : decode cX10_howMany 261 = .ok (.iload 4, 2) := by decide +kernel
theorem dX10_howMany_263 : decode cX10_howMany 263 = .ok (.if_icmp .ge 21, 3) := by decide +kernel
theorem dX10_howMany_266 : decode cX10_howMany 266 = .ok (.lload 5, 2) := by decide +kernel
theorem dX10_howMany_268 : decode cX10_howMany 268 = .ok (.aload_n 0, 1) := by decide +kernel
theorem dX10_howMany_269 : decode cX10_howMany 269 = .ok (.getfield 45, 3) := by decide +kernel
theorem dX10_howMany_272 : decode cX10_howMany 272 = .ok (.iload 7, 2) := by decide +kernel
theorem dX10_howMany_274 : decode cX10_howMany 274 = .ok (.laload, 1) := by decide +kernel
theorem dX10_howMany_275 : decode cX10_howMany 275 = .ok (.ladd, 1) := by decide +kernel
theorem dX10_howMany_276 : decode cX10_howMany 276 = .ok (.lstore 5, 2) := by decide +kernel
theorem dX10_howMany_278 : decode cX10_howMany 278 = .ok (.iinc 7 1, 3) := by decide +kernel
theorem dX10_howMany_281 : decode cX10_howMany 281 = .ok (.goto (-22), 3) := by decide +kernel
theorem dX10_howMany_284 : decode cX10_howMany 284 = .ok (.lload 5, 2) := by decide +kernel
theorem dX10_howMany_286 : decode cX10_howMany 286 = .ok (.lreturn, 1) := by decide +kernel
set_option maxRecDepth 20000 in
theorem ggX10_sumUp_X10_waysBetween : GoodIn wsX10_sumUp wsX10_waysBetween := goodIn_r _ [8, 9, 10, 11, 12, 7, 13, 14, 15, 16, 17, 18, 19, 20, 21, 22, 23, 24, 25, 26, 27, 28, 29, 30, 31, 32, 33, 34, 35, 36, 37, 38, 39, 40] (by decide +kernel) (by decide +kernel)
set_option maxRecDepth 20000 in
theorem gX10_sumUp_X10_waysBetween : GoodIn wsX10_sumUp (wsV RX10 138 RX10 yX10_waysBetween wsX10_waysBetween) := goodIn_app (goodIn_of _ (by decide +kernel)) ggX10_sumUp_X10_waysBetween
theorem dX10_sumUp_0 : decode cX10_sumUp 0 = .ok (.iconst 0, 1) := by decide +kernel
theorem dX10_sumUp_1 : decode cX10_sumUp 1 = .ok (.istore_n 3, 1) := by decide +kernel
theorem dX10_sumUp_2 : decode cX10_sumUp 2 = .ok (.iload_n 3, 1) := by decide +kernel
theorem dX10_sumUp_3 : decode cX10_sumUp 3 = .ok (.aload_n 0, 1) := by decide +kernel
theorem dX10_sumUp_4 : decode cX10_sumUp 4 = .ok (.getfield 13, 3) := by decide +kernel
theorem dX10_sumUp_7 : decode cX10_sumUp 7 = .ok (.iload_n 1, 1) := by decide +kernel
theorem dX10_sumUp_8 : decode cX10_sumUp 8 = .ok (.iaload, 1) := by decide +kernel
theorem dX10_sumUp_9 : decode cX10_sumUp 9 = .ok (.if_icmp .ge 85, 3) := by decide +kernel
theorem dX10_sumUp_12 : decode cX10_sumUp 12 = .ok (.aload_n 0, 1) := by decide +kernel
theorem dX10_sumUp_13 : decode cX10_sumUp 13 = .ok (.getfield 58, 3) := by decide +kernel
theorem dX10_sumUp_16 : decode cX10_sumUp 16 = .ok (.iload_n 3, 1) := by decide +kernel
theorem dX10_sumUp_17 : decode cX10_sumUp 17 = .ok (.lconst 0, 1) := by decide +kernel
theorem dX10_sumUp_18 : decode cX10_sumUp 18 = .ok (.lastore, 1) := by decide +kernel
theorem dX10_sumUp_19 : decode cX10_sumUp 19 = .ok (.iconst 0, 1) := by decide +kernel
theorem dX10_sumUp_20 : decode cX10_sumUp 20 = .ok (.istore 4, 2) := by decide +kernel
theorem dX10_sumUp_22 : decode cX10_sumUp 22 = .ok (.iload 4, 2) := by decide +kernel
theorem dX10_sumUp_24 : decode cX10_sumUp 24 = .ok (.aload_n 0, 1) := by decide +kernel
theorem dX10_sumUp_25 : decode cX10_sumUp 25 = .ok (.getfield 13, 3) := by decide +kernel
theorem dX10_sumUp_28 : decode cX10_sumUp 28 = .ok (.iload_n 1, 1) := by decide +kernel
theorem dX10_sumUp_29 : decode cX10_sumUp 29 = .ok (.iaload, 1) := by decide +kernel
theorem dX10_sumUp_30 : decode cX10_sumUp 30 = .ok (.if_icmp .ge 58, 3) := by decide +kernel
theorem dX10_sumUp_33 : decode cX10_sumUp 33 = .ok (.iload_n 2, 1) := by decide +kernel
theorem dX10_sumUp_34 : decode cX10_sumUp 34 = .ok (.iload_n 3, 1) := by decide +kernel
theorem dX10_sumUp_35 : decode cX10_sumUp 35 = .ok (.ishr, 1) := by decide +kernel
theorem dX10_sumUp_36 : decode cX10_sumUp 36 = .ok (.iconst 1, 1) := by decide +kernel
theorem dX10_sumUp_37 : decode cX10_sumUp 37 = .ok (.iand, 1) := by decide +kernel
theorem dX10_sumUp_38 : decode cX10_sumUp 38 = .ok (.iconst 1, 1) := by decide +kernel
theorem dX10_sumUp_39 : decode cX10_sumUp 39 = .ok (.if_icmp .ne 49, 3) := by decide +kernel
theorem dX10_sumUp_42 : decode cX10_sumUp 42 = .ok (.aload_n 0, 1) := by decide +kernel
theorem dX10_sumUp_43 : decode cX10_sumUp 43 = .ok (.getfield 58, 3) := by decide +kernel
theorem dX10_sumUp_46 : decode cX10_sumUp 46 = .ok (.iload_n 3, 1) := by decide +kernel
theorem dX10_sumUp_47 : decode cX10_sumUp 47 = .ok (.dup2, 1) := by decide +kernel
theorem dX10_sumUp_48 : decode cX10_sumUp 48 = .ok (.laload, 1) := by decide +kernel
theorem dX10_sumUp_49 : decode cX10_sumUp 49 = .ok (.iload_n 2, 1) := by decide +kernel
theorem dX10_sumUp_50 : decode cX10_sumUp 50 = .ok (.iload 4, 2) := by decide +kernel
theorem dX10_sumUp_52 : decode cX10_sumUp 52 = .ok (.ishr, 1) := by decide +kernel
theorem dX10_sumUp_53 : decode cX10_sumUp 53 = .ok (.iconst 1, 1) := by decide +kernel
theorem dX10_sumUp_54 : decode cX10_sumUp 54 = .ok (.iand, 1) := by decide +kernel
theorem dX10_sumUp_55 : decode cX10_sumUp 55 = .ok (.iconst 1, 1) := by decide +kernel
theorem dX10_sumUp_56 : decode cX10_sumUp 56 = .ok (.if_icmp .ne 23, 3) := by decide +kernel
theorem dX10_sumUp_59 : decode cX10_sumUp 59 = .ok (.aload_n 0, 1) := by decide +kernel
theorem dX10_sumUp_60 : decode cX10_sumUp 60 = .ok (.iload_n 1, 1) := by decide +kernel
theorem dX10_sumUp_61 : decode cX10_sumUp 61 = .ok (.iload_n 3, 1) := by decide +kernel
theorem dX10_sumUp_62 : decode cX10_sumUp 62 = .ok (.iload 4, 2) := by decide +kernel
theorem dX10_sumUp_64 : decode cX10_sumUp 64 = .ok (.invokevirtual 138, 3) := by decide +kernel
theorem dX10_sumUp_67 : decode cX10_sumUp 67 = .ok (.i2l, 1) := by decide +kernel
theorem dX10_sumUp_68 : decode cX10_sumUp 68 = .ok (.aload_n 0, 1) := by decide +kernel
theorem dX10_sumUp_69 : decode cX10_sumUp 69 = .ok (.getfield 55, 3) := by decide +kernel
theorem dX10_sumUp_72 : decode cX10_sumUp 72 = .ok (.iload 4, 2) := by decide +kernel
theorem dX10_sumUp_74 : decode cX10_sumUp 74 = .ok (.laload, 1) := by decide +kernel
theorem dX10_sumUp_75 : decode cX10_sumUp 75 = .ok (.lmul, 1) := by decide +kernel
theorem dX10_sumUp_76 : decode cX10_sumUp 76 = .ok (.goto 4, 3) := by decide +kernel
theorem dX10_sumUp_79 : decode cX10_sumUp 79 = .ok (.lconst 0, 1) := by decide +kernel
theorem dX10_sumUp_80 : decode cX10_sumUp 80 = .ok (.ladd, 1) := by decide +kernel
theorem dX10_sumUp_81 : decode cX10_sumUp 81 = .ok (.lastore, 1) := by decide +kernel
theorem dX10_sumUp_82 : decode cX10_sumUp 82 = .ok (.iinc 4 1, 3) := by decide +kernel
theorem dX10_sumUp_85 : decode cX10_sumUp 85 = .ok (.goto (-63), 3) := by decide +kernel
theorem dX10_sumUp_88 : decode cX10_sumUp 88 = .ok (.iinc 3 1, 3) := by decide +kernel
theorem dX10_sumUp_91 : decode cX10_sumUp 91 = .ok (.goto (-89), 3) := by decide +kernel
theorem dX10_sumUp_94 : decode cX10_sumUp 94 = .ok (.return_, 1) := by decide +kernel
theorem dX10_goOn_0 : decode cX10_goOn 0 = .ok (.iconst 0, 1) := by decide +kernel
theorem dX10_goOn_1 : decode cX10_goOn 1 = .ok (.istore_n 2, 1) := by decide +kernel
theorem dX10_goOn_2 : decode cX10_goOn 2 = .ok (.iload_n 2, 1) := by decide +kernel
theorem dX10_goOn_3 : decode cX10_goOn 3 = .ok (.aload_n 0, 1) := by decide +kernel
theorem dX10_goOn_4 : decode cX10_goOn 4 = .ok (.getfield 13, 3) := by decide +kernel
theorem dX10_goOn_7 : decode cX10_goOn 7 = .ok (.iload_n 1, 1) := by decide +kernel
theorem dX10_goOn_8 : decode cX10_goOn 8 = .ok (.iaload, 1) := by decide +kernel
theorem dX10_goOn_9 : decode cX10_goOn 9 = .ok (.if_icmp .ge 21, 3) := by decide +kernel
theorem dX10_goOn_12 : decode cX10_goOn 12 = .ok (.aload_n 0, 1) := by decide +kernel
theorem dX10_goOn_13 : decode cX10_goOn 13 = .ok (.getfield 55, 3) := by decide +kernel
theorem dX10_goOn_16 : decode cX10_goOn 16 = .ok (.iload_n 2, 1) := by decide +kernel
theorem dX10_goOn_17 : decode cX10_goOn 17 = .ok (.aload_n 0, 1) := by decide +kernel
theorem dX10_goOn_18 : decode cX10_goOn 18 = .ok (.getfield 58, 3) := by decide +kernel
theorem dX10_goOn_21 : decode cX10_goOn 21 = .ok (.iload_n 2, 1) := by decide +kernel
theorem dX10_goOn_22 : decode cX10_goOn 22 = .ok (.laload, 1) := by decide +kernel
theorem dX10_goOn_23 : decode cX10_goOn 23 = .ok (.lastore, 1) := by decide +kernel
theorem dX10_goOn_24 : decode cX10_goOn 24 = .ok (.iinc 2 1, 3) := by decide +kernel
theorem dX10_goOn_27 : decode cX10_goOn 27 = .ok (.goto (-25), 3) := by decide +kernel
theorem dX10_goOn_30 : decode cX10_goOn 30 = .ok (.return_, 1) := by decide +kernel
set_option maxRecDepth 20000 in
theorem ggX10_loops_X10_isSet : GoodIn wsX10_loops wsX10_isSet := goodIn_r _ [8, 9, 10, 11, 7, 12, 39, 40, 41, 42, 43, 44, 45, 46, 47, 48, 49, 50, 51, 52, 53, 54, 55, 56, 57, 58, 59, 60, 61, 62, 63, 64, 65] (by decide +kernel) (by decide +kernel)
set_option maxRecDepth 20000 in
theorem gX10_loops_X10_isSet : GoodIn wsX10_loops (wsV RX10 90 RX10 yX10_isSet wsX10_isSet) := goodIn_app (goodIn_of _ (by decide +kernel)) ggX10_loops_X10_isSet
set_option maxRecDepth 20000 in
theorem ggX10_loops_X10_in : GoodIn wsX10_loops wsX10_in := goodIn_r _ [12] (by decide +kernel) (by decide +kernel)
set_option maxRecDepth 20000 in
theorem gX10_loops_X10_in : GoodIn wsX10_loops (va_wsS RX10 86 yX10_in wsX10_in) := goodIn_app (goodIn_of _ (by decide +kernel)) ggX10_loops_X10_in
set_option maxRecDepth 20000 in
theorem ggX10_loops_X10_liveOf : GoodIn wsX10_loops wsX10_liveOf := goodIn_r _ [16, 2, 17, 18, 19, 7, 20, 21, 22, 23, 24, 25, 39, 40, 41, 42, 43, 44, 45, 46, 47, 48, 49, 50, 51, 52, 53, 54, 55, 56, 57, 58, 59, 60, 61, 62, 63, 64, 65] (by decide +kernel) (by decide +kernel)
set_option maxRecDepth 20000 in
theorem gX10_loops_X10_liveOf : GoodIn wsX10_loops (wsV RX10 122 RX10 yX10_liveOf wsX10_liveOf) := goodIn_app (goodIn_of _ (by decide +kernel)) ggX10_loops_X10_liveOf
set_option maxRecDepth 20000 in
theorem ggX10_loops_X10_sumUp : GoodIn wsX10_loops wsX10_sumUp := goodIn_r _ [29, 2, 30, 3, 31, 32, 33, 7, 34, 21, 22, 23, 24, 25, 39, 40, 41, 42, 43, 44, 45, 46, 47, 48, 49, 50, 51, 52, 53, 54, 55, 56, 57, 58, 59, 60, 61, 62, 63, 64, 65] (by decide +kernel) (by decide +kernel)
set_option maxRecDepth 20000 in
theorem gX10_loops_X10_sumUp : GoodIn wsX10_loops (wsV RX10 141 RX10 yX10_sumUp wsX10_sumUp) := goodIn_app (goodIn_of _ (by decide +kernel)) ggX10_loops_X10_sumUp
set_option maxRecDepth 20000 in
theorem ggX10_loops_X10_goOn : GoodIn wsX10_loops wsX10_goOn := goodIn_r _ [38, 2, 3, 30, 39, 40, 41, 42, 43, 44, 45, 46, 47, 48, 49, 50, 51, 52, 53, 54, 55, 56, 57, 58, 59, 60, 61, 62, 63, 64, 65] (by decide +kernel) (by decide +kernel)
set_option maxRecDepth 20000 in
theorem gX10_loops_X10_goOn : GoodIn wsX10_loops (wsV RX10 145 RX10 yX10_goOn wsX10_goOn) := goodIn_app (goodIn_of _ (by decide +kernel)) ggX10_loops_X10_goOn
theorem dX10_loops_0 : decode cX10_loops 0 = .ok (.aload_n 0, 1) := by decide +kernel
theorem dX10_loops_1 : decode cX10_loops 1 = .ok (.iload_n 1, 1) := by decide +kernel
theorem dX10_loops_2 : decode cX10_loops 2 = .ok (.invokevirtual 90, 3) := by decide +kernel
theorem dX10_loops_5 : decode cX10_loops 5 = .ok (.ifCond .eq 13, 3) := by decide +kernel
theorem dX10_loops_8 : decode cX10_loops 8 = .ok (.iload_n 2, 1) := by decide +kernel
theorem dX10_loops_9 : decode cX10_loops 9 = .ok (.iconst 1, 1) := by decide +kernel
theorem dX10_loops_10 : decode cX10_loops 10 = .ok (.bipush 10, 2) := by decide +kernel
theorem dX10_loops_12 : decode cX10_loops 12 = .ok (.invokestatic 86, 3) := by decide +kernel
theorem dX10_loops_15 : decode cX10_loops 15 = .ok (.ifCond .ne 7, 3) := by decide +kernel
theorem dX10_loops_18 : decode cX10_loops 18 = .ok (.ldc2_w 136, 3) := by decide +kernel
theorem dX10_loops_21 : decode cX10_loops 21 = .ok (.lreturn, 1) := by decide +kernel
theorem dX10_loops_22 : decode cX10_loops 22 = .ok (.aload_n 0, 1) := by decide +kernel
theorem dX10_loops_23 : decode cX10_loops 23 = .ok (.iload_n 1, 1) := by decide +kernel
theorem dX10_loops_24 : decode cX10_loops 24 = .ok (.invokevirtual 122, 3) := by decide +kernel
theorem dX10_loops_27 : decode cX10_loops 27 = .ok (.istore_n 3, 1) := by decide +kernel
theorem dX10_loops_28 : decode cX10_loops 28 = .ok (.lconst 0, 1) := by decide +kernel
theorem dX10_loops_29 : decode cX10_loops 29 = .ok (.lstore 4, 2) := by decide +kernel
theorem dX10_loops_31 : decode cX10_loops 31 = .ok (.iconst 0, 1) := by decide +kernel
theorem dX10_loops_32 : decode cX10_loops 32 = .ok (.istore 6, 2) := by decide +kernel
theorem dX10_loops_34 : decode cX10_loops 34 = .ok (.iload 6, 2) := by decide +kernel
theorem dX10_loops_36 : decode cX10_loops 36 = .ok (.aload_n 0, 1) := by decide +kernel
theorem dX10_loops_37 : decode cX10_loops 37 = .ok (.getfield 13, 3) := by decide +kernel
theorem dX10_loops_40 : decode cX10_loops 40 = .ok (.iload_n 1, 1) := by decide +kernel
theorem dX10_loops_41 : decode cX10_loops 41 = .ok (.iaload, 1) := by decide +kernel
theorem dX10_loops_42 : decode cX10_loops 42 = .ok (.if_icmp .ge 100, 3) := by decide +kernel
theorem dX10_loops_45 : decode cX10_loops 45 = .ok (.iconst 0, 1) := by decide +kernel
theorem dX10_loops_46 : decode cX10_loops 46 = .ok (.istore 7, 2) := by decide +kernel
theorem dX10_loops_48 : decode cX10_loops 48 = .ok (.iload 7, 2) := by decide +kernel
theorem dX10_loops_50 : decode cX10_loops 50 = .ok (.aload_n 0, 1) := by decide +kernel
theorem dX10_loops_51 : decode cX10_loops 51 = .ok (.getfield 13, 3) := by decide +kernel
theorem dX10_loops_54 : decode cX10_loops 54 = .ok (.iload_n 1, 1) := by decide +kernel
theorem dX10_loops_55 : decode cX10_loops 55 = .ok (.iaload, 1) := by decide +kernel
theorem dX10_loops_56 : decode cX10_loops 56 = .ok (.if_icmp .ge 28, 3) := by decide +kernel
theorem dX10_loops_59 : decode cX10_loops 59 = .ok (.aload_n 0, 1) := by decide +kernel
theorem dX10_loops_60 : decode cX10_loops 60 = .ok (.getfield 55, 3) := by decide +kernel
theorem dX10_loops_63 : decode cX10_loops 63 = .ok (.iload 7, 2) := by decide +kernel
theorem dX10_loops_65 : decode cX10_loops 65 = .ok (.iload 7, 2) := by decide +kernel
theorem dX10_loops_67 : decode cX10_loops 67 = .ok (.iload 6, 2) := by decide +kernel
theorem dX10_loops_69 : decode cX10_loops 69 = .ok (.if_icmp .ne 7, 3) := by decide +kernel
theorem dX10_loops_72 : decode cX10_loops 72 = .ok (.lconst 1, 1) := by decide +kernel
theorem dX10_loops_73 : decode cX10_loops 73 = .ok (.goto 4, 3) := by decide +kernel
theorem dX10_loops_76 : decode cX10_loops 76 = .ok (.lconst 0, 1) := by decide +kernel
theorem dX10_loops_77 : decode cX10_loops 77 = .ok (.lastore, 1) := by decide +kernel
theorem dX10_loops_78 : decode cX10_loops 78 = .ok (.iinc 7 1, 3) := by decide +kernel
theorem dX10_loops_81 : decode cX10_loops 81 = .ok (.goto (-33), 3) := by decide +kernel
theorem dX10_loops_84 : decode cX10_loops 84 = .ok (.iconst 0, 1) := by decide +kernel
theorem dX10_loops_85 : decode cX10_loops 85 = .ok (.istore 7, 2) := by decide +kernel
theorem dX10_loops_87 : decode cX10_loops 87 = .ok (.iload 7, 2) := by decide +kernel
theorem dX10_loops_89 : decode cX10_loops 89 = .ok (.iload_n 2, 1) := by decide +kernel
theorem dX10_loops_90 : decode cX10_loops 90 = .ok (.if_icmp .ge 20, 3) := by decide +kernel
theorem dX10_loops_93 : decode cX10_loops 93 = .ok (.aload_n 0, 1) := by decide +kernel
theorem dX10_loops_94 : decode cX10_loops 94 = .ok (.iload_n 1, 1) := by decide +kernel
theorem dX10_loops_95 : decode cX10_loops 95 = .ok (.iload_n 3, 1) := by decide +kernel
theorem dX10_loops_96 : decode cX10_loops 96 = .ok (.invokevirtual 141, 3) := by decide +kernel
theorem dX10_loops_99 : decode cX10_loops 99 = .ok (.aload_n 0, 1) := by decide +kernel
theorem dX10_loops_100 : decode cX10_loops 100 = .ok (.iload_n 1, 1) := by decide +kernel
theorem dX10_loops_101 : decode cX10_loops 101 = .ok (.invokevirtual 145, 3) := by decide +kernel
theorem dX10_loops_104 : decode cX10_loops 104 = .ok (.iinc 7 1, 3) := by decide +kernel
theorem dX10_loops_107 : decode cX10_loops 107 = .ok (.goto (-20), 3) := by decide +kernel
theorem dX10_loops_110 : decode cX10_loops 110 = .ok (.lload 4, 2) := by decide +kernel
theorem dX10_loops_112 : decode cX10_loops 112 = .ok (.iload_n 3, 1) := by decide +kernel
theorem dX10_loops_113 : decode cX10_loops 113 = .ok (.iload 6, 2) := by decide +kernel
theorem dX10_loops_115 : decode cX10_loops 115 = .ok (.ishr, 1) := by decide +kernel
theorem dX10_loops_116 : decode cX10_loops 116 = .ok (.iconst 1, 1) := by decide +kernel
theorem dX10_loops_117 : decode cX10_loops 117 = .ok (.iand, 1) := by decide +kernel
theorem dX10_loops_118 : decode cX10_loops 118 = .ok (.iconst 1, 1) := by decide +kernel
theorem dX10_loops_119 : decode cX10_loops 119 = .ok (.if_icmp .ne 13, 3) := by decide +kernel
theorem dX10_loops_122 : decode cX10_loops 122 = .ok (.aload_n 0, 1) := by decide +kernel
theorem dX10_loops_123 : decode cX10_loops 123 = .ok (.getfield 55, 3) := by decide +kernel
theorem dX10_loops_126 : decode cX10_loops 126 = .ok (.iload 6, 2) := by decide +kernel
theorem dX10_loops_128 : decode cX10_loops 128 = .ok (.laload, 1) := by decide +kernel
theorem dX10_loops_129 : decode cX10_loops 129 = .ok (.goto 4, 3) := by decide +kernel
theorem dX10_loops_132 : decode cX10_loops 132 = .ok (.lconst 0, 1) := by decide +kernel
theorem dX10_loops_133 : decode cX10_loops 133 = .ok (.ladd, 1) := by decide +kernel
theorem dX10_loops_134 : decode cX10_loops 134 = .ok (.lstore 4, 2) := by decide +kernel
theorem dX10_loops_136 : decode cX10_loops 136 = .ok (.iinc 6 1, 3) := by decide +kernel
theorem dX10_loops_139 : decode cX10_loops 139 = .ok (.goto (-105), 3) := by decide +kernel
theorem dX10_loops_142 : decode cX10_loops 142 = .ok (.lload 4, 2) := by decide +kernel
theorem dX10_loops_144 : decode cX10_loops 144 = .ok (.lreturn, 1) := by decide +kernel
set_option maxRecDepth 20000 in
theorem ggX10_rounds_X10_isSet : GoodIn wsX10_rounds wsX10_isSet := goodIn_r _ [6, 7, 8, 9, 5, 10, 28, 29, 30, 31, 32, 33, 34, 35, 36, 37, 38, 39, 40, 41, 42, 43, 44, 45, 46, 47, 48, 49, 50, 51, 52, 53, 54] (by decide +kernel) (by decide +kernel)
set_option maxRecDepth 20000 in
theorem gX10_rounds_X10_isSet : GoodIn wsX10_rounds (wsV RX10 90 RX10 yX10_isSet wsX10_isSet) := goodIn_app (goodIn_of _ (by decide +kernel)) ggX10_rounds_X10_isSet
set_option maxRecDepth 20000 in
theorem ggX10_rounds_X10_in : GoodIn wsX10_rounds wsX10_in := goodIn_r _ [10] (by decide +kernel) (by decide +kernel)
set_option maxRecDepth 20000 in
theorem gX10_rounds_X10_in : GoodIn wsX10_rounds (va_wsS RX10 86 yX10_in wsX10_in) := goodIn_app (goodIn_of _ (by decide +kernel)) ggX10_rounds_X10_in
set_option maxRecDepth 20000 in
theorem ggX10_rounds_X10_liveOf : GoodIn wsX10_rounds wsX10_liveOf := goodIn_r _ [14, 15, 16, 17, 18, 5, 19, 1, 20, 21, 22, 23, 28, 29, 30, 31, 32, 33, 34, 35, 36, 37, 38, 39, 40, 41, 42, 43, 44, 45, 46, 47, 48, 49, 50, 51, 52, 53, 54] (by decide +kernel) (by decide +kernel)
set_option maxRecDepth 20000 in
theorem gX10_rounds_X10_liveOf : GoodIn wsX10_rounds (wsV RX10 122 RX10 yX10_liveOf wsX10_liveOf) := goodIn_app (goodIn_of _ (by decide +kernel)) ggX10_rounds_X10_liveOf
set_option maxRecDepth 20000 in
theorem ggX10_rounds_X10_lead : GoodIn wsX10_rounds wsX10_lead := goodIn_r _ [27, 15, 1, 20, 21, 22, 5, 23, 28, 29, 30, 31, 32, 33, 34, 35, 36, 37, 38, 39, 40, 41, 42, 43, 44, 45, 46, 47, 48, 49, 50, 51, 52, 53, 54] (by decide +kernel) (by decide +kernel)
set_option maxRecDepth 20000 in
theorem gX10_rounds_X10_lead : GoodIn wsX10_rounds (wsV RX10 132 RX10 yX10_lead wsX10_lead) := goodIn_app (goodIn_of _ (by decide +kernel)) ggX10_rounds_X10_lead
theorem dX10_rounds_0 : decode cX10_rounds 0 = .ok (.aload_n 0, 1) := by decide +kernel
theorem dX10_rounds_1 : decode cX10_rounds 1 = .ok (.iload_n 1, 1) := by decide +kernel
theorem dX10_rounds_2 : decode cX10_rounds 2 = .ok (.invokevirtual 90, 3) := by decide +kernel
theorem dX10_rounds_5 : decode cX10_rounds 5 = .ok (.ifCond .eq 13, 3) := by decide +kernel
theorem dX10_rounds_8 : decode cX10_rounds 8 = .ok (.iload_n 2, 1) := by decide +kernel
theorem dX10_rounds_9 : decode cX10_rounds 9 = .ok (.iconst 1, 1) := by decide +kernel
theorem dX10_rounds_10 : decode cX10_rounds 10 = .ok (.bipush 7, 2) := by decide +kernel
theorem dX10_rounds_12 : decode cX10_rounds 12 = .ok (.invokestatic 86, 3) := by decide +kernel
theorem dX10_rounds_15 : decode cX10_rounds 15 = .ok (.ifCond .ne 6, 3) := by decide +kernel
theorem dX10_rounds_18 : decode cX10_rounds 18 = .ok (.bipush (-2), 2) := by decide +kernel
theorem dX10_rounds_20 : decode cX10_rounds 20 = .ok (.ireturn, 1) := by decide +kernel
theorem dX10_rounds_21 : decode cX10_rounds 21 = .ok (.aload_n 0, 1) := by decide +kernel
theorem dX10_rounds_22 : decode cX10_rounds 22 = .ok (.iload_n 1, 1) := by decide +kernel
theorem dX10_rounds_23 : decode cX10_rounds 23 = .ok (.invokevirtual 122, 3) := by decide +kernel
theorem dX10_rounds_26 : decode cX10_rounds 26 = .ok (.istore_n 3, 1) := by decide +kernel
theorem dX10_rounds_27 : decode cX10_rounds 27 = .ok (.iconst 1, 1) := by decide +kernel
theorem dX10_rounds_28 : decode cX10_rounds 28 = .ok (.istore 4, 2) := by decide +kernel
theorem dX10_rounds_30 : decode cX10_rounds 30 = .ok (.iconst 0, 1) := by decide +kernel
theorem dX10_rounds_31 : decode cX10_rounds 31 = .ok (.istore 5, 2) := by decide +kernel
theorem dX10_rounds_33 : decode cX10_rounds 33 = .ok (.iload 5, 2) := by decide +kernel
theorem dX10_rounds_35 : decode cX10_rounds 35 = .ok (.iload_n 2, 1) := by decide +kernel
theorem dX10_rounds_36 : decode cX10_rounds 36 = .ok (.if_icmp .ge 20, 3) := by decide +kernel
theorem dX10_rounds_39 : decode cX10_rounds 39 = .ok (.iload 4, 2) := by decide +kernel
theorem dX10_rounds_41 : decode cX10_rounds 41 = .ok (.aload_n 0, 1) := by decide +kernel
theorem dX10_rounds_42 : decode cX10_rounds 42 = .ok (.getfield 7, 3) := by decide +kernel
theorem dX10_rounds_45 : decode cX10_rounds 45 = .ok (.iload_n 1, 1) := by decide +kernel
theorem dX10_rounds_46 : decode cX10_rounds 46 = .ok (.iaload, 1) := by decide +kernel
theorem dX10_rounds_47 : decode cX10_rounds 47 = .ok (.imul, 1) := by decide +kernel
theorem dX10_rounds_48 : decode cX10_rounds 48 = .ok (.istore 4, 2) := by decide +kernel
theorem dX10_rounds_50 : decode cX10_rounds 50 = .ok (.iinc 5 1, 3) := by decide +kernel
theorem dX10_rounds_53 : decode cX10_rounds 53 = .ok (.goto (-20), 3) := by decide +kernel
theorem dX10_rounds_56 : decode cX10_rounds 56 = .ok (.iconst 0, 1) := by decide +kernel
theorem dX10_rounds_57 : decode cX10_rounds 57 = .ok (.istore 5, 2) := by decide +kernel
theorem dX10_rounds_59 : decode cX10_rounds 59 = .ok (.iconst 0, 1) := by decide +kernel
theorem dX10_rounds_60 : decode cX10_rounds 60 = .ok (.istore 6, 2) := by decide +kernel
theorem dX10_rounds_62 : decode cX10_rounds 62 = .ok (.iload 6, 2) := by decide +kernel
theorem dX10_rounds_64 : decode cX10_rounds 64 = .ok (.iload 4, 2) := by decide +kernel
theorem dX10_rounds_66 : decode cX10_rounds 66 = .ok (.if_icmp .ge 97, 3) := by decide +kernel
theorem dX10_rounds_69 : decode cX10_rounds 69 = .ok (.iload_n 3, 1) := by decide +kernel
theorem dX10_rounds_70 : decode cX10_rounds 70 = .ok (.istore 7, 2) := by decide +kernel
theorem dX10_rounds_72 : decode cX10_rounds 72 = .ok (.iconst 0, 1) := by decide +kernel
theorem dX10_rounds_73 : decode cX10_rounds 73 = .ok (.istore 8, 2) := by decide +kernel
theorem dX10_rounds_75 : decode cX10_rounds 75 = .ok (.iload 8, 2) := by decide +kernel
theorem dX10_rounds_77 : decode cX10_rounds 77 = .ok (.bipush 17, 2) := by decide +kernel
theorem dX10_rounds_79 : decode cX10_rounds 79 = .ok (.if_icmp .ge 63, 3) := by decide +kernel
theorem dX10_rounds_82 : decode cX10_rounds 82 = .ok (.iload 7, 2) := by decide +kernel
theorem dX10_rounds_84 : decode cX10_rounds 84 = .ok (.ifCond .eq 58, 3) := by decide +kernel
theorem dX10_rounds_87 : decode cX10_rounds 87 = .ok (.iload 6, 2) := by decide +kernel
theorem dX10_rounds_89 : decode cX10_rounds 89 = .ok (.istore 9, 2) := by decide +kernel
theorem dX10_rounds_91 : decode cX10_rounds 91 = .ok (.iconst 0, 1) := by decide +kernel
theorem dX10_rounds_92 : decode cX10_rounds 92 = .ok (.istore 10, 2) := by decide +kernel
theorem dX10_rounds_94 : decode cX10_rounds 94 = .ok (.iload 10, 2) := by decide +kernel
theorem dX10_rounds_96 : decode cX10_rounds 96 = .ok (.iload_n 2, 1) := by decide +kernel
theorem dX10_rounds_97 : decode cX10_rounds 97 = .ok (.if_icmp .ge 39, 3) := by decide +kernel
theorem dX10_rounds_100 : decode cX10_rounds 100 = .ok (.aload_n 0, 1) := by decide +kernel
theorem dX10_rounds_101 : decode cX10_rounds 101 = .ok (.iload_n 1, 1) := by decide +kernel
theorem dX10_rounds_102 : decode cX10_rounds 102 = .ok (.iload_n 3, 1) := by decide +kernel
theorem dX10_rounds_103 : decode cX10_rounds 103 = .ok (.iload 7, 2) := by decide +kernel
theorem dX10_rounds_105 : decode cX10_rounds 105 = .ok (.iload 9, 2) := by decide +kernel
theorem dX10_rounds_107 : decode cX10_rounds 107 = .ok (.aload_n 0, 1) := by decide +kernel
theorem dX10_rounds_108 : decode cX10_rounds 108 = .ok (.getfield 7, 3) := by decide +kernel
theorem dX10_rounds_111 : decode cX10_rounds 111 = .ok (.iload_n 1, 1) := by decide +kernel
theorem dX10_rounds_112 : decode cX10_rounds 112 = .ok (.iaload, 1) := by decide +kernel
theorem dX10_rounds_113 : decode cX10_rounds 113 = .ok (.irem, 1) := by decide +kernel
theorem dX10_rounds_114 : decode cX10_rounds 114 = .ok (.invokevirtual 132, 3) := by decide +kernel
theorem dX10_rounds_117 : decode cX10_rounds 117 = .ok (.istore 7, 2) := by decide +kernel
theorem dX10_rounds_119 : decode cX10_rounds 119 = .ok (.iload 9, 2) := by decide +kernel
theorem dX10_rounds_121 : decode cX10_rounds 121 = .ok (.aload_n 0, 1) := by decide +kernel
theorem dX10_rounds_122 : decode cX10_rounds 122 = .ok (.getfield 7, 3) := by decide +kernel
theorem dX10_rounds_125 : decode cX10_rounds 125 = .ok (.iload_n 1, 1) := by decide +kernel
theorem dX10_rounds_126 : decode cX10_rounds 126 = .ok (.iaload, 1) := by decide +kernel
theorem dX10_rounds_127 : decode cX10_rounds 127 = .ok (.idiv, 1) := by decide +kernel
theorem dX10_rounds_128 : decode cX10_rounds 128 = .ok (.istore 9, 2) := by decide +kernel
theorem dX10_rounds_130 : decode cX10_rounds 130 = .ok (.iinc 10 1, 3) := by decide +kernel
theorem dX10_rounds_133 : decode cX10_rounds 133 = .ok (.goto (-39), 3) := by decide +kernel
theorem dX10_rounds_136 : decode cX10_rounds 136 = .ok (.iinc 8 1, 3) := by decide +kernel
theorem dX10_rounds_139 : decode cX10_rounds 139 = .ok (.goto (-64), 3) := by decide +kernel
theorem dX10_rounds_142 : decode cX10_rounds 142 = .ok (.iload 5, 2) := by decide +kernel
theorem dX10_rounds_144 : decode cX10_rounds 144 = .ok (.iload 7, 2) := by decide +kernel
theorem dX10_rounds_146 : decode cX10_rounds 146 = .ok (.ifCond .eq 7, 3) := by decide +kernel
theorem dX10_rounds_149 : decode cX10_rounds 149 = .ok (.iconst 1, 1) := by decide +kernel
theorem dX10_rounds_150 : decode cX10_rounds 150 = .ok (.goto 4, 3) := by decide +kernel
theorem dX10_rounds_153 : decode cX10_rounds 153 = .ok (.iconst 0, 1) := by decide +kernel
theorem dX10_rounds_154 : decode cX10_rounds 154 = .ok (.iadd, 1) := by decide +kernel
theorem dX10_rounds_155 : decode cX10_rounds 155 = .ok (.istore 5, 2) := by decide +kernel
theorem dX10_rounds_157 : decode cX10_rounds 157 = .ok (.iinc 6 1, 3) := by decide +kernel
theorem dX10_rounds_160 : decode cX10_rounds 160 = .ok (.goto (-98), 3) := by decide +kernel
theorem dX10_rounds_163 : decode cX10_rounds 163 = .ok (.iload 5, 2) := by decide +kernel
theorem dX10_rounds_165 : decode cX10_rounds 165 = .ok (.ireturn, 1) := by decide +kernel
theorem dX10_isLess_0 : decode cX10_isLess 0 = .ok (.lload_n 0, 1) := by decide +kernel
theorem dX10_isLess_1 : decode cX10_isLess 1 = .ok (.lstore 8, 2) := by decide +kernel
theorem dX10_isLess_3 : decode cX10_isLess 3 = .ok (.lload_n 2, 1) := by decide +kernel
theorem dX10_isLess_4 : decode cX10_isLess 4 = .ok (.lstore 10, 2) := by decide +kernel
theorem dX10_isLess_6 : decode cX10_isLess 6 = .ok (.lload 4, 2) := by decide +kernel
theorem dX10_isLess_8 : decode cX10_isLess 8 = .ok (.lstore 12, 2) := by decide +kernel
theorem dX10_isLess_10 : decode cX10_isLess 10 = .ok (.lload 6, 2) := by decide +kernel
theorem dX10_isLess_12 : decode cX10_isLess 12 = .ok (.lstore 14, 2) := by decide +kernel
theorem dX10_isLess_14 : decode cX10_isLess 14 = .ok (.iconst 0, 1) := by decide +kernel
theorem dX10_isLess_15 : decode cX10_isLess 15 = .ok (.istore 16, 2) := by decide +kernel
theorem dX10_isLess_17 : decode cX10_isLess 17 = .ok (.lload 8, 2) := by decide +kernel
theorem dX10_isLess_19 : decode cX10_isLess 19 = .ok (.lload 10, 2) := by decide +kernel
theorem dX10_isLess_21 : decode cX10_isLess 21 = .ok (.ldiv, 1) := by decide +kernel
theorem dX10_isLess_22 : decode cX10_isLess 22 = .ok (.lstore 17, 2) := by decide +kernel
theorem dX10_isLess_24 : decode cX10_isLess 24 = .ok (.lload 12, 2) := by decide +kernel
theorem dX10_isLess_26 : decode cX10_isLess 26 = .ok (.lload 14, 2) := by decide +kernel
theorem dX10_isLess_28 : decode cX10_isLess 28 = .ok (.ldiv, 1) := by decide +kernel
theorem dX10_isLess_29 : decode cX10_isLess 29 = .ok (.lstore 19, 2) := by decide +kernel
theorem dX10_isLess_31 : decode cX10_isLess 31 = .ok (.lload 17, 2) := by decide +kernel
theorem dX10_isLess_33 : decode cX10_isLess 33 = .ok (.lload 19, 2) := by decide +kernel
theorem dX10_isLess_35 : decode cX10_isLess 35 = .ok (.lcmp, 1) := by decide +kernel
theorem dX10_isLess_36 : decode cX10_isLess 36 = .ok (.ifCond .eq 38, 3) := by decide +kernel
theorem dX10_isLess_39 : decode cX10_isLess 39 = .ok (.iload 16, 2) := by decide +kernel
theorem dX10_isLess_41 : decode cX10_isLess 41 = .ok (.ifCond .eq 19, 3) := by decide +kernel
theorem dX10_isLess_44 : decode cX10_isLess 44 = .ok (.lload 17, 2) := by decide +kernel
theorem dX10_isLess_46 : decode cX10_isLess 46 = .ok (.lload 19, 2) := by decide +kernel
theorem dX10_isLess_48 : decode cX10_isLess 48 = .ok (.lcmp, 1) := by decide +kernel
theorem dX10_isLess_49 : decode cX10_isLess 49 = .ok (.ifCond .le 7, 3) := by decide +kernel
theorem dX10_isLess_52 : decode cX10_isLess 52 = .ok (.iconst 1, 1) := by decide +kernel
theorem dX10_isLess_53 : decode cX10_isLess 53 = .ok (.goto 20, 3) := by decide +kernel
theorem dX10_isLess_56 : decode cX10_isLess 56 = .ok (.iconst 0, 1) := by decide +kernel
theorem dX10_isLess_57 : decode cX10_isLess 57 = .ok (.goto 16, 3) := by decide +kernel
theorem dX10_isLess_60 : decode cX10_isLess 60 = .ok (.lload 17, 2) := by decide +kernel
theorem dX10_isLess_62 : decode cX10_isLess 62 = .ok (.lload 19, 2) := by decide +kernel
theorem dX10_isLess_64 : decode cX10_isLess 64 = .ok (.lcmp, 1) := by decide +kernel
theorem dX10_isLess_65 : decode cX10_isLess 65 = .ok (.ifCond .ge 7, 3) := by decide +kernel
theorem dX10_isLess_68 : decode cX10_isLess 68 = .ok (.iconst 1, 1) := by decide +kernel
theorem dX10_isLess_69 : decode cX10_isLess 69 = .ok (.goto 4, 3) := by decide +kernel
theorem dX10_isLess_72 : decode cX10_isLess 72 = .ok (.iconst 0, 1) := by decide +kernel
theorem dX10_isLess_73 : decode cX10_isLess 73 = .ok (.ireturn, 1) := by decide +kernel
theorem dX10_isLess_74 : decode cX10_isLess 74 = .ok (.lload 8, 2) := by decide +kernel
theorem dX10_isLess_76 : decode cX10_isLess 76 = .ok (.lload 17, 2) := by decide +kernel
theorem dX10_isLess_78 : decode cX10_isLess 78 = .ok (.lload 10, 2) := by decide +kernel
theorem dX10_isLess_80 : decode cX10_isLess 80 = .ok (.lmul, 1) := by decide +kernel
theorem dX10_isLess_81 : decode cX10_isLess 81 = .ok (.lsub, 1) := by decide +kernel
theorem dX10_isLess_82 : decode cX10_isLess 82 = .ok (.lstore 21, 2) := by decide +kernel
theorem dX10_isLess_84 : decode cX10_isLess 84 = .ok (.lload 12, 2) := by decide +kernel
theorem dX10_isLess_86 : decode cX10_isLess 86 = .ok (.lload 19, 2) := by decide +kernel
theorem dX10_isLess_88 : decode cX10_isLess 88 = .ok (.lload 14, 2) := by decide +kernel
theorem dX10_isLess_90 : decode cX10_isLess 90 = .ok (.lmul, 1) := by decide +kernel
theorem dX10_isLess_91 : decode cX10_isLess 91 = .ok (.lsub, 1) := by decide +kernel
theorem dX10_isLess_92 : decode cX10_isLess 92 = .ok (.lstore 23, 2) := by decide +kernel
theorem dX10_isLess_94 : decode cX10_isLess 94 = .ok (.lload 21, 2) := by decide +kernel
theorem dX10_isLess_96 : decode cX10_isLess 96 = .ok (.lconst 0, 1) := by decide +kernel
theorem dX10_isLess_97 : decode cX10_isLess 97 = .ok (.lcmp, 1) := by decide +kernel
theorem dX10_isLess_98 : decode cX10_isLess 98 = .ok (.ifCond .eq 10, 3) := by decide +kernel
theorem dX10_isLess_101 : decode cX10_isLess 101 = .ok (.lload 23, 2) := by decide +kernel
theorem dX10_isLess_103 : decode cX10_isLess 103 = .ok (.lconst 0, 1) := by decide +kernel
theorem dX10_isLess_104 : decode cX10_isLess 104 = .ok (.lcmp, 1) := by decide +kernel
theorem dX10_isLess_105 : decode cX10_isLess 105 = .ok (.ifCond .ne 50, 3) := by decide +kernel
theorem dX10_isLess_108 : decode cX10_isLess 108 = .ok (.iload 16, 2) := by decide +kernel
theorem dX10_isLess_110 : decode cX10_isLess 110 = .ok (.ifCond .eq 25, 3) := by decide +kernel
theorem dX10_isLess_113 : decode cX10_isLess 113 = .ok (.lload 23, 2) := by decide +kernel
theorem dX10_isLess_115 : decode cX10_isLess 115 = .ok (.lconst 0, 1) := by decide +kernel
theorem dX10_isLess_116 : decode cX10_isLess 116 = .ok (.lcmp, 1) := by decide +kernel
theorem dX10_isLess_117 : decode cX10_isLess 117 = .ok (.ifCond .ne 14, 3) := by decide +kernel
theorem dX10_isLess_120 : decode cX10_isLess 120 = .ok (.lload 21, 2) := by decide +kernel
theorem dX10_isLess_122 : decode cX10_isLess 122 = .ok (.lconst 0, 1) := by decide +kernel
theorem dX10_isLess_123 : decode cX10_isLess 123 = .ok (.lcmp, 1) := by decide +kernel
theorem dX10_isLess_124 : decode cX10_isLess 124 = .ok (.ifCond .eq 7, 3) := by decide +kernel
theorem dX10_isLess_127 : decode cX10_isLess 127 = .ok (.iconst 1, 1) := by decide +kernel
theorem dX10_isLess_128 : decode cX10_isLess 128 = .ok (.goto 26, 3) := by decide +kernel
theorem dX10_isLess_131 : decode cX10_isLess 131 = .ok (.iconst 0, 1) := by decide +kernel
theorem dX10_isLess_132 : decode cX10_isLess 132 = .ok (.goto 22, 3) := by decide +kernel
theorem dX10_isLess_135 : decode cX10_isLess 135 = .ok (.lload 21, 2) := by decide +kernel
theorem dX10_isLess_137 : decode cX10_isLess 137 = .ok (.lconst 0, 1) := by decide +kernel
theorem dX10_isLess_138 : decode cX10_isLess 138 = .ok (.lcmp, 1) := by decide +kernel
theorem dX10_isLess_139 : decode cX10_isLess 139 = .ok (.ifCond .ne 14, 3) := by decide +kernel
theorem dX10_isLess_142 : decode cX10_isLess 142 = .ok (.lload 23, 2) := by decide +kernel
theorem dX10_isLess_144 : decode cX10_isLess 144 = .ok (.lconst 0, 1) := by decide +kernel
theorem dX10_isLess_145 : decode cX10_isLess 145 = .ok (.lcmp, 1) := by decide +kernel
theorem dX10_isLess_146 : decode cX10_isLess 146 = .ok (.ifCond .eq 7, 3) := by decide +kernel
theorem dX10_isLess_149 : decode cX10_isLess 149 = .ok (.iconst 1, 1) := by decide +kernel
theorem dX10_isLess_150 : decode cX10_isLess 150 = .ok (.goto 4, 3) := by decide +kernel
theorem dX10_isLess_153 : decode cX10_isLess 153 = .ok (.iconst 0, 1) := by decide +kernel
theorem dX10_isLess_154 : decode cX10_isLess 154 = .ok (.ireturn, 1) := by decide +kernel
theorem dX10_isLess_155 : decode cX10_isLess 155 = .ok (.lload 10, 2) := by decide +kernel
theorem dX10_isLess_157 : decode cX10_isLess 157 = .ok (.lstore 8, 2) := by decide +kernel
theorem dX10_isLess_159 : decode cX10_isLess 159 = .ok (.lload 21, 2) := by decide +kernel
theorem dX10_isLess_161 : decode cX10_isLess 161 = .ok (.lstore 10, 2) := by decide +kernel
theorem dX10_isLess_163 : decode cX10_isLess 163 = .ok (.lload 14, 2) := by decide +kernel
theorem dX10_isLess_165 : decode cX10_isLess 165 = .ok (.lstore 12, 2) := by decide +kernel
theorem dX10_isLess_167 : decode cX10_isLess 167 = .ok (.lload 23, 2) := by decide +kernel
theorem dX10_isLess_169 : decode cX10_isLess 169 = .ok (.lstore 14, 2) := by decide +kernel
theorem dX10_isLess_171 : decode cX10_isLess 171 = .ok (.iload 16, 2) := by decide +kernel
theorem dX10_isLess_173 : decode cX10_isLess 173 = .ok (.ifCond .ne 7, 3) := by decide +kernel
theorem dX10_isLess_176 : decode cX10_isLess 176 = .ok (.iconst 1, 1) := by decide +kernel
theorem dX10_isLess_177 : decode cX10_isLess 177 = .ok (.goto 4, 3) := by decide +kernel
theorem dX10_isLess_180 : decode cX10_isLess 180 = .ok (.iconst 0, 1) := by decide +kernel
theorem dX10_isLess_181 : decode cX10_isLess 181 = .ok (.istore 16, 2) := by decide +kernel
theorem dX10_isLess_183 : decode cX10_isLess 183 = .ok (.goto (-166), 3) := by decide +kernel
theorem dX10_common_0 : decode cX10_common 0 = .ok (.lload_n 0, 1) := by decide +kernel
theorem dX10_common_1 : decode cX10_common 1 = .ok (.lstore 4, 2) := by decide +kernel
theorem dX10_common_3 : decode cX10_common 3 = .ok (.lload_n 2, 1) := by decide +kernel
theorem dX10_common_4 : decode cX10_common 4 = .ok (.lstore 6, 2) := by decide +kernel
theorem dX10_common_6 : decode cX10_common 6 = .ok (.lload 6, 2) := by decide +kernel
theorem dX10_common_8 : decode cX10_common 8 = .ok (.lconst 0, 1) := by decide +kernel
theorem dX10_common_9 : decode cX10_common 9 = .ok (.lcmp, 1) := by decide +kernel
theorem dX10_common_10 : decode cX10_common 10 = .ok (.ifCond .eq 21, 3) := by decide +kernel
theorem dX10_common_13 : decode cX10_common 13 = .ok (.lload 4, 2) := by decide +kernel
theorem dX10_common_15 : decode cX10_common 15 = .ok (.lload 6, 2) := by decide +kernel
theorem dX10_common_17 : decode cX10_common 17 = .ok (.lrem, 1) := by decide +kernel
theorem dX10_common_18 : decode cX10_common 18 = .ok (.lstore 8, 2) := by decide +kernel
theorem dX10_common_20 : decode cX10_common 20 = .ok (.lload 6, 2) := by decide +kernel
theorem dX10_common_22 : decode cX10_common 22 = .ok (.lstore 4, 2) := by decide +kernel
theorem dX10_common_24 : decode cX10_common 24 = .ok (.lload 8, 2) := by decide +kernel
theorem dX10_common_26 : decode cX10_common 26 = .ok (.lstore 6, 2) := by decide +kernel
theorem dX10_common_28 : decode cX10_common 28 = .ok (.goto (-22), 3) := by decide +kernel
theorem dX10_common_31 : decode cX10_common 31 = .ok (.lload 4, 2) := by decide +kernel
theorem dX10_common_33 : decode cX10_common 33 = .ok (.lreturn, 1) := by decide +kernel
