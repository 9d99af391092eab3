set_option maxRecDepth 20000 in
theorem wsL_law_r1_in : GoodIn lw_tbl wsL_law_r1 := goodIn_r _ [64, 65, 49, 778, 779, 58, 66, 67, 68, 69, 70, 71, 72, 224, 94, 226, 74, 75, 50, 228, 95, 96, 51, 229] (by decide +kernel) (by decide +kernel)
set_option maxRecDepth 20000 in
theorem wsL_law_r2_in : GoodIn lw_tbl wsL_law_r2 := goodIn_r _ [112, 113, 52, 233, 135, 136, 53, 234, 148, 149, 54, 173, 174, 55, 230, 198, 199, 56, 231, 214, 215, 57, 232, 76] (by decide +kernel) (by decide +kernel)
set_option maxRecDepth 20000 in
theorem wsL_law_r3_in : GoodIn lw_tbl wsL_law_r3 := goodIn_r _ [77, 78, 79, 82, 83, 84, 97, 98, 99, 100, 101, 104, 114, 115, 116, 117, 134, 118, 119, 120, 121, 122, 137, 138] (by decide +kernel) (by decide +kernel)
set_option maxRecDepth 20000 in
theorem wsL_law_r4_in : GoodIn lw_tbl wsL_law_r4 := goodIn_r _ [139, 140, 141, 142, 150, 151, 152, 153, 158, 159, 160, 161, 175, 176, 177, 178, 180, 181, 182, 183, 184, 179, 200, 201] (by decide +kernel) (by decide +kernel)
set_option maxRecDepth 20000 in
theorem wsL_law_r5_in : GoodIn lw_tbl wsL_law_r5 := goodIn_r _ [202, 203, 204, 216, 217, 218, 219, 220, 780, 781, 782, 783, 787, 788, 789, 791, 793, 794, 795, 796, 797, 784, 798, 799] (by decide +kernel) (by decide +kernel)
set_option maxRecDepth 20000 in
theorem wsL_law_r6_in : GoodIn lw_tbl wsL_law_r6 := goodIn_r _ [800, 801, 802, 803, 804, 805, 806, 807, 808, 785, 809, 811, 812, 258, 259, 260, 261, 225, 265, 59, 262, 263, 264, 266] (by decide +kernel) (by decide +kernel)
