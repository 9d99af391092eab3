set_option maxRecDepth 20000 in
theorem wsL_law_r7_in : GoodIn lw_tbl wsL_law_r7 := goodIn_r _ [267, 268, 269, 291, 292, 270, 277, 308, 310, 0, 311, 868, 869, 870, 871, 786, 872, 873, 874, 875, 877, 29, 878, 312] (by decide +kernel) (by decide +kernel)
set_option maxRecDepth 20000 in
theorem wsL_law_r8_in : GoodIn lw_tbl wsL_law_r8 := goodIn_r _ [313, 314, 315, 316, 318, 1, 319, 320, 321, 322, 323, 324, 325, 326, 327, 329, 330, 331, 332, 333, 334, 335, 336, 282] (by decide +kernel) (by decide +kernel)
set_option maxRecDepth 20000 in
theorem wsL_law_r9_in : GoodIn lw_tbl wsL_law_r9 := goodIn_r _ [337, 338, 339, 340, 341, 287, 289, 342, 344, 2, 345, 346, 347, 348, 349, 350, 351, 352, 353, 354, 355, 356, 357, 358] (by decide +kernel) (by decide +kernel)
set_option maxRecDepth 20000 in
theorem wsL_law_r10_in : GoodIn lw_tbl wsL_law_r10 := goodIn_r _ [359, 60, 360, 361, 362, 363, 364, 366, 3, 367, 879, 880, 881, 882, 883, 885, 30, 886, 887, 889, 31, 890, 891, 893] (by decide +kernel) (by decide +kernel)
set_option maxRecDepth 20000 in
theorem wsL_law_r11_in : GoodIn lw_tbl wsL_law_r11 := goodIn_r _ [32, 894, 895, 896, 897, 368, 369, 370, 371, 898, 899, 900, 901, 372, 373, 374, 375, 227, 902, 903, 904, 905, 790, 376] (by decide +kernel) (by decide +kernel)
set_option maxRecDepth 20000 in
theorem wsL_law_r12_in : GoodIn lw_tbl wsL_law_r12 := goodIn_r _ [377, 378, 379, 906, 907, 908, 909, 380, 381, 382, 383, 910, 911, 912, 913, 384, 385, 386, 387, 81, 388, 389, 390, 391] (by decide +kernel) (by decide +kernel)
