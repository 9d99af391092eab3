set_option maxRecDepth 20000 in
theorem wsL_law_r13_in : GoodIn lw_tbl wsL_law_r13 := goodIn_r _ [80, 914, 915, 916, 917, 792, 392, 393, 394, 395, 918, 919, 920, 921, 396, 397, 398, 399, 400, 401, 402, 403, 404, 405] (by decide +kernel) (by decide +kernel)
set_option maxRecDepth 20000 in
theorem wsL_law_r14_in : GoodIn lw_tbl wsL_law_r14 := goodIn_r _ [61, 406, 407, 408, 409, 410, 411, 412, 413, 414, 415, 416, 417, 280, 275, 418, 420, 4, 421, 422, 424, 5, 425, 426] (by decide +kernel) (by decide +kernel)
set_option maxRecDepth 20000 in
theorem wsL_law_r15_in : GoodIn lw_tbl wsL_law_r15 := goodIn_r _ [428, 6, 429, 430, 922, 923, 924, 925, 926, 928, 33, 929, 431, 432, 433, 434, 276, 281, 283, 288, 290, 435, 436, 437] (by decide +kernel) (by decide +kernel)
set_option maxRecDepth 20000 in
theorem wsL_law_r16_in : GoodIn lw_tbl wsL_law_r16 := goodIn_r _ [438, 439, 278, 440, 442, 7, 443, 444, 445, 446, 448, 8, 449, 450, 451, 452, 930, 931, 932, 933, 934, 936, 34, 937] (by decide +kernel) (by decide +kernel)
set_option maxRecDepth 20000 in
theorem wsL_law_r17_in : GoodIn lw_tbl wsL_law_r17 := goodIn_r _ [938, 940, 35, 941, 942, 943, 944, 945, 947, 36, 948, 949, 951, 37, 952, 453, 454, 455, 456, 457, 458, 953, 954, 955] (by decide +kernel) (by decide +kernel)
set_option maxRecDepth 20000 in
theorem wsL_law_r18_in : GoodIn lw_tbl wsL_law_r18 := goodIn_r _ [956, 459, 460, 461, 462, 463, 464, 465, 466, 957, 958, 959, 960, 961, 963, 38, 964, 467, 468, 469, 470, 471, 472, 473] (by decide +kernel) (by decide +kernel)
