set_option maxRecDepth 20000 in
theorem wsL_law_r19_in : GoodIn lw_tbl wsL_law_r19 := goodIn_r _ [474, 475, 284, 156, 271, 476, 477, 478, 479, 154, 480, 481, 482, 62, 483, 484, 485, 486, 487, 488, 490, 9, 491, 492] (by decide +kernel) (by decide +kernel)
set_option maxRecDepth 20000 in
theorem wsL_law_r20_in : GoodIn lw_tbl wsL_law_r20 := goodIn_r _ [493, 494, 495, 496, 497, 498, 499, 501, 502, 503, 504, 505, 507, 506, 63, 508, 510, 10, 511, 512, 513, 515, 11, 516] (by decide +kernel) (by decide +kernel)
set_option maxRecDepth 20000 in
theorem wsL_law_r21_in : GoodIn lw_tbl wsL_law_r21 := goodIn_r _ [517, 518, 519, 520, 521, 522, 523, 524, 525, 526, 528, 529, 530, 532, 12, 533, 534, 535, 536, 537, 539, 540, 542, 13] (by decide +kernel) (by decide +kernel)
set_option maxRecDepth 20000 in
theorem wsL_law_r22_in : GoodIn lw_tbl wsL_law_r22 := goodIn_r _ [543, 965, 966, 967, 968, 969, 544, 545, 546, 547, 548, 549, 550, 551, 279, 552, 554, 14, 555, 564, 556, 558, 15, 559] (by decide +kernel) (by decide +kernel)
set_option maxRecDepth 20000 in
theorem wsL_law_r23_in : GoodIn lw_tbl wsL_law_r23 := goodIn_r _ [274, 560, 561, 562, 563, 565, 567, 16, 568, 970, 971, 972, 973, 974, 976, 39, 977, 978, 980, 40, 981, 982, 984, 41] (by decide +kernel) (by decide +kernel)
set_option maxRecDepth 20000 in
theorem wsL_law_r24_in : GoodIn lw_tbl wsL_law_r24 := goodIn_r _ [985, 569, 570, 571, 572, 573, 574, 575, 576, 577, 579, 581, 17, 582, 583, 585, 18, 586, 986, 987, 988, 989, 587, 588] (by decide +kernel) (by decide +kernel)
