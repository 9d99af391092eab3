set_option maxRecDepth 20000 in
theorem wsL_law_r25_in : GoodIn lw_tbl wsL_law_r25 := goodIn_r _ [589, 590, 591, 592, 593, 594, 595, 596, 598, 19, 599, 600, 601, 603, 20, 604, 605, 607, 21, 608, 609, 611, 22, 612] (by decide +kernel) (by decide +kernel)
set_option maxRecDepth 20000 in
theorem wsL_law_r26_in : GoodIn lw_tbl wsL_law_r26 := goodIn_r _ [616, 613, 614, 615, 618, 619, 990, 991, 992, 993, 994, 995, 996, 997, 998, 999, 1000, 620, 621, 622, 623, 624, 625, 626] (by decide +kernel) (by decide +kernel)
set_option maxRecDepth 20000 in
theorem wsL_law_r27_in : GoodIn lw_tbl wsL_law_r27 := goodIn_r _ [627, 205, 286, 157, 273, 632, 206, 628, 629, 630, 631, 633, 635, 23, 636, 637, 638, 639, 640, 641, 642, 643, 644, 653] (by decide +kernel) (by decide +kernel)
set_option maxRecDepth 20000 in
theorem wsL_law_r28_in : GoodIn lw_tbl wsL_law_r28 := goodIn_r _ [645, 647, 24, 648, 649, 650, 651, 652, 1001, 1002, 1003, 1004, 810, 1015, 1005, 1007, 42, 1008, 1009, 1011, 43, 1012, 1013, 1014] (by decide +kernel) (by decide +kernel)
set_option maxRecDepth 20000 in
theorem wsL_law_r29_in : GoodIn lw_tbl wsL_law_r29 := goodIn_r _ [1016, 1018, 44, 1019, 654, 655, 656, 657, 658, 659, 660, 661, 1020, 1021, 1022, 1023, 662, 663, 664, 665, 666, 667, 668, 669] (by decide +kernel) (by decide +kernel)
set_option maxRecDepth 20000 in
theorem wsL_law_r30_in : GoodIn lw_tbl wsL_law_r30 := goodIn_r _ [670, 672, 25, 673, 674, 675, 677, 26, 678, 679, 680, 681, 1024, 1025, 1026, 1027, 683, 684, 685, 686, 687, 688, 689, 690] (by decide +kernel) (by decide +kernel)
