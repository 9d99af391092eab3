set_option maxRecDepth 20000 in
theorem ggL_law_X10_howMany : GoodIn wsL_law wsX10_howMany := goodIn_r _ [508, 509, 119, 120, 108, 118, 121, 122, 238, 239, 240, 5, 241, 159, 160, 161, 162, 380, 381, 382, 383, 109, 384, 385, 386, 387, 110, 242, 243, 244, 421, 422, 423, 424, 871, 872, 873, 874, 875, 876, 877, 878, 879, 880, 881, 882, 883, 884, 885, 886, 887, 888, 889, 890, 891, 892, 893, 894, 895, 896, 897] (by decide +kernel) (by decide +kernel)
set_option maxRecDepth 20000 in
theorem gL_law_X10_howMany : GoodIn wsL_law (wsV RL 69 RX10 yX10_howMany wsX10_howMany) := goodIn_app (goodIn_of _ (by decide +kernel)) ggL_law_X10_howMany
set_option maxRecDepth 20000 in
theorem ggL_law_X9_loops : GoodIn wsL_law wsX9_loops := goodIn_r _ [513, 429, 27, 171, 172, 173, 2, 174, 137, 13, 140, 141, 142, 514, 515, 516, 26, 517, 518, 66, 519, 520, 521, 522, 65, 523, 468, 469, 470, 524, 525, 526, 527, 528, 529, 530, 445, 531, 532, 208, 209, 139, 210, 147, 197, 211, 212, 213, 214, 533, 534, 535, 536, 67, 860, 861, 862, 863, 864, 865, 866, 867, 868, 869, 870, 926, 927, 928, 929, 930, 931, 932, 904, 905, 906, 907, 908] (by decide +kernel) (by decide +kernel)
set_option maxRecDepth 20000 in
theorem gL_law_X9_loops : GoodIn wsL_law (wsV RL 70 RX9 yX9_loops wsX9_loops) := goodIn_app (goodIn_of _ (by decide +kernel)) ggL_law_X9_loops
set_option maxRecDepth 20000 in
theorem ggL_law_X10_loops : GoodIn wsL_law wsX10_loops := goodIn_r _ [540, 509, 109, 123, 238, 239, 240, 5, 241, 159, 160, 161, 162, 380, 381, 382, 383, 384, 385, 386, 387, 108, 110, 242, 243, 244, 541, 542, 543, 544, 124, 545, 546, 547, 548, 549, 550, 551, 552, 871, 872, 873, 874, 875, 876, 877, 878, 879, 880, 881, 882, 883, 884, 885, 886, 887, 888, 889, 890, 891, 892, 893, 894, 895, 896, 897] (by decide +kernel) (by decide +kernel)
set_option maxRecDepth 20000 in
theorem gL_law_X10_loops : GoodIn wsL_law (wsV RL 73 RX10 yX10_loops wsX10_loops) := goodIn_app (goodIn_of _ (by decide +kernel)) ggL_law_X10_loops
set_option maxRecDepth 20000 in
theorem ggL_law_X9_rounds : GoodIn wsL_law wsX9_rounds := goodIn_r _ [556, 38, 171, 172, 173, 2, 174, 137, 13, 140, 141, 142, 557, 558, 559, 37, 560, 91, 92, 434, 436, 561, 444, 445, 446, 319, 320, 500, 414, 415, 139, 416, 149, 148, 562, 563, 564, 565, 566, 567, 568, 569, 860, 861, 862, 863, 864, 865, 866, 867, 868, 869, 870, 916, 917, 918, 919, 920, 921, 926, 927, 928, 929, 930, 931, 932] (by decide +kernel) (by decide +kernel)
set_option maxRecDepth 20000 in
theorem gL_law_X9_rounds : GoodIn wsL_law (wsV RL 74 RX9 yX9_rounds wsX9_rounds) := goodIn_app (goodIn_of _ (by decide +kernel)) ggL_law_X9_rounds
set_option maxRecDepth 20000 in
theorem ggL_law_X10_rounds : GoodIn wsL_law wsX10_rounds := goodIn_r _ [573, 108, 238, 239, 240, 5, 241, 159, 160, 161, 162, 380, 381, 382, 383, 109, 384, 385, 386, 387, 110, 242, 243, 244, 421, 422, 423, 424, 871, 872, 873, 874, 875, 876, 877, 878, 879, 880, 881, 882, 883, 884, 885, 886, 887, 888, 889, 890, 891, 892, 893, 894, 895, 896, 897] (by decide +kernel) (by decide +kernel)
set_option maxRecDepth 20000 in
theorem gL_law_X10_rounds : GoodIn wsL_law (wsV RL 77 RX10 yX10_rounds wsX10_rounds) := goodIn_app (goodIn_of _ (by decide +kernel)) ggL_law_X10_rounds
set_option maxRecDepth 20000 in
theorem ggL_law_X9_growth : GoodIn wsL_law wsX9_growth := goodIn_r _ [577, 429, 355, 578, 27, 171, 172, 173, 2, 174, 137, 13, 140, 141, 142, 579, 580, 581, 26, 582, 518, 69, 65, 68, 524, 525, 526, 527, 528, 529, 530, 445, 531, 532, 208, 209, 139, 210, 147, 197, 211, 212, 213, 214, 583, 584, 585, 586, 587, 588, 589, 590, 591, 592, 593, 594, 595, 596, 597, 598, 599, 600, 311, 312, 313, 601, 602, 603, 604, 605, 926, 927, 928, 929, 930, 931, 932, 860, 861, 862, 863, 864, 865, 866, 867, 868, 869, 870, 904, 905, 906, 907, 908] (by decide +kernel) (by decide +kernel)
set_option maxRecDepth 20000 in
theorem gL_law_X9_growth : GoodIn wsL_law (wsV RL 78 RX9 yX9_growth wsX9_growth) := goodIn_app (goodIn_of _ (by decide +kernel)) ggL_law_X9_growth
set_option maxRecDepth 20000 in
theorem ggL_law_X10_growth : GoodIn wsL_law wsX10_growth := goodIn_r _ [609, 509, 610, 109, 123, 124, 238, 239, 240, 5, 241, 159, 160, 161, 162, 380, 381, 382, 383, 384, 385, 386, 387, 108, 110, 242, 243, 244, 541, 542, 543, 544, 545, 546, 547, 548, 549, 550, 551, 552, 611, 612, 613, 614, 615, 616, 871, 872, 873, 874, 875, 876, 877, 878, 879, 880, 881, 882, 883, 884, 885, 886, 887, 888, 889, 890, 891, 892, 893, 894, 895, 896, 897] (by decide +kernel) (by decide +kernel)
set_option maxRecDepth 20000 in
theorem gL_law_X10_growth : GoodIn wsL_law (wsV RL 82 RX10 yX10_growth wsX10_growth) := goodIn_app (goodIn_of _ (by decide +kernel)) ggL_law_X10_growth
set_option maxRecDepth 20000 in
theorem ggL_law_X9_same : GoodIn wsL_law wsX9_same := goodIn_r _ [620, 352, 42, 15, 257, 171, 172, 173, 2, 174, 137, 13, 140, 141, 142, 621, 622, 623, 41, 624, 98, 625, 626, 627, 628, 629, 630, 631, 438, 439, 34, 440, 83, 441, 442, 82, 443, 444, 445, 446, 632, 448, 449, 450, 80, 81, 451, 452, 453, 454, 14, 455, 456, 457, 458, 459, 460, 461, 462, 463, 464, 465, 312, 466, 467, 468, 469, 470, 471, 472, 473, 474, 475, 633, 497, 498, 499, 634, 414, 415, 139, 416, 149, 148, 635, 636, 637, 638, 639, 640, 641, 642, 643, 644, 645, 646, 647, 648, 649, 650, 651, 652, 653, 654, 655, 926, 927, 928, 929, 930, 931, 932, 860, 861, 862, 863, 864, 865, 866, 867, 868, 869, 870, 922, 923, 924, 911, 912, 913, 914, 915] (by decide +kernel) (by decide +kernel)
set_option maxRecDepth 20000 in
theorem gL_law_X9_same : GoodIn wsL_law (wsV RL 83 RX9 yX9_same wsX9_same) := goodIn_app (goodIn_of _ (by decide +kernel)) ggL_law_X9_same
set_option maxRecDepth 20000 in
theorem ggL_law_X10_same : GoodIn wsL_law wsX10_same := goodIn_r _ [659, 108, 262, 660, 125, 661, 238, 239, 240, 5, 241, 159, 160, 161, 162, 380, 381, 382, 383, 109, 384, 385, 386, 387, 110, 242, 243, 244, 662, 663, 664, 665, 129, 130, 666, 667, 668, 669, 670, 671, 128, 126, 127, 421, 422, 423, 424, 672, 673, 674, 675, 111, 871, 872, 873, 874, 875, 876, 877, 878, 879, 880, 881, 882, 883, 884, 885, 886, 887, 888, 889, 890, 891, 892, 893, 894, 895, 896, 897] (by decide +kernel) (by decide +kernel)
set_option maxRecDepth 20000 in
theorem gL_law_X10_same : GoodIn wsL_law (wsV RL 86 RX10 yX10_same wsX10_same) := goodIn_app (goodIn_of _ (by decide +kernel)) ggL_law_X10_same
