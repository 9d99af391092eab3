set_option maxRecDepth 20000 in
theorem ggL_law_X9_part : GoodIn wsL_law wsX9_part := goodIn_r _ [679, 31, 171, 172, 173, 2, 174, 137, 13, 140, 141, 142, 403, 180, 181, 139, 182, 150, 404, 212, 213, 214, 197, 680, 681, 682, 30, 683, 363, 364, 365, 366, 74, 362, 367, 204, 205, 206, 149, 207, 208, 209, 210, 147, 211, 369, 370, 371, 372, 373, 374, 375, 860, 861, 862, 863, 864, 865, 866, 867, 868, 869, 870, 926, 927, 928, 929, 930, 931, 932, 909, 910] (by decide +kernel) (by decide +kernel)
set_option maxRecDepth 20000 in
theorem gL_law_X9_part : GoodIn wsL_law (wsV RL 87 RX9 yX9_part wsX9_part) := goodIn_app (goodIn_of _ (by decide +kernel)) ggL_law_X9_part
set_option maxRecDepth 20000 in
theorem ggL_law_X10_part : GoodIn wsL_law wsX10_part := goodIn_r _ [687, 234, 235, 236, 5, 237, 109, 238, 239, 240, 241, 159, 160, 161, 162, 380, 381, 382, 383, 384, 385, 386, 387, 108, 110, 242, 243, 244, 391, 392, 393, 394, 395, 396, 397, 398, 871, 872, 873, 874, 875, 876, 877, 878, 879, 880, 881, 882, 883, 884, 885, 886, 887, 888, 889, 890, 891, 892, 893, 894, 895, 896, 897] (by decide +kernel) (by decide +kernel)
set_option maxRecDepth 20000 in
theorem gL_law_X10_part : GoodIn wsL_law (wsV RL 90 RX10 yX10_part wsX10_part) := goodIn_app (goodIn_of _ (by decide +kernel)) ggL_law_X10_part
set_option maxRecDepth 20000 in
theorem ggL_law_X9_pace : GoodIn wsL_law wsX9_pace := goodIn_r _ [691, 31, 171, 172, 173, 2, 174, 137, 13, 140, 141, 142, 403, 180, 181, 139, 182, 150, 404, 212, 213, 214, 197, 692, 693, 694, 30, 695, 362, 363, 364, 365, 366, 74, 367, 204, 205, 206, 149, 207, 208, 209, 210, 147, 211, 369, 370, 371, 372, 696, 697, 698, 699, 75, 700, 444, 445, 446, 701, 702, 703, 704, 705, 706, 312, 707, 604, 605, 860, 861, 862, 863, 864, 865, 866, 867, 868, 869, 870, 926, 927, 928, 929, 930, 931, 932, 909, 910] (by decide +kernel) (by decide +kernel)
set_option maxRecDepth 20000 in
theorem gL_law_X9_pace : GoodIn wsL_law (wsV RL 91 RX9 yX9_pace wsX9_pace) := goodIn_app (goodIn_of _ (by decide +kernel)) ggL_law_X9_pace
set_option maxRecDepth 20000 in
theorem ggL_law_X10_pace : GoodIn wsL_law wsX10_pace := goodIn_r _ [711, 109, 131, 234, 235, 236, 5, 237, 238, 239, 240, 241, 159, 160, 161, 162, 380, 381, 382, 383, 384, 385, 386, 387, 108, 110, 242, 243, 244, 395, 396, 397, 398, 545, 546, 547, 548, 614, 615, 616, 871, 872, 873, 874, 875, 876, 877, 878, 879, 880, 881, 882, 883, 884, 885, 886, 887, 888, 889, 890, 891, 892, 893, 894, 895, 896, 897] (by decide +kernel) (by decide +kernel)
set_option maxRecDepth 20000 in
theorem gL_law_X10_pace : GoodIn wsL_law (wsV RL 94 RX10 yX10_pace wsX10_pace) := goodIn_app (goodIn_of _ (by decide +kernel)) ggL_law_X10_pace
set_option maxRecDepth 20000 in
theorem ggL_law_X9_window : GoodIn wsL_law wsX9_window := goodIn_r _ [715, 23, 140, 141, 2, 142, 716, 717, 718, 22, 719, 58, 59, 720, 444, 445, 446, 860, 861, 862, 863, 864, 865, 866, 867, 868, 869, 870, 902, 903] (by decide +kernel) (by decide +kernel)
set_option maxRecDepth 20000 in
theorem gL_law_X9_window : GoodIn wsL_law (wsV RL 95 RX9 yX9_window wsX9_window) := goodIn_app (goodIn_of _ (by decide +kernel)) ggL_law_X9_window
set_option maxRecDepth 20000 in
theorem ggL_law_X10_window : GoodIn wsL_law wsX10_window := goodIn_r _ [724, 114, 115, 160, 161, 5, 162, 871, 872, 873, 874, 875, 876, 877, 878, 879, 880, 881, 882, 883, 884, 885, 886, 887, 888, 889, 890, 891, 892, 893, 894, 895, 896, 897] (by decide +kernel) (by decide +kernel)
set_option maxRecDepth 20000 in
theorem gL_law_X10_window : GoodIn wsL_law (wsV RL 98 RX10 yX10_window wsX10_window) := goodIn_app (goodIn_of _ (by decide +kernel)) ggL_law_X10_window
set_option maxRecDepth 20000 in
theorem ggL_law_X9_tells : GoodIn wsL_law wsX9_tells := goodIn_r _ [728, 23, 729, 730, 731, 732, 22, 733, 58, 140, 141, 2, 142, 860, 861, 862, 863, 864, 865, 866, 867, 868, 869, 870, 902, 903] (by decide +kernel) (by decide +kernel)
set_option maxRecDepth 20000 in
theorem gL_law_X9_tells : GoodIn wsL_law (wsV RL 99 RX9 yX9_tells wsX9_tells) := goodIn_app (goodIn_of _ (by decide +kernel)) ggL_law_X9_tells
set_option maxRecDepth 20000 in
theorem ggL_law_X10_tells : GoodIn wsL_law wsX10_tells := goodIn_r _ [737, 115, 738, 739, 740, 5, 741, 114, 160, 161, 162, 871, 872, 873, 874, 875, 876, 877, 878, 879, 880, 881, 882, 883, 884, 885, 886, 887, 888, 889, 890, 891, 892, 893, 894, 895, 896, 897] (by decide +kernel) (by decide +kernel)
set_option maxRecDepth 20000 in
theorem gL_law_X10_tells : GoodIn wsL_law (wsV RL 102 RX10 yX10_tells wsX10_tells) := goodIn_app (goodIn_of _ (by decide +kernel)) ggL_law_X10_tells
set_option maxRecDepth 20000 in
theorem ggL_law_X9_maps : GoodIn wsL_law wsX9_maps := goodIn_r _ [745, 46, 23, 171, 172, 173, 2, 174, 137, 13, 140, 141, 142, 746, 747, 748, 45, 749, 103, 750, 751, 752, 753, 754, 438, 439, 34, 440, 83, 441, 442, 82, 443, 444, 445, 446, 755, 756, 757, 758, 759, 448, 449, 450, 80, 81, 451, 452, 453, 454, 14, 455, 456, 457, 458, 459, 460, 461, 462, 463, 464, 465, 312, 466, 467, 468, 469, 470, 471, 472, 473, 474, 475, 760, 497, 498, 499, 761, 208, 209, 139, 210, 147, 197, 211, 212, 213, 214, 762, 763, 764, 765, 766, 767, 768, 731, 732, 22, 733, 58, 769, 414, 415, 416, 149, 148, 860, 861, 862, 863, 864, 865, 866, 867, 868, 869, 870, 925, 926, 927, 928, 929, 930, 931, 932, 911, 912, 913, 914, 915, 902, 903] (by decide +kernel) (by decide +kernel)
set_option maxRecDepth 20000 in
theorem gL_law_X9_maps : GoodIn wsL_law (wsV RL 103 RX9 yX9_maps wsX9_maps) := goodIn_app (goodIn_of _ (by decide +kernel)) ggL_law_X9_maps
