set_option maxRecDepth 20000 in
theorem ggL_law_X9_byWords : GoodIn wsL_law wsX9_byWords := goodIn_r _ [305, 19, 137, 12, 138, 139, 140, 141, 2, 142, 306, 307, 308, 18, 309, 288, 51, 52, 310, 311, 312, 313, 314, 315, 316, 317, 318, 319, 320, 143, 144, 145, 146, 10, 11, 14, 147, 148, 149, 150, 321, 322, 323, 324, 325, 326, 53, 327, 328, 329, 330, 331, 332, 333, 334, 335, 336, 337, 338, 339, 188, 189, 190, 191, 192, 184, 185, 186, 193, 194, 195, 196, 197, 198, 199, 200, 201, 202, 203, 204, 205, 206, 207, 208, 209, 210, 211, 212, 213, 214, 215, 216, 217, 218, 219, 220, 221, 222, 223, 224, 225, 151, 152, 153, 154, 13, 860, 861, 862, 863, 864, 865, 866, 867, 868, 869, 870, 926, 927, 928, 929, 930, 931, 932, 898, 899, 900, 901] (by decide +kernel) (by decide +kernel)
set_option maxRecDepth 20000 in
theorem gL_law_X9_byWords : GoodIn wsL_law (wsV RL 49 RX9 yX9_byWords wsX9_byWords) := goodIn_app (goodIn_of _ (by decide +kernel)) ggL_law_X9_byWords
set_option maxRecDepth 20000 in
theorem ggL_law_X10_byWords : GoodIn wsL_law wsX10_byWords := goodIn_r _ [343, 293, 112, 113, 159, 116, 110, 160, 161, 5, 162, 163, 164, 165, 166, 108, 109, 344, 345, 346, 347, 242, 243, 244, 871, 872, 873, 874, 875, 876, 877, 878, 879, 880, 881, 882, 883, 884, 885, 886, 887, 888, 889, 890, 891, 892, 893, 894, 895, 896, 897] (by decide +kernel) (by decide +kernel)
set_option maxRecDepth 20000 in
theorem gL_law_X10_byWords : GoodIn wsL_law (wsV RL 52 RX10 yX10_byWords wsX10_byWords) := goodIn_app (goodIn_of _ (by decide +kernel)) ggL_law_X10_byWords
set_option maxRecDepth 20000 in
theorem ggL_law_X9_about : GoodIn wsL_law wsX9_about := goodIn_r _ [351, 352, 353, 354, 355, 356, 31, 171, 172, 173, 2, 174, 137, 13, 140, 141, 142, 357, 216, 217, 218, 219, 220, 221, 358, 359, 360, 30, 361, 362, 363, 364, 365, 366, 74, 367, 204, 205, 139, 206, 149, 207, 208, 209, 210, 147, 197, 211, 212, 213, 214, 368, 369, 370, 371, 372, 373, 374, 375, 926, 927, 928, 929, 930, 931, 932, 860, 861, 862, 863, 864, 865, 866, 867, 868, 869, 870, 909, 910] (by decide +kernel) (by decide +kernel)
set_option maxRecDepth 20000 in
theorem gL_law_X9_about : GoodIn wsL_law (wsV RL 53 RX9 yX9_about wsX9_about) := goodIn_app (goodIn_of _ (by decide +kernel)) ggL_law_X9_about
set_option maxRecDepth 20000 in
theorem ggL_law_X10_about : GoodIn wsL_law wsX10_about := goodIn_r _ [379, 108, 109, 110, 238, 239, 240, 5, 241, 159, 160, 161, 162, 380, 381, 382, 383, 384, 385, 386, 387, 242, 243, 244, 388, 389, 390, 391, 392, 393, 394, 395, 396, 397, 398, 871, 872, 873, 874, 875, 876, 877, 878, 879, 880, 881, 882, 883, 884, 885, 886, 887, 888, 889, 890, 891, 892, 893, 894, 895, 896, 897] (by decide +kernel) (by decide +kernel)
set_option maxRecDepth 20000 in
theorem gL_law_X10_about : GoodIn wsL_law (wsV RL 56 RX10 yX10_about wsX10_about) := goodIn_app (goodIn_of _ (by decide +kernel)) ggL_law_X10_about
set_option maxRecDepth 20000 in
theorem ggL_law_X9_live : GoodIn wsL_law wsX9_live := goodIn_r _ [402, 171, 172, 173, 2, 174, 137, 13, 140, 141, 142, 403, 180, 181, 139, 182, 150, 404, 212, 213, 214, 197, 860, 861, 862, 863, 864, 865, 866, 867, 868, 869, 870, 926, 927, 928, 929, 930, 931, 932] (by decide +kernel) (by decide +kernel)
set_option maxRecDepth 20000 in
theorem gL_law_X9_live : GoodIn wsL_law (wsV RL 57 RX9 yX9_live wsX9_live) := goodIn_app (goodIn_of _ (by decide +kernel)) ggL_law_X9_live
set_option maxRecDepth 20000 in
theorem ggL_law_X10_live : GoodIn wsL_law wsX10_live := goodIn_r _ [408, 234, 235, 236, 5, 237, 109, 238, 239, 240, 241, 159, 160, 161, 162, 380, 381, 382, 383, 384, 385, 386, 387, 108, 110, 242, 243, 244, 871, 872, 873, 874, 875, 876, 877, 878, 879, 880, 881, 882, 883, 884, 885, 886, 887, 888, 889, 890, 891, 892, 893, 894, 895, 896, 897] (by decide +kernel) (by decide +kernel)
set_option maxRecDepth 20000 in
theorem gL_law_X10_live : GoodIn wsL_law (wsV RL 60 RX10 yX10_live wsX10_live) := goodIn_app (goodIn_of _ (by decide +kernel)) ggL_law_X10_live
set_option maxRecDepth 20000 in
theorem ggL_law_X9_may : GoodIn wsL_law wsX9_may := goodIn_r _ [412, 355, 257, 15, 171, 172, 173, 2, 174, 137, 13, 140, 141, 142, 413, 414, 415, 139, 416, 149, 148, 926, 927, 928, 929, 930, 931, 932, 860, 861, 862, 863, 864, 865, 866, 867, 868, 869, 870] (by decide +kernel) (by decide +kernel)
set_option maxRecDepth 20000 in
theorem gL_law_X9_may : GoodIn wsL_law (wsV RL 61 RX9 yX9_may wsX9_may) := goodIn_app (goodIn_of _ (by decide +kernel)) ggL_law_X9_may
set_option maxRecDepth 20000 in
theorem ggL_law_X10_may : GoodIn wsL_law wsX10_may := goodIn_r _ [420, 262, 111, 238, 239, 240, 5, 241, 159, 160, 161, 162, 380, 381, 382, 383, 109, 384, 385, 386, 387, 108, 110, 242, 243, 244, 421, 422, 423, 424, 871, 872, 873, 874, 875, 876, 877, 878, 879, 880, 881, 882, 883, 884, 885, 886, 887, 888, 889, 890, 891, 892, 893, 894, 895, 896, 897] (by decide +kernel) (by decide +kernel)
set_option maxRecDepth 20000 in
theorem gL_law_X10_may : GoodIn wsL_law (wsV RL 64 RX10 yX10_may wsX10_may) := goodIn_app (goodIn_of _ (by decide +kernel)) ggL_law_X10_may
set_option maxRecDepth 20000 in
theorem ggL_law_X9_howMany : GoodIn wsL_law wsX9_howMany := goodIn_r _ [428, 429, 38, 171, 172, 173, 2, 174, 137, 13, 140, 141, 142, 430, 431, 432, 37, 433, 93, 434, 89, 435, 436, 437, 438, 439, 34, 440, 83, 441, 442, 82, 443, 444, 445, 446, 447, 448, 449, 450, 80, 81, 451, 452, 453, 454, 14, 455, 456, 457, 458, 459, 460, 461, 462, 463, 464, 465, 312, 466, 467, 468, 469, 470, 471, 472, 473, 474, 475, 476, 477, 478, 479, 90, 88, 480, 481, 482, 483, 484, 485, 486, 487, 488, 489, 490, 64, 491, 492, 493, 494, 495, 496, 497, 498, 499, 500, 414, 415, 139, 416, 149, 148, 501, 502, 503, 504, 860, 861, 862, 863, 864, 865, 866, 867, 868, 869, 870, 916, 917, 918, 919, 920, 921, 926, 927, 928, 929, 930, 931, 932, 911, 912, 913, 914, 915] (by decide +kernel) (by decide +kernel)
set_option maxRecDepth 20000 in
theorem gL_law_X9_howMany : GoodIn wsL_law (wsV RL 65 RX9 yX9_howMany wsX9_howMany) := goodIn_app (goodIn_of _ (by decide +kernel)) ggL_law_X9_howMany
