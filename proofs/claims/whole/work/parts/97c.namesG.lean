set_option maxRecDepth 20000 in
theorem ggL_law_X10_empty : GoodIn wsL_law wsX10_empty := goodIn_r _ [261, 262, 871, 872, 873, 874, 875, 876, 877, 878, 879, 880, 881, 882, 883, 884, 885, 886, 887, 888, 889, 890, 891, 892, 893, 894, 895, 896, 897] (by decide +kernel) (by decide +kernel)
set_option maxRecDepth 20000 in
theorem gL_law_X10_empty : GoodIn wsL_law (wsV RL 31 RX10 yX10_empty wsX10_empty) := goodIn_app (goodIn_of _ (by decide +kernel)) ggL_law_X10_empty
set_option maxRecDepth 20000 in
theorem ggL_law_X9_letter : GoodIn wsL_law wsX9_letter := goodIn_r _ [266, 257, 15, 140, 141, 2, 142, 860, 861, 862, 863, 864, 865, 866, 867, 868, 869, 870] (by decide +kernel) (by decide +kernel)
set_option maxRecDepth 20000 in
theorem gL_law_X9_letter : GoodIn wsL_law (wsV RL 32 RX9 yX9_letter wsX9_letter) := goodIn_app (goodIn_of _ (by decide +kernel)) ggL_law_X9_letter
set_option maxRecDepth 20000 in
theorem ggL_law_X10_letter : GoodIn wsL_law wsX10_letter := goodIn_r _ [270, 262, 111, 160, 161, 5, 162, 871, 872, 873, 874, 875, 876, 877, 878, 879, 880, 881, 882, 883, 884, 885, 886, 887, 888, 889, 890, 891, 892, 893, 894, 895, 896, 897] (by decide +kernel) (by decide +kernel)
set_option maxRecDepth 20000 in
theorem gL_law_X10_letter : GoodIn wsL_law (wsV RL 36 RX10 yX10_letter wsX10_letter) := goodIn_app (goodIn_of _ (by decide +kernel)) ggL_law_X10_letter
set_option maxRecDepth 20000 in
theorem ggL_law_X9_letterAt : GoodIn wsL_law wsX9_letterAt := goodIn_r _ [274, 257, 15, 140, 141, 2, 142, 860, 861, 862, 863, 864, 865, 866, 867, 868, 869, 870] (by decide +kernel) (by decide +kernel)
set_option maxRecDepth 20000 in
theorem gL_law_X9_letterAt : GoodIn wsL_law (wsV RL 37 RX9 yX9_letterAt wsX9_letterAt) := goodIn_app (goodIn_of _ (by decide +kernel)) ggL_law_X9_letterAt
set_option maxRecDepth 20000 in
theorem ggL_law_X10_letterAt : GoodIn wsL_law wsX10_letterAt := goodIn_r _ [278, 262, 111, 160, 161, 5, 162, 871, 872, 873, 874, 875, 876, 877, 878, 879, 880, 881, 882, 883, 884, 885, 886, 887, 888, 889, 890, 891, 892, 893, 894, 895, 896, 897] (by decide +kernel) (by decide +kernel)
set_option maxRecDepth 20000 in
theorem gL_law_X10_letterAt : GoodIn wsL_law (wsV RL 40 RX10 yX10_letterAt wsX10_letterAt) := goodIn_app (goodIn_of _ (by decide +kernel)) ggL_law_X10_letterAt
set_option maxRecDepth 20000 in
theorem ggL_law_X9_forbid : GoodIn wsL_law wsX9_forbid := goodIn_r _ [282, 257, 19, 283, 15, 140, 141, 2, 142, 284, 285, 286, 18, 287, 51, 288, 52, 860, 861, 862, 863, 864, 865, 866, 867, 868, 869, 870, 898, 899, 900, 901] (by decide +kernel) (by decide +kernel)
set_option maxRecDepth 20000 in
theorem gL_law_X9_forbid : GoodIn wsL_law (wsV RL 41 RX9 yX9_forbid wsX9_forbid) := goodIn_app (goodIn_of _ (by decide +kernel)) ggL_law_X9_forbid
set_option maxRecDepth 20000 in
theorem ggL_law_X10_forbid : GoodIn wsL_law wsX10_forbid := goodIn_r _ [292, 262, 293, 112, 113, 111, 160, 161, 5, 162, 871, 872, 873, 874, 875, 876, 877, 878, 879, 880, 881, 882, 883, 884, 885, 886, 887, 888, 889, 890, 891, 892, 893, 894, 895, 896, 897] (by decide +kernel) (by decide +kernel)
set_option maxRecDepth 20000 in
theorem gL_law_X10_forbid : GoodIn wsL_law (wsV RL 44 RX10 yX10_forbid wsX10_forbid) := goodIn_app (goodIn_of _ (by decide +kernel)) ggL_law_X10_forbid
set_option maxRecDepth 20000 in
theorem ggL_law_X9_unforbid : GoodIn wsL_law wsX9_unforbid := goodIn_r _ [297, 19, 283, 860, 861, 862, 863, 864, 865, 866, 867, 868, 869, 870, 898, 899, 900, 901] (by decide +kernel) (by decide +kernel)
set_option maxRecDepth 20000 in
theorem gL_law_X9_unforbid : GoodIn wsL_law (wsV RL 45 RX9 yX9_unforbid wsX9_unforbid) := goodIn_app (goodIn_of _ (by decide +kernel)) ggL_law_X9_unforbid
set_option maxRecDepth 20000 in
theorem ggL_law_X10_unforbid : GoodIn wsL_law wsX10_unforbid := goodIn_r _ [301, 293, 871, 872, 873, 874, 875, 876, 877, 878, 879, 880, 881, 882, 883, 884, 885, 886, 887, 888, 889, 890, 891, 892, 893, 894, 895, 896, 897] (by decide +kernel) (by decide +kernel)
set_option maxRecDepth 20000 in
theorem gL_law_X10_unforbid : GoodIn wsL_law (wsV RL 48 RX10 yX10_unforbid wsX10_unforbid) := goodIn_app (goodIn_of _ (by decide +kernel)) ggL_law_X10_unforbid
