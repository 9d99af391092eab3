set_option maxRecDepth 20000 in
theorem ggL_law_X10_maps : GoodIn wsL_law wsX10_maps := goodIn_r _ [773, 109, 660, 125, 774, 775, 661, 108, 110, 114, 115, 238, 239, 240, 5, 241, 159, 160, 161, 162, 380, 381, 382, 383, 384, 385, 386, 387, 242, 243, 244, 662, 663, 664, 665, 129, 130, 666, 667, 668, 669, 670, 671, 128, 126, 127, 421, 422, 423, 424, 871, 872, 873, 874, 875, 876, 877, 878, 879, 880, 881, 882, 883, 884, 885, 886, 887, 888, 889, 890, 891, 892, 893, 894, 895, 896, 897] (by decide +kernel) (by decide +kernel)
set_option maxRecDepth 20000 in
theorem gL_law_X10_maps : GoodIn wsL_law (wsV RL 106 RX10 yX10_maps wsX10_maps) := goodIn_app (goodIn_of _ (by decide +kernel)) ggL_law_X10_maps
set_option maxRecDepth 20000 in
theorem ggL_law_X9_weights : GoodIn wsL_law wsX9_weights := goodIn_r _ [779, 27, 171, 172, 173, 2, 174, 137, 13, 140, 141, 142, 780, 781, 782, 783, 784, 785, 26, 786, 518, 69, 68, 66, 787, 788, 312, 789, 519, 520, 521, 522, 65, 523, 468, 469, 470, 524, 525, 526, 527, 528, 529, 530, 445, 531, 532, 208, 209, 139, 210, 147, 197, 211, 212, 213, 214, 533, 534, 535, 536, 67, 583, 584, 585, 586, 587, 588, 589, 590, 591, 592, 593, 594, 595, 790, 791, 792, 793, 794, 795, 796, 797, 798, 180, 181, 182, 150, 860, 861, 862, 863, 864, 865, 866, 867, 868, 869, 870, 926, 927, 928, 929, 930, 931, 932, 904, 905, 906, 907, 908] (by decide +kernel) (by decide +kernel)
set_option maxRecDepth 20000 in
theorem gL_law_X9_weights : GoodIn wsL_law (wsV RL 107 RX9 yX9_weights wsX9_weights) := goodIn_app (goodIn_of _ (by decide +kernel)) ggL_law_X9_weights
set_option maxRecDepth 20000 in
theorem ggL_law_X10_weights : GoodIn wsL_law wsX10_weights := goodIn_r _ [802, 109, 132, 803, 804, 805, 5, 806, 238, 239, 240, 241, 159, 160, 161, 162, 807, 808, 809, 810, 123, 380, 381, 382, 383, 384, 385, 386, 387, 108, 110, 242, 243, 244, 541, 542, 543, 544, 124, 545, 546, 547, 548, 549, 550, 551, 552, 871, 872, 873, 874, 875, 876, 877, 878, 879, 880, 881, 882, 883, 884, 885, 886, 887, 888, 889, 890, 891, 892, 893, 894, 895, 896, 897] (by decide +kernel) (by decide +kernel)
set_option maxRecDepth 20000 in
theorem gL_law_X10_weights : GoodIn wsL_law (wsV RL 110 RX10 yX10_weights wsX10_weights) := goodIn_app (goodIn_of _ (by decide +kernel)) ggL_law_X10_weights
set_option maxRecDepth 20000 in
theorem ggL_law_X9_weight : GoodIn wsL_law wsX9_weight := goodIn_r _ [814, 27, 171, 172, 173, 2, 174, 137, 13, 140, 141, 142, 780, 781, 782, 403, 180, 181, 139, 182, 150, 783, 784, 785, 26, 786, 518, 69, 68, 66, 787, 788, 312, 789, 519, 520, 521, 522, 65, 523, 468, 469, 470, 524, 525, 526, 527, 528, 529, 530, 445, 531, 532, 208, 209, 210, 147, 197, 211, 212, 213, 214, 533, 534, 535, 536, 67, 583, 584, 585, 586, 587, 588, 589, 590, 591, 592, 593, 594, 595, 815, 795, 796, 797, 798, 860, 861, 862, 863, 864, 865, 866, 867, 868, 869, 870, 926, 927, 928, 929, 930, 931, 932, 904, 905, 906, 907, 908] (by decide +kernel) (by decide +kernel)
set_option maxRecDepth 20000 in
theorem gL_law_X9_weight : GoodIn wsL_law (wsV RL 111 RX9 yX9_weight wsX9_weight) := goodIn_app (goodIn_of _ (by decide +kernel)) ggL_law_X9_weight
set_option maxRecDepth 20000 in
theorem ggL_law_X10_weight : GoodIn wsL_law wsX10_weight := goodIn_r _ [819, 132, 803, 804, 805, 5, 806, 238, 239, 240, 241, 159, 160, 161, 162, 234, 235, 236, 237, 109, 807, 808, 809, 810, 123, 380, 381, 382, 383, 384, 385, 386, 387, 108, 110, 242, 243, 244, 541, 542, 543, 544, 124, 545, 546, 547, 548, 549, 550, 551, 552, 871, 872, 873, 874, 875, 876, 877, 878, 879, 880, 881, 882, 883, 884, 885, 886, 887, 888, 889, 890, 891, 892, 893, 894, 895, 896, 897] (by decide +kernel) (by decide +kernel)
set_option maxRecDepth 20000 in
theorem gL_law_X10_weight : GoodIn wsL_law (wsV RL 115 RX10 yX10_weight wsX10_weight) := goodIn_app (goodIn_of _ (by decide +kernel)) ggL_law_X10_weight
set_option maxRecDepth 20000 in
theorem ggL_law_X9_count : GoodIn wsL_law wsX9_count := goodIn_r _ [823, 137, 257, 19, 283, 23, 824, 860, 861, 862, 863, 864, 865, 866, 867, 868, 869, 870, 898, 899, 900, 901, 902, 903] (by decide +kernel) (by decide +kernel)
set_option maxRecDepth 20000 in
theorem gL_law_X9_count : GoodIn wsL_law (wsV RL 116 RX9 yX9_count wsX9_count) := goodIn_app (goodIn_of _ (by decide +kernel)) ggL_law_X9_count
set_option maxRecDepth 20000 in
theorem ggL_law_X10_count : GoodIn wsL_law wsX10_count := goodIn_r _ [828, 159, 262, 293, 114, 871, 872, 873, 874, 875, 876, 877, 878, 879, 880, 881, 882, 883, 884, 885, 886, 887, 888, 889, 890, 891, 892, 893, 894, 895, 896, 897] (by decide +kernel) (by decide +kernel)
set_option maxRecDepth 20000 in
theorem gL_law_X10_count : GoodIn wsL_law (wsV RL 119 RX10 yX10_count wsX10_count) := goodIn_app (goodIn_of _ (by decide +kernel)) ggL_law_X10_count
set_option maxRecDepth 20000 in
theorem ggL_law_X9_digest : GoodIn wsL_law wsX9_digest := goodIn_r _ [832, 833, 834, 137, 257, 15, 23, 19, 835, 821, 822, 2, 823, 283, 824, 171, 172, 173, 174, 13, 140, 141, 142, 836, 837, 838, 139, 839, 840, 149, 150, 191, 197, 198, 147, 215, 216, 217, 218, 219, 220, 221, 841, 842, 843, 18, 844, 288, 845, 51, 52, 846, 847, 848, 22, 849, 850, 59, 851, 731, 732, 733, 58, 860, 861, 862, 863, 864, 865, 866, 867, 868, 869, 870, 898, 899, 900, 901, 902, 903, 926, 927, 928, 929, 930, 931, 932] (by decide +kernel) (by decide +kernel)
set_option maxRecDepth 20000 in
theorem gL_law_X9_digest : GoodIn wsL_law (wsV RL 120 RX9 yX9_digest wsX9_digest) := goodIn_app (goodIn_of _ (by decide +kernel)) ggL_law_X9_digest
set_option maxRecDepth 20000 in
theorem ggL_law_X10_digest : GoodIn wsL_law wsX10_digest := goodIn_r _ [855, 856, 857, 159, 109, 108, 110, 262, 111, 293, 112, 113, 115, 858, 826, 827, 5, 828, 114, 859, 377, 378, 379, 238, 239, 240, 241, 160, 161, 162, 380, 381, 382, 383, 384, 385, 386, 387, 242, 243, 244, 388, 389, 390, 391, 392, 393, 394, 395, 396, 397, 398, 738, 739, 740, 741, 871, 872, 873, 874, 875, 876, 877, 878, 879, 880, 881, 882, 883, 884, 885, 886, 887, 888, 889, 890, 891, 892, 893, 894, 895, 896, 897] (by decide +kernel) (by decide +kernel)
set_option maxRecDepth 20000 in
theorem gL_law_X10_digest : GoodIn wsL_law (wsV RL 124 RX10 yX10_digest wsX10_digest) := goodIn_app (goodIn_of _ (by decide +kernel)) ggL_law_X10_digest
