set_option maxRecDepth 20000 in
theorem wsL_law_r31_in : GoodIn lw_tbl wsL_law_r31 := goodIn_r _ [691, 1028, 1029, 1030, 1031, 692, 693, 694, 695, 106, 696, 697, 698, 699, 1032, 1033, 1034, 1035, 1036, 1038, 45, 1039, 700, 701] (by decide +kernel) (by decide +kernel)
set_option maxRecDepth 20000 in
theorem wsL_law_r32_in : GoodIn lw_tbl wsL_law_r32 := goodIn_r _ [702, 703, 704, 705, 706, 707, 285, 155, 272, 720, 708, 709, 711, 27, 712, 713, 714, 715, 716, 718, 28, 719, 102, 105] (by decide +kernel) (by decide +kernel)
set_option maxRecDepth 20000 in
theorem wsL_law_r33_in : GoodIn lw_tbl wsL_law_r33 := goodIn_r _ [721, 722, 1040, 1041, 1042, 1043, 1044, 1045, 723, 724, 725, 726, 727, 728, 729, 730, 731, 732, 733, 734, 735, 736, 737, 738] (by decide +kernel) (by decide +kernel)
set_option maxRecDepth 20000 in
theorem wsL_law_r34_in : GoodIn lw_tbl wsL_law_r34 := goodIn_r _ [739, 740, 741, 742, 743, 744, 745, 1046, 1047, 1048, 1049, 1050, 1052, 46, 1053, 1054, 1056, 47, 1057, 746, 747, 748, 749, 750] (by decide +kernel) (by decide +kernel)
set_option maxRecDepth 20000 in
theorem wsL_law_r35_in : GoodIn lw_tbl wsL_law_r35 := goodIn_r _ [1058, 1059, 1060, 1061, 751, 752, 753, 754, 103, 1062, 1063, 1064, 1065, 755, 756, 757, 758, 759, 760, 761, 762, 763, 764, 765] (by decide +kernel) (by decide +kernel)
set_option maxRecDepth 20000 in
theorem wsL_law_r36_in : GoodIn lw_tbl wsL_law_r36 := goodIn_r _ [766, 767, 768, 769, 770, 771, 772, 773, 774, 775, 777, 776, 1066, 1067, 1068, 1069, 1070, 1071, 1072, 1073] (by decide +kernel) (by decide +kernel)
