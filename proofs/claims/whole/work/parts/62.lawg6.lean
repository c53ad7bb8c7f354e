set_option maxRecDepth 100000 in
theorem ggL_law_X11_restore : GoodIn wsL_law wsX11_restore := goodIn_r _ [874, 841, 16, 17, 842, 843, 844, 15, 845, 172, 47, 846, 353, 354, 355, 48, 200, 50, 52, 54, 58, 62, 847, 848, 849, 64, 850, 851, 521, 852, 853, 854, 855, 349, 350, 24, 351, 68, 352, 290, 69, 856, 446, 447, 28, 448, 73, 449, 74, 857, 858, 859, 57, 860, 80, 730, 861, 862, 863, 61, 864, 90, 865, 91, 770, 1051, 1052, 1053, 1054, 1055, 1056, 1057, 1058, 1059, 1086, 1087, 1088, 1089, 1090, 1091, 1092, 1093, 1094, 1138, 1139, 1140, 1141, 1142, 1098, 1099, 1100, 1101, 1102, 1127, 1128, 1129, 1130, 1131, 1132, 1133, 1134, 1135, 1136, 1137] (by decide +kernel) (by decide +kernel)
set_option maxRecDepth 100000 in
theorem gL_law_X11_restore : GoodIn wsL_law (wsV RL 116 RX11 yX11_restore wsX11_restore) := goodIn_app (goodIn_of _ (by decide +kernel)) ggL_law_X11_restore
set_option maxRecDepth 100000 in
theorem ggL_law_X12_restore : GoodIn wsL_law wsX12_restore := goodIn_r _ [878, 870, 142, 143, 1060, 1061, 1062, 1063, 1064, 1065, 1066, 1067, 1068, 1069, 1070, 1071, 1072, 1073, 1074, 1075, 1076, 1077, 1078, 1079, 1080, 1081, 1082, 1083, 1084, 1085] (by decide +kernel) (by decide +kernel)
set_option maxRecDepth 100000 in
theorem gL_law_X12_restore : GoodIn wsL_law (wsV RL 119 RX12 yX12_restore wsX12_restore) := goodIn_app (goodIn_of _ (by decide +kernel)) ggL_law_X12_restore
set_option maxRecDepth 100000 in
theorem ggL_law_X11_prints : GoodIn wsL_law wsX11_prints := goodIn_r _ [882, 37, 16, 165, 166, 2, 167, 883, 884, 885, 886, 39, 887, 888, 889, 890, 891, 892, 186, 187, 188, 15, 189, 172, 893, 894, 895, 41, 896, 137, 897, 898, 899, 900, 901, 902, 903, 904, 905, 906, 907, 908, 36, 909, 910, 132, 911, 912, 913, 914, 915, 916, 917, 918, 919, 920, 921, 922, 923, 924, 925, 926, 927, 928, 929, 930, 64, 931, 521, 851, 932, 933, 934, 935, 936, 937, 938, 939, 940, 941, 942, 1051, 1052, 1053, 1054, 1055, 1056, 1057, 1058, 1059, 1086, 1087, 1088, 1089, 1090, 1091, 1092, 1093, 1094, 1124, 1125, 1126, 1122, 1123, 1138, 1139, 1140, 1141, 1142] (by decide +kernel) (by decide +kernel)
set_option maxRecDepth 100000 in
theorem gL_law_X11_prints : GoodIn wsL_law (wsV RL 120 RX11 yX11_prints wsX11_prints) := goodIn_app (goodIn_of _ (by decide +kernel)) ggL_law_X11_prints
set_option maxRecDepth 100000 in
theorem ggL_law_X12_prints : GoodIn wsL_law wsX12_prints := goodIn_r _ [946, 947, 948, 949, 5, 950, 210, 178, 179, 180, 181, 212, 213, 214, 215, 142, 951, 952, 953, 954, 147, 775, 955, 956, 957, 958, 145, 146, 959, 960, 961, 962, 963, 964, 965, 966, 967, 968, 969, 970, 971, 972, 973, 974, 975, 976, 977, 978, 1060, 1061, 1062, 1063, 1064, 1065, 1066, 1067, 1068, 1069, 1070, 1071, 1072, 1073, 1074, 1075, 1076, 1077, 1078, 1079, 1080, 1081, 1082, 1083, 1084, 1085] (by decide +kernel) (by decide +kernel)
set_option maxRecDepth 100000 in
theorem gL_law_X12_prints : GoodIn wsL_law (wsV RL 123 RX12 yX12_prints wsX12_prints) := goodIn_app (goodIn_of _ (by decide +kernel)) ggL_law_X12_prints
set_option maxRecDepth 100000 in
theorem ggL_law_X11_odds : GoodIn wsL_law wsX11_odds := goodIn_r _ [982, 37, 16, 165, 166, 2, 167, 883, 884, 885, 886, 39, 887, 888, 889, 890, 891, 892, 186, 187, 188, 15, 189, 172, 893, 894, 895, 41, 896, 137, 897, 898, 899, 900, 901, 902, 903, 904, 905, 906, 907, 908, 36, 909, 910, 132, 911, 937, 938, 939, 940, 941, 942, 913, 914, 915, 916, 917, 918, 919, 920, 921, 922, 923, 924, 925, 926, 927, 928, 929, 930, 64, 931, 521, 851, 932, 933, 934, 935, 936, 912, 735, 736, 737, 738, 739, 740, 1051, 1052, 1053, 1054, 1055, 1056, 1057, 1058, 1059, 1086, 1087, 1088, 1089, 1090, 1091, 1092, 1093, 1094, 1124, 1125, 1126, 1122, 1123, 1138, 1139, 1140, 1141, 1142] (by decide +kernel) (by decide +kernel)
set_option maxRecDepth 100000 in
theorem gL_law_X11_odds : GoodIn wsL_law (wsV RL 124 RX11 yX11_odds wsX11_odds) := goodIn_app (goodIn_of _ (by decide +kernel)) ggL_law_X11_odds
set_option maxRecDepth 100000 in
theorem ggL_law_X12_odds : GoodIn wsL_law wsX12_odds := goodIn_r _ [986, 947, 948, 949, 5, 950, 210, 178, 179, 180, 181, 212, 213, 214, 215, 142, 951, 952, 953, 954, 147, 775, 955, 956, 957, 958, 145, 146, 959, 960, 961, 962, 963, 964, 965, 966, 967, 968, 969, 970, 971, 972, 973, 974, 975, 976, 977, 978, 1060, 1061, 1062, 1063, 1064, 1065, 1066, 1067, 1068, 1069, 1070, 1071, 1072, 1073, 1074, 1075, 1076, 1077, 1078, 1079, 1080, 1081, 1082, 1083, 1084, 1085] (by decide +kernel) (by decide +kernel)
set_option maxRecDepth 100000 in
theorem gL_law_X12_odds : GoodIn wsL_law (wsV RL 127 RX12 yX12_odds wsX12_odds) := goodIn_app (goodIn_of _ (by decide +kernel)) ggL_law_X12_odds
set_option maxRecDepth 100000 in
theorem ggL_law_X11_book : GoodIn wsL_law wsX11_book := goodIn_r _ [990, 39, 16, 887, 888, 2, 889, 165, 166, 167, 890, 891, 892, 893, 894, 895, 41, 896, 137, 897, 898, 899, 900, 901, 902, 903, 904, 905, 991, 992, 993, 15, 994, 995, 50, 204, 505, 227, 228, 229, 200, 1051, 1052, 1053, 1054, 1055, 1056, 1057, 1058, 1059, 1124, 1125, 1126, 1086, 1087, 1088, 1089, 1090, 1091, 1092, 1093, 1094, 1138, 1139, 1140, 1141, 1142] (by decide +kernel) (by decide +kernel)
set_option maxRecDepth 100000 in
theorem gL_law_X11_book : GoodIn wsL_law (wsV RL 128 RX11 yX11_book wsX11_book) := goodIn_app (goodIn_of _ (by decide +kernel)) ggL_law_X11_book
set_option maxRecDepth 100000 in
theorem ggL_law_X12_book : GoodIn wsL_law wsX12_book := goodIn_r _ [999, 947, 160, 142, 147, 211, 948, 949, 5, 950, 210, 178, 179, 180, 181, 955, 956, 957, 958, 145, 146, 235, 236, 237, 238, 1060, 1061, 1062, 1063, 1064, 1065, 1066, 1067, 1068, 1069, 1070, 1071, 1072, 1073, 1074, 1075, 1076, 1077, 1078, 1079, 1080, 1081, 1082, 1083, 1084, 1085] (by decide +kernel) (by decide +kernel)
set_option maxRecDepth 100000 in
theorem gL_law_X12_book : GoodIn wsL_law (wsV RL 131 RX12 yX12_book wsX12_book) := goodIn_app (goodIn_of _ (by decide +kernel)) ggL_law_X12_book
