set_option maxRecDepth 100000 in
theorem ggL_law_X11_market : GoodIn wsL_law wsX11_market := goodIn_r _ [779, 16, 464, 780, 781, 165, 166, 2, 167, 782, 783, 784, 61, 785, 92, 786, 787, 788, 387, 388, 389, 789, 485, 486, 790, 84, 85, 86, 791, 792, 793, 794, 770, 91, 90, 1051, 1052, 1053, 1054, 1055, 1056, 1057, 1058, 1059, 1086, 1087, 1088, 1089, 1090, 1091, 1092, 1093, 1094, 1132, 1133, 1134, 1135, 1136, 1137] (by decide +kernel) (by decide +kernel)
set_option maxRecDepth 100000 in
theorem gL_law_X11_market : GoodIn wsL_law (wsV RL 100 RX11 yX11_market wsX11_market) := goodIn_app (goodIn_of _ (by decide +kernel)) ggL_law_X11_market
set_option maxRecDepth 100000 in
theorem ggL_law_X12_market : GoodIn wsL_law wsX12_market := goodIn_r _ [798, 211, 799, 179, 180, 5, 181, 800, 801, 802, 803, 142, 1060, 1061, 1062, 1063, 1064, 1065, 1066, 1067, 1068, 1069, 1070, 1071, 1072, 1073, 1074, 1075, 1076, 1077, 1078, 1079, 1080, 1081, 1082, 1083, 1084, 1085] (by decide +kernel) (by decide +kernel)
set_option maxRecDepth 100000 in
theorem gL_law_X12_market : GoodIn wsL_law (wsV RL 103 RX12 yX12_market wsX12_market) := goodIn_app (goodIn_of _ (by decide +kernel)) ggL_law_X12_market
set_option maxRecDepth 100000 in
theorem ggL_law_X11_fair : GoodIn wsL_law wsX11_fair := goodIn_r _ [807, 16, 464, 465, 1051, 1052, 1053, 1054, 1055, 1056, 1057, 1058, 1059, 1086, 1087, 1088, 1089, 1090, 1091, 1092, 1093, 1094, 1132, 1133, 1134, 1135, 1136, 1137] (by decide +kernel) (by decide +kernel)
set_option maxRecDepth 100000 in
theorem gL_law_X11_fair : GoodIn wsL_law (wsV RL 104 RX11 yX11_fair wsX11_fair) := goodIn_app (goodIn_of _ (by decide +kernel)) ggL_law_X11_fair
set_option maxRecDepth 100000 in
theorem ggL_law_X12_fair : GoodIn wsL_law wsX12_fair := goodIn_r _ [811, 247, 248, 249, 5, 250, 142, 1060, 1061, 1062, 1063, 1064, 1065, 1066, 1067, 1068, 1069, 1070, 1071, 1072, 1073, 1074, 1075, 1076, 1077, 1078, 1079, 1080, 1081, 1082, 1083, 1084, 1085] (by decide +kernel) (by decide +kernel)
set_option maxRecDepth 100000 in
theorem gL_law_X12_fair : GoodIn wsL_law (wsV RL 107 RX12 yX12_fair wsX12_fair) := goodIn_app (goodIn_of _ (by decide +kernel)) ggL_law_X12_fair
set_option maxRecDepth 100000 in
theorem ggL_law_X11_brothers : GoodIn wsL_law wsX11_brothers := goodIn_r _ [815, 16, 462, 816, 387, 388, 389, 165, 166, 2, 167, 817, 818, 819, 15, 820, 821, 822, 823, 824, 825, 200, 50, 201, 202, 203, 204, 826, 827, 828, 829, 830, 831, 832, 172, 48, 1051, 1052, 1053, 1054, 1055, 1056, 1057, 1058, 1059, 1086, 1087, 1088, 1089, 1090, 1091, 1092, 1093, 1094, 1138, 1139, 1140, 1141, 1142] (by decide +kernel) (by decide +kernel)
set_option maxRecDepth 100000 in
theorem gL_law_X11_brothers : GoodIn wsL_law (wsV RL 108 RX11 yX11_brothers wsX11_brothers) := goodIn_app (goodIn_of _ (by decide +kernel)) ggL_law_X11_brothers
set_option maxRecDepth 100000 in
theorem ggL_law_X12_brothers : GoodIn wsL_law wsX12_brothers := goodIn_r _ [836, 142, 179, 180, 5, 181, 1060, 1061, 1062, 1063, 1064, 1065, 1066, 1067, 1068, 1069, 1070, 1071, 1072, 1073, 1074, 1075, 1076, 1077, 1078, 1079, 1080, 1081, 1082, 1083, 1084, 1085] (by decide +kernel) (by decide +kernel)
set_option maxRecDepth 100000 in
theorem gL_law_X12_brothers : GoodIn wsL_law (wsV RL 111 RX12 yX12_brothers wsX12_brothers) := goodIn_app (goodIn_of _ (by decide +kernel)) ggL_law_X12_brothers
set_option maxRecDepth 100000 in
theorem ggL_law_X11_image : GoodIn wsL_law wsX11_image := goodIn_r _ [840, 17, 16, 841, 842, 843, 844, 15, 845, 172, 47, 846, 353, 354, 355, 48, 200, 50, 52, 54, 58, 62, 847, 848, 849, 64, 850, 851, 521, 852, 853, 854, 855, 349, 350, 24, 351, 68, 352, 290, 69, 856, 446, 447, 28, 448, 73, 449, 74, 857, 858, 859, 57, 860, 80, 730, 861, 862, 863, 61, 864, 90, 865, 91, 770, 1051, 1052, 1053, 1054, 1055, 1056, 1057, 1058, 1059, 1086, 1087, 1088, 1089, 1090, 1091, 1092, 1093, 1094, 1138, 1139, 1140, 1141, 1142, 1098, 1099, 1100, 1101, 1102, 1127, 1128, 1129, 1130, 1131, 1132, 1133, 1134, 1135, 1136, 1137] (by decide +kernel) (by decide +kernel)
set_option maxRecDepth 100000 in
theorem gL_law_X11_image : GoodIn wsL_law (wsV RL 112 RX11 yX11_image wsX11_image) := goodIn_app (goodIn_of _ (by decide +kernel)) ggL_law_X11_image
set_option maxRecDepth 100000 in
theorem ggL_law_X12_image : GoodIn wsL_law wsX12_image := goodIn_r _ [869, 143, 142, 870, 1060, 1061, 1062, 1063, 1064, 1065, 1066, 1067, 1068, 1069, 1070, 1071, 1072, 1073, 1074, 1075, 1076, 1077, 1078, 1079, 1080, 1081, 1082, 1083, 1084, 1085] (by decide +kernel) (by decide +kernel)
set_option maxRecDepth 100000 in
theorem gL_law_X12_image : GoodIn wsL_law (wsV RL 115 RX12 yX12_image wsX12_image) := goodIn_app (goodIn_of _ (by decide +kernel)) ggL_law_X12_image
