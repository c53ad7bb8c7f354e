set_option maxRecDepth 100000 in
theorem ggL_law_X11_stamp : GoodIn wsL_law wsX11_stamp := goodIn_r _ [242, 16, 220, 224, 226, 227, 228, 15, 229, 200, 166, 2, 167, 1051, 1052, 1053, 1054, 1055, 1056, 1057, 1058, 1059, 1086, 1087, 1088, 1089, 1090, 1091, 1092, 1093, 1094, 1138, 1139, 1140, 1141, 1142] (by decide +kernel) (by decide +kernel)
set_option maxRecDepth 100000 in
theorem gL_law_X11_stamp : GoodIn wsL_law (wsV RL 27 RX11 yX11_stamp wsX11_stamp) := goodIn_app (goodIn_of _ (by decide +kernel)) ggL_law_X11_stamp
set_option maxRecDepth 100000 in
theorem ggL_law_X12_stamp : GoodIn wsL_law wsX12_stamp := goodIn_r _ [246, 235, 236, 237, 5, 238, 142, 179, 180, 181, 247, 248, 249, 250, 1060, 1061, 1062, 1063, 1064, 1065, 1066, 1067, 1068, 1069, 1070, 1071, 1072, 1073, 1074, 1075, 1076, 1077, 1078, 1079, 1080, 1081, 1082, 1083, 1084, 1085] (by decide +kernel) (by decide +kernel)
set_option maxRecDepth 100000 in
theorem gL_law_X12_stamp : GoodIn wsL_law (wsV RL 31 RX12 yX12_stamp wsX12_stamp) := goodIn_app (goodIn_of _ (by decide +kernel)) ggL_law_X12_stamp
set_option maxRecDepth 100000 in
theorem ggL_law_X11_give : GoodIn wsL_law wsX11_give := goodIn_r _ [254, 16, 220, 225, 226, 227, 228, 15, 229, 200, 166, 2, 167, 186, 187, 188, 189, 172, 1051, 1052, 1053, 1054, 1055, 1056, 1057, 1058, 1059, 1086, 1087, 1088, 1089, 1090, 1091, 1092, 1093, 1094, 1138, 1139, 1140, 1141, 1142] (by decide +kernel) (by decide +kernel)
set_option maxRecDepth 100000 in
theorem gL_law_X11_give : GoodIn wsL_law (wsV RL 32 RX11 yX11_give wsX11_give) := goodIn_app (goodIn_of _ (by decide +kernel)) ggL_law_X11_give
set_option maxRecDepth 100000 in
theorem ggL_law_X12_give : GoodIn wsL_law wsX12_give := goodIn_r _ [258, 235, 236, 237, 5, 238, 142, 179, 180, 181, 212, 213, 214, 215, 247, 248, 249, 250, 1060, 1061, 1062, 1063, 1064, 1065, 1066, 1067, 1068, 1069, 1070, 1071, 1072, 1073, 1074, 1075, 1076, 1077, 1078, 1079, 1080, 1081, 1082, 1083, 1084, 1085] (by decide +kernel) (by decide +kernel)
set_option maxRecDepth 100000 in
theorem gL_law_X12_give : GoodIn wsL_law (wsV RL 35 RX12 yX12_give wsX12_give) := goodIn_app (goodIn_of _ (by decide +kernel)) ggL_law_X12_give
set_option maxRecDepth 100000 in
theorem ggL_law_X11_of : GoodIn wsL_law wsX11_of := goodIn_r _ [262, 16, 263, 264, 186, 187, 188, 15, 189, 172, 166, 2, 167, 265, 266, 267, 268, 200, 50, 201, 202, 1051, 1052, 1053, 1054, 1055, 1056, 1057, 1058, 1059, 1086, 1087, 1088, 1089, 1090, 1091, 1092, 1093, 1094, 1138, 1139, 1140, 1141, 1142] (by decide +kernel) (by decide +kernel)
set_option maxRecDepth 100000 in
theorem gL_law_X11_of : GoodIn wsL_law (wsV RL 36 RX11 yX11_of wsX11_of) := goodIn_app (goodIn_of _ (by decide +kernel)) ggL_law_X11_of
set_option maxRecDepth 100000 in
theorem ggL_law_X12_of : GoodIn wsL_law wsX12_of := goodIn_r _ [272, 210, 142, 212, 213, 214, 5, 215, 179, 180, 181, 273, 274, 275, 276, 1060, 1061, 1062, 1063, 1064, 1065, 1066, 1067, 1068, 1069, 1070, 1071, 1072, 1073, 1074, 1075, 1076, 1077, 1078, 1079, 1080, 1081, 1082, 1083, 1084, 1085] (by decide +kernel) (by decide +kernel)
set_option maxRecDepth 100000 in
theorem gL_law_X12_of : GoodIn wsL_law (wsV RL 39 RX12 yX12_of wsX12_of) := goodIn_app (goodIn_of _ (by decide +kernel)) ggL_law_X12_of
set_option maxRecDepth 100000 in
theorem ggL_law_X11_tax : GoodIn wsL_law wsX11_tax := goodIn_r _ [280, 16, 281, 193, 194, 2, 195, 165, 166, 167, 282, 283, 284, 24, 285, 68, 286, 287, 288, 289, 290, 190, 191, 192, 291, 292, 293, 294, 69, 1051, 1052, 1053, 1054, 1055, 1056, 1057, 1058, 1059, 1086, 1087, 1088, 1089, 1090, 1091, 1092, 1093, 1094, 1098, 1099, 1100] (by decide +kernel) (by decide +kernel)
set_option maxRecDepth 100000 in
theorem gL_law_X11_tax : GoodIn wsL_law (wsV RL 40 RX11 yX11_tax wsX11_tax) := goodIn_app (goodIn_of _ (by decide +kernel)) ggL_law_X11_tax
set_option maxRecDepth 100000 in
theorem ggL_law_X12_tax : GoodIn wsL_law wsX12_tax := goodIn_r _ [298, 210, 179, 180, 5, 181, 247, 248, 249, 250, 142, 1060, 1061, 1062, 1063, 1064, 1065, 1066, 1067, 1068, 1069, 1070, 1071, 1072, 1073, 1074, 1075, 1076, 1077, 1078, 1079, 1080, 1081, 1082, 1083, 1084, 1085] (by decide +kernel) (by decide +kernel)
set_option maxRecDepth 100000 in
theorem gL_law_X12_tax : GoodIn wsL_law (wsV RL 43 RX12 yX12_tax wsX12_tax) := goodIn_app (goodIn_of _ (by decide +kernel)) ggL_law_X12_tax
