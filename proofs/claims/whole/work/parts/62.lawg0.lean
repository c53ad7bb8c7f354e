set_option maxRecDepth 100000 in
theorem ggL_law_X11_init : GoodIn wsL_law wsX11_init := goodIn_r _ [9, 10, 11, 12, 13, 14, 15, 16, 17, 18, 19, 20, 21, 22, 23, 24, 25, 26, 27, 28, 29, 30, 31, 32, 33, 34, 35, 36, 37, 38, 39, 40, 41, 42, 43, 44, 45, 46, 47, 48, 49, 50, 51, 52, 53, 54, 55, 56, 57, 58, 59, 60, 61, 62, 63, 64, 65, 66, 67, 68, 69, 70, 71, 72, 73, 74, 75, 76, 77, 78, 79, 80, 81, 82, 83, 84, 85, 86, 87, 88, 89, 90, 91, 92, 93, 94, 95, 96, 97, 98, 99, 100, 101, 102, 103, 104, 105, 106, 107, 108, 109, 110, 111, 112, 113, 114, 115, 116, 117, 118, 119, 120, 121, 122, 123, 124, 125, 126, 127, 128, 129, 130, 131, 132, 133, 134, 135, 136, 137, 1086, 1087, 1088, 1089, 1090, 1091, 1092, 1093, 1094, 1051, 1052, 1053, 1054, 1055, 1056, 1057, 1058, 1059, 1095, 1096, 1097, 1098, 1099, 1100, 1101, 1102, 1103, 1104, 1105, 1106, 1107, 1108, 1109, 1110, 1111, 1112, 1113, 1114, 1115, 1116, 1117, 1118, 1119, 1120, 1121, 1122, 1123, 1124, 1125, 1126, 1127, 1128, 1129, 1130, 1131, 1132, 1133, 1134, 1135, 1136, 1137, 1138, 1139, 1140, 1141, 1142, 1143, 1144, 1145, 1146] (by decide +kernel) (by decide +kernel)
set_option maxRecDepth 100000 in
theorem gL_law_X11_init : GoodIn wsL_law (wsX11_init) := ggL_law_X11_init
set_option maxRecDepth 100000 in
theorem ggL_law_X12_init : GoodIn wsL_law wsX12_init := goodIn_r _ [140, 141, 11, 12, 46, 142, 143, 144, 145, 146, 147, 148, 149, 150, 151, 152, 153, 154, 155, 156, 157, 158, 159, 160, 1060, 1061, 1062, 1063, 1064, 1065, 1066, 1067, 1068, 1069, 1070, 1071, 1072, 1073, 1074, 1075, 1076, 1077, 1078, 1079, 1080, 1081, 1082, 1083, 1084, 1085] (by decide +kernel) (by decide +kernel)
set_option maxRecDepth 100000 in
theorem gL_law_X12_init : GoodIn wsL_law (wsX12_init) := ggL_law_X12_init
set_option maxRecDepth 100000 in
theorem ggL_law_X11_person : GoodIn wsL_law wsX11_person := goodIn_r _ [164, 16, 165, 166, 2, 167, 168, 169, 170, 15, 171, 172, 47, 48, 1051, 1052, 1053, 1054, 1055, 1056, 1057, 1058, 1059, 1086, 1087, 1088, 1089, 1090, 1091, 1092, 1093, 1094] (by decide +kernel) (by decide +kernel)
set_option maxRecDepth 100000 in
theorem gL_law_X11_person : GoodIn wsL_law (wsV RL 13 RX11 yX11_person wsX11_person) := goodIn_app (goodIn_of _ (by decide +kernel)) ggL_law_X11_person
set_option maxRecDepth 100000 in
theorem ggL_law_X12_person : GoodIn wsL_law wsX12_person := goodIn_r _ [176, 177, 178, 142, 179, 180, 5, 181, 1060, 1061, 1062, 1063, 1064, 1065, 1066, 1067, 1068, 1069, 1070, 1071, 1072, 1073, 1074, 1075, 1076, 1077, 1078, 1079, 1080, 1081, 1082, 1083, 1084, 1085] (by decide +kernel) (by decide +kernel)
set_option maxRecDepth 100000 in
theorem gL_law_X12_person : GoodIn wsL_law (wsV RL 17 RX12 yX12_person wsX12_person) := goodIn_app (goodIn_of _ (by decide +kernel)) ggL_law_X12_person
set_option maxRecDepth 100000 in
theorem ggL_law_X11_shoe : GoodIn wsL_law wsX11_shoe := goodIn_r _ [185, 16, 186, 187, 188, 15, 189, 172, 166, 2, 167, 190, 191, 192, 165, 193, 194, 195, 196, 197, 198, 199, 200, 50, 201, 202, 203, 204, 205, 1051, 1052, 1053, 1054, 1055, 1056, 1057, 1058, 1059, 1086, 1087, 1088, 1089, 1090, 1091, 1092, 1093, 1094, 1138, 1139, 1140, 1141, 1142] (by decide +kernel) (by decide +kernel)
set_option maxRecDepth 100000 in
theorem gL_law_X11_shoe : GoodIn wsL_law (wsV RL 18 RX11 yX11_shoe wsX11_shoe) := goodIn_app (goodIn_of _ (by decide +kernel)) ggL_law_X11_shoe
set_option maxRecDepth 100000 in
theorem ggL_law_X12_shoe : GoodIn wsL_law wsX12_shoe := goodIn_r _ [209, 210, 211, 142, 212, 213, 214, 5, 215, 179, 180, 181, 1060, 1061, 1062, 1063, 1064, 1065, 1066, 1067, 1068, 1069, 1070, 1071, 1072, 1073, 1074, 1075, 1076, 1077, 1078, 1079, 1080, 1081, 1082, 1083, 1084, 1085] (by decide +kernel) (by decide +kernel)
set_option maxRecDepth 100000 in
theorem gL_law_X12_shoe : GoodIn wsL_law (wsV RL 22 RX12 yX12_shoe wsX12_shoe) := goodIn_app (goodIn_of _ (by decide +kernel)) ggL_law_X12_shoe
set_option maxRecDepth 100000 in
theorem ggL_law_X11_told : GoodIn wsL_law wsX11_told := goodIn_r _ [219, 16, 220, 221, 222, 223, 224, 225, 226, 227, 228, 15, 229, 200, 166, 2, 167, 1051, 1052, 1053, 1054, 1055, 1056, 1057, 1058, 1059, 1086, 1087, 1088, 1089, 1090, 1091, 1092, 1093, 1094, 1138, 1139, 1140, 1141, 1142] (by decide +kernel) (by decide +kernel)
set_option maxRecDepth 100000 in
theorem gL_law_X11_told : GoodIn wsL_law (wsV RL 23 RX11 yX11_told wsX11_told) := goodIn_app (goodIn_of _ (by decide +kernel)) ggL_law_X11_told
set_option maxRecDepth 100000 in
theorem ggL_law_X12_told : GoodIn wsL_law wsX12_told := goodIn_r _ [233, 234, 142, 235, 236, 237, 5, 238, 179, 180, 181, 1060, 1061, 1062, 1063, 1064, 1065, 1066, 1067, 1068, 1069, 1070, 1071, 1072, 1073, 1074, 1075, 1076, 1077, 1078, 1079, 1080, 1081, 1082, 1083, 1084, 1085] (by decide +kernel) (by decide +kernel)
set_option maxRecDepth 100000 in
theorem gL_law_X12_told : GoodIn wsL_law (wsV RL 26 RX12 yX12_told wsX12_told) := goodIn_app (goodIn_of _ (by decide +kernel)) ggL_law_X12_told
