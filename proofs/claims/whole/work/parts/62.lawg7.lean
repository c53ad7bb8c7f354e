set_option maxRecDepth 100000 in
theorem ggL_law_X11_sheet : GoodIn wsL_law wsX11_sheet := goodIn_r _ [1003, 39, 887, 888, 2, 889, 165, 166, 167, 890, 891, 892, 1004, 1005, 1006, 41, 1007, 137, 905, 136, 1008, 84, 85, 86, 1051, 1052, 1053, 1054, 1055, 1056, 1057, 1058, 1059, 1124, 1125, 1126] (by decide +kernel) (by decide +kernel)
set_option maxRecDepth 100000 in
theorem gL_law_X11_sheet : GoodIn wsL_law (wsV RL 132 RX11 yX11_sheet wsX11_sheet) := goodIn_app (goodIn_of _ (by decide +kernel)) ggL_law_X11_sheet
set_option maxRecDepth 100000 in
theorem ggL_law_X12_sheet : GoodIn wsL_law wsX12_sheet := goodIn_r _ [1012, 145, 146, 147, 948, 949, 5, 950, 210, 178, 179, 180, 181, 1060, 1061, 1062, 1063, 1064, 1065, 1066, 1067, 1068, 1069, 1070, 1071, 1072, 1073, 1074, 1075, 1076, 1077, 1078, 1079, 1080, 1081, 1082, 1083, 1084, 1085] (by decide +kernel) (by decide +kernel)
set_option maxRecDepth 100000 in
theorem gL_law_X12_sheet : GoodIn wsL_law (wsV RL 135 RX12 yX12_sheet wsX12_sheet) := goodIn_app (goodIn_of _ (by decide +kernel)) ggL_law_X12_sheet
set_option maxRecDepth 100000 in
theorem ggL_law_X11_drop : GoodIn wsL_law wsX11_drop := goodIn_r _ [1016, 39, 1017, 887, 888, 2, 889, 165, 166, 167, 1018, 898, 899, 41, 900, 137, 1019, 1020, 1021, 1022, 905, 1051, 1052, 1053, 1054, 1055, 1056, 1057, 1058, 1059, 1124, 1125, 1126] (by decide +kernel) (by decide +kernel)
set_option maxRecDepth 100000 in
theorem gL_law_X11_drop : GoodIn wsL_law (wsV RL 136 RX11 yX11_drop wsX11_drop) := goodIn_app (goodIn_of _ (by decide +kernel)) ggL_law_X11_drop
set_option maxRecDepth 100000 in
theorem ggL_law_X12_drop : GoodIn wsL_law wsX12_drop := goodIn_r _ [1026, 210, 145, 179, 180, 5, 181, 1060, 1061, 1062, 1063, 1064, 1065, 1066, 1067, 1068, 1069, 1070, 1071, 1072, 1073, 1074, 1075, 1076, 1077, 1078, 1079, 1080, 1081, 1082, 1083, 1084, 1085] (by decide +kernel) (by decide +kernel)
set_option maxRecDepth 100000 in
theorem gL_law_X12_drop : GoodIn wsL_law (wsV RL 139 RX12 yX12_drop wsX12_drop) := goodIn_app (goodIn_of _ (by decide +kernel)) ggL_law_X12_drop
set_option maxRecDepth 100000 in
theorem ggL_law_X11_item : GoodIn wsL_law wsX11_item := goodIn_r _ [1030, 39, 887, 888, 2, 889, 165, 166, 167, 890, 891, 892, 893, 894, 895, 41, 896, 137, 897, 898, 899, 900, 901, 902, 903, 904, 905, 1031, 1032, 1033, 1034, 136, 1051, 1052, 1053, 1054, 1055, 1056, 1057, 1058, 1059, 1124, 1125, 1126] (by decide +kernel) (by decide +kernel)
set_option maxRecDepth 100000 in
theorem gL_law_X11_item : GoodIn wsL_law (wsV RL 140 RX11 yX11_item wsX11_item) := goodIn_app (goodIn_of _ (by decide +kernel)) ggL_law_X11_item
set_option maxRecDepth 100000 in
theorem ggL_law_X12_item : GoodIn wsL_law wsX12_item := goodIn_r _ [1038, 147, 948, 949, 5, 950, 210, 178, 179, 180, 181, 955, 956, 957, 958, 145, 146, 1060, 1061, 1062, 1063, 1064, 1065, 1066, 1067, 1068, 1069, 1070, 1071, 1072, 1073, 1074, 1075, 1076, 1077, 1078, 1079, 1080, 1081, 1082, 1083, 1084, 1085] (by decide +kernel) (by decide +kernel)
set_option maxRecDepth 100000 in
theorem gL_law_X12_item : GoodIn wsL_law (wsV RL 143 RX12 yX12_item wsX12_item) := goodIn_app (goodIn_of _ (by decide +kernel)) ggL_law_X12_item
set_option maxRecDepth 100000 in
theorem ggL_law_X11_copy : GoodIn wsL_law wsX11_copy := goodIn_r _ [1042, 39, 1043, 1044, 1045, 353, 354, 355, 887, 888, 2, 889, 165, 166, 167, 1018, 898, 899, 41, 900, 137, 1046, 902, 903, 904, 905, 1051, 1052, 1053, 1054, 1055, 1056, 1057, 1058, 1059, 1124, 1125, 1126] (by decide +kernel) (by decide +kernel)
set_option maxRecDepth 100000 in
theorem gL_law_X11_copy : GoodIn wsL_law (wsV RL 144 RX11 yX11_copy wsX11_copy) := goodIn_app (goodIn_of _ (by decide +kernel)) ggL_law_X11_copy
set_option maxRecDepth 100000 in
theorem ggL_law_X12_copy : GoodIn wsL_law wsX12_copy := goodIn_r _ [1050, 210, 145, 146, 147, 179, 180, 5, 181, 955, 956, 957, 958, 1060, 1061, 1062, 1063, 1064, 1065, 1066, 1067, 1068, 1069, 1070, 1071, 1072, 1073, 1074, 1075, 1076, 1077, 1078, 1079, 1080, 1081, 1082, 1083, 1084, 1085] (by decide +kernel) (by decide +kernel)
set_option maxRecDepth 100000 in
theorem gL_law_X12_copy : GoodIn wsL_law (wsV RL 147 RX12 yX12_copy wsX12_copy) := goodIn_app (goodIn_of _ (by decide +kernel)) ggL_law_X12_copy
