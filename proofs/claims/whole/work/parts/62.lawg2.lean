set_option maxRecDepth 100000 in
theorem ggL_law_X11_road : GoodIn wsL_law wsX11_road := goodIn_r _ [302, 16, 303, 304, 305, 2, 306, 165, 166, 167, 307, 308, 309, 28, 310, 73, 311, 312, 313, 314, 74, 1051, 1052, 1053, 1054, 1055, 1056, 1057, 1058, 1059, 1086, 1087, 1088, 1089, 1090, 1091, 1092, 1093, 1094, 1101, 1102] (by decide +kernel) (by decide +kernel)
set_option maxRecDepth 100000 in
theorem gL_law_X11_road : GoodIn wsL_law (wsV RL 44 RX11 yX11_road wsX11_road) := goodIn_app (goodIn_of _ (by decide +kernel)) ggL_law_X11_road
set_option maxRecDepth 100000 in
theorem ggL_law_X12_road : GoodIn wsL_law wsX12_road := goodIn_r _ [318, 319, 179, 180, 5, 181, 247, 248, 249, 250, 142, 1060, 1061, 1062, 1063, 1064, 1065, 1066, 1067, 1068, 1069, 1070, 1071, 1072, 1073, 1074, 1075, 1076, 1077, 1078, 1079, 1080, 1081, 1082, 1083, 1084, 1085] (by decide +kernel) (by decide +kernel)
set_option maxRecDepth 100000 in
theorem gL_law_X12_road : GoodIn wsL_law (wsV RL 48 RX12 yX12_road wsX12_road) := goodIn_app (goodIn_of _ (by decide +kernel)) ggL_law_X12_road
set_option maxRecDepth 100000 in
theorem ggL_law_X11_type : GoodIn wsL_law wsX11_type := goodIn_r _ [323, 21, 165, 166, 2, 167, 324, 325, 20, 326, 327, 328, 329, 330, 331, 332, 333, 334, 335, 99, 1051, 1052, 1053, 1054, 1055, 1056, 1057, 1058, 1059, 1095, 1096, 1097] (by decide +kernel) (by decide +kernel)
set_option maxRecDepth 100000 in
theorem gL_law_X11_type : GoodIn wsL_law (wsV RL 51 RX11 yX11_type wsX11_type) := goodIn_app (goodIn_of _ (by decide +kernel)) ggL_law_X11_type
set_option maxRecDepth 100000 in
theorem ggL_law_X12_type : GoodIn wsL_law wsX12_type := goodIn_r _ [339, 319, 340, 341, 342, 343, 144, 179, 180, 5, 181, 1060, 1061, 1062, 1063, 1064, 1065, 1066, 1067, 1068, 1069, 1070, 1071, 1072, 1073, 1074, 1075, 1076, 1077, 1078, 1079, 1080, 1081, 1082, 1083, 1084, 1085] (by decide +kernel) (by decide +kernel)
set_option maxRecDepth 100000 in
theorem gL_law_X12_type : GoodIn wsL_law (wsV RL 55 RX12 yX12_type wsX12_type) := goodIn_app (goodIn_of _ (by decide +kernel)) ggL_law_X12_type
set_option maxRecDepth 100000 in
theorem ggL_law_X11_taxes : GoodIn wsL_law wsX11_taxes := goodIn_r _ [347, 25, 16, 281, 21, 348, 349, 350, 24, 351, 68, 352, 353, 354, 355, 290, 69, 356, 357, 358, 20, 359, 360, 361, 362, 363, 364, 365, 366, 335, 99, 367, 368, 369, 370, 371, 372, 373, 374, 375, 376, 377, 378, 379, 380, 381, 166, 2, 167, 382, 383, 384, 385, 386, 387, 388, 389, 390, 391, 392, 393, 1051, 1052, 1053, 1054, 1055, 1056, 1057, 1058, 1059, 1086, 1087, 1088, 1089, 1090, 1091, 1092, 1093, 1094, 1098, 1099, 1100, 1095, 1096, 1097] (by decide +kernel) (by decide +kernel)
set_option maxRecDepth 100000 in
theorem gL_law_X11_taxes : GoodIn wsL_law (wsV RL 56 RX11 yX11_taxes wsX11_taxes) := goodIn_app (goodIn_of _ (by decide +kernel)) ggL_law_X11_taxes
set_option maxRecDepth 100000 in
theorem ggL_law_X12_taxes : GoodIn wsL_law wsX12_taxes := goodIn_r _ [397, 343, 398, 142, 148, 399, 400, 401, 5, 402, 403, 404, 405, 406, 407, 408, 409, 410, 144, 411, 412, 413, 414, 415, 416, 417, 418, 419, 420, 421, 422, 179, 180, 181, 423, 424, 425, 426, 1060, 1061, 1062, 1063, 1064, 1065, 1066, 1067, 1068, 1069, 1070, 1071, 1072, 1073, 1074, 1075, 1076, 1077, 1078, 1079, 1080, 1081, 1082, 1083, 1084, 1085] (by decide +kernel) (by decide +kernel)
set_option maxRecDepth 100000 in
theorem gL_law_X12_taxes : GoodIn wsL_law (wsV RL 60 RX12 yX12_taxes wsX12_taxes) := goodIn_app (goodIn_of _ (by decide +kernel)) ggL_law_X12_taxes
set_option maxRecDepth 100000 in
theorem ggL_law_X11_roads : GoodIn wsL_law wsX11_roads := goodIn_r _ [430, 21, 29, 16, 303, 431, 432, 433, 20, 434, 360, 363, 364, 365, 366, 335, 99, 435, 436, 437, 438, 439, 440, 375, 376, 377, 378, 379, 380, 381, 166, 2, 167, 382, 383, 384, 385, 386, 387, 388, 389, 441, 442, 443, 28, 444, 73, 390, 391, 392, 393, 445, 446, 447, 448, 449, 353, 354, 355, 74, 1051, 1052, 1053, 1054, 1055, 1056, 1057, 1058, 1059, 1086, 1087, 1088, 1089, 1090, 1091, 1092, 1093, 1094, 1095, 1096, 1097, 1101, 1102] (by decide +kernel) (by decide +kernel)
set_option maxRecDepth 100000 in
theorem gL_law_X11_roads : GoodIn wsL_law (wsV RL 61 RX11 yX11_roads wsX11_roads) := goodIn_app (goodIn_of _ (by decide +kernel)) ggL_law_X11_roads
set_option maxRecDepth 100000 in
theorem ggL_law_X12_roads : GoodIn wsL_law wsX12_roads := goodIn_r _ [453, 343, 398, 142, 148, 399, 400, 401, 5, 402, 454, 455, 456, 457, 407, 408, 409, 410, 144, 414, 415, 416, 417, 418, 419, 420, 421, 422, 179, 180, 181, 423, 424, 425, 426, 1060, 1061, 1062, 1063, 1064, 1065, 1066, 1067, 1068, 1069, 1070, 1071, 1072, 1073, 1074, 1075, 1076, 1077, 1078, 1079, 1080, 1081, 1082, 1083, 1084, 1085] (by decide +kernel) (by decide +kernel)
set_option maxRecDepth 100000 in
theorem gL_law_X12_roads : GoodIn wsL_law (wsV RL 64 RX12 yX12_roads wsX12_roads) := goodIn_app (goodIn_of _ (by decide +kernel)) ggL_law_X12_roads
