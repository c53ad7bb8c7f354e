set_option maxRecDepth 100000 in
theorem ggL_law_X11_path : GoodIn wsL_law wsX11_path := goodIn_r _ [699, 16, 466, 700, 701, 2, 702, 165, 166, 167, 703, 704, 705, 57, 706, 80, 483, 387, 388, 389, 484, 485, 486, 479, 480, 481, 482, 1051, 1052, 1053, 1054, 1055, 1056, 1057, 1058, 1059, 1086, 1087, 1088, 1089, 1090, 1091, 1092, 1093, 1094, 1127, 1128, 1129, 1130, 1131] (by decide +kernel) (by decide +kernel)
set_option maxRecDepth 100000 in
theorem gL_law_X11_path : GoodIn wsL_law (wsV RL 84 RX11 yX11_path wsX11_path) := goodIn_app (goodIn_of _ (by decide +kernel)) ggL_law_X11_path
set_option maxRecDepth 100000 in
theorem ggL_law_X12_path : GoodIn wsL_law wsX12_path := goodIn_r _ [710, 711, 712, 142, 713, 714, 5, 715, 716, 179, 180, 181, 247, 248, 249, 250, 1060, 1061, 1062, 1063, 1064, 1065, 1066, 1067, 1068, 1069, 1070, 1071, 1072, 1073, 1074, 1075, 1076, 1077, 1078, 1079, 1080, 1081, 1082, 1083, 1084, 1085] (by decide +kernel) (by decide +kernel)
set_option maxRecDepth 100000 in
theorem gL_law_X12_path : GoodIn wsL_law (wsV RL 87 RX12 yX12_path wsX12_path) := goodIn_app (goodIn_of _ (by decide +kernel)) ggL_law_X12_path
set_option maxRecDepth 100000 in
theorem ggL_law_X11_unseen : GoodIn wsL_law wsX11_unseen := goodIn_r _ [720, 16, 466, 721, 722, 700, 701, 2, 702, 165, 166, 167, 723, 724, 725, 57, 726, 727, 728, 81, 729, 82, 730, 353, 354, 355, 83, 84, 85, 86, 731, 732, 733, 734, 484, 485, 388, 486, 479, 480, 481, 482, 80, 483, 387, 389, 735, 736, 737, 738, 739, 740, 1051, 1052, 1053, 1054, 1055, 1056, 1057, 1058, 1059, 1086, 1087, 1088, 1089, 1090, 1091, 1092, 1093, 1094, 1127, 1128, 1129, 1130, 1131] (by decide +kernel) (by decide +kernel)
set_option maxRecDepth 100000 in
theorem gL_law_X11_unseen : GoodIn wsL_law (wsV RL 88 RX11 yX11_unseen wsX11_unseen) := goodIn_app (goodIn_of _ (by decide +kernel)) ggL_law_X11_unseen
set_option maxRecDepth 100000 in
theorem ggL_law_X12_unseen : GoodIn wsL_law wsX12_unseen := goodIn_r _ [744, 745, 746, 713, 714, 5, 715, 716, 179, 180, 181, 747, 748, 749, 750, 158, 751, 159, 142, 752, 1060, 1061, 1062, 1063, 1064, 1065, 1066, 1067, 1068, 1069, 1070, 1071, 1072, 1073, 1074, 1075, 1076, 1077, 1078, 1079, 1080, 1081, 1082, 1083, 1084, 1085] (by decide +kernel) (by decide +kernel)
set_option maxRecDepth 100000 in
theorem gL_law_X12_unseen : GoodIn wsL_law (wsV RL 91 RX12 yX12_unseen wsX12_unseen) := goodIn_app (goodIn_of _ (by decide +kernel)) ggL_law_X12_unseen
set_option maxRecDepth 100000 in
theorem ggL_law_X11_paths : GoodIn wsL_law wsX11_paths := goodIn_r _ [756, 16, 466, 757, 700, 701, 2, 702, 165, 166, 167, 723, 724, 725, 57, 726, 727, 728, 81, 729, 82, 730, 353, 354, 355, 83, 84, 85, 86, 731, 732, 733, 734, 484, 485, 388, 486, 479, 480, 481, 482, 80, 483, 387, 389, 1051, 1052, 1053, 1054, 1055, 1056, 1057, 1058, 1059, 1086, 1087, 1088, 1089, 1090, 1091, 1092, 1093, 1094, 1127, 1128, 1129, 1130, 1131] (by decide +kernel) (by decide +kernel)
set_option maxRecDepth 100000 in
theorem gL_law_X11_paths : GoodIn wsL_law (wsV RL 92 RX11 yX11_paths wsX11_paths) := goodIn_app (goodIn_of _ (by decide +kernel)) ggL_law_X11_paths
set_option maxRecDepth 100000 in
theorem ggL_law_X12_paths : GoodIn wsL_law wsX12_paths := goodIn_r _ [761, 745, 752, 713, 714, 5, 715, 716, 179, 180, 181, 747, 748, 749, 750, 158, 751, 159, 142, 1060, 1061, 1062, 1063, 1064, 1065, 1066, 1067, 1068, 1069, 1070, 1071, 1072, 1073, 1074, 1075, 1076, 1077, 1078, 1079, 1080, 1081, 1082, 1083, 1084, 1085] (by decide +kernel) (by decide +kernel)
set_option maxRecDepth 100000 in
theorem gL_law_X12_paths : GoodIn wsL_law (wsV RL 95 RX12 yX12_paths wsX12_paths) := goodIn_app (goodIn_of _ (by decide +kernel)) ggL_law_X12_paths
set_option maxRecDepth 100000 in
theorem ggL_law_X11_buyer : GoodIn wsL_law wsX11_buyer := goodIn_r _ [765, 16, 464, 165, 166, 2, 167, 766, 767, 768, 61, 769, 770, 90, 91, 1051, 1052, 1053, 1054, 1055, 1056, 1057, 1058, 1059, 1086, 1087, 1088, 1089, 1090, 1091, 1092, 1093, 1094, 1132, 1133, 1134, 1135, 1136, 1137] (by decide +kernel) (by decide +kernel)
set_option maxRecDepth 100000 in
theorem gL_law_X11_buyer : GoodIn wsL_law (wsV RL 96 RX11 yX11_buyer wsX11_buyer) := goodIn_app (goodIn_of _ (by decide +kernel)) ggL_law_X11_buyer
set_option maxRecDepth 100000 in
theorem ggL_law_X12_buyer : GoodIn wsL_law wsX12_buyer := goodIn_r _ [774, 775, 211, 142, 179, 180, 5, 181, 1060, 1061, 1062, 1063, 1064, 1065, 1066, 1067, 1068, 1069, 1070, 1071, 1072, 1073, 1074, 1075, 1076, 1077, 1078, 1079, 1080, 1081, 1082, 1083, 1084, 1085] (by decide +kernel) (by decide +kernel)
set_option maxRecDepth 100000 in
theorem gL_law_X12_buyer : GoodIn wsL_law (wsV RL 99 RX12 yX12_buyer wsX12_buyer) := goodIn_app (goodIn_of _ (by decide +kernel)) ggL_law_X12_buyer
