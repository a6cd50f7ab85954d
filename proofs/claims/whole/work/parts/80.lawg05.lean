set_option maxRecDepth 20000 in
theorem ggL_law_X10_part : GoodIn wsL_law wsX10_part := goodIn_r _ [1017, 28, 178, 1018, 1019, 1020, 27, 1021, 81, 82, 1175, 1176, 1177, 1178, 1179, 1180, 1181, 1182, 1183, 1184, 1185, 1186, 1232, 1233] (by decide +kernel) (by decide +kernel)
set_option maxRecDepth 20000 in
theorem gL_law_X10_part : GoodIn wsL_law (wsV RL 140 RX10 yX10_part wsX10_part) := goodIn_app (goodIn_of _ (by decide +kernel)) ggL_law_X10_part
set_option maxRecDepth 20000 in
theorem ggL_law_X11_part : GoodIn wsL_law wsX11_part := goodIn_r _ [1025, 1026, 130, 168, 169, 5, 170, 1187, 1188, 1189, 1190, 1191, 1192, 1193, 1194, 1195, 1196, 1197, 1198, 1199, 1200, 1201, 1202, 1203, 1204, 1205, 1206, 1207, 1208, 1209, 1210, 1211, 1212, 1213, 1214, 1215, 1216] (by decide +kernel) (by decide +kernel)
set_option maxRecDepth 20000 in
theorem gL_law_X11_part : GoodIn wsL_law (wsV RL 143 RX11 yX11_part wsX11_part) := goodIn_app (goodIn_of _ (by decide +kernel)) ggL_law_X11_part
set_option maxRecDepth 20000 in
theorem ggL_law_X10_clear : GoodIn wsL_law wsX10_clear := goodIn_r _ [1030, 28, 178, 1175, 1176, 1177, 1178, 1179, 1180, 1181, 1182, 1183, 1184, 1185, 1186, 1232, 1233] (by decide +kernel) (by decide +kernel)
set_option maxRecDepth 20000 in
theorem gL_law_X10_clear : GoodIn wsL_law (wsV RL 144 RX10 yX10_clear wsX10_clear) := goodIn_app (goodIn_of _ (by decide +kernel)) ggL_law_X10_clear
set_option maxRecDepth 20000 in
theorem ggL_law_X11_clear : GoodIn wsL_law wsX11_clear := goodIn_r _ [1034, 130, 1187, 1188, 1189, 1190, 1191, 1192, 1193, 1194, 1195, 1196, 1197, 1198, 1199, 1200, 1201, 1202, 1203, 1204, 1205, 1206, 1207, 1208, 1209, 1210, 1211, 1212, 1213, 1214, 1215, 1216] (by decide +kernel) (by decide +kernel)
set_option maxRecDepth 20000 in
theorem gL_law_X11_clear : GoodIn wsL_law (wsV RL 147 RX11 yX11_clear wsX11_clear) := goodIn_app (goodIn_of _ (by decide +kernel)) ggL_law_X11_clear
set_option maxRecDepth 20000 in
theorem ggL_law_X10_road : GoodIn wsL_law wsX10_road := goodIn_r _ [1038, 28, 178, 1039, 1040, 1041, 27, 1042, 81, 82, 1043, 295, 296, 297, 1044, 1045, 1046, 1047, 1048, 1175, 1176, 1177, 1178, 1179, 1180, 1181, 1182, 1183, 1184, 1185, 1186, 1232, 1233] (by decide +kernel) (by decide +kernel)
set_option maxRecDepth 20000 in
theorem gL_law_X10_road : GoodIn wsL_law (wsV RL 148 RX10 yX10_road wsX10_road) := goodIn_app (goodIn_of _ (by decide +kernel)) ggL_law_X10_road
set_option maxRecDepth 20000 in
theorem ggL_law_X11_road : GoodIn wsL_law wsX11_road := goodIn_r _ [1052, 130, 168, 169, 5, 170, 1053, 1054, 1055, 1056, 1057, 1058, 1059, 1060, 1187, 1188, 1189, 1190, 1191, 1192, 1193, 1194, 1195, 1196, 1197, 1198, 1199, 1200, 1201, 1202, 1203, 1204, 1205, 1206, 1207, 1208, 1209, 1210, 1211, 1212, 1213, 1214, 1215, 1216] (by decide +kernel) (by decide +kernel)
set_option maxRecDepth 20000 in
theorem gL_law_X11_road : GoodIn wsL_law (wsV RL 151 RX11 yX11_road wsX11_road) := goodIn_app (goodIn_of _ (by decide +kernel)) ggL_law_X11_road
set_option maxRecDepth 20000 in
theorem ggL_law_X10_reaches : GoodIn wsL_law wsX10_reaches := goodIn_r _ [1064, 24, 28, 178, 379, 380, 381, 23, 382, 383, 384, 385, 386, 73, 688, 299, 300, 301, 75, 1039, 1040, 1041, 27, 1042, 81, 82, 1043, 295, 296, 297, 1044, 1045, 1046, 1047, 1048, 497, 498, 2, 499, 1175, 1176, 1177, 1178, 1179, 1180, 1181, 1182, 1183, 1184, 1185, 1186, 1232, 1233, 1230, 1231] (by decide +kernel) (by decide +kernel)
set_option maxRecDepth 20000 in
theorem gL_law_X10_reaches : GoodIn wsL_law (wsV RL 152 RX10 yX10_reaches wsX10_reaches) := goodIn_app (goodIn_of _ (by decide +kernel)) ggL_law_X10_reaches
set_option maxRecDepth 20000 in
theorem ggL_law_X11_reaches : GoodIn wsL_law wsX11_reaches := goodIn_r _ [1068, 130, 396, 397, 398, 5, 399, 400, 401, 402, 403, 404, 405, 406, 407, 325, 168, 169, 170, 408, 409, 410, 411, 364, 365, 366, 1053, 1054, 1055, 1056, 1057, 1058, 1059, 1060, 1187, 1188, 1189, 1190, 1191, 1192, 1193, 1194, 1195, 1196, 1197, 1198, 1199, 1200, 1201, 1202, 1203, 1204, 1205, 1206, 1207, 1208, 1209, 1210, 1211, 1212, 1213, 1214, 1215, 1216] (by decide +kernel) (by decide +kernel)
set_option maxRecDepth 20000 in
theorem gL_law_X11_reaches : GoodIn wsL_law (wsV RL 155 RX11 yX11_reaches wsX11_reaches) := goodIn_app (goodIn_of _ (by decide +kernel)) ggL_law_X11_reaches
set_option maxRecDepth 20000 in
theorem ggL_law_X10_keep : GoodIn wsL_law wsX10_keep := goodIn_r _ [1072, 30, 179, 975, 24, 1073, 28, 977, 978, 2, 979, 497, 498, 499, 306, 307, 308, 23, 309, 73, 75, 310, 311, 312, 313, 1074, 1075, 1076, 27, 1077, 81, 82, 1078, 1175, 1176, 1177, 1178, 1179, 1180, 1181, 1182, 1183, 1184, 1185, 1186, 1234, 1235, 1236, 1230, 1231, 1232, 1233] (by decide +kernel) (by decide +kernel)
set_option maxRecDepth 20000 in
theorem gL_law_X10_keep : GoodIn wsL_law (wsV RL 156 RX10 yX10_keep wsX10_keep) := goodIn_app (goodIn_of _ (by decide +kernel)) ggL_law_X10_keep
set_option maxRecDepth 20000 in
theorem ggL_law_X11_keep : GoodIn wsL_law wsX11_keep := goodIn_r _ [1082, 130, 141, 404, 405, 406, 5, 407, 325, 168, 169, 170, 1187, 1188, 1189, 1190, 1191, 1192, 1193, 1194, 1195, 1196, 1197, 1198, 1199, 1200, 1201, 1202, 1203, 1204, 1205, 1206, 1207, 1208, 1209, 1210, 1211, 1212, 1213, 1214, 1215, 1216] (by decide +kernel) (by decide +kernel)
set_option maxRecDepth 20000 in
theorem gL_law_X11_keep : GoodIn wsL_law (wsV RL 159 RX11 yX11_keep wsX11_keep) := goodIn_app (goodIn_of _ (by decide +kernel)) ggL_law_X11_keep
set_option maxRecDepth 20000 in
theorem ggL_law_X10_back : GoodIn wsL_law wsX10_back := goodIn_r _ [1086, 30, 179, 24, 975, 28, 1073, 977, 978, 2, 979, 306, 307, 308, 23, 309, 73, 75, 310, 311, 312, 313, 1074, 1075, 1076, 27, 1077, 81, 82, 1078, 1087, 1088, 1089, 1090, 391, 299, 300, 301, 498, 499, 1175, 1176, 1177, 1178, 1179, 1180, 1181, 1182, 1183, 1184, 1185, 1186, 1234, 1235, 1236, 1230, 1231, 1232, 1233] (by decide +kernel) (by decide +kernel)
set_option maxRecDepth 20000 in
theorem gL_law_X10_back : GoodIn wsL_law (wsV RL 160 RX10 yX10_back wsX10_back) := goodIn_app (goodIn_of _ (by decide +kernel)) ggL_law_X10_back
set_option maxRecDepth 20000 in
theorem ggL_law_X11_back : GoodIn wsL_law wsX11_back := goodIn_r _ [1094, 141, 130, 168, 169, 5, 170, 1095, 1096, 1097, 1098, 1187, 1188, 1189, 1190, 1191, 1192, 1193, 1194, 1195, 1196, 1197, 1198, 1199, 1200, 1201, 1202, 1203, 1204, 1205, 1206, 1207, 1208, 1209, 1210, 1211, 1212, 1213, 1214, 1215, 1216] (by decide +kernel) (by decide +kernel)
set_option maxRecDepth 20000 in
theorem gL_law_X11_back : GoodIn wsL_law (wsV RL 163 RX11 yX11_back wsX11_back) := goodIn_app (goodIn_of _ (by decide +kernel)) ggL_law_X11_back
