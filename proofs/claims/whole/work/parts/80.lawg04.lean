set_option maxRecDepth 20000 in
theorem ggL_law_X10_base : GoodIn wsL_law wsX10_base := goodIn_r _ [908, 24, 804, 48, 815, 688, 299, 300, 23, 301, 75, 819, 820, 821, 47, 822, 113, 117, 823, 824, 825, 826, 827, 828, 829, 830, 831, 456, 457, 458, 391, 832, 460, 461, 462, 463, 2, 464, 465, 833, 834, 835, 836, 837, 627, 628, 434, 435, 436, 295, 296, 297, 437, 438, 439, 838, 839, 840, 841, 115, 842, 843, 844, 845, 765, 766, 43, 767, 768, 769, 770, 771, 772, 773, 533, 534, 535, 774, 846, 847, 848, 849, 116, 850, 851, 199, 200, 201, 852, 853, 854, 855, 856, 857, 858, 859, 629, 621, 622, 623, 624, 625, 626, 860, 861, 862, 863, 433, 1175, 1176, 1177, 1178, 1179, 1180, 1181, 1182, 1183, 1184, 1185, 1186, 1230, 1231, 1250, 1251, 1252, 1253, 1254, 1255, 1256, 1257, 1247, 1248, 1249] (by decide +kernel) (by decide +kernel)
set_option maxRecDepth 20000 in
theorem gL_law_X10_base : GoodIn wsL_law (wsV RL 116 RX10 yX10_base wsX10_base) := goodIn_app (goodIn_of _ (by decide +kernel)) ggL_law_X10_base
set_option maxRecDepth 20000 in
theorem ggL_law_X11_base : GoodIn wsL_law wsX11_base := goodIn_r _ [912, 130, 874, 404, 405, 406, 5, 407, 325, 408, 409, 410, 411, 364, 365, 366, 877, 878, 879, 880, 876, 875, 136, 137, 476, 477, 478, 479, 504, 505, 506, 507, 480, 481, 482, 483, 484, 485, 486, 487, 881, 882, 883, 884, 885, 886, 887, 888, 552, 787, 788, 789, 790, 791, 792, 793, 794, 676, 677, 678, 889, 890, 891, 892, 913, 914, 915, 893, 894, 895, 896, 1187, 1188, 1189, 1190, 1191, 1192, 1193, 1194, 1195, 1196, 1197, 1198, 1199, 1200, 1201, 1202, 1203, 1204, 1205, 1206, 1207, 1208, 1209, 1210, 1211, 1212, 1213, 1214, 1215, 1216] (by decide +kernel) (by decide +kernel)
set_option maxRecDepth 20000 in
theorem gL_law_X11_base : GoodIn wsL_law (wsV RL 119 RX11 yX11_base wsX11_base) := goodIn_app (goodIn_of _ (by decide +kernel)) ggL_law_X11_base
set_option maxRecDepth 20000 in
theorem ggL_law_X10_tells : GoodIn wsL_law wsX10_tells := goodIn_r _ [919, 24, 804, 818, 384, 385, 23, 386, 73, 920, 627, 2, 628, 921, 922, 923, 924, 391, 299, 300, 301, 75, 925, 926, 927, 928, 497, 498, 499, 1175, 1176, 1177, 1178, 1179, 1180, 1181, 1182, 1183, 1184, 1185, 1186, 1230, 1231] (by decide +kernel) (by decide +kernel)
set_option maxRecDepth 20000 in
theorem gL_law_X10_tells : GoodIn wsL_law (wsV RL 120 RX10 yX10_tells wsX10_tells) := goodIn_app (goodIn_of _ (by decide +kernel)) ggL_law_X10_tells
set_option maxRecDepth 20000 in
theorem ggL_law_X11_tells : GoodIn wsL_law wsX11_tells := goodIn_r _ [932, 400, 401, 402, 5, 403, 130, 404, 405, 406, 407, 325, 168, 169, 170, 933, 934, 935, 936, 937, 938, 939, 940, 408, 409, 410, 411, 364, 365, 366, 1187, 1188, 1189, 1190, 1191, 1192, 1193, 1194, 1195, 1196, 1197, 1198, 1199, 1200, 1201, 1202, 1203, 1204, 1205, 1206, 1207, 1208, 1209, 1210, 1211, 1212, 1213, 1214, 1215, 1216] (by decide +kernel) (by decide +kernel)
set_option maxRecDepth 20000 in
theorem gL_law_X11_tells : GoodIn wsL_law (wsV RL 123 RX11 yX11_tells wsX11_tells) := goodIn_app (goodIn_of _ (by decide +kernel)) ggL_law_X11_tells
set_option maxRecDepth 20000 in
theorem ggL_law_X10_words : GoodIn wsL_law wsX10_words := goodIn_r _ [944, 24, 804, 818, 384, 385, 23, 386, 73, 629, 621, 622, 623, 624, 625, 626, 920, 627, 2, 628, 921, 922, 923, 924, 391, 299, 300, 301, 75, 925, 926, 927, 928, 1175, 1176, 1177, 1178, 1179, 1180, 1181, 1182, 1183, 1184, 1185, 1186, 1230, 1231] (by decide +kernel) (by decide +kernel)
set_option maxRecDepth 20000 in
theorem gL_law_X10_words : GoodIn wsL_law (wsV RL 124 RX10 yX10_words wsX10_words) := goodIn_app (goodIn_of _ (by decide +kernel)) ggL_law_X10_words
set_option maxRecDepth 20000 in
theorem ggL_law_X11_words : GoodIn wsL_law wsX11_words := goodIn_r _ [948, 130, 400, 401, 402, 5, 403, 404, 405, 406, 407, 325, 168, 169, 170, 937, 938, 939, 940, 408, 409, 410, 411, 364, 365, 366, 913, 914, 915, 1187, 1188, 1189, 1190, 1191, 1192, 1193, 1194, 1195, 1196, 1197, 1198, 1199, 1200, 1201, 1202, 1203, 1204, 1205, 1206, 1207, 1208, 1209, 1210, 1211, 1212, 1213, 1214, 1215, 1216] (by decide +kernel) (by decide +kernel)
set_option maxRecDepth 20000 in
theorem gL_law_X11_words : GoodIn wsL_law (wsV RL 127 RX11 yX11_words wsX11_words) := goodIn_app (goodIn_of _ (by decide +kernel)) ggL_law_X11_words
set_option maxRecDepth 20000 in
theorem ggL_law_X10_at : GoodIn wsL_law wsX10_at := goodIn_r _ [952, 24, 804, 379, 380, 381, 23, 382, 383, 384, 385, 386, 73, 416, 417, 2, 418, 688, 299, 300, 301, 75, 1175, 1176, 1177, 1178, 1179, 1180, 1181, 1182, 1183, 1184, 1185, 1186, 1230, 1231] (by decide +kernel) (by decide +kernel)
set_option maxRecDepth 20000 in
theorem gL_law_X10_at : GoodIn wsL_law (wsV RL 128 RX10 yX10_at wsX10_at) := goodIn_app (goodIn_of _ (by decide +kernel)) ggL_law_X10_at
set_option maxRecDepth 20000 in
theorem ggL_law_X11_at : GoodIn wsL_law wsX11_at := goodIn_r _ [956, 130, 957, 958, 959, 5, 960, 428, 396, 397, 398, 399, 400, 401, 402, 403, 404, 405, 406, 407, 325, 168, 169, 170, 408, 409, 410, 411, 364, 365, 366, 1187, 1188, 1189, 1190, 1191, 1192, 1193, 1194, 1195, 1196, 1197, 1198, 1199, 1200, 1201, 1202, 1203, 1204, 1205, 1206, 1207, 1208, 1209, 1210, 1211, 1212, 1213, 1214, 1215, 1216] (by decide +kernel) (by decide +kernel)
set_option maxRecDepth 20000 in
theorem gL_law_X11_at : GoodIn wsL_law (wsV RL 131 RX11 yX11_at wsX11_at) := goodIn_app (goodIn_of _ (by decide +kernel)) ggL_law_X11_at
set_option maxRecDepth 20000 in
theorem ggL_law_X10_spots : GoodIn wsL_law wsX10_spots := goodIn_r _ [964, 24, 379, 380, 381, 23, 382, 383, 384, 385, 386, 73, 416, 417, 2, 418, 688, 299, 300, 301, 75, 965, 463, 464, 465, 966, 734, 735, 736, 1175, 1176, 1177, 1178, 1179, 1180, 1181, 1182, 1183, 1184, 1185, 1186, 1230, 1231] (by decide +kernel) (by decide +kernel)
set_option maxRecDepth 20000 in
theorem gL_law_X10_spots : GoodIn wsL_law (wsV RL 132 RX10 yX10_spots wsX10_spots) := goodIn_app (goodIn_of _ (by decide +kernel)) ggL_law_X10_spots
set_option maxRecDepth 20000 in
theorem ggL_law_X11_spots : GoodIn wsL_law wsX11_spots := goodIn_r _ [970, 957, 958, 959, 5, 960, 428, 396, 397, 398, 399, 400, 401, 402, 403, 130, 404, 405, 406, 407, 325, 168, 169, 170, 408, 409, 410, 411, 364, 365, 366, 484, 485, 486, 487, 676, 677, 678, 1187, 1188, 1189, 1190, 1191, 1192, 1193, 1194, 1195, 1196, 1197, 1198, 1199, 1200, 1201, 1202, 1203, 1204, 1205, 1206, 1207, 1208, 1209, 1210, 1211, 1212, 1213, 1214, 1215, 1216] (by decide +kernel) (by decide +kernel)
set_option maxRecDepth 20000 in
theorem gL_law_X11_spots : GoodIn wsL_law (wsV RL 135 RX11 yX11_spots wsX11_spots) := goodIn_app (goodIn_of _ (by decide +kernel)) ggL_law_X11_spots
set_option maxRecDepth 20000 in
theorem ggL_law_X10_maps : GoodIn wsL_law wsX10_maps := goodIn_r _ [974, 24, 30, 179, 52, 975, 976, 818, 384, 385, 23, 386, 73, 977, 978, 2, 979, 980, 981, 982, 51, 983, 123, 984, 985, 986, 122, 987, 988, 989, 990, 991, 125, 124, 992, 311, 312, 313, 627, 628, 993, 994, 995, 996, 997, 299, 300, 301, 75, 998, 999, 1000, 1001, 1175, 1176, 1177, 1178, 1179, 1180, 1181, 1182, 1183, 1184, 1185, 1186, 1234, 1235, 1236, 1258, 1259, 1260, 1261, 1262, 1263, 1264, 1230, 1231] (by decide +kernel) (by decide +kernel)
set_option maxRecDepth 20000 in
theorem gL_law_X10_maps : GoodIn wsL_law (wsV RL 136 RX10 yX10_maps wsX10_maps) := goodIn_app (goodIn_of _ (by decide +kernel)) ggL_law_X10_maps
set_option maxRecDepth 20000 in
theorem ggL_law_X11_maps : GoodIn wsL_law wsX11_maps := goodIn_r _ [1005, 873, 130, 141, 139, 404, 405, 406, 5, 407, 325, 168, 169, 170, 1006, 1007, 1008, 1009, 138, 1010, 1011, 1012, 1013, 364, 365, 366, 1187, 1188, 1189, 1190, 1191, 1192, 1193, 1194, 1195, 1196, 1197, 1198, 1199, 1200, 1201, 1202, 1203, 1204, 1205, 1206, 1207, 1208, 1209, 1210, 1211, 1212, 1213, 1214, 1215, 1216] (by decide +kernel) (by decide +kernel)
set_option maxRecDepth 20000 in
theorem gL_law_X11_maps : GoodIn wsL_law (wsV RL 139 RX11 yX11_maps wsX11_maps) := goodIn_app (goodIn_of _ (by decide +kernel)) ggL_law_X11_maps
