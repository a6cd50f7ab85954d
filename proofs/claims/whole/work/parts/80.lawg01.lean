set_option maxRecDepth 20000 in
theorem ggL_law_X10_tell : GoodIn wsL_law wsX10_tell := goodIn_r _ [415, 24, 379, 380, 381, 23, 382, 383, 384, 385, 386, 73, 416, 417, 2, 418, 387, 388, 389, 390, 391, 299, 300, 301, 75, 419, 303, 304, 305, 1175, 1176, 1177, 1178, 1179, 1180, 1181, 1182, 1183, 1184, 1185, 1186, 1230, 1231] (by decide +kernel) (by decide +kernel)
set_option maxRecDepth 20000 in
theorem gL_law_X10_tell : GoodIn wsL_law (wsV RL 39 RX10 yX10_tell wsX10_tell) := goodIn_app (goodIn_of _ (by decide +kernel)) ggL_law_X10_tell
set_option maxRecDepth 20000 in
theorem ggL_law_X11_tell : GoodIn wsL_law wsX11_tell := goodIn_r _ [423, 424, 425, 426, 5, 427, 428, 130, 396, 397, 398, 399, 400, 401, 402, 403, 404, 405, 406, 407, 325, 168, 169, 170, 408, 409, 410, 411, 364, 365, 366, 1187, 1188, 1189, 1190, 1191, 1192, 1193, 1194, 1195, 1196, 1197, 1198, 1199, 1200, 1201, 1202, 1203, 1204, 1205, 1206, 1207, 1208, 1209, 1210, 1211, 1212, 1213, 1214, 1215, 1216] (by decide +kernel) (by decide +kernel)
set_option maxRecDepth 20000 in
theorem gL_law_X11_tell : GoodIn wsL_law (wsV RL 43 RX11 yX11_tell wsX11_tell) := goodIn_app (goodIn_of _ (by decide +kernel)) ggL_law_X11_tell
set_option maxRecDepth 20000 in
theorem ggL_law_X10_pair : GoodIn wsL_law wsX10_pair := goodIn_r _ [432, 24, 379, 380, 381, 23, 382, 383, 384, 385, 386, 73, 433, 434, 2, 435, 436, 295, 296, 297, 437, 438, 439, 1175, 1176, 1177, 1178, 1179, 1180, 1181, 1182, 1183, 1184, 1185, 1186, 1230, 1231] (by decide +kernel) (by decide +kernel)
set_option maxRecDepth 20000 in
theorem gL_law_X10_pair : GoodIn wsL_law (wsV RL 44 RX10 yX10_pair wsX10_pair) := goodIn_app (goodIn_of _ (by decide +kernel)) ggL_law_X10_pair
set_option maxRecDepth 20000 in
theorem ggL_law_X11_pair : GoodIn wsL_law wsX11_pair := goodIn_r _ [443, 396, 397, 398, 5, 399, 400, 401, 402, 403, 130, 404, 405, 406, 407, 325, 168, 169, 170, 364, 365, 366, 1187, 1188, 1189, 1190, 1191, 1192, 1193, 1194, 1195, 1196, 1197, 1198, 1199, 1200, 1201, 1202, 1203, 1204, 1205, 1206, 1207, 1208, 1209, 1210, 1211, 1212, 1213, 1214, 1215, 1216] (by decide +kernel) (by decide +kernel)
set_option maxRecDepth 20000 in
theorem gL_law_X11_pair : GoodIn wsL_law (wsV RL 47 RX11 yX11_pair wsX11_pair) := goodIn_app (goodIn_of _ (by decide +kernel)) ggL_law_X11_pair
set_option maxRecDepth 20000 in
theorem ggL_law_X10_wide : GoodIn wsL_law wsX10_wide := goodIn_r _ [447, 24, 448, 449, 450, 451, 452, 23, 453, 454, 380, 381, 382, 383, 384, 385, 386, 73, 455, 456, 457, 458, 391, 299, 300, 301, 75, 459, 460, 461, 462, 463, 2, 464, 465, 1175, 1176, 1177, 1178, 1179, 1180, 1181, 1182, 1183, 1184, 1185, 1186, 1230, 1231] (by decide +kernel) (by decide +kernel)
set_option maxRecDepth 20000 in
theorem gL_law_X10_wide : GoodIn wsL_law (wsV RL 48 RX10 yX10_wide wsX10_wide) := goodIn_app (goodIn_of _ (by decide +kernel)) ggL_law_X10_wide
set_option maxRecDepth 20000 in
theorem ggL_law_X11_wide : GoodIn wsL_law wsX11_wide := goodIn_r _ [469, 470, 471, 472, 473, 474, 5, 475, 396, 397, 398, 399, 400, 401, 402, 403, 130, 404, 405, 406, 407, 325, 168, 169, 170, 476, 477, 478, 479, 408, 409, 410, 411, 364, 365, 366, 480, 481, 482, 483, 484, 485, 486, 487, 1187, 1188, 1189, 1190, 1191, 1192, 1193, 1194, 1195, 1196, 1197, 1198, 1199, 1200, 1201, 1202, 1203, 1204, 1205, 1206, 1207, 1208, 1209, 1210, 1211, 1212, 1213, 1214, 1215, 1216] (by decide +kernel) (by decide +kernel)
set_option maxRecDepth 20000 in
theorem gL_law_X11_wide : GoodIn wsL_law (wsV RL 52 RX11 yX11_wide wsX11_wide) := goodIn_app (goodIn_of _ (by decide +kernel)) ggL_law_X11_wide
set_option maxRecDepth 20000 in
theorem ggL_law_X10_three : GoodIn wsL_law wsX10_three := goodIn_r _ [491, 24, 450, 451, 452, 23, 453, 454, 380, 381, 382, 383, 384, 385, 386, 73, 455, 456, 457, 458, 391, 299, 300, 301, 75, 492, 493, 494, 495, 496, 460, 461, 462, 463, 2, 464, 465, 497, 498, 499, 1175, 1176, 1177, 1178, 1179, 1180, 1181, 1182, 1183, 1184, 1185, 1186, 1230, 1231] (by decide +kernel) (by decide +kernel)
set_option maxRecDepth 20000 in
theorem gL_law_X10_three : GoodIn wsL_law (wsV RL 53 RX10 yX10_three wsX10_three) := goodIn_app (goodIn_of _ (by decide +kernel)) ggL_law_X10_three
set_option maxRecDepth 20000 in
theorem ggL_law_X11_three : GoodIn wsL_law wsX11_three := goodIn_r _ [503, 472, 473, 474, 5, 475, 396, 397, 398, 399, 400, 401, 402, 403, 130, 404, 405, 406, 407, 325, 168, 169, 170, 476, 477, 478, 479, 408, 409, 410, 411, 364, 365, 366, 504, 505, 506, 507, 480, 481, 482, 483, 484, 485, 486, 487, 1187, 1188, 1189, 1190, 1191, 1192, 1193, 1194, 1195, 1196, 1197, 1198, 1199, 1200, 1201, 1202, 1203, 1204, 1205, 1206, 1207, 1208, 1209, 1210, 1211, 1212, 1213, 1214, 1215, 1216] (by decide +kernel) (by decide +kernel)
set_option maxRecDepth 20000 in
theorem gL_law_X11_three : GoodIn wsL_law (wsV RL 56 RX11 yX11_three wsX11_three) := goodIn_app (goodIn_of _ (by decide +kernel)) ggL_law_X11_three
set_option maxRecDepth 20000 in
theorem ggL_law_X10_four : GoodIn wsL_law wsX10_four := goodIn_r _ [511, 24, 512, 513, 514, 23, 515, 516, 451, 452, 453, 454, 380, 381, 382, 383, 384, 385, 386, 73, 517, 518, 519, 520, 521, 456, 457, 458, 391, 299, 300, 301, 75, 522, 523, 524, 525, 526, 493, 494, 495, 496, 460, 461, 462, 463, 2, 464, 465, 527, 528, 529, 530, 531, 532, 533, 534, 535, 497, 498, 499, 1175, 1176, 1177, 1178, 1179, 1180, 1181, 1182, 1183, 1184, 1185, 1186, 1230, 1231] (by decide +kernel) (by decide +kernel)
set_option maxRecDepth 20000 in
theorem gL_law_X10_four : GoodIn wsL_law (wsV RL 57 RX10 yX10_four wsX10_four) := goodIn_app (goodIn_of _ (by decide +kernel)) ggL_law_X10_four
set_option maxRecDepth 20000 in
theorem ggL_law_X11_four : GoodIn wsL_law wsX11_four := goodIn_r _ [539, 540, 541, 542, 5, 543, 472, 473, 474, 475, 396, 397, 398, 399, 400, 401, 402, 403, 130, 404, 405, 406, 407, 325, 168, 169, 170, 544, 545, 546, 547, 476, 477, 478, 479, 408, 409, 410, 411, 364, 365, 366, 548, 549, 550, 551, 552, 504, 505, 506, 507, 480, 481, 482, 483, 484, 485, 486, 487, 553, 554, 555, 556, 1187, 1188, 1189, 1190, 1191, 1192, 1193, 1194, 1195, 1196, 1197, 1198, 1199, 1200, 1201, 1202, 1203, 1204, 1205, 1206, 1207, 1208, 1209, 1210, 1211, 1212, 1213, 1214, 1215, 1216] (by decide +kernel) (by decide +kernel)
set_option maxRecDepth 20000 in
theorem gL_law_X11_four : GoodIn wsL_law (wsV RL 61 RX11 yX11_four wsX11_four) := goodIn_app (goodIn_of _ (by decide +kernel)) ggL_law_X11_four
set_option maxRecDepth 20000 in
theorem ggL_law_X10_wrong : GoodIn wsL_law wsX10_wrong := goodIn_r _ [560, 40, 24, 561, 562, 563, 564, 565, 566, 567, 39, 568, 569, 570, 571, 572, 573, 574, 575, 576, 577, 578, 579, 456, 457, 23, 458, 391, 299, 300, 301, 75, 580, 460, 461, 462, 463, 2, 464, 465, 581, 582, 583, 434, 435, 436, 295, 296, 297, 437, 438, 439, 584, 585, 586, 587, 105, 588, 518, 519, 520, 521, 589, 523, 524, 525, 526, 493, 494, 495, 496, 527, 528, 529, 530, 531, 532, 533, 534, 535, 1175, 1176, 1177, 1178, 1179, 1180, 1181, 1182, 1183, 1184, 1185, 1186, 1240, 1241, 1242, 1243, 1244, 1245, 1246, 1230, 1231] (by decide +kernel) (by decide +kernel)
set_option maxRecDepth 20000 in
theorem gL_law_X10_wrong : GoodIn wsL_law (wsV RL 62 RX10 yX10_wrong wsX10_wrong) := goodIn_app (goodIn_of _ (by decide +kernel)) ggL_law_X10_wrong
set_option maxRecDepth 20000 in
theorem ggL_law_X11_wrong : GoodIn wsL_law wsX11_wrong := goodIn_r _ [593, 594, 134, 404, 405, 406, 5, 407, 325, 130, 168, 169, 170, 595, 596, 597, 598, 476, 477, 478, 479, 408, 409, 410, 411, 364, 365, 366, 504, 505, 506, 507, 480, 481, 482, 483, 484, 485, 486, 487, 544, 545, 546, 547, 548, 549, 550, 551, 552, 553, 554, 555, 556, 1187, 1188, 1189, 1190, 1191, 1192, 1193, 1194, 1195, 1196, 1197, 1198, 1199, 1200, 1201, 1202, 1203, 1204, 1205, 1206, 1207, 1208, 1209, 1210, 1211, 1212, 1213, 1214, 1215, 1216] (by decide +kernel) (by decide +kernel)
set_option maxRecDepth 20000 in
theorem gL_law_X11_wrong : GoodIn wsL_law (wsV RL 65 RX11 yX11_wrong wsX11_wrong) := goodIn_app (goodIn_of _ (by decide +kernel)) ggL_law_X11_wrong
