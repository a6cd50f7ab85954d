set_option maxRecDepth 20000 in
theorem ggL_law_X10_falses : GoodIn wsL_law wsX10_falses := goodIn_r _ [602, 40, 24, 565, 566, 567, 39, 568, 569, 570, 571, 572, 573, 574, 575, 576, 577, 578, 579, 456, 457, 23, 458, 391, 299, 300, 301, 75, 580, 460, 461, 462, 463, 2, 464, 465, 581, 582, 583, 434, 435, 436, 295, 296, 297, 437, 438, 439, 584, 585, 586, 587, 105, 588, 518, 519, 520, 521, 589, 523, 524, 525, 526, 493, 494, 495, 496, 527, 528, 529, 530, 531, 532, 533, 534, 535, 603, 604, 605, 606, 607, 608, 609, 610, 611, 612, 613, 614, 615, 616, 617, 618, 619, 620, 621, 622, 623, 624, 625, 626, 627, 628, 629, 1175, 1176, 1177, 1178, 1179, 1180, 1181, 1182, 1183, 1184, 1185, 1186, 1240, 1241, 1242, 1243, 1244, 1245, 1246, 1230, 1231] (by decide +kernel) (by decide +kernel)
set_option maxRecDepth 20000 in
theorem gL_law_X10_falses : GoodIn wsL_law (wsV RL 66 RX10 yX10_falses wsX10_falses) := goodIn_app (goodIn_of _ (by decide +kernel)) ggL_law_X10_falses
set_option maxRecDepth 20000 in
theorem ggL_law_X11_falses : GoodIn wsL_law wsX11_falses := goodIn_r _ [633, 404, 405, 406, 5, 407, 325, 130, 168, 169, 170, 634, 635, 636, 637, 638, 639, 640, 641, 642, 643, 644, 645, 135, 646, 647, 648, 649, 134, 595, 596, 597, 598, 476, 477, 478, 479, 408, 409, 410, 411, 364, 365, 366, 504, 505, 506, 507, 480, 481, 482, 483, 484, 485, 486, 487, 544, 545, 546, 547, 548, 549, 550, 551, 552, 553, 554, 555, 556, 1187, 1188, 1189, 1190, 1191, 1192, 1193, 1194, 1195, 1196, 1197, 1198, 1199, 1200, 1201, 1202, 1203, 1204, 1205, 1206, 1207, 1208, 1209, 1210, 1211, 1212, 1213, 1214, 1215, 1216] (by decide +kernel) (by decide +kernel)
set_option maxRecDepth 20000 in
theorem gL_law_X11_falses : GoodIn wsL_law (wsV RL 69 RX11 yX11_falses wsX11_falses) := goodIn_app (goodIn_of _ (by decide +kernel)) ggL_law_X11_falses
set_option maxRecDepth 20000 in
theorem ggL_law_X10_doubt : GoodIn wsL_law wsX10_doubt := goodIn_r _ [653, 40, 24, 565, 566, 567, 39, 568, 569, 570, 571, 572, 573, 574, 575, 576, 577, 578, 579, 456, 457, 23, 458, 391, 299, 300, 301, 75, 580, 460, 461, 462, 463, 2, 464, 465, 581, 582, 583, 434, 435, 436, 295, 296, 297, 437, 438, 439, 584, 585, 586, 587, 105, 588, 518, 519, 520, 521, 589, 523, 524, 525, 526, 493, 494, 495, 496, 527, 528, 529, 530, 531, 532, 533, 534, 535, 654, 655, 656, 657, 658, 659, 660, 661, 627, 628, 498, 499, 662, 1175, 1176, 1177, 1178, 1179, 1180, 1181, 1182, 1183, 1184, 1185, 1186, 1240, 1241, 1242, 1243, 1244, 1245, 1246, 1230, 1231] (by decide +kernel) (by decide +kernel)
set_option maxRecDepth 20000 in
theorem gL_law_X10_doubt : GoodIn wsL_law (wsV RL 70 RX10 yX10_doubt wsX10_doubt) := goodIn_app (goodIn_of _ (by decide +kernel)) ggL_law_X10_doubt
set_option maxRecDepth 20000 in
theorem ggL_law_X11_doubt : GoodIn wsL_law wsX11_doubt := goodIn_r _ [666, 134, 130, 404, 405, 406, 5, 407, 325, 168, 169, 170, 595, 596, 597, 598, 476, 477, 478, 479, 408, 409, 410, 411, 364, 365, 366, 504, 505, 506, 507, 480, 481, 482, 483, 484, 485, 486, 487, 544, 545, 546, 547, 548, 549, 550, 551, 552, 553, 554, 555, 556, 1187, 1188, 1189, 1190, 1191, 1192, 1193, 1194, 1195, 1196, 1197, 1198, 1199, 1200, 1201, 1202, 1203, 1204, 1205, 1206, 1207, 1208, 1209, 1210, 1211, 1212, 1213, 1214, 1215, 1216] (by decide +kernel) (by decide +kernel)
set_option maxRecDepth 20000 in
theorem gL_law_X11_doubt : GoodIn wsL_law (wsV RL 73 RX11 yX11_doubt wsX11_doubt) := goodIn_app (goodIn_of _ (by decide +kernel)) ggL_law_X11_doubt
set_option maxRecDepth 20000 in
theorem ggL_law_X10_bend : GoodIn wsL_law wsX10_bend := goodIn_r _ [670, 24, 450, 451, 452, 23, 453, 454, 380, 381, 382, 383, 384, 385, 386, 73, 455, 456, 457, 458, 391, 299, 300, 301, 75, 671, 533, 534, 535, 1175, 1176, 1177, 1178, 1179, 1180, 1181, 1182, 1183, 1184, 1185, 1186, 1230, 1231] (by decide +kernel) (by decide +kernel)
set_option maxRecDepth 20000 in
theorem gL_law_X10_bend : GoodIn wsL_law (wsV RL 74 RX10 yX10_bend wsX10_bend) := goodIn_app (goodIn_of _ (by decide +kernel)) ggL_law_X10_bend
set_option maxRecDepth 20000 in
theorem ggL_law_X11_bend : GoodIn wsL_law wsX11_bend := goodIn_r _ [675, 472, 473, 474, 5, 475, 396, 397, 398, 399, 400, 401, 402, 403, 130, 404, 405, 406, 407, 325, 168, 169, 170, 476, 477, 478, 479, 408, 409, 410, 411, 364, 365, 366, 553, 554, 555, 556, 676, 677, 678, 1187, 1188, 1189, 1190, 1191, 1192, 1193, 1194, 1195, 1196, 1197, 1198, 1199, 1200, 1201, 1202, 1203, 1204, 1205, 1206, 1207, 1208, 1209, 1210, 1211, 1212, 1213, 1214, 1215, 1216] (by decide +kernel) (by decide +kernel)
set_option maxRecDepth 20000 in
theorem gL_law_X11_bend : GoodIn wsL_law (wsV RL 77 RX11 yX11_bend wsX11_bend) := goodIn_app (goodIn_of _ (by decide +kernel)) ggL_law_X11_bend
set_option maxRecDepth 20000 in
theorem ggL_law_X10_foot : GoodIn wsL_law wsX10_foot := goodIn_r _ [682, 24, 683, 684, 685, 686, 2, 687, 448, 449, 450, 451, 452, 23, 453, 454, 380, 381, 382, 383, 384, 385, 386, 73, 455, 456, 457, 458, 391, 299, 300, 301, 75, 492, 493, 494, 495, 496, 460, 461, 462, 463, 464, 465, 671, 533, 534, 535, 688, 689, 690, 691, 692, 693, 296, 694, 695, 696, 697, 1175, 1176, 1177, 1178, 1179, 1180, 1181, 1182, 1183, 1184, 1185, 1186, 1230, 1231] (by decide +kernel) (by decide +kernel)
set_option maxRecDepth 20000 in
theorem gL_law_X10_foot : GoodIn wsL_law (wsV RL 78 RX10 yX10_foot wsX10_foot) := goodIn_app (goodIn_of _ (by decide +kernel)) ggL_law_X10_foot
set_option maxRecDepth 20000 in
theorem ggL_law_X11_foot : GoodIn wsL_law wsX11_foot := goodIn_r _ [701, 552, 702, 703, 704, 5, 705, 470, 471, 472, 473, 474, 475, 396, 397, 398, 399, 400, 401, 402, 403, 130, 404, 405, 406, 407, 325, 168, 169, 170, 476, 477, 478, 479, 408, 409, 410, 411, 364, 365, 366, 504, 505, 506, 507, 480, 481, 482, 483, 484, 485, 486, 487, 553, 554, 555, 556, 706, 707, 708, 1187, 1188, 1189, 1190, 1191, 1192, 1193, 1194, 1195, 1196, 1197, 1198, 1199, 1200, 1201, 1202, 1203, 1204, 1205, 1206, 1207, 1208, 1209, 1210, 1211, 1212, 1213, 1214, 1215, 1216] (by decide +kernel) (by decide +kernel)
set_option maxRecDepth 20000 in
theorem gL_law_X11_foot : GoodIn wsL_law (wsV RL 82 RX11 yX11_foot wsX11_foot) := goodIn_app (goodIn_of _ (by decide +kernel)) ggL_law_X11_foot
set_option maxRecDepth 20000 in
theorem ggL_law_X10_height : GoodIn wsL_law wsX10_height := goodIn_r _ [712, 24, 465, 684, 685, 686, 2, 687, 448, 449, 450, 451, 452, 23, 453, 454, 380, 381, 382, 383, 384, 385, 386, 73, 455, 456, 457, 458, 391, 299, 300, 301, 75, 492, 493, 494, 495, 496, 460, 461, 462, 463, 464, 459, 688, 689, 690, 691, 692, 693, 296, 694, 695, 696, 697, 1175, 1176, 1177, 1178, 1179, 1180, 1181, 1182, 1183, 1184, 1185, 1186, 1230, 1231] (by decide +kernel) (by decide +kernel)
set_option maxRecDepth 20000 in
theorem gL_law_X10_height : GoodIn wsL_law (wsV RL 83 RX10 yX10_height wsX10_height) := goodIn_app (goodIn_of _ (by decide +kernel)) ggL_law_X10_height
set_option maxRecDepth 20000 in
theorem ggL_law_X11_height : GoodIn wsL_law wsX11_height := goodIn_r _ [716, 487, 702, 703, 704, 5, 705, 470, 471, 472, 473, 474, 475, 396, 397, 398, 399, 400, 401, 402, 403, 130, 404, 405, 406, 407, 325, 168, 169, 170, 476, 477, 478, 479, 408, 409, 410, 411, 364, 365, 366, 504, 505, 506, 507, 480, 481, 482, 483, 484, 485, 486, 706, 707, 708, 1187, 1188, 1189, 1190, 1191, 1192, 1193, 1194, 1195, 1196, 1197, 1198, 1199, 1200, 1201, 1202, 1203, 1204, 1205, 1206, 1207, 1208, 1209, 1210, 1211, 1212, 1213, 1214, 1215, 1216] (by decide +kernel) (by decide +kernel)
set_option maxRecDepth 20000 in
theorem gL_law_X11_height : GoodIn wsL_law (wsV RL 86 RX11 yX11_height wsX11_height) := goodIn_app (goodIn_of _ (by decide +kernel)) ggL_law_X11_height
set_option maxRecDepth 20000 in
theorem ggL_law_X10_round : GoodIn wsL_law wsX10_round := goodIn_r _ [720, 24, 449, 684, 685, 686, 2, 687, 448, 450, 451, 452, 23, 453, 454, 380, 381, 382, 383, 384, 385, 386, 73, 455, 456, 457, 458, 391, 299, 300, 301, 75, 492, 493, 494, 495, 496, 460, 461, 462, 463, 464, 465, 459, 688, 689, 690, 691, 692, 693, 296, 694, 695, 696, 697, 1175, 1176, 1177, 1178, 1179, 1180, 1181, 1182, 1183, 1184, 1185, 1186, 1230, 1231] (by decide +kernel) (by decide +kernel)
set_option maxRecDepth 20000 in
theorem gL_law_X10_round : GoodIn wsL_law (wsV RL 87 RX10 yX10_round wsX10_round) := goodIn_app (goodIn_of _ (by decide +kernel)) ggL_law_X10_round
set_option maxRecDepth 20000 in
theorem ggL_law_X11_round : GoodIn wsL_law wsX11_round := goodIn_r _ [724, 471, 702, 703, 704, 5, 705, 470, 472, 473, 474, 475, 396, 397, 398, 399, 400, 401, 402, 403, 130, 404, 405, 406, 407, 325, 168, 169, 170, 476, 477, 478, 479, 408, 409, 410, 411, 364, 365, 366, 504, 505, 506, 507, 480, 481, 482, 483, 484, 485, 486, 487, 706, 707, 708, 1187, 1188, 1189, 1190, 1191, 1192, 1193, 1194, 1195, 1196, 1197, 1198, 1199, 1200, 1201, 1202, 1203, 1204, 1205, 1206, 1207, 1208, 1209, 1210, 1211, 1212, 1213, 1214, 1215, 1216] (by decide +kernel) (by decide +kernel)
set_option maxRecDepth 20000 in
theorem gL_law_X11_round : GoodIn wsL_law (wsV RL 90 RX11 yX11_round wsX11_round) := goodIn_app (goodIn_of _ (by decide +kernel)) ggL_law_X11_round
