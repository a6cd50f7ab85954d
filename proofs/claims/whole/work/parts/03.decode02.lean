set_option maxRecDepth 20000 in
theorem ggX10_four_X8_isToldFour : GoodIn wsX10_four wsX8_isToldFour := goodIn_r _ [23, 24, 25, 26, 5, 27, 28, 29, 30, 31, 32, 73, 74] (by decide +kernel) (by decide +kernel)
set_option maxRecDepth 20000 in
theorem gX10_four_X8_isToldFour : GoodIn wsX10_four (wsV RX10 167 RX8 yX8_isToldFour wsX8_isToldFour) := goodIn_app (goodIn_of _ (by decide +kernel)) ggX10_four_X8_isToldFour
set_option maxRecDepth 20000 in
theorem ggX10_four_X8_canBeFour : GoodIn wsX10_four wsX8_canBeFour := goodIn_r _ [36, 37, 38, 39, 5, 40, 41, 42, 43, 44, 28, 29, 30, 31, 32, 45, 46, 47, 48, 49, 50, 51, 52, 53, 54, 55, 56, 57, 73, 74] (by decide +kernel) (by decide +kernel)
set_option maxRecDepth 20000 in
theorem gX10_four_X8_canBeFour : GoodIn wsX10_four (wsV RX10 170 RX8 yX8_canBeFour wsX8_canBeFour) := goodIn_app (goodIn_of _ (by decide +kernel)) ggX10_four_X8_canBeFour
set_option maxRecDepth 20000 in
theorem ggX10_four_X10_bit : GoodIn wsX10_four wsX10_bit := goodIn_r _ [60] (by decide +kernel) (by decide +kernel)
set_option maxRecDepth 20000 in
theorem gX10_four_X10_bit : GoodIn wsX10_four (va_wsS RX10 159 yX10_bit wsX10_bit) := goodIn_app (goodIn_of _ (by decide +kernel)) ggX10_four_X10_bit
theorem dX10_four_0 : decode cX10_four 0 = .ok (.aload_n 0, 1) := by decide +kernel
theorem dX10_four_1 : decode cX10_four 1 = .ok (.getfield 28, 3) := by decide +kernel
theorem dX10_four_4 : decode cX10_four 4 = .ok (.iload_n 1, 1) := by decide +kernel
theorem dX10_four_5 : decode cX10_four 5 = .ok (.iload_n 2, 1) := by decide +kernel
theorem dX10_four_6 : decode cX10_four 6 = .ok (.iload_n 3, 1) := by decide +kernel
theorem dX10_four_7 : decode cX10_four 7 = .ok (.iload 4, 2) := by decide +kernel
theorem dX10_four_9 : decode cX10_four 9 = .ok (.invokevirtual 163, 3) := by decide +kernel
theorem dX10_four_12 : decode cX10_four 12 = .ok (.ifCond .ne 5, 3) := by decide +kernel
theorem dX10_four_15 : decode cX10_four 15 = .ok (.iconst (-1), 1) := by decide +kernel
theorem dX10_four_16 : decode cX10_four 16 = .ok (.ireturn, 1) := by decide +kernel
theorem dX10_four_17 : decode cX10_four 17 = .ok (.aload_n 0, 1) := by decide +kernel
theorem dX10_four_18 : decode cX10_four 18 = .ok (.getfield 28, 3) := by decide +kernel
theorem dX10_four_21 : decode cX10_four 21 = .ok (.iload_n 1, 1) := by decide +kernel
theorem dX10_four_22 : decode cX10_four 22 = .ok (.iload_n 2, 1) := by decide +kernel
theorem dX10_four_23 : decode cX10_four 23 = .ok (.iload_n 3, 1) := by decide +kernel
theorem dX10_four_24 : decode cX10_four 24 = .ok (.iload 4, 2) := by decide +kernel
theorem dX10_four_26 : decode cX10_four 26 = .ok (.invokevirtual 167, 3) := by decide +kernel
theorem dX10_four_29 : decode cX10_four 29 = .ok (.ifCond .ne 6, 3) := by decide +kernel
theorem dX10_four_32 : decode cX10_four 32 = .ok (.bipush (-4), 2) := by decide +kernel
theorem dX10_four_34 : decode cX10_four 34 = .ok (.ireturn, 1) := by decide +kernel
theorem dX10_four_35 : decode cX10_four 35 = .ok (.aload_n 0, 1) := by decide +kernel
theorem dX10_four_36 : decode cX10_four 36 = .ok (.getfield 28, 3) := by decide +kernel
theorem dX10_four_39 : decode cX10_four 39 = .ok (.iload_n 1, 1) := by decide +kernel
theorem dX10_four_40 : decode cX10_four 40 = .ok (.iload_n 2, 1) := by decide +kernel
theorem dX10_four_41 : decode cX10_four 41 = .ok (.iload_n 3, 1) := by decide +kernel
theorem dX10_four_42 : decode cX10_four 42 = .ok (.iload 4, 2) := by decide +kernel
theorem dX10_four_44 : decode cX10_four 44 = .ok (.invokevirtual 170, 3) := by decide +kernel
theorem dX10_four_47 : decode cX10_four 47 = .ok (.invokestatic 159, 3) := by decide +kernel
theorem dX10_four_50 : decode cX10_four 50 = .ok (.ireturn, 1) := by decide +kernel
set_option maxRecDepth 20000 in
theorem ggX10_wrong_X1_lookAt : GoodIn wsX10_wrong wsX1_lookAt := goodIn_r _ [11, 12, 13, 14, 15, 16, 17, 18, 19, 20, 10, 21, 22, 23, 24, 25, 26, 27, 28, 29, 30, 31, 32, 33, 34, 35, 36, 37, 38, 39, 40, 41, 42, 43, 44, 45, 46, 47, 48, 49, 50, 51, 52, 53, 54, 55, 56, 57, 58, 59, 60, 61, 62, 63, 64, 65, 66, 67, 68, 69, 70, 71, 72, 73, 74, 75, 76, 77, 78, 79, 92, 93, 94, 95, 96, 97, 98, 99, 100] (by decide +kernel) (by decide +kernel)
set_option maxRecDepth 20000 in
theorem gX10_wrong_X1_lookAt : GoodIn wsX10_wrong (wsV RX10 173 RX1 yX1_lookAt wsX1_lookAt) := goodIn_app (goodIn_of _ (by decide +kernel)) ggX10_wrong_X1_lookAt
theorem dX10_wrong_0 : decode cX10_wrong 0 = .ok (.iload_n 1, 1) := by decide +kernel
theorem dX10_wrong_1 : decode cX10_wrong 1 = .ok (.ifCond .lt 8, 3) := by decide +kernel
theorem dX10_wrong_4 : decode cX10_wrong 4 = .ok (.iload_n 1, 1) := by decide +kernel
theorem dX10_wrong_5 : decode cX10_wrong 5 = .ok (.iconst 3, 1) := by decide +kernel
theorem dX10_wrong_6 : decode cX10_wrong 6 = .ok (.if_icmp .le 5, 3) := by decide +kernel
theorem dX10_wrong_9 : decode cX10_wrong 9 = .ok (.iconst (-1), 1) := by decide +kernel
theorem dX10_wrong_10 : decode cX10_wrong 10 = .ok (.ireturn, 1) := by decide +kernel
theorem dX10_wrong_11 : decode cX10_wrong 11 = .ok (.aload_n 0, 1) := by decide +kernel
theorem dX10_wrong_12 : decode cX10_wrong 12 = .ok (.getfield 56, 3) := by decide +kernel
theorem dX10_wrong_15 : decode cX10_wrong 15 = .ok (.aload_n 0, 1) := by decide +kernel
theorem dX10_wrong_16 : decode cX10_wrong 16 = .ok (.getfield 28, 3) := by decide +kernel
theorem dX10_wrong_19 : decode cX10_wrong 19 = .ok (.invokevirtual 173, 3) := by decide +kernel
theorem dX10_wrong_22 : decode cX10_wrong 22 = .ok (.iload_n 1, 1) := by decide +kernel
theorem dX10_wrong_23 : decode cX10_wrong 23 = .ok (.tableswitch 49 0 2 #[25, 33, 41], 25) := by decide +kernel
theorem dX10_wrong_48 : decode cX10_wrong 48 = .ok (.aload_n 0, 1) := by decide +kernel
theorem dX10_wrong_49 : decode cX10_wrong 49 = .ok (.getfield 56, 3) := by decide +kernel
theorem dX10_wrong_52 : decode cX10_wrong 52 = .ok (.getfield 176, 3) := by decide +kernel
theorem dX10_wrong_55 : decode cX10_wrong 55 = .ok (.ireturn, 1) := by decide +kernel
theorem dX10_wrong_56 : decode cX10_wrong 56 = .ok (.aload_n 0, 1) := by decide +kernel
theorem dX10_wrong_57 : decode cX10_wrong 57 = .ok (.getfield 56, 3) := by decide +kernel
theorem dX10_wrong_60 : decode cX10_wrong 60 = .ok (.getfield 179, 3) := by decide +kernel
theorem dX10_wrong_63 : decode cX10_wrong 63 = .ok (.ireturn, 1) := by decide +kernel
theorem dX10_wrong_64 : decode cX10_wrong 64 = .ok (.aload_n 0, 1) := by decide +kernel
theorem dX10_wrong_65 : decode cX10_wrong 65 = .ok (.getfield 56, 3) := by decide +kernel
theorem dX10_wrong_68 : decode cX10_wrong 68 = .ok (.getfield 182, 3) := by decide +kernel
theorem dX10_wrong_71 : decode cX10_wrong 71 = .ok (.ireturn, 1) := by decide +kernel
theorem dX10_wrong_72 : decode cX10_wrong 72 = .ok (.aload_n 0, 1) := by decide +kernel
theorem dX10_wrong_73 : decode cX10_wrong 73 = .ok (.getfield 56, 3) := by decide +kernel
theorem dX10_wrong_76 : decode cX10_wrong 76 = .ok (.getfield 185, 3) := by decide +kernel
theorem dX10_wrong_79 : decode cX10_wrong 79 = .ok (.ireturn, 1) := by decide +kernel
set_option maxRecDepth 20000 in
theorem ggX10_falses_X1_lookAt : GoodIn wsX10_falses wsX1_lookAt := goodIn_r _ [7, 8, 9, 10, 11, 12, 13, 14, 15, 16, 6, 17, 18, 19, 20, 21, 22, 23, 24, 25, 26, 27, 28, 29, 30, 31, 32, 33, 34, 35, 36, 37, 38, 39, 40, 41, 42, 43, 44, 45, 46, 47, 48, 49, 50, 51, 52, 53, 54, 55, 56, 57, 58, 59, 60, 61, 62, 63, 64, 65, 66, 67, 68, 69, 70, 71, 72, 73, 74, 75, 115, 116, 117, 118, 119, 120, 121, 122, 123] (by decide +kernel) (by decide +kernel)
set_option maxRecDepth 20000 in
theorem gX10_falses_X1_lookAt : GoodIn wsX10_falses (wsV RX10 173 RX1 yX1_lookAt wsX1_lookAt) := goodIn_app (goodIn_of _ (by decide +kernel)) ggX10_falses_X1_lookAt
set_option maxRecDepth 20000 in
theorem ggX10_falses_X1_fewestFalse : GoodIn wsX10_falses wsX1_fewestFalse := goodIn_r _ [79, 80, 81, 82, 83, 6, 84, 85, 86, 87, 88, 12, 52, 89, 90, 91, 92, 93, 94, 95, 96, 97, 98, 99, 100, 33, 101, 115, 116, 117, 118, 119, 120, 121] (by decide +kernel) (by decide +kernel)
set_option maxRecDepth 20000 in
theorem gX10_falses_X1_fewestFalse : GoodIn wsX10_falses (wsV RX10 188 RX1 yX1_fewestFalse wsX1_fewestFalse) := goodIn_app (goodIn_of _ (by decide +kernel)) ggX10_falses_X1_fewestFalse
set_option maxRecDepth 20000 in
theorem ggX10_falses_J6_bitCount_0f7a4 : GoodIn wsX10_falses wsJ6_bitCount_0f7a4 := goodIn_r _ [96, 97, 98, 99] (by decide +kernel) (by decide +kernel)
set_option maxRecDepth 20000 in
theorem gX10_falses_J6_bitCount_0f7a4 : GoodIn wsX10_falses (va_wsS RX10 192 yJ6_bitCount_0f7a4 wsJ6_bitCount_0f7a4) := goodIn_app (goodIn_of _ (by decide +kernel)) ggX10_falses_J6_bitCount_0f7a4
theorem dX10_falses_0 : decode cX10_falses 0 = .ok (.iload_n 1, 1) := by decide +kernel
theorem dX10_falses_1 : decode cX10_falses 1 = .ok (.ifCond .lt 8, 3) := by decide +kernel
theorem dX10_falses_4 : decode cX10_falses 4 = .ok (.iload_n 1, 1) := by decide +kernel
theorem dX10_falses_5 : decode cX10_falses 5 = .ok (.iconst 1, 1) := by decide +kernel
theorem dX10_falses_6 : decode cX10_falses 6 = .ok (.if_icmp .le 5, 3) := by decide +kernel
theorem dX10_falses_9 : decode cX10_falses 9 = .ok (.iconst (-1), 1) := by decide +kernel
theorem dX10_falses_10 : decode cX10_falses 10 = .ok (.ireturn, 1) := by decide +kernel
theorem dX10_falses_11 : decode cX10_falses 11 = .ok (.aload_n 0, 1) := by decide +kernel
theorem dX10_falses_12 : decode cX10_falses 12 = .ok (.getfield 56, 3) := by decide +kernel
theorem dX10_falses_15 : decode cX10_falses 15 = .ok (.aload_n 0, 1) := by decide +kernel
theorem dX10_falses_16 : decode cX10_falses 16 = .ok (.getfield 28, 3) := by decide +kernel
theorem dX10_falses_19 : decode cX10_falses 19 = .ok (.invokevirtual 173, 3) := by decide +kernel
theorem dX10_falses_22 : decode cX10_falses 22 = .ok (.aload_n 0, 1) := by decide +kernel
theorem dX10_falses_23 : decode cX10_falses 23 = .ok (.getfield 56, 3) := by decide +kernel
theorem dX10_falses_26 : decode cX10_falses 26 = .ok (.invokevirtual 188, 3) := by decide +kernel
theorem dX10_falses_29 : decode cX10_falses 29 = .ok (.istore_n 2, 1) := by decide +kernel
theorem dX10_falses_30 : decode cX10_falses 30 = .ok (.iload_n 2, 1) := by decide +kernel
theorem dX10_falses_31 : decode cX10_falses 31 = .ok (.iconst (-1), 1) := by decide +kernel
theorem dX10_falses_32 : decode cX10_falses 32 = .ok (.if_icmp .ne 6, 3) := by decide +kernel
theorem dX10_falses_35 : decode cX10_falses 35 = .ok (.bipush (-4), 2) := by decide +kernel
theorem dX10_falses_37 : decode cX10_falses 37 = .ok (.ireturn, 1) := by decide +kernel
theorem dX10_falses_38 : decode cX10_falses 38 = .ok (.iload_n 1, 1) := by decide +kernel
theorem dX10_falses_39 : decode cX10_falses 39 = .ok (.ifCond .ne 10, 3) := by decide +kernel
theorem dX10_falses_42 : decode cX10_falses 42 = .ok (.iload_n 2, 1) := by decide +kernel
theorem dX10_falses_43 : decode cX10_falses 43 = .ok (.invokestatic 192, 3) := by decide +kernel
theorem dX10_falses_46 : decode cX10_falses 46 = .ok (.goto 4, 3) := by decide +kernel
theorem dX10_falses_49 : decode cX10_falses 49 = .ok (.iload_n 2, 1) := by decide +kernel
theorem dX10_falses_50 : decode cX10_falses 50 = .ok (.ireturn, 1) := by decide +kernel
set_option maxRecDepth 20000 in
theorem ggX10_doubt_X1_lookAt : GoodIn wsX10_doubt wsX1_lookAt := goodIn_r _ [7, 8, 9, 10, 11, 12, 13, 14, 15, 16, 6, 17, 18, 19, 20, 21, 22, 23, 24, 25, 26, 27, 28, 29, 30, 31, 32, 33, 34, 35, 36, 37, 38, 39, 40, 41, 42, 43, 44, 45, 46, 47, 48, 49, 50, 51, 52, 53, 54, 55, 56, 57, 58, 59, 60, 61, 62, 63, 64, 65, 66, 67, 68, 69, 70, 71, 72, 73, 74, 75, 101, 102, 103, 104, 105, 106, 107, 108, 109] (by decide +kernel) (by decide +kernel)
set_option maxRecDepth 20000 in
theorem gX10_doubt_X1_lookAt : GoodIn wsX10_doubt (wsV RX10 173 RX1 yX1_lookAt wsX1_lookAt) := goodIn_app (goodIn_of _ (by decide +kernel)) ggX10_doubt_X1_lookAt
set_option maxRecDepth 20000 in
theorem ggX10_doubt_X1_mostDoubted : GoodIn wsX10_doubt wsX1_mostDoubted := goodIn_r _ [79, 80, 81, 82, 6, 83, 12, 52, 84, 33, 85, 86, 87, 101, 102, 103, 104, 105, 106, 107] (by decide +kernel) (by decide +kernel)
set_option maxRecDepth 20000 in
theorem gX10_doubt_X1_mostDoubted : GoodIn wsX10_doubt (wsV RX10 198 RX1 yX1_mostDoubted wsX1_mostDoubted) := goodIn_app (goodIn_of _ (by decide +kernel)) ggX10_doubt_X1_mostDoubted
set_option maxRecDepth 20000 in
theorem ggX10_doubt_X1_flawsWith : GoodIn wsX10_doubt wsX1_flawsWith := goodIn_r _ [83, 12, 52, 84, 33, 85, 86, 87, 101, 102, 103, 104, 105, 106, 107] (by decide +kernel) (by decide +kernel)
set_option maxRecDepth 20000 in
theorem gX10_doubt_X1_flawsWith : GoodIn wsX10_doubt (wsV RX10 201 RX1 yX1_flawsWith wsX1_flawsWith) := goodIn_app (goodIn_of _ (by decide +kernel)) ggX10_doubt_X1_flawsWith
theorem dX10_doubt_0 : decode cX10_doubt 0 = .ok (.iload_n 1, 1) := by decide +kernel
theorem dX10_doubt_1 : decode cX10_doubt 1 = .ok (.ifCond .lt 8, 3) := by decide +kernel
theorem dX10_doubt_4 : decode cX10_doubt 4 = .ok (.iload_n 1, 1) := by decide +kernel
theorem dX10_doubt_5 : decode cX10_doubt 5 = .ok (.iconst 1, 1) := by decide +kernel
theorem dX10_doubt_6 : decode cX10_doubt 6 = .ok (.if_icmp .le 5, 3) := by decide +kernel
theorem dX10_doubt_9 : decode cX10_doubt 9 = .ok (.iconst (-1), 1) := by decide +kernel
theorem dX10_doubt_10 : decode cX10_doubt 10 = .ok (.ireturn, 1) := by decide +kernel
theorem dX10_doubt_11 : decode cX10_doubt 11 = .ok (.aload_n 0, 1) := by decide +kernel
theorem dX10_doubt_12 : decode cX10_doubt 12 = .ok (.getfield 56, 3) := by decide +kernel
theorem dX10_doubt_15 : decode cX10_doubt 15 = .ok (.aload_n 0, 1) := by decide +kernel
theorem dX10_doubt_16 : decode cX10_doubt 16 = .ok (.getfield 28, 3) := by decide +kernel
theorem dX10_doubt_19 : decode cX10_doubt 19 = .ok (.invokevirtual 173, 3) := by decide +kernel
theorem dX10_doubt_22 : decode cX10_doubt 22 = .ok (.aload_n 0, 1) := by decide +kernel
theorem dX10_doubt_23 : decode cX10_doubt 23 = .ok (.getfield 56, 3) := by decide +kernel
theorem dX10_doubt_26 : decode cX10_doubt 26 = .ok (.invokevirtual 198, 3) := by decide +kernel
theorem dX10_doubt_29 : decode cX10_doubt 29 = .ok (.istore_n 2, 1) := by decide +kernel
theorem dX10_doubt_30 : decode cX10_doubt 30 = .ok (.iload_n 2, 1) := by decide +kernel
theorem dX10_doubt_31 : decode cX10_doubt 31 = .ok (.iconst (-1), 1) := by decide +kernel
theorem dX10_doubt_32 : decode cX10_doubt 32 = .ok (.if_icmp .ne 6, 3) := by decide +kernel
theorem dX10_doubt_35 : decode cX10_doubt 35 = .ok (.bipush (-4), 2) := by decide +kernel
theorem dX10_doubt_37 : decode cX10_doubt 37 = .ok (.ireturn, 1) := by decide +kernel
theorem dX10_doubt_38 : decode cX10_doubt 38 = .ok (.iload_n 1, 1) := by decide +kernel
theorem dX10_doubt_39 : decode cX10_doubt 39 = .ok (.ifCond .ne 7, 3) := by decide +kernel
theorem dX10_doubt_42 : decode cX10_doubt 42 = .ok (.iload_n 2, 1) := by decide +kernel
theorem dX10_doubt_43 : decode cX10_doubt 43 = .ok (.goto 11, 3) := by decide +kernel
theorem dX10_doubt_46 : decode cX10_doubt 46 = .ok (.aload_n 0, 1) := by decide +kernel
theorem dX10_doubt_47 : decode cX10_doubt 47 = .ok (.getfield 56, 3) := by decide +kernel
theorem dX10_doubt_50 : decode cX10_doubt 50 = .ok (.iload_n 2, 1) := by decide +kernel
theorem dX10_doubt_51 : decode cX10_doubt 51 = .ok (.invokevirtual 201, 3) := by decide +kernel
theorem dX10_doubt_54 : decode cX10_doubt 54 = .ok (.ireturn, 1) := by decide +kernel
set_option maxRecDepth 20000 in
theorem ggX10_bend_X8_areThree : GoodIn wsX10_bend wsX8_areThree := goodIn_r _ [6, 7, 8, 9, 5, 10, 11, 12, 13, 14, 15, 41, 42] (by decide +kernel) (by decide +kernel)
set_option maxRecDepth 20000 in
theorem gX10_bend_X8_areThree : GoodIn wsX10_bend (wsV RX10 141 RX8 yX8_areThree wsX8_areThree) := goodIn_app (goodIn_of _ (by decide +kernel)) ggX10_bend_X8_areThree
set_option maxRecDepth 20000 in
theorem ggX10_bend_X8_isToldThree : GoodIn wsX10_bend wsX8_isToldThree := goodIn_r _ [19, 20, 21, 22, 5, 23, 24, 41, 42] (by decide +kernel) (by decide +kernel)
set_option maxRecDepth 20000 in
theorem gX10_bend_X8_isToldThree : GoodIn wsX10_bend (wsV RX10 147 RX8 yX8_isToldThree wsX8_isToldThree) := goodIn_app (goodIn_of _ (by decide +kernel)) ggX10_bend_X8_isToldThree
set_option maxRecDepth 20000 in
theorem ggX10_bend_X8_leaning : GoodIn wsX10_bend wsX8_leaning := goodIn_r _ [28, 20, 21, 22, 5, 23, 24, 41, 42] (by decide +kernel) (by decide +kernel)
set_option maxRecDepth 20000 in
theorem gX10_bend_X8_leaning : GoodIn wsX10_bend (wsV RX10 204 RX8 yX8_leaning wsX8_leaning) := goodIn_app (goodIn_of _ (by decide +kernel)) ggX10_bend_X8_leaning
theorem dX10_bend_0 : decode cX10_bend 0 = .ok (.aload_n 0, 1) := by decide +kernel
theorem dX10_bend_1 : decode cX10_bend 1 = .ok (.getfield 28, 3) := by decide +kernel
theorem dX10_bend_4 : decode cX10_bend 4 = .ok (.iload_n 1, 1) := by decide +kernel
theorem dX10_bend_5 : decode cX10_bend 5 = .ok (.iload_n 2, 1) := by decide +kernel
theorem dX10_bend_6 : decode cX10_bend 6 = .ok (.iload_n 3, 1) := by decide +kernel
theorem dX10_bend_7 : decode cX10_bend 7 = .ok (.invokevirtual 141, 3) := by decide +kernel
theorem dX10_bend_10 : decode cX10_bend 10 = .ok (.ifCond .ne 5, 3) := by decide +kernel
theorem dX10_bend_13 : decode cX10_bend 13 = .ok (.iconst (-1), 1) := by decide +kernel
theorem dX10_bend_14 : decode cX10_bend 14 = .ok (.ireturn, 1) := by decide +kernel
theorem dX10_bend_15 : decode cX10_bend 15 = .ok (.aload_n 0, 1) := by decide +kernel
theorem dX10_bend_16 : decode cX10_bend 16 = .ok (.getfield 28, 3) := by decide +kernel
theorem dX10_bend_19 : decode cX10_bend 19 = .ok (.iload_n 1, 1) := by decide +kernel
theorem dX10_bend_20 : decode cX10_bend 20 = .ok (.iload_n 2, 1) := by decide +kernel
theorem dX10_bend_21 : decode cX10_bend 21 = .ok (.iload_n 3, 1) := by decide +kernel
theorem dX10_bend_22 : decode cX10_bend 22 = .ok (.invokevirtual 147, 3) := by decide +kernel
theorem dX10_bend_25 : decode cX10_bend 25 = .ok (.ifCond .ne 6, 3) := by decide +kernel
theorem dX10_bend_28 : decode cX10_bend 28 = .ok (.bipush (-4), 2) := by decide +kernel
theorem dX10_bend_30 : decode cX10_bend 30 = .ok (.ireturn, 1) := by decide +kernel
theorem dX10_bend_31 : decode cX10_bend 31 = .ok (.aload_n 0, 1) := by decide +kernel
theorem dX10_bend_32 : decode cX10_bend 32 = .ok (.getfield 28, 3) := by decide +kernel
theorem dX10_bend_35 : decode cX10_bend 35 = .ok (.iload_n 2, 1) := by decide +kernel
theorem dX10_bend_36 : decode cX10_bend 36 = .ok (.iload_n 1, 1) := by decide +kernel
theorem dX10_bend_37 : decode cX10_bend 37 = .ok (.iload_n 3, 1) := by decide +kernel
theorem dX10_bend_38 : decode cX10_bend 38 = .ok (.invokevirtual 204, 3) := by decide +kernel
theorem dX10_bend_41 : decode cX10_bend 41 = .ok (.lstore 4, 2) := by decide +kernel
theorem dX10_bend_43 : decode cX10_bend 43 = .ok (.lload 4, 2) := by decide +kernel
theorem dX10_bend_45 : decode cX10_bend 45 = .ok (.lconst 0, 1) := by decide +kernel
theorem dX10_bend_46 : decode cX10_bend 46 = .ok (.lcmp, 1) := by decide +kernel
theorem dX10_bend_47 : decode cX10_bend 47 = .ok (.ifCond .ne 5, 3) := by decide +kernel
theorem dX10_bend_50 : decode cX10_bend 50 = .ok (.iconst 0, 1) := by decide +kernel
theorem dX10_bend_51 : decode cX10_bend 51 = .ok (.ireturn, 1) := by decide +kernel
theorem dX10_bend_52 : decode cX10_bend 52 = .ok (.lload 4, 2) := by decide +kernel
theorem dX10_bend_54 : decode cX10_bend 54 = .ok (.lconst 0, 1) := by decide +kernel
theorem dX10_bend_55 : decode cX10_bend 55 = .ok (.lcmp, 1) := by decide +kernel
theorem dX10_bend_56 : decode cX10_bend 56 = .ok (.ifCond .le 7, 3) := by decide +kernel
theorem dX10_bend_59 : decode cX10_bend 59 = .ok (.iconst 1, 1) := by decide +kernel
theorem dX10_bend_60 : decode cX10_bend 60 = .ok (.goto 4, 3) := by decide +kernel
theorem dX10_bend_63 : decode cX10_bend 63 = .ok (.iconst 2, 1) := by decide +kernel
theorem dX10_bend_64 : decode cX10_bend 64 = .ok (.ireturn, 1) := by decide +kernel
set_option maxRecDepth 20000 in
theorem ggX10_foot_X10_refusalOfThree : GoodIn wsX10_foot wsX10_refusalOfThree := goodIn_r _ [7, 1, 8, 9, 10, 11, 12, 13, 14, 15, 16, 17, 18, 19, 20, 21, 22, 23, 24, 25, 26, 27, 28, 29, 30, 31, 32, 33, 34, 35, 36, 37, 38, 39, 40, 41, 6, 42, 43, 59, 60, 61, 62, 63, 64, 65, 66, 67, 68, 69, 70, 71, 72] (by decide +kernel) (by decide +kernel)
set_option maxRecDepth 20000 in
theorem gX10_foot_X10_refusalOfThree : GoodIn wsX10_foot (wsV RX10 207 RX10 yX10_refusalOfThree wsX10_refusalOfThree) := goodIn_app (goodIn_of _ (by decide +kernel)) ggX10_foot_X10_refusalOfThree
set_option maxRecDepth 20000 in
theorem ggX10_foot_X8_leaning : GoodIn wsX10_foot wsX8_leaning := goodIn_r _ [47, 28, 29, 30, 13, 31, 32, 71, 72] (by decide +kernel) (by decide +kernel)
set_option maxRecDepth 20000 in
theorem gX10_foot_X8_leaning : GoodIn wsX10_foot (wsV RX10 204 RX8 yX8_leaning wsX8_leaning) := goodIn_app (goodIn_of _ (by decide +kernel)) ggX10_foot_X8_leaning
set_option maxRecDepth 20000 in
theorem ggX10_foot_X8_square : GoodIn wsX10_foot wsX8_square := goodIn_r _ [31, 32, 71, 72] (by decide +kernel) (by decide +kernel)
set_option maxRecDepth 20000 in
theorem gX10_foot_X8_square : GoodIn wsX10_foot (wsV RX10 213 RX8 yX8_square wsX8_square) := goodIn_app (goodIn_of _ (by decide +kernel)) ggX10_foot_X8_square
set_option maxRecDepth 20000 in
theorem ggX10_foot_X10_lowest : GoodIn wsX10_foot wsX10_lowest := goodIn_r _ [51, 52, 53, 54, 55, 56, 57, 6, 58] (by decide +kernel) (by decide +kernel)
set_option maxRecDepth 20000 in
theorem gX10_foot_X10_lowest : GoodIn wsX10_foot (va_wsS RX10 216 yX10_lowest wsX10_lowest) := goodIn_app (goodIn_of _ (by decide +kernel)) ggX10_foot_X10_lowest
theorem dX10_foot_0 : decode cX10_foot 0 = .ok (.aload_n 0, 1) := by decide +kernel
theorem dX10_foot_1 : decode cX10_foot 1 = .ok (.iload_n 1, 1) := by decide +kernel
theorem dX10_foot_2 : decode cX10_foot 2 = .ok (.iload_n 2, 1) := by decide +kernel
theorem dX10_foot_3 : decode cX10_foot 3 = .ok (.iload_n 3, 1) := by decide +kernel
theorem dX10_foot_4 : decode cX10_foot 4 = .ok (.iload 4, 2) := by decide +kernel
theorem dX10_foot_6 : decode cX10_foot 6 = .ok (.invokevirtual 207, 3) := by decide +kernel
theorem dX10_foot_9 : decode cX10_foot 9 = .ok (.lstore 5, 2) := by decide +kernel
theorem dX10_foot_11 : decode cX10_foot 11 = .ok (.lload 5, 2) := by decide +kernel
theorem dX10_foot_13 : decode cX10_foot 13 = .ok (.lconst 0, 1) := by decide +kernel
theorem dX10_foot_14 : decode cX10_foot 14 = .ok (.lcmp, 1) := by decide +kernel
theorem dX10_foot_15 : decode cX10_foot 15 = .ok (.ifCond .eq 6, 3) := by decide +kernel
theorem dX10_foot_18 : decode cX10_foot 18 = .ok (.lload 5, 2) := by decide +kernel
theorem dX10_foot_20 : decode cX10_foot 20 = .ok (.lreturn, 1) := by decide +kernel
theorem dX10_foot_21 : decode cX10_foot 21 = .ok (.aload_n 0, 1) := by decide +kernel
theorem dX10_foot_22 : decode cX10_foot 22 = .ok (.getfield 28, 3) := by decide +kernel
theorem dX10_foot_25 : decode cX10_foot 25 = .ok (.iload_n 1, 1) := by decide +kernel
theorem dX10_foot_26 : decode cX10_foot 26 = .ok (.iload_n 2, 1) := by decide +kernel
theorem dX10_foot_27 : decode cX10_foot 27 = .ok (.iload_n 3, 1) := by decide +kernel
theorem dX10_foot_28 : decode cX10_foot 28 = .ok (.invokevirtual 204, 3) := by decide +kernel
theorem dX10_foot_31 : decode cX10_foot 31 = .ok (.ldc2_w 211, 3) := by decide +kernel
theorem dX10_foot_34 : decode cX10_foot 34 = .ok (.aload_n 0, 1) := by decide +kernel
theorem dX10_foot_35 : decode cX10_foot 35 = .ok (.getfield 28, 3) := by decide +kernel
theorem dX10_foot_38 : decode cX10_foot 38 = .ok (.iload_n 1, 1) := by decide +kernel
theorem dX10_foot_39 : decode cX10_foot 39 = .ok (.iload_n 2, 1) := by decide +kernel
theorem dX10_foot_40 : decode cX10_foot 40 = .ok (.invokevirtual 213, 3) := by decide +kernel
theorem dX10_foot_43 : decode cX10_foot 43 = .ok (.i2l, 1) := by decide +kernel
theorem dX10_foot_44 : decode cX10_foot 44 = .ok (.lmul, 1) := by decide +kernel
theorem dX10_foot_45 : decode cX10_foot 45 = .ok (.iload 4, 2) := by decide +kernel
theorem dX10_foot_47 : decode cX10_foot 47 = .ok (.invokestatic 216, 3) := by decide +kernel
theorem dX10_foot_50 : decode cX10_foot 50 = .ok (.lreturn, 1) := by decide +kernel
set_option maxRecDepth 20000 in
theorem ggX10_height_X10_refusalOfThree : GoodIn wsX10_height wsX10_refusalOfThree := goodIn_r _ [7, 1, 8, 9, 10, 11, 12, 13, 14, 15, 16, 17, 18, 19, 20, 21, 22, 23, 24, 25, 26, 27, 28, 29, 30, 31, 32, 33, 34, 35, 36, 37, 38, 39, 40, 41, 6, 42, 2, 55, 56, 57, 58, 59, 60, 61, 62, 63, 64, 65, 66, 67, 68] (by decide +kernel) (by decide +kernel)
set_option maxRecDepth 20000 in
theorem gX10_height_X10_refusalOfThree : GoodIn wsX10_height (wsV RX10 207 RX10 yX10_refusalOfThree wsX10_refusalOfThree) := goodIn_app (goodIn_of _ (by decide +kernel)) ggX10_height_X10_refusalOfThree
set_option maxRecDepth 20000 in
theorem ggX10_height_X8_wideOf : GoodIn wsX10_height wsX8_wideOf := goodIn_r _ [40, 28, 29, 30, 13, 31, 32, 41, 6, 42, 2, 67, 68] (by decide +kernel) (by decide +kernel)
set_option maxRecDepth 20000 in
theorem gX10_height_X8_wideOf : GoodIn wsX10_height (wsV RX10 150 RX8 yX8_wideOf wsX8_wideOf) := goodIn_app (goodIn_of _ (by decide +kernel)) ggX10_height_X8_wideOf
set_option maxRecDepth 20000 in
theorem ggX10_height_X8_square : GoodIn wsX10_height wsX8_square := goodIn_r _ [31, 32, 67, 68] (by decide +kernel) (by decide +kernel)
set_option maxRecDepth 20000 in
theorem gX10_height_X8_square : GoodIn wsX10_height (wsV RX10 213 RX8 yX8_square wsX8_square) := goodIn_app (goodIn_of _ (by decide +kernel)) ggX10_height_X8_square
set_option maxRecDepth 20000 in
theorem ggX10_height_X10_lowest : GoodIn wsX10_height wsX10_lowest := goodIn_r _ [47, 48, 49, 50, 51, 52, 53, 6, 54] (by decide +kernel) (by decide +kernel)
set_option maxRecDepth 20000 in
theorem gX10_height_X10_lowest : GoodIn wsX10_height (va_wsS RX10 216 yX10_lowest wsX10_lowest) := goodIn_app (goodIn_of _ (by decide +kernel)) ggX10_height_X10_lowest
theorem dX10_height_0 : decode cX10_height 0 = .ok (.aload_n 0, 1) := by decide +kernel
theorem dX10_height_1 : decode cX10_height 1 = .ok (.iload_n 1, 1) := by decide +kernel
theorem dX10_height_2 : decode cX10_height 2 = .ok (.iload_n 2, 1) := by decide +kernel
theorem dX10_height_3 : decode cX10_height 3 = .ok (.iload_n 3, 1) := by decide +kernel
theorem dX10_height_4 : decode cX10_height 4 = .ok (.iload 4, 2) := by decide +kernel
theorem dX10_height_6 : decode cX10_height 6 = .ok (.invokevirtual 207, 3) := by decide +kernel
theorem dX10_height_9 : decode cX10_height 9 = .ok (.lstore 5, 2) := by decide +kernel
theorem dX10_height_11 : decode cX10_height 11 = .ok (.lload 5, 2) := by decide +kernel
theorem dX10_height_13 : decode cX10_height 13 = .ok (.lconst 0, 1) := by decide +kernel
theorem dX10_height_14 : decode cX10_height 14 = .ok (.lcmp, 1) := by decide +kernel
theorem dX10_height_15 : decode cX10_height 15 = .ok (.ifCond .eq 6, 3) := by decide +kernel
theorem dX10_height_18 : decode cX10_height 18 = .ok (.lload 5, 2) := by decide +kernel
theorem dX10_height_20 : decode cX10_height 20 = .ok (.lreturn, 1) := by decide +kernel
theorem dX10_height_21 : decode cX10_height 21 = .ok (.aload_n 0, 1) := by decide +kernel
theorem dX10_height_22 : decode cX10_height 22 = .ok (.getfield 28, 3) := by decide +kernel
theorem dX10_height_25 : decode cX10_height 25 = .ok (.iload_n 1, 1) := by decide +kernel
theorem dX10_height_26 : decode cX10_height 26 = .ok (.iload_n 2, 1) := by decide +kernel
theorem dX10_height_27 : decode cX10_height 27 = .ok (.iload_n 3, 1) := by decide +kernel
theorem dX10_height_28 : decode cX10_height 28 = .ok (.invokevirtual 150, 3) := by decide +kernel
theorem dX10_height_31 : decode cX10_height 31 = .ok (.ldc2_w 220, 3) := by decide +kernel
theorem dX10_height_34 : decode cX10_height 34 = .ok (.aload_n 0, 1) := by decide +kernel
theorem dX10_height_35 : decode cX10_height 35 = .ok (.getfield 28, 3) := by decide +kernel
theorem dX10_height_38 : decode cX10_height 38 = .ok (.iload_n 1, 1) := by decide +kernel
theorem dX10_height_39 : decode cX10_height 39 = .ok (.iload_n 2, 1) := by decide +kernel
theorem dX10_height_40 : decode cX10_height 40 = .ok (.invokevirtual 213, 3) := by decide +kernel
theorem dX10_height_43 : decode cX10_height 43 = .ok (.i2l, 1) := by decide +kernel
theorem dX10_height_44 : decode cX10_height 44 = .ok (.lmul, 1) := by decide +kernel
theorem dX10_height_45 : decode cX10_height 45 = .ok (.iload 4, 2) := by decide +kernel
theorem dX10_height_47 : decode cX10_height 47 = .ok (.invokestatic 216, 3) := by decide +kernel
theorem dX10_height_50 : decode cX10_height 50 = .ok (.lreturn, 1) := by decide +kernel
set_option maxRecDepth 20000 in
theorem ggX10_round_X10_refusalOfThree : GoodIn wsX10_round wsX10_refusalOfThree := goodIn_r _ [7, 1, 8, 2, 9, 10, 11, 12, 13, 14, 15, 16, 17, 18, 19, 20, 21, 22, 23, 24, 25, 26, 27, 28, 29, 30, 31, 32, 33, 34, 35, 36, 37, 38, 39, 40, 6, 41, 42, 55, 56, 57, 58, 59, 60, 61, 62, 63, 64, 65, 66, 67, 68] (by decide +kernel) (by decide +kernel)
set_option maxRecDepth 20000 in
theorem gX10_round_X10_refusalOfThree : GoodIn wsX10_round (wsV RX10 207 RX10 yX10_refusalOfThree wsX10_refusalOfThree) := goodIn_app (goodIn_of _ (by decide +kernel)) ggX10_round_X10_refusalOfThree
set_option maxRecDepth 20000 in
theorem ggX10_round_X8_wideOf : GoodIn wsX10_round wsX8_wideOf := goodIn_r _ [39, 27, 28, 29, 12, 30, 31, 40, 6, 41, 42, 67, 68] (by decide +kernel) (by decide +kernel)
set_option maxRecDepth 20000 in
theorem gX10_round_X8_wideOf : GoodIn wsX10_round (wsV RX10 150 RX8 yX8_wideOf wsX8_wideOf) := goodIn_app (goodIn_of _ (by decide +kernel)) ggX10_round_X8_wideOf
set_option maxRecDepth 20000 in
theorem ggX10_round_X8_square : GoodIn wsX10_round wsX8_square := goodIn_r _ [30, 31, 67, 68] (by decide +kernel) (by decide +kernel)
set_option maxRecDepth 20000 in
theorem gX10_round_X8_square : GoodIn wsX10_round (wsV RX10 213 RX8 yX8_square wsX8_square) := goodIn_app (goodIn_of _ (by decide +kernel)) ggX10_round_X8_square
set_option maxRecDepth 20000 in
theorem ggX10_round_X10_lowest : GoodIn wsX10_round wsX10_lowest := goodIn_r _ [47, 48, 49, 50, 51, 52, 53, 6, 54] (by decide +kernel) (by decide +kernel)
set_option maxRecDepth 20000 in
theorem gX10_round_X10_lowest : GoodIn wsX10_round (va_wsS RX10 216 yX10_lowest wsX10_lowest) := goodIn_app (goodIn_of _ (by decide +kernel)) ggX10_round_X10_lowest
theorem dX10_round_0 : decode cX10_round 0 = .ok (.aload_n 0, 1) := by decide +kernel
theorem dX10_round_1 : decode cX10_round 1 = .ok (.iload_n 1, 1) := by decide +kernel
theorem dX10_round_2 : decode cX10_round 2 = .ok (.iload_n 2, 1) := by decide +kernel
theorem dX10_round_3 : decode cX10_round 3 = .ok (.iload_n 3, 1) := by decide +kernel
theorem dX10_round_4 : decode cX10_round 4 = .ok (.iload 4, 2) := by decide +kernel
theorem dX10_round_6 : decode cX10_round 6 = .ok (.invokevirtual 207, 3) := by decide +kernel
theorem dX10_round_9 : decode cX10_round 9 = .ok (.lstore 5, 2) := by decide +kernel
theorem dX10_round_11 : decode cX10_round 11 = .ok (.lload 5, 2) := by decide +kernel
theorem dX10_round_13 : decode cX10_round 13 = .ok (.lconst 0, 1) := by decide +kernel
theorem dX10_round_14 : decode cX10_round 14 = .ok (.lcmp, 1) := by decide +kernel
theorem dX10_round_15 : decode cX10_round 15 = .ok (.ifCond .eq 6, 3) := by decide +kernel
theorem dX10_round_18 : decode cX10_round 18 = .ok (.lload 5, 2) := by decide +kernel
theorem dX10_round_20 : decode cX10_round 20 = .ok (.lreturn, 1) := by decide +kernel
theorem dX10_round_21 : decode cX10_round 21 = .ok (.aload_n 0, 1) := by decide +kernel
theorem dX10_round_22 : decode cX10_round 22 = .ok (.getfield 28, 3) := by decide +kernel
theorem dX10_round_25 : decode cX10_round 25 = .ok (.iload_n 1, 1) := by decide +kernel
theorem dX10_round_26 : decode cX10_round 26 = .ok (.iload_n 2, 1) := by decide +kernel
theorem dX10_round_27 : decode cX10_round 27 = .ok (.iload_n 3, 1) := by decide +kernel
theorem dX10_round_28 : decode cX10_round 28 = .ok (.invokevirtual 150, 3) := by decide +kernel
theorem dX10_round_31 : decode cX10_round 31 = .ok (.lstore 7, 2) := by decide +kernel
theorem dX10_round_33 : decode cX10_round 33 = .ok (.lload 7, 2) := by decide +kernel
theorem dX10_round_35 : decode cX10_round 35 = .ok (.lconst 0, 1) := by decide +kernel
theorem dX10_round_36 : decode cX10_round 36 = .ok (.lcmp, 1) := by decide +kernel
theorem dX10_round_37 : decode cX10_round 37 = .ok (.ifCond .ne 7, 3) := by decide +kernel
theorem dX10_round_40 : decode cX10_round 40 = .ok (.ldc2_w 154, 3) := by decide +kernel
theorem dX10_round_43 : decode cX10_round 43 = .ok (.lreturn, 1) := by decide +kernel
theorem dX10_round_44 : decode cX10_round 44 = .ok (.aload_n 0, 1) := by decide +kernel
theorem dX10_round_45 : decode cX10_round 45 = .ok (.getfield 28, 3) := by decide +kernel
theorem dX10_round_48 : decode cX10_round 48 = .ok (.iload_n 1, 1) := by decide +kernel
theorem dX10_round_49 : decode cX10_round 49 = .ok (.iload_n 2, 1) := by decide +kernel
theorem dX10_round_50 : decode cX10_round 50 = .ok (.invokevirtual 213, 3) := by decide +kernel
theorem dX10_round_53 : decode cX10_round 53 = .ok (.i2l, 1) := by decide +kernel
theorem dX10_round_54 : decode cX10_round 54 = .ok (.aload_n 0, 1) := by decide +kernel
theorem dX10_round_55 : decode cX10_round 55 = .ok (.getfield 28, 3) := by decide +kernel
theorem dX10_round_58 : decode cX10_round 58 = .ok (.iload_n 1, 1) := by decide +kernel
theorem dX10_round_59 : decode cX10_round 59 = .ok (.iload_n 3, 1) := by decide +kernel
theorem dX10_round_60 : decode cX10_round 60 = .ok (.invokevirtual 213, 3) := by decide +kernel
theorem dX10_round_63 : decode cX10_round 63 = .ok (.i2l, 1) := by decide +kernel
theorem dX10_round_64 : decode cX10_round 64 = .ok (.lmul, 1) := by decide +kernel
theorem dX10_round_65 : decode cX10_round 65 = .ok (.aload_n 0, 1) := by decide +kernel
theorem dX10_round_66 : decode cX10_round 66 = .ok (.getfield 28, 3) := by decide +kernel
theorem dX10_round_69 : decode cX10_round 69 = .ok (.iload_n 2, 1) := by decide +kernel
theorem dX10_round_70 : decode cX10_round 70 = .ok (.iload_n 3, 1) := by decide +kernel
theorem dX10_round_71 : decode cX10_round 71 = .ok (.invokevirtual 213, 3) := by decide +kernel
theorem dX10_round_74 : decode cX10_round 74 = .ok (.i2l, 1) := by decide +kernel
theorem dX10_round_75 : decode cX10_round 75 = .ok (.lmul, 1) := by decide +kernel
theorem dX10_round_76 : decode cX10_round 76 = .ok (.lstore 9, 2) := by decide +kernel
theorem dX10_round_78 : decode cX10_round 78 = .ok (.lload 9, 2) := by decide +kernel
theorem dX10_round_80 : decode cX10_round 80 = .ok (.lload 7, 2) := by decide +kernel
theorem dX10_round_82 : decode cX10_round 82 = .ok (.iload 4, 2) := by decide +kernel
theorem dX10_round_84 : decode cX10_round 84 = .ok (.invokestatic 216, 3) := by decide +kernel
theorem dX10_round_87 : decode cX10_round 87 = .ok (.lreturn, 1) := by decide +kernel
set_option maxRecDepth 20000 in
theorem ggX10_side_X8_areFour : GoodIn wsX10_side wsX8_areFour := goodIn_r _ [6, 7, 8, 9, 5, 10, 11, 12, 13, 14, 15, 16, 17, 18, 19, 78, 79] (by decide +kernel) (by decide +kernel)
set_option maxRecDepth 20000 in
theorem gX10_side_X8_areFour : GoodIn wsX10_side (wsV RX10 163 RX8 yX8_areFour wsX8_areFour) := goodIn_app (goodIn_of _ (by decide +kernel)) ggX10_side_X8_areFour
set_option maxRecDepth 20000 in
theorem ggX10_side_X8_isToldFour : GoodIn wsX10_side wsX8_isToldFour := goodIn_r _ [23, 24, 25, 26, 5, 27, 28, 29, 30, 31, 32, 78, 79] (by decide +kernel) (by decide +kernel)
set_option maxRecDepth 20000 in
theorem gX10_side_X8_isToldFour : GoodIn wsX10_side (wsV RX10 167 RX8 yX8_isToldFour wsX8_isToldFour) := goodIn_app (goodIn_of _ (by decide +kernel)) ggX10_side_X8_isToldFour
set_option maxRecDepth 20000 in
theorem ggX10_side_X8_canBeFour : GoodIn wsX10_side wsX8_canBeFour := goodIn_r _ [36, 37, 38, 39, 5, 40, 41, 42, 43, 44, 28, 29, 30, 31, 32, 45, 46, 47, 48, 49, 50, 51, 52, 53, 54, 55, 56, 57, 78, 79] (by decide +kernel) (by decide +kernel)
set_option maxRecDepth 20000 in
theorem gX10_side_X8_canBeFour : GoodIn wsX10_side (wsV RX10 170 RX8 yX8_canBeFour wsX8_canBeFour) := goodIn_app (goodIn_of _ (by decide +kernel)) ggX10_side_X8_canBeFour
set_option maxRecDepth 20000 in
theorem ggX10_side_X8_sideSign : GoodIn wsX10_side wsX8_sideSign := goodIn_r _ [61, 53, 28, 29, 30, 5, 31, 32, 54, 55, 56, 57, 62, 63, 64, 65, 78, 79] (by decide +kernel) (by decide +kernel)
set_option maxRecDepth 20000 in
theorem gX10_side_X8_sideSign : GoodIn wsX10_side (wsV RX10 222 RX8 yX8_sideSign wsX8_sideSign) := goodIn_app (goodIn_of _ (by decide +kernel)) ggX10_side_X8_sideSign
theorem dX10_side_0 : decode cX10_side 0 = .ok (.aload_n 0, 1) := by decide +kernel
theorem dX10_side_1 : decode cX10_side 1 = .ok (.getfield 28, 3) := by decide +kernel
theorem dX10_side_4 : decode cX10_side 4 = .ok (.iload_n 1, 1) := by decide +kernel
theorem dX10_side_5 : decode cX10_side 5 = .ok (.iload_n 2, 1) := by decide +kernel
theorem dX10_side_6 : decode cX10_side 6 = .ok (.iload_n 3, 1) := by decide +kernel
theorem dX10_side_7 : decode cX10_side 7 = .ok (.iload 4, 2) := by decide +kernel
theorem dX10_side_9 : decode cX10_side 9 = .ok (.invokevirtual 163, 3) := by decide +kernel
theorem dX10_side_12 : decode cX10_side 12 = .ok (.ifCond .ne 5, 3) := by decide +kernel
theorem dX10_side_15 : decode cX10_side 15 = .ok (.iconst (-1), 1) := by decide +kernel
theorem dX10_side_16 : decode cX10_side 16 = .ok (.ireturn, 1) := by decide +kernel
theorem dX10_side_17 : decode cX10_side 17 = .ok (.aload_n 0, 1) := by decide +kernel
theorem dX10_side_18 : decode cX10_side 18 = .ok (.getfield 28, 3) := by decide +kernel
theorem dX10_side_21 : decode cX10_side 21 = .ok (.iload_n 1, 1) := by decide +kernel
theorem dX10_side_22 : decode cX10_side 22 = .ok (.iload_n 2, 1) := by decide +kernel
theorem dX10_side_23 : decode cX10_side 23 = .ok (.iload_n 3, 1) := by decide +kernel
theorem dX10_side_24 : decode cX10_side 24 = .ok (.iload 4, 2) := by decide +kernel
theorem dX10_side_26 : decode cX10_side 26 = .ok (.invokevirtual 167, 3) := by decide +kernel
theorem dX10_side_29 : decode cX10_side 29 = .ok (.ifCond .eq 18, 3) := by decide +kernel
theorem dX10_side_32 : decode cX10_side 32 = .ok (.aload_n 0, 1) := by decide +kernel
theorem dX10_side_33 : decode cX10_side 33 = .ok (.getfield 28, 3) := by decide +kernel
theorem dX10_side_36 : decode cX10_side 36 = .ok (.iload_n 1, 1) := by decide +kernel
theorem dX10_side_37 : decode cX10_side 37 = .ok (.iload_n 2, 1) := by decide +kernel
theorem dX10_side_38 : decode cX10_side 38 = .ok (.iload_n 3, 1) := by decide +kernel
theorem dX10_side_39 : decode cX10_side 39 = .ok (.iload 4, 2) := by decide +kernel
theorem dX10_side_41 : decode cX10_side 41 = .ok (.invokevirtual 170, 3) := by decide +kernel
theorem dX10_side_44 : decode cX10_side 44 = .ok (.ifCond .ne 6, 3) := by decide +kernel
theorem dX10_side_47 : decode cX10_side 47 = .ok (.bipush (-2), 2) := by decide +kernel
theorem dX10_side_49 : decode cX10_side 49 = .ok (.ireturn, 1) := by decide +kernel
theorem dX10_side_50 : decode cX10_side 50 = .ok (.aload_n 0, 1) := by decide +kernel
theorem dX10_side_51 : decode cX10_side 51 = .ok (.getfield 28, 3) := by decide +kernel
theorem dX10_side_54 : decode cX10_side 54 = .ok (.iload_n 1, 1) := by decide +kernel
theorem dX10_side_55 : decode cX10_side 55 = .ok (.iload_n 2, 1) := by decide +kernel
theorem dX10_side_56 : decode cX10_side 56 = .ok (.iload_n 3, 1) := by decide +kernel
theorem dX10_side_57 : decode cX10_side 57 = .ok (.iload 4, 2) := by decide +kernel
theorem dX10_side_59 : decode cX10_side 59 = .ok (.invokevirtual 222, 3) := by decide +kernel
theorem dX10_side_62 : decode cX10_side 62 = .ok (.istore 5, 2) := by decide +kernel
theorem dX10_side_64 : decode cX10_side 64 = .ok (.iload 5, 2) := by decide +kernel
theorem dX10_side_66 : decode cX10_side 66 = .ok (.ifCond .ge 8, 3) := by decide +kernel
theorem dX10_side_69 : decode cX10_side 69 = .ok (.bipush (-5), 2) := by decide +kernel
theorem dX10_side_71 : decode cX10_side 71 = .ok (.goto 5, 3) := by decide +kernel
theorem dX10_side_74 : decode cX10_side 74 = .ok (.iload 5, 2) := by decide +kernel
theorem dX10_side_76 : decode cX10_side 76 = .ok (.ireturn, 1) := by decide +kernel
set_option maxRecDepth 20000 in
theorem ggX10_within_X8_areFour : GoodIn wsX10_within wsX8_areFour := goodIn_r _ [6, 7, 8, 9, 5, 10, 11, 12, 13, 14, 15, 16, 17, 18, 19, 82, 83] (by decide +kernel) (by decide +kernel)
set_option maxRecDepth 20000 in
theorem gX10_within_X8_areFour : GoodIn wsX10_within (wsV RX10 163 RX8 yX8_areFour wsX8_areFour) := goodIn_app (goodIn_of _ (by decide +kernel)) ggX10_within_X8_areFour
set_option maxRecDepth 20000 in
theorem ggX10_within_X8_isToldFour : GoodIn wsX10_within wsX8_isToldFour := goodIn_r _ [23, 24, 25, 26, 5, 27, 28, 29, 30, 31, 32, 82, 83] (by decide +kernel) (by decide +kernel)
set_option maxRecDepth 20000 in
theorem gX10_within_X8_isToldFour : GoodIn wsX10_within (wsV RX10 167 RX8 yX8_isToldFour wsX8_isToldFour) := goodIn_app (goodIn_of _ (by decide +kernel)) ggX10_within_X8_isToldFour
set_option maxRecDepth 20000 in
theorem ggX10_within_X8_canBeFour : GoodIn wsX10_within wsX8_canBeFour := goodIn_r _ [36, 37, 38, 39, 5, 40, 41, 42, 43, 44, 28, 29, 30, 31, 32, 45, 46, 47, 48, 49, 50, 51, 52, 53, 54, 55, 56, 57, 82, 83] (by decide +kernel) (by decide +kernel)
set_option maxRecDepth 20000 in
theorem gX10_within_X8_canBeFour : GoodIn wsX10_within (wsV RX10 170 RX8 yX8_canBeFour wsX8_canBeFour) := goodIn_app (goodIn_of _ (by decide +kernel)) ggX10_within_X8_canBeFour
set_option maxRecDepth 20000 in
theorem ggX10_within_X8_wideOf : GoodIn wsX10_within wsX8_wideOf := goodIn_r _ [44, 28, 29, 30, 5, 31, 32, 45, 46, 47, 48, 82, 83] (by decide +kernel) (by decide +kernel)
set_option maxRecDepth 20000 in
theorem gX10_within_X8_wideOf : GoodIn wsX10_within (wsV RX10 150 RX8 yX8_wideOf wsX8_wideOf) := goodIn_app (goodIn_of _ (by decide +kernel)) ggX10_within_X8_wideOf
set_option maxRecDepth 20000 in
theorem ggX10_within_X8_sideSign : GoodIn wsX10_within wsX8_sideSign := goodIn_r _ [62, 53, 28, 29, 30, 5, 31, 32, 54, 55, 56, 57, 63, 64, 65, 66, 82, 83] (by decide +kernel) (by decide +kernel)
set_option maxRecDepth 20000 in
theorem gX10_within_X8_sideSign : GoodIn wsX10_within (wsV RX10 222 RX8 yX8_sideSign wsX8_sideSign) := goodIn_app (goodIn_of _ (by decide +kernel)) ggX10_within_X8_sideSign
set_option maxRecDepth 20000 in
theorem ggX10_within_X10_bit : GoodIn wsX10_within wsX10_bit := goodIn_r _ [69] (by decide +kernel) (by decide +kernel)
set_option maxRecDepth 20000 in
theorem gX10_within_X10_bit : GoodIn wsX10_within (va_wsS RX10 159 yX10_bit wsX10_bit) := goodIn_app (goodIn_of _ (by decide +kernel)) ggX10_within_X10_bit
theorem dX10_within_0 : decode cX10_within 0 = .ok (.aload_n 0, 1) := by decide +kernel
theorem dX10_within_1 : decode cX10_within 1 = .ok (.getfield 28, 3) := by decide +kernel
theorem dX10_within_4 : decode cX10_within 4 = .ok (.iload_n 1, 1) := by decide +kernel
theorem dX10_within_5 : decode cX10_within 5 = .ok (.iload_n 2, 1) := by decide +kernel
theorem dX10_within_6 : decode cX10_within 6 = .ok (.iload_n 3, 1) := by decide +kernel
theorem dX10_within_7 : decode cX10_within 7 = .ok (.iload 4, 2) := by decide +kernel
theorem dX10_within_9 : decode cX10_within 9 = .ok (.invokevirtual 163, 3) := by decide +kernel
theorem dX10_within_12 : decode cX10_within 12 = .ok (.ifCond .ne 5, 3) := by decide +kernel
theorem dX10_within_15 : decode cX10_within 15 = .ok (.iconst (-1), 1) := by decide +kernel
theorem dX10_within_16 : decode cX10_within 16 = .ok (.ireturn, 1) := by decide +kernel
theorem dX10_within_17 : decode cX10_within 17 = .ok (.aload_n 0, 1) := by decide +kernel
theorem dX10_within_18 : decode cX10_within 18 = .ok (.getfield 28, 3) := by decide +kernel
theorem dX10_within_21 : decode cX10_within 21 = .ok (.iload_n 1, 1) := by decide +kernel
theorem dX10_within_22 : decode cX10_within 22 = .ok (.iload_n 2, 1) := by decide +kernel
theorem dX10_within_23 : decode cX10_within 23 = .ok (.iload_n 3, 1) := by decide +kernel
theorem dX10_within_24 : decode cX10_within 24 = .ok (.iload 4, 2) := by decide +kernel
theorem dX10_within_26 : decode cX10_within 26 = .ok (.invokevirtual 167, 3) := by decide +kernel
theorem dX10_within_29 : decode cX10_within 29 = .ok (.ifCond .eq 33, 3) := by decide +kernel
theorem dX10_within_32 : decode cX10_within 32 = .ok (.aload_n 0, 1) := by decide +kernel
theorem dX10_within_33 : decode cX10_within 33 = .ok (.getfield 28, 3) := by decide +kernel
theorem dX10_within_36 : decode cX10_within 36 = .ok (.iload_n 1, 1) := by decide +kernel
theorem dX10_within_37 : decode cX10_within 37 = .ok (.iload_n 2, 1) := by decide +kernel
theorem dX10_within_38 : decode cX10_within 38 = .ok (.iload_n 3, 1) := by decide +kernel
theorem dX10_within_39 : decode cX10_within 39 = .ok (.iload 4, 2) := by decide +kernel
theorem dX10_within_41 : decode cX10_within 41 = .ok (.invokevirtual 170, 3) := by decide +kernel
theorem dX10_within_44 : decode cX10_within 44 = .ok (.ifCond .eq 18, 3) := by decide +kernel
theorem dX10_within_47 : decode cX10_within 47 = .ok (.aload_n 0, 1) := by decide +kernel
theorem dX10_within_48 : decode cX10_within 48 = .ok (.getfield 28, 3) := by decide +kernel
theorem dX10_within_51 : decode cX10_within 51 = .ok (.iload_n 1, 1) := by decide +kernel
theorem dX10_within_52 : decode cX10_within 52 = .ok (.iload_n 2, 1) := by decide +kernel
theorem dX10_within_53 : decode cX10_within 53 = .ok (.iload_n 3, 1) := by decide +kernel
theorem dX10_within_54 : decode cX10_within 54 = .ok (.invokevirtual 150, 3) := by decide +kernel
theorem dX10_within_57 : decode cX10_within 57 = .ok (.lconst 0, 1) := by decide +kernel
theorem dX10_within_58 : decode cX10_within 58 = .ok (.lcmp, 1) := by decide +kernel
theorem dX10_within_59 : decode cX10_within 59 = .ok (.ifCond .ne 6, 3) := by decide +kernel
theorem dX10_within_62 : decode cX10_within 62 = .ok (.bipush (-2), 2) := by decide +kernel
theorem dX10_within_64 : decode cX10_within 64 = .ok (.ireturn, 1) := by decide +kernel
theorem dX10_within_65 : decode cX10_within 65 = .ok (.aload_n 0, 1) := by decide +kernel
theorem dX10_within_66 : decode cX10_within 66 = .ok (.getfield 28, 3) := by decide +kernel
theorem dX10_within_69 : decode cX10_within 69 = .ok (.iload_n 1, 1) := by decide +kernel
theorem dX10_within_70 : decode cX10_within 70 = .ok (.iload_n 2, 1) := by decide +kernel
theorem dX10_within_71 : decode cX10_within 71 = .ok (.iload_n 3, 1) := by decide +kernel
theorem dX10_within_72 : decode cX10_within 72 = .ok (.iload 4, 2) := by decide +kernel
theorem dX10_within_74 : decode cX10_within 74 = .ok (.invokevirtual 222, 3) := by decide +kernel
theorem dX10_within_77 : decode cX10_within 77 = .ok (.ifCond .lt 37, 3) := by decide +kernel
theorem dX10_within_80 : decode cX10_within 80 = .ok (.aload_n 0, 1) := by decide +kernel
theorem dX10_within_81 : decode cX10_within 81 = .ok (.getfield 28, 3) := by decide +kernel
theorem dX10_within_84 : decode cX10_within 84 = .ok (.iload_n 2, 1) := by decide +kernel
theorem dX10_within_85 : decode cX10_within 85 = .ok (.iload_n 3, 1) := by decide +kernel
theorem dX10_within_86 : decode cX10_within 86 = .ok (.iload_n 1, 1) := by decide +kernel
theorem dX10_within_87 : decode cX10_within 87 = .ok (.iload 4, 2) := by decide +kernel
theorem dX10_within_89 : decode cX10_within 89 = .ok (.invokevirtual 222, 3) := by decide +kernel
theorem dX10_within_92 : decode cX10_within 92 = .ok (.ifCond .lt 22, 3) := by decide +kernel
theorem dX10_within_95 : decode cX10_within 95 = .ok (.aload_n 0, 1) := by decide +kernel
theorem dX10_within_96 : decode cX10_within 96 = .ok (.getfield 28, 3) := by decide +kernel
theorem dX10_within_99 : decode cX10_within 99 = .ok (.iload_n 1, 1) := by decide +kernel
theorem dX10_within_100 : decode cX10_within 100 = .ok (.iload_n 3, 1) := by decide +kernel
theorem dX10_within_101 : decode cX10_within 101 = .ok (.iload_n 2, 1) := by decide +kernel
theorem dX10_within_102 : decode cX10_within 102 = .ok (.iload 4, 2) := by decide +kernel
theorem dX10_within_104 : decode cX10_within 104 = .ok (.invokevirtual 222, 3) := by decide +kernel
theorem dX10_within_107 : decode cX10_within 107 = .ok (.ifCond .lt 7, 3) := by decide +kernel
theorem dX10_within_110 : decode cX10_within 110 = .ok (.iconst 1, 1) := by decide +kernel
theorem dX10_within_111 : decode cX10_within 111 = .ok (.goto 4, 3) := by decide +kernel
theorem dX10_within_114 : decode cX10_within 114 = .ok (.iconst 0, 1) := by decide +kernel
theorem dX10_within_115 : decode cX10_within 115 = .ok (.invokestatic 159, 3) := by decide +kernel
theorem dX10_within_118 : decode cX10_within 118 = .ok (.ireturn, 1) := by decide +kernel
set_option maxRecDepth 20000 in
theorem ggX10_sixth_X8_areFour : GoodIn wsX10_sixth wsX8_areFour := goodIn_r _ [12, 13, 14, 15, 11, 16, 17, 18, 19, 20, 21, 22, 23, 24, 25, 84, 85] (by decide +kernel) (by decide +kernel)
set_option maxRecDepth 20000 in
theorem gX10_sixth_X8_areFour : GoodIn wsX10_sixth (wsV RX10 163 RX8 yX8_areFour wsX8_areFour) := goodIn_app (goodIn_of _ (by decide +kernel)) ggX10_sixth_X8_areFour
set_option maxRecDepth 20000 in
theorem ggX10_sixth_X8_isToldThree : GoodIn wsX10_sixth wsX8_isToldThree := goodIn_r _ [29, 30, 31, 32, 11, 33, 34, 84, 85] (by decide +kernel) (by decide +kernel)
set_option maxRecDepth 20000 in
theorem gX10_sixth_X8_isToldThree : GoodIn wsX10_sixth (wsV RX10 147 RX8 yX8_isToldThree wsX8_isToldThree) := goodIn_app (goodIn_of _ (by decide +kernel)) ggX10_sixth_X8_isToldThree
set_option maxRecDepth 20000 in
theorem ggX10_sixth_X8_canBeThree : GoodIn wsX10_sixth wsX8_canBeThree := goodIn_r _ [38, 39, 40, 41, 11, 42, 30, 31, 32, 33, 34, 43, 44, 45, 46, 84, 85] (by decide +kernel) (by decide +kernel)
set_option maxRecDepth 20000 in
theorem gX10_sixth_X8_canBeThree : GoodIn wsX10_sixth (wsV RX10 156 RX8 yX8_canBeThree wsX8_canBeThree) := goodIn_app (goodIn_of _ (by decide +kernel)) ggX10_sixth_X8_canBeThree
set_option maxRecDepth 20000 in
theorem ggX10_sixth_X7_take : GoodIn wsX10_sixth wsX7_take := goodIn_r _ [51, 52, 53, 54, 55, 56, 31, 32, 11, 33, 34, 57, 58, 59, 60, 30, 61, 40, 41, 42, 43, 44, 45, 46, 81, 82, 83, 84, 85] (by decide +kernel) (by decide +kernel)
set_option maxRecDepth 20000 in
theorem gX10_sixth_X7_take : GoodIn wsX10_sixth (wsV RX10 226 RX7 yX7_take wsX7_take) := goodIn_app (goodIn_of _ (by decide +kernel)) ggX10_sixth_X7_take
set_option maxRecDepth 20000 in
theorem ggX10_sixth_X7_wholeLength : GoodIn wsX10_sixth wsX7_wholeLength := goodIn_r _ [65, 55, 66, 54, 53, 67, 44, 68, 81, 82, 83] (by decide +kernel) (by decide +kernel)
set_option maxRecDepth 20000 in
theorem gX10_sixth_X7_wholeLength : GoodIn wsX10_sixth (wsV RX10 240 RX7 yX7_wholeLength wsX7_wholeLength) := goodIn_app (goodIn_of _ (by decide +kernel)) ggX10_sixth_X7_wholeLength
theorem dX10_sixth_0 : decode cX10_sixth 0 = .ok (.aload_n 0, 1) := by decide +kernel
theorem dX10_sixth_1 : decode cX10_sixth 1 = .ok (.getfield 28, 3) := by decide +kernel
theorem dX10_sixth_4 : decode cX10_sixth 4 = .ok (.iload_n 1, 1) := by decide +kernel
theorem dX10_sixth_5 : decode cX10_sixth 5 = .ok (.iload_n 2, 1) := by decide +kernel
theorem dX10_sixth_6 : decode cX10_sixth 6 = .ok (.iload_n 3, 1) := by decide +kernel
theorem dX10_sixth_7 : decode cX10_sixth 7 = .ok (.iload 4, 2) := by decide +kernel
theorem dX10_sixth_9 : decode cX10_sixth 9 = .ok (.invokevirtual 163, 3) := by decide +kernel
theorem dX10_sixth_12 : decode cX10_sixth 12 = .ok (.ifCond .eq 14, 3) := by decide +kernel
theorem dX10_sixth_15 : decode cX10_sixth 15 = .ok (.iload 5, 2) := by decide +kernel
theorem dX10_sixth_17 : decode cX10_sixth 17 = .ok (.ifCond .lt 9, 3) := by decide +kernel
theorem dX10_sixth_20 : decode cX10_sixth 20 = .ok (.iload 5, 2) := by decide +kernel
theorem dX10_sixth_22 : decode cX10_sixth 22 = .ok (.iconst 4, 1) := by decide +kernel
theorem dX10_sixth_23 : decode cX10_sixth 23 = .ok (.if_icmp .le 7, 3) := by decide +kernel
theorem dX10_sixth_26 : decode cX10_sixth 26 = .ok (.ldc2_w 145, 3) := by decide +kernel
theorem dX10_sixth_29 : decode cX10_sixth 29 = .ok (.lreturn, 1) := by decide +kernel
theorem dX10_sixth_30 : decode cX10_sixth 30 = .ok (.aload_n 0, 1) := by decide +kernel
theorem dX10_sixth_31 : decode cX10_sixth 31 = .ok (.getfield 28, 3) := by decide +kernel
theorem dX10_sixth_34 : decode cX10_sixth 34 = .ok (.iload_n 1, 1) := by decide +kernel
theorem dX10_sixth_35 : decode cX10_sixth 35 = .ok (.iload_n 3, 1) := by decide +kernel
theorem dX10_sixth_36 : decode cX10_sixth 36 = .ok (.iload 4, 2) := by decide +kernel
theorem dX10_sixth_38 : decode cX10_sixth 38 = .ok (.invokevirtual 147, 3) := by decide +kernel
theorem dX10_sixth_41 : decode cX10_sixth 41 = .ok (.ifCond .eq 45, 3) := by decide +kernel
theorem dX10_sixth_44 : decode cX10_sixth 44 = .ok (.aload_n 0, 1) := by decide +kernel
theorem dX10_sixth_45 : decode cX10_sixth 45 = .ok (.getfield 28, 3) := by decide +kernel
theorem dX10_sixth_48 : decode cX10_sixth 48 = .ok (.iload_n 2, 1) := by decide +kernel
theorem dX10_sixth_49 : decode cX10_sixth 49 = .ok (.iload_n 3, 1) := by decide +kernel
theorem dX10_sixth_50 : decode cX10_sixth 50 = .ok (.iload 4, 2) := by decide +kernel
theorem dX10_sixth_52 : decode cX10_sixth 52 = .ok (.invokevirtual 147, 3) := by decide +kernel
theorem dX10_sixth_55 : decode cX10_sixth 55 = .ok (.ifCond .eq 31, 3) := by decide +kernel
theorem dX10_sixth_58 : decode cX10_sixth 58 = .ok (.aload_n 0, 1) := by decide +kernel
theorem dX10_sixth_59 : decode cX10_sixth 59 = .ok (.getfield 28, 3) := by decide +kernel
theorem dX10_sixth_62 : decode cX10_sixth 62 = .ok (.iload_n 1, 1) := by decide +kernel
theorem dX10_sixth_63 : decode cX10_sixth 63 = .ok (.iload_n 3, 1) := by decide +kernel
theorem dX10_sixth_64 : decode cX10_sixth 64 = .ok (.iload 4, 2) := by decide +kernel
theorem dX10_sixth_66 : decode cX10_sixth 66 = .ok (.invokevirtual 156, 3) := by decide +kernel
theorem dX10_sixth_69 : decode cX10_sixth 69 = .ok (.ifCond .eq 17, 3) := by decide +kernel
theorem dX10_sixth_72 : decode cX10_sixth 72 = .ok (.aload_n 0, 1) := by decide +kernel
theorem dX10_sixth_73 : decode cX10_sixth 73 = .ok (.getfield 28, 3) := by decide +kernel
theorem dX10_sixth_76 : decode cX10_sixth 76 = .ok (.iload_n 2, 1) := by decide +kernel
theorem dX10_sixth_77 : decode cX10_sixth 77 = .ok (.iload_n 3, 1) := by decide +kernel
theorem dX10_sixth_78 : decode cX10_sixth 78 = .ok (.iload 4, 2) := by decide +kernel
theorem dX10_sixth_80 : decode cX10_sixth 80 = .ok (.invokevirtual 156, 3) := by decide +kernel
theorem dX10_sixth_83 : decode cX10_sixth 83 = .ok (.ifCond .ne 7, 3) := by decide +kernel
theorem dX10_sixth_86 : decode cX10_sixth 86 = .ok (.ldc2_w 154, 3) := by decide +kernel
theorem dX10_sixth_89 : decode cX10_sixth 89 = .ok (.lreturn, 1) := by decide +kernel
theorem dX10_sixth_90 : decode cX10_sixth 90 = .ok (.aload_n 0, 1) := by decide +kernel
theorem dX10_sixth_91 : decode cX10_sixth 91 = .ok (.getfield 63, 3) := by decide +kernel
theorem dX10_sixth_94 : decode cX10_sixth 94 = .ok (.aload_n 0, 1) := by decide +kernel
theorem dX10_sixth_95 : decode cX10_sixth 95 = .ok (.getfield 28, 3) := by decide +kernel
theorem dX10_sixth_98 : decode cX10_sixth 98 = .ok (.iload_n 1, 1) := by decide +kernel
theorem dX10_sixth_99 : decode cX10_sixth 99 = .ok (.iload_n 2, 1) := by decide +kernel
theorem dX10_sixth_100 : decode cX10_sixth 100 = .ok (.iload_n 3, 1) := by decide +kernel
theorem dX10_sixth_101 : decode cX10_sixth 101 = .ok (.iload 4, 2) := by decide +kernel
theorem dX10_sixth_103 : decode cX10_sixth 103 = .ok (.invokevirtual 226, 3) := by decide +kernel
theorem dX10_sixth_106 : decode cX10_sixth 106 = .ok (.iload 5, 2) := by decide +kernel
theorem dX10_sixth_108 : decode cX10_sixth 108 = .ok (.tableswitch 52 0 2 #[28, 36, 44], 28) := by decide +kernel
theorem dX10_sixth_136 : decode cX10_sixth 136 = .ok (.aload_n 0, 1) := by decide +kernel
theorem dX10_sixth_137 : decode cX10_sixth 137 = .ok (.getfield 63, 3) := by decide +kernel
theorem dX10_sixth_140 : decode cX10_sixth 140 = .ok (.getfield 230, 3) := by decide +kernel
theorem dX10_sixth_143 : decode cX10_sixth 143 = .ok (.lreturn, 1) := by decide +kernel
theorem dX10_sixth_144 : decode cX10_sixth 144 = .ok (.aload_n 0, 1) := by decide +kernel
theorem dX10_sixth_145 : decode cX10_sixth 145 = .ok (.getfield 63, 3) := by decide +kernel
theorem dX10_sixth_148 : decode cX10_sixth 148 = .ok (.getfield 234, 3) := by decide +kernel
theorem dX10_sixth_151 : decode cX10_sixth 151 = .ok (.lreturn, 1) := by decide +kernel
theorem dX10_sixth_152 : decode cX10_sixth 152 = .ok (.aload_n 0, 1) := by decide +kernel
theorem dX10_sixth_153 : decode cX10_sixth 153 = .ok (.getfield 63, 3) := by decide +kernel
theorem dX10_sixth_156 : decode cX10_sixth 156 = .ok (.getfield 237, 3) := by decide +kernel
theorem dX10_sixth_159 : decode cX10_sixth 159 = .ok (.lreturn, 1) := by decide +kernel
theorem dX10_sixth_160 : decode cX10_sixth 160 = .ok (.aload_n 0, 1) := by decide +kernel
theorem dX10_sixth_161 : decode cX10_sixth 161 = .ok (.getfield 63, 3) := by decide +kernel
theorem dX10_sixth_164 : decode cX10_sixth 164 = .ok (.iload 5, 2) := by decide +kernel
theorem dX10_sixth_166 : decode cX10_sixth 166 = .ok (.iconst 3, 1) := by decide +kernel
theorem dX10_sixth_167 : decode cX10_sixth 167 = .ok (.if_icmp .ne 7, 3) := by decide +kernel
theorem dX10_sixth_170 : decode cX10_sixth 170 = .ok (.iconst 1, 1) := by decide +kernel
theorem dX10_sixth_171 : decode cX10_sixth 171 = .ok (.goto 4, 3) := by decide +kernel
theorem dX10_sixth_174 : decode cX10_sixth 174 = .ok (.iconst 0, 1) := by decide +kernel
theorem dX10_sixth_175 : decode cX10_sixth 175 = .ok (.invokevirtual 240, 3) := by decide +kernel
theorem dX10_sixth_178 : decode cX10_sixth 178 = .ok (.lreturn, 1) := by decide +kernel
set_option maxRecDepth 20000 in
theorem ggX10_ends_X8_areTwo : GoodIn wsX10_ends wsX8_areTwo := goodIn_r _ [16, 17, 18, 19, 15, 20, 21, 43, 44] (by decide +kernel) (by decide +kernel)
set_option maxRecDepth 20000 in
theorem gX10_ends_X8_areTwo : GoodIn wsX10_ends (wsV RX10 122 RX8 yX8_areTwo wsX8_areTwo) := goodIn_app (goodIn_of _ (by decide +kernel)) ggX10_ends_X8_areTwo
set_option maxRecDepth 20000 in
theorem ggX10_ends_X8_square : GoodIn wsX10_ends wsX8_square := goodIn_r _ [25, 26, 43, 44] (by decide +kernel) (by decide +kernel)
set_option maxRecDepth 20000 in
theorem gX10_ends_X8_square : GoodIn wsX10_ends (wsV RX10 213 RX8 yX8_square wsX8_square) := goodIn_app (goodIn_of _ (by decide +kernel)) ggX10_ends_X8_square
set_option maxRecDepth 20000 in
theorem ggX10_ends_X10_rootOf : GoodIn wsX10_ends wsX10_rootOf := goodIn_r _ [30] (by decide +kernel) (by decide +kernel)
set_option maxRecDepth 20000 in
theorem gX10_ends_X10_rootOf : GoodIn wsX10_ends (va_wsS RX10 248 yX10_rootOf wsX10_rootOf) := goodIn_app (goodIn_of _ (by decide +kernel)) ggX10_ends_X10_rootOf
theorem dX10_ends_0 : decode cX10_ends 0 = .ok (.aload_n 0, 1) := by decide +kernel
theorem dX10_ends_1 : decode cX10_ends 1 = .ok (.getfield 28, 3) := by decide +kernel
theorem dX10_ends_4 : decode cX10_ends 4 = .ok (.iload_n 1, 1) := by decide +kernel
theorem dX10_ends_5 : decode cX10_ends 5 = .ok (.iload_n 2, 1) := by decide +kernel
theorem dX10_ends_6 : decode cX10_ends 6 = .ok (.invokevirtual 122, 3) := by decide +kernel
theorem dX10_ends_9 : decode cX10_ends 9 = .ok (.ifCond .eq 12, 3) := by decide +kernel
theorem dX10_ends_12 : decode cX10_ends 12 = .ok (.iload_n 3, 1) := by decide +kernel
theorem dX10_ends_13 : decode cX10_ends 13 = .ok (.ifCond .lt 8, 3) := by decide +kernel
theorem dX10_ends_16 : decode cX10_ends 16 = .ok (.iload_n 3, 1) := by decide +kernel
theorem dX10_ends_17 : decode cX10_ends 17 = .ok (.iconst 1, 1) := by decide +kernel
theorem dX10_ends_18 : decode cX10_ends 18 = .ok (.if_icmp .le 5, 3) := by decide +kernel
theorem dX10_ends_21 : decode cX10_ends 21 = .ok (.iconst (-1), 1) := by decide +kernel
theorem dX10_ends_22 : decode cX10_ends 22 = .ok (.ireturn, 1) := by decide +kernel
theorem dX10_ends_23 : decode cX10_ends 23 = .ok (.iconst 0, 1) := by decide +kernel
theorem dX10_ends_24 : decode cX10_ends 24 = .ok (.istore 4, 2) := by decide +kernel
theorem dX10_ends_26 : decode cX10_ends 26 = .ok (.ldc 244, 2) := by decide +kernel
theorem dX10_ends_28 : decode cX10_ends 28 = .ok (.istore 5, 2) := by decide +kernel
theorem dX10_ends_30 : decode cX10_ends 30 = .ok (.iconst 0, 1) := by decide +kernel
theorem dX10_ends_31 : decode cX10_ends 31 = .ok (.istore 6, 2) := by decide +kernel
theorem dX10_ends_33 : decode cX10_ends 33 = .ok (.iload 6, 2) := by decide +kernel
theorem dX10_ends_35 : decode cX10_ends 35 = .ok (.aload_n 0, 1) := by decide +kernel
theorem dX10_ends_36 : decode cX10_ends 36 = .ok (.getfield 28, 3) := by decide +kernel
theorem dX10_ends_39 : decode cX10_ends 39 = .ok (.getfield 245, 3) := by decide +kernel
theorem dX10_ends_42 : decode cX10_ends 42 = .ok (.if_icmp .ge 90, 3) := by decide +kernel
theorem dX10_ends_45 : decode cX10_ends 45 = .ok (.aload_n 0, 1) := by decide +kernel
theorem dX10_ends_46 : decode cX10_ends 46 = .ok (.getfield 28, 3) := by decide +kernel
theorem dX10_ends_49 : decode cX10_ends 49 = .ok (.iload_n 1, 1) := by decide +kernel
theorem dX10_ends_50 : decode cX10_ends 50 = .ok (.iload 6, 2) := by decide +kernel
theorem dX10_ends_52 : decode cX10_ends 52 = .ok (.invokevirtual 213, 3) := by decide +kernel
theorem dX10_ends_55 : decode cX10_ends 55 = .ok (.istore 7, 2) := by decide +kernel
theorem dX10_ends_57 : decode cX10_ends 57 = .ok (.aload_n 0, 1) := by decide +kernel
theorem dX10_ends_58 : decode cX10_ends 58 = .ok (.getfield 28, 3) := by decide +kernel
theorem dX10_ends_61 : decode cX10_ends 61 = .ok (.iload_n 2, 1) := by decide +kernel
theorem dX10_ends_62 : decode cX10_ends 62 = .ok (.iload 6, 2) := by decide +kernel
theorem dX10_ends_64 : decode cX10_ends 64 = .ok (.invokevirtual 213, 3) := by decide +kernel
theorem dX10_ends_67 : decode cX10_ends 67 = .ok (.istore 8, 2) := by decide +kernel
theorem dX10_ends_69 : decode cX10_ends 69 = .ok (.iload 7, 2) := by decide +kernel
theorem dX10_ends_71 : decode cX10_ends 71 = .ok (.ifCond .le 55, 3) := by decide +kernel
theorem dX10_ends_74 : decode cX10_ends 74 = .ok (.iload 8, 2) := by decide +kernel
theorem dX10_ends_76 : decode cX10_ends 76 = .ok (.ifCond .le 50, 3) := by decide +kernel
theorem dX10_ends_79 : decode cX10_ends 79 = .ok (.ldc2_w 220, 3) := by decide +kernel
theorem dX10_ends_82 : decode cX10_ends 82 = .ok (.iload 7, 2) := by decide +kernel
theorem dX10_ends_84 : decode cX10_ends 84 = .ok (.i2l, 1) := by decide +kernel
theorem dX10_ends_85 : decode cX10_ends 85 = .ok (.lmul, 1) := by decide +kernel
theorem dX10_ends_86 : decode cX10_ends 86 = .ok (.iload 8, 2) := by decide +kernel
theorem dX10_ends_88 : decode cX10_ends 88 = .ok (.i2l, 1) := by decide +kernel
theorem dX10_ends_89 : decode cX10_ends 89 = .ok (.lmul, 1) := by decide +kernel
theorem dX10_ends_90 : decode cX10_ends 90 = .ok (.invokestatic 248, 3) := by decide +kernel
theorem dX10_ends_93 : decode cX10_ends 93 = .ok (.l2i, 1) := by decide +kernel
theorem dX10_ends_94 : decode cX10_ends 94 = .ok (.istore 9, 2) := by decide +kernel
theorem dX10_ends_96 : decode cX10_ends 96 = .ok (.iload 4, 2) := by decide +kernel
theorem dX10_ends_98 : decode cX10_ends 98 = .ok (.iload 7, 2) := by decide +kernel
theorem dX10_ends_100 : decode cX10_ends 100 = .ok (.iload 8, 2) := by decide +kernel
theorem dX10_ends_102 : decode cX10_ends 102 = .ok (.iadd, 1) := by decide +kernel
theorem dX10_ends_103 : decode cX10_ends 103 = .ok (.iload 9, 2) := by decide +kernel
theorem dX10_ends_105 : decode cX10_ends 105 = .ok (.isub, 1) := by decide +kernel
theorem dX10_ends_106 : decode cX10_ends 106 = .ok (.invokestatic 252, 3) := by decide +kernel
theorem dX10_ends_109 : decode cX10_ends 109 = .ok (.istore 4, 2) := by decide +kernel
theorem dX10_ends_111 : decode cX10_ends 111 = .ok (.iload 5, 2) := by decide +kernel
theorem dX10_ends_113 : decode cX10_ends 113 = .ok (.iload 7, 2) := by decide +kernel
theorem dX10_ends_115 : decode cX10_ends 115 = .ok (.iload 8, 2) := by decide +kernel
theorem dX10_ends_117 : decode cX10_ends 117 = .ok (.iadd, 1) := by decide +kernel
theorem dX10_ends_118 : decode cX10_ends 118 = .ok (.iload 9, 2) := by decide +kernel
theorem dX10_ends_120 : decode cX10_ends 120 = .ok (.iadd, 1) := by decide +kernel
theorem dX10_ends_121 : decode cX10_ends 121 = .ok (.invokestatic 257, 3) := by decide +kernel
theorem dX10_ends_124 : decode cX10_ends 124 = .ok (.istore 5, 2) := by decide +kernel
theorem dX10_ends_126 : decode cX10_ends 126 = .ok (.iinc 6 1, 3) := by decide +kernel
theorem dX10_ends_129 : decode cX10_ends 129 = .ok (.goto (-96), 3) := by decide +kernel
theorem dX10_ends_132 : decode cX10_ends 132 = .ok (.iload_n 3, 1) := by decide +kernel
theorem dX10_ends_133 : decode cX10_ends 133 = .ok (.ifCond .ne 8, 3) := by decide +kernel
theorem dX10_ends_136 : decode cX10_ends 136 = .ok (.iload 4, 2) := by decide +kernel
theorem dX10_ends_138 : decode cX10_ends 138 = .ok (.goto 5, 3) := by decide +kernel
theorem dX10_ends_141 : decode cX10_ends 141 = .ok (.iload 5, 2) := by decide +kernel
theorem dX10_ends_143 : decode cX10_ends 143 = .ok (.ireturn, 1) := by decide +kernel
set_option maxRecDepth 20000 in
theorem ggX10_drawings_X8_isPlace : GoodIn wsX10_drawings wsX8_isPlace := goodIn_r _ [14, 15, 136, 137] (by decide +kernel) (by decide +kernel)
set_option maxRecDepth 20000 in
theorem gX10_drawings_X8_isPlace : GoodIn wsX10_drawings (wsV RX10 260 RX8 yX8_isPlace wsX8_isPlace) := goodIn_app (goodIn_of _ (by decide +kernel)) ggX10_drawings_X8_isPlace
set_option maxRecDepth 20000 in
theorem ggX10_drawings_X8_areTwo : GoodIn wsX10_drawings wsX8_areTwo := goodIn_r _ [19, 20, 11, 12, 13, 14, 15, 136, 137] (by decide +kernel) (by decide +kernel)
set_option maxRecDepth 20000 in
theorem gX10_drawings_X8_areTwo : GoodIn wsX10_drawings (wsV RX10 122 RX8 yX8_areTwo wsX8_areTwo) := goodIn_app (goodIn_of _ (by decide +kernel)) ggX10_drawings_X8_areTwo
set_option maxRecDepth 20000 in
theorem ggX10_drawings_X8_square : GoodIn wsX10_drawings wsX8_square := goodIn_r _ [24, 25, 136, 137] (by decide +kernel) (by decide +kernel)
set_option maxRecDepth 20000 in
theorem gX10_drawings_X8_square : GoodIn wsX10_drawings (wsV RX10 213 RX8 yX8_square wsX8_square) := goodIn_app (goodIn_of _ (by decide +kernel)) ggX10_drawings_X8_square
set_option maxRecDepth 20000 in
theorem ggX10_drawings_X0_draw : GoodIn wsX10_drawings wsX0_draw := goodIn_r _ [30, 31, 32, 33, 34, 35, 36, 29, 37, 38, 39, 40, 41, 42, 43, 13, 44, 45, 22, 23, 24, 25, 46, 47, 48, 49, 50, 51, 52, 53, 54, 55, 56, 57, 58, 59, 60, 61, 62, 6, 7, 8, 9, 63, 64, 65, 66, 67, 68, 69, 70, 71, 72, 73, 74, 75, 76, 77, 78, 79, 80, 81, 82, 83, 84, 85, 86, 87, 88, 89, 90, 91, 92, 93, 94, 95, 96, 97, 98, 99, 100, 101, 102, 103, 104, 105, 106, 128, 129, 130, 131, 132, 133, 134, 135, 136, 137, 138, 139, 140] (by decide +kernel) (by decide +kernel)
set_option maxRecDepth 20000 in
theorem gX10_drawings_X0_draw : GoodIn wsX10_drawings (wsV RX10 263 RX0 yX0_draw wsX0_draw) := goodIn_app (goodIn_of _ (by decide +kernel)) ggX10_drawings_X0_draw
set_option maxRecDepth 20000 in
theorem ggX10_drawings_X0_ways : GoodIn wsX10_drawings wsX0_ways := goodIn_r _ [110, 33, 94, 128, 129, 130, 131, 132, 133, 134, 135] (by decide +kernel) (by decide +kernel)
set_option maxRecDepth 20000 in
theorem gX10_drawings_X0_ways : GoodIn wsX10_drawings (wsV RX10 266 RX0 yX0_ways wsX0_ways) := goodIn_app (goodIn_of _ (by decide +kernel)) ggX10_drawings_X0_ways
set_option maxRecDepth 20000 in
theorem ggX10_drawings_X0_isLaid : GoodIn wsX10_drawings wsX0_isLaid := goodIn_r _ [58, 38, 59, 51, 60, 128, 129, 130, 131, 132, 133, 134, 135] (by decide +kernel) (by decide +kernel)
set_option maxRecDepth 20000 in
theorem gX10_drawings_X0_isLaid : GoodIn wsX10_drawings (wsV RX10 278 RX0 yX0_isLaid wsX0_isLaid) := goodIn_app (goodIn_of _ (by decide +kernel)) ggX10_drawings_X0_isLaid
set_option maxRecDepth 20000 in
theorem ggX10_drawings_X0_sideOf : GoodIn wsX10_drawings wsX0_sideOf := goodIn_r _ [115, 93, 128, 129, 130, 131, 132, 133, 134, 135] (by decide +kernel) (by decide +kernel)
set_option maxRecDepth 20000 in
theorem gX10_drawings_X0_sideOf : GoodIn wsX10_drawings (wsV RX10 281 RX0 yX0_sideOf wsX0_sideOf) := goodIn_app (goodIn_of _ (by decide +kernel)) ggX10_drawings_X0_sideOf
theorem dX10_drawings_0 : decode cX10_drawings 0 = .ok (.aload_n 0, 1) := by decide +kernel
theorem dX10_drawings_1 : decode cX10_drawings 1 = .ok (.getfield 28, 3) := by decide +kernel
theorem dX10_drawings_4 : decode cX10_drawings 4 = .ok (.iload_n 3, 1) := by decide +kernel
theorem dX10_drawings_5 : decode cX10_drawings 5 = .ok (.bipush 10, 2) := by decide +kernel
theorem dX10_drawings_7 : decode cX10_drawings 7 = .ok (.isub, 1) := by decide +kernel
theorem dX10_drawings_8 : decode cX10_drawings 8 = .ok (.invokevirtual 260, 3) := by decide +kernel
theorem dX10_drawings_11 : decode cX10_drawings 11 = .ok (.istore 4, 2) := by decide +kernel
theorem dX10_drawings_13 : decode cX10_drawings 13 = .ok (.aload_n 0, 1) := by decide +kernel
theorem dX10_drawings_14 : decode cX10_drawings 14 = .ok (.getfield 28, 3) := by decide +kernel
theorem dX10_drawings_17 : decode cX10_drawings 17 = .ok (.iload_n 1, 1) := by decide +kernel
theorem dX10_drawings_18 : decode cX10_drawings 18 = .ok (.iload_n 2, 1) := by decide +kernel
theorem dX10_drawings_19 : decode cX10_drawings 19 = .ok (.invokevirtual 122, 3) := by decide +kernel
theorem dX10_drawings_22 : decode cX10_drawings 22 = .ok (.ifCond .eq 17, 3) := by decide +kernel
theorem dX10_drawings_25 : decode cX10_drawings 25 = .ok (.iload 4, 2) := by decide +kernel
theorem dX10_drawings_27 : decode cX10_drawings 27 = .ok (.ifCond .ne 14, 3) := by decide +kernel
theorem dX10_drawings_30 : decode cX10_drawings 30 = .ok (.iload_n 3, 1) := by decide +kernel
theorem dX10_drawings_31 : decode cX10_drawings 31 = .ok (.ifCond .lt 8, 3) := by decide +kernel
theorem dX10_drawings_34 : decode cX10_drawings 34 = .ok (.iload_n 3, 1) := by decide +kernel
theorem dX10_drawings_35 : decode cX10_drawings 35 = .ok (.iconst 3, 1) := by decide +kernel
theorem dX10_drawings_36 : decode cX10_drawings 36 = .ok (.if_icmp .le 5, 3) := by decide +kernel
theorem dX10_drawings_39 : decode cX10_drawings 39 = .ok (.iconst (-1), 1) := by decide +kernel
theorem dX10_drawings_40 : decode cX10_drawings 40 = .ok (.ireturn, 1) := by decide +kernel
theorem dX10_drawings_41 : decode cX10_drawings 41 = .ok (.aload_n 0, 1) := by decide +kernel
theorem dX10_drawings_42 : decode cX10_drawings 42 = .ok (.getfield 28, 3) := by decide +kernel
theorem dX10_drawings_45 : decode cX10_drawings 45 = .ok (.iload_n 1, 1) := by decide +kernel
theorem dX10_drawings_46 : decode cX10_drawings 46 = .ok (.iload_n 2, 1) := by decide +kernel
theorem dX10_drawings_47 : decode cX10_drawings 47 = .ok (.invokevirtual 213, 3) := by decide +kernel
theorem dX10_drawings_50 : decode cX10_drawings 50 = .ok (.ifCond .ne 6, 3) := by decide +kernel
theorem dX10_drawings_53 : decode cX10_drawings 53 = .ok (.bipush (-2), 2) := by decide +kernel
theorem dX10_drawings_55 : decode cX10_drawings 55 = .ok (.ireturn, 1) := by decide +kernel
theorem dX10_drawings_56 : decode cX10_drawings 56 = .ok (.aload_n 0, 1) := by decide +kernel
theorem dX10_drawings_57 : decode cX10_drawings 57 = .ok (.getfield 72, 3) := by decide +kernel
theorem dX10_drawings_60 : decode cX10_drawings 60 = .ok (.iload_n 1, 1) := by decide +kernel
theorem dX10_drawings_61 : decode cX10_drawings 61 = .ok (.iload_n 2, 1) := by decide +kernel
theorem dX10_drawings_62 : decode cX10_drawings 62 = .ok (.iconst (-1), 1) := by decide +kernel
theorem dX10_drawings_63 : decode cX10_drawings 63 = .ok (.invokevirtual 263, 3) := by decide +kernel
theorem dX10_drawings_66 : decode cX10_drawings 66 = .ok (.iload_n 3, 1) := by decide +kernel
theorem dX10_drawings_67 : decode cX10_drawings 67 = .ok (.tableswitch 82 0 3 #[29, 37, 45, 53], 29) := by decide +kernel
theorem dX10_drawings_96 : decode cX10_drawings 96 = .ok (.aload_n 0, 1) := by decide +kernel
theorem dX10_drawings_97 : decode cX10_drawings 97 = .ok (.getfield 72, 3) := by decide +kernel
theorem dX10_drawings_100 : decode cX10_drawings 100 = .ok (.invokevirtual 266, 3) := by decide +kernel
theorem dX10_drawings_103 : decode cX10_drawings 103 = .ok (.ireturn, 1) := by decide +kernel
theorem dX10_drawings_104 : decode cX10_drawings 104 = .ok (.aload_n 0, 1) := by decide +kernel
theorem dX10_drawings_105 : decode cX10_drawings 105 = .ok (.getfield 72, 3) := by decide +kernel
theorem dX10_drawings_108 : decode cX10_drawings 108 = .ok (.getfield 269, 3) := by decide +kernel
theorem dX10_drawings_111 : decode cX10_drawings 111 = .ok (.ireturn, 1) := by decide +kernel
theorem dX10_drawings_112 : decode cX10_drawings 112 = .ok (.aload_n 0, 1) := by decide +kernel
theorem dX10_drawings_113 : decode cX10_drawings 113 = .ok (.getfield 72, 3) := by decide +kernel
theorem dX10_drawings_116 : decode cX10_drawings 116 = .ok (.getfield 272, 3) := by decide +kernel
theorem dX10_drawings_119 : decode cX10_drawings 119 = .ok (.ireturn, 1) := by decide +kernel
theorem dX10_drawings_120 : decode cX10_drawings 120 = .ok (.aload_n 0, 1) := by decide +kernel
theorem dX10_drawings_121 : decode cX10_drawings 121 = .ok (.getfield 72, 3) := by decide +kernel
theorem dX10_drawings_124 : decode cX10_drawings 124 = .ok (.getfield 275, 3) := by decide +kernel
theorem dX10_drawings_127 : decode cX10_drawings 127 = .ok (.ifCond .eq 19, 3) := by decide +kernel
theorem dX10_drawings_130 : decode cX10_drawings 130 = .ok (.iconst 0, 1) := by decide +kernel
theorem dX10_drawings_131 : decode cX10_drawings 131 = .ok (.aload_n 0, 1) := by decide +kernel
theorem dX10_drawings_132 : decode cX10_drawings 132 = .ok (.getfield 72, 3) := by decide +kernel
theorem dX10_drawings_135 : decode cX10_drawings 135 = .ok (.getfield 272, 3) := by decide +kernel
theorem dX10_drawings_138 : decode cX10_drawings 138 = .ok (.iconst 1, 1) := by decide +kernel
theorem dX10_drawings_139 : decode cX10_drawings 139 = .ok (.isub, 1) := by decide +kernel
theorem dX10_drawings_140 : decode cX10_drawings 140 = .ok (.invokestatic 252, 3) := by decide +kernel
theorem dX10_drawings_143 : decode cX10_drawings 143 = .ok (.goto 5, 3) := by decide +kernel
theorem dX10_drawings_146 : decode cX10_drawings 146 = .ok (.bipush (-4), 2) := by decide +kernel
theorem dX10_drawings_148 : decode cX10_drawings 148 = .ok (.ireturn, 1) := by decide +kernel
theorem dX10_drawings_149 : decode cX10_drawings 149 = .ok (.aload_n 0, 1) := by decide +kernel
theorem dX10_drawings_150 : decode cX10_drawings 150 = .ok (.getfield 72, 3) := by decide +kernel
theorem dX10_drawings_153 : decode cX10_drawings 153 = .ok (.getfield 275, 3) := by decide +kernel
theorem dX10_drawings_156 : decode cX10_drawings 156 = .ok (.ifCond .eq 31, 3) := by decide +kernel
theorem dX10_drawings_159 : decode cX10_drawings 159 = .ok (.aload_n 0, 1) := by decide +kernel
theorem dX10_drawings_160 : decode cX10_drawings 160 = .ok (.getfield 72, 3) := by decide +kernel
theorem dX10_drawings_163 : decode cX10_drawings 163 = .ok (.iload_n 3, 1) := by decide +kernel
theorem dX10_drawings_164 : decode cX10_drawings 164 = .ok (.bipush 10, 2) := by decide +kernel
theorem dX10_drawings_166 : decode cX10_drawings 166 = .ok (.isub, 1) := by decide +kernel
theorem dX10_drawings_167 : decode cX10_drawings 167 = .ok (.invokevirtual 278, 3) := by decide +kernel
theorem dX10_drawings_170 : decode cX10_drawings 170 = .ok (.ifCond .eq 17, 3) := by decide +kernel
theorem dX10_drawings_173 : decode cX10_drawings 173 = .ok (.aload_n 0, 1) := by decide +kernel
theorem dX10_drawings_174 : decode cX10_drawings 174 = .ok (.getfield 72, 3) := by decide +kernel
theorem dX10_drawings_177 : decode cX10_drawings 177 = .ok (.iload_n 3, 1) := by decide +kernel
theorem dX10_drawings_178 : decode cX10_drawings 178 = .ok (.bipush 10, 2) := by decide +kernel
theorem dX10_drawings_180 : decode cX10_drawings 180 = .ok (.isub, 1) := by decide +kernel
theorem dX10_drawings_181 : decode cX10_drawings 181 = .ok (.invokevirtual 281, 3) := by decide +kernel
theorem dX10_drawings_184 : decode cX10_drawings 184 = .ok (.goto 5, 3) := by decide +kernel
theorem dX10_drawings_187 : decode cX10_drawings 187 = .ok (.bipush (-4), 2) := by decide +kernel
theorem dX10_drawings_189 : decode cX10_drawings 189 = .ok (.ireturn, 1) := by decide +kernel
set_option maxRecDepth 20000 in
theorem ggX10_spare_X8_areTwo : GoodIn wsX10_spare wsX8_areTwo := goodIn_r _ [7, 8, 9, 10, 6, 11, 12, 124, 125] (by decide +kernel) (by decide +kernel)
set_option maxRecDepth 20000 in
theorem gX10_spare_X8_areTwo : GoodIn wsX10_spare (wsV RX10 122 RX8 yX8_areTwo wsX8_areTwo) := goodIn_app (goodIn_of _ (by decide +kernel)) ggX10_spare_X8_areTwo
set_option maxRecDepth 20000 in
theorem ggX10_spare_X8_square : GoodIn wsX10_spare wsX8_square := goodIn_r _ [16, 17, 124, 125] (by decide +kernel) (by decide +kernel)
set_option maxRecDepth 20000 in
theorem gX10_spare_X8_square : GoodIn wsX10_spare (wsV RX10 213 RX8 yX8_square wsX8_square) := goodIn_app (goodIn_of _ (by decide +kernel)) ggX10_spare_X8_square
set_option maxRecDepth 20000 in
theorem ggX10_spare_X0_draw : GoodIn wsX10_spare wsX0_draw := goodIn_r _ [22, 23, 24, 25, 26, 27, 28, 21, 29, 30, 31, 32, 33, 34, 35, 6, 36, 37, 14, 15, 16, 17, 38, 39, 40, 41, 42, 43, 44, 45, 46, 47, 48, 49, 50, 51, 52, 53, 54, 55, 56, 57, 58, 59, 60, 61, 62, 63, 64, 65, 66, 67, 68, 69, 70, 71, 72, 73, 74, 75, 76, 77, 78, 79, 80, 81, 82, 83, 84, 85, 86, 87, 88, 89, 90, 91, 92, 93, 94, 95, 96, 97, 98, 99, 100, 101, 102, 126, 127, 128, 129, 130, 131, 132, 133, 124, 125, 134, 135, 136] (by decide +kernel) (by decide +kernel)
set_option maxRecDepth 20000 in
theorem gX10_spare_X0_draw : GoodIn wsX10_spare (wsV RX10 263 RX0 yX0_draw wsX0_draw) := goodIn_app (goodIn_of _ (by decide +kernel)) ggX10_spare_X0_draw
set_option maxRecDepth 20000 in
theorem ggX10_spare_X0_isLaid : GoodIn wsX10_spare wsX0_isLaid := goodIn_r _ [50, 30, 51, 43, 52, 126, 127, 128, 129, 130, 131, 132, 133] (by decide +kernel) (by decide +kernel)
set_option maxRecDepth 20000 in
theorem gX10_spare_X0_isLaid : GoodIn wsX10_spare (wsV RX10 278 RX0 yX0_isLaid wsX0_isLaid) := goodIn_app (goodIn_of _ (by decide +kernel)) ggX10_spare_X0_isLaid
set_option maxRecDepth 20000 in
theorem ggX10_spare_X0_ways : GoodIn wsX10_spare wsX0_ways := goodIn_r _ [107, 25, 90, 126, 127, 128, 129, 130, 131, 132, 133] (by decide +kernel) (by decide +kernel)
set_option maxRecDepth 20000 in
theorem gX10_spare_X0_ways : GoodIn wsX10_spare (wsV RX10 266 RX0 yX0_ways wsX0_ways) := goodIn_app (goodIn_of _ (by decide +kernel)) ggX10_spare_X0_ways
set_option maxRecDepth 20000 in
theorem ggX10_spare_X10_pairOf : GoodIn wsX10_spare wsX10_pairOf := goodIn_r _ [54, 55, 56, 57, 58, 59, 60, 61] (by decide +kernel) (by decide +kernel)
set_option maxRecDepth 20000 in
theorem gX10_spare_X10_pairOf : GoodIn wsX10_spare (va_wsS RX10 138 yX10_pairOf wsX10_pairOf) := goodIn_app (goodIn_of _ (by decide +kernel)) ggX10_spare_X10_pairOf
set_option maxRecDepth 20000 in
theorem ggX10_spare_X10_bit : GoodIn wsX10_spare wsX10_bit := goodIn_r _ [111] (by decide +kernel) (by decide +kernel)
set_option maxRecDepth 20000 in
theorem gX10_spare_X10_bit : GoodIn wsX10_spare (va_wsS RX10 159 yX10_bit wsX10_bit) := goodIn_app (goodIn_of _ (by decide +kernel)) ggX10_spare_X10_bit
theorem dX10_spare_0 : decode cX10_spare 0 = .ok (.aload_n 0, 1) := by decide +kernel
theorem dX10_spare_1 : decode cX10_spare 1 = .ok (.getfield 28, 3) := by decide +kernel
theorem dX10_spare_4 : decode cX10_spare 4 = .ok (.iload_n 1, 1) := by decide +kernel
theorem dX10_spare_5 : decode cX10_spare 5 = .ok (.iload_n 2, 1) := by decide +kernel
theorem dX10_spare_6 : decode cX10_spare 6 = .ok (.invokevirtual 122, 3) := by decide +kernel
theorem dX10_spare_9 : decode cX10_spare 9 = .ok (.ifCond .eq 16, 3) := by decide +kernel
theorem dX10_spare_12 : decode cX10_spare 12 = .ok (.aload_n 0, 1) := by decide +kernel
theorem dX10_spare_13 : decode cX10_spare 13 = .ok (.getfield 28, 3) := by decide +kernel
theorem dX10_spare_16 : decode cX10_spare 16 = .ok (.iload_n 3, 1) := by decide +kernel
theorem dX10_spare_17 : decode cX10_spare 17 = .ok (.iload 4, 2) := by decide +kernel
theorem dX10_spare_19 : decode cX10_spare 19 = .ok (.invokevirtual 122, 3) := by decide +kernel
theorem dX10_spare_22 : decode cX10_spare 22 = .ok (.ifCond .ne 5, 3) := by decide +kernel
theorem dX10_spare_25 : decode cX10_spare 25 = .ok (.iconst (-1), 1) := by decide +kernel
theorem dX10_spare_26 : decode cX10_spare 26 = .ok (.ireturn, 1) := by decide +kernel
theorem dX10_spare_27 : decode cX10_spare 27 = .ok (.aload_n 0, 1) := by decide +kernel
theorem dX10_spare_28 : decode cX10_spare 28 = .ok (.getfield 28, 3) := by decide +kernel
theorem dX10_spare_31 : decode cX10_spare 31 = .ok (.iload_n 1, 1) := by decide +kernel
theorem dX10_spare_32 : decode cX10_spare 32 = .ok (.iload_n 2, 1) := by decide +kernel
theorem dX10_spare_33 : decode cX10_spare 33 = .ok (.invokevirtual 213, 3) := by decide +kernel
theorem dX10_spare_36 : decode cX10_spare 36 = .ok (.ifCond .ne 6, 3) := by decide +kernel
theorem dX10_spare_39 : decode cX10_spare 39 = .ok (.bipush (-2), 2) := by decide +kernel
theorem dX10_spare_41 : decode cX10_spare 41 = .ok (.ireturn, 1) := by decide +kernel
theorem dX10_spare_42 : decode cX10_spare 42 = .ok (.aload_n 0, 1) := by decide +kernel
theorem dX10_spare_43 : decode cX10_spare 43 = .ok (.getfield 72, 3) := by decide +kernel
theorem dX10_spare_46 : decode cX10_spare 46 = .ok (.iload_n 1, 1) := by decide +kernel
theorem dX10_spare_47 : decode cX10_spare 47 = .ok (.iload_n 2, 1) := by decide +kernel
theorem dX10_spare_48 : decode cX10_spare 48 = .ok (.iconst (-1), 1) := by decide +kernel
theorem dX10_spare_49 : decode cX10_spare 49 = .ok (.invokevirtual 263, 3) := by decide +kernel
theorem dX10_spare_52 : decode cX10_spare 52 = .ok (.aload_n 0, 1) := by decide +kernel
theorem dX10_spare_53 : decode cX10_spare 53 = .ok (.getfield 72, 3) := by decide +kernel
theorem dX10_spare_56 : decode cX10_spare 56 = .ok (.iload_n 3, 1) := by decide +kernel
theorem dX10_spare_57 : decode cX10_spare 57 = .ok (.invokevirtual 278, 3) := by decide +kernel
theorem dX10_spare_60 : decode cX10_spare 60 = .ok (.ifCond .eq 28, 3) := by decide +kernel
theorem dX10_spare_63 : decode cX10_spare 63 = .ok (.aload_n 0, 1) := by decide +kernel
theorem dX10_spare_64 : decode cX10_spare 64 = .ok (.getfield 72, 3) := by decide +kernel
theorem dX10_spare_67 : decode cX10_spare 67 = .ok (.iload 4, 2) := by decide +kernel
theorem dX10_spare_69 : decode cX10_spare 69 = .ok (.invokevirtual 278, 3) := by decide +kernel
theorem dX10_spare_72 : decode cX10_spare 72 = .ok (.ifCond .eq 16, 3) := by decide +kernel
theorem dX10_spare_75 : decode cX10_spare 75 = .ok (.aload_n 0, 1) := by decide +kernel
theorem dX10_spare_76 : decode cX10_spare 76 = .ok (.getfield 28, 3) := by decide +kernel
theorem dX10_spare_79 : decode cX10_spare 79 = .ok (.iload_n 3, 1) := by decide +kernel
theorem dX10_spare_80 : decode cX10_spare 80 = .ok (.iload 4, 2) := by decide +kernel
theorem dX10_spare_82 : decode cX10_spare 82 = .ok (.invokevirtual 213, 3) := by decide +kernel
theorem dX10_spare_85 : decode cX10_spare 85 = .ok (.ifCond .ne 6, 3) := by decide +kernel
theorem dX10_spare_88 : decode cX10_spare 88 = .ok (.bipush (-4), 2) := by decide +kernel
theorem dX10_spare_90 : decode cX10_spare 90 = .ok (.ireturn, 1) := by decide +kernel
theorem dX10_spare_91 : decode cX10_spare 91 = .ok (.aload_n 0, 1) := by decide +kernel
theorem dX10_spare_92 : decode cX10_spare 92 = .ok (.getfield 72, 3) := by decide +kernel
theorem dX10_spare_95 : decode cX10_spare 95 = .ok (.invokevirtual 266, 3) := by decide +kernel
theorem dX10_spare_98 : decode cX10_spare 98 = .ok (.istore 5, 2) := by decide +kernel
theorem dX10_spare_100 : decode cX10_spare 100 = .ok (.aload_n 0, 1) := by decide +kernel
theorem dX10_spare_101 : decode cX10_spare 101 = .ok (.getfield 72, 3) := by decide +kernel
theorem dX10_spare_104 : decode cX10_spare 104 = .ok (.iload_n 1, 1) := by decide +kernel
theorem dX10_spare_105 : decode cX10_spare 105 = .ok (.iload_n 2, 1) := by decide +kernel
theorem dX10_spare_106 : decode cX10_spare 106 = .ok (.iload_n 3, 1) := by decide +kernel
theorem dX10_spare_107 : decode cX10_spare 107 = .ok (.iload 4, 2) := by decide +kernel
theorem dX10_spare_109 : decode cX10_spare 109 = .ok (.invokestatic 138, 3) := by decide +kernel
theorem dX10_spare_112 : decode cX10_spare 112 = .ok (.invokevirtual 263, 3) := by decide +kernel
theorem dX10_spare_115 : decode cX10_spare 115 = .ok (.aload_n 0, 1) := by decide +kernel
theorem dX10_spare_116 : decode cX10_spare 116 = .ok (.getfield 72, 3) := by decide +kernel
theorem dX10_spare_119 : decode cX10_spare 119 = .ok (.invokevirtual 266, 3) := by decide +kernel
theorem dX10_spare_122 : decode cX10_spare 122 = .ok (.iload 5, 2) := by decide +kernel
theorem dX10_spare_124 : decode cX10_spare 124 = .ok (.if_icmp .ne 7, 3) := by decide +kernel
theorem dX10_spare_127 : decode cX10_spare 127 = .ok (.iconst 1, 1) := by decide +kernel
theorem dX10_spare_128 : decode cX10_spare 128 = .ok (.goto 4, 3) := by decide +kernel
theorem dX10_spare_131 : decode cX10_spare 131 = .ok (.iconst 0, 1) := by decide +kernel
theorem dX10_spare_132 : decode cX10_spare 132 = .ok (.invokestatic 159, 3) := by decide +kernel
theorem dX10_spare_135 : decode cX10_spare 135 = .ok (.ireturn, 1) := by decide +kernel
set_option maxRecDepth 20000 in
theorem ggX10_base_X8_square : GoodIn wsX10_base wsX8_square := goodIn_r _ [9, 10, 120, 121] (by decide +kernel) (by decide +kernel)
set_option maxRecDepth 20000 in
theorem gX10_base_X8_square : GoodIn wsX10_base (wsV RX10 213 RX8 yX8_square wsX8_square) := goodIn_app (goodIn_of _ (by decide +kernel)) ggX10_base_X8_square
set_option maxRecDepth 20000 in
theorem ggX10_base_X0_draw : GoodIn wsX10_base wsX0_draw := goodIn_r _ [15, 16, 17, 18, 19, 20, 21, 14, 22, 23, 24, 25, 26, 27, 28, 8, 29, 30, 6, 7, 9, 10, 31, 32, 33, 34, 35, 36, 37, 38, 39, 40, 41, 42, 43, 44, 45, 46, 47, 48, 49, 50, 51, 52, 53, 54, 55, 56, 57, 58, 59, 60, 61, 62, 63, 64, 65, 66, 67, 68, 69, 70, 71, 72, 73, 74, 75, 76, 77, 78, 79, 80, 81, 82, 83, 84, 85, 86, 87, 88, 89, 90, 91, 92, 93, 94, 95, 122, 123, 124, 125, 126, 127, 128, 129, 120, 121, 130, 131, 132] (by decide +kernel) (by decide +kernel)
set_option maxRecDepth 20000 in
theorem gX10_base_X0_draw : GoodIn wsX10_base (wsV RX10 263 RX0 yX0_draw wsX0_draw) := goodIn_app (goodIn_of _ (by decide +kernel)) ggX10_base_X0_draw
set_option maxRecDepth 20000 in
theorem ggX10_base_J6_bitCount_0f7a4 : GoodIn wsX10_base wsJ6_bitCount_0f7a4 := goodIn_r _ [99, 100, 101, 102] (by decide +kernel) (by decide +kernel)
set_option maxRecDepth 20000 in
theorem gX10_base_J6_bitCount_0f7a4 : GoodIn wsX10_base (va_wsS RX10 192 yJ6_bitCount_0f7a4 wsJ6_bitCount_0f7a4) := goodIn_app (goodIn_of _ (by decide +kernel)) ggX10_base_J6_bitCount_0f7a4
set_option maxRecDepth 20000 in
theorem ggX10_base_X0_ways : GoodIn wsX10_base wsX0_ways := goodIn_r _ [106, 18, 83, 122, 123, 124, 125, 126, 127, 128, 129] (by decide +kernel) (by decide +kernel)
set_option maxRecDepth 20000 in
theorem gX10_base_X0_ways : GoodIn wsX10_base (wsV RX10 266 RX0 yX0_ways wsX0_ways) := goodIn_app (goodIn_of _ (by decide +kernel)) ggX10_base_X0_ways
set_option maxRecDepth 20000 in
theorem ggX10_base_X10_pairOf : GoodIn wsX10_base wsX10_pairOf := goodIn_r _ [47, 48, 49, 50, 51, 52, 53, 54] (by decide +kernel) (by decide +kernel)
set_option maxRecDepth 20000 in
theorem gX10_base_X10_pairOf : GoodIn wsX10_base (va_wsS RX10 138 yX10_pairOf wsX10_pairOf) := goodIn_app (goodIn_of _ (by decide +kernel)) ggX10_base_X10_pairOf
theorem dX10_base_0 : decode cX10_base 0 = .ok (.bipush (-4), 2) := by decide +kernel
theorem dX10_base_2 : decode cX10_base 2 = .ok (.istore_n 1, 1) := by decide +kernel
theorem dX10_base_3 : decode cX10_base 3 = .ok (.iconst 0, 1) := by decide +kernel
theorem dX10_base_4 : decode cX10_base 4 = .ok (.istore_n 2, 1) := by decide +kernel
theorem dX10_base_5 : decode cX10_base 5 = .ok (.iconst 0, 1) := by decide +kernel
theorem dX10_base_6 : decode cX10_base 6 = .ok (.istore_n 3, 1) := by decide +kernel
theorem dX10_base_7 : decode cX10_base 7 = .ok (.iconst 1, 1) := by decide +kernel
theorem dX10_base_8 : decode cX10_base 8 = .ok (.istore 4, 2) := by decide +kernel
theorem dX10_base_10 : decode cX10_base 10 = .ok (.iload 4, 2) := by decide +kernel
theorem dX10_base_12 : decode cX10_base 12 = .ok (.aload_n 0, 1) := by decide +kernel
theorem dX10_base_13 : decode cX10_base 13 = .ok (.getfield 28, 3) := by decide +kernel
theorem dX10_base_16 : decode cX10_base 16 = .ok (.getfield 245, 3) := by decide +kernel
theorem dX10_base_19 : decode cX10_base 19 = .ok (.if_icmp .ge 130, 3) := by decide +kernel
theorem dX10_base_22 : decode cX10_base 22 = .ok (.iconst 0, 1) := by decide +kernel
theorem dX10_base_23 : decode cX10_base 23 = .ok (.istore 5, 2) := by decide +kernel
theorem dX10_base_25 : decode cX10_base 25 = .ok (.iload 5, 2) := by decide +kernel
theorem dX10_base_27 : decode cX10_base 27 = .ok (.iload 4, 2) := by decide +kernel
theorem dX10_base_29 : decode cX10_base 29 = .ok (.if_icmp .ge 114, 3) := by decide +kernel
theorem dX10_base_32 : decode cX10_base 32 = .ok (.aload_n 0, 1) := by decide +kernel
theorem dX10_base_33 : decode cX10_base 33 = .ok (.getfield 28, 3) := by decide +kernel
theorem dX10_base_36 : decode cX10_base 36 = .ok (.iload 5, 2) := by decide +kernel
theorem dX10_base_38 : decode cX10_base 38 = .ok (.iload 4, 2) := by decide +kernel
theorem dX10_base_40 : decode cX10_base 40 = .ok (.invokevirtual 213, 3) := by decide +kernel
theorem dX10_base_43 : decode cX10_base 43 = .ok (.ifCond .ne 6, 3) := by decide +kernel
theorem dX10_base_46 : decode cX10_base 46 = .ok (.goto 91, 3) := by decide +kernel
theorem dX10_base_49 : decode cX10_base 49 = .ok (.aload_n 0, 1) := by decide +kernel
theorem dX10_base_50 : decode cX10_base 50 = .ok (.getfield 72, 3) := by decide +kernel
theorem dX10_base_53 : decode cX10_base 53 = .ok (.iload 5, 2) := by decide +kernel
theorem dX10_base_55 : decode cX10_base 55 = .ok (.iload 4, 2) := by decide +kernel
theorem dX10_base_57 : decode cX10_base 57 = .ok (.iconst (-1), 1) := by decide +kernel
theorem dX10_base_58 : decode cX10_base 58 = .ok (.invokevirtual 263, 3) := by decide +kernel
theorem dX10_base_61 : decode cX10_base 61 = .ok (.aload_n 0, 1) := by decide +kernel
theorem dX10_base_62 : decode cX10_base 62 = .ok (.getfield 72, 3) := by decide +kernel
theorem dX10_base_65 : decode cX10_base 65 = .ok (.getfield 269, 3) := by decide +kernel
theorem dX10_base_68 : decode cX10_base 68 = .ok (.invokestatic 192, 3) := by decide +kernel
theorem dX10_base_71 : decode cX10_base 71 = .ok (.istore 6, 2) := by decide +kernel
theorem dX10_base_73 : decode cX10_base 73 = .ok (.aload_n 0, 1) := by decide +kernel
theorem dX10_base_74 : decode cX10_base 74 = .ok (.getfield 72, 3) := by decide +kernel
theorem dX10_base_77 : decode cX10_base 77 = .ok (.invokevirtual 266, 3) := by decide +kernel
theorem dX10_base_80 : decode cX10_base 80 = .ok (.istore 7, 2) := by decide +kernel
theorem dX10_base_82 : decode cX10_base 82 = .ok (.iload_n 1, 1) := by decide +kernel
theorem dX10_base_83 : decode cX10_base 83 = .ok (.bipush (-4), 2) := by decide +kernel
theorem dX10_base_85 : decode cX10_base 85 = .ok (.if_icmp .eq 21, 3) := by decide +kernel
theorem dX10_base_88 : decode cX10_base 88 = .ok (.iload 6, 2) := by decide +kernel
theorem dX10_base_90 : decode cX10_base 90 = .ok (.iload_n 2, 1) := by decide +kernel
theorem dX10_base_91 : decode cX10_base 91 = .ok (.if_icmp .gt 15, 3) := by decide +kernel
theorem dX10_base_94 : decode cX10_base 94 = .ok (.iload 6, 2) := by decide +kernel
theorem dX10_base_96 : decode cX10_base 96 = .ok (.iload_n 2, 1) := by decide +kernel
theorem dX10_base_97 : decode cX10_base 97 = .ok (.if_icmp .ne 13, 3) := by decide +kernel
theorem dX10_base_100 : decode cX10_base 100 = .ok (.iload 7, 2) := by decide +kernel
theorem dX10_base_102 : decode cX10_base 102 = .ok (.iload_n 3, 1) := by decide +kernel
theorem dX10_base_103 : decode cX10_base 103 = .ok (.if_icmp .ge 7, 3) := by decide +kernel
theorem dX10_base_106 : decode cX10_base 106 = .ok (.iconst 1, 1) := by decide +kernel
theorem dX10_base_107 : decode cX10_base 107 = .ok (.goto 4, 3) := by decide +kernel
theorem dX10_base_110 : decode cX10_base 110 = .ok (.iconst 0, 1) := by decide +kernel
theorem dX10_base_111 : decode cX10_base 111 = .ok (.istore 8, 2) := by decide +kernel
theorem dX10_base_113 : decode cX10_base 113 = .ok (.iload 7, 2) := by decide +kernel
theorem dX10_base_115 : decode cX10_base 115 = .ok (.ifCond .le 22, 3) := by decide +kernel
theorem dX10_base_118 : decode cX10_base 118 = .ok (.iload 8, 2) := by decide +kernel
theorem dX10_base_120 : decode cX10_base 120 = .ok (.ifCond .eq 17, 3) := by decide +kernel
theorem dX10_base_123 : decode cX10_base 123 = .ok (.iload 5, 2) := by decide +kernel
theorem dX10_base_125 : decode cX10_base 125 = .ok (.iload 4, 2) := by decide +kernel
theorem dX10_base_127 : decode cX10_base 127 = .ok (.invokestatic 138, 3) := by decide +kernel
theorem dX10_base_130 : decode cX10_base 130 = .ok (.istore_n 1, 1) := by decide +kernel
theorem dX10_base_131 : decode cX10_base 131 = .ok (.iload 6, 2) := by decide +kernel
theorem dX10_base_133 : decode cX10_base 133 = .ok (.istore_n 2, 1) := by decide +kernel
theorem dX10_base_134 : decode cX10_base 134 = .ok (.iload 7, 2) := by decide +kernel
theorem dX10_base_136 : decode cX10_base 136 = .ok (.istore_n 3, 1) := by decide +kernel
theorem dX10_base_137 : decode cX10_base 137 = .ok (.iinc 5 1, 3) := by decide +kernel
theorem dX10_base_140 : decode cX10_base 140 = .ok (.goto (-115), 3) := by decide +kernel
theorem dX10_base_143 : decode cX10_base 143 = .ok (.iinc 4 1, 3) := by decide +kernel
theorem dX10_base_146 : decode cX10_base 146 = .ok (.goto (-136), 3) := by decide +kernel
theorem dX10_base_149 : decode cX10_base 149 = .ok (.iload_n 1, 1) := by decide +kernel
theorem dX10_base_150 : decode cX10_base 150 = .ok (.ireturn, 1) := by decide +kernel
set_option maxRecDepth 20000 in
theorem ggX10_tells_X8_isPlace : GoodIn wsX10_tells wsX8_isPlace := goodIn_r _ [7, 8, 41, 42] (by decide +kernel) (by decide +kernel)
set_option maxRecDepth 20000 in
theorem gX10_tells_X8_isPlace : GoodIn wsX10_tells (wsV RX10 260 RX8 yX8_isPlace wsX8_isPlace) := goodIn_app (goodIn_of _ (by decide +kernel)) ggX10_tells_X8_isPlace
set_option maxRecDepth 20000 in
theorem ggX10_tells_X10_hasBit : GoodIn wsX10_tells wsX10_hasBit := goodIn_r _ [12] (by decide +kernel) (by decide +kernel)
set_option maxRecDepth 20000 in
theorem gX10_tells_X10_hasBit : GoodIn wsX10_tells (va_wsS RX10 284 yX10_hasBit wsX10_hasBit) := goodIn_app (goodIn_of _ (by decide +kernel)) ggX10_tells_X10_hasBit
set_option maxRecDepth 20000 in
theorem ggX10_tells_X8_isToldBy : GoodIn wsX10_tells wsX8_isToldBy := goodIn_r _ [16, 8, 10, 11, 12, 17, 18, 19, 6, 20, 21, 22, 23, 24, 25, 41, 42] (by decide +kernel) (by decide +kernel)
set_option maxRecDepth 20000 in
theorem gX10_tells_X8_isToldBy : GoodIn wsX10_tells (wsV RX10 287 RX8 yX8_isToldBy wsX8_isToldBy) := goodIn_app (goodIn_of _ (by decide +kernel)) ggX10_tells_X8_isToldBy
set_option maxRecDepth 20000 in
theorem ggX10_tells_X10_bit : GoodIn wsX10_tells wsX10_bit := goodIn_r _ [28] (by decide +kernel) (by decide +kernel)
set_option maxRecDepth 20000 in
theorem gX10_tells_X10_bit : GoodIn wsX10_tells (va_wsS RX10 159 yX10_bit wsX10_bit) := goodIn_app (goodIn_of _ (by decide +kernel)) ggX10_tells_X10_bit
theorem dX10_tells_0 : decode cX10_tells 0 = .ok (.aload_n 0, 1) := by decide +kernel
theorem dX10_tells_1 : decode cX10_tells 1 = .ok (.getfield 28, 3) := by decide +kernel
theorem dX10_tells_4 : decode cX10_tells 4 = .ok (.iload_n 1, 1) := by decide +kernel
theorem dX10_tells_5 : decode cX10_tells 5 = .ok (.invokevirtual 260, 3) := by decide +kernel
theorem dX10_tells_8 : decode cX10_tells 8 = .ok (.ifCond .eq 28, 3) := by decide +kernel
theorem dX10_tells_11 : decode cX10_tells 11 = .ok (.iload_n 2, 1) := by decide +kernel
theorem dX10_tells_12 : decode cX10_tells 12 = .ok (.ifCond .le 24, 3) := by decide +kernel
theorem dX10_tells_15 : decode cX10_tells 15 = .ok (.iload_n 2, 1) := by decide +kernel
theorem dX10_tells_16 : decode cX10_tells 16 = .ok (.iconst 1, 1) := by decide +kernel
theorem dX10_tells_17 : decode cX10_tells 17 = .ok (.aload_n 0, 1) := by decide +kernel
theorem dX10_tells_18 : decode cX10_tells 18 = .ok (.getfield 28, 3) := by decide +kernel
theorem dX10_tells_21 : decode cX10_tells 21 = .ok (.getfield 245, 3) := by decide +kernel
theorem dX10_tells_24 : decode cX10_tells 24 = .ok (.ishl, 1) := by decide +kernel
theorem dX10_tells_25 : decode cX10_tells 25 = .ok (.if_icmp .ge 11, 3) := by decide +kernel
theorem dX10_tells_28 : decode cX10_tells 28 = .ok (.iload_n 2, 1) := by decide +kernel
theorem dX10_tells_29 : decode cX10_tells 29 = .ok (.iload_n 1, 1) := by decide +kernel
theorem dX10_tells_30 : decode cX10_tells 30 = .ok (.invokestatic 284, 3) := by decide +kernel
theorem dX10_tells_33 : decode cX10_tells 33 = .ok (.ifCond .eq 5, 3) := by decide +kernel
theorem dX10_tells_36 : decode cX10_tells 36 = .ok (.iconst (-1), 1) := by decide +kernel
theorem dX10_tells_37 : decode cX10_tells 37 = .ok (.ireturn, 1) := by decide +kernel
theorem dX10_tells_38 : decode cX10_tells 38 = .ok (.aload_n 0, 1) := by decide +kernel
theorem dX10_tells_39 : decode cX10_tells 39 = .ok (.getfield 28, 3) := by decide +kernel
theorem dX10_tells_42 : decode cX10_tells 42 = .ok (.iload_n 1, 1) := by decide +kernel
theorem dX10_tells_43 : decode cX10_tells 43 = .ok (.iload_n 2, 1) := by decide +kernel
theorem dX10_tells_44 : decode cX10_tells 44 = .ok (.invokevirtual 287, 3) := by decide +kernel
theorem dX10_tells_47 : decode cX10_tells 47 = .ok (.invokestatic 159, 3) := by decide +kernel
theorem dX10_tells_50 : decode cX10_tells 50 = .ok (.ireturn, 1) := by decide +kernel
set_option maxRecDepth 20000 in
theorem ggX10_words_X8_isPlace : GoodIn wsX10_words wsX8_isPlace := goodIn_r _ [7, 8, 45, 46] (by decide +kernel) (by decide +kernel)
set_option maxRecDepth 20000 in
theorem gX10_words_X8_isPlace : GoodIn wsX10_words (wsV RX10 260 RX8 yX8_isPlace wsX8_isPlace) := goodIn_app (goodIn_of _ (by decide +kernel)) ggX10_words_X8_isPlace
set_option maxRecDepth 20000 in
theorem ggX10_words_J6_bitCount_0f7a4 : GoodIn wsX10_words wsJ6_bitCount_0f7a4 := goodIn_r _ [12, 13, 14, 15] (by decide +kernel) (by decide +kernel)
set_option maxRecDepth 20000 in
theorem gX10_words_J6_bitCount_0f7a4 : GoodIn wsX10_words (va_wsS RX10 192 yJ6_bitCount_0f7a4 wsJ6_bitCount_0f7a4) := goodIn_app (goodIn_of _ (by decide +kernel)) ggX10_words_J6_bitCount_0f7a4
set_option maxRecDepth 20000 in
theorem ggX10_words_X10_hasBit : GoodIn wsX10_words wsX10_hasBit := goodIn_r _ [19] (by decide +kernel) (by decide +kernel)
set_option maxRecDepth 20000 in
theorem gX10_words_X10_hasBit : GoodIn wsX10_words (va_wsS RX10 284 yX10_hasBit wsX10_hasBit) := goodIn_app (goodIn_of _ (by decide +kernel)) ggX10_words_X10_hasBit
set_option maxRecDepth 20000 in
theorem ggX10_words_X8_isToldBy : GoodIn wsX10_words wsX8_isToldBy := goodIn_r _ [23, 8, 17, 18, 19, 24, 25, 26, 6, 27, 28, 29, 30, 31, 32, 45, 46] (by decide +kernel) (by decide +kernel)
set_option maxRecDepth 20000 in
theorem gX10_words_X8_isToldBy : GoodIn wsX10_words (wsV RX10 287 RX8 yX8_isToldBy wsX8_isToldBy) := goodIn_app (goodIn_of _ (by decide +kernel)) ggX10_words_X8_isToldBy
theorem dX10_words_0 : decode cX10_words 0 = .ok (.aload_n 0, 1) := by decide +kernel
theorem dX10_words_1 : decode cX10_words 1 = .ok (.getfield 28, 3) := by decide +kernel
theorem dX10_words_4 : decode cX10_words 4 = .ok (.iload_n 1, 1) := by decide +kernel
theorem dX10_words_5 : decode cX10_words 5 = .ok (.invokevirtual 260, 3) := by decide +kernel
theorem dX10_words_8 : decode cX10_words 8 = .ok (.ifCond .eq 12, 3) := by decide +kernel
theorem dX10_words_11 : decode cX10_words 11 = .ok (.iload_n 2, 1) := by decide +kernel
theorem dX10_words_12 : decode cX10_words 12 = .ok (.ifCond .lt 8, 3) := by decide +kernel
theorem dX10_words_15 : decode cX10_words 15 = .ok (.iload_n 2, 1) := by decide +kernel
theorem dX10_words_16 : decode cX10_words 16 = .ok (.iconst 1, 1) := by decide +kernel
theorem dX10_words_17 : decode cX10_words 17 = .ok (.if_icmp .le 5, 3) := by decide +kernel
theorem dX10_words_20 : decode cX10_words 20 = .ok (.iconst (-1), 1) := by decide +kernel
theorem dX10_words_21 : decode cX10_words 21 = .ok (.ireturn, 1) := by decide +kernel
theorem dX10_words_22 : decode cX10_words 22 = .ok (.iconst 0, 1) := by decide +kernel
theorem dX10_words_23 : decode cX10_words 23 = .ok (.istore_n 3, 1) := by decide +kernel
theorem dX10_words_24 : decode cX10_words 24 = .ok (.iconst 1, 1) := by decide +kernel
theorem dX10_words_25 : decode cX10_words 25 = .ok (.istore 4, 2) := by decide +kernel
theorem dX10_words_27 : decode cX10_words 27 = .ok (.iload 4, 2) := by decide +kernel
theorem dX10_words_29 : decode cX10_words 29 = .ok (.iconst 1, 1) := by decide +kernel
theorem dX10_words_30 : decode cX10_words 30 = .ok (.aload_n 0, 1) := by decide +kernel
theorem dX10_words_31 : decode cX10_words 31 = .ok (.getfield 28, 3) := by decide +kernel
theorem dX10_words_34 : decode cX10_words 34 = .ok (.getfield 245, 3) := by decide +kernel
theorem dX10_words_37 : decode cX10_words 37 = .ok (.ishl, 1) := by decide +kernel
theorem dX10_words_38 : decode cX10_words 38 = .ok (.if_icmp .ge 62, 3) := by decide +kernel
theorem dX10_words_41 : decode cX10_words 41 = .ok (.iload_n 3, 1) := by decide +kernel
theorem dX10_words_42 : decode cX10_words 42 = .ok (.ifCond .eq 15, 3) := by decide +kernel
theorem dX10_words_45 : decode cX10_words 45 = .ok (.iload 4, 2) := by decide +kernel
theorem dX10_words_47 : decode cX10_words 47 = .ok (.invokestatic 192, 3) := by decide +kernel
theorem dX10_words_50 : decode cX10_words 50 = .ok (.iload_n 3, 1) := by decide +kernel
theorem dX10_words_51 : decode cX10_words 51 = .ok (.invokestatic 192, 3) := by decide +kernel
theorem dX10_words_54 : decode cX10_words 54 = .ok (.if_icmp .ge 7, 3) := by decide +kernel
theorem dX10_words_57 : decode cX10_words 57 = .ok (.iconst 1, 1) := by decide +kernel
theorem dX10_words_58 : decode cX10_words 58 = .ok (.goto 4, 3) := by decide +kernel
theorem dX10_words_61 : decode cX10_words 61 = .ok (.iconst 0, 1) := by decide +kernel
theorem dX10_words_62 : decode cX10_words 62 = .ok (.istore 5, 2) := by decide +kernel
theorem dX10_words_64 : decode cX10_words 64 = .ok (.iload 5, 2) := by decide +kernel
theorem dX10_words_66 : decode cX10_words 66 = .ok (.ifCond .eq 28, 3) := by decide +kernel
theorem dX10_words_69 : decode cX10_words 69 = .ok (.iload 4, 2) := by decide +kernel
theorem dX10_words_71 : decode cX10_words 71 = .ok (.iload_n 1, 1) := by decide +kernel
theorem dX10_words_72 : decode cX10_words 72 = .ok (.invokestatic 284, 3) := by decide +kernel
theorem dX10_words_75 : decode cX10_words 75 = .ok (.ifCond .ne 19, 3) := by decide +kernel
theorem dX10_words_78 : decode cX10_words 78 = .ok (.aload_n 0, 1) := by decide +kernel
theorem dX10_words_79 : decode cX10_words 79 = .ok (.getfield 28, 3) := by decide +kernel
theorem dX10_words_82 : decode cX10_words 82 = .ok (.iload_n 1, 1) := by decide +kernel
theorem dX10_words_83 : decode cX10_words 83 = .ok (.iload 4, 2) := by decide +kernel
theorem dX10_words_85 : decode cX10_words 85 = .ok (.invokevirtual 287, 3) := by decide +kernel
theorem dX10_words_88 : decode cX10_words 88 = .ok (.ifCond .eq 6, 3) := by decide +kernel
theorem dX10_words_91 : decode cX10_words 91 = .ok (.iload 4, 2) := by decide +kernel
theorem dX10_words_93 : decode cX10_words 93 = .ok (.istore_n 3, 1) := by decide +kernel
theorem dX10_words_94 : decode cX10_words 94 = .ok (.iinc 4 1, 3) := by decide +kernel
theorem dX10_words_97 : decode cX10_words 97 = .ok (.goto (-70), 3) := by decide +kernel
theorem dX10_words_100 : decode cX10_words 100 = .ok (.iload_n 3, 1) := by decide +kernel
theorem dX10_words_101 : decode cX10_words 101 = .ok (.ifCond .ne 6, 3) := by decide +kernel
theorem dX10_words_104 : decode cX10_words 104 = .ok (.bipush (-4), 2) := by decide +kernel
theorem dX10_words_106 : decode cX10_words 106 = .ok (.ireturn, 1) := by decide +kernel
theorem dX10_words_107 : decode cX10_words 107 = .ok (.iload_n 2, 1) := by decide +kernel
theorem dX10_words_108 : decode cX10_words 108 = .ok (.ifCond .ne 10, 3) := by decide +kernel
theorem dX10_words_111 : decode cX10_words 111 = .ok (.iload_n 3, 1) := by decide +kernel
theorem dX10_words_112 : decode cX10_words 112 = .ok (.invokestatic 192, 3) := by decide +kernel
theorem dX10_words_115 : decode cX10_words 115 = .ok (.goto 4, 3) := by decide +kernel
theorem dX10_words_118 : decode cX10_words 118 = .ok (.iload_n 3, 1) := by decide +kernel
theorem dX10_words_119 : decode cX10_words 119 = .ok (.ireturn, 1) := by decide +kernel
set_option maxRecDepth 20000 in
theorem ggX10_at_X8_areTwo : GoodIn wsX10_at wsX8_areTwo := goodIn_r _ [7, 8, 9, 10, 6, 11, 12, 34, 35] (by decide +kernel) (by decide +kernel)
set_option maxRecDepth 20000 in
theorem gX10_at_X8_areTwo : GoodIn wsX10_at (wsV RX10 122 RX8 yX8_areTwo wsX8_areTwo) := goodIn_app (goodIn_of _ (by decide +kernel)) ggX10_at_X8_areTwo
set_option maxRecDepth 20000 in
theorem ggX10_at_X10_isSquare : GoodIn wsX10_at wsX10_isSquare := goodIn_r _ [16] (by decide +kernel) (by decide +kernel)
set_option maxRecDepth 20000 in
theorem gX10_at_X10_isSquare : GoodIn wsX10_at (va_wsS RX10 130 yX10_isSquare wsX10_isSquare) := goodIn_app (goodIn_of _ (by decide +kernel)) ggX10_at_X10_isSquare
set_option maxRecDepth 20000 in
theorem ggX10_at_X8_square : GoodIn wsX10_at wsX8_square := goodIn_r _ [20, 21, 34, 35] (by decide +kernel) (by decide +kernel)
set_option maxRecDepth 20000 in
theorem gX10_at_X8_square : GoodIn wsX10_at (wsV RX10 213 RX8 yX8_square wsX8_square) := goodIn_app (goodIn_of _ (by decide +kernel)) ggX10_at_X8_square
theorem dX10_at_0 : decode cX10_at 0 = .ok (.aload_n 0, 1) := by decide +kernel
theorem dX10_at_1 : decode cX10_at 1 = .ok (.getfield 28, 3) := by decide +kernel
theorem dX10_at_4 : decode cX10_at 4 = .ok (.iload_n 1, 1) := by decide +kernel
theorem dX10_at_5 : decode cX10_at 5 = .ok (.iload_n 3, 1) := by decide +kernel
theorem dX10_at_6 : decode cX10_at 6 = .ok (.invokevirtual 122, 3) := by decide +kernel
theorem dX10_at_9 : decode cX10_at 9 = .ok (.ifCond .eq 18, 3) := by decide +kernel
theorem dX10_at_12 : decode cX10_at 12 = .ok (.iload_n 2, 1) := by decide +kernel
theorem dX10_at_13 : decode cX10_at 13 = .ok (.invokestatic 130, 3) := by decide +kernel
theorem dX10_at_16 : decode cX10_at 16 = .ok (.ifCond .eq 11, 3) := by decide +kernel
theorem dX10_at_19 : decode cX10_at 19 = .ok (.iload 4, 2) := by decide +kernel
theorem dX10_at_21 : decode cX10_at 21 = .ok (.invokestatic 130, 3) := by decide +kernel
theorem dX10_at_24 : decode cX10_at 24 = .ok (.ifCond .ne 5, 3) := by decide +kernel
theorem dX10_at_27 : decode cX10_at 27 = .ok (.iconst (-1), 1) := by decide +kernel
theorem dX10_at_28 : decode cX10_at 28 = .ok (.ireturn, 1) := by decide +kernel
theorem dX10_at_29 : decode cX10_at 29 = .ok (.iconst 0, 1) := by decide +kernel
theorem dX10_at_30 : decode cX10_at 30 = .ok (.istore 5, 2) := by decide +kernel
theorem dX10_at_32 : decode cX10_at 32 = .ok (.iconst 0, 1) := by decide +kernel
theorem dX10_at_33 : decode cX10_at 33 = .ok (.istore 6, 2) := by decide +kernel
theorem dX10_at_35 : decode cX10_at 35 = .ok (.iload 6, 2) := by decide +kernel
theorem dX10_at_37 : decode cX10_at 37 = .ok (.aload_n 0, 1) := by decide +kernel
theorem dX10_at_38 : decode cX10_at 38 = .ok (.getfield 28, 3) := by decide +kernel
theorem dX10_at_41 : decode cX10_at 41 = .ok (.getfield 245, 3) := by decide +kernel
theorem dX10_at_44 : decode cX10_at 44 = .ok (.if_icmp .ge 47, 3) := by decide +kernel
theorem dX10_at_47 : decode cX10_at 47 = .ok (.aload_n 0, 1) := by decide +kernel
theorem dX10_at_48 : decode cX10_at 48 = .ok (.getfield 28, 3) := by decide +kernel
theorem dX10_at_51 : decode cX10_at 51 = .ok (.iload_n 1, 1) := by decide +kernel
theorem dX10_at_52 : decode cX10_at 52 = .ok (.iload 6, 2) := by decide +kernel
theorem dX10_at_54 : decode cX10_at 54 = .ok (.invokevirtual 213, 3) := by decide +kernel
theorem dX10_at_57 : decode cX10_at 57 = .ok (.iload_n 2, 1) := by decide +kernel
theorem dX10_at_58 : decode cX10_at 58 = .ok (.if_icmp .ne 27, 3) := by decide +kernel
theorem dX10_at_61 : decode cX10_at 61 = .ok (.aload_n 0, 1) := by decide +kernel
theorem dX10_at_62 : decode cX10_at 62 = .ok (.getfield 28, 3) := by decide +kernel
theorem dX10_at_65 : decode cX10_at 65 = .ok (.iload_n 3, 1) := by decide +kernel
theorem dX10_at_66 : decode cX10_at 66 = .ok (.iload 6, 2) := by decide +kernel
theorem dX10_at_68 : decode cX10_at 68 = .ok (.invokevirtual 213, 3) := by decide +kernel
theorem dX10_at_71 : decode cX10_at 71 = .ok (.iload 4, 2) := by decide +kernel
theorem dX10_at_73 : decode cX10_at 73 = .ok (.if_icmp .ne 12, 3) := by decide +kernel
theorem dX10_at_76 : decode cX10_at 76 = .ok (.iload 5, 2) := by decide +kernel
theorem dX10_at_78 : decode cX10_at 78 = .ok (.iconst 1, 1) := by decide +kernel
theorem dX10_at_79 : decode cX10_at 79 = .ok (.iload 6, 2) := by decide +kernel
theorem dX10_at_81 : decode cX10_at 81 = .ok (.ishl, 1) := by decide +kernel
theorem dX10_at_82 : decode cX10_at 82 = .ok (.ior, 1) := by decide +kernel
theorem dX10_at_83 : decode cX10_at 83 = .ok (.istore 5, 2) := by decide +kernel
theorem dX10_at_85 : decode cX10_at 85 = .ok (.iinc 6 1, 3) := by decide +kernel
theorem dX10_at_88 : decode cX10_at 88 = .ok (.goto (-53), 3) := by decide +kernel
theorem dX10_at_91 : decode cX10_at 91 = .ok (.iload 5, 2) := by decide +kernel
theorem dX10_at_93 : decode cX10_at 93 = .ok (.ireturn, 1) := by decide +kernel
set_option maxRecDepth 20000 in
theorem ggX10_spots_X8_areTwo : GoodIn wsX10_spots wsX8_areTwo := goodIn_r _ [6, 7, 8, 9, 5, 10, 11, 41, 42] (by decide +kernel) (by decide +kernel)
set_option maxRecDepth 20000 in
theorem gX10_spots_X8_areTwo : GoodIn wsX10_spots (wsV RX10 122 RX8 yX8_areTwo wsX8_areTwo) := goodIn_app (goodIn_of _ (by decide +kernel)) ggX10_spots_X8_areTwo
set_option maxRecDepth 20000 in
theorem ggX10_spots_X10_isSquare : GoodIn wsX10_spots wsX10_isSquare := goodIn_r _ [15] (by decide +kernel) (by decide +kernel)
set_option maxRecDepth 20000 in
theorem gX10_spots_X10_isSquare : GoodIn wsX10_spots (va_wsS RX10 130 yX10_isSquare wsX10_isSquare) := goodIn_app (goodIn_of _ (by decide +kernel)) ggX10_spots_X10_isSquare
set_option maxRecDepth 20000 in
theorem ggX10_spots_X8_square : GoodIn wsX10_spots wsX8_square := goodIn_r _ [19, 20, 41, 42] (by decide +kernel) (by decide +kernel)
set_option maxRecDepth 20000 in
theorem gX10_spots_X8_square : GoodIn wsX10_spots (wsV RX10 213 RX8 yX8_square wsX8_square) := goodIn_app (goodIn_of _ (by decide +kernel)) ggX10_spots_X8_square
set_option maxRecDepth 20000 in
theorem ggX10_spots_X10_wideOfSquares : GoodIn wsX10_spots wsX10_wideOfSquares := goodIn_r _ [23, 24] (by decide +kernel) (by decide +kernel)
set_option maxRecDepth 20000 in
theorem gX10_spots_X10_wideOfSquares : GoodIn wsX10_spots (va_wsS RX10 290 yX10_wideOfSquares wsX10_wideOfSquares) := goodIn_app (goodIn_of _ (by decide +kernel)) ggX10_spots_X10_wideOfSquares
set_option maxRecDepth 20000 in
theorem ggX10_spots_J13_signum_95d88 : GoodIn wsX10_spots wsJ13_signum_95d88 := goodIn_r _ [28] (by decide +kernel) (by decide +kernel)
set_option maxRecDepth 20000 in
theorem gX10_spots_J13_signum_95d88 : GoodIn wsX10_spots (va_wsS RX10 294 yJ13_signum_95d88 wsJ13_signum_95d88) := goodIn_app (goodIn_of _ (by decide +kernel)) ggX10_spots_J13_signum_95d88
theorem dX10_spots_0 : decode cX10_spots 0 = .ok (.aload_n 0, 1) := by decide +kernel
theorem dX10_spots_1 : decode cX10_spots 1 = .ok (.getfield 28, 3) := by decide +kernel
theorem dX10_spots_4 : decode cX10_spots 4 = .ok (.iload_n 1, 1) := by decide +kernel
theorem dX10_spots_5 : decode cX10_spots 5 = .ok (.iload_n 3, 1) := by decide +kernel
theorem dX10_spots_6 : decode cX10_spots 6 = .ok (.invokevirtual 122, 3) := by decide +kernel
theorem dX10_spots_9 : decode cX10_spots 9 = .ok (.ifCond .eq 18, 3) := by decide +kernel
theorem dX10_spots_12 : decode cX10_spots 12 = .ok (.iload_n 2, 1) := by decide +kernel
theorem dX10_spots_13 : decode cX10_spots 13 = .ok (.invokestatic 130, 3) := by decide +kernel
theorem dX10_spots_16 : decode cX10_spots 16 = .ok (.ifCond .eq 11, 3) := by decide +kernel
theorem dX10_spots_19 : decode cX10_spots 19 = .ok (.iload 4, 2) := by decide +kernel
theorem dX10_spots_21 : decode cX10_spots 21 = .ok (.invokestatic 130, 3) := by decide +kernel
theorem dX10_spots_24 : decode cX10_spots 24 = .ok (.ifCond .ne 5, 3) := by decide +kernel
theorem dX10_spots_27 : decode cX10_spots 27 = .ok (.iconst (-1), 1) := by decide +kernel
theorem dX10_spots_28 : decode cX10_spots 28 = .ok (.ireturn, 1) := by decide +kernel
theorem dX10_spots_29 : decode cX10_spots 29 = .ok (.aload_n 0, 1) := by decide +kernel
theorem dX10_spots_30 : decode cX10_spots 30 = .ok (.getfield 28, 3) := by decide +kernel
theorem dX10_spots_33 : decode cX10_spots 33 = .ok (.iload_n 1, 1) := by decide +kernel
theorem dX10_spots_34 : decode cX10_spots 34 = .ok (.iload_n 3, 1) := by decide +kernel
theorem dX10_spots_35 : decode cX10_spots 35 = .ok (.invokevirtual 213, 3) := by decide +kernel
theorem dX10_spots_38 : decode cX10_spots 38 = .ok (.ifCond .ne 6, 3) := by decide +kernel
theorem dX10_spots_41 : decode cX10_spots 41 = .ok (.bipush (-2), 2) := by decide +kernel
theorem dX10_spots_43 : decode cX10_spots 43 = .ok (.ireturn, 1) := by decide +kernel
theorem dX10_spots_44 : decode cX10_spots 44 = .ok (.aload_n 0, 1) := by decide +kernel
theorem dX10_spots_45 : decode cX10_spots 45 = .ok (.getfield 28, 3) := by decide +kernel
theorem dX10_spots_48 : decode cX10_spots 48 = .ok (.iload_n 1, 1) := by decide +kernel
theorem dX10_spots_49 : decode cX10_spots 49 = .ok (.iload_n 3, 1) := by decide +kernel
theorem dX10_spots_50 : decode cX10_spots 50 = .ok (.invokevirtual 213, 3) := by decide +kernel
theorem dX10_spots_53 : decode cX10_spots 53 = .ok (.i2l, 1) := by decide +kernel
theorem dX10_spots_54 : decode cX10_spots 54 = .ok (.iload_n 2, 1) := by decide +kernel
theorem dX10_spots_55 : decode cX10_spots 55 = .ok (.i2l, 1) := by decide +kernel
theorem dX10_spots_56 : decode cX10_spots 56 = .ok (.iload 4, 2) := by decide +kernel
theorem dX10_spots_58 : decode cX10_spots 58 = .ok (.i2l, 1) := by decide +kernel
theorem dX10_spots_59 : decode cX10_spots 59 = .ok (.invokestatic 290, 3) := by decide +kernel
theorem dX10_spots_62 : decode cX10_spots 62 = .ok (.invokestatic 294, 3) := by decide +kernel
theorem dX10_spots_65 : decode cX10_spots 65 = .ok (.iconst 1, 1) := by decide +kernel
theorem dX10_spots_66 : decode cX10_spots 66 = .ok (.iadd, 1) := by decide +kernel
theorem dX10_spots_67 : decode cX10_spots 67 = .ok (.ireturn, 1) := by decide +kernel
set_option maxRecDepth 20000 in
theorem ggX10_maps_X8_isPlace : GoodIn wsX10_maps wsX8_isPlace := goodIn_r _ [11, 12, 75, 76] (by decide +kernel) (by decide +kernel)
set_option maxRecDepth 20000 in
theorem gX10_maps_X8_isPlace : GoodIn wsX10_maps (wsV RX10 260 RX8 yX8_isPlace wsX8_isPlace) := goodIn_app (goodIn_of _ (by decide +kernel)) ggX10_maps_X8_isPlace
set_option maxRecDepth 20000 in
theorem ggX10_maps_X10_isImage : GoodIn wsX10_maps wsX10_isImage := goodIn_r _ [16] (by decide +kernel) (by decide +kernel)
set_option maxRecDepth 20000 in
theorem gX10_maps_X10_isImage : GoodIn wsX10_maps (va_wsS RX10 300 yX10_isImage wsX10_isImage) := goodIn_app (goodIn_of _ (by decide +kernel)) ggX10_maps_X10_isImage
set_option maxRecDepth 20000 in
theorem ggX10_maps_X3_compare : GoodIn wsX10_maps wsX3_compare := goodIn_r _ [21, 22, 23, 24, 25, 26, 27, 28, 29, 30, 20, 31, 32, 33, 34, 35, 36, 37, 38, 15, 39, 40, 41, 42, 43, 44, 45, 46, 10, 47, 48, 68, 69, 70, 71, 72, 73, 74, 75, 76] (by decide +kernel) (by decide +kernel)
set_option maxRecDepth 20000 in
theorem gX10_maps_X3_compare : GoodIn wsX10_maps (wsV RX10 304 RX3 yX3_compare wsX3_compare) := goodIn_app (goodIn_of _ (by decide +kernel)) ggX10_maps_X3_compare
set_option maxRecDepth 20000 in
theorem ggX10_maps_X3_nameOf : GoodIn wsX10_maps wsX3_nameOf := goodIn_r _ [52, 33, 68, 69, 70, 71, 72, 73, 74] (by decide +kernel) (by decide +kernel)
set_option maxRecDepth 20000 in
theorem gX10_maps_X3_nameOf : GoodIn wsX10_maps (wsV RX10 311 RX3 yX3_nameOf wsX3_nameOf) := goodIn_app (goodIn_of _ (by decide +kernel)) ggX10_maps_X3_nameOf
theorem dX10_maps_0 : decode cX10_maps 0 = .ok (.aload_n 0, 1) := by decide +kernel
theorem dX10_maps_1 : decode cX10_maps 1 = .ok (.getfield 28, 3) := by decide +kernel
theorem dX10_maps_4 : decode cX10_maps 4 = .ok (.iload_n 2, 1) := by decide +kernel
theorem dX10_maps_5 : decode cX10_maps 5 = .ok (.bipush 10, 2) := by decide +kernel
theorem dX10_maps_7 : decode cX10_maps 7 = .ok (.isub, 1) := by decide +kernel
theorem dX10_maps_8 : decode cX10_maps 8 = .ok (.invokevirtual 260, 3) := by decide +kernel
theorem dX10_maps_11 : decode cX10_maps 11 = .ok (.istore_n 3, 1) := by decide +kernel
theorem dX10_maps_12 : decode cX10_maps 12 = .ok (.iload_n 1, 1) := by decide +kernel
theorem dX10_maps_13 : decode cX10_maps 13 = .ok (.invokestatic 300, 3) := by decide +kernel
theorem dX10_maps_16 : decode cX10_maps 16 = .ok (.ifCond .eq 11, 3) := by decide +kernel
theorem dX10_maps_19 : decode cX10_maps 19 = .ok (.iload_n 3, 1) := by decide +kernel
theorem dX10_maps_20 : decode cX10_maps 20 = .ok (.ifCond .ne 9, 3) := by decide +kernel
theorem dX10_maps_23 : decode cX10_maps 23 = .ok (.iload_n 2, 1) := by decide +kernel
theorem dX10_maps_24 : decode cX10_maps 24 = .ok (.ifCond .eq 5, 3) := by decide +kernel
theorem dX10_maps_27 : decode cX10_maps 27 = .ok (.iconst (-1), 1) := by decide +kernel
theorem dX10_maps_28 : decode cX10_maps 28 = .ok (.ireturn, 1) := by decide +kernel
theorem dX10_maps_29 : decode cX10_maps 29 = .ok (.aload_n 0, 1) := by decide +kernel
theorem dX10_maps_30 : decode cX10_maps 30 = .ok (.getfield 41, 3) := by decide +kernel
theorem dX10_maps_33 : decode cX10_maps 33 = .ok (.iload_n 1, 1) := by decide +kernel
theorem dX10_maps_34 : decode cX10_maps 34 = .ok (.aaload, 1) := by decide +kernel
theorem dX10_maps_35 : decode cX10_maps 35 = .ok (.getfield 115, 3) := by decide +kernel
theorem dX10_maps_38 : decode cX10_maps 38 = .ok (.ifCond .ne 6, 3) := by decide +kernel
theorem dX10_maps_41 : decode cX10_maps 41 = .ok (.bipush (-2), 2) := by decide +kernel
theorem dX10_maps_43 : decode cX10_maps 43 = .ok (.ireturn, 1) := by decide +kernel
theorem dX10_maps_44 : decode cX10_maps 44 = .ok (.aload_n 0, 1) := by decide +kernel
theorem dX10_maps_45 : decode cX10_maps 45 = .ok (.getfield 79, 3) := by decide +kernel
theorem dX10_maps_48 : decode cX10_maps 48 = .ok (.aload_n 0, 1) := by decide +kernel
theorem dX10_maps_49 : decode cX10_maps 49 = .ok (.getfield 41, 3) := by decide +kernel
theorem dX10_maps_52 : decode cX10_maps 52 = .ok (.iload_n 1, 1) := by decide +kernel
theorem dX10_maps_53 : decode cX10_maps 53 = .ok (.aaload, 1) := by decide +kernel
theorem dX10_maps_54 : decode cX10_maps 54 = .ok (.getfield 303, 3) := by decide +kernel
theorem dX10_maps_57 : decode cX10_maps 57 = .ok (.iload_n 3, 1) := by decide +kernel
theorem dX10_maps_58 : decode cX10_maps 58 = .ok (.invokevirtual 304, 3) := by decide +kernel
theorem dX10_maps_61 : decode cX10_maps 61 = .ok (.iload_n 3, 1) := by decide +kernel
theorem dX10_maps_62 : decode cX10_maps 62 = .ok (.ifCond .ne 11, 3) := by decide +kernel
theorem dX10_maps_65 : decode cX10_maps 65 = .ok (.aload_n 0, 1) := by decide +kernel
theorem dX10_maps_66 : decode cX10_maps 66 = .ok (.getfield 79, 3) := by decide +kernel
theorem dX10_maps_69 : decode cX10_maps 69 = .ok (.getfield 308, 3) := by decide +kernel
theorem dX10_maps_72 : decode cX10_maps 72 = .ok (.ireturn, 1) := by decide +kernel
theorem dX10_maps_73 : decode cX10_maps 73 = .ok (.aload_n 0, 1) := by decide +kernel
theorem dX10_maps_74 : decode cX10_maps 74 = .ok (.getfield 79, 3) := by decide +kernel
theorem dX10_maps_77 : decode cX10_maps 77 = .ok (.getfield 308, 3) := by decide +kernel
theorem dX10_maps_80 : decode cX10_maps 80 = .ok (.ifCond .le 17, 3) := by decide +kernel
theorem dX10_maps_83 : decode cX10_maps 83 = .ok (.aload_n 0, 1) := by decide +kernel
theorem dX10_maps_84 : decode cX10_maps 84 = .ok (.getfield 79, 3) := by decide +kernel
theorem dX10_maps_87 : decode cX10_maps 87 = .ok (.iload_n 2, 1) := by decide +kernel
theorem dX10_maps_88 : decode cX10_maps 88 = .ok (.bipush 10, 2) := by decide +kernel
theorem dX10_maps_90 : decode cX10_maps 90 = .ok (.isub, 1) := by decide +kernel
theorem dX10_maps_91 : decode cX10_maps 91 = .ok (.invokevirtual 311, 3) := by decide +kernel
theorem dX10_maps_94 : decode cX10_maps 94 = .ok (.goto 5, 3) := by decide +kernel
theorem dX10_maps_97 : decode cX10_maps 97 = .ok (.bipush (-4), 2) := by decide +kernel
theorem dX10_maps_99 : decode cX10_maps 99 = .ok (.ireturn, 1) := by decide +kernel
set_option maxRecDepth 20000 in
theorem ggX10_part_X5_add : GoodIn wsX10_part wsX5_add := goodIn_r _ [7, 8, 9, 22, 23] (by decide +kernel) (by decide +kernel)
set_option maxRecDepth 20000 in
theorem gX10_part_X5_add : GoodIn wsX10_part (wsV RX10 314 RX5 yX5_add wsX5_add) := goodIn_app (goodIn_of _ (by decide +kernel)) ggX10_part_X5_add
theorem dX10_part_0 : decode cX10_part 0 = .ok (.iload_n 1, 1) := by decide +kernel
theorem dX10_part_1 : decode cX10_part 1 = .ok (.iconst 1, 1) := by decide +kernel
theorem dX10_part_2 : decode cX10_part 2 = .ok (.if_icmp .lt 9, 3) := by decide +kernel
theorem dX10_part_5 : decode cX10_part 5 = .ok (.iload_n 1, 1) := by decide +kernel
theorem dX10_part_6 : decode cX10_part 6 = .ok (.bipush 99, 2) := by decide +kernel
theorem dX10_part_8 : decode cX10_part 8 = .ok (.if_icmp .le 5, 3) := by decide +kernel
theorem dX10_part_11 : decode cX10_part 11 = .ok (.iconst (-1), 1) := by decide +kernel
theorem dX10_part_12 : decode cX10_part 12 = .ok (.ireturn, 1) := by decide +kernel
theorem dX10_part_13 : decode cX10_part 13 = .ok (.aload_n 0, 1) := by decide +kernel
theorem dX10_part_14 : decode cX10_part 14 = .ok (.getfield 35, 3) := by decide +kernel
theorem dX10_part_17 : decode cX10_part 17 = .ok (.iload_n 1, 1) := by decide +kernel
theorem dX10_part_18 : decode cX10_part 18 = .ok (.invokevirtual 314, 3) := by decide +kernel
theorem dX10_part_21 : decode cX10_part 21 = .ok (.ifCond .eq 13, 3) := by decide +kernel
theorem dX10_part_24 : decode cX10_part 24 = .ok (.aload_n 0, 1) := by decide +kernel
theorem dX10_part_25 : decode cX10_part 25 = .ok (.getfield 35, 3) := by decide +kernel
theorem dX10_part_28 : decode cX10_part 28 = .ok (.getfield 112, 3) := by decide +kernel
theorem dX10_part_31 : decode cX10_part 31 = .ok (.goto 5, 3) := by decide +kernel
theorem dX10_part_34 : decode cX10_part 34 = .ok (.bipush (-3), 2) := by decide +kernel
theorem dX10_part_36 : decode cX10_part 36 = .ok (.ireturn, 1) := by decide +kernel
theorem dX10_clear_0 : decode cX10_clear 0 = .ok (.aload_n 0, 1) := by decide +kernel
theorem dX10_clear_1 : decode cX10_clear 1 = .ok (.getfield 35, 3) := by decide +kernel
theorem dX10_clear_4 : decode cX10_clear 4 = .ok (.getfield 112, 3) := by decide +kernel
theorem dX10_clear_7 : decode cX10_clear 7 = .ok (.istore_n 1, 1) := by decide +kernel
theorem dX10_clear_8 : decode cX10_clear 8 = .ok (.aload_n 0, 1) := by decide +kernel
theorem dX10_clear_9 : decode cX10_clear 9 = .ok (.getfield 35, 3) := by decide +kernel
theorem dX10_clear_12 : decode cX10_clear 12 = .ok (.iconst 0, 1) := by decide +kernel
theorem dX10_clear_13 : decode cX10_clear 13 = .ok (.putfield 112, 3) := by decide +kernel
theorem dX10_clear_16 : decode cX10_clear 16 = .ok (.iload_n 1, 1) := by decide +kernel
theorem dX10_clear_17 : decode cX10_clear 17 = .ok (.ireturn, 1) := by decide +kernel
set_option maxRecDepth 20000 in
theorem ggX10_road_X5_nearest : GoodIn wsX10_road wsX5_nearest := goodIn_r _ [7, 8, 9, 10, 11, 12, 13, 14, 15, 16, 6, 17, 31, 32] (by decide +kernel) (by decide +kernel)
set_option maxRecDepth 20000 in
theorem gX10_road_X5_nearest : GoodIn wsX10_road (wsV RX10 316 RX5 yX5_nearest wsX5_nearest) := goodIn_app (goodIn_of _ (by decide +kernel)) ggX10_road_X5_nearest
set_option maxRecDepth 20000 in
theorem ggX10_road_X5_farthest : GoodIn wsX10_road wsX5_farthest := goodIn_r _ [17, 8, 9, 31, 32] (by decide +kernel) (by decide +kernel)
set_option maxRecDepth 20000 in
theorem gX10_road_X5_farthest : GoodIn wsX10_road (wsV RX10 319 RX5 yX5_farthest wsX5_farthest) := goodIn_app (goodIn_of _ (by decide +kernel)) ggX10_road_X5_farthest
theorem dX10_road_0 : decode cX10_road 0 = .ok (.iload_n 1, 1) := by decide +kernel
theorem dX10_road_1 : decode cX10_road 1 = .ok (.ifCond .lt 8, 3) := by decide +kernel
theorem dX10_road_4 : decode cX10_road 4 = .ok (.iload_n 1, 1) := by decide +kernel
theorem dX10_road_5 : decode cX10_road 5 = .ok (.iconst 1, 1) := by decide +kernel
theorem dX10_road_6 : decode cX10_road 6 = .ok (.if_icmp .le 5, 3) := by decide +kernel
theorem dX10_road_9 : decode cX10_road 9 = .ok (.iconst (-1), 1) := by decide +kernel
theorem dX10_road_10 : decode cX10_road 10 = .ok (.ireturn, 1) := by decide +kernel
theorem dX10_road_11 : decode cX10_road 11 = .ok (.aload_n 0, 1) := by decide +kernel
theorem dX10_road_12 : decode cX10_road 12 = .ok (.getfield 35, 3) := by decide +kernel
theorem dX10_road_15 : decode cX10_road 15 = .ok (.getfield 112, 3) := by decide +kernel
theorem dX10_road_18 : decode cX10_road 18 = .ok (.ifCond .ne 6, 3) := by decide +kernel
theorem dX10_road_21 : decode cX10_road 21 = .ok (.bipush (-2), 2) := by decide +kernel
theorem dX10_road_23 : decode cX10_road 23 = .ok (.ireturn, 1) := by decide +kernel
theorem dX10_road_24 : decode cX10_road 24 = .ok (.iload_n 1, 1) := by decide +kernel
theorem dX10_road_25 : decode cX10_road 25 = .ok (.ifCond .ne 13, 3) := by decide +kernel
theorem dX10_road_28 : decode cX10_road 28 = .ok (.aload_n 0, 1) := by decide +kernel
theorem dX10_road_29 : decode cX10_road 29 = .ok (.getfield 35, 3) := by decide +kernel
theorem dX10_road_32 : decode cX10_road 32 = .ok (.invokevirtual 316, 3) := by decide +kernel
theorem dX10_road_35 : decode cX10_road 35 = .ok (.goto 10, 3) := by decide +kernel
theorem dX10_road_38 : decode cX10_road 38 = .ok (.aload_n 0, 1) := by decide +kernel
theorem dX10_road_39 : decode cX10_road 39 = .ok (.getfield 35, 3) := by decide +kernel
theorem dX10_road_42 : decode cX10_road 42 = .ok (.invokevirtual 319, 3) := by decide +kernel
theorem dX10_road_45 : decode cX10_road 45 = .ok (.ireturn, 1) := by decide +kernel
set_option maxRecDepth 20000 in
theorem ggX10_reaches_X8_areTwo : GoodIn wsX10_reaches wsX8_areTwo := goodIn_r _ [8, 9, 10, 11, 7, 12, 13, 53, 54] (by decide +kernel) (by decide +kernel)
set_option maxRecDepth 20000 in
theorem gX10_reaches_X8_areTwo : GoodIn wsX10_reaches (wsV RX10 122 RX8 yX8_areTwo wsX8_areTwo) := goodIn_app (goodIn_of _ (by decide +kernel)) ggX10_reaches_X8_areTwo
set_option maxRecDepth 20000 in
theorem ggX10_reaches_X8_square : GoodIn wsX10_reaches wsX8_square := goodIn_r _ [17, 18, 53, 54] (by decide +kernel) (by decide +kernel)
set_option maxRecDepth 20000 in
theorem gX10_reaches_X8_square : GoodIn wsX10_reaches (wsV RX10 213 RX8 yX8_square wsX8_square) := goodIn_app (goodIn_of _ (by decide +kernel)) ggX10_reaches_X8_square
set_option maxRecDepth 20000 in
theorem ggX10_reaches_X5_nearest : GoodIn wsX10_reaches wsX5_nearest := goodIn_r _ [23, 24, 25, 26, 27, 28, 29, 30, 31, 32, 22, 33, 51, 52] (by decide +kernel) (by decide +kernel)
set_option maxRecDepth 20000 in
theorem gX10_reaches_X5_nearest : GoodIn wsX10_reaches (wsV RX10 316 RX5 yX5_nearest wsX5_nearest) := goodIn_app (goodIn_of _ (by decide +kernel)) ggX10_reaches_X5_nearest
set_option maxRecDepth 20000 in
theorem ggX10_reaches_X5_farthest : GoodIn wsX10_reaches wsX5_farthest := goodIn_r _ [33, 24, 25, 51, 52] (by decide +kernel) (by decide +kernel)
set_option maxRecDepth 20000 in
theorem gX10_reaches_X5_farthest : GoodIn wsX10_reaches (wsV RX10 319 RX5 yX5_farthest wsX5_farthest) := goodIn_app (goodIn_of _ (by decide +kernel)) ggX10_reaches_X5_farthest
set_option maxRecDepth 20000 in
theorem ggX10_reaches_X10_bit : GoodIn wsX10_reaches wsX10_bit := goodIn_r _ [38] (by decide +kernel) (by decide +kernel)
set_option maxRecDepth 20000 in
theorem gX10_reaches_X10_bit : GoodIn wsX10_reaches (va_wsS RX10 159 yX10_bit wsX10_bit) := goodIn_app (goodIn_of _ (by decide +kernel)) ggX10_reaches_X10_bit
theorem dX10_reaches_0 : decode cX10_reaches 0 = .ok (.aload_n 0, 1) := by decide +kernel
theorem dX10_reaches_1 : decode cX10_reaches 1 = .ok (.getfield 28, 3) := by decide +kernel
theorem dX10_reaches_4 : decode cX10_reaches 4 = .ok (.iload_n 1, 1) := by decide +kernel
theorem dX10_reaches_5 : decode cX10_reaches 5 = .ok (.iload_n 2, 1) := by decide +kernel
theorem dX10_reaches_6 : decode cX10_reaches 6 = .ok (.invokevirtual 122, 3) := by decide +kernel
theorem dX10_reaches_9 : decode cX10_reaches 9 = .ok (.ifCond .ne 5, 3) := by decide +kernel
theorem dX10_reaches_12 : decode cX10_reaches 12 = .ok (.iconst (-1), 1) := by decide +kernel
theorem dX10_reaches_13 : decode cX10_reaches 13 = .ok (.ireturn, 1) := by decide +kernel
theorem dX10_reaches_14 : decode cX10_reaches 14 = .ok (.aload_n 0, 1) := by decide +kernel
theorem dX10_reaches_15 : decode cX10_reaches 15 = .ok (.getfield 35, 3) := by decide +kernel
theorem dX10_reaches_18 : decode cX10_reaches 18 = .ok (.getfield 112, 3) := by decide +kernel
theorem dX10_reaches_21 : decode cX10_reaches 21 = .ok (.ifCond .ne 6, 3) := by decide +kernel
theorem dX10_reaches_24 : decode cX10_reaches 24 = .ok (.bipush (-2), 2) := by decide +kernel
theorem dX10_reaches_26 : decode cX10_reaches 26 = .ok (.ireturn, 1) := by decide +kernel
theorem dX10_reaches_27 : decode cX10_reaches 27 = .ok (.aload_n 0, 1) := by decide +kernel
theorem dX10_reaches_28 : decode cX10_reaches 28 = .ok (.getfield 28, 3) := by decide +kernel
theorem dX10_reaches_31 : decode cX10_reaches 31 = .ok (.iload_n 1, 1) := by decide +kernel
theorem dX10_reaches_32 : decode cX10_reaches 32 = .ok (.iload_n 2, 1) := by decide +kernel
theorem dX10_reaches_33 : decode cX10_reaches 33 = .ok (.invokevirtual 213, 3) := by decide +kernel
theorem dX10_reaches_36 : decode cX10_reaches 36 = .ok (.istore_n 3, 1) := by decide +kernel
theorem dX10_reaches_37 : decode cX10_reaches 37 = .ok (.iload_n 3, 1) := by decide +kernel
theorem dX10_reaches_38 : decode cX10_reaches 38 = .ok (.ifCond .ne 6, 3) := by decide +kernel
theorem dX10_reaches_41 : decode cX10_reaches 41 = .ok (.bipush (-4), 2) := by decide +kernel
theorem dX10_reaches_43 : decode cX10_reaches 43 = .ok (.ireturn, 1) := by decide +kernel
theorem dX10_reaches_44 : decode cX10_reaches 44 = .ok (.aload_n 0, 1) := by decide +kernel
theorem dX10_reaches_45 : decode cX10_reaches 45 = .ok (.getfield 35, 3) := by decide +kernel
theorem dX10_reaches_48 : decode cX10_reaches 48 = .ok (.invokevirtual 316, 3) := by decide +kernel
theorem dX10_reaches_51 : decode cX10_reaches 51 = .ok (.istore 4, 2) := by decide +kernel
theorem dX10_reaches_53 : decode cX10_reaches 53 = .ok (.aload_n 0, 1) := by decide +kernel
theorem dX10_reaches_54 : decode cX10_reaches 54 = .ok (.getfield 35, 3) := by decide +kernel
theorem dX10_reaches_57 : decode cX10_reaches 57 = .ok (.invokevirtual 319, 3) := by decide +kernel
theorem dX10_reaches_60 : decode cX10_reaches 60 = .ok (.istore 5, 2) := by decide +kernel
theorem dX10_reaches_62 : decode cX10_reaches 62 = .ok (.iload_n 3, 1) := by decide +kernel
theorem dX10_reaches_63 : decode cX10_reaches 63 = .ok (.iload 4, 2) := by decide +kernel
theorem dX10_reaches_65 : decode cX10_reaches 65 = .ok (.iload 4, 2) := by decide +kernel
theorem dX10_reaches_67 : decode cX10_reaches 67 = .ok (.imul, 1) := by decide +kernel
theorem dX10_reaches_68 : decode cX10_reaches 68 = .ok (.if_icmp .lt 16, 3) := by decide +kernel
theorem dX10_reaches_71 : decode cX10_reaches 71 = .ok (.iload_n 3, 1) := by decide +kernel
theorem dX10_reaches_72 : decode cX10_reaches 72 = .ok (.iload 5, 2) := by decide +kernel
theorem dX10_reaches_74 : decode cX10_reaches 74 = .ok (.iload 5, 2) := by decide +kernel
theorem dX10_reaches_76 : decode cX10_reaches 76 = .ok (.imul, 1) := by decide +kernel
theorem dX10_reaches_77 : decode cX10_reaches 77 = .ok (.if_icmp .gt 7, 3) := by decide +kernel
theorem dX10_reaches_80 : decode cX10_reaches 80 = .ok (.iconst 1, 1) := by decide +kernel
theorem dX10_reaches_81 : decode cX10_reaches 81 = .ok (.goto 4, 3) := by decide +kernel
theorem dX10_reaches_84 : decode cX10_reaches 84 = .ok (.iconst 0, 1) := by decide +kernel
theorem dX10_reaches_85 : decode cX10_reaches 85 = .ok (.invokestatic 159, 3) := by decide +kernel
theorem dX10_reaches_88 : decode cX10_reaches 88 = .ok (.ireturn, 1) := by decide +kernel
set_option maxRecDepth 20000 in
theorem ggX10_keep_X10_isImage : GoodIn wsX10_keep wsX10_isImage := goodIn_r _ [10] (by decide +kernel) (by decide +kernel)
set_option maxRecDepth 20000 in
theorem gX10_keep_X10_isImage : GoodIn wsX10_keep (va_wsS RX10 300 yX10_isImage wsX10_isImage) := goodIn_app (goodIn_of _ (by decide +kernel)) ggX10_keep_X10_isImage
set_option maxRecDepth 20000 in
theorem ggX10_keep_X10_bit : GoodIn wsX10_keep wsX10_bit := goodIn_r _ [13] (by decide +kernel) (by decide +kernel)
set_option maxRecDepth 20000 in
theorem gX10_keep_X10_bit : GoodIn wsX10_keep (va_wsS RX10 159 yX10_bit wsX10_bit) := goodIn_app (goodIn_of _ (by decide +kernel)) ggX10_keep_X10_bit
set_option maxRecDepth 20000 in
theorem ggX10_keep_X8_copyFrom : GoodIn wsX10_keep wsX8_copyFrom := goodIn_r _ [18, 19, 20, 21, 22, 23, 24, 48, 49] (by decide +kernel) (by decide +kernel)
set_option maxRecDepth 20000 in
theorem gX10_keep_X8_copyFrom : GoodIn wsX10_keep (wsV RX10 109 RX8 yX8_copyFrom wsX8_copyFrom) := goodIn_app (goodIn_of _ (by decide +kernel)) ggX10_keep_X8_copyFrom
set_option maxRecDepth 20000 in
theorem ggX10_keep_X5_copyFrom : GoodIn wsX10_keep wsX5_copyFrom := goodIn_r _ [29, 30, 31, 32, 22, 23, 24, 50, 51] (by decide +kernel) (by decide +kernel)
set_option maxRecDepth 20000 in
theorem gX10_keep_X5_copyFrom : GoodIn wsX10_keep (wsV RX10 323 RX5 yX5_copyFrom wsX5_copyFrom) := goodIn_app (goodIn_of _ (by decide +kernel)) ggX10_keep_X5_copyFrom
theorem dX10_keep_0 : decode cX10_keep 0 = .ok (.iload_n 1, 1) := by decide +kernel
theorem dX10_keep_1 : decode cX10_keep 1 = .ok (.invokestatic 300, 3) := by decide +kernel
theorem dX10_keep_4 : decode cX10_keep 4 = .ok (.ifCond .ne 5, 3) := by decide +kernel
theorem dX10_keep_7 : decode cX10_keep 7 = .ok (.iconst (-1), 1) := by decide +kernel
theorem dX10_keep_8 : decode cX10_keep 8 = .ok (.ireturn, 1) := by decide +kernel
theorem dX10_keep_9 : decode cX10_keep 9 = .ok (.aload_n 0, 1) := by decide +kernel
theorem dX10_keep_10 : decode cX10_keep 10 = .ok (.getfield 41, 3) := by decide +kernel
theorem dX10_keep_13 : decode cX10_keep 13 = .ok (.iload_n 1, 1) := by decide +kernel
theorem dX10_keep_14 : decode cX10_keep 14 = .ok (.aaload, 1) := by decide +kernel
theorem dX10_keep_15 : decode cX10_keep 15 = .ok (.astore_n 2, 1) := by decide +kernel
theorem dX10_keep_16 : decode cX10_keep 16 = .ok (.aload_n 2, 1) := by decide +kernel
theorem dX10_keep_17 : decode cX10_keep 17 = .ok (.getfield 115, 3) := by decide +kernel
theorem dX10_keep_20 : decode cX10_keep 20 = .ok (.invokestatic 159, 3) := by decide +kernel
theorem dX10_keep_23 : decode cX10_keep 23 = .ok (.istore_n 3, 1) := by decide +kernel
theorem dX10_keep_24 : decode cX10_keep 24 = .ok (.aload_n 2, 1) := by decide +kernel
theorem dX10_keep_25 : decode cX10_keep 25 = .ok (.getfield 303, 3) := by decide +kernel
theorem dX10_keep_28 : decode cX10_keep 28 = .ok (.aload_n 0, 1) := by decide +kernel
theorem dX10_keep_29 : decode cX10_keep 29 = .ok (.getfield 28, 3) := by decide +kernel
theorem dX10_keep_32 : decode cX10_keep 32 = .ok (.invokevirtual 109, 3) := by decide +kernel
theorem dX10_keep_35 : decode cX10_keep 35 = .ok (.aload_n 2, 1) := by decide +kernel
theorem dX10_keep_36 : decode cX10_keep 36 = .ok (.getfield 322, 3) := by decide +kernel
theorem dX10_keep_39 : decode cX10_keep 39 = .ok (.aload_n 0, 1) := by decide +kernel
theorem dX10_keep_40 : decode cX10_keep 40 = .ok (.getfield 35, 3) := by decide +kernel
theorem dX10_keep_43 : decode cX10_keep 43 = .ok (.invokevirtual 323, 3) := by decide +kernel
theorem dX10_keep_46 : decode cX10_keep 46 = .ok (.aload_n 2, 1) := by decide +kernel
theorem dX10_keep_47 : decode cX10_keep 47 = .ok (.iconst 1, 1) := by decide +kernel
theorem dX10_keep_48 : decode cX10_keep 48 = .ok (.putfield 115, 3) := by decide +kernel
theorem dX10_keep_51 : decode cX10_keep 51 = .ok (.iload_n 3, 1) := by decide +kernel
theorem dX10_keep_52 : decode cX10_keep 52 = .ok (.ireturn, 1) := by decide +kernel
set_option maxRecDepth 20000 in
theorem ggX10_back_X10_isImage : GoodIn wsX10_back wsX10_isImage := goodIn_r _ [10] (by decide +kernel) (by decide +kernel)
set_option maxRecDepth 20000 in
theorem gX10_back_X10_isImage : GoodIn wsX10_back (va_wsS RX10 300 yX10_isImage wsX10_isImage) := goodIn_app (goodIn_of _ (by decide +kernel)) ggX10_back_X10_isImage
set_option maxRecDepth 20000 in
theorem ggX10_back_X8_copyFrom : GoodIn wsX10_back wsX8_copyFrom := goodIn_r _ [15, 16, 17, 18, 19, 20, 21, 55, 56] (by decide +kernel) (by decide +kernel)
set_option maxRecDepth 20000 in
theorem gX10_back_X8_copyFrom : GoodIn wsX10_back (wsV RX10 109 RX8 yX8_copyFrom wsX8_copyFrom) := goodIn_app (goodIn_of _ (by decide +kernel)) ggX10_back_X8_copyFrom
set_option maxRecDepth 20000 in
theorem ggX10_back_X5_copyFrom : GoodIn wsX10_back wsX5_copyFrom := goodIn_r _ [26, 27, 28, 29, 19, 20, 21, 57, 58] (by decide +kernel) (by decide +kernel)
set_option maxRecDepth 20000 in
theorem gX10_back_X5_copyFrom : GoodIn wsX10_back (wsV RX10 323 RX5 yX5_copyFrom wsX5_copyFrom) := goodIn_app (goodIn_of _ (by decide +kernel)) ggX10_back_X5_copyFrom
set_option maxRecDepth 20000 in
theorem ggX10_back_X8_countTold : GoodIn wsX10_back wsX8_countTold := goodIn_r _ [33, 16, 34, 35, 36, 14, 37, 17, 38, 9, 39, 55, 56] (by decide +kernel) (by decide +kernel)
set_option maxRecDepth 20000 in
theorem gX10_back_X8_countTold : GoodIn wsX10_back (wsV RX10 326 RX8 yX8_countTold wsX8_countTold) := goodIn_app (goodIn_of _ (by decide +kernel)) ggX10_back_X8_countTold
theorem dX10_back_0 : decode cX10_back 0 = .ok (.iload_n 1, 1) := by decide +kernel
theorem dX10_back_1 : decode cX10_back 1 = .ok (.invokestatic 300, 3) := by decide +kernel
