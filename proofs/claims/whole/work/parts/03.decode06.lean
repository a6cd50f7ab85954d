theorem dX11_layMaps_140 : decode cX11_layMaps 140 = .ok (.ireturn, 1) := by decide +kernel
set_option maxRecDepth 20000 in
theorem ggX11_maps_X11_awake : GoodIn wsX11_maps wsX11_awake := goodIn_r _ [9, 10, 2, 26, 27, 28, 29, 30, 31, 32, 33, 34, 35, 36, 37, 38, 39, 40, 41, 42, 43, 44, 45, 46, 47, 48, 49, 50, 51, 52, 53, 54, 55] (by decide +kernel) (by decide +kernel)
set_option maxRecDepth 20000 in
theorem gX11_maps_X11_awake : GoodIn wsX11_maps (wsV RX11 135 RX11 yX11_awake wsX11_awake) := goodIn_app (goodIn_of _ (by decide +kernel)) ggX11_maps_X11_awake
set_option maxRecDepth 20000 in
theorem ggX11_maps_X11_in : GoodIn wsX11_maps wsX11_in := goodIn_r _ [13] (by decide +kernel) (by decide +kernel)
set_option maxRecDepth 20000 in
theorem gX11_maps_X11_in : GoodIn wsX11_maps (va_wsS RX11 64 yX11_in wsX11_in) := goodIn_app (goodIn_of _ (by decide +kernel)) ggX11_maps_X11_in
set_option maxRecDepth 20000 in
theorem ggX11_maps_X11_layMaps : GoodIn wsX11_maps wsX11_layMaps := goodIn_r _ [17, 2, 18, 4, 19, 20, 21, 8, 22, 23, 24, 25, 26, 27, 28, 29, 30, 31, 32, 33, 34, 35, 36, 37, 38, 39, 40, 41, 42, 43, 44, 45, 46, 47, 48, 49, 50, 51, 52, 53, 54, 55] (by decide +kernel) (by decide +kernel)
set_option maxRecDepth 20000 in
theorem gX11_maps_X11_layMaps : GoodIn wsX11_maps (wsV RX11 289 RX11 yX11_layMaps wsX11_layMaps) := goodIn_app (goodIn_of _ (by decide +kernel)) ggX11_maps_X11_layMaps
theorem dX11_maps_0 : decode cX11_maps 0 = .ok (.aload_n 0, 1) := by decide +kernel
theorem dX11_maps_1 : decode cX11_maps 1 = .ok (.invokevirtual 135, 3) := by decide +kernel
theorem dX11_maps_4 : decode cX11_maps 4 = .ok (.iload_n 1, 1) := by decide +kernel
theorem dX11_maps_5 : decode cX11_maps 5 = .ok (.i2l, 1) := by decide +kernel
theorem dX11_maps_6 : decode cX11_maps 6 = .ok (.lconst 0, 1) := by decide +kernel
theorem dX11_maps_7 : decode cX11_maps 7 = .ok (.lconst 1, 1) := by decide +kernel
theorem dX11_maps_8 : decode cX11_maps 8 = .ok (.invokestatic 64, 3) := by decide +kernel
theorem dX11_maps_11 : decode cX11_maps 11 = .ok (.ifCond .eq 29, 3) := by decide +kernel
theorem dX11_maps_14 : decode cX11_maps 14 = .ok (.iload_n 2, 1) := by decide +kernel
theorem dX11_maps_15 : decode cX11_maps 15 = .ok (.ifCond .eq 27, 3) := by decide +kernel
theorem dX11_maps_18 : decode cX11_maps 18 = .ok (.iload_n 2, 1) := by decide +kernel
theorem dX11_maps_19 : decode cX11_maps 19 = .ok (.i2l, 1) := by decide +kernel
theorem dX11_maps_20 : decode cX11_maps 20 = .ok (.ldc2_w 265, 3) := by decide +kernel
theorem dX11_maps_23 : decode cX11_maps 23 = .ok (.bipush 9, 2) := by decide +kernel
theorem dX11_maps_25 : decode cX11_maps 25 = .ok (.aload_n 0, 1) := by decide +kernel
theorem dX11_maps_26 : decode cX11_maps 26 = .ok (.getfield 7, 3) := by decide +kernel
theorem dX11_maps_29 : decode cX11_maps 29 = .ok (.bipush 21, 2) := by decide +kernel
theorem dX11_maps_31 : decode cX11_maps 31 = .ok (.iaload, 1) := by decide +kernel
theorem dX11_maps_32 : decode cX11_maps 32 = .ok (.iadd, 1) := by decide +kernel
theorem dX11_maps_33 : decode cX11_maps 33 = .ok (.i2l, 1) := by decide +kernel
theorem dX11_maps_34 : decode cX11_maps 34 = .ok (.invokestatic 64, 3) := by decide +kernel
theorem dX11_maps_37 : decode cX11_maps 37 = .ok (.ifCond .ne 5, 3) := by decide +kernel
theorem dX11_maps_40 : decode cX11_maps 40 = .ok (.iconst (-1), 1) := by decide +kernel
theorem dX11_maps_41 : decode cX11_maps 41 = .ok (.ireturn, 1) := by decide +kernel
theorem dX11_maps_42 : decode cX11_maps 42 = .ok (.aload_n 0, 1) := by decide +kernel
theorem dX11_maps_43 : decode cX11_maps 43 = .ok (.getfield 40, 3) := by decide +kernel
theorem dX11_maps_46 : decode cX11_maps 46 = .ok (.iload_n 1, 1) := by decide +kernel
theorem dX11_maps_47 : decode cX11_maps 47 = .ok (.baload, 1) := by decide +kernel
theorem dX11_maps_48 : decode cX11_maps 48 = .ok (.ifCond .ne 6, 3) := by decide +kernel
theorem dX11_maps_51 : decode cX11_maps 51 = .ok (.bipush (-2), 2) := by decide +kernel
theorem dX11_maps_53 : decode cX11_maps 53 = .ok (.ireturn, 1) := by decide +kernel
theorem dX11_maps_54 : decode cX11_maps 54 = .ok (.aload_n 0, 1) := by decide +kernel
theorem dX11_maps_55 : decode cX11_maps 55 = .ok (.bipush 32, 2) := by decide +kernel
theorem dX11_maps_57 : decode cX11_maps 57 = .ok (.iload_n 1, 1) := by decide +kernel
theorem dX11_maps_58 : decode cX11_maps 58 = .ok (.iconst 1, 1) := by decide +kernel
theorem dX11_maps_59 : decode cX11_maps 59 = .ok (.iadd, 1) := by decide +kernel
theorem dX11_maps_60 : decode cX11_maps 60 = .ok (.imul, 1) := by decide +kernel
theorem dX11_maps_61 : decode cX11_maps 61 = .ok (.invokevirtual 289, 3) := by decide +kernel
theorem dX11_maps_64 : decode cX11_maps 64 = .ok (.istore_n 3, 1) := by decide +kernel
theorem dX11_maps_65 : decode cX11_maps 65 = .ok (.iload_n 2, 1) := by decide +kernel
theorem dX11_maps_66 : decode cX11_maps 66 = .ok (.ifCond .ne 7, 3) := by decide +kernel
theorem dX11_maps_69 : decode cX11_maps 69 = .ok (.iload_n 3, 1) := by decide +kernel
theorem dX11_maps_70 : decode cX11_maps 70 = .ok (.goto 21, 3) := by decide +kernel
theorem dX11_maps_73 : decode cX11_maps 73 = .ok (.iload_n 3, 1) := by decide +kernel
theorem dX11_maps_74 : decode cX11_maps 74 = .ok (.ifCond .ne 8, 3) := by decide +kernel
theorem dX11_maps_77 : decode cX11_maps 77 = .ok (.bipush (-4), 2) := by decide +kernel
theorem dX11_maps_79 : decode cX11_maps 79 = .ok (.goto 12, 3) := by decide +kernel
theorem dX11_maps_82 : decode cX11_maps 82 = .ok (.aload_n 0, 1) := by decide +kernel
theorem dX11_maps_83 : decode cX11_maps 83 = .ok (.getfield 37, 3) := by decide +kernel
theorem dX11_maps_86 : decode cX11_maps 86 = .ok (.iload_n 2, 1) := by decide +kernel
theorem dX11_maps_87 : decode cX11_maps 87 = .ok (.bipush 10, 2) := by decide +kernel
theorem dX11_maps_89 : decode cX11_maps 89 = .ok (.isub, 1) := by decide +kernel
theorem dX11_maps_90 : decode cX11_maps 90 = .ok (.iaload, 1) := by decide +kernel
theorem dX11_maps_91 : decode cX11_maps 91 = .ok (.ireturn, 1) := by decide +kernel
set_option maxRecDepth 20000 in
theorem ggX11_part_X11_in : GoodIn wsX11_part wsX11_in := goodIn_r _ [6] (by decide +kernel) (by decide +kernel)
set_option maxRecDepth 20000 in
theorem gX11_part_X11_in : GoodIn wsX11_part (va_wsS RX11 64 yX11_in wsX11_in) := goodIn_app (goodIn_of _ (by decide +kernel)) ggX11_part_X11_in
theorem dX11_part_0 : decode cX11_part 0 = .ok (.iload_n 1, 1) := by decide +kernel
theorem dX11_part_1 : decode cX11_part 1 = .ok (.i2l, 1) := by decide +kernel
theorem dX11_part_2 : decode cX11_part 2 = .ok (.lconst 1, 1) := by decide +kernel
theorem dX11_part_3 : decode cX11_part 3 = .ok (.ldc2_w 292, 3) := by decide +kernel
theorem dX11_part_6 : decode cX11_part 6 = .ok (.invokestatic 64, 3) := by decide +kernel
theorem dX11_part_9 : decode cX11_part 9 = .ok (.ifCond .ne 5, 3) := by decide +kernel
theorem dX11_part_12 : decode cX11_part 12 = .ok (.iconst (-1), 1) := by decide +kernel
theorem dX11_part_13 : decode cX11_part 13 = .ok (.ireturn, 1) := by decide +kernel
theorem dX11_part_14 : decode cX11_part 14 = .ok (.aload_n 0, 1) := by decide +kernel
theorem dX11_part_15 : decode cX11_part 15 = .ok (.getfield 7, 3) := by decide +kernel
theorem dX11_part_18 : decode cX11_part 18 = .ok (.bipush 30, 2) := by decide +kernel
theorem dX11_part_20 : decode cX11_part 20 = .ok (.iaload, 1) := by decide +kernel
theorem dX11_part_21 : decode cX11_part 21 = .ok (.bipush 8, 2) := by decide +kernel
theorem dX11_part_23 : decode cX11_part 23 = .ok (.if_icmp .ne 6, 3) := by decide +kernel
theorem dX11_part_26 : decode cX11_part 26 = .ok (.bipush (-3), 2) := by decide +kernel
theorem dX11_part_28 : decode cX11_part 28 = .ok (.ireturn, 1) := by decide +kernel
theorem dX11_part_29 : decode cX11_part 29 = .ok (.aload_n 0, 1) := by decide +kernel
theorem dX11_part_30 : decode cX11_part 30 = .ok (.getfield 7, 3) := by decide +kernel
theorem dX11_part_33 : decode cX11_part 33 = .ok (.bipush 22, 2) := by decide +kernel
theorem dX11_part_35 : decode cX11_part 35 = .ok (.aload_n 0, 1) := by decide +kernel
theorem dX11_part_36 : decode cX11_part 36 = .ok (.getfield 7, 3) := by decide +kernel
theorem dX11_part_39 : decode cX11_part 39 = .ok (.bipush 30, 2) := by decide +kernel
theorem dX11_part_41 : decode cX11_part 41 = .ok (.iaload, 1) := by decide +kernel
theorem dX11_part_42 : decode cX11_part 42 = .ok (.iadd, 1) := by decide +kernel
theorem dX11_part_43 : decode cX11_part 43 = .ok (.iload_n 1, 1) := by decide +kernel
theorem dX11_part_44 : decode cX11_part 44 = .ok (.iastore, 1) := by decide +kernel
theorem dX11_part_45 : decode cX11_part 45 = .ok (.aload_n 0, 1) := by decide +kernel
theorem dX11_part_46 : decode cX11_part 46 = .ok (.getfield 7, 3) := by decide +kernel
theorem dX11_part_49 : decode cX11_part 49 = .ok (.bipush 30, 2) := by decide +kernel
theorem dX11_part_51 : decode cX11_part 51 = .ok (.dup2, 1) := by decide +kernel
theorem dX11_part_52 : decode cX11_part 52 = .ok (.iaload, 1) := by decide +kernel
theorem dX11_part_53 : decode cX11_part 53 = .ok (.iconst 1, 1) := by decide +kernel
theorem dX11_part_54 : decode cX11_part 54 = .ok (.iadd, 1) := by decide +kernel
theorem dX11_part_55 : decode cX11_part 55 = .ok (.iastore, 1) := by decide +kernel
theorem dX11_part_56 : decode cX11_part 56 = .ok (.aload_n 0, 1) := by decide +kernel
theorem dX11_part_57 : decode cX11_part 57 = .ok (.getfield 7, 3) := by decide +kernel
theorem dX11_part_60 : decode cX11_part 60 = .ok (.bipush 30, 2) := by decide +kernel
theorem dX11_part_62 : decode cX11_part 62 = .ok (.iaload, 1) := by decide +kernel
theorem dX11_part_63 : decode cX11_part 63 = .ok (.ireturn, 1) := by decide +kernel
theorem dX11_clear_0 : decode cX11_clear 0 = .ok (.aload_n 0, 1) := by decide +kernel
theorem dX11_clear_1 : decode cX11_clear 1 = .ok (.getfield 7, 3) := by decide +kernel
theorem dX11_clear_4 : decode cX11_clear 4 = .ok (.bipush 30, 2) := by decide +kernel
theorem dX11_clear_6 : decode cX11_clear 6 = .ok (.iaload, 1) := by decide +kernel
theorem dX11_clear_7 : decode cX11_clear 7 = .ok (.istore_n 1, 1) := by decide +kernel
theorem dX11_clear_8 : decode cX11_clear 8 = .ok (.aload_n 0, 1) := by decide +kernel
theorem dX11_clear_9 : decode cX11_clear 9 = .ok (.getfield 7, 3) := by decide +kernel
theorem dX11_clear_12 : decode cX11_clear 12 = .ok (.bipush 30, 2) := by decide +kernel
theorem dX11_clear_14 : decode cX11_clear 14 = .ok (.iconst 0, 1) := by decide +kernel
theorem dX11_clear_15 : decode cX11_clear 15 = .ok (.iastore, 1) := by decide +kernel
theorem dX11_clear_16 : decode cX11_clear 16 = .ok (.iload_n 1, 1) := by decide +kernel
theorem dX11_clear_17 : decode cX11_clear 17 = .ok (.ireturn, 1) := by decide +kernel
set_option maxRecDepth 20000 in
theorem ggX11_nearest_X11_farthest : GoodIn wsX11_nearest wsX11_farthest := goodIn_r _ [6, 1, 7, 8, 9, 10, 11, 12, 13, 14, 15, 16, 17, 18, 19, 20, 21, 22, 23, 24, 25, 26, 27, 28, 29, 30, 31, 32, 33, 34, 35, 36] (by decide +kernel) (by decide +kernel)
set_option maxRecDepth 20000 in
theorem gX11_nearest_X11_farthest : GoodIn wsX11_nearest (wsV RX11 294 RX11 yX11_farthest wsX11_farthest) := goodIn_app (goodIn_of _ (by decide +kernel)) ggX11_nearest_X11_farthest
theorem dX11_nearest_0 : decode cX11_nearest 0 = .ok (.iconst 0, 1) := by decide +kernel
theorem dX11_nearest_1 : decode cX11_nearest 1 = .ok (.istore_n 1, 1) := by decide +kernel
theorem dX11_nearest_2 : decode cX11_nearest 2 = .ok (.iconst 0, 1) := by decide +kernel
theorem dX11_nearest_3 : decode cX11_nearest 3 = .ok (.istore_n 2, 1) := by decide +kernel
theorem dX11_nearest_4 : decode cX11_nearest 4 = .ok (.iload_n 2, 1) := by decide +kernel
theorem dX11_nearest_5 : decode cX11_nearest 5 = .ok (.aload_n 0, 1) := by decide +kernel
theorem dX11_nearest_6 : decode cX11_nearest 6 = .ok (.getfield 7, 3) := by decide +kernel
theorem dX11_nearest_9 : decode cX11_nearest 9 = .ok (.bipush 30, 2) := by decide +kernel
theorem dX11_nearest_11 : decode cX11_nearest 11 = .ok (.iaload, 1) := by decide +kernel
theorem dX11_nearest_12 : decode cX11_nearest 12 = .ok (.if_icmp .ge 36, 3) := by decide +kernel
theorem dX11_nearest_15 : decode cX11_nearest 15 = .ok (.aload_n 0, 1) := by decide +kernel
theorem dX11_nearest_16 : decode cX11_nearest 16 = .ok (.getfield 7, 3) := by decide +kernel
theorem dX11_nearest_19 : decode cX11_nearest 19 = .ok (.bipush 22, 2) := by decide +kernel
theorem dX11_nearest_21 : decode cX11_nearest 21 = .ok (.iload_n 2, 1) := by decide +kernel
theorem dX11_nearest_22 : decode cX11_nearest 22 = .ok (.iadd, 1) := by decide +kernel
theorem dX11_nearest_23 : decode cX11_nearest 23 = .ok (.iaload, 1) := by decide +kernel
theorem dX11_nearest_24 : decode cX11_nearest 24 = .ok (.iload_n 1, 1) := by decide +kernel
theorem dX11_nearest_25 : decode cX11_nearest 25 = .ok (.if_icmp .le 15, 3) := by decide +kernel
theorem dX11_nearest_28 : decode cX11_nearest 28 = .ok (.aload_n 0, 1) := by decide +kernel
theorem dX11_nearest_29 : decode cX11_nearest 29 = .ok (.getfield 7, 3) := by decide +kernel
theorem dX11_nearest_32 : decode cX11_nearest 32 = .ok (.bipush 22, 2) := by decide +kernel
theorem dX11_nearest_34 : decode cX11_nearest 34 = .ok (.iload_n 2, 1) := by decide +kernel
theorem dX11_nearest_35 : decode cX11_nearest 35 = .ok (.iadd, 1) := by decide +kernel
theorem dX11_nearest_36 : decode cX11_nearest 36 = .ok (.iaload, 1) := by decide +kernel
theorem dX11_nearest_37 : decode cX11_nearest 37 = .ok (.goto 4, 3) := by decide +kernel
theorem dX11_nearest_40 : decode cX11_nearest 40 = .ok (.iload_n 1, 1) := by decide +kernel
theorem dX11_nearest_41 : decode cX11_nearest 41 = .ok (.istore_n 1, 1) := by decide +kernel
theorem dX11_nearest_42 : decode cX11_nearest 42 = .ok (.iinc 2 1, 3) := by decide +kernel
theorem dX11_nearest_45 : decode cX11_nearest 45 = .ok (.goto (-41), 3) := by decide +kernel
theorem dX11_nearest_48 : decode cX11_nearest 48 = .ok (.iconst 2, 1) := by decide +kernel
theorem dX11_nearest_49 : decode cX11_nearest 49 = .ok (.iload_n 1, 1) := by decide +kernel
theorem dX11_nearest_50 : decode cX11_nearest 50 = .ok (.imul, 1) := by decide +kernel
theorem dX11_nearest_51 : decode cX11_nearest 51 = .ok (.aload_n 0, 1) := by decide +kernel
theorem dX11_nearest_52 : decode cX11_nearest 52 = .ok (.invokevirtual 294, 3) := by decide +kernel
theorem dX11_nearest_55 : decode cX11_nearest 55 = .ok (.if_icmp .le 14, 3) := by decide +kernel
theorem dX11_nearest_58 : decode cX11_nearest 58 = .ok (.iconst 2, 1) := by decide +kernel
theorem dX11_nearest_59 : decode cX11_nearest 59 = .ok (.iload_n 1, 1) := by decide +kernel
theorem dX11_nearest_60 : decode cX11_nearest 60 = .ok (.imul, 1) := by decide +kernel
theorem dX11_nearest_61 : decode cX11_nearest 61 = .ok (.aload_n 0, 1) := by decide +kernel
theorem dX11_nearest_62 : decode cX11_nearest 62 = .ok (.invokevirtual 294, 3) := by decide +kernel
theorem dX11_nearest_65 : decode cX11_nearest 65 = .ok (.isub, 1) := by decide +kernel
theorem dX11_nearest_66 : decode cX11_nearest 66 = .ok (.goto 4, 3) := by decide +kernel
theorem dX11_nearest_69 : decode cX11_nearest 69 = .ok (.iconst 0, 1) := by decide +kernel
theorem dX11_nearest_70 : decode cX11_nearest 70 = .ok (.ireturn, 1) := by decide +kernel
theorem dX11_farthest_0 : decode cX11_farthest 0 = .ok (.iconst 0, 1) := by decide +kernel
theorem dX11_farthest_1 : decode cX11_farthest 1 = .ok (.istore_n 1, 1) := by decide +kernel
theorem dX11_farthest_2 : decode cX11_farthest 2 = .ok (.iconst 0, 1) := by decide +kernel
theorem dX11_farthest_3 : decode cX11_farthest 3 = .ok (.istore_n 2, 1) := by decide +kernel
theorem dX11_farthest_4 : decode cX11_farthest 4 = .ok (.iload_n 2, 1) := by decide +kernel
theorem dX11_farthest_5 : decode cX11_farthest 5 = .ok (.aload_n 0, 1) := by decide +kernel
theorem dX11_farthest_6 : decode cX11_farthest 6 = .ok (.getfield 7, 3) := by decide +kernel
theorem dX11_farthest_9 : decode cX11_farthest 9 = .ok (.bipush 30, 2) := by decide +kernel
theorem dX11_farthest_11 : decode cX11_farthest 11 = .ok (.iaload, 1) := by decide +kernel
theorem dX11_farthest_12 : decode cX11_farthest 12 = .ok (.if_icmp .ge 21, 3) := by decide +kernel
theorem dX11_farthest_15 : decode cX11_farthest 15 = .ok (.iload_n 1, 1) := by decide +kernel
theorem dX11_farthest_16 : decode cX11_farthest 16 = .ok (.aload_n 0, 1) := by decide +kernel
theorem dX11_farthest_17 : decode cX11_farthest 17 = .ok (.getfield 7, 3) := by decide +kernel
theorem dX11_farthest_20 : decode cX11_farthest 20 = .ok (.bipush 22, 2) := by decide +kernel
theorem dX11_farthest_22 : decode cX11_farthest 22 = .ok (.iload_n 2, 1) := by decide +kernel
theorem dX11_farthest_23 : decode cX11_farthest 23 = .ok (.iadd, 1) := by decide +kernel
theorem dX11_farthest_24 : decode cX11_farthest 24 = .ok (.iaload, 1) := by decide +kernel
theorem dX11_farthest_25 : decode cX11_farthest 25 = .ok (.iadd, 1) := by decide +kernel
theorem dX11_farthest_26 : decode cX11_farthest 26 = .ok (.istore_n 1, 1) := by decide +kernel
theorem dX11_farthest_27 : decode cX11_farthest 27 = .ok (.iinc 2 1, 3) := by decide +kernel
theorem dX11_farthest_30 : decode cX11_farthest 30 = .ok (.goto (-26), 3) := by decide +kernel
theorem dX11_farthest_33 : decode cX11_farthest 33 = .ok (.iload_n 1, 1) := by decide +kernel
theorem dX11_farthest_34 : decode cX11_farthest 34 = .ok (.ireturn, 1) := by decide +kernel
set_option maxRecDepth 20000 in
theorem ggX11_road_X11_in : GoodIn wsX11_road wsX11_in := goodIn_r _ [5] (by decide +kernel) (by decide +kernel)
set_option maxRecDepth 20000 in
theorem gX11_road_X11_in : GoodIn wsX11_road (va_wsS RX11 64 yX11_in wsX11_in) := goodIn_app (goodIn_of _ (by decide +kernel)) ggX11_road_X11_in
set_option maxRecDepth 20000 in
theorem ggX11_road_X11_nearest : GoodIn wsX11_road wsX11_nearest := goodIn_r _ [9, 1, 10, 11, 12, 4, 13, 14, 15, 16, 17, 18, 19, 20, 21, 22, 23, 24, 25, 26, 27, 28, 29, 30, 31, 32, 33, 34, 35, 36, 37, 38, 39, 40, 41, 42, 43] (by decide +kernel) (by decide +kernel)
set_option maxRecDepth 20000 in
theorem gX11_road_X11_nearest : GoodIn wsX11_road (wsV RX11 297 RX11 yX11_nearest wsX11_nearest) := goodIn_app (goodIn_of _ (by decide +kernel)) ggX11_road_X11_nearest
set_option maxRecDepth 20000 in
theorem ggX11_road_X11_farthest : GoodIn wsX11_road wsX11_farthest := goodIn_r _ [13, 1, 14, 15, 16, 17, 18, 19, 20, 21, 22, 23, 24, 25, 26, 27, 28, 29, 30, 31, 32, 33, 34, 35, 36, 37, 38, 39, 40, 41, 42, 43] (by decide +kernel) (by decide +kernel)
set_option maxRecDepth 20000 in
theorem gX11_road_X11_farthest : GoodIn wsX11_road (wsV RX11 294 RX11 yX11_farthest wsX11_farthest) := goodIn_app (goodIn_of _ (by decide +kernel)) ggX11_road_X11_farthest
theorem dX11_road_0 : decode cX11_road 0 = .ok (.iload_n 1, 1) := by decide +kernel
theorem dX11_road_1 : decode cX11_road 1 = .ok (.i2l, 1) := by decide +kernel
theorem dX11_road_2 : decode cX11_road 2 = .ok (.lconst 0, 1) := by decide +kernel
theorem dX11_road_3 : decode cX11_road 3 = .ok (.lconst 1, 1) := by decide +kernel
theorem dX11_road_4 : decode cX11_road 4 = .ok (.invokestatic 64, 3) := by decide +kernel
theorem dX11_road_7 : decode cX11_road 7 = .ok (.ifCond .ne 5, 3) := by decide +kernel
theorem dX11_road_10 : decode cX11_road 10 = .ok (.iconst (-1), 1) := by decide +kernel
theorem dX11_road_11 : decode cX11_road 11 = .ok (.ireturn, 1) := by decide +kernel
theorem dX11_road_12 : decode cX11_road 12 = .ok (.aload_n 0, 1) := by decide +kernel
theorem dX11_road_13 : decode cX11_road 13 = .ok (.getfield 7, 3) := by decide +kernel
theorem dX11_road_16 : decode cX11_road 16 = .ok (.bipush 30, 2) := by decide +kernel
theorem dX11_road_18 : decode cX11_road 18 = .ok (.iaload, 1) := by decide +kernel
theorem dX11_road_19 : decode cX11_road 19 = .ok (.ifCond .ne 8, 3) := by decide +kernel
theorem dX11_road_22 : decode cX11_road 22 = .ok (.bipush (-2), 2) := by decide +kernel
theorem dX11_road_24 : decode cX11_road 24 = .ok (.goto 18, 3) := by decide +kernel
theorem dX11_road_27 : decode cX11_road 27 = .ok (.iload_n 1, 1) := by decide +kernel
theorem dX11_road_28 : decode cX11_road 28 = .ok (.ifCond .ne 10, 3) := by decide +kernel
theorem dX11_road_31 : decode cX11_road 31 = .ok (.aload_n 0, 1) := by decide +kernel
theorem dX11_road_32 : decode cX11_road 32 = .ok (.invokevirtual 297, 3) := by decide +kernel
theorem dX11_road_35 : decode cX11_road 35 = .ok (.goto 7, 3) := by decide +kernel
theorem dX11_road_38 : decode cX11_road 38 = .ok (.aload_n 0, 1) := by decide +kernel
theorem dX11_road_39 : decode cX11_road 39 = .ok (.invokevirtual 294, 3) := by decide +kernel
theorem dX11_road_42 : decode cX11_road 42 = .ok (.ireturn, 1) := by decide +kernel
set_option maxRecDepth 20000 in
theorem ggX11_reaches_X11_areTwo : GoodIn wsX11_reaches wsX11_areTwo := goodIn_r _ [6, 7, 8, 9, 5, 10, 1, 11, 12, 13, 14, 15, 16, 17, 18, 34, 35, 36, 37, 38, 39, 40, 41, 42, 43, 44, 45, 46, 47, 48, 49, 50, 51, 52, 53, 54, 55, 56, 57, 58, 59, 60, 61, 62, 63] (by decide +kernel) (by decide +kernel)
set_option maxRecDepth 20000 in
theorem gX11_reaches_X11_areTwo : GoodIn wsX11_reaches (wsV RX11 142 RX11 yX11_areTwo wsX11_areTwo) := goodIn_app (goodIn_of _ (by decide +kernel)) ggX11_reaches_X11_areTwo
set_option maxRecDepth 20000 in
theorem ggX11_reaches_X11_sq : GoodIn wsX11_reaches wsX11_sq := goodIn_r _ [22, 1, 23, 24, 5, 25, 34, 35, 36, 37, 38, 39, 40, 41, 42, 43, 44, 45, 46, 47, 48, 49, 50, 51, 52, 53, 54, 55, 56, 57, 58, 59, 60, 61, 62, 63] (by decide +kernel) (by decide +kernel)
set_option maxRecDepth 20000 in
theorem gX11_reaches_X11_sq : GoodIn wsX11_reaches (wsV RX11 149 RX11 yX11_sq wsX11_sq) := goodIn_app (goodIn_of _ (by decide +kernel)) ggX11_reaches_X11_sq
set_option maxRecDepth 20000 in
theorem ggX11_reaches_X11_nearest : GoodIn wsX11_reaches wsX11_nearest := goodIn_r _ [29, 1, 30, 31, 32, 5, 33, 34, 35, 36, 37, 38, 39, 40, 41, 42, 43, 44, 45, 46, 47, 48, 49, 50, 51, 52, 53, 54, 55, 56, 57, 58, 59, 60, 61, 62, 63] (by decide +kernel) (by decide +kernel)
set_option maxRecDepth 20000 in
theorem gX11_reaches_X11_nearest : GoodIn wsX11_reaches (wsV RX11 297 RX11 yX11_nearest wsX11_nearest) := goodIn_app (goodIn_of _ (by decide +kernel)) ggX11_reaches_X11_nearest
set_option maxRecDepth 20000 in
theorem ggX11_reaches_X11_farthest : GoodIn wsX11_reaches wsX11_farthest := goodIn_r _ [33, 1, 34, 35, 36, 37, 38, 39, 40, 41, 42, 43, 44, 45, 46, 47, 48, 49, 50, 51, 52, 53, 54, 55, 56, 57, 58, 59, 60, 61, 62, 63] (by decide +kernel) (by decide +kernel)
set_option maxRecDepth 20000 in
theorem gX11_reaches_X11_farthest : GoodIn wsX11_reaches (wsV RX11 294 RX11 yX11_farthest wsX11_farthest) := goodIn_app (goodIn_of _ (by decide +kernel)) ggX11_reaches_X11_farthest
set_option maxRecDepth 20000 in
theorem ggX11_reaches_X11_in : GoodIn wsX11_reaches wsX11_in := goodIn_r _ [18] (by decide +kernel) (by decide +kernel)
set_option maxRecDepth 20000 in
theorem gX11_reaches_X11_in : GoodIn wsX11_reaches (va_wsS RX11 64 yX11_in wsX11_in) := goodIn_app (goodIn_of _ (by decide +kernel)) ggX11_reaches_X11_in
theorem dX11_reaches_0 : decode cX11_reaches 0 = .ok (.aload_n 0, 1) := by decide +kernel
theorem dX11_reaches_1 : decode cX11_reaches 1 = .ok (.iload_n 1, 1) := by decide +kernel
theorem dX11_reaches_2 : decode cX11_reaches 2 = .ok (.iload_n 2, 1) := by decide +kernel
theorem dX11_reaches_3 : decode cX11_reaches 3 = .ok (.invokevirtual 142, 3) := by decide +kernel
theorem dX11_reaches_6 : decode cX11_reaches 6 = .ok (.ifCond .ne 5, 3) := by decide +kernel
theorem dX11_reaches_9 : decode cX11_reaches 9 = .ok (.iconst (-1), 1) := by decide +kernel
theorem dX11_reaches_10 : decode cX11_reaches 10 = .ok (.ireturn, 1) := by decide +kernel
theorem dX11_reaches_11 : decode cX11_reaches 11 = .ok (.aload_n 0, 1) := by decide +kernel
theorem dX11_reaches_12 : decode cX11_reaches 12 = .ok (.getfield 7, 3) := by decide +kernel
theorem dX11_reaches_15 : decode cX11_reaches 15 = .ok (.bipush 30, 2) := by decide +kernel
theorem dX11_reaches_17 : decode cX11_reaches 17 = .ok (.iaload, 1) := by decide +kernel
theorem dX11_reaches_18 : decode cX11_reaches 18 = .ok (.ifCond .ne 6, 3) := by decide +kernel
theorem dX11_reaches_21 : decode cX11_reaches 21 = .ok (.bipush (-2), 2) := by decide +kernel
theorem dX11_reaches_23 : decode cX11_reaches 23 = .ok (.ireturn, 1) := by decide +kernel
theorem dX11_reaches_24 : decode cX11_reaches 24 = .ok (.aload_n 0, 1) := by decide +kernel
theorem dX11_reaches_25 : decode cX11_reaches 25 = .ok (.iload_n 1, 1) := by decide +kernel
theorem dX11_reaches_26 : decode cX11_reaches 26 = .ok (.iload_n 2, 1) := by decide +kernel
theorem dX11_reaches_27 : decode cX11_reaches 27 = .ok (.invokevirtual 149, 3) := by decide +kernel
theorem dX11_reaches_30 : decode cX11_reaches 30 = .ok (.lconst 0, 1) := by decide +kernel
theorem dX11_reaches_31 : decode cX11_reaches 31 = .ok (.lcmp, 1) := by decide +kernel
theorem dX11_reaches_32 : decode cX11_reaches 32 = .ok (.ifCond .ne 8, 3) := by decide +kernel
theorem dX11_reaches_35 : decode cX11_reaches 35 = .ok (.bipush (-4), 2) := by decide +kernel
theorem dX11_reaches_37 : decode cX11_reaches 37 = .ok (.goto 40, 3) := by decide +kernel
theorem dX11_reaches_40 : decode cX11_reaches 40 = .ok (.aload_n 0, 1) := by decide +kernel
theorem dX11_reaches_41 : decode cX11_reaches 41 = .ok (.iload_n 1, 1) := by decide +kernel
theorem dX11_reaches_42 : decode cX11_reaches 42 = .ok (.iload_n 2, 1) := by decide +kernel
theorem dX11_reaches_43 : decode cX11_reaches 43 = .ok (.invokevirtual 149, 3) := by decide +kernel
theorem dX11_reaches_46 : decode cX11_reaches 46 = .ok (.aload_n 0, 1) := by decide +kernel
theorem dX11_reaches_47 : decode cX11_reaches 47 = .ok (.invokevirtual 297, 3) := by decide +kernel
theorem dX11_reaches_50 : decode cX11_reaches 50 = .ok (.aload_n 0, 1) := by decide +kernel
theorem dX11_reaches_51 : decode cX11_reaches 51 = .ok (.invokevirtual 297, 3) := by decide +kernel
theorem dX11_reaches_54 : decode cX11_reaches 54 = .ok (.imul, 1) := by decide +kernel
theorem dX11_reaches_55 : decode cX11_reaches 55 = .ok (.i2l, 1) := by decide +kernel
theorem dX11_reaches_56 : decode cX11_reaches 56 = .ok (.aload_n 0, 1) := by decide +kernel
theorem dX11_reaches_57 : decode cX11_reaches 57 = .ok (.invokevirtual 294, 3) := by decide +kernel
theorem dX11_reaches_60 : decode cX11_reaches 60 = .ok (.aload_n 0, 1) := by decide +kernel
theorem dX11_reaches_61 : decode cX11_reaches 61 = .ok (.invokevirtual 294, 3) := by decide +kernel
theorem dX11_reaches_64 : decode cX11_reaches 64 = .ok (.imul, 1) := by decide +kernel
theorem dX11_reaches_65 : decode cX11_reaches 65 = .ok (.i2l, 1) := by decide +kernel
theorem dX11_reaches_66 : decode cX11_reaches 66 = .ok (.invokestatic 64, 3) := by decide +kernel
theorem dX11_reaches_69 : decode cX11_reaches 69 = .ok (.ifCond .eq 7, 3) := by decide +kernel
theorem dX11_reaches_72 : decode cX11_reaches 72 = .ok (.iconst 1, 1) := by decide +kernel
theorem dX11_reaches_73 : decode cX11_reaches 73 = .ok (.goto 4, 3) := by decide +kernel
theorem dX11_reaches_76 : decode cX11_reaches 76 = .ok (.iconst 0, 1) := by decide +kernel
theorem dX11_reaches_77 : decode cX11_reaches 77 = .ok (.ireturn, 1) := by decide +kernel
theorem dX11_lengthMany_0 : decode cX11_lengthMany 0 = .ok (.iconst 0, 1) := by decide +kernel
theorem dX11_lengthMany_1 : decode cX11_lengthMany 1 = .ok (.istore_n 1, 1) := by decide +kernel
theorem dX11_lengthMany_2 : decode cX11_lengthMany 2 = .ok (.iconst 0, 1) := by decide +kernel
theorem dX11_lengthMany_3 : decode cX11_lengthMany 3 = .ok (.istore_n 2, 1) := by decide +kernel
theorem dX11_lengthMany_4 : decode cX11_lengthMany 4 = .ok (.iload_n 2, 1) := by decide +kernel
theorem dX11_lengthMany_5 : decode cX11_lengthMany 5 = .ok (.bipush 21, 2) := by decide +kernel
theorem dX11_lengthMany_7 : decode cX11_lengthMany 7 = .ok (.if_icmp .ge 26, 3) := by decide +kernel
theorem dX11_lengthMany_10 : decode cX11_lengthMany 10 = .ok (.iload_n 1, 1) := by decide +kernel
theorem dX11_lengthMany_11 : decode cX11_lengthMany 11 = .ok (.aload_n 0, 1) := by decide +kernel
theorem dX11_lengthMany_12 : decode cX11_lengthMany 12 = .ok (.getfield 7, 3) := by decide +kernel
theorem dX11_lengthMany_15 : decode cX11_lengthMany 15 = .ok (.iload_n 2, 1) := by decide +kernel
theorem dX11_lengthMany_16 : decode cX11_lengthMany 16 = .ok (.iaload, 1) := by decide +kernel
theorem dX11_lengthMany_17 : decode cX11_lengthMany 17 = .ok (.ifCond .le 7, 3) := by decide +kernel
theorem dX11_lengthMany_20 : decode cX11_lengthMany 20 = .ok (.iconst 1, 1) := by decide +kernel
theorem dX11_lengthMany_21 : decode cX11_lengthMany 21 = .ok (.goto 4, 3) := by decide +kernel
theorem dX11_lengthMany_24 : decode cX11_lengthMany 24 = .ok (.iconst 0, 1) := by decide +kernel
theorem dX11_lengthMany_25 : decode cX11_lengthMany 25 = .ok (.iadd, 1) := by decide +kernel
theorem dX11_lengthMany_26 : decode cX11_lengthMany 26 = .ok (.istore_n 1, 1) := by decide +kernel
theorem dX11_lengthMany_27 : decode cX11_lengthMany 27 = .ok (.iinc 2 1, 3) := by decide +kernel
theorem dX11_lengthMany_30 : decode cX11_lengthMany 30 = .ok (.goto (-26), 3) := by decide +kernel
theorem dX11_lengthMany_33 : decode cX11_lengthMany 33 = .ok (.iload_n 1, 1) := by decide +kernel
theorem dX11_lengthMany_34 : decode cX11_lengthMany 34 = .ok (.ireturn, 1) := by decide +kernel
set_option maxRecDepth 20000 in
theorem ggX11_keep_X11_awake : GoodIn wsX11_keep wsX11_awake := goodIn_r _ [7, 8, 1, 12, 13, 14, 15, 16, 17, 18, 19, 20, 21, 22, 23, 24, 25, 26, 27, 28, 29, 30, 31, 32, 33, 34, 35, 36, 37, 38, 39, 40, 41] (by decide +kernel) (by decide +kernel)
set_option maxRecDepth 20000 in
theorem gX11_keep_X11_awake : GoodIn wsX11_keep (wsV RX11 135 RX11 yX11_awake wsX11_awake) := goodIn_app (goodIn_of _ (by decide +kernel)) ggX11_keep_X11_awake
set_option maxRecDepth 20000 in
theorem ggX11_keep_X11_in : GoodIn wsX11_keep wsX11_in := goodIn_r _ [11] (by decide +kernel) (by decide +kernel)
set_option maxRecDepth 20000 in
theorem gX11_keep_X11_in : GoodIn wsX11_keep (va_wsS RX11 64 yX11_in wsX11_in) := goodIn_app (goodIn_of _ (by decide +kernel)) ggX11_keep_X11_in
theorem dX11_keep_0 : decode cX11_keep 0 = .ok (.aload_n 0, 1) := by decide +kernel
theorem dX11_keep_1 : decode cX11_keep 1 = .ok (.invokevirtual 135, 3) := by decide +kernel
theorem dX11_keep_4 : decode cX11_keep 4 = .ok (.iload_n 1, 1) := by decide +kernel
theorem dX11_keep_5 : decode cX11_keep 5 = .ok (.i2l, 1) := by decide +kernel
theorem dX11_keep_6 : decode cX11_keep 6 = .ok (.lconst 0, 1) := by decide +kernel
theorem dX11_keep_7 : decode cX11_keep 7 = .ok (.lconst 1, 1) := by decide +kernel
theorem dX11_keep_8 : decode cX11_keep 8 = .ok (.invokestatic 64, 3) := by decide +kernel
theorem dX11_keep_11 : decode cX11_keep 11 = .ok (.ifCond .ne 5, 3) := by decide +kernel
theorem dX11_keep_14 : decode cX11_keep 14 = .ok (.iconst (-1), 1) := by decide +kernel
theorem dX11_keep_15 : decode cX11_keep 15 = .ok (.ireturn, 1) := by decide +kernel
theorem dX11_keep_16 : decode cX11_keep 16 = .ok (.iconst 0, 1) := by decide +kernel
theorem dX11_keep_17 : decode cX11_keep 17 = .ok (.istore_n 2, 1) := by decide +kernel
theorem dX11_keep_18 : decode cX11_keep 18 = .ok (.iload_n 2, 1) := by decide +kernel
theorem dX11_keep_19 : decode cX11_keep 19 = .ok (.bipush 32, 2) := by decide +kernel
theorem dX11_keep_21 : decode cX11_keep 21 = .ok (.if_icmp .ge 28, 3) := by decide +kernel
theorem dX11_keep_24 : decode cX11_keep 24 = .ok (.aload_n 0, 1) := by decide +kernel
theorem dX11_keep_25 : decode cX11_keep 25 = .ok (.getfield 7, 3) := by decide +kernel
theorem dX11_keep_28 : decode cX11_keep 28 = .ok (.bipush 32, 2) := by decide +kernel
theorem dX11_keep_30 : decode cX11_keep 30 = .ok (.iload_n 1, 1) := by decide +kernel
theorem dX11_keep_31 : decode cX11_keep 31 = .ok (.iconst 1, 1) := by decide +kernel
theorem dX11_keep_32 : decode cX11_keep 32 = .ok (.iadd, 1) := by decide +kernel
theorem dX11_keep_33 : decode cX11_keep 33 = .ok (.imul, 1) := by decide +kernel
theorem dX11_keep_34 : decode cX11_keep 34 = .ok (.iload_n 2, 1) := by decide +kernel
theorem dX11_keep_35 : decode cX11_keep 35 = .ok (.iadd, 1) := by decide +kernel
theorem dX11_keep_36 : decode cX11_keep 36 = .ok (.aload_n 0, 1) := by decide +kernel
theorem dX11_keep_37 : decode cX11_keep 37 = .ok (.getfield 7, 3) := by decide +kernel
theorem dX11_keep_40 : decode cX11_keep 40 = .ok (.iload_n 2, 1) := by decide +kernel
theorem dX11_keep_41 : decode cX11_keep 41 = .ok (.iaload, 1) := by decide +kernel
theorem dX11_keep_42 : decode cX11_keep 42 = .ok (.iastore, 1) := by decide +kernel
theorem dX11_keep_43 : decode cX11_keep 43 = .ok (.iinc 2 1, 3) := by decide +kernel
theorem dX11_keep_46 : decode cX11_keep 46 = .ok (.goto (-28), 3) := by decide +kernel
theorem dX11_keep_49 : decode cX11_keep 49 = .ok (.aload_n 0, 1) := by decide +kernel
theorem dX11_keep_50 : decode cX11_keep 50 = .ok (.getfield 40, 3) := by decide +kernel
theorem dX11_keep_53 : decode cX11_keep 53 = .ok (.iload_n 1, 1) := by decide +kernel
theorem dX11_keep_54 : decode cX11_keep 54 = .ok (.baload, 1) := by decide +kernel
theorem dX11_keep_55 : decode cX11_keep 55 = .ok (.ifCond .eq 7, 3) := by decide +kernel
theorem dX11_keep_58 : decode cX11_keep 58 = .ok (.iconst 1, 1) := by decide +kernel
theorem dX11_keep_59 : decode cX11_keep 59 = .ok (.goto 4, 3) := by decide +kernel
theorem dX11_keep_62 : decode cX11_keep 62 = .ok (.iconst 0, 1) := by decide +kernel
theorem dX11_keep_63 : decode cX11_keep 63 = .ok (.istore_n 2, 1) := by decide +kernel
theorem dX11_keep_64 : decode cX11_keep 64 = .ok (.aload_n 0, 1) := by decide +kernel
theorem dX11_keep_65 : decode cX11_keep 65 = .ok (.getfield 40, 3) := by decide +kernel
theorem dX11_keep_68 : decode cX11_keep 68 = .ok (.iload_n 1, 1) := by decide +kernel
theorem dX11_keep_69 : decode cX11_keep 69 = .ok (.iconst 1, 1) := by decide +kernel
theorem dX11_keep_70 : decode cX11_keep 70 = .ok (.bastore, 1) := by decide +kernel
theorem dX11_keep_71 : decode cX11_keep 71 = .ok (.iload_n 2, 1) := by decide +kernel
theorem dX11_keep_72 : decode cX11_keep 72 = .ok (.ireturn, 1) := by decide +kernel
set_option maxRecDepth 20000 in
theorem ggX11_back_X11_in : GoodIn wsX11_back wsX11_in := goodIn_r _ [6] (by decide +kernel) (by decide +kernel)
set_option maxRecDepth 20000 in
theorem gX11_back_X11_in : GoodIn wsX11_back (va_wsS RX11 64 yX11_in wsX11_in) := goodIn_app (goodIn_of _ (by decide +kernel)) ggX11_back_X11_in
set_option maxRecDepth 20000 in
theorem ggX11_back_X11_lengthMany : GoodIn wsX11_back wsX11_lengthMany := goodIn_r _ [10, 2, 11, 12, 13, 14, 15, 16, 17, 18, 19, 20, 21, 22, 23, 24, 25, 26, 27, 28, 29, 30, 31, 32, 33, 34, 35, 36, 37, 38, 39, 40] (by decide +kernel) (by decide +kernel)
set_option maxRecDepth 20000 in
theorem gX11_back_X11_lengthMany : GoodIn wsX11_back (wsV RX11 300 RX11 yX11_lengthMany wsX11_lengthMany) := goodIn_app (goodIn_of _ (by decide +kernel)) ggX11_back_X11_lengthMany
theorem dX11_back_0 : decode cX11_back 0 = .ok (.iload_n 1, 1) := by decide +kernel
theorem dX11_back_1 : decode cX11_back 1 = .ok (.i2l, 1) := by decide +kernel
theorem dX11_back_2 : decode cX11_back 2 = .ok (.lconst 0, 1) := by decide +kernel
theorem dX11_back_3 : decode cX11_back 3 = .ok (.lconst 1, 1) := by decide +kernel
theorem dX11_back_4 : decode cX11_back 4 = .ok (.invokestatic 64, 3) := by decide +kernel
theorem dX11_back_7 : decode cX11_back 7 = .ok (.ifCond .ne 5, 3) := by decide +kernel
theorem dX11_back_10 : decode cX11_back 10 = .ok (.iconst (-1), 1) := by decide +kernel
theorem dX11_back_11 : decode cX11_back 11 = .ok (.ireturn, 1) := by decide +kernel
theorem dX11_back_12 : decode cX11_back 12 = .ok (.aload_n 0, 1) := by decide +kernel
theorem dX11_back_13 : decode cX11_back 13 = .ok (.getfield 40, 3) := by decide +kernel
theorem dX11_back_16 : decode cX11_back 16 = .ok (.iload_n 1, 1) := by decide +kernel
theorem dX11_back_17 : decode cX11_back 17 = .ok (.baload, 1) := by decide +kernel
theorem dX11_back_18 : decode cX11_back 18 = .ok (.ifCond .ne 6, 3) := by decide +kernel
theorem dX11_back_21 : decode cX11_back 21 = .ok (.bipush (-2), 2) := by decide +kernel
theorem dX11_back_23 : decode cX11_back 23 = .ok (.ireturn, 1) := by decide +kernel
theorem dX11_back_24 : decode cX11_back 24 = .ok (.iconst 0, 1) := by decide +kernel
theorem dX11_back_25 : decode cX11_back 25 = .ok (.istore_n 2, 1) := by decide +kernel
theorem dX11_back_26 : decode cX11_back 26 = .ok (.iload_n 2, 1) := by decide +kernel
theorem dX11_back_27 : decode cX11_back 27 = .ok (.bipush 32, 2) := by decide +kernel
theorem dX11_back_29 : decode cX11_back 29 = .ok (.if_icmp .ge 28, 3) := by decide +kernel
theorem dX11_back_32 : decode cX11_back 32 = .ok (.aload_n 0, 1) := by decide +kernel
theorem dX11_back_33 : decode cX11_back 33 = .ok (.getfield 7, 3) := by decide +kernel
theorem dX11_back_36 : decode cX11_back 36 = .ok (.iload_n 2, 1) := by decide +kernel
theorem dX11_back_37 : decode cX11_back 37 = .ok (.aload_n 0, 1) := by decide +kernel
theorem dX11_back_38 : decode cX11_back 38 = .ok (.getfield 7, 3) := by decide +kernel
theorem dX11_back_41 : decode cX11_back 41 = .ok (.bipush 32, 2) := by decide +kernel
theorem dX11_back_43 : decode cX11_back 43 = .ok (.iload_n 1, 1) := by decide +kernel
theorem dX11_back_44 : decode cX11_back 44 = .ok (.iconst 1, 1) := by decide +kernel
theorem dX11_back_45 : decode cX11_back 45 = .ok (.iadd, 1) := by decide +kernel
theorem dX11_back_46 : decode cX11_back 46 = .ok (.imul, 1) := by decide +kernel
theorem dX11_back_47 : decode cX11_back 47 = .ok (.iload_n 2, 1) := by decide +kernel
theorem dX11_back_48 : decode cX11_back 48 = .ok (.iadd, 1) := by decide +kernel
theorem dX11_back_49 : decode cX11_back 49 = .ok (.iaload, 1) := by decide +kernel
theorem dX11_back_50 : decode cX11_back 50 = .ok (.iastore, 1) := by decide +kernel
theorem dX11_back_51 : decode cX11_back 51 = .ok (.iinc 2 1, 3) := by decide +kernel
theorem dX11_back_54 : decode cX11_back 54 = .ok (.goto (-28), 3) := by decide +kernel
theorem dX11_back_57 : decode cX11_back 57 = .ok (.aload_n 0, 1) := by decide +kernel
theorem dX11_back_58 : decode cX11_back 58 = .ok (.invokevirtual 300, 3) := by decide +kernel
theorem dX11_back_61 : decode cX11_back 61 = .ok (.ireturn, 1) := by decide +kernel
set_option maxRecDepth 20000 in
theorem ggX11_sheet_X11_in : GoodIn wsX11_sheet wsX11_in := goodIn_r _ [9] (by decide +kernel) (by decide +kernel)
set_option maxRecDepth 20000 in
theorem gX11_sheet_X11_in : GoodIn wsX11_sheet (va_wsS RX11 64 yX11_in wsX11_in) := goodIn_app (goodIn_of _ (by decide +kernel)) ggX11_sheet_X11_in
theorem dX11_sheet_0 : decode cX11_sheet 0 = .ok (.iload_n 1, 1) := by decide +kernel
theorem dX11_sheet_1 : decode cX11_sheet 1 = .ok (.i2l, 1) := by decide +kernel
theorem dX11_sheet_2 : decode cX11_sheet 2 = .ok (.lconst 0, 1) := by decide +kernel
theorem dX11_sheet_3 : decode cX11_sheet 3 = .ok (.ldc2_w 194, 3) := by decide +kernel
theorem dX11_sheet_6 : decode cX11_sheet 6 = .ok (.invokestatic 64, 3) := by decide +kernel
theorem dX11_sheet_9 : decode cX11_sheet 9 = .ok (.ifCond .eq 21, 3) := by decide +kernel
theorem dX11_sheet_12 : decode cX11_sheet 12 = .ok (.iload_n 2, 1) := by decide +kernel
theorem dX11_sheet_13 : decode cX11_sheet 13 = .ok (.i2l, 1) := by decide +kernel
theorem dX11_sheet_14 : decode cX11_sheet 14 = .ok (.lconst 0, 1) := by decide +kernel
theorem dX11_sheet_15 : decode cX11_sheet 15 = .ok (.ldc2_w 179, 3) := by decide +kernel
theorem dX11_sheet_18 : decode cX11_sheet 18 = .ok (.invokestatic 64, 3) := by decide +kernel
theorem dX11_sheet_21 : decode cX11_sheet 21 = .ok (.ifCond .eq 9, 3) := by decide +kernel
theorem dX11_sheet_24 : decode cX11_sheet 24 = .ok (.iload_n 3, 1) := by decide +kernel
theorem dX11_sheet_25 : decode cX11_sheet 25 = .ok (.bipush 40, 2) := by decide +kernel
theorem dX11_sheet_27 : decode cX11_sheet 27 = .ok (.if_icmp .le 5, 3) := by decide +kernel
theorem dX11_sheet_30 : decode cX11_sheet 30 = .ok (.iconst (-1), 1) := by decide +kernel
theorem dX11_sheet_31 : decode cX11_sheet 31 = .ok (.ireturn, 1) := by decide +kernel
theorem dX11_sheet_32 : decode cX11_sheet 32 = .ok (.iload_n 3, 1) := by decide +kernel
theorem dX11_sheet_33 : decode cX11_sheet 33 = .ok (.ifCond .ge 6, 3) := by decide +kernel
theorem dX11_sheet_36 : decode cX11_sheet 36 = .ok (.bipush (-14), 2) := by decide +kernel
theorem dX11_sheet_38 : decode cX11_sheet 38 = .ok (.ireturn, 1) := by decide +kernel
theorem dX11_sheet_39 : decode cX11_sheet 39 = .ok (.aload_n 0, 1) := by decide +kernel
theorem dX11_sheet_40 : decode cX11_sheet 40 = .ok (.getfield 44, 3) := by decide +kernel
theorem dX11_sheet_43 : decode cX11_sheet 43 = .ok (.iload_n 1, 1) := by decide +kernel
theorem dX11_sheet_44 : decode cX11_sheet 44 = .ok (.iload_n 2, 1) := by decide +kernel
theorem dX11_sheet_45 : decode cX11_sheet 45 = .ok (.iastore, 1) := by decide +kernel
theorem dX11_sheet_46 : decode cX11_sheet 46 = .ok (.aload_n 0, 1) := by decide +kernel
theorem dX11_sheet_47 : decode cX11_sheet 47 = .ok (.getfield 47, 3) := by decide +kernel
theorem dX11_sheet_50 : decode cX11_sheet 50 = .ok (.iload_n 1, 1) := by decide +kernel
theorem dX11_sheet_51 : decode cX11_sheet 51 = .ok (.iload_n 3, 1) := by decide +kernel
theorem dX11_sheet_52 : decode cX11_sheet 52 = .ok (.iastore, 1) := by decide +kernel
theorem dX11_sheet_53 : decode cX11_sheet 53 = .ok (.iconst 0, 1) := by decide +kernel
theorem dX11_sheet_54 : decode cX11_sheet 54 = .ok (.istore 4, 2) := by decide +kernel
theorem dX11_sheet_56 : decode cX11_sheet 56 = .ok (.iload 4, 2) := by decide +kernel
theorem dX11_sheet_58 : decode cX11_sheet 58 = .ok (.bipush 40, 2) := by decide +kernel
theorem dX11_sheet_60 : decode cX11_sheet 60 = .ok (.if_icmp .ge 22, 3) := by decide +kernel
theorem dX11_sheet_63 : decode cX11_sheet 63 = .ok (.aload_n 0, 1) := by decide +kernel
theorem dX11_sheet_64 : decode cX11_sheet 64 = .ok (.getfield 50, 3) := by decide +kernel
theorem dX11_sheet_67 : decode cX11_sheet 67 = .ok (.bipush 40, 2) := by decide +kernel
theorem dX11_sheet_69 : decode cX11_sheet 69 = .ok (.iload_n 1, 1) := by decide +kernel
theorem dX11_sheet_70 : decode cX11_sheet 70 = .ok (.imul, 1) := by decide +kernel
theorem dX11_sheet_71 : decode cX11_sheet 71 = .ok (.iload 4, 2) := by decide +kernel
theorem dX11_sheet_73 : decode cX11_sheet 73 = .ok (.iadd, 1) := by decide +kernel
theorem dX11_sheet_74 : decode cX11_sheet 74 = .ok (.iconst 0, 1) := by decide +kernel
theorem dX11_sheet_75 : decode cX11_sheet 75 = .ok (.iastore, 1) := by decide +kernel
theorem dX11_sheet_76 : decode cX11_sheet 76 = .ok (.iinc 4 1, 3) := by decide +kernel
theorem dX11_sheet_79 : decode cX11_sheet 79 = .ok (.goto (-23), 3) := by decide +kernel
theorem dX11_sheet_82 : decode cX11_sheet 82 = .ok (.iconst 1, 1) := by decide +kernel
theorem dX11_sheet_83 : decode cX11_sheet 83 = .ok (.ireturn, 1) := by decide +kernel
set_option maxRecDepth 20000 in
theorem ggX11_lay_X11_in : GoodIn wsX11_lay wsX11_in := goodIn_r _ [8] (by decide +kernel) (by decide +kernel)
set_option maxRecDepth 20000 in
theorem gX11_lay_X11_in : GoodIn wsX11_lay (va_wsS RX11 64 yX11_in wsX11_in) := goodIn_app (goodIn_of _ (by decide +kernel)) ggX11_lay_X11_in
theorem dX11_lay_0 : decode cX11_lay 0 = .ok (.iload_n 1, 1) := by decide +kernel
theorem dX11_lay_1 : decode cX11_lay 1 = .ok (.i2l, 1) := by decide +kernel
theorem dX11_lay_2 : decode cX11_lay 2 = .ok (.lconst 0, 1) := by decide +kernel
theorem dX11_lay_3 : decode cX11_lay 3 = .ok (.ldc2_w 194, 3) := by decide +kernel
theorem dX11_lay_6 : decode cX11_lay 6 = .ok (.invokestatic 64, 3) := by decide +kernel
theorem dX11_lay_9 : decode cX11_lay 9 = .ok (.ifCond .ne 5, 3) := by decide +kernel
theorem dX11_lay_12 : decode cX11_lay 12 = .ok (.iconst (-1), 1) := by decide +kernel
theorem dX11_lay_13 : decode cX11_lay 13 = .ok (.ireturn, 1) := by decide +kernel
theorem dX11_lay_14 : decode cX11_lay 14 = .ok (.aload_n 0, 1) := by decide +kernel
theorem dX11_lay_15 : decode cX11_lay 15 = .ok (.getfield 44, 3) := by decide +kernel
theorem dX11_lay_18 : decode cX11_lay 18 = .ok (.iload_n 1, 1) := by decide +kernel
theorem dX11_lay_19 : decode cX11_lay 19 = .ok (.iaload, 1) := by decide +kernel
theorem dX11_lay_20 : decode cX11_lay 20 = .ok (.bipush (-4), 2) := by decide +kernel
theorem dX11_lay_22 : decode cX11_lay 22 = .ok (.if_icmp .ne 6, 3) := by decide +kernel
theorem dX11_lay_25 : decode cX11_lay 25 = .ok (.bipush (-11), 2) := by decide +kernel
theorem dX11_lay_27 : decode cX11_lay 27 = .ok (.ireturn, 1) := by decide +kernel
theorem dX11_lay_28 : decode cX11_lay 28 = .ok (.iload_n 2, 1) := by decide +kernel
theorem dX11_lay_29 : decode cX11_lay 29 = .ok (.i2l, 1) := by decide +kernel
theorem dX11_lay_30 : decode cX11_lay 30 = .ok (.lconst 0, 1) := by decide +kernel
theorem dX11_lay_31 : decode cX11_lay 31 = .ok (.aload_n 0, 1) := by decide +kernel
theorem dX11_lay_32 : decode cX11_lay 32 = .ok (.getfield 47, 3) := by decide +kernel
theorem dX11_lay_35 : decode cX11_lay 35 = .ok (.iload_n 1, 1) := by decide +kernel
theorem dX11_lay_36 : decode cX11_lay 36 = .ok (.iaload, 1) := by decide +kernel
theorem dX11_lay_37 : decode cX11_lay 37 = .ok (.iconst 1, 1) := by decide +kernel
theorem dX11_lay_38 : decode cX11_lay 38 = .ok (.isub, 1) := by decide +kernel
theorem dX11_lay_39 : decode cX11_lay 39 = .ok (.i2l, 1) := by decide +kernel
theorem dX11_lay_40 : decode cX11_lay 40 = .ok (.invokestatic 64, 3) := by decide +kernel
theorem dX11_lay_43 : decode cX11_lay 43 = .ok (.ifCond .ne 6, 3) := by decide +kernel
theorem dX11_lay_46 : decode cX11_lay 46 = .ok (.bipush (-12), 2) := by decide +kernel
theorem dX11_lay_48 : decode cX11_lay 48 = .ok (.ireturn, 1) := by decide +kernel
theorem dX11_lay_49 : decode cX11_lay 49 = .ok (.aload_n 0, 1) := by decide +kernel
theorem dX11_lay_50 : decode cX11_lay 50 = .ok (.getfield 50, 3) := by decide +kernel
theorem dX11_lay_53 : decode cX11_lay 53 = .ok (.bipush 40, 2) := by decide +kernel
theorem dX11_lay_55 : decode cX11_lay 55 = .ok (.iload_n 1, 1) := by decide +kernel
theorem dX11_lay_56 : decode cX11_lay 56 = .ok (.imul, 1) := by decide +kernel
theorem dX11_lay_57 : decode cX11_lay 57 = .ok (.iload_n 2, 1) := by decide +kernel
theorem dX11_lay_58 : decode cX11_lay 58 = .ok (.iadd, 1) := by decide +kernel
theorem dX11_lay_59 : decode cX11_lay 59 = .ok (.aload_n 0, 1) := by decide +kernel
theorem dX11_lay_60 : decode cX11_lay 60 = .ok (.getfield 44, 3) := by decide +kernel
theorem dX11_lay_63 : decode cX11_lay 63 = .ok (.iload_n 1, 1) := by decide +kernel
theorem dX11_lay_64 : decode cX11_lay 64 = .ok (.iaload, 1) := by decide +kernel
theorem dX11_lay_65 : decode cX11_lay 65 = .ok (.ifCond .ne 13, 3) := by decide +kernel
theorem dX11_lay_68 : decode cX11_lay 68 = .ok (.iload_n 3, 1) := by decide +kernel
theorem dX11_lay_69 : decode cX11_lay 69 = .ok (.bipush 24, 2) := by decide +kernel
theorem dX11_lay_71 : decode cX11_lay 71 = .ok (.ishl, 1) := by decide +kernel
theorem dX11_lay_72 : decode cX11_lay 72 = .ok (.bipush 24, 2) := by decide +kernel
theorem dX11_lay_74 : decode cX11_lay 74 = .ok (.ishr, 1) := by decide +kernel
theorem dX11_lay_75 : decode cX11_lay 75 = .ok (.goto 24, 3) := by decide +kernel
theorem dX11_lay_78 : decode cX11_lay 78 = .ok (.aload_n 0, 1) := by decide +kernel
theorem dX11_lay_79 : decode cX11_lay 79 = .ok (.getfield 44, 3) := by decide +kernel
theorem dX11_lay_82 : decode cX11_lay 82 = .ok (.iload_n 1, 1) := by decide +kernel
theorem dX11_lay_83 : decode cX11_lay 83 = .ok (.iaload, 1) := by decide +kernel
theorem dX11_lay_84 : decode cX11_lay 84 = .ok (.iconst 1, 1) := by decide +kernel
theorem dX11_lay_85 : decode cX11_lay 85 = .ok (.if_icmp .ne 13, 3) := by decide +kernel
theorem dX11_lay_88 : decode cX11_lay 88 = .ok (.iload_n 3, 1) := by decide +kernel
theorem dX11_lay_89 : decode cX11_lay 89 = .ok (.bipush 16, 2) := by decide +kernel
theorem dX11_lay_91 : decode cX11_lay 91 = .ok (.ishl, 1) := by decide +kernel
theorem dX11_lay_92 : decode cX11_lay 92 = .ok (.bipush 16, 2) := by decide +kernel
theorem dX11_lay_94 : decode cX11_lay 94 = .ok (.ishr, 1) := by decide +kernel
theorem dX11_lay_95 : decode cX11_lay 95 = .ok (.goto 4, 3) := by decide +kernel
theorem dX11_lay_98 : decode cX11_lay 98 = .ok (.iload_n 3, 1) := by decide +kernel
theorem dX11_lay_99 : decode cX11_lay 99 = .ok (.iastore, 1) := by decide +kernel
theorem dX11_lay_100 : decode cX11_lay 100 = .ok (.iconst 1, 1) := by decide +kernel
theorem dX11_lay_101 : decode cX11_lay 101 = .ok (.ireturn, 1) := by decide +kernel
set_option maxRecDepth 20000 in
theorem ggX11_read_X11_awake : GoodIn wsX11_read wsX11_awake := goodIn_r _ [14, 15, 5, 39, 40, 41, 42, 43, 44, 45, 46, 47, 48, 49, 50, 51, 52, 53, 54, 55, 56, 57, 58, 59, 60, 61, 62, 63, 64, 65, 66, 67, 68] (by decide +kernel) (by decide +kernel)
set_option maxRecDepth 20000 in
theorem gX11_read_X11_awake : GoodIn wsX11_read (wsV RX11 135 RX11 yX11_awake wsX11_awake) := goodIn_app (goodIn_of _ (by decide +kernel)) ggX11_read_X11_awake
set_option maxRecDepth 20000 in
theorem ggX11_read_X11_in : GoodIn wsX11_read wsX11_in := goodIn_r _ [18] (by decide +kernel) (by decide +kernel)
set_option maxRecDepth 20000 in
theorem gX11_read_X11_in : GoodIn wsX11_read (va_wsS RX11 64 yX11_in wsX11_in) := goodIn_app (goodIn_of _ (by decide +kernel)) ggX11_read_X11_in
set_option maxRecDepth 20000 in
theorem ggX11_read_X11_tells2 : GoodIn wsX11_read wsX11_tells2 := goodIn_r _ [22, 23, 5, 24, 25, 26, 13, 27, 28, 29, 30, 31, 10, 11, 12, 14, 15, 16, 17, 18, 32, 33, 34, 35, 36, 37, 38, 39, 40, 41, 42, 43, 44, 45, 46, 47, 48, 49, 50, 51, 52, 53, 54, 55, 56, 57, 58, 59, 60, 61, 62, 63, 64, 65, 66, 67, 68] (by decide +kernel) (by decide +kernel)
set_option maxRecDepth 20000 in
theorem gX11_read_X11_tells2 : GoodIn wsX11_read (wsV RX11 158 RX11 yX11_tells2 wsX11_tells2) := goodIn_app (goodIn_of _ (by decide +kernel)) ggX11_read_X11_tells2
theorem dX11_read_0 : decode cX11_read 0 = .ok (.aload_n 0, 1) := by decide +kernel
theorem dX11_read_1 : decode cX11_read 1 = .ok (.invokevirtual 135, 3) := by decide +kernel
theorem dX11_read_4 : decode cX11_read 4 = .ok (.iload_n 1, 1) := by decide +kernel
theorem dX11_read_5 : decode cX11_read 5 = .ok (.i2l, 1) := by decide +kernel
theorem dX11_read_6 : decode cX11_read 6 = .ok (.lconst 0, 1) := by decide +kernel
theorem dX11_read_7 : decode cX11_read 7 = .ok (.ldc2_w 194, 3) := by decide +kernel
theorem dX11_read_10 : decode cX11_read 10 = .ok (.invokestatic 64, 3) := by decide +kernel
theorem dX11_read_13 : decode cX11_read 13 = .ok (.ifCond .eq 28, 3) := by decide +kernel
theorem dX11_read_16 : decode cX11_read 16 = .ok (.iload_n 2, 1) := by decide +kernel
theorem dX11_read_17 : decode cX11_read 17 = .ok (.i2l, 1) := by decide +kernel
theorem dX11_read_18 : decode cX11_read 18 = .ok (.lconst 0, 1) := by decide +kernel
theorem dX11_read_19 : decode cX11_read 19 = .ok (.ldc2_w 179, 3) := by decide +kernel
theorem dX11_read_22 : decode cX11_read 22 = .ok (.invokestatic 64, 3) := by decide +kernel
theorem dX11_read_25 : decode cX11_read 25 = .ok (.ifCond .eq 16, 3) := by decide +kernel
theorem dX11_read_28 : decode cX11_read 28 = .ok (.iload 4, 2) := by decide +kernel
theorem dX11_read_30 : decode cX11_read 30 = .ok (.i2l, 1) := by decide +kernel
theorem dX11_read_31 : decode cX11_read 31 = .ok (.lconst 0, 1) := by decide +kernel
theorem dX11_read_32 : decode cX11_read 32 = .ok (.ldc2_w 303, 3) := by decide +kernel
theorem dX11_read_35 : decode cX11_read 35 = .ok (.invokestatic 64, 3) := by decide +kernel
theorem dX11_read_38 : decode cX11_read 38 = .ok (.ifCond .ne 5, 3) := by decide +kernel
theorem dX11_read_41 : decode cX11_read 41 = .ok (.iconst (-1), 1) := by decide +kernel
theorem dX11_read_42 : decode cX11_read 42 = .ok (.ireturn, 1) := by decide +kernel
theorem dX11_read_43 : decode cX11_read 43 = .ok (.iconst 0, 1) := by decide +kernel
theorem dX11_read_44 : decode cX11_read 44 = .ok (.istore 5, 2) := by decide +kernel
theorem dX11_read_46 : decode cX11_read 46 = .ok (.iconst 0, 1) := by decide +kernel
theorem dX11_read_47 : decode cX11_read 47 = .ok (.istore 6, 2) := by decide +kernel
theorem dX11_read_49 : decode cX11_read 49 = .ok (.iconst 0, 1) := by decide +kernel
theorem dX11_read_50 : decode cX11_read 50 = .ok (.istore 7, 2) := by decide +kernel
theorem dX11_read_52 : decode cX11_read 52 = .ok (.iconst 0, 1) := by decide +kernel
theorem dX11_read_53 : decode cX11_read 53 = .ok (.istore 8, 2) := by decide +kernel
theorem dX11_read_55 : decode cX11_read 55 = .ok (.iload 8, 2) := by decide +kernel
theorem dX11_read_57 : decode cX11_read 57 = .ok (.bipush 21, 2) := by decide +kernel
theorem dX11_read_59 : decode cX11_read 59 = .ok (.if_icmp .ge 23, 3) := by decide +kernel
theorem dX11_read_62 : decode cX11_read 62 = .ok (.aload_n 0, 1) := by decide +kernel
theorem dX11_read_63 : decode cX11_read 63 = .ok (.getfield 53, 3) := by decide +kernel
theorem dX11_read_66 : decode cX11_read 66 = .ok (.iload 8, 2) := by decide +kernel
theorem dX11_read_68 : decode cX11_read 68 = .ok (.aload_n 0, 1) := by decide +kernel
theorem dX11_read_69 : decode cX11_read 69 = .ok (.getfield 7, 3) := by decide +kernel
theorem dX11_read_72 : decode cX11_read 72 = .ok (.iload 8, 2) := by decide +kernel
theorem dX11_read_74 : decode cX11_read 74 = .ok (.iaload, 1) := by decide +kernel
theorem dX11_read_75 : decode cX11_read 75 = .ok (.iastore, 1) := by decide +kernel
theorem dX11_read_76 : decode cX11_read 76 = .ok (.iinc 8 1, 3) := by decide +kernel
theorem dX11_read_79 : decode cX11_read 79 = .ok (.goto (-24), 3) := by decide +kernel
theorem dX11_read_82 : decode cX11_read 82 = .ok (.iconst 0, 1) := by decide +kernel
theorem dX11_read_83 : decode cX11_read 83 = .ok (.istore 8, 2) := by decide +kernel
theorem dX11_read_85 : decode cX11_read 85 = .ok (.iload 8, 2) := by decide +kernel
theorem dX11_read_87 : decode cX11_read 87 = .ok (.iconst 3, 1) := by decide +kernel
theorem dX11_read_88 : decode cX11_read 88 = .ok (.iload 4, 2) := by decide +kernel
theorem dX11_read_90 : decode cX11_read 90 = .ok (.imul, 1) := by decide +kernel
theorem dX11_read_91 : decode cX11_read 91 = .ok (.if_icmp .ge 168, 3) := by decide +kernel
theorem dX11_read_94 : decode cX11_read 94 = .ok (.iload 5, 2) := by decide +kernel
theorem dX11_read_96 : decode cX11_read 96 = .ok (.ifCond .ne 163, 3) := by decide +kernel
theorem dX11_read_99 : decode cX11_read 99 = .ok (.iload 7, 2) := by decide +kernel
theorem dX11_read_101 : decode cX11_read 101 = .ok (.ifCond .ne 158, 3) := by decide +kernel
theorem dX11_read_104 : decode cX11_read 104 = .ok (.aload_n 0, 1) := by decide +kernel
theorem dX11_read_105 : decode cX11_read 105 = .ok (.getfield 44, 3) := by decide +kernel
theorem dX11_read_108 : decode cX11_read 108 = .ok (.iload_n 1, 1) := by decide +kernel
theorem dX11_read_109 : decode cX11_read 109 = .ok (.iaload, 1) := by decide +kernel
theorem dX11_read_110 : decode cX11_read 110 = .ok (.bipush (-4), 2) := by decide +kernel
theorem dX11_read_112 : decode cX11_read 112 = .ok (.if_icmp .ne 7, 3) := by decide +kernel
theorem dX11_read_115 : decode cX11_read 115 = .ok (.iconst 1, 1) := by decide +kernel
theorem dX11_read_116 : decode cX11_read 116 = .ok (.goto 44, 3) := by decide +kernel
theorem dX11_read_119 : decode cX11_read 119 = .ok (.aload_n 0, 1) := by decide +kernel
theorem dX11_read_120 : decode cX11_read 120 = .ok (.getfield 44, 3) := by decide +kernel
theorem dX11_read_123 : decode cX11_read 123 = .ok (.iload_n 1, 1) := by decide +kernel
theorem dX11_read_124 : decode cX11_read 124 = .ok (.iaload, 1) := by decide +kernel
theorem dX11_read_125 : decode cX11_read 125 = .ok (.iload_n 2, 1) := by decide +kernel
theorem dX11_read_126 : decode cX11_read 126 = .ok (.if_icmp .eq 7, 3) := by decide +kernel
theorem dX11_read_129 : decode cX11_read 129 = .ok (.iconst 3, 1) := by decide +kernel
theorem dX11_read_130 : decode cX11_read 130 = .ok (.goto 30, 3) := by decide +kernel
theorem dX11_read_133 : decode cX11_read 133 = .ok (.iload_n 3, 1) := by decide +kernel
theorem dX11_read_134 : decode cX11_read 134 = .ok (.i2l, 1) := by decide +kernel
theorem dX11_read_135 : decode cX11_read 135 = .ok (.iload 8, 2) := by decide +kernel
theorem dX11_read_137 : decode cX11_read 137 = .ok (.i2l, 1) := by decide +kernel
theorem dX11_read_138 : decode cX11_read 138 = .ok (.ladd, 1) := by decide +kernel
theorem dX11_read_139 : decode cX11_read 139 = .ok (.lconst 0, 1) := by decide +kernel
theorem dX11_read_140 : decode cX11_read 140 = .ok (.aload_n 0, 1) := by decide +kernel
theorem dX11_read_141 : decode cX11_read 141 = .ok (.getfield 47, 3) := by decide +kernel
theorem dX11_read_144 : decode cX11_read 144 = .ok (.iload_n 1, 1) := by decide +kernel
theorem dX11_read_145 : decode cX11_read 145 = .ok (.iaload, 1) := by decide +kernel
theorem dX11_read_146 : decode cX11_read 146 = .ok (.iconst 1, 1) := by decide +kernel
theorem dX11_read_147 : decode cX11_read 147 = .ok (.isub, 1) := by decide +kernel
theorem dX11_read_148 : decode cX11_read 148 = .ok (.i2l, 1) := by decide +kernel
theorem dX11_read_149 : decode cX11_read 149 = .ok (.invokestatic 64, 3) := by decide +kernel
theorem dX11_read_152 : decode cX11_read 152 = .ok (.ifCond .ne 7, 3) := by decide +kernel
theorem dX11_read_155 : decode cX11_read 155 = .ok (.iconst 2, 1) := by decide +kernel
theorem dX11_read_156 : decode cX11_read 156 = .ok (.goto 4, 3) := by decide +kernel
theorem dX11_read_159 : decode cX11_read 159 = .ok (.iconst 0, 1) := by decide +kernel
theorem dX11_read_160 : decode cX11_read 160 = .ok (.istore 5, 2) := by decide +kernel
theorem dX11_read_162 : decode cX11_read 162 = .ok (.iload 5, 2) := by decide +kernel
theorem dX11_read_164 : decode cX11_read 164 = .ok (.ifCond .ne 89, 3) := by decide +kernel
theorem dX11_read_167 : decode cX11_read 167 = .ok (.iload 8, 2) := by decide +kernel
theorem dX11_read_169 : decode cX11_read 169 = .ok (.iconst 3, 1) := by decide +kernel
theorem dX11_read_170 : decode cX11_read 170 = .ok (.irem, 1) := by decide +kernel
theorem dX11_read_171 : decode cX11_read 171 = .ok (.iconst 2, 1) := by decide +kernel
theorem dX11_read_172 : decode cX11_read 172 = .ok (.if_icmp .ne 81, 3) := by decide +kernel
theorem dX11_read_175 : decode cX11_read 175 = .ok (.bipush 40, 2) := by decide +kernel
theorem dX11_read_177 : decode cX11_read 177 = .ok (.iload_n 1, 1) := by decide +kernel
theorem dX11_read_178 : decode cX11_read 178 = .ok (.imul, 1) := by decide +kernel
theorem dX11_read_179 : decode cX11_read 179 = .ok (.iload_n 3, 1) := by decide +kernel
theorem dX11_read_180 : decode cX11_read 180 = .ok (.iadd, 1) := by decide +kernel
theorem dX11_read_181 : decode cX11_read 181 = .ok (.iload 8, 2) := by decide +kernel
theorem dX11_read_183 : decode cX11_read 183 = .ok (.iadd, 1) := by decide +kernel
theorem dX11_read_184 : decode cX11_read 184 = .ok (.istore 9, 2) := by decide +kernel
theorem dX11_read_186 : decode cX11_read 186 = .ok (.aload_n 0, 1) := by decide +kernel
theorem dX11_read_187 : decode cX11_read 187 = .ok (.getfield 50, 3) := by decide +kernel
theorem dX11_read_190 : decode cX11_read 190 = .ok (.iload 9, 2) := by decide +kernel
theorem dX11_read_192 : decode cX11_read 192 = .ok (.iaload, 1) := by decide +kernel
theorem dX11_read_193 : decode cX11_read 193 = .ok (.bipush (-4), 2) := by decide +kernel
theorem dX11_read_195 : decode cX11_read 195 = .ok (.if_icmp .eq 36, 3) := by decide +kernel
theorem dX11_read_198 : decode cX11_read 198 = .ok (.aload_n 0, 1) := by decide +kernel
theorem dX11_read_199 : decode cX11_read 199 = .ok (.aload_n 0, 1) := by decide +kernel
theorem dX11_read_200 : decode cX11_read 200 = .ok (.getfield 50, 3) := by decide +kernel
theorem dX11_read_203 : decode cX11_read 203 = .ok (.iload 9, 2) := by decide +kernel
theorem dX11_read_205 : decode cX11_read 205 = .ok (.iconst 2, 1) := by decide +kernel
theorem dX11_read_206 : decode cX11_read 206 = .ok (.isub, 1) := by decide +kernel
theorem dX11_read_207 : decode cX11_read 207 = .ok (.iaload, 1) := by decide +kernel
theorem dX11_read_208 : decode cX11_read 208 = .ok (.aload_n 0, 1) := by decide +kernel
theorem dX11_read_209 : decode cX11_read 209 = .ok (.getfield 50, 3) := by decide +kernel
theorem dX11_read_212 : decode cX11_read 212 = .ok (.iload 9, 2) := by decide +kernel
theorem dX11_read_214 : decode cX11_read 214 = .ok (.iconst 1, 1) := by decide +kernel
theorem dX11_read_215 : decode cX11_read 215 = .ok (.isub, 1) := by decide +kernel
theorem dX11_read_216 : decode cX11_read 216 = .ok (.iaload, 1) := by decide +kernel
theorem dX11_read_217 : decode cX11_read 217 = .ok (.aload_n 0, 1) := by decide +kernel
theorem dX11_read_218 : decode cX11_read 218 = .ok (.getfield 50, 3) := by decide +kernel
theorem dX11_read_221 : decode cX11_read 221 = .ok (.iload 9, 2) := by decide +kernel
theorem dX11_read_223 : decode cX11_read 223 = .ok (.iaload, 1) := by decide +kernel
theorem dX11_read_224 : decode cX11_read 224 = .ok (.invokevirtual 158, 3) := by decide +kernel
theorem dX11_read_227 : decode cX11_read 227 = .ok (.iconst (-1), 1) := by decide +kernel
theorem dX11_read_228 : decode cX11_read 228 = .ok (.if_icmp .ne 7, 3) := by decide +kernel
theorem dX11_read_231 : decode cX11_read 231 = .ok (.iconst 1, 1) := by decide +kernel
theorem dX11_read_232 : decode cX11_read 232 = .ok (.goto 4, 3) := by decide +kernel
theorem dX11_read_235 : decode cX11_read 235 = .ok (.iconst 0, 1) := by decide +kernel
theorem dX11_read_236 : decode cX11_read 236 = .ok (.istore 7, 2) := by decide +kernel
theorem dX11_read_238 : decode cX11_read 238 = .ok (.iload 6, 2) := by decide +kernel
theorem dX11_read_240 : decode cX11_read 240 = .ok (.iload 7, 2) := by decide +kernel
theorem dX11_read_242 : decode cX11_read 242 = .ok (.ifCond .eq 7, 3) := by decide +kernel
theorem dX11_read_245 : decode cX11_read 245 = .ok (.iconst 0, 1) := by decide +kernel
theorem dX11_read_246 : decode cX11_read 246 = .ok (.goto 4, 3) := by decide +kernel
theorem dX11_read_249 : decode cX11_read 249 = .ok (.iconst 1, 1) := by decide +kernel
theorem dX11_read_250 : decode cX11_read 250 = .ok (.iadd, 1) := by decide +kernel
theorem dX11_read_251 : decode cX11_read 251 = .ok (.istore 6, 2) := by decide +kernel
theorem dX11_read_253 : decode cX11_read 253 = .ok (.iinc 8 1, 3) := by decide +kernel
theorem dX11_read_256 : decode cX11_read 256 = .ok (.goto (-171), 3) := by decide +kernel
theorem dX11_read_259 : decode cX11_read 259 = .ok (.iload 7, 2) := by decide +kernel
theorem dX11_read_261 : decode cX11_read 261 = .ok (.ifCond .eq 39, 3) := by decide +kernel
theorem dX11_read_264 : decode cX11_read 264 = .ok (.iconst 0, 1) := by decide +kernel
theorem dX11_read_265 : decode cX11_read 265 = .ok (.istore 8, 2) := by decide +kernel
theorem dX11_read_267 : decode cX11_read 267 = .ok (.iload 8, 2) := by decide +kernel
theorem dX11_read_269 : decode cX11_read 269 = .ok (.bipush 21, 2) := by decide +kernel
theorem dX11_read_271 : decode cX11_read 271 = .ok (.if_icmp .ge 23, 3) := by decide +kernel
theorem dX11_read_274 : decode cX11_read 274 = .ok (.aload_n 0, 1) := by decide +kernel
theorem dX11_read_275 : decode cX11_read 275 = .ok (.getfield 7, 3) := by decide +kernel
theorem dX11_read_278 : decode cX11_read 278 = .ok (.iload 8, 2) := by decide +kernel
theorem dX11_read_280 : decode cX11_read 280 = .ok (.aload_n 0, 1) := by decide +kernel
theorem dX11_read_281 : decode cX11_read 281 = .ok (.getfield 53, 3) := by decide +kernel
theorem dX11_read_284 : decode cX11_read 284 = .ok (.iload 8, 2) := by decide +kernel
theorem dX11_read_286 : decode cX11_read 286 = .ok (.iaload, 1) := by decide +kernel
theorem dX11_read_287 : decode cX11_read 287 = .ok (.iastore, 1) := by decide +kernel
theorem dX11_read_288 : decode cX11_read 288 = .ok (.iinc 8 1, 3) := by decide +kernel
theorem dX11_read_291 : decode cX11_read 291 = .ok (.goto (-24), 3) := by decide +kernel
theorem dX11_read_294 : decode cX11_read 294 = .ok (.bipush (-20), 2) := by decide +kernel
theorem dX11_read_296 : decode cX11_read 296 = .ok (.iload 6, 2) := by decide +kernel
theorem dX11_read_298 : decode cX11_read 298 = .ok (.isub, 1) := by decide +kernel
theorem dX11_read_299 : decode cX11_read 299 = .ok (.ireturn, 1) := by decide +kernel
theorem dX11_read_300 : decode cX11_read 300 = .ok (.aload_n 0, 1) := by decide +kernel
theorem dX11_read_301 : decode cX11_read 301 = .ok (.iload 5, 2) := by decide +kernel
theorem dX11_read_303 : decode cX11_read 303 = .ok (.putfield 305, 3) := by decide +kernel
theorem dX11_read_306 : decode cX11_read 306 = .ok (.iload 6, 2) := by decide +kernel
theorem dX11_read_308 : decode cX11_read 308 = .ok (.ireturn, 1) := by decide +kernel
theorem dX11_torn_0 : decode cX11_torn 0 = .ok (.aload_n 0, 1) := by decide +kernel
theorem dX11_torn_1 : decode cX11_torn 1 = .ok (.getfield 305, 3) := by decide +kernel
theorem dX11_torn_4 : decode cX11_torn 4 = .ok (.ireturn, 1) := by decide +kernel
set_option maxRecDepth 20000 in
theorem ggX11_count_X11_awake : GoodIn wsX11_count wsX11_awake := goodIn_r _ [10, 11, 1, 16, 17, 18, 19, 20, 21, 22, 23, 24, 25, 26, 27, 28, 29, 30, 31, 32, 33, 34, 35, 36, 37, 38, 39, 40, 41, 42, 43, 44, 45] (by decide +kernel) (by decide +kernel)
set_option maxRecDepth 20000 in
theorem gX11_count_X11_awake : GoodIn wsX11_count (wsV RX11 135 RX11 yX11_awake wsX11_awake) := goodIn_app (goodIn_of _ (by decide +kernel)) ggX11_count_X11_awake
set_option maxRecDepth 20000 in
theorem ggX11_count_X11_lengthMany : GoodIn wsX11_count wsX11_lengthMany := goodIn_r _ [15, 1, 16, 17, 18, 19, 20, 21, 22, 23, 24, 25, 26, 27, 28, 29, 30, 31, 32, 33, 34, 35, 36, 37, 38, 39, 40, 41, 42, 43, 44, 45] (by decide +kernel) (by decide +kernel)
set_option maxRecDepth 20000 in
theorem gX11_count_X11_lengthMany : GoodIn wsX11_count (wsV RX11 300 RX11 yX11_lengthMany wsX11_lengthMany) := goodIn_app (goodIn_of _ (by decide +kernel)) ggX11_count_X11_lengthMany
theorem dX11_count_0 : decode cX11_count 0 = .ok (.aload_n 0, 1) := by decide +kernel
theorem dX11_count_1 : decode cX11_count 1 = .ok (.invokevirtual 135, 3) := by decide +kernel
theorem dX11_count_4 : decode cX11_count 4 = .ok (.iload_n 1, 1) := by decide +kernel
theorem dX11_count_5 : decode cX11_count 5 = .ok (.tableswitch 118 0 5 #[39, 47, 52, 60, 90, 95], 39) := by decide +kernel
theorem dX11_count_44 : decode cX11_count 44 = .ok (.aload_n 0, 1) := by decide +kernel
theorem dX11_count_45 : decode cX11_count 45 = .ok (.getfield 7, 3) := by decide +kernel
theorem dX11_count_48 : decode cX11_count 48 = .ok (.bipush 21, 2) := by decide +kernel
theorem dX11_count_50 : decode cX11_count 50 = .ok (.iaload, 1) := by decide +kernel
theorem dX11_count_51 : decode cX11_count 51 = .ok (.ireturn, 1) := by decide +kernel
theorem dX11_count_52 : decode cX11_count 52 = .ok (.aload_n 0, 1) := by decide +kernel
theorem dX11_count_53 : decode cX11_count 53 = .ok (.invokevirtual 300, 3) := by decide +kernel
theorem dX11_count_56 : decode cX11_count 56 = .ok (.ireturn, 1) := by decide +kernel
theorem dX11_count_57 : decode cX11_count 57 = .ok (.aload_n 0, 1) := by decide +kernel
theorem dX11_count_58 : decode cX11_count 58 = .ok (.getfield 7, 3) := by decide +kernel
theorem dX11_count_61 : decode cX11_count 61 = .ok (.bipush 30, 2) := by decide +kernel
theorem dX11_count_63 : decode cX11_count 63 = .ok (.iaload, 1) := by decide +kernel
theorem dX11_count_64 : decode cX11_count 64 = .ok (.ireturn, 1) := by decide +kernel
theorem dX11_count_65 : decode cX11_count 65 = .ok (.aload_n 0, 1) := by decide +kernel
theorem dX11_count_66 : decode cX11_count 66 = .ok (.getfield 40, 3) := by decide +kernel
theorem dX11_count_69 : decode cX11_count 69 = .ok (.iconst 0, 1) := by decide +kernel
theorem dX11_count_70 : decode cX11_count 70 = .ok (.baload, 1) := by decide +kernel
theorem dX11_count_71 : decode cX11_count 71 = .ok (.ifCond .eq 7, 3) := by decide +kernel
theorem dX11_count_74 : decode cX11_count 74 = .ok (.iconst 1, 1) := by decide +kernel
theorem dX11_count_75 : decode cX11_count 75 = .ok (.goto 4, 3) := by decide +kernel
theorem dX11_count_78 : decode cX11_count 78 = .ok (.iconst 0, 1) := by decide +kernel
theorem dX11_count_79 : decode cX11_count 79 = .ok (.aload_n 0, 1) := by decide +kernel
theorem dX11_count_80 : decode cX11_count 80 = .ok (.getfield 40, 3) := by decide +kernel
theorem dX11_count_83 : decode cX11_count 83 = .ok (.iconst 1, 1) := by decide +kernel
theorem dX11_count_84 : decode cX11_count 84 = .ok (.baload, 1) := by decide +kernel
theorem dX11_count_85 : decode cX11_count 85 = .ok (.ifCond .eq 7, 3) := by decide +kernel
theorem dX11_count_88 : decode cX11_count 88 = .ok (.iconst 1, 1) := by decide +kernel
theorem dX11_count_89 : decode cX11_count 89 = .ok (.goto 4, 3) := by decide +kernel
theorem dX11_count_92 : decode cX11_count 92 = .ok (.iconst 0, 1) := by decide +kernel
theorem dX11_count_93 : decode cX11_count 93 = .ok (.iadd, 1) := by decide +kernel
theorem dX11_count_94 : decode cX11_count 94 = .ok (.ireturn, 1) := by decide +kernel
theorem dX11_count_95 : decode cX11_count 95 = .ok (.aload_n 0, 1) := by decide +kernel
theorem dX11_count_96 : decode cX11_count 96 = .ok (.getfield 60, 3) := by decide +kernel
theorem dX11_count_99 : decode cX11_count 99 = .ok (.ireturn, 1) := by decide +kernel
theorem dX11_count_100 : decode cX11_count 100 = .ok (.aload_n 0, 1) := by decide +kernel
theorem dX11_count_101 : decode cX11_count 101 = .ok (.getfield 44, 3) := by decide +kernel
theorem dX11_count_104 : decode cX11_count 104 = .ok (.iconst 0, 1) := by decide +kernel
theorem dX11_count_105 : decode cX11_count 105 = .ok (.iaload, 1) := by decide +kernel
theorem dX11_count_106 : decode cX11_count 106 = .ok (.bipush (-4), 2) := by decide +kernel
theorem dX11_count_108 : decode cX11_count 108 = .ok (.if_icmp .ne 8, 3) := by decide +kernel
theorem dX11_count_111 : decode cX11_count 111 = .ok (.bipush (-4), 2) := by decide +kernel
theorem dX11_count_113 : decode cX11_count 113 = .ok (.goto 9, 3) := by decide +kernel
theorem dX11_count_116 : decode cX11_count 116 = .ok (.aload_n 0, 1) := by decide +kernel
theorem dX11_count_117 : decode cX11_count 117 = .ok (.getfield 47, 3) := by decide +kernel
theorem dX11_count_120 : decode cX11_count 120 = .ok (.iconst 0, 1) := by decide +kernel
theorem dX11_count_121 : decode cX11_count 121 = .ok (.iaload, 1) := by decide +kernel
theorem dX11_count_122 : decode cX11_count 122 = .ok (.ireturn, 1) := by decide +kernel
theorem dX11_count_123 : decode cX11_count 123 = .ok (.iconst (-1), 1) := by decide +kernel
theorem dX11_count_124 : decode cX11_count 124 = .ok (.ireturn, 1) := by decide +kernel
theorem dJ6_bitCount_0f7a4_0 : decode cJ6_bitCount_0f7a4 0 = .ok (.iload_n 0, 1) := by decide +kernel
theorem dJ6_bitCount_0f7a4_1 : decode cJ6_bitCount_0f7a4 1 = .ok (.iload_n 0, 1) := by decide +kernel
theorem dJ6_bitCount_0f7a4_2 : decode cJ6_bitCount_0f7a4 2 = .ok (.iconst 1, 1) := by decide +kernel
theorem dJ6_bitCount_0f7a4_3 : decode cJ6_bitCount_0f7a4 3 = .ok (.iushr, 1) := by decide +kernel
theorem dJ6_bitCount_0f7a4_4 : decode cJ6_bitCount_0f7a4 4 = .ok (.ldc_w 265, 3) := by decide +kernel
theorem dJ6_bitCount_0f7a4_7 : decode cJ6_bitCount_0f7a4 7 = .ok (.iand, 1) := by decide +kernel
theorem dJ6_bitCount_0f7a4_8 : decode cJ6_bitCount_0f7a4 8 = .ok (.isub, 1) := by decide +kernel
theorem dJ6_bitCount_0f7a4_9 : decode cJ6_bitCount_0f7a4 9 = .ok (.istore_n 0, 1) := by decide +kernel
theorem dJ6_bitCount_0f7a4_10 : decode cJ6_bitCount_0f7a4 10 = .ok (.iload_n 0, 1) := by decide +kernel
theorem dJ6_bitCount_0f7a4_11 : decode cJ6_bitCount_0f7a4 11 = .ok (.ldc_w 266, 3) := by decide +kernel
theorem dJ6_bitCount_0f7a4_14 : decode cJ6_bitCount_0f7a4 14 = .ok (.iand, 1) := by decide +kernel
theorem dJ6_bitCount_0f7a4_15 : decode cJ6_bitCount_0f7a4 15 = .ok (.iload_n 0, 1) := by decide +kernel
theorem dJ6_bitCount_0f7a4_16 : decode cJ6_bitCount_0f7a4 16 = .ok (.iconst 2, 1) := by decide +kernel
theorem dJ6_bitCount_0f7a4_17 : decode cJ6_bitCount_0f7a4 17 = .ok (.iushr, 1) := by decide +kernel
theorem dJ6_bitCount_0f7a4_18 : decode cJ6_bitCount_0f7a4 18 = .ok (.ldc_w 266, 3) := by decide +kernel
theorem dJ6_bitCount_0f7a4_21 : decode cJ6_bitCount_0f7a4 21 = .ok (.iand, 1) := by decide +kernel
theorem dJ6_bitCount_0f7a4_22 : decode cJ6_bitCount_0f7a4 22 = .ok (.iadd, 1) := by decide +kernel
theorem dJ6_bitCount_0f7a4_23 : decode cJ6_bitCount_0f7a4 23 = .ok (.istore_n 0, 1) := by decide +kernel
theorem dJ6_bitCount_0f7a4_24 : decode cJ6_bitCount_0f7a4 24 = .ok (.iload_n 0, 1) := by decide +kernel
theorem dJ6_bitCount_0f7a4_25 : decode cJ6_bitCount_0f7a4 25 = .ok (.iload_n 0, 1) := by decide +kernel
theorem dJ6_bitCount_0f7a4_26 : decode cJ6_bitCount_0f7a4 26 = .ok (.iconst 4, 1) := by decide +kernel
theorem dJ6_bitCount_0f7a4_27 : decode cJ6_bitCount_0f7a4 27 = .ok (.iushr, 1) := by decide +kernel
theorem dJ6_bitCount_0f7a4_28 : decode cJ6_bitCount_0f7a4 28 = .ok (.iadd, 1) := by decide +kernel
theorem dJ6_bitCount_0f7a4_29 : decode cJ6_bitCount_0f7a4 29 = .ok (.ldc_w 267, 3) := by decide +kernel
theorem dJ6_bitCount_0f7a4_32 : decode cJ6_bitCount_0f7a4 32 = .ok (.iand, 1) := by decide +kernel
theorem dJ6_bitCount_0f7a4_33 : decode cJ6_bitCount_0f7a4 33 = .ok (.istore_n 0, 1) := by decide +kernel
theorem dJ6_bitCount_0f7a4_34 : decode cJ6_bitCount_0f7a4 34 = .ok (.iload_n 0, 1) := by decide +kernel
theorem dJ6_bitCount_0f7a4_35 : decode cJ6_bitCount_0f7a4 35 = .ok (.iload_n 0, 1) := by decide +kernel
theorem dJ6_bitCount_0f7a4_36 : decode cJ6_bitCount_0f7a4 36 = .ok (.bipush 8, 2) := by decide +kernel
theorem dJ6_bitCount_0f7a4_38 : decode cJ6_bitCount_0f7a4 38 = .ok (.iushr, 1) := by decide +kernel
theorem dJ6_bitCount_0f7a4_39 : decode cJ6_bitCount_0f7a4 39 = .ok (.iadd, 1) := by decide +kernel
theorem dJ6_bitCount_0f7a4_40 : decode cJ6_bitCount_0f7a4 40 = .ok (.istore_n 0, 1) := by decide +kernel
theorem dJ6_bitCount_0f7a4_41 : decode cJ6_bitCount_0f7a4 41 = .ok (.iload_n 0, 1) := by decide +kernel
theorem dJ6_bitCount_0f7a4_42 : decode cJ6_bitCount_0f7a4 42 = .ok (.iload_n 0, 1) := by decide +kernel
theorem dJ6_bitCount_0f7a4_43 : decode cJ6_bitCount_0f7a4 43 = .ok (.bipush 16, 2) := by decide +kernel
theorem dJ6_bitCount_0f7a4_45 : decode cJ6_bitCount_0f7a4 45 = .ok (.iushr, 1) := by decide +kernel
theorem dJ6_bitCount_0f7a4_46 : decode cJ6_bitCount_0f7a4 46 = .ok (.iadd, 1) := by decide +kernel
theorem dJ6_bitCount_0f7a4_47 : decode cJ6_bitCount_0f7a4 47 = .ok (.istore_n 0, 1) := by decide +kernel
theorem dJ6_bitCount_0f7a4_48 : decode cJ6_bitCount_0f7a4 48 = .ok (.iload_n 0, 1) := by decide +kernel
theorem dJ6_bitCount_0f7a4_49 : decode cJ6_bitCount_0f7a4 49 = .ok (.bipush 63, 2) := by decide +kernel
theorem dJ6_bitCount_0f7a4_51 : decode cJ6_bitCount_0f7a4 51 = .ok (.iand, 1) := by decide +kernel
theorem dJ6_bitCount_0f7a4_52 : decode cJ6_bitCount_0f7a4 52 = .ok (.ireturn, 1) := by decide +kernel
theorem dJ13_signum_95d88_0 : decode cJ13_signum_95d88 0 = .ok (.lload_n 0, 1) := by decide +kernel
theorem dJ13_signum_95d88_1 : decode cJ13_signum_95d88 1 = .ok (.bipush 63, 2) := by decide +kernel
theorem dJ13_signum_95d88_3 : decode cJ13_signum_95d88 3 = .ok (.lshr, 1) := by decide +kernel
theorem dJ13_signum_95d88_4 : decode cJ13_signum_95d88 4 = .ok (.lload_n 0, 1) := by decide +kernel
theorem dJ13_signum_95d88_5 : decode cJ13_signum_95d88 5 = .ok (.lneg, 1) := by decide +kernel
theorem dJ13_signum_95d88_6 : decode cJ13_signum_95d88 6 = .ok (.bipush 63, 2) := by decide +kernel
theorem dJ13_signum_95d88_8 : decode cJ13_signum_95d88 8 = .ok (.lushr, 1) := by decide +kernel
theorem dJ13_signum_95d88_9 : decode cJ13_signum_95d88 9 = .ok (.lor, 1) := by decide +kernel
theorem dJ13_signum_95d88_10 : decode cJ13_signum_95d88 10 = .ok (.l2i, 1) := by decide +kernel
theorem dJ13_signum_95d88_11 : decode cJ13_signum_95d88 11 = .ok (.ireturn, 1) := by decide +kernel
theorem dJ9_abs_067f4_0 : decode cJ9_abs_067f4 0 = .ok (.lload_n 0, 1) := by decide +kernel
theorem dJ9_abs_067f4_1 : decode cJ9_abs_067f4 1 = .ok (.lconst 0, 1) := by decide +kernel
theorem dJ9_abs_067f4_2 : decode cJ9_abs_067f4 2 = .ok (.lcmp, 1) := by decide +kernel
theorem dJ9_abs_067f4_3 : decode cJ9_abs_067f4 3 = .ok (.ifCond .ge 8, 3) := by decide +kernel
theorem dJ9_abs_067f4_6 : decode cJ9_abs_067f4 6 = .ok (.lload_n 0, 1) := by decide +kernel
theorem dJ9_abs_067f4_7 : decode cJ9_abs_067f4 7 = .ok (.lneg, 1) := by decide +kernel
theorem dJ9_abs_067f4_8 : decode cJ9_abs_067f4 8 = .ok (.goto 4, 3) := by decide +kernel
theorem dJ9_abs_067f4_11 : decode cJ9_abs_067f4 11 = .ok (.lload_n 0, 1) := by decide +kernel
theorem dJ9_abs_067f4_12 : decode cJ9_abs_067f4 12 = .ok (.lreturn, 1) := by decide +kernel
theorem dJ9_max_7cf53_0 : decode cJ9_max_7cf53 0 = .ok (.iload_n 0, 1) := by decide +kernel
theorem dJ9_max_7cf53_1 : decode cJ9_max_7cf53 1 = .ok (.iload_n 1, 1) := by decide +kernel
theorem dJ9_max_7cf53_2 : decode cJ9_max_7cf53 2 = .ok (.if_icmp .lt 7, 3) := by decide +kernel
theorem dJ9_max_7cf53_5 : decode cJ9_max_7cf53 5 = .ok (.iload_n 0, 1) := by decide +kernel
theorem dJ9_max_7cf53_6 : decode cJ9_max_7cf53 6 = .ok (.goto 4, 3) := by decide +kernel
theorem dJ9_max_7cf53_9 : decode cJ9_max_7cf53 9 = .ok (.iload_n 1, 1) := by decide +kernel
theorem dJ9_max_7cf53_10 : decode cJ9_max_7cf53 10 = .ok (.ireturn, 1) := by decide +kernel
theorem dJ9_min_7cf53_0 : decode cJ9_min_7cf53 0 = .ok (.iload_n 0, 1) := by decide +kernel
theorem dJ9_min_7cf53_1 : decode cJ9_min_7cf53 1 = .ok (.iload_n 1, 1) := by decide +kernel
theorem dJ9_min_7cf53_2 : decode cJ9_min_7cf53 2 = .ok (.if_icmp .gt 7, 3) := by decide +kernel
theorem dJ9_min_7cf53_5 : decode cJ9_min_7cf53 5 = .ok (.iload_n 0, 1) := by decide +kernel
theorem dJ9_min_7cf53_6 : decode cJ9_min_7cf53 6 = .ok (.goto 4, 3) := by decide +kernel
theorem dJ9_min_7cf53_9 : decode cJ9_min_7cf53 9 = .ok (.iload_n 1, 1) := by decide +kernel
theorem dJ9_min_7cf53_10 : decode cJ9_min_7cf53 10 = .ok (.ireturn, 1) := by decide +kernel
set_option maxRecDepth 20000 in
theorem ggJ0_length_8abf5_J0_coder_7d493 : GoodIn wsJ0_length_8abf5 wsJ0_coder_7d493 := goodIn_r _ [6, 7, 8] (by decide +kernel) (by decide +kernel)
set_option maxRecDepth 20000 in
theorem gJ0_length_8abf5_J0_coder_7d493 : GoodIn wsJ0_length_8abf5 (wsV RJ0 335 RJ0 yJ0_coder_7d493 wsJ0_coder_7d493) := goodIn_app (goodIn_of _ (by decide +kernel)) ggJ0_length_8abf5_J0_coder_7d493
theorem dJ0_length_8abf5_0 : decode cJ0_length_8abf5 0 = .ok (.aload_n 0, 1) := by decide +kernel
theorem dJ0_length_8abf5_1 : decode cJ0_length_8abf5 1 = .ok (.getfield 9, 3) := by decide +kernel
theorem dJ0_length_8abf5_4 : decode cJ0_length_8abf5 4 = .ok (.arraylength, 1) := by decide +kernel
theorem dJ0_length_8abf5_5 : decode cJ0_length_8abf5 5 = .ok (.aload_n 0, 1) := by decide +kernel
theorem dJ0_length_8abf5_6 : decode cJ0_length_8abf5 6 = .ok (.invokevirtual 335, 3) := by decide +kernel
theorem dJ0_length_8abf5_9 : decode cJ0_length_8abf5 9 = .ok (.ishr, 1) := by decide +kernel
theorem dJ0_length_8abf5_10 : decode cJ0_length_8abf5 10 = .ok (.ireturn, 1) := by decide +kernel
set_option maxRecDepth 20000 in
theorem ggJ0_charAt_5068e_J0_isLatin1_aae02 : GoodIn wsJ0_charAt_5068e wsJ0_isLatin1_aae02 := goodIn_r _ [6, 7, 8] (by decide +kernel) (by decide +kernel)
set_option maxRecDepth 20000 in
theorem gJ0_charAt_5068e_J0_isLatin1_aae02 : GoodIn wsJ0_charAt_5068e (wsV RJ0 492 RJ0 yJ0_isLatin1_aae02 wsJ0_isLatin1_aae02) := goodIn_app (goodIn_of _ (by decide +kernel)) ggJ0_charAt_5068e_J0_isLatin1_aae02
set_option maxRecDepth 20000 in
theorem ggJ0_charAt_5068e_J1_charAt_3b067 : GoodIn wsJ0_charAt_5068e wsJ1_charAt_3b067 := goodIn_r _ [12, 13, 14, 5, 15, 16, 17, 18, 19, 20] (by decide +kernel) (by decide +kernel)
set_option maxRecDepth 20000 in
theorem gJ0_charAt_5068e_J1_charAt_3b067 : GoodIn wsJ0_charAt_5068e (va_wsS RJ0 495 yJ1_charAt_3b067 wsJ1_charAt_3b067) := goodIn_app (goodIn_of _ (by decide +kernel)) ggJ0_charAt_5068e_J1_charAt_3b067
set_option maxRecDepth 20000 in
theorem ggJ0_charAt_5068e_J2_charAt_3b067 : GoodIn wsJ0_charAt_5068e wsJ2_charAt_3b067 := goodIn_r _ [24, 25, 26, 23, 27, 28, 29, 30, 31, 14, 5, 15, 16, 17, 18, 19, 20, 32, 33, 34, 35, 36, 37] (by decide +kernel) (by decide +kernel)
set_option maxRecDepth 20000 in
theorem gJ0_charAt_5068e_J2_charAt_3b067 : GoodIn wsJ0_charAt_5068e (va_wsS RJ0 498 yJ2_charAt_3b067 wsJ2_charAt_3b067) := goodIn_app (goodIn_of _ (by decide +kernel)) ggJ0_charAt_5068e_J2_charAt_3b067
theorem dJ0_charAt_5068e_0 : decode cJ0_charAt_5068e 0 = .ok (.aload_n 0, 1) := by decide +kernel
theorem dJ0_charAt_5068e_1 : decode cJ0_charAt_5068e 1 = .ok (.invokevirtual 492, 3) := by decide +kernel
theorem dJ0_charAt_5068e_4 : decode cJ0_charAt_5068e 4 = .ok (.ifCond .eq 12, 3) := by decide +kernel
theorem dJ0_charAt_5068e_7 : decode cJ0_charAt_5068e 7 = .ok (.aload_n 0, 1) := by decide +kernel
theorem dJ0_charAt_5068e_8 : decode cJ0_charAt_5068e 8 = .ok (.getfield 9, 3) := by decide +kernel
theorem dJ0_charAt_5068e_11 : decode cJ0_charAt_5068e 11 = .ok (.iload_n 1, 1) := by decide +kernel
theorem dJ0_charAt_5068e_12 : decode cJ0_charAt_5068e 12 = .ok (.invokestatic 495, 3) := by decide +kernel
theorem dJ0_charAt_5068e_15 : decode cJ0_charAt_5068e 15 = .ok (.ireturn, 1) := by decide +kernel
theorem dJ0_charAt_5068e_16 : decode cJ0_charAt_5068e 16 = .ok (.aload_n 0, 1) := by decide +kernel
theorem dJ0_charAt_5068e_17 : decode cJ0_charAt_5068e 17 = .ok (.getfield 9, 3) := by decide +kernel
theorem dJ0_charAt_5068e_20 : decode cJ0_charAt_5068e 20 = .ok (.iload_n 1, 1) := by decide +kernel
theorem dJ0_charAt_5068e_21 : decode cJ0_charAt_5068e 21 = .ok (.invokestatic 498, 3) := by decide +kernel
theorem dJ0_charAt_5068e_24 : decode cJ0_charAt_5068e 24 = .ok (.ireturn, 1) := by decide +kernel
theorem dJ0_coder_7d493_0 : decode cJ0_coder_7d493 0 = .ok (.getstatic 38, 3) := by decide +kernel
theorem dJ0_coder_7d493_3 : decode cJ0_coder_7d493 3 = .ok (.ifCond .eq 10, 3) := by decide +kernel
theorem dJ0_coder_7d493_6 : decode cJ0_coder_7d493 6 = .ok (.aload_n 0, 1) := by decide +kernel
theorem dJ0_coder_7d493_7 : decode cJ0_coder_7d493 7 = .ok (.getfield 15, 3) := by decide +kernel
theorem dJ0_coder_7d493_10 : decode cJ0_coder_7d493 10 = .ok (.goto 4, 3) := by decide +kernel
theorem dJ0_coder_7d493_13 : decode cJ0_coder_7d493 13 = .ok (.iconst 1, 1) := by decide +kernel
theorem dJ0_coder_7d493_14 : decode cJ0_coder_7d493 14 = .ok (.ireturn, 1) := by decide +kernel
theorem dJ0_isLatin1_aae02_0 : decode cJ0_isLatin1_aae02 0 = .ok (.getstatic 38, 3) := by decide +kernel
theorem dJ0_isLatin1_aae02_3 : decode cJ0_isLatin1_aae02 3 = .ok (.ifCond .eq 14, 3) := by decide +kernel
theorem dJ0_isLatin1_aae02_6 : decode cJ0_isLatin1_aae02 6 = .ok (.aload_n 0, 1) := by decide +kernel
theorem dJ0_isLatin1_aae02_7 : decode cJ0_isLatin1_aae02 7 = .ok (.getfield 15, 3) := by decide +kernel
theorem dJ0_isLatin1_aae02_10 : decode cJ0_isLatin1_aae02 10 = .ok (.ifCond .ne 7, 3) := by decide +kernel
theorem dJ0_isLatin1_aae02_13 : decode cJ0_isLatin1_aae02 13 = .ok (.iconst 1, 1) := by decide +kernel
theorem dJ0_isLatin1_aae02_14 : decode cJ0_isLatin1_aae02 14 = .ok (.goto 4, 3) := by decide +kernel
theorem dJ0_isLatin1_aae02_17 : decode cJ0_isLatin1_aae02 17 = .ok (.iconst 0, 1) := by decide +kernel
theorem dJ0_isLatin1_aae02_18 : decode cJ0_isLatin1_aae02 18 = .ok (.ireturn, 1) := by decide +kernel
set_option maxRecDepth 20000 in
theorem ggJ0_checkIndex_df160_J3_checkIndex_8e157 : GoodIn wsJ0_checkIndex_df160 wsJ3_checkIndex_8e157 := goodIn_r _ [5] (by decide +kernel) (by decide +kernel)
set_option maxRecDepth 20000 in
theorem gJ0_checkIndex_df160_J3_checkIndex_8e157 : GoodIn wsJ0_checkIndex_df160 (va_wsS RJ0 1059 yJ3_checkIndex_8e157 wsJ3_checkIndex_8e157) := goodIn_app (goodIn_of _ (by decide +kernel)) ggJ0_checkIndex_df160_J3_checkIndex_8e157
theorem dJ0_checkIndex_df160_0 : decode cJ0_checkIndex_df160 0 = .ok (.iload_n 0, 1) := by decide +kernel
theorem dJ0_checkIndex_df160_1 : decode cJ0_checkIndex_df160 1 = .ok (.iload_n 1, 1) := by decide +kernel
theorem dJ0_checkIndex_df160_2 : decode cJ0_checkIndex_df160 2 = .ok (.getstatic 1053, 3) := by decide +kernel
theorem dJ0_checkIndex_df160_5 : decode cJ0_checkIndex_df160 5 = .ok (.invokestatic 1059, 3) := by decide +kernel
theorem dJ0_checkIndex_df160_8 : decode cJ0_checkIndex_df160 8 = .ok (.pop, 1) := by decide +kernel
theorem dJ0_checkIndex_df160_9 : decode cJ0_checkIndex_df160 9 = .ok (.return_, 1) := by decide +kernel
set_option maxRecDepth 20000 in
theorem ggJ1_charAt_3b067_J0_checkIndex_df160 : GoodIn wsJ1_charAt_3b067 wsJ0_checkIndex_df160 := goodIn_r _ [4, 5, 6, 7, 8, 9] (by decide +kernel) (by decide +kernel)
set_option maxRecDepth 20000 in
theorem gJ1_charAt_3b067_J0_checkIndex_df160 : GoodIn wsJ1_charAt_3b067 (va_wsS RJ1 9 yJ0_checkIndex_df160 wsJ0_checkIndex_df160) := goodIn_app (goodIn_of _ (by decide +kernel)) ggJ1_charAt_3b067_J0_checkIndex_df160
theorem dJ1_charAt_3b067_0 : decode cJ1_charAt_3b067 0 = .ok (.iload_n 1, 1) := by decide +kernel
theorem dJ1_charAt_3b067_1 : decode cJ1_charAt_3b067 1 = .ok (.aload_n 0, 1) := by decide +kernel
theorem dJ1_charAt_3b067_2 : decode cJ1_charAt_3b067 2 = .ok (.arraylength, 1) := by decide +kernel
theorem dJ1_charAt_3b067_3 : decode cJ1_charAt_3b067 3 = .ok (.invokestatic 9, 3) := by decide +kernel
theorem dJ1_charAt_3b067_6 : decode cJ1_charAt_3b067 6 = .ok (.aload_n 0, 1) := by decide +kernel
theorem dJ1_charAt_3b067_7 : decode cJ1_charAt_3b067 7 = .ok (.iload_n 1, 1) := by decide +kernel
theorem dJ1_charAt_3b067_8 : decode cJ1_charAt_3b067 8 = .ok (.baload, 1) := by decide +kernel
theorem dJ1_charAt_3b067_9 : decode cJ1_charAt_3b067 9 = .ok (.sipush 255, 3) := by decide +kernel
theorem dJ1_charAt_3b067_12 : decode cJ1_charAt_3b067 12 = .ok (.iand, 1) := by decide +kernel
theorem dJ1_charAt_3b067_13 : decode cJ1_charAt_3b067 13 = .ok (.i2c, 1) := by decide +kernel
theorem dJ1_charAt_3b067_14 : decode cJ1_charAt_3b067 14 = .ok (.ireturn, 1) := by decide +kernel
set_option maxRecDepth 20000 in
theorem ggJ2_getChar_3b067_J2_length_9d52b : GoodIn wsJ2_getChar_3b067 wsJ2_length_9d52b := goodIn_r _ [7] (by decide +kernel) (by decide +kernel)
set_option maxRecDepth 20000 in
theorem gJ2_getChar_3b067_J2_length_9d52b : GoodIn wsJ2_getChar_3b067 (va_wsS RJ2 48 yJ2_length_9d52b wsJ2_length_9d52b) := goodIn_app (goodIn_of _ (by decide +kernel)) ggJ2_getChar_3b067_J2_length_9d52b
theorem dJ2_getChar_3b067_0 : decode cJ2_getChar_3b067 0 = .ok (.getstatic 44, 3) := by decide +kernel
theorem dJ2_getChar_3b067_3 : decode cJ2_getChar_3b067 3 = .ok (.ifCond .ne 25, 3) := by decide +kernel
theorem dJ2_getChar_3b067_6 : decode cJ2_getChar_3b067 6 = .ok (.iload_n 1, 1) := by decide +kernel
theorem dJ2_getChar_3b067_7 : decode cJ2_getChar_3b067 7 = .ok (.ifCond .lt 11, 3) := by decide +kernel
theorem dJ2_getChar_3b067_10 : decode cJ2_getChar_3b067 10 = .ok (.iload_n 1, 1) := by decide +kernel
theorem dJ2_getChar_3b067_11 : decode cJ2_getChar_3b067 11 = .ok (.aload_n 0, 1) := by decide +kernel
theorem dJ2_getChar_3b067_12 : decode cJ2_getChar_3b067 12 = .ok (.invokestatic 48, 3) := by decide +kernel
theorem dJ2_getChar_3b067_15 : decode cJ2_getChar_3b067 15 = .ok (.if_icmp .lt 13, 3) := by decide +kernel
theorem dJ2_getChar_3b067_18 : decode cJ2_getChar_3b067 18 = .ok (.new 52, 3) := by decide +kernel
theorem dJ2_getChar_3b067_21 : decode cJ2_getChar_3b067 21 = .ok (.dup, 1) := by decide +kernel
theorem dJ2_getChar_3b067_22 : decode cJ2_getChar_3b067 22 = .ok (.ldc 54, 2) := by decide +kernel
theorem dJ2_getChar_3b067_24 : decode cJ2_getChar_3b067 24 = .ok (.invokespecial 56, 3) := by decide +kernel
theorem dJ2_getChar_3b067_27 : decode cJ2_getChar_3b067 27 = .ok (.athrow, 1) := by decide +kernel
theorem dJ2_getChar_3b067_28 : decode cJ2_getChar_3b067 28 = .ok (.iload_n 1, 1) := by decide +kernel
theorem dJ2_getChar_3b067_29 : decode cJ2_getChar_3b067 29 = .ok (.iconst 1, 1) := by decide +kernel
theorem dJ2_getChar_3b067_30 : decode cJ2_getChar_3b067 30 = .ok (.ishl, 1) := by decide +kernel
theorem dJ2_getChar_3b067_31 : decode cJ2_getChar_3b067 31 = .ok (.istore_n 1, 1) := by decide +kernel
theorem dJ2_getChar_3b067_32 : decode cJ2_getChar_3b067 32 = .ok (.aload_n 0, 1) := by decide +kernel
theorem dJ2_getChar_3b067_33 : decode cJ2_getChar_3b067 33 = .ok (.iload_n 1, 1) := by decide +kernel
theorem dJ2_getChar_3b067_34 : decode cJ2_getChar_3b067 34 = .ok (.iinc 1 1, 3) := by decide +kernel
theorem dJ2_getChar_3b067_37 : decode cJ2_getChar_3b067 37 = .ok (.baload, 1) := by decide +kernel
theorem dJ2_getChar_3b067_38 : decode cJ2_getChar_3b067 38 = .ok (.sipush 255, 3) := by decide +kernel
theorem dJ2_getChar_3b067_41 : decode cJ2_getChar_3b067 41 = .ok (.iand, 1) := by decide +kernel
theorem dJ2_getChar_3b067_42 : decode cJ2_getChar_3b067 42 = .ok (.getstatic 59, 3) := by decide +kernel
theorem dJ2_getChar_3b067_45 : decode cJ2_getChar_3b067 45 = .ok (.ishl, 1) := by decide +kernel
theorem dJ2_getChar_3b067_46 : decode cJ2_getChar_3b067 46 = .ok (.aload_n 0, 1) := by decide +kernel
theorem dJ2_getChar_3b067_47 : decode cJ2_getChar_3b067 47 = .ok (.iload_n 1, 1) := by decide +kernel
theorem dJ2_getChar_3b067_48 : decode cJ2_getChar_3b067 48 = .ok (.baload, 1) := by decide +kernel
theorem dJ2_getChar_3b067_49 : decode cJ2_getChar_3b067 49 = .ok (.sipush 255, 3) := by decide +kernel
theorem dJ2_getChar_3b067_52 : decode cJ2_getChar_3b067 52 = .ok (.iand, 1) := by decide +kernel
theorem dJ2_getChar_3b067_53 : decode cJ2_getChar_3b067 53 = .ok (.getstatic 63, 3) := by decide +kernel
theorem dJ2_getChar_3b067_56 : decode cJ2_getChar_3b067 56 = .ok (.ishl, 1) := by decide +kernel
theorem dJ2_getChar_3b067_57 : decode cJ2_getChar_3b067 57 = .ok (.ior, 1) := by decide +kernel
theorem dJ2_getChar_3b067_58 : decode cJ2_getChar_3b067 58 = .ok (.i2c, 1) := by decide +kernel
theorem dJ2_getChar_3b067_59 : decode cJ2_getChar_3b067 59 = .ok (.ireturn, 1) := by decide +kernel
theorem dJ2_length_9d52b_0 : decode cJ2_length_9d52b 0 = .ok (.aload_n 0, 1) := by decide +kernel
theorem dJ2_length_9d52b_1 : decode cJ2_length_9d52b 1 = .ok (.arraylength, 1) := by decide +kernel
theorem dJ2_length_9d52b_2 : decode cJ2_length_9d52b 2 = .ok (.iconst 1, 1) := by decide +kernel
theorem dJ2_length_9d52b_3 : decode cJ2_length_9d52b 3 = .ok (.ishr, 1) := by decide +kernel
theorem dJ2_length_9d52b_4 : decode cJ2_length_9d52b 4 = .ok (.ireturn, 1) := by decide +kernel
set_option maxRecDepth 20000 in
theorem ggJ2_charAt_3b067_J2_checkIndex_2214a : GoodIn wsJ2_charAt_3b067 wsJ2_checkIndex_2214a := goodIn_r _ [4, 5, 6, 3, 7, 8, 9, 10, 11, 12, 13, 14, 15, 16] (by decide +kernel) (by decide +kernel)
set_option maxRecDepth 20000 in
theorem gJ2_charAt_3b067_J2_checkIndex_2214a : GoodIn wsJ2_charAt_3b067 (va_wsS RJ2 67 yJ2_checkIndex_2214a wsJ2_checkIndex_2214a) := goodIn_app (goodIn_of _ (by decide +kernel)) ggJ2_charAt_3b067_J2_checkIndex_2214a
set_option maxRecDepth 20000 in
theorem ggJ2_charAt_3b067_J2_getChar_3b067 : GoodIn wsJ2_charAt_3b067 wsJ2_getChar_3b067 := goodIn_r _ [19, 20, 21, 22, 5, 6, 3, 7] (by decide +kernel) (by decide +kernel)
set_option maxRecDepth 20000 in
theorem gJ2_charAt_3b067_J2_getChar_3b067 : GoodIn wsJ2_charAt_3b067 (va_wsS RJ2 71 yJ2_getChar_3b067 wsJ2_getChar_3b067) := goodIn_app (goodIn_of _ (by decide +kernel)) ggJ2_charAt_3b067_J2_getChar_3b067
theorem dJ2_charAt_3b067_0 : decode cJ2_charAt_3b067 0 = .ok (.iload_n 1, 1) := by decide +kernel
theorem dJ2_charAt_3b067_1 : decode cJ2_charAt_3b067 1 = .ok (.aload_n 0, 1) := by decide +kernel
theorem dJ2_charAt_3b067_2 : decode cJ2_charAt_3b067 2 = .ok (.invokestatic 67, 3) := by decide +kernel
theorem dJ2_charAt_3b067_5 : decode cJ2_charAt_3b067 5 = .ok (.aload_n 0, 1) := by decide +kernel
theorem dJ2_charAt_3b067_6 : decode cJ2_charAt_3b067 6 = .ok (.iload_n 1, 1) := by decide +kernel
theorem dJ2_charAt_3b067_7 : decode cJ2_charAt_3b067 7 = .ok (.invokestatic 71, 3) := by decide +kernel
theorem dJ2_charAt_3b067_10 : decode cJ2_charAt_3b067 10 = .ok (.ireturn, 1) := by decide +kernel
set_option maxRecDepth 20000 in
theorem ggJ2_checkIndex_2214a_J2_length_9d52b : GoodIn wsJ2_checkIndex_2214a wsJ2_length_9d52b := goodIn_r _ [4] (by decide +kernel) (by decide +kernel)
set_option maxRecDepth 20000 in
theorem gJ2_checkIndex_2214a_J2_length_9d52b : GoodIn wsJ2_checkIndex_2214a (va_wsS RJ2 48 yJ2_length_9d52b wsJ2_length_9d52b) := goodIn_app (goodIn_of _ (by decide +kernel)) ggJ2_checkIndex_2214a_J2_length_9d52b
set_option maxRecDepth 20000 in
theorem ggJ2_checkIndex_2214a_J0_checkIndex_df160 : GoodIn wsJ2_checkIndex_2214a wsJ0_checkIndex_df160 := goodIn_r _ [8, 9, 10, 11, 12, 13] (by decide +kernel) (by decide +kernel)
set_option maxRecDepth 20000 in
theorem gJ2_checkIndex_2214a_J0_checkIndex_df160 : GoodIn wsJ2_checkIndex_2214a (va_wsS RJ2 414 yJ0_checkIndex_df160 wsJ0_checkIndex_df160) := goodIn_app (goodIn_of _ (by decide +kernel)) ggJ2_checkIndex_2214a_J0_checkIndex_df160
theorem dJ2_checkIndex_2214a_0 : decode cJ2_checkIndex_2214a 0 = .ok (.iload_n 0, 1) := by decide +kernel
theorem dJ2_checkIndex_2214a_1 : decode cJ2_checkIndex_2214a 1 = .ok (.aload_n 1, 1) := by decide +kernel
theorem dJ2_checkIndex_2214a_2 : decode cJ2_checkIndex_2214a 2 = .ok (.invokestatic 48, 3) := by decide +kernel
theorem dJ2_checkIndex_2214a_5 : decode cJ2_checkIndex_2214a 5 = .ok (.invokestatic 414, 3) := by decide +kernel
theorem dJ2_checkIndex_2214a_8 : decode cJ2_checkIndex_2214a 8 = .ok (.return_, 1) := by decide +kernel
theorem dJ7_fill_53178_0 : decode cJ7_fill_53178 0 = .ok (.iconst 0, 1) := by decide +kernel
theorem dJ7_fill_53178_1 : decode cJ7_fill_53178 1 = .ok (.istore_n 2, 1) := by decide +kernel
theorem dJ7_fill_53178_2 : decode cJ7_fill_53178 2 = .ok (.aload_n 0, 1) := by decide +kernel
theorem dJ7_fill_53178_3 : decode cJ7_fill_53178 3 = .ok (.arraylength, 1) := by decide +kernel
theorem dJ7_fill_53178_4 : decode cJ7_fill_53178 4 = .ok (.istore_n 3, 1) := by decide +kernel
theorem dJ7_fill_53178_5 : decode cJ7_fill_53178 5 = .ok (.iload_n 2, 1) := by decide +kernel
theorem dJ7_fill_53178_6 : decode cJ7_fill_53178 6 = .ok (.iload_n 3, 1) := by decide +kernel
theorem dJ7_fill_53178_7 : decode cJ7_fill_53178 7 = .ok (.if_icmp .ge 13, 3) := by decide +kernel
theorem dJ7_fill_53178_10 : decode cJ7_fill_53178 10 = .ok (.aload_n 0, 1) := by decide +kernel
theorem dJ7_fill_53178_11 : decode cJ7_fill_53178 11 = .ok (.iload_n 2, 1) := by decide +kernel
theorem dJ7_fill_53178_12 : decode cJ7_fill_53178 12 = .ok (.iload_n 1, 1) := by decide +kernel
theorem dJ7_fill_53178_13 : decode cJ7_fill_53178 13 = .ok (.iastore, 1) := by decide +kernel
theorem dJ7_fill_53178_14 : decode cJ7_fill_53178 14 = .ok (.iinc 2 1, 3) := by decide +kernel
theorem dJ7_fill_53178_17 : decode cJ7_fill_53178 17 = .ok (.goto (-12), 3) := by decide +kernel
theorem dJ7_fill_53178_20 : decode cJ7_fill_53178 20 = .ok (.return_, 1) := by decide +kernel
theorem dJ3_checkIndex_8e157_0 : decode cJ3_checkIndex_8e157 0 = .ok (.iload_n 0, 1) := by decide +kernel
theorem dJ3_checkIndex_8e157_1 : decode cJ3_checkIndex_8e157 1 = .ok (.ifCond .lt 8, 3) := by decide +kernel
theorem dJ3_checkIndex_8e157_4 : decode cJ3_checkIndex_8e157 4 = .ok (.iload_n 0, 1) := by decide +kernel
theorem dJ3_checkIndex_8e157_5 : decode cJ3_checkIndex_8e157 5 = .ok (.iload_n 1, 1) := by decide +kernel
theorem dJ3_checkIndex_8e157_6 : decode cJ3_checkIndex_8e157 6 = .ok (.if_icmp .lt 10, 3) := by decide +kernel
theorem dJ3_checkIndex_8e157_9 : decode cJ3_checkIndex_8e157 9 = .ok (.aload_n 2, 1) := by decide +kernel
theorem dJ3_checkIndex_8e157_10 : decode cJ3_checkIndex_8e157 10 = .ok (.iload_n 0, 1) := by decide +kernel
theorem dJ3_checkIndex_8e157_11 : decode cJ3_checkIndex_8e157 11 = .ok (.iload_n 1, 1) := by decide +kernel
theorem dJ3_checkIndex_8e157_12 : decode cJ3_checkIndex_8e157 12 = .ok (.invokestatic 95, 3) := by decide +kernel
theorem dJ3_checkIndex_8e157_15 : decode cJ3_checkIndex_8e157 15 = .ok (.athrow, 1) := by decide +kernel
theorem dJ3_checkIndex_8e157_16 : decode cJ3_checkIndex_8e157 16 = .ok (.iload_n 0, 1) := by decide +kernel
theorem dJ3_checkIndex_8e157_17 : decode cJ3_checkIndex_8e157 17 = .ok (.ireturn, 1) := by decide +kernel
abbrev vwCl : List vw_C := [(RX0, TX0, 8), (RX1, TX1, 7), (RX2, TX2, 3), (RX3, TX3, 7), (RX4, TX4, 11), (RX5, TX5, 2), (RX6, TX6, 3), (RX7, TX7, 3), (RX8, TX8, 2), (RX9, TX9, 2), (RX10, TX10, 12), (RX11, TX11, 30)]
