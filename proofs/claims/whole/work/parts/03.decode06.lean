theorem dX11_layMaps_140 : decode cX11_layMaps 140 = .ok (.ireturn, 1) := by decide +kernel
set_option maxRecDepth 20000 in
theorem ggX11_maps_X11_awake : GoodIn wsX11_maps wsX11_awake := goodIn_r _ [9, 10, 2, 26, 27, 28, 29, 30, 31, 32, 33, 34, 35, 36, 37, 38, 39, 40, 41, 42, 43, 44, 45, 46, 47, 48, 49, 50, 51, 52, 53, 54, 55] (by decide +kernel) (by decide +kernel)
set_option maxRecDepth 20000 in
theorem gX11_maps_X11_awake : GoodIn wsX11_maps (wsV RX11 135 RX11 yX11_awake wsX11_awake) := goodIn_app (goodIn_of _ (by decide +kernel)) ggX11_maps_X11_awake
set_option maxRecDepth 20000 in
theorem ggX11_maps_X11_in : GoodIn wsX11_maps wsX11_in := goodIn_r _ [13] (by decide +kernel) (by decide +kernel)
set_option maxRecDepth 20000 in
theorem gX11_maps_X11_in : GoodIn wsX11_maps (va_wsS RX11 64 yX11_in wsX11_in) := goodIn_app (goodIn_of _ (by decide +kernel)) ggX11_maps_X11_in
set_option maxRecDepth 20000 in
theorem ggX11_maps_X11_layMaps : GoodIn wsX11_maps wsX11_layMaps := goodIn_r _ [17, 2, 18, 4, 19, 20, 21, 8, 22, 23, 24, 25, 26, 27, 28, 29, 30, 31, 32, 33, 34, 35, 36, 37, 38, 39, 40, 41, 42, 43, 44, 45, 46, 47, 48, 49, 50, 51, 52, 53, 54, 55] (by decide +kernel) (by decide +kernel)
set_option maxRecDepth 20000 in
theorem gX11_maps_X11_layMaps : GoodIn wsX11_maps (wsV RX11 289 RX11 yX11_layMaps wsX11_layMaps) := goodIn_app (goodIn_of _ (by decide +kernel)) ggX11_maps_X11_layMaps
theorem dX11_maps_0 : decode cX11_maps 0 = .ok (.aload_n 0, 1) := by decide +kernel
theorem dX11_maps_1 : decode cX11_maps 1 = .ok (.invokevirtual 135, 3) := by decide +kernel
theorem dX11_maps_4 : decode cX11_maps 4 = .ok (.iload_n 1, 1) := by decide +kernel
theorem dX11_maps_5 : decode cX11_maps 5 = .ok (.i2l, 1) := by decide +kernel
theorem dX11_maps_6 : decode cX11_maps 6 = .ok (.lconst 0, 1) := by decide +kernel
theorem dX11_maps_7 : decode cX11_maps 7 = .ok (.lconst 1, 1) := by decide +kernel
theorem dX11_maps_8 : decode cX11_maps 8 = .ok (.invokestatic 64, 3) := by decide +kernel
theorem dX11_maps_11 : decode cX11_maps 11 = .ok (.ifCond .eq 29, 3) := by decide +kernel
theorem dX11_maps_14 : decode cX11_maps 14 = .ok (.iload_n 2, 1) := by decide +kernel
theorem dX11_maps_15 : decode cX11_maps 15 = .ok (.ifCond .eq 27, 3) := by decide +kernel
theorem dX11_maps_18 : decode cX11_maps 18 = .ok (.iload_n 2, 1) := by decide +kernel
theorem dX11_maps_19 : decode cX11_maps 19 = .ok (.i2l, 1) := by decide +kernel
theorem dX11_maps_20 : decode cX11_maps 20 = .ok (.ldc2_w 265, 3) := by decide +kernel
theorem dX11_maps_23 : decode cX11_maps 23 = .ok (.bipush 9, 2) := by decide +kernel
theorem dX11_maps_25 : decode cX11_maps 25 = .ok (.aload_n 0, 1) := by decide +kernel
theorem dX11_maps_26 : decode cX11_maps 26 = .ok (.getfield 7, 3) := by decide +kernel
theorem dX11_maps_29 : decode cX11_maps 29 = .ok (.bipush 21, 2) := by decide +kernel
theorem dX11_maps_31 : decode cX11_maps 31 = .ok (.iaload, 1) := by decide +kernel
theorem dX11_maps_32 : decode cX11_maps 32 = .ok (.iadd, 1) := by decide +kernel
theorem dX11_maps_33 : decode cX11_maps 33 = .ok (.i2l, 1) := by decide +kernel
theorem dX11_maps_34 : decode cX11_maps 34 = .ok (.invokestatic 64, 3) := by decide +kernel
theorem dX11_maps_37 : decode cX11_maps 37 = .ok (.ifCond .ne 5, 3) := by decide +kernel
theorem dX11_maps_40 : decode cX11_maps 40 = .ok (.iconst (-1), 1) := by decide +kernel
theorem dX11_maps_41 : decode cX11_maps 41 = .ok (.ireturn, 1) := by decide +kernel
theorem dX11_maps_42 : decode cX11_maps 42 = .ok (.aload_n 0, 1) := by decide +kernel
theorem dX11_maps_43 : decode cX11_maps 43 = .ok (.getfield 40, 3) := by decide +kernel
theorem dX11_maps_46 : decode cX11_maps 46 = .ok (.iload_n 1, 1) := by decide +kernel
theorem dX11_maps_47 : decode cX11_maps 47 = .ok (.baload, 1) := by decide +kernel
theorem dX11_maps_48 : decode cX11_maps 48 = .ok (.ifCond .ne 6, 3) := by decide +kernel
theorem dX11_maps_51 : decode cX11_maps 51 = .ok (.bipush (-2), 2) := by decide +kernel
theorem dX11_maps_53 : decode cX11_maps 53 = .ok (.ireturn, 1) := by decide +kernel
theorem dX11_maps_54 : decode cX11_maps 54 = .ok (.aload_n 0, 1) := by decide +kernel
theorem dX11_maps_55 : decode cX11_maps 55 = .ok (.bipush 32, 2) := by decide +kernel
theorem dX11_maps_57 : decode cX11_maps 57 = .ok (.iload_n 1, 1) := by decide +kernel
theorem dX11_maps_58 : decode cX11_maps 58 = .ok (.iconst 1, 1) := by decide +kernel
theorem dX11_maps_59 : decode cX11_maps 59 = .ok (.iadd, 1) := by decide +kernel
theorem dX11_maps_60 : decode cX11_maps 60 = .ok (.imul, 1) := by decide +kernel
theorem dX11_maps_61 : decode cX11_maps 61 = .ok (.invokevirtual 289, 3) := by decide +kernel
theorem dX11_maps_64 : decode cX11_maps 64 = .ok (.istore_n 3, 1) := by decide +kernel
theorem dX11_maps_65 : decode cX11_maps 65 = .ok (.iload_n 2, 1) := by decide +kernel
theorem dX11_maps_66 : decode cX11_maps 66 = .ok (.ifCond .ne 7, 3) := by decide +kernel
theorem dX11_maps_69 : decode cX11_maps 69 = .ok (.iload_n 3, 1) := by decide +kernel
theorem dX11_maps_70 : decode cX11_maps 70 = .ok (.goto 21, 3) := by decide +kernel
theorem dX11_maps_73 : decode cX11_maps 73 = .ok (.iload_n 3, 1) := by decide +kernel
theorem dX11_maps_74 : decode cX11_maps 74 = .ok (.ifCond .ne 8, 3) := by decide +kernel
theorem dX11_maps_77 : decode cX11_maps 77 = .ok (.bipush (-4), 2) := by decide +kernel
theorem dX11_maps_79 : decode cX11_maps 79 = .ok (.goto 12, 3) := by decide +kernel
theorem dX11_maps_82 : decode cX11_maps 82 = .ok (.aload_n 0, 1) := by decide +kernel
theorem dX11_maps_83 : decode cX11_maps 83 = .ok (.getfield 37, 3) := by decide +kernel
theorem dX11_maps_86 : decode cX11_maps 86 = .ok (.iload_n 2, 1) := by decide +kernel
theorem dX11_maps_87 : decode cX11_maps 87 = .ok (.bipush 10, 2) := by decide +kernel
theorem dX11_maps_89 : decode cX11_maps 89 = .ok (.isub, 1) := by decide +kernel
theorem dX11_maps_90 : decode cX11_maps 90 = .ok (.iaload, 1) := by decide +kernel
theorem dX11_maps_91 : decode cX11_maps 91 = .ok (.ireturn, 1) := by decide +kernel
set_option maxRecDepth 20000 in
theorem ggX11_part_X11_in : GoodIn wsX11_part wsX11_in := goodIn_r _ [6] (by decide +kernel) (by decide +kernel)
set_option maxRecDepth 20000 in
theorem gX11_part_X11_in : GoodIn wsX11_part (va_wsS RX11 64 yX11_in wsX11_in) := goodIn_app (goodIn_of _ (by decide +kernel)) ggX11_part_X11_in
theorem dX11_part_0 : decode cX11_part 0 = .ok (.iload_n 1, 1) := by decide +kernel
theorem dX11_part_1 : decode cX11_part 1 = .ok (.i2l, 1) := by decide +kernel
theorem dX11_part_2 : decode cX11_part 2 = .ok (.lconst 1, 1) := by decide +kernel
theorem dX11_part_3 : decode cX11_part 3 = .ok (.ldc2_w 292, 3) := by decide +kernel
theorem dX11_part_6 : decode cX11_part 6 = .ok (.invokestatic 64, 3) := by decide +kernel
theorem dX11_part_9 : decode cX11_part 9 = .ok (.ifCond .ne 5, 3) := by decide +kernel
theorem dX11_part_12 : decode cX11_part 12 = .ok (.iconst (-1), 1) := by decide +kernel
theorem dX11_part_13 : decode cX11_part 13 = .ok (.ireturn, 1) := by decide +kernel
theorem dX11_part_14 : decode cX11_part 14 = .ok (.aload_n 0, 1) := by decide +kernel
theorem dX11_part_15 : decode cX11_part 15 = .ok (.getfield 7, 3) := by decide +kernel
theorem dX11_part_18 : decode cX11_part 18 = .ok (.bipush 30, 2) := by decide +kernel
theorem dX11_part_20 : decode cX11_part 20 = .ok (.iaload, 1) := by decide +kernel
theorem dX11_part_21 : decode cX11_part 21 = .ok (.bipush 8, 2) := by decide +kernel
theorem dX11_part_23 : decode cX11_part 23 = .ok (.if_icmp .ne 6, 3) := by decide +kernel
theorem dX11_part_26 : decode cX11_part 26 = .ok (.bipush (-3), 2) := by decide +kernel
theorem dX11_part_28 : decode cX11_part 28 = .ok (.ireturn, 1) := by decide +kernel
theorem dX11_part_29 : decode cX11_part 29 = .ok (.aload_n 0, 1) := by decide +kernel
theorem dX11_part_30 : decode cX11_part 30 = .ok (.getfield 7, 3) := by decide +kernel
theorem dX11_part_33 : decode cX11_part 33 = .ok (.bipush 22, 2) := by decide +kernel
theorem dX11_part_35 : decode cX11_part 35 = .ok (.aload_n 0, 1) := by decide +kernel
theorem dX11_part_36 : decode cX11_part 36 = .ok (.getfield 7, 3) := by decide +kernel
theorem dX11_part_39 : decode cX11_part 39 = .ok (.bipush 30, 2) := by decide +kernel
theorem dX11_part_41 : decode cX11_part 41 = .ok (.iaload, 1) := by decide +kernel
theorem dX11_part_42 : decode cX11_part 42 = .ok (.iadd, 1) := by decide +kernel
theorem dX11_part_43 : decode cX11_part 43 = .ok (.iload_n 1, 1) := by decide +kernel
theorem dX11_part_44 : decode cX11_part 44 = .ok (.iastore, 1) := by decide +kernel
theorem dX11_part_45 : decode cX11_part 45 = .ok (.aload_n 0, 1) := by decide +kernel
theorem dX11_part_46 : decode cX11_part 46 = .ok (.getfield 7, 3) := by decide +kernel
theorem dX11_part_49 : decode cX11_part 49 = .ok (.bipush 30, 2) := by decide +kernel
theorem dX11_part_51 : decode cX11_part 51 = .ok (.dup2, 1) := by decide +kernel
theorem dX11_part_52 : decode cX11_part 52 = .ok (.iaload, 1) := by decide +kernel
theorem dX11_part_53 : decode cX11_part 53 = .ok (.iconst 1, 1) := by decide +kernel
theorem dX11_part_54 : decode cX11_part 54 = .ok (.iadd, 1) := by decide +kernel
theorem dX11_part_55 : decode cX11_part 55 = .ok (.iastore, 1) := by decide +kernel
theorem dX11_part_56 : decode cX11_part 56 = .ok (.aload_n 0, 1) := by decide +kernel
theorem dX11_part_57 : decode cX11_part 57 = .ok (.getfield 7, 3) := by decide +kernel
theorem dX11_part_60 : decode cX11_part 60 = .ok (.bipush 30, 2) := by decide +kernel
theorem dX11_part_62 : decode cX11_part 62 = .ok (.iaload, 1) := by decide +kernel
theorem dX11_part_63 : decode cX11_part 63 = .ok (.ireturn, 1) := by decide +kernel
theorem dX11_clear_0 : decode cX11_clear 0 = .ok (.aload_n 0, 1) := by decide +kernel
theorem dX11_clear_1 : decode cX11_clear 1 = .ok (.getfield 7, 3) := by decide +kernel
theorem dX11_clear_4 : decode cX11_clear 4 = .ok (.bipush 30, 2) := by decide +kernel
theorem dX11_clear_6 : decode cX11_clear 6 = .ok (.iaload, 1) := by decide +kernel
theorem dX11_clear_7 : decode cX11_clear 7 = .ok (.istore_n 1, 1) := by decide +kernel
theorem dX11_clear_8 : decode cX11_clear 8 = .ok (.aload_n 0, 1) := by decide +kernel
theorem dX11_clear_9 : decode cX11_clear 9 = .ok (.getfield 7, 3) := by decide +kernel
theorem dX11_clear_12 : decode cX11_clear 12 = .ok (.bipush 30, 2) := by decide +kernel
theorem dX11_clear_14 : decode cX11_clear 14 = .ok (.iconst 0, 1) := by decide +kernel
theorem dX11_clear_15 : decode cX11_clear 15 = .ok (.iastore, 1) := by decide +kernel
theorem dX11_clear_16 : decode cX11_clear 16 = .ok (.iload_n 1, 1) := by decide +kernel
theorem dX11_clear_17 : decode cX11_clear 17 = .ok (.ireturn, 1) := by decide +kernel
set_option maxRecDepth 20000 in
theorem ggX11_nearest_X11_farthest : GoodIn wsX11_nearest wsX11_farthest := goodIn_r _ [6, 1, 7, 8, 9, 10, 11, 12, 13, 14, 15, 16, 17, 18, 19, 20, 21, 22, 23, 24, 25, 26, 27, 28, 29, 30, 31, 32, 33, 34, 35, 36] (by decide +kernel) (by decide +kernel)
set_option maxRecDepth 20000 in
theorem gX11_nearest_X11_farthest : GoodIn wsX11_nearest (wsV RX11 294 RX11 yX11_farthest wsX11_farthest) := goodIn_app (goodIn_of _ (by decide +kernel)) ggX11_nearest_X11_farthest
theorem dX11_nearest_0 : decode cX11_nearest 0 = .ok (.iconst 0, 1) := by decide +kernel
theorem dX11_nearest_1 : decode cX11_nearest 1 = .ok (.istore_n 1, 1) := by decide +kernel
theorem dX11_nearest_2 : decode cX11_nearest 2 = .ok (.iconst 0, 1) := by decide +kernel
theorem dX11_nearest_3 : decode cX11_nearest 3 = .ok (.istore_n 2, 1) := by decide +kernel
theorem dX11_nearest_4 : decode cX11_nearest 4 = .ok (.iload_n 2, 1) := by decide +kernel
theorem dX11_nearest_5 : decode cX11_nearest 5 = .ok (.aload_n 0, 1) := by decide +kernel
theorem dX11_nearest_6 : decode cX11_nearest 6 = .ok (.getfield 7, 3) := by decide +kernel
theorem dX11_nearest_9 : decode cX11_nearest 9 = .ok (.bipush 30, 2) := by decide +kernel
theorem dX11_nearest_11 : decode cX11_nearest 11 = .ok (.iaload, 1) := by decide +kernel
theorem dX11_nearest_12 : decode cX11_nearest 12 = .ok (.if_icmp .ge 36, 3) := by decide +kernel
theorem dX11_nearest_15 : decode cX11_nearest 15 = .ok (.aload_n 0, 1) := by decide +kernel
theorem dX11_nearest_16 : decode cX11_nearest 16 = .ok (.getfield 7, 3) := by decide +kernel
theorem dX11_nearest_19 : decode cX11_nearest 19 = .ok (.bipush 22, 2) := by decide +kernel
theorem dX11_nearest_21 : decode cX11_nearest 21 = .ok (.iload_n 2, 1) := by decide +kernel
theorem dX11_nearest_22 : decode cX11_nearest 22 = .ok (.iadd, 1) := by decide +kernel
theorem dX11_nearest_23 : decode cX11_nearest 23 = .ok (.iaload, 1) := by decide +kernel
theorem dX11_nearest_24 : decode cX11_nearest 24 = .ok (.iload_n 1, 1) := by decide +kernel
theorem dX11_nearest_25 : decode cX11_nearest 25 = .ok (.if_icmp .le 15, 3) := by decide +kernel
theorem dX11_nearest_28 : decode cX11_nearest 28 = .ok (.aload_n 0, 1) := by decide +kernel
theorem dX11_nearest_29 : decode cX11_nearest 29 = .ok (.getfield 7, 3) := by decide +kernel
theorem dX11_nearest_32 : decode cX11_nearest 32 = .ok (.bipush 22, 2) := by decide +kernel
theorem dX11_nearest_34 : decode cX11_nearest 34 = .ok (.iload_n 2, 1) := by decide +kernel
theorem dX11_nearest_35 : decode cX11_nearest 35 = .ok (.iadd, 1) := by decide +kernel
theorem dX11_nearest_36 : decode cX11_nearest 36 = .ok (.iaload, 1) := by decide +kernel
theorem dX11_nearest_37 : decode cX11_nearest 37 = .ok (.goto 4, 3) := by decide +kernel
theorem dX11_nearest_40 : decode cX11_nearest 40 = .ok (.iload_n 1, 1) := by decide +kernel
theorem dX11_nearest_41 : decode cX11_nearest 41 = .ok (.istore_n 1, 1) := by decide +kernel
theorem dX11_nearest_42 : decode cX11_nearest 42 = .ok (.iinc 2 1, 3) := by decide +kernel
theorem dX11_nearest_45 : decode cX11_nearest 45 = .ok (.goto (-41), 3) := by decide +kernel
theorem dX11_nearest_48 : decode cX11_nearest 48 = .ok (.iconst 2, 1) := by decide +kernel
theorem dX11_nearest_49 : decode cX11_nearest 49 = .ok (.iload_n 1, 1) := by decide +kernel
theorem dX11_nearest_50 : decode cX11_nearest 50 = .ok (.imul, 1) := by decide +kernel
theorem dX11_nearest_51 : decode cX11_nearest 51 = .ok (.aload_n 0, 1) := by decide +kernel
theorem dX11_nearest_52 : decode cX11_nearest 52 = .ok (.invokevirtual 294, 3) := by decide +kernel
theorem dX11_nearest_55 : decode cX11_nearest 55 = .ok (.if_icmp .le 14, 3) := by decide +kernel
theorem dX11_nearest_58 : decode cX11_nearest 58 = .ok (.iconst 2, 1) := by decide +kernel
theorem dX11_nearest_59 : decode cX11_nearest 59 = .ok (.iload_n 1, 1) := by decide +kernel
theorem dX11_nearest_60 : decode cX11_nearest 60 = .ok (.imul, 1) := by decide +kernel
theorem dX11_nearest_61 : decode cX11_nearest 61 = .ok (.aload_n 0, 1) := by decide +kernel
theorem dX11_nearest_62 : decode cX11_nearest 62 = .ok (.invokevirtual 294, 3) := by decide +kernel
theorem dX11_nearest_65 : decode cX11_nearest 65 = .ok (.isub, 1) := by decide +kernel
theorem dX11_nearest_66 : decode cX11_nearest 66 = .ok (.goto 4, 3) := by decide +kernel
theorem dX11_nearest_69 : decode cX11_nearest 69 = .ok (.iconst 0, 1) := by decide +kernel
theorem dX11_nearest_70 : decode cX11_nearest 70 = .ok (.ireturn, 1) := by decide +kernel
theorem dX11_farthest_0 : decode cX11_farthest 0 = .ok (.iconst 0, 1) := by decide +kernel
theorem dX11_farthest_1 : decode cX11_farthest 1 = .ok (.istore_n 1, 1) := by decide +kernel
theorem dX11_farthest_2 : decode cX11_farthest 2 = .ok (.iconst 0, 1) := by decide +kernel
theorem dX11_farthest_3 : decode cX11_farthest 3 = .ok (.istore_n 2, 1) := by decide +kernel
theorem dX11_farthest_4 : decode cX11_farthest 4 = .ok (.iload_n 2, 1) := by decide +kernel
theorem dX11_farthest_5 : decode cX11_farthest 5 = .ok (.aload_n 0, 1) := by decide +kernel
theorem dX11_farthest_6 : decode cX11_farthest 6 = .ok (.getfield 7, 3) := by decide +kernel
theorem dX11_farthest_9 : decode cX11_farthest 9 = .ok (.bipush 30, 2) := by decide +kernel
theorem dX11_farthest_11 : decode cX11_farthest 11 = .ok (.iaload, 1) := by decide +kernel
theorem dX11_farthest_12 : decode cX11_farthest 12 = .ok (.if_icmp .ge 21, 3) := by decide +kernel
theorem dX11_farthest_15 : decode cX11_farthest 15 = .ok (.iload_n 1, 1) := by decide +kernel
theorem dX11_farthest_16 : decode cX11_farthest 16 = .ok (.aload_n 0, 1) := by decide +kernel
theorem dX11_farthest_17 : decode cX11_farthest 17 = .ok (.getfield 7, 3) := by decide +kernel
theorem dX11_farthest_20 : decode cX11_farthest 20 = .ok (.bipush 22, 2) := by decide +kernel
theorem dX11_farthest_22 : decode cX11_farthest 22 = .ok (.iload_n 2, 1) := by decide +kernel
theorem dX11_farthest_23 : decode cX11_farthest 23 = .ok (.iadd, 1) := by decide +kernel
theorem dX11_farthest_24 : decode cX11_farthest 24 = .ok (.iaload, 1) := by decide +kernel
theorem dX11_farthest_25 : decode cX11_farthest 25 = .ok (.iadd, 1) := by decide +kernel
theorem dX11_farthest_26 : decode cX11_farthest 26 = .ok (.istore_n 1, 1) := by decide +kernel
theorem dX11_farthest_27 : decode cX11_farthest 27 = .ok (.iinc 2 1, 3) := by decide +kernel
theorem dX11_farthest_30 : decode cX11_farthest 30 = .ok (.goto (-26), 3) := by decide +kernel
theorem dX11_farthest_33 : decode cX11_farthest 33 = .ok (.iload_n 1, 1) := by decide +kernel
theorem dX11_farthest_34 : decode cX11_farthest 34 = .ok (.ireturn, 1) := by decide +kernel
set_option maxRecDepth 20000 in
theorem ggX11_road_X11_in : GoodIn wsX11_road wsX11_in := goodIn_r _ [5] (by decide +kernel) (by decide +kernel)
set_option maxRecDepth 20000 in
theorem gX11_road_X11_in : GoodIn wsX11_road (va_wsS RX11 64 yX11_in wsX11_in) := goodIn_app (goodIn_of _ (by decide +kernel)) ggX11_road_X11_in
set_option maxRecDepth 20000 in
theorem ggX11_road_X11_nearest : GoodIn wsX11_road wsX11_nearest := goodIn_r _ [9, 1, 10, 11, 12, 4, 13, 14, 15, 16, 17, 18, 19, 20, 21, 22, 23, 24, 25, 26, 27, 28, 29, 30, 31, 32, 33, 34, 35, 36, 37, 38, 39, 40, 41, 42, 43] (by decide +kernel) (by decide +kernel)
set_option maxRecDepth 20000 in
theorem gX11_road_X11_nearest : GoodIn wsX11_road (wsV RX11 297 RX11 yX11_nearest wsX11_nearest) := goodIn_app (goodIn_of _ (by decide +kernel)) ggX11_road_X11_nearest
set_option maxRecDepth 20000 in
theorem ggX11_road_X11_farthest : GoodIn wsX11_road wsX11_farthest := goodIn_r _ [13, 1, 14, 15, 16, 17, 18, 19, 20, 21, 22, 23, 24, 25, 26, 27, 28, 29, 30, 31, 32, 33, 34, 35, 36, 37, 38, 39, 40, 41, 42, 43] (by decide +kernel) (by decide +kernel)
set_option maxRecDepth 20000 in
theorem gX11_road_X11_farthest : GoodIn wsX11_road (wsV RX11 294 RX11 yX11_farthest wsX11_farthest) := goodIn_app (goodIn_of _ (by decide +kernel)) ggX11_road_X11_farthest
theorem dX11_road_0 : decode cX11_road 0 = .ok (.iload_n 1, 1) := by decide +kernel
theorem dX11_road_1 : decode cX11_road 1 = .ok (.i2l, 1) := by decide +kernel
theorem dX11_road_2 : decode cX11_road 2 = .ok (.lconst 0, 1) := by decide +kernel
theorem dX11_road_3 : decode cX11_road 3 = .ok (.lconst 1, 1) := by decide +kernel
theorem dX11_road_4 : decode cX11_road 4 = .ok (.invokestatic 64, 3) := by decide +kernel
theorem dX11_road_7 : decode cX11_road 7 = .ok (.ifCond .ne 5, 3) := by decide +kernel
theorem dX11_road_10 : decode cX11_road 10 = .ok (.iconst (-1), 1) := by decide +kernel
theorem dX11_road_11 : decode cX11_road 11 = .ok (.ireturn, 1) := by decide +kernel
theorem dX11_road_12 : decode cX11_road 12 = .ok (.aload_n 0, 1) := by decide +kernel
theorem dX11_road_13 : decode cX11_road 13 = .ok (.getfield 7, 3) := by decide +kernel
theorem dX11_road_16 : decode cX11_road 16 = .ok (.bipush 30, 2) := by decide +kernel
theorem dX11_road_18 : decode cX11_road 18 = .ok (.iaload, 1) := by decide +kernel
theorem dX11_road_19 : decode cX11_road 19 = .ok (.ifCond .ne 8, 3) := by decide +kernel
theorem dX11_road_22 : decode cX11_road 22 = .ok (.bipush (-2), 2) := by decide +kernel
theorem dX11_road_24 : decode cX11_road 24 = .ok (.goto 18, 3) := by decide +kernel
theorem dX11_road_27 : decode cX11_road 27 = .ok (.iload_n 1, 1) := by decide +kernel
theorem dX11_road_28 : decode cX11_road 28 = .ok (.ifCond .ne 10, 3) := by decide +kernel
theorem dX11_road_31 : decode cX11_road 31 = .ok (.aload_n 0, 1) := by decide +kernel
theorem dX11_road_32 : decode cX11_road 32 = .ok (.invokevirtual 297, 3) := by decide +kernel
theorem dX11_road_35 : decode cX11_road 35 = .ok (.goto 7, 3) := by decide +kernel
theorem dX11_road_38 : decode cX11_road 38 = .ok (.aload_n 0, 1) := by decide +kernel
theorem dX11_road_39 : decode cX11_road 39 = .ok (.invokevirtual 294, 3) := by decide +kernel
theorem dX11_road_42 : decode cX11_road 42 = .ok (.ireturn, 1) := by decide +kernel
set_option maxRecDepth 20000 in
theorem ggX11_reaches_X11_areTwo : GoodIn wsX11_reaches wsX11_areTwo := goodIn_r _ [6, 7, 8, 9, 5, 10, 1, 11, 12, 13, 14, 15, 16, 17, 18, 34, 35, 36, 37, 38, 39, 40, 41, 42, 43, 44, 45, 46, 47, 48, 49, 50, 51, 52, 53, 54, 55, 56, 57, 58, 59, 60, 61, 62, 63] (by decide +kernel) (by decide +kernel)
set_option maxRecDepth 20000 in
theorem gX11_reaches_X11_areTwo : GoodIn wsX11_reaches (wsV RX11 142 RX11 yX11_areTwo wsX11_areTwo) := goodIn_app (goodIn_of _ (by decide +kernel)) ggX11_reaches_X11_areTwo
set_option maxRecDepth 20000 in
theorem ggX11_reaches_X11_sq : GoodIn wsX11_reaches wsX11_sq := goodIn_r _ [22, 1, 23, 24, 5, 25, 34, 35, 36, 37, 38, 39, 40, 41, 42, 43, 44, 45, 46, 47, 48, 49, 50, 51, 52, 53, 54, 55, 56, 57, 58, 59, 60, 61, 62, 63] (by decide +kernel) (by decide +kernel)
set_option maxRecDepth 20000 in
theorem gX11_reaches_X11_sq : GoodIn wsX11_reaches (wsV RX11 149 RX11 yX11_sq wsX11_sq) := goodIn_app (goodIn_of _ (by decide +kernel)) ggX11_reaches_X11_sq
set_option maxRecDepth 20000 in
theorem ggX11_reaches_X11_nearest : GoodIn wsX11_reaches wsX11_nearest := goodIn_r _ [29, 1, 30, 31, 32, 5, 33, 34, 35, 36, 37, 38, 39, 40, 41, 42, 43, 44, 45, 46, 47, 48, 49, 50, 51, 52, 53, 54, 55, 56, 57, 58, 59, 60, 61, 62, 63] (by decide +kernel) (by decide +kernel)
set_option maxRecDepth 20000 in
theorem gX11_reaches_X11_nearest : GoodIn wsX11_reaches (wsV RX11 297 RX11 yX11_nearest wsX11_nearest) := goodIn_app (goodIn_of _ (by decide +kernel)) ggX11_reaches_X11_nearest
set_option maxRecDepth 20000 in
theorem ggX11_reaches_X11_farthest : GoodIn wsX11_reaches wsX11_farthest := goodIn_r _ [33, 1, 34, 35, 36, 37, 38, 39, 40, 41, 42, 43, 44, 45, 46, 47, 48, 49, 50, 51, 52, 53, 54, 55, 56, 57, 58, 59, 60, 61, 62, 63] (by decide +kernel) (by decide +kernel)
set_option maxRecDepth 20000 in
theorem gX11_reaches_X11_farthest : GoodIn wsX11_reaches (wsV RX11 294 RX11 yX11_farthest wsX11_farthest) := goodIn_app (goodIn_of _ (by decide +kernel)) ggX11_reaches_X11_farthest
set_option maxRecDepth 20000 in
theorem ggX11_reaches_X11_in : GoodIn wsX11_reaches wsX11_in := goodIn_r _ [18] (by decide +kernel) (by decide +kernel)
set_option maxRecDepth 20000 in
theorem gX11_reaches_X11_in : GoodIn wsX11_reaches (va_wsS RX11 64 yX11_in wsX11_in) := goodIn_app (goodIn_of _ (by decide +kernel)) ggX11_reaches_X11_in
theorem dX11_reaches_0 : decode cX11_reaches 0 = .ok (.aload_n 0, 1) := by decide +kernel
theorem dX11_reaches_1 : decode cX11_reaches 1 = .ok (.iload_n 1, 1) := by decide +kernel
theorem dX11_reaches_2 : decode cX11_reaches 2 = .ok (.iload_n 2, 1) := by decide +kernel
theorem dX11_reaches_3 : decode cX11_reaches 3 = .ok (.invokevirtual 142, 3) := by decide +kernel
theorem dX11_reaches_6 : decode cX11_reaches 6 = .ok (.ifCond .ne 5, 3) := by decide +kernel
theorem dX11_reaches_9 : decode cX11_reaches 9 = .ok (.iconst (-1), 1) := by decide +kernel
theorem dX11_reaches_10 : decode cX11_reaches 10 = .ok (.ireturn, 1) := by decide +kernel
theorem dX11_reaches_11 : decode cX11_reaches 11 = .ok (.aload_n 0, 1) := by decide +kernel
theorem dX11_reaches_12 : decode cX11_reaches 12 = .ok (.getfield 7, 3) := by decide +kernel
theorem dX11_reaches_15 : decode cX11_reaches 15 = .ok (.bipush 30, 2) := by decide +kernel
theorem dX11_reaches_17 : decode cX11_reaches 17 = .ok (.iaload, 1) := by decide +kernel
theorem dX11_reaches_18 : decode cX11_reaches 18 = .ok (.ifCond .ne 6, 3) := by decide +kernel
theorem dX11_reaches_21 : decode cX11_reaches 21 = .ok (.bipush (-2), 2) := by decide +kernel
theorem dX11_reaches_23 : decode cX11_reaches 23 = .ok (.ireturn, 1) := by decide +kernel
theorem dX11_reaches_24 : decode cX11_reaches 24 = .ok (.aload_n 0, 1) := by decide +kernel
theorem dX11_reaches_25 : decode cX11_reaches 25 = .ok (.iload_n 1, 1) := by decide +kernel
theorem dX11_reaches_26 : decode cX11_reaches 26 = .ok (.iload_n 2, 1) := by decide +kernel
theorem dX11_reaches_27 : decode cX11_reaches 27 = .ok (.invokevirtual 149, 3) := by decide +kernel
theorem dX11_reaches_30 : decode cX11_reaches 30 = .ok (.lconst 0, 1) := by decide +kernel
theorem dX11_reaches_31 : decode cX11_reaches 31 = .ok (.lcmp, 1) := by decide +kernel
theorem dX11_reaches_32 : decode cX11_reaches 32 = .ok (.ifCond .ne 8, 3) := by decide +kernel
theorem dX11_reaches_35 : decode cX11_reaches 35 = .ok (.bipush (-4), 2) := by decide +kernel
theorem dX11_reaches_37 : decode cX11_reaches 37 = .ok (.goto 40, 3) := by decide +kernel
theorem dX11_reaches_40 : decode cX11_reaches 40 = .ok (.aload_n 0, 1) := by decide +kernel
theorem dX11_reaches_41 : decode cX11_reaches 41 = .ok (.iload_n 1, 1) := by decide +kernel
theorem dX11_reaches_42 : decode cX11_reaches 42 = .ok (.iload_n 2, 1) := by decide +kernel
theorem dX11_reaches_43 : decode cX11_reaches 43 = .ok (.invokevirtual 149, 3) := by decide +kernel
theorem dX11_reaches_46 : decode cX11_reaches 46 = .ok (.aload_n 0, 1) := by decide +kernel
theorem dX11_reaches_47 : decode cX11_reaches 47 = .ok (.invokevirtual 297, 3) := by decide +kernel
theorem dX11_reaches_50 : decode cX11_reaches 50 = .ok (.aload_n 0, 1) := by decide +kernel
theorem dX11_reaches_51 : decode cX11_reaches 51 = .ok (.invokevirtual 297, 3) := by decide +kernel
theorem dX11_reaches_54 : decode cX11_reaches 54 = .ok (.imul, 1) := by decide +kernel
theorem dX11_reaches_55 : decode cX11_reaches 55 = .ok (.i2l, 1) := by decide +kernel
theorem dX11_reaches_56 : decode cX11_reaches 56 = .ok (.aload_n 0, 1) := by decide +kernel
theorem dX11_reaches_57 : decode cX11_reaches 57 = .ok (.invokevirtual 294, 3) := by decide +kernel
theorem dX11_reaches_60 : decode cX11_reaches 60 = .ok (.aload_n 0, 1) := by decide +kernel
theorem dX11_reaches_61 : decode cX11_reaches 61 = .ok (.invokevirtual 294, 3) := by decide +kernel
theorem dX11_reaches_64 : decode cX11_reaches 64 = .ok (.imul, 1) := by decide +kernel
theorem dX11_reaches_65 : decode cX11_reaches 65 = .ok (.i2l, 1) := by decide +kernel
theorem dX11_reaches_66 : decode cX11_reaches 66 = .ok (.invokestatic 64, 3) := by decide +kernel
theorem dX11_reaches_69 : decode cX11_reaches 69 = .ok (.ifCond .eq 7, 3) := by decide +kernel
theorem dX11_reaches_72 : decode cX11_reaches 72 = .ok (.iconst 1, 1) := by decide +kernel
theorem dX11_reaches_73 : decode cX11_reaches 73 = .ok (.goto 4, 3) := by decide +kernel
theorem dX11_reaches_76 : decode cX11_reaches 76 = .ok (.iconst 0, 1) := by decide +kernel
theorem dX11_reaches_77 : decode cX11_reaches 77 = .ok (.ireturn, 1) := by decide +kernel
theorem dX11_lengthMany_0 : decode cX11_lengthMany 0 = .ok (.iconst 0, 1) := by decide +kernel
theorem dX11_lengthMany_1 : decode cX11_lengthMany 1 = .ok (.istore_n 1, 1) := by decide +kernel
theorem dX11_lengthMany_2 : decode cX11_lengthMany 2 = .ok (.iconst 0, 1) := by decide +kernel
theorem dX11_lengthMany_3 : decode cX11_lengthMany 3 = .ok (.istore_n 2, 1) := by decide +kernel
theorem dX11_lengthMany_4 : decode cX11_lengthMany 4 = .ok (.iload_n 2, 1) := by decide +kernel
theorem dX11_lengthMany_5 : decode cX11_lengthMany 5 = .ok (.bipush 21, 2) := by decide +kernel
theorem dX11_lengthMany_7 : decode cX11_lengthMany 7 = .ok (.if_icmp .ge 26, 3) := by decide +kernel
theorem dX11_lengthMany_10 : decode cX11_lengthMany 10 = .ok (.iload_n 1, 1) := by decide +kernel
theorem dX11_lengthMany_11 : decode cX11_lengthMany 11 = .ok (.aload_n 0, 1) := by decide +kernel
theorem dX11_lengthMany_12 : decode cX11_lengthMany 12 = .ok (.getfield 7, 3) := by decide +kernel
theorem dX11_lengthMany_15 : decode cX11_lengthMany 15 = .ok (.iload_n 2, 1) := by decide +kernel
theorem dX11_lengthMany_16 : decode cX11_lengthMany 16 = .ok (.iaload, 1) := by decide +kernel
theorem dX11_lengthMany_17 : decode cX11_lengthMany 17 = .ok (.ifCond .le 7, 3) := by decide +kernel
theorem dX11_lengthMany_20 : decode cX11_lengthMany 20 = .ok (.iconst 1, 1) := by decide +kernel
theorem dX11_lengthMany_21 : decode cX11_lengthMany 21 = .ok (.goto 4, 3) := by decide +kernel
theorem dX11_lengthMany_24 : decode cX11_lengthMany 24 = .ok (.iconst 0, 1) := by decide +kernel
theorem dX11_lengthMany_25 : decode cX11_lengthMany 25 = .ok (.iadd, 1) := by decide +kernel
theorem dX11_lengthMany_26 : decode cX11_lengthMany 26 = .ok (.istore_n 1, 1) := by decide +kernel
theorem dX11_lengthMany_27 : decode cX11_lengthMany 27 = .ok (.iinc 2 1, 3) := by decide +kernel
theorem dX11_lengthMany_30 : decode cX11_lengthMany 30 = .ok (.goto (-26), 3) := by decide +kernel
theorem dX11_lengthMany_33 : decode cX11_lengthMany 33 = .ok (.iload_n 1, 1) := by decide +kernel
theorem dX11_lengthMany_34 : decode cX11_lengthMany 34 = .ok (.ireturn, 1) := by decide +kernel
set_option maxRecDepth 20000 in
theorem ggX11_keep_X11_awake : GoodIn wsX11_keep wsX11_awake := goodIn_r _ [7, 8, 1, 12, 13, 14, 15, 16, 17, 18, 19, 20, 21, 22, 23, 24, 25, 26, 27, 28, 29, 30, 31, 32, 33, 34, 35, 36, 37, 38, 39, 40, 41] (by decide +kernel) (by decide +kernel)
set_option maxRecDepth 20000 in
theorem gX11_keep_X11_awake : GoodIn wsX11_keep (wsV RX11 135 RX11 yX11_awake wsX11_awake) := goodIn_app (goodIn_of _ (by decide +kernel)) ggX11_keep_X11_awake
set_option maxRecDepth 20000 in
theorem ggX11_keep_X11_in : GoodIn wsX11_keep wsX11_in := goodIn_r _ [11] (by decide +kernel) (by decide +kernel)
set_option maxRecDepth 20000 in
theorem gX11_keep_X11_in : GoodIn wsX11_keep (va_wsS RX11 64 yX11_in wsX11_in) := goodIn_app (goodIn_of _ (by decide +kernel)) ggX11_keep_X11_in
theorem dX11_keep_0 : decode cX11_keep 0 = .ok (.aload_n 0, 1) := by decide +kernel
theorem dX11_keep_1 : decode cX11_keep 1 = .ok (.invokevirtual 135, 3) := by decide +kernel
theorem dX11_keep_4 : decode cX11_keep 4 = .ok (.iload_n 1, 1) := by decide +kernel
theorem dX11_keep_5 : decode cX11_keep 5 = .ok (.i2l, 1) := by decide +kernel
theorem dX11_keep_6 : decode cX11_keep 6 = .ok (.lconst 0, 1) := by decide +kernel
theorem dX11_keep_7 : decode cX11_keep 7 = .ok (.lconst 1, 1) := by decide +kernel
theorem dX11_keep_8 : decode cX11_keep 8 = .ok (.invokestatic 64, 3) := by decide +kernel
theorem dX11_keep_11 : decode cX11_keep 11 = .ok (.ifCond .ne 5, 3) := by decide +kernel
theorem dX11_keep_14 : decode cX11_keep 14 = .ok (.iconst (-1), 1) := by decide +kernel
theorem dX11_keep_15 : decode cX11_keep 15 = .ok (.ireturn, 1) := by decide +kernel
theorem dX11_keep_16 : decode cX11_keep 16 = .ok (.iconst 0, 1) := by decide +kernel
theorem dX11_keep_17 : decode cX11_keep 17 = .ok (.istore_n 2, 1) := by decide +kernel
theorem dX11_keep_18 : decode cX11_keep 18 = .ok (.iload_n 2, 1) := by decide +kernel
theorem dX11_keep_19 : decode cX11_keep 19 = .ok (.bipush 32, 2) := by decide +kernel
theorem dX11_keep_21 : decode cX11_keep 21 = .ok (.if_icmp .ge 28, 3) := by decide +kernel
theorem dX11_keep_24 : decode cX11_keep 24 = .ok (.aload_n 0, 1) := by decide +kernel
theorem dX11_keep_25 : decode cX11_keep 25 = .ok (.getfield 7, 3) := by decide +kernel
theorem dX11_keep_28 : decode cX11_keep 28 = .ok (.bipush 32, 2) := by decide +kernel
theorem dX11_keep_30 : decode cX11_keep 30 = .ok (.iload_n 1, 1) := by decide +kernel
theorem dX11_keep_31 : decode cX11_keep 31 = .ok (.iconst 1, 1) := by decide +kernel
theorem dX11_keep_32 : decode cX11_keep 32 = .ok (.iadd, 1) := by decide +kernel
theorem dX11_keep_33 : decode cX11_keep 33 = .ok (.imul, 1) := by decide +kernel
theorem dX11_keep_34 : decode cX11_keep 34 = .ok (.iload_n 2, 1) := by decide +kernel
theorem dX11_keep_35 : decode cX11_keep 35 = .ok (.iadd, 1) := by decide +kernel
theorem dX11_keep_36 : decode cX11_keep 36 = .ok (.aload_n 0, 1) := by decide +kernel
theorem dX11_keep_37 : decode cX11_keep 37 = .ok (.getfield 7, 3) := by decide +kernel
theorem dX11_keep_40 : decode cX11_keep 40 = .ok (.iload_n 2, 1) := by decide +kernel
theorem dX11_keep_41 : decode cX11_keep 41 = .ok (.iaload, 1) := by decide +kernel
theorem dX11_keep_42 : decode cX11_keep 42 = .ok (.iastore, 1) := by decide +kernel
theorem dX11_keep_43 : decode cX11_keep 43 = .ok (.iinc 2 1, 3) := by decide +kernel
theorem dX11_keep_46 : decode cX11_keep 46 = .ok (.goto (-28), 3) := by decide +kernel
theorem dX11_keep_49 : decode cX11_keep 49 = .ok (.aload_n 0, 1) := by decide +kernel
theorem dX11_keep_50 : decode cX11_keep 50 = .ok (.getfield 40, 3) := by decide +kernel
theorem dX11_keep_53 : decode cX11_keep 53 = .ok (.iload_n 1, 1) := by decide +kernel
theorem dX11_keep_54 : decode cX11_keep 54 = .ok (.baload, 1) := by decide +kernel
theorem dX11_keep_55 : decode cX11_keep 55 = .ok (.ifCond .eq 7, 3) := by decide +kernel
theorem dX11_keep_58 : decode cX11_keep 58 = .ok (.iconst 1, 1) := by decide +kernel
theorem dX11_keep_59 : decode cX11_keep 59 = .ok (.goto 4, 3) := by decide +kernel
theorem dX11_keep_62 : decode cX11_keep 62 = .ok (.iconst 0, 1) := by decide +kernel
theorem dX11_keep_63 : decode cX11_keep 63 = .ok (.istore_n 2, 1) := by decide +kernel
theorem dX11_keep_64 : decode cX11_keep 64 = .ok (.aload_n 0, 1) := by decide +kernel
theorem dX11_keep_65 : decode cX11_keep 65 = .ok (.getfield 40, 3) := by decide +kernel
theorem dX11_keep_68 : decode cX11_keep 68 = .ok (.iload_n 1, 1) := by decide +kernel
theorem dX11_keep_69 : decode cX11_keep 69 = .ok (.iconst 1, 1) := by decide +kernel
theorem dX11_keep_70 : decode cX11_keep 70 = .ok (.bastore, 1) := by decide +kernel
theorem dX11_keep_71 : decode cX11_keep 71 = .ok (.iload_n 2, 1) := by decide +kernel
theorem dX11_keep_72 : decode cX11_keep 72 = .ok (.ireturn, 1) := by decide +kernel
set_option maxRecDepth 20000 in
theorem ggX11_back_X11_in : GoodIn wsX11_back wsX11_in := goodIn_r _ [6] (by decide +kernel) (by decide +kernel)
set_option maxRecDepth 20000 in
theorem gX11_back_X11_in : GoodIn wsX11_back (va_wsS RX11 64 yX11_in wsX11_in) := goodIn_app (goodIn_of _ (by decide +kernel)) ggX11_back_X11_in
set_option maxRecDepth 20000 in
theorem ggX11_back_X11_lengthMany : GoodIn wsX11_back wsX11_lengthMany := goodIn_r _ [10, 2, 11, 12, 13, 14, 15, 16, 17, 18, 19, 20, 21, 22, 23, 24, 25, 26, 27, 28, 29, 30, 31, 32, 33, 34, 35, 36, 37, 38, 39, 40] (by decide +kernel) (by decide +kernel)
set_option maxRecDepth 20000 in
theorem gX11_back_X11_lengthMany : GoodIn wsX11_back (wsV RX11 300 RX11 yX11_lengthMany wsX11_lengthMany) := goodIn_app (goodIn_of _ (by decide +kernel)) ggX11_back_X11_lengthMany
theorem dX11_back_0 : decode cX11_back 0 = .ok (.iload_n 1, 1) := by decide +kernel
theorem dX11_back_1 : decode cX11_back 1 = .ok (.i2l, 1) := by decide +kernel
theorem dX11_back_2 : decode cX11_back 2 = .ok (.lconst 0, 1) := by decide +kernel
theorem dX11_back_3 : decode cX11_back 3 = .ok (.lconst 1, 1) := by decide +kernel
theorem dX11_back_4 : decode cX11_back 4 = .ok (.invokestatic 64, 3) := by decide +kernel
theorem dX11_back_7 : decode cX11_back 7 = .ok (.ifCond .ne 5, 3) := by decide +kernel
theorem dX11_back_10 : decode cX11_back 10 = .ok (.iconst (-1), 1) := by decide +kernel
theorem dX11_back_11 : decode cX11_back 11 = .ok (.ireturn, 1) := by decide +kernel
theorem dX11_back_12 : decode cX11_back 12 = .ok (.aload_n 0, 1) := by decide +kernel
theorem dX11_back_13 : decode cX11_back 13 = .ok (.getfield 40, 3) := by decide +kernel
theorem dX11_back_16 : decode cX11_back 16 = .ok (.iload_n 1, 1) := by decide +kernel
theorem dX11_back_17 : decode cX11_back 17 = .ok (.baload, 1) := by decide +kernel
theorem dX11_back_18 : decode cX11_back 18 = .ok (.ifCond .ne 6, 3) := by decide +kernel
theorem dX11_back_21 : decode cX11_back 21 = .ok (.bipush (-2), 2) := by decide +kernel
theorem dX11_back_23 : decode cX11_back 23 = .ok (.ireturn, 1) := by decide +kernel
theorem dX11_back_24 : decode cX11_back 24 = .ok (.iconst 0, 1) := by decide +kernel
theorem dX11_back_25 : decode cX11_back 25 = .ok (.istore_n 2, 1) := by decide +kernel
theorem dX11_back_26 : decode cX11_back 26 = .ok (.iload_n 2, 1) := by decide +kernel
theorem dX11_back_27 : decode cX11_back 27 = .ok (.bipush 32, 2) := by decide +kernel
theorem dX11_back_29 : decode cX11_back 29 = .ok (.if_icmp .ge 28, 3) := by decide +kernel
theorem dX11_back_32 : decode cX11_back 32 = .ok (.aload_n 0, 1) := by decide +kernel
theorem dX11_back_33 : decode cX11_back 33 = .ok (.getfield 7, 3) := by decide +kernel
theorem dX11_back_36 : decode cX11_back 36 = .ok (.iload_n 2, 1) := by decide +kernel
theorem dX11_back_37 : decode cX11_back 37 = .ok (.aload_n 0, 1) := by decide +kernel
theorem dX11_back_38 : decode cX11_back 38 = .ok (.getfield 7, 3) := by decide +kernel
theorem dX11_back_41 : decode cX11_back 41 = .ok (.bipush 32, 2) := by decide +kernel
theorem dX11_back_43 : decode cX11_back 43 = .ok (.iload_n 1, 1) := by decide +kernel
theorem dX11_back_44 : decode cX11_back 44 = .ok (.iconst 1, 1) := by decide +kernel
theorem dX11_back_45 : decode cX11_back 45 = .ok (.iadd, 1) := by decide +kernel
theorem dX11_back_46 : decode cX11_back 46 = .ok (.imul, 1) := by decide +kernel
theorem dX11_back_47 : decode cX11_back 47 = .ok (.iload_n 2, 1) := by decide +kernel
theorem dX11_back_48 : decode cX11_back 48 = .ok (.iadd, 1) := by decide +kernel
theorem dX11_back_49 : decode cX11_back 49 = .ok (.iaload, 1) := by decide +kernel
theorem dX11_back_50 : decode cX11_back 50 = .ok (.iastore, 1) := by decide +kernel
theorem dX11_back_51 : decode cX11_back 51 = .ok (.iinc 2 1, 3) := by decide +kernel
theorem dX11_back_54 : decode cX11_back 54 = .ok (.goto (-28), 3) := by decide +kernel
theorem dX11_back_57 : decode cX11_back 57 = .ok (.aload_n 0, 1) := by decide +kernel
theorem dX11_back_58 : decode cX11_back 58 = .ok (.invokevirtual 300, 3) := by decide +kernel
theorem dX11_back_61 : decode cX11_back 61 = .ok (.ireturn, 1) := by decide +kernel
set_option maxRecDepth 20000 in
theorem ggX11_sheet_X11_in : GoodIn wsX11_sheet wsX11_in := goodIn_r _ [9] (by decide +kernel) (by decide +kernel)
set_option maxRecDepth 20000 in
theorem gX11_sheet_X11_in : GoodIn wsX11_sheet (va_wsS RX11 64 yX11_in wsX11_in) := goodIn_app (goodIn_of _ (by decide +kernel)) ggX11_sheet_X11_in
theorem dX11_sheet_0 : decode cX11_sheet 0 = .ok (.iload_n 1, 1) := by decide +kernel
theorem dX11_sheet_1 : decode cX11_sheet 1 = .ok (.i2l, 1) := by decide +kernel
theorem dX11_sheet_2 : decode cX11_sheet 2 = .ok (.lconst 0, 1) := by decide +kernel
theorem dX11_sheet_3 : decode cX11_sheet 3 = .ok (.ldc2_w 194, 3) := by decide +kernel
theorem dX11_sheet_6 : decode cX11_sheet 6 = .ok (.invokestatic 64, 3) := by decide +kernel
theorem dX11_sheet_9 : decode cX11_sheet 9 = .ok (.ifCond .eq 21, 3) := by decide +kernel
theorem dX11_sheet_12 : decode cX11_sheet 12 = .ok (.iload_n 2, 1) := by decide +kernel
theorem dX11_sheet_13 : decode cX11_sheet 13 = .ok (.i2l, 1) := by decide +kernel
theorem dX11_sheet_14 : decode cX11_sheet 14 = .ok (.lconst 0, 1) := by decide +kernel
theorem dX11_sheet_15 : decode cX11_sheet 15 = .ok (.ldc2_w 179, 3) := by decide +kernel
theorem dX11_sheet_18 : decode cX11_sheet 18 = .ok (.invokestatic 64, 3) := by decide +kernel
theorem dX11_sheet_21 : decode cX11_sheet 21 = .ok (.ifCond .eq 9, 3) := by decide +kernel
theorem dX11_sheet_24 : decode cX11_sheet 24 = .ok (.iload_n 3, 1) := by decide +kernel
theorem dX11_sheet_25 : decode cX11_sheet 25 = .ok (.bipush 40, 2) := by decide +kernel
theorem dX11_sheet_27 : decode cX11_sheet 27 = .ok (.if_icmp .le 5, 3) := by decide +kernel
theorem dX11_sheet_30 : decode cX11_sheet 30 = .ok (.iconst (-1), 1) := by decide +kernel
theorem dX11_sheet_31 : decode cX11_sheet 31 = .ok (.ireturn, 1) := by decide +kernel
theorem dX11_sheet_32 : decode cX11_sheet 32 = .ok (.iload_n 3, 1) := by decide +kernel
theorem dX11_sheet_33 : decode cX11_sheet 33 = .ok (.ifCond .ge 6, 3) := by decide +kernel
theorem dX11_sheet_36 : decode cX11_sheet 36 = .ok (.bipush (-14), 2) := by decide +kernel
theorem dX11_sheet_38 : decode cX11_sheet 38 = .ok (.ireturn, 1) := by decide +kernel
theorem dX11_sheet_39 : decode cX11_sheet 39 = .ok (.aload_n 0, 1) := by decide +kernel
theorem dX11_sheet_40 : decode cX11_sheet 40 = .ok (.getfield 44, 3) := by decide +kernel
theorem dX11_sheet_43 : decode cX11_sheet 43 = .ok (.iload_n 1, 1) := by decide +kernel
theorem dX11_sheet_44 : decode cX11_sheet 44 = .ok (.iload_n 2, 1) := by decide +kernel
theorem dX11_sheet_45 : decode cX11_sheet 45 = .ok (.iastore, 1) := by decide +kernel
theorem dX11_sheet_46 : decode cX11_sheet 46 = .ok (.aload_n 0, 1) := by decide +kernel
theorem dX11_sheet_47 : decode cX11_sheet 47 = .ok (.getfield 47, 3) := by decide +kernel
theorem dX11_sheet_50 : decode cX11_sheet 50 = .ok (.iload_n 1, 1) := by decide +kernel
theorem dX11_sheet_51 : decode cX11_sheet 51 = .ok (.iload_n 3, 1) := by decide +kernel
theorem dX11_sheet_52 : decode cX11_sheet 52 = .ok (.iastore, 1) := by decide +kernel
theorem dX11_sheet_53 : decode cX11_sheet 53 = .ok (.iconst 0, 1) := by decide +kernel
theorem dX11_sheet_54 : decode cX11_sheet 54 = .ok (.istore 4, 2) := by decide +kernel
theorem dX11_sheet_56 : decode cX11_sheet 56 = .ok (.iload 4, 2) := by decide +kernel
theorem dX11_sheet_58 : decode cX11_sheet 58 = .ok (.bipush 40, 2) := by decide +kernel
theorem dX11_sheet_60 : decode cX11_sheet 60 = .ok (.if_icmp .ge 22, 3) := by decide +kernel
theorem dX11_sheet_63 : decode cX11_sheet 63 = .ok (.aload_n 0, 1) := by decide +kernel
theorem dX11_sheet_64 : decode cX11_sheet 64 = .ok (.getfield 50, 3) := by decide +kernel
theorem dX11_sheet_67 : decode cX11_sheet 67 = .ok (.bipush 40, 2) := by decide +kernel
theorem dX11_sheet_69 : decode cX11_sheet 69 = .ok (.iload_n 1, 1) := by decide +kernel
theorem dX11_sheet_70 : decode cX11_sheet 70 = .ok (.imul, 1) := by decide +kernel
theorem dX11_sheet_71 : decode cX11_sheet 71 = .ok (.iload 4, 2) := by decide +kernel
theorem dX11_sheet_73 : decode cX11_sheet 73 = .ok (.iadd, 1) := by decide +kernel
theorem dX11_sheet_74 : decode cX11_sheet 74 = .ok (.iconst 0, 1) := by decide +kernel
theorem dX11_sheet_75 : decode cX11_sheet 75 = .ok (.iastore, 1) := by decide +kernel
theorem dX11_sheet_76 : decode cX11_sheet 76 = .ok (.iinc 4 1, 3) := by decide +kernel
theorem dX11_sheet_79 : decode cX11_sheet 79 = .ok (.goto (-23), 3) := by decide +kernel
theorem dX11_sheet_82 : decode cX11_sheet 82 = .ok (.iconst 1, 1) := by decide +kernel
theorem dX11_sheet_83 : decode cX11_sheet 83 = .ok (.ireturn, 1) := by decide +kernel
set_option maxRecDepth 20000 in
theorem ggX11_lay_X11_in : GoodIn wsX11_lay wsX11_in := goodIn_r _ [8] (by decide +kernel) (by decide +kernel)
set_option maxRecDepth 20000 in
theorem gX11_lay_X11_in : GoodIn wsX11_lay (va_wsS RX11 64 yX11_in wsX11_in) := goodIn_app (goodIn_of _ (by decide +kernel)) ggX11_lay_X11_in
theorem dX11_lay_0 : decode cX11_lay 0 = .ok (.iload_n 1, 1) := by decide +kernel
theorem dX11_lay_1 : decode cX11_lay 1 = .ok (.i2l, 1) := by decide +kernel
theorem dX11_lay_2 : decode cX11_lay 2 = .ok (.lconst 0, 1) := by decide +kernel
theorem dX11_lay_3 : decode cX11_lay 3 = .ok (.ldc2_w 194, 3) := by decide +kernel
theorem dX11_lay_6 : decode cX11_lay 6 = .ok (.invokestatic 64, 3) := by decide +kernel
theorem dX11_lay_9 : decode cX11_lay 9 = .ok (.ifCond .ne 5, 3) := by decide +kernel
theorem dX11_lay_12 : decode cX11_lay 12 = .ok (.iconst (-1), 1) := by decide +kernel
theorem dX11_lay_13 : decode cX11_lay 13 = .ok (.ireturn, 1) := by decide +kernel
theorem dX11_lay_14 : decode cX11_lay 14 = .ok (.aload_n 0, 1) := by decide +kernel
theorem dX11_lay_15 : decode cX11_lay 15 = .ok (.getfield 44, 3) := by decide +kernel
theorem dX11_lay_18 : decode cX11_lay 18 = .ok (.iload_n 1, 1) := by decide +kernel
theorem dX11_lay_19 : decode cX11_lay 19 = .ok (.iaload, 1) := by decide +kernel
theorem dX11_lay_20 : decode cX11_lay 20 = .ok (.bipush (-4), 2) := by decide +kernel
theorem dX11_lay_22 : decode cX11_lay 22 = .ok (.if_icmp .ne 6, 3) := by decide +kernel
theorem dX11_lay_25 : decode cX11_lay 25 = .ok (.bipush (-11), 2) := by decide +kernel
theorem dX11_lay_27 : decode cX11_lay 27 = .ok (.ireturn, 1) := by decide +kernel
theorem dX11_lay_28 : decode cX11_lay 28 = .ok (.iload_n 2, 1) := by decide +kernel
theorem dX11_lay_29 : decode cX11_lay 29 = .ok (.i2l, 1) := by decide +kernel
theorem dX11_lay_30 : decode cX11_lay 30 = .ok (.lconst 0, 1) := by decide +kernel
theorem dX11_lay_31 : decode cX11_lay 31 = .ok (.aload_n 0, 1) := by decide +kernel
theorem dX11_lay_32 : decode cX11_lay 32 = .ok (.getfield 47, 3) := by decide +kernel
theorem dX11_lay_35 : decode cX11_lay 35 = .ok (.iload_n 1, 1) := by decide +kernel
theorem dX11_lay_36 : decode cX11_lay 36 = .ok (.iaload, 1) := by decide +kernel
theorem dX11_lay_37 : decode cX11_lay 37 = .ok (.iconst 1, 1) := by decide +kernel
theorem dX11_lay_38 : decode cX11_lay 38 = .ok (.isub, 1) := by decide +kernel
theorem dX11_lay_39 : decode cX11_lay 39 = .ok (.i2l, 1) := by decide +kernel
theorem dX11_lay_40 : decode cX11_lay 40 = .ok (.invokestatic 64, 3) := by decide +kernel
theorem dX11_lay_43 : decode cX11_lay 43 = .ok (.ifCond .ne 6, 3) := by decide +kernel
theorem dX11_lay_46 : decode cX11_lay 46 = .ok (.bipush (-12), 2) := by decide +kernel
theorem dX11_lay_48 : decode cX11_lay 48 = .ok (.ireturn, 1) := by decide +kernel
theorem dX11_lay_49 : decode cX11_lay 49 = .ok (.aload_n 0, 1) := by decide +kernel
theorem dX11_lay_50 : decode cX11_lay 50 = .ok (.getfield 50, 3) := by decide +kernel
theorem dX11_lay_53 : decode cX11_lay 53 = .ok (.bipush 40, 2) := by decide +kernel
theorem dX11_lay_55 : decode cX11_lay 55 = .ok (.iload_n 1, 1) := by decide +kernel
theorem dX11_lay_56 : decode cX11_lay 56 = .ok (.imul, 1) := by decide +kernel
theorem dX11_lay_57 : decode cX11_lay 57 = .ok (.iload_n 2, 1) := by decide +kernel
theorem dX11_lay_58 : decode cX11_lay 58 = .ok (.iadd, 1) := by decide +kernel
theorem dX11_lay_59 : decode cX11_lay 59 = .ok (.aload_n 0, 1) := by decide +kernel
theorem dX11_lay_60 : decode cX11_lay 60 = .ok (.getfield 44, 3) := by decide +kernel
theorem dX11_lay_63 : decode cX11_lay 63 = .ok (.iload_n 1, 1) := by decide +kernel
theorem dX11_lay_64 : decode cX11_lay 64 = .ok (.iaload, 1) := by decide +kernel
theorem dX11_lay_65 : decode cX11_lay 65 = .ok (.ifCond .ne 13, 3) := by decide +kernel
theorem dX11_lay_68 : decode cX11_lay 68 = .ok (.iload_n 3, 1) := by decide +kernel
theorem dX11_lay_69 : decode cX11_lay 69 = .ok (.bipush 24, 2) := by decide +kernel
theorem dX11_lay_71 : decode cX11_lay 71 = .ok (.ishl, 1) := by decide +kernel
theorem dX11_lay_72 : decode cX11_lay 72 = .ok (.bipush 24, 2) := by decide +kernel
theorem dX11_lay_74 : decode cX11_lay 74 = .ok (.ishr, 1) := by decide +kernel
theorem dX11_lay_75 : decode cX11_lay 75 = .ok (.goto 24, 3) := by decide +kernel
theorem dX11_lay_78 : decode cX11_lay 78 = .ok (.aload_n 0, 1) := by decide +kernel
theorem dX11_lay_79 : decode cX11_lay 79 = .ok (.getfield 44, 3) := by decide +kernel
theorem dX11_lay_82 : decode cX11_lay 82 = .ok (.iload_n 1, 1) := by decide +kernel
theorem dX11_lay_83 : decode cX11_lay 83 = .ok (.iaload, 1) := by decide +kernel
theorem dX11_lay_84 : decode cX11_lay 84 = .ok (.iconst 1, 1) := by decide +kernel
theorem dX11_lay_85 : decode cX11_lay 85 = .ok (.if_icmp .ne 13, 3) := by decide +kernel
theorem dX11_lay_88 : decode cX11_lay 88 = .ok (.iload_n 3, 1) := by decide +kernel
theorem dX11_lay_89 : decode cX11_lay 89 = .ok (.bipush 16, 2) := by decide +kernel
theorem dX11_lay_91 : decode cX11_lay 91 = .ok (.ishl, 1) := by decide +kernel
theorem dX11_lay_92 : decode cX11_lay 92 = .ok (.bipush 16, 2) := by decide +kernel
theorem dX11_lay_94 : decode cX11_lay 94 = .ok (.ishr, 1) := by decide +kernel
theorem dX11_lay_95 : decode cX11_lay 95 = .ok (.goto 4, 3) := by decide +kernel
theorem dX11_lay_98 : decode cX11_lay 98 = .ok (.iload_n 3, 1) := by decide +kernel
theorem dX11_lay_99 : decode cX11_lay 99 = .ok (.iastore, 1) := by decide +kernel
theorem dX11_lay_100 : decode cX11_lay 100 = .ok (.iconst 1, 1) := by decide +kernel
theorem dX11_lay_101 : decode cX11_lay 101 = .ok (.ireturn, 1) := by decide +kernel
set_option maxRecDepth 20000 in
theorem ggX11_read_X11_awake : GoodIn wsX11_read wsX11_awake := goodIn_r _ [14, 15, 5, 39, 40, 41, 42, 43, 44, 45, 46, 47, 48, 49, 50, 51, 52, 53, 54, 55, 56, 57, 58, 59, 60, 61, 62, 63, 64, 65, 66, 67, 68] (by decide +kernel) (by decide +kernel)
set_option maxRecDepth 20000 in
theorem gX11_read_X11_awake : GoodIn wsX11_read (wsV RX11 135 RX11 yX11_awake wsX11_awake) := goodIn_app (goodIn_of _ (by decide +kernel)) ggX11_read_X11_awake
set_option maxRecDepth 20000 in
theorem ggX11_read_X11_in : GoodIn wsX11_read wsX11_in := goodIn_r _ [18] (by decide +kernel) (by decide +kernel)
set_option maxRecDepth 20000 in
theorem gX11_read_X11_in : GoodIn wsX11_read (va_wsS RX11 64 yX11_in wsX11_in) := goodIn_app (goodIn_of _ (by decide +kernel)) ggX11_read_X11_in
set_option maxRecDepth 20000 in
theorem ggX11_read_X11_tells2 : GoodIn wsX11_read wsX11_tells2 := goodIn_r _ [22, 23, 5, 24, 25, 26, 13, 27, 28, 29, 30, 31, 10, 11, 12, 14, 15, 16, 17, 18, 32, 33, 34, 35, 36, 37, 38, 39, 40, 41, 42, 43, 44, 45, 46, 47, 48, 49, 50, 51, 52, 53, 54, 55, 56, 57, 58, 59, 60, 61, 62, 63, 64, 65, 66, 67, 68] (by decide +kernel) (by decide +kernel)
set_option maxRecDepth 20000 in
theorem gX11_read_X11_tells2 : GoodIn wsX11_read (wsV RX11 158 RX11 yX11_tells2 wsX11_tells2) := goodIn_app (goodIn_of _ (by decide +kernel)) ggX11_read_X11_tells2
theorem dX11_read_0 : decode cX11_read 0 = .ok (.aload_n 0, 1) := by decide +kernel
theorem dX11_read_1 : decode cX11_read 1 = .ok (.invokevirtual 135, 3) := by decide +kernel
theorem dX11_read_4 : decode cX11_read 4 = .ok (.iload_n 1, 1) := by decide +kernel
theorem dX11_read_5 : decode cX11_read 5 = .ok (.i2l, 1) := by decide +kernel
theorem dX11_read_6 : decode cX11_read 6 = .ok (.lconst 0, 1) := by decide +kernel
theorem dX11_read_7 : decode cX11_read 7 = .ok (.ldc2_w 194, 3) := by decide +kernel
theorem dX11_read_10 : decode cX11_read 10 = .ok (.invokestatic 64, 3) := by decide +kernel
theorem dX11_read_13 : decode cX11_read 13 = .ok (.ifCond .eq 28, 3) := by decide +kernel
theorem dX11_read_16 : decode cX11_read 16 = .ok (.iload_n 2, 1) := by decide +kernel
theorem dX11_read_17 : decode cX11_read 17 = .ok (.i2l, 1) := by decide +kernel
theorem dX11_read_18 : decode cX11_read 18 = .ok (.lconst 0, 1) := by decide +kernel
theorem dX11_read_19 : decode cX11_read 19 = .ok (.ldc2_w 179, 3) := by decide +kernel
theorem dX11_read_22 : decode cX11_read 22 = .ok (.invokestatic 64, 3) := by decide +kernel
theorem dX11_read_25 : decode cX11_read 25 = .ok (.ifCond .eq 16, 3) := by decide +kernel
theorem dX11_read_28 : decode cX11_read 28 = .ok (.iload 4, 2) := by decide +kernel
theorem dX11_read_30 : decode cX11_read 30 = .ok (.i2l, 1) := by decide +kernel
theorem dX11_read_31 : decode cX11_read 31 = .ok (.lconst 0, 1) := by decide +kernel
theorem dX11_read_32 : decode cX11_read 32 = .ok (.ldc2_w 303, 3) := by decide +kernel
theorem dX11_read_35 : decode cX11_read 35 = .ok (.invokestatic 64, 3) := by decide +kernel
theorem dX11_read_38 : decode cX11_read 38 = .ok (.ifCond .ne 5, 3) := by decide +kernel
theorem dX11_read_41 : decode cX11_read 41 = .ok (.iconst (-1), 1) := by decide +kernel
theorem dX11_read_42 : decode cX11_read 42 = .ok (.ireturn, 1) := by decide +kernel
theorem dX11_read_43 : decode cX11_read 43 = .ok (.iconst 0, 1) := by decide +kernel
theorem dX11_read_44 : decode cX11_read 44 = .ok (.istore 5, 2) := by decide +kernel
theorem dX11_read_46 : decode cX11_read 46 = .ok (.iconst 0, 1) := by decide +kernel
theorem dX11_read_47 : decode cX11_read 47 = .ok (.istore 6, 2) := by decide +kernel
theorem dX11_read_49 : decode cX11_read 49 = .ok (.iconst 0, 1) := by decide +kernel
theorem dX11_read_50 : decode cX11_read 50 = .ok (.istore 7, 2) := by decide +kernel
theorem dX11_read_52 : decode cX11_read 52 = .ok (.iconst 0, 1) := by decide +kernel
theorem dX11_read_53 : decode cX11_read 53 = .ok (.istore 8, 2) := by decide +kernel
theorem dX11_read_55 : decode cX11_read 55 = .ok (.iload 8, 2) := by decide +kernel
theorem dX11_read_57 : decode cX11_read 57 = .ok (.bipush 21, 2) := by decide +kernel
theorem dX11_read_59 : decode cX11_read 59 = .ok (.if_icmp .ge 23, 3) := by decide +kernel
theorem dX11_read_62 : decode cX11_read 62 = .ok (.aload_n 0, 1) := by decide +kernel
theorem dX11_read_63 : decode cX11_read 63 = .ok (.getfield 53, 3) := by decide +kernel
theorem dX11_read_66 : decode cX11_read 66 = .ok (.iload 8, 2) := by decide +kernel
theorem dX11_read_68 : decode cX11_read 68 = .ok (.aload_n 0, 1) := by decide +kernel
theorem dX11_read_69 : decode cX11_read 69 = .ok (.getfield 7, 3) := by decide +kernel
theorem dX11_read_72 : decode cX11_read 72 = .ok (.iload 8, 2) := by decide +kernel
theorem dX11_read_74 : decode cX11_read 74 = .ok (.iaload, 1) := by decide +kernel
theorem dX11_read_75 : decode cX11_read 75 = .ok (.iastore, 1) := by decide +kernel
theorem dX11_read_76 : decode cX11_read 76 = .ok (.iinc 8 1, 3) := by decide +kernel
theorem dX11_read_79 : decode cX11_read 79 = .ok (.goto (-24), 3) := by decide +kernel
theorem dX11_read_82 : decode cX11_read 82 = .ok (.iconst 0, 1) := by decide +kernel
theorem dX11_read_83 : decode cX11_read 83 = .ok (.istore 8, 2) := by decide +kernel
theorem dX11_read_85 : decode cX11_read 85 = .ok (.iload 8, 2) := by decide +kernel
theorem dX11_read_87 : decode cX11_read 87 = .ok (.iconst 3, 1) := by decide +kernel
theorem dX11_read_88 : decode cX11_read 88 = .ok (.iload 4, 2) := by decide +kernel
theorem dX11_read_90 : decode cX11_read 90 = .ok (.imul, 1) := by decide +kernel
theorem dX11_read_91 : decode cX11_read 91 = .ok (.if_icmp .ge 168, 3) := by decide +kernel
theorem dX11_read_94 : decode cX11_read 94 = .ok (.iload 5, 2) := by decide +kernel
theorem dX11_read_96 : decode cX11_read 96 = .ok (.ifCond .ne 163, 3) := by decide +kernel
theorem dX11_read_99 : decode cX11_read 99 = .ok (.iload 7, 2) := by decide +kernel
theorem dX11_read_101 : decode cX11_read 101 = .ok (.ifCond .ne 158, 3) := by decide +kernel
theorem dX11_read_104 : decode cX11_read 104 = .ok (.aload_n 0, 1) := by decide +kernel
theorem dX11_read_105 : decode cX11_read 105 = .ok (.getfield 44, 3) := by decide +kernel
theorem dX11_read_108 : decode cX11_read 108 = .ok (.iload_n 1, 1) := by decide +kernel
theorem dX11_read_109 : decode cX11_read 109 = .ok (.iaload, 1) := by decide +kernel
theorem dX11_read_110 : decode cX11_read 110 = .ok (.bipush (-4), 2) := by decide +kernel
theorem dX11_read_112 : decode cX11_read 112 = .ok (.if_icmp .ne 7, 3) := by decide +kernel
theorem dX11_read_115 : decode cX11_read 115 = .ok (.iconst 1, 1) := by decide +kernel
theorem dX11_read_116 : decode cX11_read 116 = .ok (.goto 44, 3) := by decide +kernel
theorem dX11_read_119 : decode cX11_read 119 = .ok (.aload_n 0, 1) := by decide +kernel
theorem dX11_read_120 : decode cX11_read 120 = .ok (.getfield 44, 3) := by decide +kernel
theorem dX11_read_123 : decode cX11_read 123 = .ok (.iload_n 1, 1) := by decide +kernel
theorem dX11_read_124 : decode cX11_read 124 = .ok (.iaload, 1) := by decide +kernel
theorem dX11_read_125 : decode cX11_read 125 = .ok (.iload_n 2, 1) := by decide +kernel
theorem dX11_read_126 : decode cX11_read 126 = .ok (.if_icmp .eq 7, 3) := by decide +kernel
theorem dX11_read_129 : decode cX11_read 129 = .ok (.iconst 3, 1) := by decide +kernel
theorem dX11_read_130 : decode cX11_read 130 = .ok (.goto 30, 3) := by decide +kernel
theorem dX11_read_133 : decode cX11_read 133 = .ok (.iload_n 3, 1) := by decide +kernel
theorem dX11_read_134 : decode cX11_read 134 = .ok (.i2l, 1) := by decide +kernel
theorem dX11_read_135 : decode cX11_read 135 = .ok (.iload 8, 2) := by decide +kernel
theorem dX11_read_137 : decode cX11_read 137 = .ok (.i2l, 1) := by decide +kernel
theorem dX11_read_138 : decode cX11_read 138 = .ok (.ladd, 1) := by decide +kernel
theorem dX11_read_139 : decode cX11_read 139 = .ok (.lconst 0, 1) := by decide +kernel
theorem dX11_read_140 : decode cX11_read 140 = .ok (.aload_n 0, 1) := by decide +kernel
theorem dX11_read_141 : decode cX11_read 141 = .ok (.getfield 47, 3) := by decide +kernel
theorem dX11_read_144 : decode cX11_read 144 = .ok (.iload_n 1, 1) := by decide +kernel
theorem dX11_read_145 : decode cX11_read 145 = .ok (.iaload, 1) := by decide +kernel
theorem dX11_read_146 : decode cX11_read 146 = .ok (.iconst 1, 1) := by decide +kernel
theorem dX11_read_147 : decode cX11_read 147 = .ok (.isub, 1) := by decide +kernel
theorem dX11_read_148 : decode cX11_read 148 = .ok (.i2l, 1) := by decide +kernel
theorem dX11_read_149 : decode cX11_read 149 = .ok (.invokestatic 64, 3) := by decide +kernel
theorem dX11_read_152 : decode cX11_read 152 = .ok (.ifCond .ne 7, 3) := by decide +kernel
theorem dX11_read_155 : decode cX11_read 155 = .ok (.iconst 2, 1) := by decide +kernel
theorem dX11_read_156 : decode cX11_read 156 = .ok (.goto 4, 3) := by decide +kernel
theorem dX11_read_159 : decode cX11_read 159 = .ok (.iconst 0, 1) := by decide +kernel
theorem dX11_read_160 : decode cX11_read 160 = .ok (.istore 5, 2) := by decide +kernel
theorem dX11_read_162 : decode cX11_read 162 = .ok (.iload 5, 2) := by decide +kernel
theorem dX11_read_164 : decode cX11_read 164 = .ok (.ifCond .ne 89, 3) := by decide +kernel
theorem dX11_read_167 : decode cX11_read 167 = .ok (.iload 8, 2) := by decide +kernel
theorem dX11_read_169 : decode cX11_read 169 = .ok (.iconst 3, 1) := by decide +kernel
theorem dX11_read_170 : decode cX11_read 170 = .ok (.irem, 1) := by decide +kernel
theorem dX11_read_171 : decode cX11_read 171 = .ok (.iconst 2, 1) := by decide +kernel
theorem dX11_read_172 : decode cX11_read 172 = .ok (.if_icmp .ne 81, 3) := by decide +kernel
theorem dX11_read_175 : decode cX11_read 175 = .ok (.bipush 40, 2) := by decide +kernel
theorem dX11_read_177 : decode cX11_read 177 = .ok (.iload_n 1, 1) := by decide +kernel
theorem dX11_read_178 : decode cX11_read 178 = .ok (.imul, 1) := by decide +kernel
theorem dX11_read_179 : decode cX11_read 179 = .ok (.iload_n 3, 1) := by decide +kernel
theorem dX11_read_180 : decode cX11_read 180 = .ok (.iadd, 1) := by decide +kernel
theorem dX11_read_181 : decode cX11_read 181 = .ok (.iload 8, 2) := by decide +kernel
theorem dX11_read_183 : decode cX11_read 183 = .ok (.iadd, 1) := by decide +kernel
theorem dX11_read_184 : decode cX11_read 184 = .ok (.istore 9, 2) := by decide +kernel
theorem dX11_read_186 : decode cX11_read 186 = .ok (.aload_n 0, 1) := by decide +kernel
theorem dX11_read_187 : decode cX11_read 187 = .ok (.getfield 50, 3) := by decide +kernel
theorem dX11_read_190 : decode cX11_read 190 = .ok (.iload 9, 2) := by decide +kernel
theorem dX11_read_192 : decode cX11_read 192 = .ok (.iaload, 1) := by decide +kernel
theorem dX11_read_193 : decode cX11_read 193 = .ok (.bipush (-4), 2) := by decide +kernel
theorem dX11_read_195 : decode cX11_read 195 = .ok (.if_icmp .eq 36, 3) := by decide +kernel
theorem dX11_read_198 : decode cX11_read 198 = .ok (.aload_n 0, 1) := by decide +kernel
theorem dX11_read_199 : decode cX11_read 199 = .ok (.aload_n 0, 1) := by decide +kernel
theorem dX11_read_200 : decode cX11_read 200 = .ok (.getfield 50, 3) := by decide +kernel
theorem dX11_read_203 : decode cX11_read 203 = .ok (.iload 9, 2) := by decide +kernel
theorem dX11_read_205 : decode cX11_read 205 = .ok (.iconst 2, 1) := by decide +kernel
theorem dX11_read_206 : decode cX11_read 206 = .ok (.isub, 1) := by decide +kernel
theorem dX11_read_207 : decode cX11_read 207 = .ok (.iaload, 1) := by decide +kernel
theorem dX11_read_208 : decode cX11_read 208 = .ok (.aload_n 0, 1) := by decide +kernel
theorem dX11_read_209 : decode cX11_read 209 = .ok (.getfield 50, 3) := by decide +kernel
theorem dX11_read_212 : decode cX11_read 212 = .ok (.iload 9, 2) := by decide +kernel
theorem dX11_read_214 : decode cX11_read 214 = .ok (.iconst 1, 1) := by decide +kernel
theorem dX11_read_215 : decode cX11_read 215 = .ok (.isub, 1) := by decide +kernel
theorem dX11_read_216 : decode cX11_read 216 = .ok (.iaload, 1) := by decide +kernel
theorem dX11_read_217 : decode cX11_read 217 = .ok (.aload_n 0, 1) := by decide +kernel
theorem dX11_read_218 : decode cX11_read 218 = .ok (.getfield 50, 3) := by decide +kernel
theorem dX11_read_221 : decode cX11_read 221 = .ok (.iload 9, 2) := by decide +kernel
theorem dX11_read_223 : decode cX11_read 223 = .ok (.iaload, 1) := by decide +kernel
theorem dX11_read_224 : decode cX11_read 224 = .ok (.invokevirtual 158, 3) := by decide +kernel
theorem dX11_read_227 : decode cX11_read 227 = .ok (.iconst (-1), 1) := by decide +kernel
theorem dX11_read_228 : decode cX11_read 228 = .ok (.if_icmp .ne 7, 3) := by decide +kernel
theorem dX11_read_231 : decode cX11_read 231 = .ok (.iconst 1, 1) := by decide +kernel
theorem dX11_read_232 : decode cX11_read 232 = .ok (.goto 4, 3) := by decide +kernel
theorem dX11_read_235 : decode cX11_read 235 = .ok (.iconst 0, 1) := by decide +kernel
theorem dX11_read_236 : decode cX11_read 236 = .ok (.istore 7, 2) := by decide +kernel
theorem dX11_read_238 : decode cX11_read 238 = .ok (.iload 6, 2) := by decide +kernel
theorem dX11_read_240 : decode cX11_read 240 = .ok (.iload 7, 2) := by decide +kernel
theorem dX11_read_242 : decode cX11_read 242 = .ok (.ifCond .eq 7, 3) := by decide +kernel
theorem dX11_read_245 : decode cX11_read 245 = .ok (.iconst 0, 1) := by decide +kernel
theorem dX11_read_246 : decode cX11_read 246 = .ok (.goto 4, 3) := by decide +kernel
theorem dX11_read_249 : decode cX11_read 249 = .ok (.iconst 1, 1) := by decide +kernel
theorem dX11_read_250 : decode cX11_read 250 = .ok (.iadd, 1) := by decide +kernel
theorem dX11_read_251 : decode cX11_read 251 = .ok (.istore 6, 2) := by decide +kernel
theorem dX11_read_253 : decode cX11_read 253 = .ok (.iinc 8 1, 3) := by decide +kernel
theorem dX11_read_256 : decode cX11_read 256 = .ok (.goto (-171), 3) := by decide +kernel
theorem dX11_read_259 : decode cX11_read 259 = .ok (.iload 7, 2) := by decide +kernel
theorem dX11_read_261 : decode cX11_read 261 = .ok (.ifCond .eq 39, 3) := by decide +kernel
theorem dX11_read_264 : decode cX11_read 264 = .ok (.iconst 0, 1) := by decide +kernel
theorem dX11_read_265 : decode cX11_read 265 = .ok (.istore 8, 2) := by decide +kernel
theorem dX11_read_267 : decode cX11_read 267 = .ok (.iload 8, 2) := by decide +kernel
theorem dX11_read_269 : decode cX11_read 269 = .ok (.bipush 21, 2) := by decide +kernel
theorem dX11_read_271 : decode cX11_read 271 = .ok (.if_icmp .ge 23, 3) := by decide +kernel
theorem dX11_read_274 : decode cX11_read 274 = .ok (.aload_n 0, 1) := by decide +kernel
theorem dX11_read_275 : decode cX11_read 275 = .ok (.getfield 7, 3) := by decide +kernel
theorem dX11_read_278 : decode cX11_read 278 = .ok (.iload 8, 2) := by decide +kernel
theorem dX11_read_280 : decode cX11_read 280 = .ok (.aload_n 0, 1) := by decide +kernel
theorem dX11_read_281 : decode cX11_read 281 = .ok (.getfield 53, 3) := by decide +kernel
theorem dX11_read_284 : decode cX11_read 284 = .ok (.iload 8, 2) := by decide +kernel
theorem dX11_read_286 : decode cX11_read 286 = .ok (.iaload, 1) := by decide +kernel
theorem dX11_read_287 : decode cX11_read 287 = .ok (.iastore, 1) := by decide +kernel
theorem dX11_read_288 : decode cX11_read 288 = .ok (.iinc 8 1, 3) := by decide +kernel
theorem dX11_read_291 : decode cX11_read 291 = .ok (.goto (-24), 3) := by decide +kernel
theorem dX11_read_294 : decode cX11_read 294 = .ok (.bipush (-20), 2) := by decide +kernel
theorem dX11_read_296 : decode cX11_read 296 = .ok (.iload 6, 2) := by decide +kernel
theorem dX11_read_298 : decode cX11_read 298 = .ok (.isub, 1) := by decide +kernel
theorem dX11_read_299 : decode cX11_read 299 = .ok (.ireturn, 1) := by decide +kernel
theorem dX11_read_300 : decode cX11_read 300 = .ok (.aload_n 0, 1) := by decide +kernel
theorem dX11_read_301 : decode cX11_read 301 = .ok (.iload 5, 2) := by decide +kernel
theorem dX11_read_303 : decode cX11_read 303 = .ok (.putfield 305, 3) := by decide +kernel
theorem dX11_read_306 : decode cX11_read 306 = .ok (.iload 6, 2) := by decide +kernel
theorem dX11_read_308 : decode cX11_read 308 = .ok (.ireturn, 1) := by decide +kernel
theorem dX11_torn_0 : decode cX11_torn 0 = .ok (.aload_n 0, 1) := by decide +kernel
theorem dX11_torn_1 : decode cX11_torn 1 = .ok (.getfield 305, 3) := by decide +kernel
theorem dX11_torn_4 : decode cX11_torn 4 = .ok (.ireturn, 1) := by decide +kernel
set_option maxRecDepth 20000 in
theorem ggX11_count_X11_awake : GoodIn wsX11_count wsX11_awake := goodIn_r _ [10, 11, 1, 16, 17, 18, 19, 20, 21, 22, 23, 24, 25, 26, 27, 28, 29, 30, 31, 32, 33, 34, 35, 36, 37, 38, 39, 40, 41, 42, 43, 44, 45] (by decide +kernel) (by decide +kernel)
set_option maxRecDepth 20000 in
theorem gX11_count_X11_awake : GoodIn wsX11_count (wsV RX11 135 RX11 yX11_awake wsX11_awake) := goodIn_app (goodIn_of _ (by decide +kernel)) ggX11_count_X11_awake
set_option maxRecDepth 20000 in
theorem ggX11_count_X11_lengthMany : GoodIn wsX11_count wsX11_lengthMany := goodIn_r _ [15, 1, 16, 17, 18, 19, 20, 21, 22, 23, 24, 25, 26, 27, 28, 29, 30, 31, 32, 33, 34, 35, 36, 37, 38, 39, 40, 41, 42, 43, 44, 45] (by decide +kernel) (by decide +kernel)
set_option maxRecDepth 20000 in
theorem gX11_count_X11_lengthMany : GoodIn wsX11_count (wsV RX11 300 RX11 yX11_lengthMany wsX11_lengthMany) := goodIn_app (goodIn_of _ (by decide +kernel)) ggX11_count_X11_lengthMany
theorem dX11_count_0 : decode cX11_count 0 = .ok (.aload_n 0, 1) := by decide +kernel
theorem dX11_count_1 : decode cX11_count 1 = .ok (.invokevirtual 135, 3) := by decide +kernel
theorem dX11_count_4 : decode cX11_count 4 = .ok (.iload_n 1, 1) := by decide +kernel
theorem dX11_count_5 : decode cX11_count 5 = .ok (.tableswitch 118 0 5 #[39, 47, 52, 60, 90, 95], 39) := by decide +kernel
theorem dX11_count_44 : decode cX11_count 44 = .ok (.aload_n 0, 1) := by decide +kernel
theorem dX11_count_45 : decode cX11_count 45 = .ok (.getfield 7, 3) := by decide +kernel
theorem dX11_count_48 : decode cX11_count 48 = .ok (.bipush 21, 2) := by decide +kernel
theorem dX11_count_50 : decode cX11_count 50 = .ok (.iaload, 1) := by decide +kernel
theorem dX11_count_51 : decode cX11_count 51 = .ok (.ireturn, 1) := by decide +kernel
theorem dX11_count_52 : decode cX11_count 52 = .ok (.aload_n 0, 1) := by decide +kernel
theorem dX11_count_53 : decode cX11_count 53 = .ok (.invokevirtual 300, 3) := by decide +kernel
theorem dX11_count_56 : decode cX11_count 56 = .ok (.ireturn, 1) := by decide +kernel
theorem dX11_count_57 : decode cX11_count 57 = .ok (.aload_n 0, 1) := by decide +kernel
theorem dX11_count_58 : decode cX11_count 58 = .ok (.getfield 7, 3) := by decide +kernel
theorem dX11_count_61 : decode cX11_count 61 = .ok (.bipush 30, 2) := by decide +kernel
theorem dX11_count_63 : decode cX11_count 63 = .ok (.iaload, 1) := by decide +kernel
theorem dX11_count_64 : decode cX11_count 64 = .ok (.ireturn, 1) := by decide +kernel
theorem dX11_count_65 : decode cX11_count 65 = .ok (.aload_n 0, 1) := by decide +kernel
theorem dX11_count_66 : decode cX11_count 66 = .ok (.getfield 40, 3) := by decide +kernel
theorem dX11_count_69 : decode cX11_count 69 = .ok (.iconst 0, 1) := by decide +kernel
theorem dX11_count_70 : decode cX11_count 70 = .ok (.baload, 1) := by decide +kernel
theorem dX11_count_71 : decode cX11_count 71 = .ok (.ifCond .eq 7, 3) := by decide +kernel
theorem dX11_count_74 : decode cX11_count 74 = .ok (.iconst 1, 1) := by decide +kernel
theorem dX11_count_75 : decode cX11_count 75 = .ok (.goto 4, 3) := by decide +kernel
theorem dX11_count_78 : decode cX11_count 78 = .ok (.iconst 0, 1) := by decide +kernel
theorem dX11_count_79 : decode cX11_count 79 = .ok (.aload_n 0, 1) := by decide +kernel
theorem dX11_count_80 : decode cX11_count 80 = .ok (.getfield 40, 3) := by decide +kernel
theorem dX11_count_83 : decode cX11_count 83 = .ok (.iconst 1, 1) := by decide +kernel
theorem dX11_count_84 : decode cX11_count 84 = .ok (.baload, 1) := by decide +kernel
theorem dX11_count_85 : decode cX11_count 85 = .ok (.ifCond .eq 7, 3) := by decide +kernel
theorem dX11_count_88 : decode cX11_count 88 = .ok (.iconst 1, 1) := by decide +kernel
theorem dX11_count_89 : decode cX11_count 89 = .ok (.goto 4, 3) := by decide +kernel
theorem dX11_count_92 : decode cX11_count 92 = .ok (.iconst 0, 1) := by decide +kernel
theorem dX11_count_93 : decode cX11_count 93 = .ok (.iadd, 1) := by decide +kernel
theorem dX11_count_94 : decode cX11_count 94 = .ok (.ireturn, 1) := by decide +kernel
theorem dX11_count_95 : decode cX11_count 95 = .ok (.aload_n 0, 1) := by decide +kernel
theorem dX11_count_96 : decode cX11_count 96 = .ok (.getfield 60, 3) := by decide +kernel
theorem dX11_count_99 : decode cX11_count 99 = .ok (.ireturn, 1) := by decide +kernel
theorem dX11_count_100 : decode cX11_count 100 = .ok (.aload_n 0, 1) := by decide +kernel
theorem dX11_count_101 : decode cX11_count 101 = .ok (.getfield 44, 3) := by decide +kernel
theorem dX11_count_104 : decode cX11_count 104 = .ok (.iconst 0, 1) := by decide +kernel
theorem dX11_count_105 : decode cX11_count 105 = .ok (.iaload, 1) := by decide +kernel
theorem dX11_count_106 : decode cX11_count 106 = .ok (.bipush (-4), 2) := by decide +kernel
theorem dX11_count_108 : decode cX11_count 108 = .ok (.if_icmp .ne 8, 3) := by decide +kernel
theorem dX11_count_111 : decode cX11_count 111 = .ok (.bipush (-4), 2) := by decide +kernel
theorem dX11_count_113 : decode cX11_count 113 = .ok (.goto 9, 3) := by decide +kernel
theorem dX11_count_116 : decode cX11_count 116 = .ok (.aload_n 0, 1) := by decide +kernel
theorem dX11_count_117 : decode cX11_count 117 = .ok (.getfield 47, 3) := by decide +kernel
theorem dX11_count_120 : decode cX11_count 120 = .ok (.iconst 0, 1) := by decide +kernel
theorem dX11_count_121 : decode cX11_count 121 = .ok (.iaload, 1) := by decide +kernel
theorem dX11_count_122 : decode cX11_count 122 = .ok (.ireturn, 1) := by decide +kernel
theorem dX11_count_123 : decode cX11_count 123 = .ok (.iconst (-1), 1) := by decide +kernel
theorem dX11_count_124 : decode cX11_count 124 = .ok (.ireturn, 1) := by decide +kernel
theorem dJ6_bitCount_0f7a4_0 : decode cJ6_bitCount_0f7a4 0 = .ok (.iload_n 0, 1) := by decide +kernel
theorem dJ6_bitCount_0f7a4_1 : decode cJ6_bitCount_0f7a4 1 = .ok (.iload_n 0, 1) := by decide +kernel
theorem dJ6_bitCount_0f7a4_2 : decode cJ6_bitCount_0f7a4 2 = .ok (.iconst 1, 1) := by decide +kernel
theorem dJ6_bitCount_0f7a4_3 : decode cJ6_bitCount_0f7a4 3 = .ok (.iushr, 1) := by decide +kernel
theorem dJ6_bitCount_0f7a4_4 : decode cJ6_bitCount_0f7a4 4 = .ok (.ldc_w 265, 3) := by decide +kernel
theorem dJ6_bitCount_0f7a4_7 : decode cJ6_bitCount_0f7a4 7 = .ok (.iand, 1) := by decide +kernel
theorem dJ6_bitCount_0f7a4_8 : decode cJ6_bitCount_0f7a4 8 = .ok (.isub, 1) := by decide +kernel
theorem dJ6_bitCount_0f7a4_9 : decode cJ6_bitCount_0f7a4 9 = .ok (.istore_n 0, 1) := by decide +kernel
theorem dJ6_bitCount_0f7a4_10 : decode cJ6_bitCount_0f7a4 10 = .ok (.iload_n 0, 1) := by decide +kernel
theorem dJ6_bitCount_0f7a4_11 : decode cJ6_bitCount_0f7a4 11 = .ok (.ldc_w 266, 3) := by decide +kernel
theorem dJ6_bitCount_0f7a4_14 : decode cJ6_bitCount_0f7a4 14 = .ok (.iand, 1) := by decide +kernel
theorem dJ6_bitCount_0f7a4_15 : decode cJ6_bitCount_0f7a4 15 = .ok (.iload_n 0, 1) := by decide +kernel
theorem dJ6_bitCount_0f7a4_16 : decode cJ6_bitCount_0f7a4 16 = .ok (.iconst 2, 1) := by decide +kernel
theorem dJ6_bitCount_0f7a4_17 : decode cJ6_bitCount_0f7a4 17 = .ok (.iushr, 1) := by decide +kernel
theorem dJ6_bitCount_0f7a4_18 : decode cJ6_bitCount_0f7a4 18 = .ok (.ldc_w 266, 3) := by decide +kernel
theorem dJ6_bitCount_0f7a4_21 : decode cJ6_bitCount_0f7a4 21 = .ok (.iand, 1) := by decide +kernel
theorem dJ6_bitCount_0f7a4_22 : decode cJ6_bitCount_0f7a4 22 = .ok (.iadd, 1) := by decide +kernel
theorem dJ6_bitCount_0f7a4_23 : decode cJ6_bitCount_0f7a4 23 = .ok (.istore_n 0, 1) := by decide +kernel
theorem dJ6_bitCount_0f7a4_24 : decode cJ6_bitCount_0f7a4 24 = .ok (.iload_n 0, 1) := by decide +kernel
theorem dJ6_bitCount_0f7a4_25 : decode cJ6_bitCount_0f7a4 25 = .ok (.iload_n 0, 1) := by decide +kernel
theorem dJ6_bitCount_0f7a4_26 : decode cJ6_bitCount_0f7a4 26 = .ok (.iconst 4, 1) := by decide +kernel
theorem dJ6_bitCount_0f7a4_27 : decode cJ6_bitCount_0f7a4 27 = .ok (.iushr, 1) := by decide +kernel
theorem dJ6_bitCount_0f7a4_28 : decode cJ6_bitCount_0f7a4 28 = .ok (.iadd, 1) := by decide +kernel
theorem dJ6_bitCount_0f7a4_29 : decode cJ6_bitCount_0f7a4 29 = .ok (.ldc_w 267, 3) := by decide +kernel
theorem dJ6_bitCount_0f7a4_32 : decode cJ6_bitCount_0f7a4 32 = .ok (.iand, 1) := by decide +kernel
theorem dJ6_bitCount_0f7a4_33 : decode cJ6_bitCount_0f7a4 33 = .ok (.istore_n 0, 1) := by decide +kernel
theorem dJ6_bitCount_0f7a4_34 : decode cJ6_bitCount_0f7a4 34 = .ok (.iload_n 0, 1) := by decide +kernel
theorem dJ6_bitCount_0f7a4_35 : decode cJ6_bitCount_0f7a4 35 = .ok (.iload_n 0, 1) := by decide +kernel
theorem dJ6_bitCount_0f7a4_36 : decode cJ6_bitCount_0f7a4 36 = .ok (.bipush 8, 2) := by decide +kernel
theorem dJ6_bitCount_0f7a4_38 : decode cJ6_bitCount_0f7a4 38 = .ok (.iushr, 1) := by decide +kernel
theorem dJ6_bitCount_0f7a4_39 : decode cJ6_bitCount_0f7a4 39 = .ok (.iadd, 1) := by decide +kernel
theorem dJ6_bitCount_0f7a4_40 : decode cJ6_bitCount_0f7a4 40 = .ok (.istore_n 0, 1) := by decide +kernel
theorem dJ6_bitCount_0f7a4_41 : decode cJ6_bitCount_0f7a4 41 = .ok (.iload_n 0, 1) := by decide +kernel
theorem dJ6_bitCount_0f7a4_42 : decode cJ6_bitCount_0f7a4 42 = .ok (.iload_n 0, 1) := by decide +kernel
theorem dJ6_bitCount_0f7a4_43 : decode cJ6_bitCount_0f7a4 43 = .ok (.bipush 16, 2) := by decide +kernel
theorem dJ6_bitCount_0f7a4_45 : decode cJ6_bitCount_0f7a4 45 = .ok (.iushr, 1) := by decide +kernel
theorem dJ6_bitCount_0f7a4_46 : decode cJ6_bitCount_0f7a4 46 = .ok (.iadd, 1) := by decide +kernel
theorem dJ6_bitCount_0f7a4_47 : decode cJ6_bitCount_0f7a4 47 = .ok (.istore_n 0, 1) := by decide +kernel
theorem dJ6_bitCount_0f7a4_48 : decode cJ6_bitCount_0f7a4 48 = .ok (.iload_n 0, 1) := by decide +kernel
theorem dJ6_bitCount_0f7a4_49 : decode cJ6_bitCount_0f7a4 49 = .ok (.bipush 63, 2) := by decide +kernel
theorem dJ6_bitCount_0f7a4_51 : decode cJ6_bitCount_0f7a4 51 = .ok (.iand, 1) := by decide +kernel
theorem dJ6_bitCount_0f7a4_52 : decode cJ6_bitCount_0f7a4 52 = .ok (.ireturn, 1) := by decide +kernel
theorem dJ13_signum_95d88_0 : decode cJ13_signum_95d88 0 = .ok (.lload_n 0, 1) := by decide +kernel
theorem dJ13_signum_95d88_1 : decode cJ13_signum_95d88 1 = .ok (.bipush 63, 2) := by decide +kernel
theorem dJ13_signum_95d88_3 : decode cJ13_signum_95d88 3 = .ok (.lshr, 1) := by decide +kernel
theorem dJ13_signum_95d88_4 : decode cJ13_signum_95d88 4 = .ok (.lload_n 0, 1) := by decide +kernel
theorem dJ13_signum_95d88_5 : decode cJ13_signum_95d88 5 = .ok (.lneg, 1) := by decide +kernel
theorem dJ13_signum_95d88_6 : decode cJ13_signum_95d88 6 = .ok (.bipush 63, 2) := by decide +kernel
theorem dJ13_signum_95d88_8 : decode cJ13_signum_95d88 8 = .ok (.lushr, 1) := by decide +kernel
theorem dJ13_signum_95d88_9 : decode cJ13_signum_95d88 9 = .ok (.lor, 1) := by decide +kernel
theorem dJ13_signum_95d88_10 : decode cJ13_signum_95d88 10 = .ok (.l2i, 1) := by decide +kernel
theorem dJ13_signum_95d88_11 : decode cJ13_signum_95d88 11 = .ok (.ireturn, 1) := by decide +kernel
theorem dJ9_abs_067f4_0 : decode cJ9_abs_067f4 0 = .ok (.lload_n 0, 1) := by decide +kernel
theorem dJ9_abs_067f4_1 : decode cJ9_abs_067f4 1 = .ok (.lconst 0, 1) := by decide +kernel
theorem dJ9_abs_067f4_2 : decode cJ9_abs_067f4 2 = .ok (.lcmp, 1) := by decide +kernel
theorem dJ9_abs_067f4_3 : decode cJ9_abs_067f4 3 = .ok (.ifCond .ge 8, 3) := by decide +kernel
theorem dJ9_abs_067f4_6 : decode cJ9_abs_067f4 6 = .ok (.lload_n 0, 1) := by decide +kernel
theorem dJ9_abs_067f4_7 : decode cJ9_abs_067f4 7 = .ok (.lneg, 1) := by decide +kernel
theorem dJ9_abs_067f4_8 : decode cJ9_abs_067f4 8 = .ok (.goto 4, 3) := by decide +kernel
theorem dJ9_abs_067f4_11 : decode cJ9_abs_067f4 11 = .ok (.lload_n 0, 1) := by decide +kernel
theorem dJ9_abs_067f4_12 : decode cJ9_abs_067f4 12 = .ok (.lreturn, 1) := by decide +kernel
theorem dJ9_max_7cf53_0 : decode cJ9_max_7cf53 0 = .ok (.iload_n 0, 1) := by decide +kernel
theorem dJ9_max_7cf53_1 : decode cJ9_max_7cf53 1 = .ok (.iload_n 1, 1) := by decide +kernel
theorem dJ9_max_7cf53_2 : decode cJ9_max_7cf53 2 = .ok (.if_icmp .lt 7, 3) := by decide +kernel
theorem dJ9_max_7cf53_5 : decode cJ9_max_7cf53 5 = .ok (.iload_n 0, 1) := by decide +kernel
theorem dJ9_max_7cf53_6 : decode cJ9_max_7cf53 6 = .ok (.goto 4, 3) := by decide +kernel
theorem dJ9_max_7cf53_9 : decode cJ9_max_7cf53 9 = .ok (.iload_n 1, 1) := by decide +kernel
theorem dJ9_max_7cf53_10 : decode cJ9_max_7cf53 10 = .ok (.ireturn, 1) := by decide +kernel
theorem dJ9_min_7cf53_0 : decode cJ9_min_7cf53 0 = .ok (.iload_n 0, 1) := by decide +kernel
theorem dJ9_min_7cf53_1 : decode cJ9_min_7cf53 1 = .ok (.iload_n 1, 1) := by decide +kernel
theorem dJ9_min_7cf53_2 : decode cJ9_min_7cf53 2 = .ok (.if_icmp .gt 7, 3) := by decide +kernel
theorem dJ9_min_7cf53_5 : decode cJ9_min_7cf53 5 = .ok (.iload_n 0, 1) := by decide +kernel
theorem dJ9_min_7cf53_6 : decode cJ9_min_7cf53 6 = .ok (.goto 4, 3) := by decide +kernel
theorem dJ9_min_7cf53_9 : decode cJ9_min_7cf53 9 = .ok (.iload_n 1, 1) := by decide +kernel
theorem dJ9_min_7cf53_10 : decode cJ9_min_7cf53 10 = .ok (.ireturn, 1) := by decide +kernel
set_option maxRecDepth 20000 in
theorem ggJ0_length_8abf5_J0_coder_7d493 : GoodIn wsJ0_length_8abf5 wsJ0_coder_7d493 := goodIn_r _ [6, 7, 8] (by decide +kernel) (by decide +kernel)
set_option maxRecDepth 20000 in
theorem gJ0_length_8abf5_J0_coder_7d493 : GoodIn wsJ0_length_8abf5 (wsV RJ0 335 RJ0 yJ0_coder_7d493 wsJ0_coder_7d493) := goodIn_app (goodIn_of _ (by decide +kernel)) ggJ0_length_8abf5_J0_coder_7d493
theorem dJ0_length_8abf5_0 : decode cJ0_length_8abf5 0 = .ok (.aload_n 0, 1) := by decide +kernel
theorem dJ0_length_8abf5_1 : decode cJ0_length_8abf5 1 = .ok (.getfield 9, 3) := by decide +kernel
theorem dJ0_length_8abf5_4 : decode cJ0_length_8abf5 4 = .ok (.arraylength, 1) := by decide +kernel
theorem dJ0_length_8abf5_5 : decode cJ0_length_8abf5 5 = .ok (.aload_n 0, 1) := by decide +kernel
theorem dJ0_length_8abf5_6 : decode cJ0_length_8abf5 6 = .ok (.invokevirtual 335, 3) := by decide +kernel
theorem dJ0_length_8abf5_9 : decode cJ0_length_8abf5 9 = .ok (.ishr, 1) := by decide +kernel
theorem dJ0_length_8abf5_10 : decode cJ0_length_8abf5 10 = .ok (.ireturn, 1) := by decide +kernel
set_option maxRecDepth 20000 in
theorem ggJ0_charAt_5068e_J0_isLatin1_aae02 : GoodIn wsJ0_charAt_5068e wsJ0_isLatin1_aae02 := goodIn_r _ [6, 7, 8] (by decide +kernel) (by decide +kernel)
set_option maxRecDepth 20000 in
theorem gJ0_charAt_5068e_J0_isLatin1_aae02 : GoodIn wsJ0_charAt_5068e (wsV RJ0 492 RJ0 yJ0_isLatin1_aae02 wsJ0_isLatin1_aae02) := goodIn_app (goodIn_of _ (by decide +kernel)) ggJ0_charAt_5068e_J0_isLatin1_aae02
set_option maxRecDepth 20000 in
theorem ggJ0_charAt_5068e_J1_charAt_3b067 : GoodIn wsJ0_charAt_5068e wsJ1_charAt_3b067 := goodIn_r _ [12, 13, 14, 5, 15, 16, 17, 18, 19, 20] (by decide +kernel) (by decide +kernel)
set_option maxRecDepth 20000 in
theorem gJ0_charAt_5068e_J1_charAt_3b067 : GoodIn wsJ0_charAt_5068e (va_wsS RJ0 495 yJ1_charAt_3b067 wsJ1_charAt_3b067) := goodIn_app (goodIn_of _ (by decide +kernel)) ggJ0_charAt_5068e_J1_charAt_3b067
set_option maxRecDepth 20000 in
theorem ggJ0_charAt_5068e_J2_charAt_3b067 : GoodIn wsJ0_charAt_5068e wsJ2_charAt_3b067 := goodIn_r _ [24, 25, 26, 23, 27, 28, 29, 30, 31, 14, 5, 15, 16, 17, 18, 19, 20, 32, 33, 34, 35, 36, 37] (by decide +kernel) (by decide +kernel)
set_option maxRecDepth 20000 in
theorem gJ0_charAt_5068e_J2_charAt_3b067 : GoodIn wsJ0_charAt_5068e (va_wsS RJ0 498 yJ2_charAt_3b067 wsJ2_charAt_3b067) := goodIn_app (goodIn_of _ (by decide +kernel)) ggJ0_charAt_5068e_J2_charAt_3b067
theorem dJ0_charAt_5068e_0 : decode cJ0_charAt_5068e 0 = .ok (.aload_n 0, 1) := by decide +kernel
theorem dJ0_charAt_5068e_1 : decode cJ0_charAt_5068e 1 = .ok (.invokevirtual 492, 3) := by decide +kernel
theorem dJ0_charAt_5068e_4 : decode cJ0_charAt_5068e 4 = .ok (.ifCond .eq 12, 3) := by decide +kernel
theorem dJ0_charAt_5068e_7 : decode cJ0_charAt_5068e 7 = .ok (.aload_n 0, 1) := by decide +kernel
theorem dJ0_charAt_5068e_8 : decode cJ0_charAt_5068e 8 = .ok (.getfield 9, 3) := by decide +kernel
theorem dJ0_charAt_5068e_11 : decode cJ0_charAt_5068e 11 = .ok (.iload_n 1, 1) := by decide +kernel
theorem dJ0_charAt_5068e_12 : decode cJ0_charAt_5068e 12 = .ok (.invokestatic 495, 3) := by decide +kernel
theorem dJ0_charAt_5068e_15 : decode cJ0_charAt_5068e 15 = .ok (.ireturn, 1) := by decide +kernel
theorem dJ0_charAt_5068e_16 : decode cJ0_charAt_5068e 16 = .ok (.aload_n 0, 1) := by decide +kernel
theorem dJ0_charAt_5068e_17 : decode cJ0_charAt_5068e 17 = .ok (.getfield 9, 3) := by decide +kernel
theorem dJ0_charAt_5068e_20 : decode cJ0_charAt_5068e 20 = .ok (.iload_n 1, 1) := by decide +kernel
theorem dJ0_charAt_5068e_21 : decode cJ0_charAt_5068e 21 = .ok (.invokestatic 498, 3) := by decide +kernel
theorem dJ0_charAt_5068e_24 : decode cJ0_charAt_5068e 24 = .ok (.ireturn, 1) := by decide +kernel
theorem dJ0_coder_7d493_0 : decode cJ0_coder_7d493 0 = .ok (.getstatic 38, 3) := by decide +kernel
theorem dJ0_coder_7d493_3 : decode cJ0_coder_7d493 3 = .ok (.ifCond .eq 10, 3) := by decide +kernel
theorem dJ0_coder_7d493_6 : decode cJ0_coder_7d493 6 = .ok (.aload_n 0, 1) := by decide +kernel
theorem dJ0_coder_7d493_7 : decode cJ0_coder_7d493 7 = .ok (.getfield 15, 3) := by decide +kernel
theorem dJ0_coder_7d493_10 : decode cJ0_coder_7d493 10 = .ok (.goto 4, 3) := by decide +kernel
theorem dJ0_coder_7d493_13 : decode cJ0_coder_7d493 13 = .ok (.iconst 1, 1) := by decide +kernel
theorem dJ0_coder_7d493_14 : decode cJ0_coder_7d493 14 = .ok (.ireturn, 1) := by decide +kernel
theorem dJ0_isLatin1_aae02_0 : decode cJ0_isLatin1_aae02 0 = .ok (.getstatic 38, 3) := by decide +kernel
theorem dJ0_isLatin1_aae02_3 : decode cJ0_isLatin1_aae02 3 = .ok (.ifCond .eq 14, 3) := by decide +kernel
theorem dJ0_isLatin1_aae02_6 : decode cJ0_isLatin1_aae02 6 = .ok (.aload_n 0, 1) := by decide +kernel
theorem dJ0_isLatin1_aae02_7 : decode cJ0_isLatin1_aae02 7 = .ok (.getfield 15, 3) := by decide +kernel
theorem dJ0_isLatin1_aae02_10 : decode cJ0_isLatin1_aae02 10 = .ok (.ifCond .ne 7, 3) := by decide +kernel
theorem dJ0_isLatin1_aae02_13 : decode cJ0_isLatin1_aae02 13 = .ok (.iconst 1, 1) := by decide +kernel
theorem dJ0_isLatin1_aae02_14 : decode cJ0_isLatin1_aae02 14 = .ok (.goto 4, 3) := by decide +kernel
theorem dJ0_isLatin1_aae02_17 : decode cJ0_isLatin1_aae02 17 = .ok (.iconst 0, 1) := by decide +kernel
theorem dJ0_isLatin1_aae02_18 : decode cJ0_isLatin1_aae02 18 = .ok (.ireturn, 1) := by decide +kernel
set_option maxRecDepth 20000 in
theorem ggJ0_checkIndex_df160_J3_checkIndex_8e157 : GoodIn wsJ0_checkIndex_df160 wsJ3_checkIndex_8e157 := goodIn_r _ [5] (by decide +kernel) (by decide +kernel)
set_option maxRecDepth 20000 in
theorem gJ0_checkIndex_df160_J3_checkIndex_8e157 : GoodIn wsJ0_checkIndex_df160 (va_wsS RJ0 1059 yJ3_checkIndex_8e157 wsJ3_checkIndex_8e157) := goodIn_app (goodIn_of _ (by decide +kernel)) ggJ0_checkIndex_df160_J3_checkIndex_8e157
theorem dJ0_checkIndex_df160_0 : decode cJ0_checkIndex_df160 0 = .ok (.iload_n 0, 1) := by decide +kernel
theorem dJ0_checkIndex_df160_1 : decode cJ0_checkIndex_df160 1 = .ok (.iload_n 1, 1) := by decide +kernel
theorem dJ0_checkIndex_df160_2 : decode cJ0_checkIndex_df160 2 = .ok (.getstatic 1053, 3) := by decide +kernel
theorem dJ0_checkIndex_df160_5 : decode cJ0_checkIndex_df160 5 = .ok (.invokestatic 1059, 3) := by decide +kernel
theorem dJ0_checkIndex_df160_8 : decode cJ0_checkIndex_df160 8 = .ok (.pop, 1) := by decide +kernel
theorem dJ0_checkIndex_df160_9 : decode cJ0_checkIndex_df160 9 = .ok (.return_, 1) := by decide +kernel
set_option maxRecDepth 20000 in
theorem ggJ1_charAt_3b067_J0_checkIndex_df160 : GoodIn wsJ1_charAt_3b067 wsJ0_checkIndex_df160 := goodIn_r _ [4, 5, 6, 7, 8, 9] (by decide +kernel) (by decide +kernel)
set_option maxRecDepth 20000 in
theorem gJ1_charAt_3b067_J0_checkIndex_df160 : GoodIn wsJ1_charAt_3b067 (va_wsS RJ1 9 yJ0_checkIndex_df160 wsJ0_checkIndex_df160) := goodIn_app (goodIn_of _ (by decide +kernel)) ggJ1_charAt_3b067_J0_checkIndex_df160
theorem dJ1_charAt_3b067_0 : decode cJ1_charAt_3b067 0 = .ok (.iload_n 1, 1) := by decide +kernel
theorem dJ1_charAt_3b067_1 : decode cJ1_charAt_3b067 1 = .ok (.aload_n 0, 1) := by decide +kernel
theorem dJ1_charAt_3b067_2 : decode cJ1_charAt_3b067 2 = .ok (.arraylength, 1) := by decide +kernel
theorem dJ1_charAt_3b067_3 : decode cJ1_charAt_3b067 3 = .ok (.invokestatic 9, 3) := by decide +kernel
theorem dJ1_charAt_3b067_6 : decode cJ1_charAt_3b067 6 = .ok (.aload_n 0, 1) := by decide +kernel
theorem dJ1_charAt_3b067_7 : decode cJ1_charAt_3b067 7 = .ok (.iload_n 1, 1) := by decide +kernel
theorem dJ1_charAt_3b067_8 : decode cJ1_charAt_3b067 8 = .ok (.baload, 1) := by decide +kernel
theorem dJ1_charAt_3b067_9 : decode cJ1_charAt_3b067 9 = .ok (.sipush 255, 3) := by decide +kernel
theorem dJ1_charAt_3b067_12 : decode cJ1_charAt_3b067 12 = .ok (.iand, 1) := by decide +kernel
theorem dJ1_charAt_3b067_13 : decode cJ1_charAt_3b067 13 = .ok (.i2c, 1) := by decide +kernel
theorem dJ1_charAt_3b067_14 : decode cJ1_charAt_3b067 14 = .ok (.ireturn, 1) := by decide +kernel
set_option maxRecDepth 20000 in
theorem ggJ2_getChar_3b067_J2_length_9d52b : GoodIn wsJ2_getChar_3b067 wsJ2_length_9d52b := goodIn_r _ [7] (by decide +kernel) (by decide +kernel)
set_option maxRecDepth 20000 in
theorem gJ2_getChar_3b067_J2_length_9d52b : GoodIn wsJ2_getChar_3b067 (va_wsS RJ2 48 yJ2_length_9d52b wsJ2_length_9d52b) := goodIn_app (goodIn_of _ (by decide +kernel)) ggJ2_getChar_3b067_J2_length_9d52b
theorem dJ2_getChar_3b067_0 : decode cJ2_getChar_3b067 0 = .ok (.getstatic 44, 3) := by decide +kernel
theorem dJ2_getChar_3b067_3 : decode cJ2_getChar_3b067 3 = .ok (.ifCond .ne 25, 3) := by decide +kernel
theorem dJ2_getChar_3b067_6 : decode cJ2_getChar_3b067 6 = .ok (.iload_n 1, 1) := by decide +kernel
theorem dJ2_getChar_3b067_7 : decode cJ2_getChar_3b067 7 = .ok (.ifCond .lt 11, 3) := by decide +kernel
theorem dJ2_getChar_3b067_10 : decode cJ2_getChar_3b067 10 = .ok (.iload_n 1, 1) := by decide +kernel
theorem dJ2_getChar_3b067_11 : decode cJ2_getChar_3b067 11 = .ok (.aload_n 0, 1) := by decide +kernel
theorem dJ2_getChar_3b067_12 : decode cJ2_getChar_3b067 12 = .ok (.invokestatic 48, 3) := by decide +kernel
theorem dJ2_getChar_3b067_15 : decode cJ2_getChar_3b067 15 = .ok (.if_icmp .lt 13, 3) := by decide +kernel
theorem dJ2_getChar_3b067_18 : decode cJ2_getChar_3b067 18 = .ok (.new 52, 3) := by decide +kernel
theorem dJ2_getChar_3b067_21 : decode cJ2_getChar_3b067 21 = .ok (.dup, 1) := by decide +kernel
theorem dJ2_getChar_3b067_22 : decode cJ2_getChar_3b067 22 = .ok (.ldc 54, 2) := by decide +kernel
theorem dJ2_getChar_3b067_24 : decode cJ2_getChar_3b067 24 = .ok (.invokespecial 56, 3) := by decide +kernel
theorem dJ2_getChar_3b067_27 : decode cJ2_getChar_3b067 27 = .ok (.athrow, 1) := by decide +kernel
theorem dJ2_getChar_3b067_28 : decode cJ2_getChar_3b067 28 = .ok (.iload_n 1, 1) := by decide +kernel
theorem dJ2_getChar_3b067_29 : decode cJ2_getChar_3b067 29 = .ok (.iconst 1, 1) := by decide +kernel
theorem dJ2_getChar_3b067_30 : decode cJ2_getChar_3b067 30 = .ok (.ishl, 1) := by decide +kernel
theorem dJ2_getChar_3b067_31 : decode cJ2_getChar_3b067 31 = .ok (.istore_n 1, 1) := by decide +kernel
theorem dJ2_getChar_3b067_32 : decode cJ2_getChar_3b067 32 = .ok (.aload_n 0, 1) := by decide +kernel
theorem dJ2_getChar_3b067_33 : decode cJ2_getChar_3b067 33 = .ok (.iload_n 1, 1) := by decide +kernel
theorem dJ2_getChar_3b067_34 : decode cJ2_getChar_3b067 34 = .ok (.iinc 1 1, 3) := by decide +kernel
theorem dJ2_getChar_3b067_37 : decode cJ2_getChar_3b067 37 = .ok (.baload, 1) := by decide +kernel
theorem dJ2_getChar_3b067_38 : decode cJ2_getChar_3b067 38 = .ok (.sipush 255, 3) := by decide +kernel
theorem dJ2_getChar_3b067_41 : decode cJ2_getChar_3b067 41 = .ok (.iand, 1) := by decide +kernel
theorem dJ2_getChar_3b067_42 : decode cJ2_getChar_3b067 42 = .ok (.getstatic 59, 3) := by decide +kernel
theorem dJ2_getChar_3b067_45 : decode cJ2_getChar_3b067 45 = .ok (.ishl, 1) := by decide +kernel
theorem dJ2_getChar_3b067_46 : decode cJ2_getChar_3b067 46 = .ok (.aload_n 0, 1) := by decide +kernel
theorem dJ2_getChar_3b067_47 : decode cJ2_getChar_3b067 47 = .ok (.iload_n 1, 1) := by decide +kernel
theorem dJ2_getChar_3b067_48 : decode cJ2_getChar_3b067 48 = .ok (.baload, 1) := by decide +kernel
theorem dJ2_getChar_3b067_49 : decode cJ2_getChar_3b067 49 = .ok (.sipush 255, 3) := by decide +kernel
theorem dJ2_getChar_3b067_52 : decode cJ2_getChar_3b067 52 = .ok (.iand, 1) := by decide +kernel
theorem dJ2_getChar_3b067_53 : decode cJ2_getChar_3b067 53 = .ok (.getstatic 63, 3) := by decide +kernel
theorem dJ2_getChar_3b067_56 : decode cJ2_getChar_3b067 56 = .ok (.ishl, 1) := by decide +kernel
theorem dJ2_getChar_3b067_57 : decode cJ2_getChar_3b067 57 = .ok (.ior, 1) := by decide +kernel
theorem dJ2_getChar_3b067_58 : decode cJ2_getChar_3b067 58 = .ok (.i2c, 1) := by decide +kernel
theorem dJ2_getChar_3b067_59 : decode cJ2_getChar_3b067 59 = .ok (.ireturn, 1) := by decide +kernel
theorem dJ2_length_9d52b_0 : decode cJ2_length_9d52b 0 = .ok (.aload_n 0, 1) := by decide +kernel
theorem dJ2_length_9d52b_1 : decode cJ2_length_9d52b 1 = .ok (.arraylength, 1) := by decide +kernel
theorem dJ2_length_9d52b_2 : decode cJ2_length_9d52b 2 = .ok (.iconst 1, 1) := by decide +kernel
theorem dJ2_length_9d52b_3 : decode cJ2_length_9d52b 3 = .ok (.ishr, 1) := by decide +kernel
theorem dJ2_length_9d52b_4 : decode cJ2_length_9d52b 4 = .ok (.ireturn, 1) := by decide +kernel
set_option maxRecDepth 20000 in
theorem ggJ2_charAt_3b067_J2_checkIndex_2214a : GoodIn wsJ2_charAt_3b067 wsJ2_checkIndex_2214a := goodIn_r _ [4, 5, 6, 3, 7, 8, 9, 10, 11, 12, 13, 14, 15, 16] (by decide +kernel) (by decide +kernel)
set_option maxRecDepth 20000 in
theorem gJ2_charAt_3b067_J2_checkIndex_2214a : GoodIn wsJ2_charAt_3b067 (va_wsS RJ2 67 yJ2_checkIndex_2214a wsJ2_checkIndex_2214a) := goodIn_app (goodIn_of _ (by decide +kernel)) ggJ2_charAt_3b067_J2_checkIndex_2214a
set_option maxRecDepth 20000 in
theorem ggJ2_charAt_3b067_J2_getChar_3b067 : GoodIn wsJ2_charAt_3b067 wsJ2_getChar_3b067 := goodIn_r _ [19, 20, 21, 22, 5, 6, 3, 7] (by decide +kernel) (by decide +kernel)
set_option maxRecDepth 20000 in
theorem gJ2_charAt_3b067_J2_getChar_3b067 : GoodIn wsJ2_charAt_3b067 (va_wsS RJ2 71 yJ2_getChar_3b067 wsJ2_getChar_3b067) := goodIn_app (goodIn_of _ (by decide +kernel)) ggJ2_charAt_3b067_J2_getChar_3b067
theorem dJ2_charAt_3b067_0 : decode cJ2_charAt_3b067 0 = .ok (.iload_n 1, 1) := by decide +kernel
theorem dJ2_charAt_3b067_1 : decode cJ2_charAt_3b067 1 = .ok (.aload_n 0, 1) := by decide +kernel
theorem dJ2_charAt_3b067_2 : decode cJ2_charAt_3b067 2 = .ok (.invokestatic 67, 3) := by decide +kernel
theorem dJ2_charAt_3b067_5 : decode cJ2_charAt_3b067 5 = .ok (.aload_n 0, 1) := by decide +kernel
theorem dJ2_charAt_3b067_6 : decode cJ2_charAt_3b067 6 = .ok (.iload_n 1, 1) := by decide +kernel
theorem dJ2_charAt_3b067_7 : decode cJ2_charAt_3b067 7 = .ok (.invokestatic 71, 3) := by decide +kernel
theorem dJ2_charAt_3b067_10 : decode cJ2_charAt_3b067 10 = .ok (.ireturn, 1) := by decide +kernel
set_option maxRecDepth 20000 in
theorem ggJ2_checkIndex_2214a_J2_length_9d52b : GoodIn wsJ2_checkIndex_2214a wsJ2_length_9d52b := goodIn_r _ [4] (by decide +kernel) (by decide +kernel)
set_option maxRecDepth 20000 in
theorem gJ2_checkIndex_2214a_J2_length_9d52b : GoodIn wsJ2_checkIndex_2214a (va_wsS RJ2 48 yJ2_length_9d52b wsJ2_length_9d52b) := goodIn_app (goodIn_of _ (by decide +kernel)) ggJ2_checkIndex_2214a_J2_length_9d52b
set_option maxRecDepth 20000 in
theorem ggJ2_checkIndex_2214a_J0_checkIndex_df160 : GoodIn wsJ2_checkIndex_2214a wsJ0_checkIndex_df160 := goodIn_r _ [8, 9, 10, 11, 12, 13] (by decide +kernel) (by decide +kernel)
set_option maxRecDepth 20000 in
theorem gJ2_checkIndex_2214a_J0_checkIndex_df160 : GoodIn wsJ2_checkIndex_2214a (va_wsS RJ2 414 yJ0_checkIndex_df160 wsJ0_checkIndex_df160) := goodIn_app (goodIn_of _ (by decide +kernel)) ggJ2_checkIndex_2214a_J0_checkIndex_df160
theorem dJ2_checkIndex_2214a_0 : decode cJ2_checkIndex_2214a 0 = .ok (.iload_n 0, 1) := by decide +kernel
theorem dJ2_checkIndex_2214a_1 : decode cJ2_checkIndex_2214a 1 = .ok (.aload_n 1, 1) := by decide +kernel
theorem dJ2_checkIndex_2214a_2 : decode cJ2_checkIndex_2214a 2 = .ok (.invokestatic 48, 3) := by decide +kernel
theorem dJ2_checkIndex_2214a_5 : decode cJ2_checkIndex_2214a 5 = .ok (.invokestatic 414, 3) := by decide +kernel
theorem dJ2_checkIndex_2214a_8 : decode cJ2_checkIndex_2214a 8 = .ok (.return_, 1) := by decide +kernel
theorem dJ7_fill_53178_0 : decode cJ7_fill_53178 0 = .ok (.iconst 0, 1) := by decide +kernel
theorem dJ7_fill_53178_1 : decode cJ7_fill_53178 1 = .ok (.istore_n 2, 1) := by decide +kernel
theorem dJ7_fill_53178_2 : decode cJ7_fill_53178 2 = .ok (.aload_n 0, 1) := by decide +kernel
theorem dJ7_fill_53178_3 : decode cJ7_fill_53178 3 = .ok (.arraylength, 1) := by decide +kernel
theorem dJ7_fill_53178_4 : decode cJ7_fill_53178 4 = .ok (.istore_n 3, 1) := by decide +kernel
theorem dJ7_fill_53178_5 : decode cJ7_fill_53178 5 = .ok (.iload_n 2, 1) := by decide +kernel
theorem dJ7_fill_53178_6 : decode cJ7_fill_53178 6 = .ok (.iload_n 3, 1) := by decide +kernel
theorem dJ7_fill_53178_7 : decode cJ7_fill_53178 7 = .ok (.if_icmp .ge 13, 3) := by decide +kernel
theorem dJ7_fill_53178_10 : decode cJ7_fill_53178 10 = .ok (.aload_n 0, 1) := by decide +kernel
theorem dJ7_fill_53178_11 : decode cJ7_fill_53178 11 = .ok (.iload_n 2, 1) := by decide +kernel
theorem dJ7_fill_53178_12 : decode cJ7_fill_53178 12 = .ok (.iload_n 1, 1) := by decide +kernel
theorem dJ7_fill_53178_13 : decode cJ7_fill_53178 13 = .ok (.iastore, 1) := by decide +kernel
theorem dJ7_fill_53178_14 : decode cJ7_fill_53178 14 = .ok (.iinc 2 1, 3) := by decide +kernel
theorem dJ7_fill_53178_17 : decode cJ7_fill_53178 17 = .ok (.goto (-12), 3) := by decide +kernel
theorem dJ7_fill_53178_20 : decode cJ7_fill_53178 20 = .ok (.return_, 1) := by decide +kernel
theorem dJ3_checkIndex_8e157_0 : decode cJ3_checkIndex_8e157 0 = .ok (.iload_n 0, 1) := by decide +kernel
theorem dJ3_checkIndex_8e157_1 : decode cJ3_checkIndex_8e157 1 = .ok (.ifCond .lt 8, 3) := by decide +kernel
theorem dJ3_checkIndex_8e157_4 : decode cJ3_checkIndex_8e157 4 = .ok (.iload_n 0, 1) := by decide +kernel
theorem dJ3_checkIndex_8e157_5 : decode cJ3_checkIndex_8e157 5 = .ok (.iload_n 1, 1) := by decide +kernel
theorem dJ3_checkIndex_8e157_6 : decode cJ3_checkIndex_8e157 6 = .ok (.if_icmp .lt 10, 3) := by decide +kernel
theorem dJ3_checkIndex_8e157_9 : decode cJ3_checkIndex_8e157 9 = .ok (.aload_n 2, 1) := by decide +kernel
theorem dJ3_checkIndex_8e157_10 : decode cJ3_checkIndex_8e157 10 = .ok (.iload_n 0, 1) := by decide +kernel
theorem dJ3_checkIndex_8e157_11 : decode cJ3_checkIndex_8e157 11 = .ok (.iload_n 1, 1) := by decide +kernel
theorem dJ3_checkIndex_8e157_12 : decode cJ3_checkIndex_8e157 12 = .ok (.invokestatic 95, 3) := by decide +kernel
theorem dJ3_checkIndex_8e157_15 : decode cJ3_checkIndex_8e157 15 = .ok (.athrow, 1) := by decide +kernel
theorem dJ3_checkIndex_8e157_16 : decode cJ3_checkIndex_8e157 16 = .ok (.iload_n 0, 1) := by decide +kernel
theorem dJ3_checkIndex_8e157_17 : decode cJ3_checkIndex_8e157 17 = .ok (.ireturn, 1) := by decide +kernel
set_option maxRecDepth 20000 in
theorem ggL_law_X10_init : GoodIn wsL_law wsX10_init := goodIn_r _ [9, 10, 11, 12, 13, 14, 15, 16, 17, 18, 19, 20, 21, 22, 23, 24, 25, 26, 27, 28, 29, 30, 31, 32, 33, 34, 35, 36, 37, 38, 39, 40, 41, 42, 43, 44, 45, 46, 47, 48, 49, 50, 51, 52, 53, 54, 55, 56, 57, 58, 59, 60, 61, 62, 63, 64, 65, 66, 67, 68, 69, 70, 71, 72, 73, 74, 75, 76, 77, 78, 79, 80, 81, 82, 83, 84, 85, 86, 87, 88, 89, 90, 91, 92, 93, 94, 95, 96, 97, 98, 99, 100, 101, 102, 103, 104, 105, 106, 107, 108, 109, 110, 111, 112, 113, 114, 115, 116, 117, 118, 119, 120, 121, 122, 123, 124, 125, 1217, 1218, 1175, 1176, 1177, 1178, 1179, 1180, 1181, 1182, 1183, 1184, 1185, 1186, 1219, 1220, 1221, 1222, 1223, 1224, 1225, 1226, 1227, 1228, 1229, 1230, 1231, 1232, 1233, 1234, 1235, 1236, 1237, 1238, 1239, 1240, 1241, 1242, 1243, 1244, 1245, 1246, 1247, 1248, 1249, 1250, 1251, 1252, 1253, 1254, 1255, 1256, 1257, 1258, 1259, 1260, 1261, 1262, 1263, 1264] (by decide +kernel) (by decide +kernel)
set_option maxRecDepth 20000 in
theorem gL_law_X10_init : GoodIn wsL_law (wsX10_init) := ggL_law_X10_init
set_option maxRecDepth 20000 in
theorem ggL_law_X11_init : GoodIn wsL_law wsX11_init := goodIn_r _ [128, 129, 11, 12, 74, 130, 131, 132, 133, 134, 135, 136, 137, 138, 139, 140, 141, 142, 143, 144, 145, 1187, 1188, 1189, 1190, 1191, 1192, 1193, 1194, 1195, 1196, 1197, 1198, 1199, 1200, 1201, 1202, 1203, 1204, 1205, 1206, 1207, 1208, 1209, 1210, 1211, 1212, 1213, 1214, 1215, 1216] (by decide +kernel) (by decide +kernel)
set_option maxRecDepth 20000 in
theorem gL_law_X11_init : GoodIn wsL_law (wsX11_init) := ggL_law_X11_init
set_option maxRecDepth 20000 in
theorem ggL_law_X10_feed : GoodIn wsL_law wsX10_feed := goodIn_r _ [149, 16, 150, 151, 152, 153, 15, 154, 59, 61, 1175, 1176, 1177, 1178, 1179, 1180, 1181, 1182, 1183, 1184, 1185, 1186, 1217, 1218] (by decide +kernel) (by decide +kernel)
set_option maxRecDepth 20000 in
theorem gL_law_X10_feed : GoodIn wsL_law (wsV RL 15 RX10 yX10_feed wsX10_feed) := goodIn_app (goodIn_of _ (by decide +kernel)) ggL_law_X10_feed
set_option maxRecDepth 20000 in
theorem ggL_law_X11_feed : GoodIn wsL_law wsX11_feed := goodIn_r _ [158, 159, 132, 1187, 1188, 1189, 1190, 1191, 1192, 1193, 1194, 1195, 1196, 1197, 1198, 1199, 1200, 1201, 1202, 1203, 1204, 1205, 1206, 1207, 1208, 1209, 1210, 1211, 1212, 1213, 1214, 1215, 1216] (by decide +kernel) (by decide +kernel)
set_option maxRecDepth 20000 in
theorem gL_law_X11_feed : GoodIn wsL_law (wsV RL 19 RX11 yX11_feed wsX11_feed) := goodIn_app (goodIn_of _ (by decide +kernel)) ggL_law_X11_feed
set_option maxRecDepth 20000 in
theorem ggL_law_X10_end : GoodIn wsL_law wsX10_end := goodIn_r _ [163, 16, 150, 1175, 1176, 1177, 1178, 1179, 1180, 1181, 1182, 1183, 1184, 1185, 1186, 1217, 1218] (by decide +kernel) (by decide +kernel)
set_option maxRecDepth 20000 in
theorem gL_law_X10_end : GoodIn wsL_law (wsV RL 20 RX10 yX10_end wsX10_end) := goodIn_app (goodIn_of _ (by decide +kernel)) ggL_law_X10_end
set_option maxRecDepth 20000 in
theorem ggL_law_X11_end : GoodIn wsL_law wsX11_end := goodIn_r _ [167, 159, 168, 169, 5, 170, 1187, 1188, 1189, 1190, 1191, 1192, 1193, 1194, 1195, 1196, 1197, 1198, 1199, 1200, 1201, 1202, 1203, 1204, 1205, 1206, 1207, 1208, 1209, 1210, 1211, 1212, 1213, 1214, 1215, 1216] (by decide +kernel) (by decide +kernel)
set_option maxRecDepth 20000 in
theorem gL_law_X11_end : GoodIn wsL_law (wsV RL 24 RX11 yX11_end wsX11_end) := goodIn_app (goodIn_of _ (by decide +kernel)) ggL_law_X11_end
set_option maxRecDepth 20000 in
theorem ggL_law_X10_land : GoodIn wsL_law wsX10_land := goodIn_r _ [174, 20, 16, 150, 175, 53, 176, 24, 177, 28, 178, 30, 179, 180, 181, 182, 183, 19, 184, 68, 185, 186, 187, 188, 189, 190, 191, 192, 66, 193, 194, 195, 196, 23, 197, 73, 75, 198, 199, 200, 201, 202, 203, 204, 205, 206, 207, 208, 209, 210, 211, 212, 213, 214, 215, 216, 217, 218, 219, 15, 220, 59, 61, 221, 222, 223, 224, 225, 226, 227, 228, 229, 230, 231, 232, 233, 234, 235, 236, 237, 238, 239, 240, 241, 242, 243, 244, 245, 246, 247, 248, 249, 250, 251, 252, 253, 254, 255, 256, 257, 258, 259, 260, 261, 262, 263, 264, 265, 266, 267, 268, 269, 270, 271, 272, 273, 274, 275, 276, 277, 278, 279, 280, 281, 282, 283, 284, 285, 286, 287, 288, 289, 290, 291, 292, 293, 294, 295, 296, 297, 298, 299, 300, 301, 302, 303, 304, 305, 306, 307, 308, 309, 310, 311, 312, 313, 1175, 1176, 1177, 1178, 1179, 1180, 1181, 1182, 1183, 1184, 1185, 1186, 1217, 1218, 1219, 1220, 1221, 1222, 1223, 1224, 1225, 1226, 1227, 1228, 1229, 1232, 1233, 1234, 1235, 1236, 1230, 1231] (by decide +kernel) (by decide +kernel)
set_option maxRecDepth 20000 in
theorem gL_law_X10_land : GoodIn wsL_law (wsV RL 25 RX10 yX10_land wsX10_land) := goodIn_app (goodIn_of _ (by decide +kernel)) ggL_law_X10_land
set_option maxRecDepth 20000 in
theorem ggL_law_X11_land : GoodIn wsL_law wsX11_land := goodIn_r _ [317, 318, 319, 320, 321, 131, 322, 159, 323, 324, 130, 325, 141, 326, 327, 328, 5, 329, 330, 331, 332, 333, 334, 335, 336, 337, 338, 339, 132, 168, 169, 170, 340, 341, 342, 343, 344, 345, 346, 347, 348, 349, 350, 351, 133, 352, 353, 354, 355, 356, 357, 358, 359, 360, 361, 362, 363, 364, 365, 366, 1187, 1188, 1189, 1190, 1191, 1192, 1193, 1194, 1195, 1196, 1197, 1198, 1199, 1200, 1201, 1202, 1203, 1204, 1205, 1206, 1207, 1208, 1209, 1210, 1211, 1212, 1213, 1214, 1215, 1216] (by decide +kernel) (by decide +kernel)
set_option maxRecDepth 20000 in
theorem gL_law_X11_land : GoodIn wsL_law (wsV RL 29 RX11 yX11_land wsX11_land) := goodIn_app (goodIn_of _ (by decide +kernel)) ggL_law_X11_land
set_option maxRecDepth 20000 in
theorem ggL_law_X10_fault : GoodIn wsL_law wsX10_fault := goodIn_r _ [370, 53, 1175, 1176, 1177, 1178, 1179, 1180, 1181, 1182, 1183, 1184, 1185, 1186] (by decide +kernel) (by decide +kernel)
set_option maxRecDepth 20000 in
theorem gL_law_X10_fault : GoodIn wsL_law (wsV RL 30 RX10 yX10_fault wsX10_fault) := goodIn_app (goodIn_of _ (by decide +kernel)) ggL_law_X10_fault
set_option maxRecDepth 20000 in
theorem ggL_law_X11_fault : GoodIn wsL_law wsX11_fault := goodIn_r _ [374, 323, 1187, 1188, 1189, 1190, 1191, 1192, 1193, 1194, 1195, 1196, 1197, 1198, 1199, 1200, 1201, 1202, 1203, 1204, 1205, 1206, 1207, 1208, 1209, 1210, 1211, 1212, 1213, 1214, 1215, 1216] (by decide +kernel) (by decide +kernel)
set_option maxRecDepth 20000 in
theorem gL_law_X11_fault : GoodIn wsL_law (wsV RL 33 RX11 yX11_fault wsX11_fault) := goodIn_app (goodIn_of _ (by decide +kernel)) ggL_law_X11_fault
set_option maxRecDepth 20000 in
theorem ggL_law_X10_far : GoodIn wsL_law wsX10_far := goodIn_r _ [378, 24, 379, 380, 381, 23, 382, 383, 384, 385, 386, 73, 387, 388, 389, 390, 391, 299, 300, 301, 75, 1175, 1176, 1177, 1178, 1179, 1180, 1181, 1182, 1183, 1184, 1185, 1186, 1230, 1231] (by decide +kernel) (by decide +kernel)
set_option maxRecDepth 20000 in
theorem gL_law_X10_far : GoodIn wsL_law (wsV RL 34 RX10 yX10_far wsX10_far) := goodIn_app (goodIn_of _ (by decide +kernel)) ggL_law_X10_far
set_option maxRecDepth 20000 in
theorem ggL_law_X11_far : GoodIn wsL_law wsX11_far := goodIn_r _ [395, 396, 397, 398, 5, 399, 400, 401, 402, 403, 130, 404, 405, 406, 407, 325, 168, 169, 170, 408, 409, 410, 411, 364, 365, 366, 1187, 1188, 1189, 1190, 1191, 1192, 1193, 1194, 1195, 1196, 1197, 1198, 1199, 1200, 1201, 1202, 1203, 1204, 1205, 1206, 1207, 1208, 1209, 1210, 1211, 1212, 1213, 1214, 1215, 1216] (by decide +kernel) (by decide +kernel)
set_option maxRecDepth 20000 in
theorem gL_law_X11_far : GoodIn wsL_law (wsV RL 38 RX11 yX11_far wsX11_far) := goodIn_app (goodIn_of _ (by decide +kernel)) ggL_law_X11_far
set_option maxRecDepth 20000 in
theorem ggL_law_X10_tell : GoodIn wsL_law wsX10_tell := goodIn_r _ [415, 24, 379, 380, 381, 23, 382, 383, 384, 385, 386, 73, 416, 417, 2, 418, 387, 388, 389, 390, 391, 299, 300, 301, 75, 419, 303, 304, 305, 1175, 1176, 1177, 1178, 1179, 1180, 1181, 1182, 1183, 1184, 1185, 1186, 1230, 1231] (by decide +kernel) (by decide +kernel)
set_option maxRecDepth 20000 in
theorem gL_law_X10_tell : GoodIn wsL_law (wsV RL 39 RX10 yX10_tell wsX10_tell) := goodIn_app (goodIn_of _ (by decide +kernel)) ggL_law_X10_tell
set_option maxRecDepth 20000 in
theorem ggL_law_X11_tell : GoodIn wsL_law wsX11_tell := goodIn_r _ [423, 424, 425, 426, 5, 427, 428, 130, 396, 397, 398, 399, 400, 401, 402, 403, 404, 405, 406, 407, 325, 168, 169, 170, 408, 409, 410, 411, 364, 365, 366, 1187, 1188, 1189, 1190, 1191, 1192, 1193, 1194, 1195, 1196, 1197, 1198, 1199, 1200, 1201, 1202, 1203, 1204, 1205, 1206, 1207, 1208, 1209, 1210, 1211, 1212, 1213, 1214, 1215, 1216] (by decide +kernel) (by decide +kernel)
set_option maxRecDepth 20000 in
theorem gL_law_X11_tell : GoodIn wsL_law (wsV RL 43 RX11 yX11_tell wsX11_tell) := goodIn_app (goodIn_of _ (by decide +kernel)) ggL_law_X11_tell
set_option maxRecDepth 20000 in
theorem ggL_law_X10_pair : GoodIn wsL_law wsX10_pair := goodIn_r _ [432, 24, 379, 380, 381, 23, 382, 383, 384, 385, 386, 73, 433, 434, 2, 435, 436, 295, 296, 297, 437, 438, 439, 1175, 1176, 1177, 1178, 1179, 1180, 1181, 1182, 1183, 1184, 1185, 1186, 1230, 1231] (by decide +kernel) (by decide +kernel)
set_option maxRecDepth 20000 in
theorem gL_law_X10_pair : GoodIn wsL_law (wsV RL 44 RX10 yX10_pair wsX10_pair) := goodIn_app (goodIn_of _ (by decide +kernel)) ggL_law_X10_pair
set_option maxRecDepth 20000 in
theorem ggL_law_X11_pair : GoodIn wsL_law wsX11_pair := goodIn_r _ [443, 396, 397, 398, 5, 399, 400, 401, 402, 403, 130, 404, 405, 406, 407, 325, 168, 169, 170, 364, 365, 366, 1187, 1188, 1189, 1190, 1191, 1192, 1193, 1194, 1195, 1196, 1197, 1198, 1199, 1200, 1201, 1202, 1203, 1204, 1205, 1206, 1207, 1208, 1209, 1210, 1211, 1212, 1213, 1214, 1215, 1216] (by decide +kernel) (by decide +kernel)
set_option maxRecDepth 20000 in
theorem gL_law_X11_pair : GoodIn wsL_law (wsV RL 47 RX11 yX11_pair wsX11_pair) := goodIn_app (goodIn_of _ (by decide +kernel)) ggL_law_X11_pair
set_option maxRecDepth 20000 in
theorem ggL_law_X10_wide : GoodIn wsL_law wsX10_wide := goodIn_r _ [447, 24, 448, 449, 450, 451, 452, 23, 453, 454, 380, 381, 382, 383, 384, 385, 386, 73, 455, 456, 457, 458, 391, 299, 300, 301, 75, 459, 460, 461, 462, 463, 2, 464, 465, 1175, 1176, 1177, 1178, 1179, 1180, 1181, 1182, 1183, 1184, 1185, 1186, 1230, 1231] (by decide +kernel) (by decide +kernel)
set_option maxRecDepth 20000 in
theorem gL_law_X10_wide : GoodIn wsL_law (wsV RL 48 RX10 yX10_wide wsX10_wide) := goodIn_app (goodIn_of _ (by decide +kernel)) ggL_law_X10_wide
set_option maxRecDepth 20000 in
theorem ggL_law_X11_wide : GoodIn wsL_law wsX11_wide := goodIn_r _ [469, 470, 471, 472, 473, 474, 5, 475, 396, 397, 398, 399, 400, 401, 402, 403, 130, 404, 405, 406, 407, 325, 168, 169, 170, 476, 477, 478, 479, 408, 409, 410, 411, 364, 365, 366, 480, 481, 482, 483, 484, 485, 486, 487, 1187, 1188, 1189, 1190, 1191, 1192, 1193, 1194, 1195, 1196, 1197, 1198, 1199, 1200, 1201, 1202, 1203, 1204, 1205, 1206, 1207, 1208, 1209, 1210, 1211, 1212, 1213, 1214, 1215, 1216] (by decide +kernel) (by decide +kernel)
set_option maxRecDepth 20000 in
theorem gL_law_X11_wide : GoodIn wsL_law (wsV RL 52 RX11 yX11_wide wsX11_wide) := goodIn_app (goodIn_of _ (by decide +kernel)) ggL_law_X11_wide
set_option maxRecDepth 20000 in
theorem ggL_law_X10_three : GoodIn wsL_law wsX10_three := goodIn_r _ [491, 24, 450, 451, 452, 23, 453, 454, 380, 381, 382, 383, 384, 385, 386, 73, 455, 456, 457, 458, 391, 299, 300, 301, 75, 492, 493, 494, 495, 496, 460, 461, 462, 463, 2, 464, 465, 497, 498, 499, 1175, 1176, 1177, 1178, 1179, 1180, 1181, 1182, 1183, 1184, 1185, 1186, 1230, 1231] (by decide +kernel) (by decide +kernel)
set_option maxRecDepth 20000 in
theorem gL_law_X10_three : GoodIn wsL_law (wsV RL 53 RX10 yX10_three wsX10_three) := goodIn_app (goodIn_of _ (by decide +kernel)) ggL_law_X10_three
set_option maxRecDepth 20000 in
theorem ggL_law_X11_three : GoodIn wsL_law wsX11_three := goodIn_r _ [503, 472, 473, 474, 5, 475, 396, 397, 398, 399, 400, 401, 402, 403, 130, 404, 405, 406, 407, 325, 168, 169, 170, 476, 477, 478, 479, 408, 409, 410, 411, 364, 365, 366, 504, 505, 506, 507, 480, 481, 482, 483, 484, 485, 486, 487, 1187, 1188, 1189, 1190, 1191, 1192, 1193, 1194, 1195, 1196, 1197, 1198, 1199, 1200, 1201, 1202, 1203, 1204, 1205, 1206, 1207, 1208, 1209, 1210, 1211, 1212, 1213, 1214, 1215, 1216] (by decide +kernel) (by decide +kernel)
set_option maxRecDepth 20000 in
theorem gL_law_X11_three : GoodIn wsL_law (wsV RL 56 RX11 yX11_three wsX11_three) := goodIn_app (goodIn_of _ (by decide +kernel)) ggL_law_X11_three
set_option maxRecDepth 20000 in
theorem ggL_law_X10_four : GoodIn wsL_law wsX10_four := goodIn_r _ [511, 24, 512, 513, 514, 23, 515, 516, 451, 452, 453, 454, 380, 381, 382, 383, 384, 385, 386, 73, 517, 518, 519, 520, 521, 456, 457, 458, 391, 299, 300, 301, 75, 522, 523, 524, 525, 526, 493, 494, 495, 496, 460, 461, 462, 463, 2, 464, 465, 527, 528, 529, 530, 531, 532, 533, 534, 535, 497, 498, 499, 1175, 1176, 1177, 1178, 1179, 1180, 1181, 1182, 1183, 1184, 1185, 1186, 1230, 1231] (by decide +kernel) (by decide +kernel)
set_option maxRecDepth 20000 in
theorem gL_law_X10_four : GoodIn wsL_law (wsV RL 57 RX10 yX10_four wsX10_four) := goodIn_app (goodIn_of _ (by decide +kernel)) ggL_law_X10_four
set_option maxRecDepth 20000 in
theorem ggL_law_X11_four : GoodIn wsL_law wsX11_four := goodIn_r _ [539, 540, 541, 542, 5, 543, 472, 473, 474, 475, 396, 397, 398, 399, 400, 401, 402, 403, 130, 404, 405, 406, 407, 325, 168, 169, 170, 544, 545, 546, 547, 476, 477, 478, 479, 408, 409, 410, 411, 364, 365, 366, 548, 549, 550, 551, 552, 504, 505, 506, 507, 480, 481, 482, 483, 484, 485, 486, 487, 553, 554, 555, 556, 1187, 1188, 1189, 1190, 1191, 1192, 1193, 1194, 1195, 1196, 1197, 1198, 1199, 1200, 1201, 1202, 1203, 1204, 1205, 1206, 1207, 1208, 1209, 1210, 1211, 1212, 1213, 1214, 1215, 1216] (by decide +kernel) (by decide +kernel)
set_option maxRecDepth 20000 in
theorem gL_law_X11_four : GoodIn wsL_law (wsV RL 61 RX11 yX11_four wsX11_four) := goodIn_app (goodIn_of _ (by decide +kernel)) ggL_law_X11_four
set_option maxRecDepth 20000 in
theorem ggL_law_X10_wrong : GoodIn wsL_law wsX10_wrong := goodIn_r _ [560, 40, 24, 561, 562, 563, 564, 565, 566, 567, 39, 568, 569, 570, 571, 572, 573, 574, 575, 576, 577, 578, 579, 456, 457, 23, 458, 391, 299, 300, 301, 75, 580, 460, 461, 462, 463, 2, 464, 465, 581, 582, 583, 434, 435, 436, 295, 296, 297, 437, 438, 439, 584, 585, 586, 587, 105, 588, 518, 519, 520, 521, 589, 523, 524, 525, 526, 493, 494, 495, 496, 527, 528, 529, 530, 531, 532, 533, 534, 535, 1175, 1176, 1177, 1178, 1179, 1180, 1181, 1182, 1183, 1184, 1185, 1186, 1240, 1241, 1242, 1243, 1244, 1245, 1246, 1230, 1231] (by decide +kernel) (by decide +kernel)
set_option maxRecDepth 20000 in
theorem gL_law_X10_wrong : GoodIn wsL_law (wsV RL 62 RX10 yX10_wrong wsX10_wrong) := goodIn_app (goodIn_of _ (by decide +kernel)) ggL_law_X10_wrong
set_option maxRecDepth 20000 in
theorem ggL_law_X11_wrong : GoodIn wsL_law wsX11_wrong := goodIn_r _ [593, 594, 134, 404, 405, 406, 5, 407, 325, 130, 168, 169, 170, 595, 596, 597, 598, 476, 477, 478, 479, 408, 409, 410, 411, 364, 365, 366, 504, 505, 506, 507, 480, 481, 482, 483, 484, 485, 486, 487, 544, 545, 546, 547, 548, 549, 550, 551, 552, 553, 554, 555, 556, 1187, 1188, 1189, 1190, 1191, 1192, 1193, 1194, 1195, 1196, 1197, 1198, 1199, 1200, 1201, 1202, 1203, 1204, 1205, 1206, 1207, 1208, 1209, 1210, 1211, 1212, 1213, 1214, 1215, 1216] (by decide +kernel) (by decide +kernel)
set_option maxRecDepth 20000 in
theorem gL_law_X11_wrong : GoodIn wsL_law (wsV RL 65 RX11 yX11_wrong wsX11_wrong) := goodIn_app (goodIn_of _ (by decide +kernel)) ggL_law_X11_wrong
set_option maxRecDepth 20000 in
theorem ggL_law_X10_falses : GoodIn wsL_law wsX10_falses := goodIn_r _ [602, 40, 24, 565, 566, 567, 39, 568, 569, 570, 571, 572, 573, 574, 575, 576, 577, 578, 579, 456, 457, 23, 458, 391, 299, 300, 301, 75, 580, 460, 461, 462, 463, 2, 464, 465, 581, 582, 583, 434, 435, 436, 295, 296, 297, 437, 438, 439, 584, 585, 586, 587, 105, 588, 518, 519, 520, 521, 589, 523, 524, 525, 526, 493, 494, 495, 496, 527, 528, 529, 530, 531, 532, 533, 534, 535, 603, 604, 605, 606, 607, 608, 609, 610, 611, 612, 613, 614, 615, 616, 617, 618, 619, 620, 621, 622, 623, 624, 625, 626, 627, 628, 629, 1175, 1176, 1177, 1178, 1179, 1180, 1181, 1182, 1183, 1184, 1185, 1186, 1240, 1241, 1242, 1243, 1244, 1245, 1246, 1230, 1231] (by decide +kernel) (by decide +kernel)
set_option maxRecDepth 20000 in
theorem gL_law_X10_falses : GoodIn wsL_law (wsV RL 66 RX10 yX10_falses wsX10_falses) := goodIn_app (goodIn_of _ (by decide +kernel)) ggL_law_X10_falses
set_option maxRecDepth 20000 in
theorem ggL_law_X11_falses : GoodIn wsL_law wsX11_falses := goodIn_r _ [633, 404, 405, 406, 5, 407, 325, 130, 168, 169, 170, 634, 635, 636, 637, 638, 639, 640, 641, 642, 643, 644, 645, 135, 646, 647, 648, 649, 134, 595, 596, 597, 598, 476, 477, 478, 479, 408, 409, 410, 411, 364, 365, 366, 504, 505, 506, 507, 480, 481, 482, 483, 484, 485, 486, 487, 544, 545, 546, 547, 548, 549, 550, 551, 552, 553, 554, 555, 556, 1187, 1188, 1189, 1190, 1191, 1192, 1193, 1194, 1195, 1196, 1197, 1198, 1199, 1200, 1201, 1202, 1203, 1204, 1205, 1206, 1207, 1208, 1209, 1210, 1211, 1212, 1213, 1214, 1215, 1216] (by decide +kernel) (by decide +kernel)
set_option maxRecDepth 20000 in
theorem gL_law_X11_falses : GoodIn wsL_law (wsV RL 69 RX11 yX11_falses wsX11_falses) := goodIn_app (goodIn_of _ (by decide +kernel)) ggL_law_X11_falses
set_option maxRecDepth 20000 in
theorem ggL_law_X10_doubt : GoodIn wsL_law wsX10_doubt := goodIn_r _ [653, 40, 24, 565, 566, 567, 39, 568, 569, 570, 571, 572, 573, 574, 575, 576, 577, 578, 579, 456, 457, 23, 458, 391, 299, 300, 301, 75, 580, 460, 461, 462, 463, 2, 464, 465, 581, 582, 583, 434, 435, 436, 295, 296, 297, 437, 438, 439, 584, 585, 586, 587, 105, 588, 518, 519, 520, 521, 589, 523, 524, 525, 526, 493, 494, 495, 496, 527, 528, 529, 530, 531, 532, 533, 534, 535, 654, 655, 656, 657, 658, 659, 660, 661, 627, 628, 498, 499, 662, 1175, 1176, 1177, 1178, 1179, 1180, 1181, 1182, 1183, 1184, 1185, 1186, 1240, 1241, 1242, 1243, 1244, 1245, 1246, 1230, 1231] (by decide +kernel) (by decide +kernel)
set_option maxRecDepth 20000 in
theorem gL_law_X10_doubt : GoodIn wsL_law (wsV RL 70 RX10 yX10_doubt wsX10_doubt) := goodIn_app (goodIn_of _ (by decide +kernel)) ggL_law_X10_doubt
set_option maxRecDepth 20000 in
theorem ggL_law_X11_doubt : GoodIn wsL_law wsX11_doubt := goodIn_r _ [666, 134, 130, 404, 405, 406, 5, 407, 325, 168, 169, 170, 595, 596, 597, 598, 476, 477, 478, 479, 408, 409, 410, 411, 364, 365, 366, 504, 505, 506, 507, 480, 481, 482, 483, 484, 485, 486, 487, 544, 545, 546, 547, 548, 549, 550, 551, 552, 553, 554, 555, 556, 1187, 1188, 1189, 1190, 1191, 1192, 1193, 1194, 1195, 1196, 1197, 1198, 1199, 1200, 1201, 1202, 1203, 1204, 1205, 1206, 1207, 1208, 1209, 1210, 1211, 1212, 1213, 1214, 1215, 1216] (by decide +kernel) (by decide +kernel)
set_option maxRecDepth 20000 in
theorem gL_law_X11_doubt : GoodIn wsL_law (wsV RL 73 RX11 yX11_doubt wsX11_doubt) := goodIn_app (goodIn_of _ (by decide +kernel)) ggL_law_X11_doubt
set_option maxRecDepth 20000 in
theorem ggL_law_X10_bend : GoodIn wsL_law wsX10_bend := goodIn_r _ [670, 24, 450, 451, 452, 23, 453, 454, 380, 381, 382, 383, 384, 385, 386, 73, 455, 456, 457, 458, 391, 299, 300, 301, 75, 671, 533, 534, 535, 1175, 1176, 1177, 1178, 1179, 1180, 1181, 1182, 1183, 1184, 1185, 1186, 1230, 1231] (by decide +kernel) (by decide +kernel)
set_option maxRecDepth 20000 in
theorem gL_law_X10_bend : GoodIn wsL_law (wsV RL 74 RX10 yX10_bend wsX10_bend) := goodIn_app (goodIn_of _ (by decide +kernel)) ggL_law_X10_bend
set_option maxRecDepth 20000 in
theorem ggL_law_X11_bend : GoodIn wsL_law wsX11_bend := goodIn_r _ [675, 472, 473, 474, 5, 475, 396, 397, 398, 399, 400, 401, 402, 403, 130, 404, 405, 406, 407, 325, 168, 169, 170, 476, 477, 478, 479, 408, 409, 410, 411, 364, 365, 366, 553, 554, 555, 556, 676, 677, 678, 1187, 1188, 1189, 1190, 1191, 1192, 1193, 1194, 1195, 1196, 1197, 1198, 1199, 1200, 1201, 1202, 1203, 1204, 1205, 1206, 1207, 1208, 1209, 1210, 1211, 1212, 1213, 1214, 1215, 1216] (by decide +kernel) (by decide +kernel)
set_option maxRecDepth 20000 in
theorem gL_law_X11_bend : GoodIn wsL_law (wsV RL 77 RX11 yX11_bend wsX11_bend) := goodIn_app (goodIn_of _ (by decide +kernel)) ggL_law_X11_bend
set_option maxRecDepth 20000 in
theorem ggL_law_X10_foot : GoodIn wsL_law wsX10_foot := goodIn_r _ [682, 24, 683, 684, 685, 686, 2, 687, 448, 449, 450, 451, 452, 23, 453, 454, 380, 381, 382, 383, 384, 385, 386, 73, 455, 456, 457, 458, 391, 299, 300, 301, 75, 492, 493, 494, 495, 496, 460, 461, 462, 463, 464, 465, 671, 533, 534, 535, 688, 689, 690, 691, 692, 693, 296, 694, 695, 696, 697, 1175, 1176, 1177, 1178, 1179, 1180, 1181, 1182, 1183, 1184, 1185, 1186, 1230, 1231] (by decide +kernel) (by decide +kernel)
set_option maxRecDepth 20000 in
theorem gL_law_X10_foot : GoodIn wsL_law (wsV RL 78 RX10 yX10_foot wsX10_foot) := goodIn_app (goodIn_of _ (by decide +kernel)) ggL_law_X10_foot
set_option maxRecDepth 20000 in
theorem ggL_law_X11_foot : GoodIn wsL_law wsX11_foot := goodIn_r _ [701, 552, 702, 703, 704, 5, 705, 470, 471, 472, 473, 474, 475, 396, 397, 398, 399, 400, 401, 402, 403, 130, 404, 405, 406, 407, 325, 168, 169, 170, 476, 477, 478, 479, 408, 409, 410, 411, 364, 365, 366, 504, 505, 506, 507, 480, 481, 482, 483, 484, 485, 486, 487, 553, 554, 555, 556, 706, 707, 708, 1187, 1188, 1189, 1190, 1191, 1192, 1193, 1194, 1195, 1196, 1197, 1198, 1199, 1200, 1201, 1202, 1203, 1204, 1205, 1206, 1207, 1208, 1209, 1210, 1211, 1212, 1213, 1214, 1215, 1216] (by decide +kernel) (by decide +kernel)
set_option maxRecDepth 20000 in
theorem gL_law_X11_foot : GoodIn wsL_law (wsV RL 82 RX11 yX11_foot wsX11_foot) := goodIn_app (goodIn_of _ (by decide +kernel)) ggL_law_X11_foot
set_option maxRecDepth 20000 in
theorem ggL_law_X10_height : GoodIn wsL_law wsX10_height := goodIn_r _ [712, 24, 465, 684, 685, 686, 2, 687, 448, 449, 450, 451, 452, 23, 453, 454, 380, 381, 382, 383, 384, 385, 386, 73, 455, 456, 457, 458, 391, 299, 300, 301, 75, 492, 493, 494, 495, 496, 460, 461, 462, 463, 464, 459, 688, 689, 690, 691, 692, 693, 296, 694, 695, 696, 697, 1175, 1176, 1177, 1178, 1179, 1180, 1181, 1182, 1183, 1184, 1185, 1186, 1230, 1231] (by decide +kernel) (by decide +kernel)
set_option maxRecDepth 20000 in
theorem gL_law_X10_height : GoodIn wsL_law (wsV RL 83 RX10 yX10_height wsX10_height) := goodIn_app (goodIn_of _ (by decide +kernel)) ggL_law_X10_height
set_option maxRecDepth 20000 in
theorem ggL_law_X11_height : GoodIn wsL_law wsX11_height := goodIn_r _ [716, 487, 702, 703, 704, 5, 705, 470, 471, 472, 473, 474, 475, 396, 397, 398, 399, 400, 401, 402, 403, 130, 404, 405, 406, 407, 325, 168, 169, 170, 476, 477, 478, 479, 408, 409, 410, 411, 364, 365, 366, 504, 505, 506, 507, 480, 481, 482, 483, 484, 485, 486, 706, 707, 708, 1187, 1188, 1189, 1190, 1191, 1192, 1193, 1194, 1195, 1196, 1197, 1198, 1199, 1200, 1201, 1202, 1203, 1204, 1205, 1206, 1207, 1208, 1209, 1210, 1211, 1212, 1213, 1214, 1215, 1216] (by decide +kernel) (by decide +kernel)
set_option maxRecDepth 20000 in
theorem gL_law_X11_height : GoodIn wsL_law (wsV RL 86 RX11 yX11_height wsX11_height) := goodIn_app (goodIn_of _ (by decide +kernel)) ggL_law_X11_height
set_option maxRecDepth 20000 in
theorem ggL_law_X10_round : GoodIn wsL_law wsX10_round := goodIn_r _ [720, 24, 449, 684, 685, 686, 2, 687, 448, 450, 451, 452, 23, 453, 454, 380, 381, 382, 383, 384, 385, 386, 73, 455, 456, 457, 458, 391, 299, 300, 301, 75, 492, 493, 494, 495, 496, 460, 461, 462, 463, 464, 465, 459, 688, 689, 690, 691, 692, 693, 296, 694, 695, 696, 697, 1175, 1176, 1177, 1178, 1179, 1180, 1181, 1182, 1183, 1184, 1185, 1186, 1230, 1231] (by decide +kernel) (by decide +kernel)
set_option maxRecDepth 20000 in
theorem gL_law_X10_round : GoodIn wsL_law (wsV RL 87 RX10 yX10_round wsX10_round) := goodIn_app (goodIn_of _ (by decide +kernel)) ggL_law_X10_round
set_option maxRecDepth 20000 in
theorem ggL_law_X11_round : GoodIn wsL_law wsX11_round := goodIn_r _ [724, 471, 702, 703, 704, 5, 705, 470, 472, 473, 474, 475, 396, 397, 398, 399, 400, 401, 402, 403, 130, 404, 405, 406, 407, 325, 168, 169, 170, 476, 477, 478, 479, 408, 409, 410, 411, 364, 365, 366, 504, 505, 506, 507, 480, 481, 482, 483, 484, 485, 486, 487, 706, 707, 708, 1187, 1188, 1189, 1190, 1191, 1192, 1193, 1194, 1195, 1196, 1197, 1198, 1199, 1200, 1201, 1202, 1203, 1204, 1205, 1206, 1207, 1208, 1209, 1210, 1211, 1212, 1213, 1214, 1215, 1216] (by decide +kernel) (by decide +kernel)
set_option maxRecDepth 20000 in
theorem gL_law_X11_round : GoodIn wsL_law (wsV RL 90 RX11 yX11_round wsX11_round) := goodIn_app (goodIn_of _ (by decide +kernel)) ggL_law_X11_round
set_option maxRecDepth 20000 in
theorem ggL_law_X10_side : GoodIn wsL_law wsX10_side := goodIn_r _ [728, 24, 512, 513, 514, 23, 515, 516, 451, 452, 453, 454, 380, 381, 382, 383, 384, 385, 386, 73, 517, 518, 519, 520, 521, 456, 457, 458, 391, 299, 300, 301, 75, 522, 523, 524, 525, 526, 493, 494, 495, 496, 460, 461, 462, 463, 2, 464, 465, 527, 528, 529, 530, 531, 532, 533, 534, 535, 729, 730, 731, 732, 733, 734, 735, 736, 1175, 1176, 1177, 1178, 1179, 1180, 1181, 1182, 1183, 1184, 1185, 1186, 1230, 1231] (by decide +kernel) (by decide +kernel)
set_option maxRecDepth 20000 in
theorem gL_law_X10_side : GoodIn wsL_law (wsV RL 91 RX10 yX10_side wsX10_side) := goodIn_app (goodIn_of _ (by decide +kernel)) ggL_law_X10_side
set_option maxRecDepth 20000 in
theorem ggL_law_X11_side : GoodIn wsL_law wsX11_side := goodIn_r _ [740, 540, 541, 542, 5, 543, 472, 473, 474, 475, 396, 397, 398, 399, 400, 401, 402, 403, 130, 404, 405, 406, 407, 325, 168, 169, 170, 741, 742, 743, 744, 544, 545, 546, 547, 476, 477, 478, 479, 408, 409, 410, 411, 364, 365, 366, 548, 549, 550, 551, 552, 504, 505, 506, 507, 480, 481, 482, 483, 484, 485, 486, 487, 553, 554, 555, 556, 745, 746, 747, 748, 676, 677, 678, 1187, 1188, 1189, 1190, 1191, 1192, 1193, 1194, 1195, 1196, 1197, 1198, 1199, 1200, 1201, 1202, 1203, 1204, 1205, 1206, 1207, 1208, 1209, 1210, 1211, 1212, 1213, 1214, 1215, 1216] (by decide +kernel) (by decide +kernel)
set_option maxRecDepth 20000 in
theorem gL_law_X11_side : GoodIn wsL_law (wsV RL 94 RX11 yX11_side wsX11_side) := goodIn_app (goodIn_of _ (by decide +kernel)) ggL_law_X11_side
set_option maxRecDepth 20000 in
theorem ggL_law_X10_within : GoodIn wsL_law wsX10_within := goodIn_r _ [752, 24, 512, 513, 514, 23, 515, 516, 451, 452, 453, 454, 380, 381, 382, 383, 384, 385, 386, 73, 517, 518, 519, 520, 521, 456, 457, 458, 391, 299, 300, 301, 75, 522, 523, 524, 525, 526, 493, 494, 495, 496, 460, 461, 462, 463, 2, 464, 465, 527, 528, 529, 530, 531, 532, 533, 534, 535, 459, 729, 730, 731, 732, 733, 734, 735, 736, 497, 498, 499, 1175, 1176, 1177, 1178, 1179, 1180, 1181, 1182, 1183, 1184, 1185, 1186, 1230, 1231] (by decide +kernel) (by decide +kernel)
set_option maxRecDepth 20000 in
theorem gL_law_X10_within : GoodIn wsL_law (wsV RL 95 RX10 yX10_within wsX10_within) := goodIn_app (goodIn_of _ (by decide +kernel)) ggL_law_X10_within
set_option maxRecDepth 20000 in
theorem ggL_law_X11_within : GoodIn wsL_law wsX11_within := goodIn_r _ [756, 540, 541, 542, 5, 543, 472, 473, 474, 475, 396, 397, 398, 399, 400, 401, 402, 403, 130, 404, 405, 406, 407, 325, 168, 169, 170, 741, 742, 743, 744, 544, 545, 546, 547, 476, 477, 478, 479, 408, 409, 410, 411, 364, 365, 366, 548, 549, 550, 551, 552, 504, 505, 506, 507, 480, 481, 482, 483, 484, 485, 486, 487, 553, 554, 555, 556, 745, 746, 747, 748, 676, 677, 678, 1187, 1188, 1189, 1190, 1191, 1192, 1193, 1194, 1195, 1196, 1197, 1198, 1199, 1200, 1201, 1202, 1203, 1204, 1205, 1206, 1207, 1208, 1209, 1210, 1211, 1212, 1213, 1214, 1215, 1216] (by decide +kernel) (by decide +kernel)
set_option maxRecDepth 20000 in
theorem gL_law_X11_within : GoodIn wsL_law (wsV RL 98 RX11 yX11_within wsX11_within) := goodIn_app (goodIn_of _ (by decide +kernel)) ggL_law_X11_within
set_option maxRecDepth 20000 in
theorem ggL_law_X10_sixth : GoodIn wsL_law wsX10_sixth := goodIn_r _ [760, 24, 448, 449, 44, 761, 762, 763, 512, 513, 514, 23, 515, 516, 451, 452, 453, 454, 380, 381, 382, 383, 384, 385, 386, 73, 455, 456, 457, 458, 391, 299, 300, 301, 75, 492, 493, 494, 495, 496, 460, 461, 462, 463, 2, 464, 465, 764, 765, 766, 43, 767, 768, 769, 770, 771, 772, 773, 533, 534, 535, 774, 775, 776, 777, 778, 779, 780, 781, 1175, 1176, 1177, 1178, 1179, 1180, 1181, 1182, 1183, 1184, 1185, 1186, 1247, 1248, 1249, 1230, 1231] (by decide +kernel) (by decide +kernel)
set_option maxRecDepth 20000 in
theorem gL_law_X10_sixth : GoodIn wsL_law (wsV RL 99 RX10 yX10_sixth wsX10_sixth) := goodIn_app (goodIn_of _ (by decide +kernel)) ggL_law_X10_sixth
set_option maxRecDepth 20000 in
theorem ggL_law_X11_sixth : GoodIn wsL_law wsX11_sixth := goodIn_r _ [785, 487, 470, 471, 552, 786, 540, 541, 542, 5, 543, 472, 473, 474, 475, 396, 397, 398, 399, 400, 401, 402, 403, 130, 404, 405, 406, 407, 325, 168, 169, 170, 476, 477, 478, 479, 408, 409, 410, 411, 364, 365, 366, 504, 505, 506, 507, 480, 481, 482, 483, 484, 485, 486, 787, 788, 789, 790, 791, 792, 793, 794, 795, 796, 797, 798, 1187, 1188, 1189, 1190, 1191, 1192, 1193, 1194, 1195, 1196, 1197, 1198, 1199, 1200, 1201, 1202, 1203, 1204, 1205, 1206, 1207, 1208, 1209, 1210, 1211, 1212, 1213, 1214, 1215, 1216] (by decide +kernel) (by decide +kernel)
set_option maxRecDepth 20000 in
theorem gL_law_X11_sixth : GoodIn wsL_law (wsV RL 103 RX11 yX11_sixth wsX11_sixth) := goodIn_app (goodIn_of _ (by decide +kernel)) ggL_law_X11_sixth
set_option maxRecDepth 20000 in
theorem ggL_law_X10_ends : GoodIn wsL_law wsX10_ends := goodIn_r _ [802, 24, 803, 804, 465, 436, 295, 296, 297, 437, 438, 439, 379, 380, 381, 23, 382, 383, 384, 385, 386, 73, 688, 299, 300, 301, 75, 805, 780, 2, 781, 1175, 1176, 1177, 1178, 1179, 1180, 1181, 1182, 1183, 1184, 1185, 1186, 1230, 1231] (by decide +kernel) (by decide +kernel)
set_option maxRecDepth 20000 in
theorem gL_law_X10_ends : GoodIn wsL_law (wsV RL 104 RX10 yX10_ends wsX10_ends) := goodIn_app (goodIn_of _ (by decide +kernel)) ggL_law_X10_ends
set_option maxRecDepth 20000 in
theorem ggL_law_X11_ends : GoodIn wsL_law wsX11_ends := goodIn_r _ [809, 810, 130, 487, 396, 397, 398, 5, 399, 400, 401, 402, 403, 404, 405, 406, 407, 325, 168, 169, 170, 408, 409, 410, 411, 364, 365, 366, 795, 796, 797, 798, 552, 1187, 1188, 1189, 1190, 1191, 1192, 1193, 1194, 1195, 1196, 1197, 1198, 1199, 1200, 1201, 1202, 1203, 1204, 1205, 1206, 1207, 1208, 1209, 1210, 1211, 1212, 1213, 1214, 1215, 1216] (by decide +kernel) (by decide +kernel)
set_option maxRecDepth 20000 in
theorem gL_law_X11_ends : GoodIn wsL_law (wsV RL 107 RX11 yX11_ends wsX11_ends) := goodIn_app (goodIn_of _ (by decide +kernel)) ggL_law_X11_ends
set_option maxRecDepth 20000 in
theorem ggL_law_X10_drawings : GoodIn wsL_law wsX10_drawings := goodIn_r _ [814, 24, 48, 815, 816, 817, 436, 295, 296, 297, 818, 384, 385, 23, 386, 73, 379, 380, 381, 382, 383, 688, 299, 300, 301, 75, 819, 820, 821, 47, 822, 113, 117, 823, 824, 825, 826, 827, 828, 829, 830, 831, 456, 457, 458, 391, 832, 460, 461, 462, 463, 2, 464, 465, 833, 834, 835, 836, 837, 627, 628, 434, 435, 437, 438, 439, 838, 839, 840, 841, 115, 842, 843, 844, 845, 765, 766, 43, 767, 768, 769, 770, 771, 772, 773, 533, 534, 535, 774, 846, 847, 848, 849, 116, 850, 851, 199, 200, 201, 852, 853, 854, 855, 856, 857, 858, 859, 860, 861, 862, 863, 864, 865, 866, 867, 868, 1175, 1176, 1177, 1178, 1179, 1180, 1181, 1182, 1183, 1184, 1185, 1186, 1250, 1251, 1252, 1253, 1254, 1255, 1256, 1257, 1230, 1231, 1247, 1248, 1249] (by decide +kernel) (by decide +kernel)
set_option maxRecDepth 20000 in
theorem gL_law_X10_drawings : GoodIn wsL_law (wsV RL 108 RX10 yX10_drawings wsX10_drawings) := goodIn_app (goodIn_of _ (by decide +kernel)) ggL_law_X10_drawings
set_option maxRecDepth 20000 in
theorem ggL_law_X11_drawings : GoodIn wsL_law wsX11_drawings := goodIn_r _ [872, 594, 873, 130, 874, 875, 876, 137, 396, 397, 398, 5, 399, 400, 401, 402, 403, 404, 405, 406, 407, 325, 168, 169, 170, 408, 409, 410, 411, 364, 365, 366, 877, 878, 879, 880, 136, 476, 477, 478, 479, 504, 505, 506, 507, 480, 481, 482, 483, 484, 485, 486, 487, 881, 882, 883, 884, 885, 886, 887, 888, 552, 787, 788, 789, 790, 791, 792, 793, 794, 676, 677, 678, 889, 890, 891, 892, 893, 894, 895, 896, 1187, 1188, 1189, 1190, 1191, 1192, 1193, 1194, 1195, 1196, 1197, 1198, 1199, 1200, 1201, 1202, 1203, 1204, 1205, 1206, 1207, 1208, 1209, 1210, 1211, 1212, 1213, 1214, 1215, 1216] (by decide +kernel) (by decide +kernel)
set_option maxRecDepth 20000 in
theorem gL_law_X11_drawings : GoodIn wsL_law (wsV RL 111 RX11 yX11_drawings wsX11_drawings) := goodIn_app (goodIn_of _ (by decide +kernel)) ggL_law_X11_drawings
set_option maxRecDepth 20000 in
theorem ggL_law_X10_spare : GoodIn wsL_law wsX10_spare := goodIn_r _ [900, 24, 48, 379, 380, 381, 23, 382, 383, 384, 385, 386, 73, 688, 299, 300, 301, 75, 819, 820, 821, 47, 822, 113, 117, 823, 824, 825, 826, 827, 828, 829, 830, 831, 456, 457, 458, 391, 832, 460, 461, 462, 463, 2, 464, 465, 833, 834, 835, 836, 837, 627, 628, 434, 435, 436, 295, 296, 297, 437, 438, 439, 838, 839, 840, 841, 115, 842, 843, 844, 845, 765, 766, 43, 767, 768, 769, 770, 771, 772, 773, 533, 534, 535, 774, 846, 847, 848, 849, 116, 850, 851, 199, 200, 201, 852, 853, 854, 855, 856, 857, 858, 859, 864, 860, 861, 862, 863, 433, 497, 498, 499, 1175, 1176, 1177, 1178, 1179, 1180, 1181, 1182, 1183, 1184, 1185, 1186, 1230, 1231, 1250, 1251, 1252, 1253, 1254, 1255, 1256, 1257, 1247, 1248, 1249] (by decide +kernel) (by decide +kernel)
set_option maxRecDepth 20000 in
theorem gL_law_X10_spare : GoodIn wsL_law (wsV RL 112 RX10 yX10_spare wsX10_spare) := goodIn_app (goodIn_of _ (by decide +kernel)) ggL_law_X10_spare
set_option maxRecDepth 20000 in
theorem ggL_law_X11_spare : GoodIn wsL_law wsX11_spare := goodIn_r _ [904, 130, 396, 397, 398, 5, 399, 400, 401, 402, 403, 404, 405, 406, 407, 325, 168, 169, 170, 408, 409, 410, 411, 364, 365, 366, 877, 878, 879, 880, 874, 876, 875, 136, 137, 476, 477, 478, 479, 504, 505, 506, 507, 480, 481, 482, 483, 484, 485, 486, 487, 881, 882, 883, 884, 885, 886, 887, 888, 552, 787, 788, 789, 790, 791, 792, 793, 794, 676, 677, 678, 889, 890, 891, 892, 893, 894, 895, 896, 1187, 1188, 1189, 1190, 1191, 1192, 1193, 1194, 1195, 1196, 1197, 1198, 1199, 1200, 1201, 1202, 1203, 1204, 1205, 1206, 1207, 1208, 1209, 1210, 1211, 1212, 1213, 1214, 1215, 1216] (by decide +kernel) (by decide +kernel)
set_option maxRecDepth 20000 in
theorem gL_law_X11_spare : GoodIn wsL_law (wsV RL 115 RX11 yX11_spare wsX11_spare) := goodIn_app (goodIn_of _ (by decide +kernel)) ggL_law_X11_spare
set_option maxRecDepth 20000 in
theorem ggL_law_X10_base : GoodIn wsL_law wsX10_base := goodIn_r _ [908, 24, 804, 48, 815, 688, 299, 300, 23, 301, 75, 819, 820, 821, 47, 822, 113, 117, 823, 824, 825, 826, 827, 828, 829, 830, 831, 456, 457, 458, 391, 832, 460, 461, 462, 463, 2, 464, 465, 833, 834, 835, 836, 837, 627, 628, 434, 435, 436, 295, 296, 297, 437, 438, 439, 838, 839, 840, 841, 115, 842, 843, 844, 845, 765, 766, 43, 767, 768, 769, 770, 771, 772, 773, 533, 534, 535, 774, 846, 847, 848, 849, 116, 850, 851, 199, 200, 201, 852, 853, 854, 855, 856, 857, 858, 859, 629, 621, 622, 623, 624, 625, 626, 860, 861, 862, 863, 433, 1175, 1176, 1177, 1178, 1179, 1180, 1181, 1182, 1183, 1184, 1185, 1186, 1230, 1231, 1250, 1251, 1252, 1253, 1254, 1255, 1256, 1257, 1247, 1248, 1249] (by decide +kernel) (by decide +kernel)
set_option maxRecDepth 20000 in
theorem gL_law_X10_base : GoodIn wsL_law (wsV RL 116 RX10 yX10_base wsX10_base) := goodIn_app (goodIn_of _ (by decide +kernel)) ggL_law_X10_base
set_option maxRecDepth 20000 in
theorem ggL_law_X11_base : GoodIn wsL_law wsX11_base := goodIn_r _ [912, 130, 874, 404, 405, 406, 5, 407, 325, 408, 409, 410, 411, 364, 365, 366, 877, 878, 879, 880, 876, 875, 136, 137, 476, 477, 478, 479, 504, 505, 506, 507, 480, 481, 482, 483, 484, 485, 486, 487, 881, 882, 883, 884, 885, 886, 887, 888, 552, 787, 788, 789, 790, 791, 792, 793, 794, 676, 677, 678, 889, 890, 891, 892, 913, 914, 915, 893, 894, 895, 896, 1187, 1188, 1189, 1190, 1191, 1192, 1193, 1194, 1195, 1196, 1197, 1198, 1199, 1200, 1201, 1202, 1203, 1204, 1205, 1206, 1207, 1208, 1209, 1210, 1211, 1212, 1213, 1214, 1215, 1216] (by decide +kernel) (by decide +kernel)
set_option maxRecDepth 20000 in
theorem gL_law_X11_base : GoodIn wsL_law (wsV RL 119 RX11 yX11_base wsX11_base) := goodIn_app (goodIn_of _ (by decide +kernel)) ggL_law_X11_base
set_option maxRecDepth 20000 in
theorem ggL_law_X10_tells : GoodIn wsL_law wsX10_tells := goodIn_r _ [919, 24, 804, 818, 384, 385, 23, 386, 73, 920, 627, 2, 628, 921, 922, 923, 924, 391, 299, 300, 301, 75, 925, 926, 927, 928, 497, 498, 499, 1175, 1176, 1177, 1178, 1179, 1180, 1181, 1182, 1183, 1184, 1185, 1186, 1230, 1231] (by decide +kernel) (by decide +kernel)
set_option maxRecDepth 20000 in
theorem gL_law_X10_tells : GoodIn wsL_law (wsV RL 120 RX10 yX10_tells wsX10_tells) := goodIn_app (goodIn_of _ (by decide +kernel)) ggL_law_X10_tells
set_option maxRecDepth 20000 in
theorem ggL_law_X11_tells : GoodIn wsL_law wsX11_tells := goodIn_r _ [932, 400, 401, 402, 5, 403, 130, 404, 405, 406, 407, 325, 168, 169, 170, 933, 934, 935, 936, 937, 938, 939, 940, 408, 409, 410, 411, 364, 365, 366, 1187, 1188, 1189, 1190, 1191, 1192, 1193, 1194, 1195, 1196, 1197, 1198, 1199, 1200, 1201, 1202, 1203, 1204, 1205, 1206, 1207, 1208, 1209, 1210, 1211, 1212, 1213, 1214, 1215, 1216] (by decide +kernel) (by decide +kernel)
set_option maxRecDepth 20000 in
theorem gL_law_X11_tells : GoodIn wsL_law (wsV RL 123 RX11 yX11_tells wsX11_tells) := goodIn_app (goodIn_of _ (by decide +kernel)) ggL_law_X11_tells
set_option maxRecDepth 20000 in
theorem ggL_law_X10_words : GoodIn wsL_law wsX10_words := goodIn_r _ [944, 24, 804, 818, 384, 385, 23, 386, 73, 629, 621, 622, 623, 624, 625, 626, 920, 627, 2, 628, 921, 922, 923, 924, 391, 299, 300, 301, 75, 925, 926, 927, 928, 1175, 1176, 1177, 1178, 1179, 1180, 1181, 1182, 1183, 1184, 1185, 1186, 1230, 1231] (by decide +kernel) (by decide +kernel)
set_option maxRecDepth 20000 in
theorem gL_law_X10_words : GoodIn wsL_law (wsV RL 124 RX10 yX10_words wsX10_words) := goodIn_app (goodIn_of _ (by decide +kernel)) ggL_law_X10_words
set_option maxRecDepth 20000 in
theorem ggL_law_X11_words : GoodIn wsL_law wsX11_words := goodIn_r _ [948, 130, 400, 401, 402, 5, 403, 404, 405, 406, 407, 325, 168, 169, 170, 937, 938, 939, 940, 408, 409, 410, 411, 364, 365, 366, 913, 914, 915, 1187, 1188, 1189, 1190, 1191, 1192, 1193, 1194, 1195, 1196, 1197, 1198, 1199, 1200, 1201, 1202, 1203, 1204, 1205, 1206, 1207, 1208, 1209, 1210, 1211, 1212, 1213, 1214, 1215, 1216] (by decide +kernel) (by decide +kernel)
set_option maxRecDepth 20000 in
theorem gL_law_X11_words : GoodIn wsL_law (wsV RL 127 RX11 yX11_words wsX11_words) := goodIn_app (goodIn_of _ (by decide +kernel)) ggL_law_X11_words
set_option maxRecDepth 20000 in
theorem ggL_law_X10_at : GoodIn wsL_law wsX10_at := goodIn_r _ [952, 24, 804, 379, 380, 381, 23, 382, 383, 384, 385, 386, 73, 416, 417, 2, 418, 688, 299, 300, 301, 75, 1175, 1176, 1177, 1178, 1179, 1180, 1181, 1182, 1183, 1184, 1185, 1186, 1230, 1231] (by decide +kernel) (by decide +kernel)
set_option maxRecDepth 20000 in
theorem gL_law_X10_at : GoodIn wsL_law (wsV RL 128 RX10 yX10_at wsX10_at) := goodIn_app (goodIn_of _ (by decide +kernel)) ggL_law_X10_at
set_option maxRecDepth 20000 in
theorem ggL_law_X11_at : GoodIn wsL_law wsX11_at := goodIn_r _ [956, 130, 957, 958, 959, 5, 960, 428, 396, 397, 398, 399, 400, 401, 402, 403, 404, 405, 406, 407, 325, 168, 169, 170, 408, 409, 410, 411, 364, 365, 366, 1187, 1188, 1189, 1190, 1191, 1192, 1193, 1194, 1195, 1196, 1197, 1198, 1199, 1200, 1201, 1202, 1203, 1204, 1205, 1206, 1207, 1208, 1209, 1210, 1211, 1212, 1213, 1214, 1215, 1216] (by decide +kernel) (by decide +kernel)
set_option maxRecDepth 20000 in
theorem gL_law_X11_at : GoodIn wsL_law (wsV RL 131 RX11 yX11_at wsX11_at) := goodIn_app (goodIn_of _ (by decide +kernel)) ggL_law_X11_at
set_option maxRecDepth 20000 in
theorem ggL_law_X10_spots : GoodIn wsL_law wsX10_spots := goodIn_r _ [964, 24, 379, 380, 381, 23, 382, 383, 384, 385, 386, 73, 416, 417, 2, 418, 688, 299, 300, 301, 75, 965, 463, 464, 465, 966, 734, 735, 736, 1175, 1176, 1177, 1178, 1179, 1180, 1181, 1182, 1183, 1184, 1185, 1186, 1230, 1231] (by decide +kernel) (by decide +kernel)
set_option maxRecDepth 20000 in
theorem gL_law_X10_spots : GoodIn wsL_law (wsV RL 132 RX10 yX10_spots wsX10_spots) := goodIn_app (goodIn_of _ (by decide +kernel)) ggL_law_X10_spots
set_option maxRecDepth 20000 in
theorem ggL_law_X11_spots : GoodIn wsL_law wsX11_spots := goodIn_r _ [970, 957, 958, 959, 5, 960, 428, 396, 397, 398, 399, 400, 401, 402, 403, 130, 404, 405, 406, 407, 325, 168, 169, 170, 408, 409, 410, 411, 364, 365, 366, 484, 485, 486, 487, 676, 677, 678, 1187, 1188, 1189, 1190, 1191, 1192, 1193, 1194, 1195, 1196, 1197, 1198, 1199, 1200, 1201, 1202, 1203, 1204, 1205, 1206, 1207, 1208, 1209, 1210, 1211, 1212, 1213, 1214, 1215, 1216] (by decide +kernel) (by decide +kernel)
set_option maxRecDepth 20000 in
theorem gL_law_X11_spots : GoodIn wsL_law (wsV RL 135 RX11 yX11_spots wsX11_spots) := goodIn_app (goodIn_of _ (by decide +kernel)) ggL_law_X11_spots
set_option maxRecDepth 20000 in
theorem ggL_law_X10_maps : GoodIn wsL_law wsX10_maps := goodIn_r _ [974, 24, 30, 179, 52, 975, 976, 818, 384, 385, 23, 386, 73, 977, 978, 2, 979, 980, 981, 982, 51, 983, 123, 984, 985, 986, 122, 987, 988, 989, 990, 991, 125, 124, 992, 311, 312, 313, 627, 628, 993, 994, 995, 996, 997, 299, 300, 301, 75, 998, 999, 1000, 1001, 1175, 1176, 1177, 1178, 1179, 1180, 1181, 1182, 1183, 1184, 1185, 1186, 1234, 1235, 1236, 1258, 1259, 1260, 1261, 1262, 1263, 1264, 1230, 1231] (by decide +kernel) (by decide +kernel)
set_option maxRecDepth 20000 in
theorem gL_law_X10_maps : GoodIn wsL_law (wsV RL 136 RX10 yX10_maps wsX10_maps) := goodIn_app (goodIn_of _ (by decide +kernel)) ggL_law_X10_maps
set_option maxRecDepth 20000 in
theorem ggL_law_X11_maps : GoodIn wsL_law wsX11_maps := goodIn_r _ [1005, 873, 130, 141, 139, 404, 405, 406, 5, 407, 325, 168, 169, 170, 1006, 1007, 1008, 1009, 138, 1010, 1011, 1012, 1013, 364, 365, 366, 1187, 1188, 1189, 1190, 1191, 1192, 1193, 1194, 1195, 1196, 1197, 1198, 1199, 1200, 1201, 1202, 1203, 1204, 1205, 1206, 1207, 1208, 1209, 1210, 1211, 1212, 1213, 1214, 1215, 1216] (by decide +kernel) (by decide +kernel)
set_option maxRecDepth 20000 in
theorem gL_law_X11_maps : GoodIn wsL_law (wsV RL 139 RX11 yX11_maps wsX11_maps) := goodIn_app (goodIn_of _ (by decide +kernel)) ggL_law_X11_maps
set_option maxRecDepth 20000 in
theorem ggL_law_X10_part : GoodIn wsL_law wsX10_part := goodIn_r _ [1017, 28, 178, 1018, 1019, 1020, 27, 1021, 81, 82, 1175, 1176, 1177, 1178, 1179, 1180, 1181, 1182, 1183, 1184, 1185, 1186, 1232, 1233] (by decide +kernel) (by decide +kernel)
set_option maxRecDepth 20000 in
theorem gL_law_X10_part : GoodIn wsL_law (wsV RL 140 RX10 yX10_part wsX10_part) := goodIn_app (goodIn_of _ (by decide +kernel)) ggL_law_X10_part
set_option maxRecDepth 20000 in
theorem ggL_law_X11_part : GoodIn wsL_law wsX11_part := goodIn_r _ [1025, 1026, 130, 168, 169, 5, 170, 1187, 1188, 1189, 1190, 1191, 1192, 1193, 1194, 1195, 1196, 1197, 1198, 1199, 1200, 1201, 1202, 1203, 1204, 1205, 1206, 1207, 1208, 1209, 1210, 1211, 1212, 1213, 1214, 1215, 1216] (by decide +kernel) (by decide +kernel)
set_option maxRecDepth 20000 in
theorem gL_law_X11_part : GoodIn wsL_law (wsV RL 143 RX11 yX11_part wsX11_part) := goodIn_app (goodIn_of _ (by decide +kernel)) ggL_law_X11_part
set_option maxRecDepth 20000 in
theorem ggL_law_X10_clear : GoodIn wsL_law wsX10_clear := goodIn_r _ [1030, 28, 178, 1175, 1176, 1177, 1178, 1179, 1180, 1181, 1182, 1183, 1184, 1185, 1186, 1232, 1233] (by decide +kernel) (by decide +kernel)
set_option maxRecDepth 20000 in
theorem gL_law_X10_clear : GoodIn wsL_law (wsV RL 144 RX10 yX10_clear wsX10_clear) := goodIn_app (goodIn_of _ (by decide +kernel)) ggL_law_X10_clear
set_option maxRecDepth 20000 in
theorem ggL_law_X11_clear : GoodIn wsL_law wsX11_clear := goodIn_r _ [1034, 130, 1187, 1188, 1189, 1190, 1191, 1192, 1193, 1194, 1195, 1196, 1197, 1198, 1199, 1200, 1201, 1202, 1203, 1204, 1205, 1206, 1207, 1208, 1209, 1210, 1211, 1212, 1213, 1214, 1215, 1216] (by decide +kernel) (by decide +kernel)
set_option maxRecDepth 20000 in
theorem gL_law_X11_clear : GoodIn wsL_law (wsV RL 147 RX11 yX11_clear wsX11_clear) := goodIn_app (goodIn_of _ (by decide +kernel)) ggL_law_X11_clear
set_option maxRecDepth 20000 in
theorem ggL_law_X10_road : GoodIn wsL_law wsX10_road := goodIn_r _ [1038, 28, 178, 1039, 1040, 1041, 27, 1042, 81, 82, 1043, 295, 296, 297, 1044, 1045, 1046, 1047, 1048, 1175, 1176, 1177, 1178, 1179, 1180, 1181, 1182, 1183, 1184, 1185, 1186, 1232, 1233] (by decide +kernel) (by decide +kernel)
set_option maxRecDepth 20000 in
theorem gL_law_X10_road : GoodIn wsL_law (wsV RL 148 RX10 yX10_road wsX10_road) := goodIn_app (goodIn_of _ (by decide +kernel)) ggL_law_X10_road
set_option maxRecDepth 20000 in
theorem ggL_law_X11_road : GoodIn wsL_law wsX11_road := goodIn_r _ [1052, 130, 168, 169, 5, 170, 1053, 1054, 1055, 1056, 1057, 1058, 1059, 1060, 1187, 1188, 1189, 1190, 1191, 1192, 1193, 1194, 1195, 1196, 1197, 1198, 1199, 1200, 1201, 1202, 1203, 1204, 1205, 1206, 1207, 1208, 1209, 1210, 1211, 1212, 1213, 1214, 1215, 1216] (by decide +kernel) (by decide +kernel)
set_option maxRecDepth 20000 in
theorem gL_law_X11_road : GoodIn wsL_law (wsV RL 151 RX11 yX11_road wsX11_road) := goodIn_app (goodIn_of _ (by decide +kernel)) ggL_law_X11_road
set_option maxRecDepth 20000 in
theorem ggL_law_X10_reaches : GoodIn wsL_law wsX10_reaches := goodIn_r _ [1064, 24, 28, 178, 379, 380, 381, 23, 382, 383, 384, 385, 386, 73, 688, 299, 300, 301, 75, 1039, 1040, 1041, 27, 1042, 81, 82, 1043, 295, 296, 297, 1044, 1045, 1046, 1047, 1048, 497, 498, 2, 499, 1175, 1176, 1177, 1178, 1179, 1180, 1181, 1182, 1183, 1184, 1185, 1186, 1232, 1233, 1230, 1231] (by decide +kernel) (by decide +kernel)
set_option maxRecDepth 20000 in
theorem gL_law_X10_reaches : GoodIn wsL_law (wsV RL 152 RX10 yX10_reaches wsX10_reaches) := goodIn_app (goodIn_of _ (by decide +kernel)) ggL_law_X10_reaches
set_option maxRecDepth 20000 in
theorem ggL_law_X11_reaches : GoodIn wsL_law wsX11_reaches := goodIn_r _ [1068, 130, 396, 397, 398, 5, 399, 400, 401, 402, 403, 404, 405, 406, 407, 325, 168, 169, 170, 408, 409, 410, 411, 364, 365, 366, 1053, 1054, 1055, 1056, 1057, 1058, 1059, 1060, 1187, 1188, 1189, 1190, 1191, 1192, 1193, 1194, 1195, 1196, 1197, 1198, 1199, 1200, 1201, 1202, 1203, 1204, 1205, 1206, 1207, 1208, 1209, 1210, 1211, 1212, 1213, 1214, 1215, 1216] (by decide +kernel) (by decide +kernel)
set_option maxRecDepth 20000 in
theorem gL_law_X11_reaches : GoodIn wsL_law (wsV RL 155 RX11 yX11_reaches wsX11_reaches) := goodIn_app (goodIn_of _ (by decide +kernel)) ggL_law_X11_reaches
set_option maxRecDepth 20000 in
theorem ggL_law_X10_keep : GoodIn wsL_law wsX10_keep := goodIn_r _ [1072, 30, 179, 975, 24, 1073, 28, 977, 978, 2, 979, 497, 498, 499, 306, 307, 308, 23, 309, 73, 75, 310, 311, 312, 313, 1074, 1075, 1076, 27, 1077, 81, 82, 1078, 1175, 1176, 1177, 1178, 1179, 1180, 1181, 1182, 1183, 1184, 1185, 1186, 1234, 1235, 1236, 1230, 1231, 1232, 1233] (by decide +kernel) (by decide +kernel)
set_option maxRecDepth 20000 in
theorem gL_law_X10_keep : GoodIn wsL_law (wsV RL 156 RX10 yX10_keep wsX10_keep) := goodIn_app (goodIn_of _ (by decide +kernel)) ggL_law_X10_keep
set_option maxRecDepth 20000 in
theorem ggL_law_X11_keep : GoodIn wsL_law wsX11_keep := goodIn_r _ [1082, 130, 141, 404, 405, 406, 5, 407, 325, 168, 169, 170, 1187, 1188, 1189, 1190, 1191, 1192, 1193, 1194, 1195, 1196, 1197, 1198, 1199, 1200, 1201, 1202, 1203, 1204, 1205, 1206, 1207, 1208, 1209, 1210, 1211, 1212, 1213, 1214, 1215, 1216] (by decide +kernel) (by decide +kernel)
set_option maxRecDepth 20000 in
theorem gL_law_X11_keep : GoodIn wsL_law (wsV RL 159 RX11 yX11_keep wsX11_keep) := goodIn_app (goodIn_of _ (by decide +kernel)) ggL_law_X11_keep
set_option maxRecDepth 20000 in
theorem ggL_law_X10_back : GoodIn wsL_law wsX10_back := goodIn_r _ [1086, 30, 179, 24, 975, 28, 1073, 977, 978, 2, 979, 306, 307, 308, 23, 309, 73, 75, 310, 311, 312, 313, 1074, 1075, 1076, 27, 1077, 81, 82, 1078, 1087, 1088, 1089, 1090, 391, 299, 300, 301, 498, 499, 1175, 1176, 1177, 1178, 1179, 1180, 1181, 1182, 1183, 1184, 1185, 1186, 1234, 1235, 1236, 1230, 1231, 1232, 1233] (by decide +kernel) (by decide +kernel)
set_option maxRecDepth 20000 in
theorem gL_law_X10_back : GoodIn wsL_law (wsV RL 160 RX10 yX10_back wsX10_back) := goodIn_app (goodIn_of _ (by decide +kernel)) ggL_law_X10_back
set_option maxRecDepth 20000 in
theorem ggL_law_X11_back : GoodIn wsL_law wsX11_back := goodIn_r _ [1094, 141, 130, 168, 169, 5, 170, 1095, 1096, 1097, 1098, 1187, 1188, 1189, 1190, 1191, 1192, 1193, 1194, 1195, 1196, 1197, 1198, 1199, 1200, 1201, 1202, 1203, 1204, 1205, 1206, 1207, 1208, 1209, 1210, 1211, 1212, 1213, 1214, 1215, 1216] (by decide +kernel) (by decide +kernel)
set_option maxRecDepth 20000 in
theorem gL_law_X11_back : GoodIn wsL_law (wsV RL 163 RX11 yX11_back wsX11_back) := goodIn_app (goodIn_of _ (by decide +kernel)) ggL_law_X11_back
set_option maxRecDepth 20000 in
theorem ggL_law_X10_sheet : GoodIn wsL_law wsX10_sheet := goodIn_r _ [1102, 34, 1103, 1104, 2, 1105, 1106, 1107, 1108, 1109, 1110, 1111, 36, 1112, 98, 99, 100, 1113, 199, 200, 201, 1175, 1176, 1177, 1178, 1179, 1180, 1181, 1182, 1183, 1184, 1185, 1186, 1237, 1238, 1239] (by decide +kernel) (by decide +kernel)
set_option maxRecDepth 20000 in
theorem gL_law_X10_sheet : GoodIn wsL_law (wsV RL 164 RX10 yX10_sheet wsX10_sheet) := goodIn_app (goodIn_of _ (by decide +kernel)) ggL_law_X10_sheet
set_option maxRecDepth 20000 in
theorem ggL_law_X11_sheet : GoodIn wsL_law wsX11_sheet := goodIn_r _ [1117, 594, 552, 142, 143, 144, 168, 169, 5, 170, 1187, 1188, 1189, 1190, 1191, 1192, 1193, 1194, 1195, 1196, 1197, 1198, 1199, 1200, 1201, 1202, 1203, 1204, 1205, 1206, 1207, 1208, 1209, 1210, 1211, 1212, 1213, 1214, 1215, 1216] (by decide +kernel) (by decide +kernel)
set_option maxRecDepth 20000 in
theorem gL_law_X11_sheet : GoodIn wsL_law (wsV RL 167 RX11 yX11_sheet wsX11_sheet) := goodIn_app (goodIn_of _ (by decide +kernel)) ggL_law_X11_sheet
set_option maxRecDepth 20000 in
theorem ggL_law_X10_lay : GoodIn wsL_law wsX10_lay := goodIn_r _ [1121, 34, 1103, 1104, 2, 1105, 1122, 1123, 1124, 36, 1125, 98, 99, 100, 1175, 1176, 1177, 1178, 1179, 1180, 1181, 1182, 1183, 1184, 1185, 1186, 1237, 1238, 1239] (by decide +kernel) (by decide +kernel)
set_option maxRecDepth 20000 in
theorem gL_law_X10_lay : GoodIn wsL_law (wsV RL 168 RX10 yX10_lay wsX10_lay) := goodIn_app (goodIn_of _ (by decide +kernel)) ggL_law_X10_lay
set_option maxRecDepth 20000 in
theorem ggL_law_X11_lay : GoodIn wsL_law wsX11_lay := goodIn_r _ [1129, 594, 142, 143, 144, 168, 169, 5, 170, 1187, 1188, 1189, 1190, 1191, 1192, 1193, 1194, 1195, 1196, 1197, 1198, 1199, 1200, 1201, 1202, 1203, 1204, 1205, 1206, 1207, 1208, 1209, 1210, 1211, 1212, 1213, 1214, 1215, 1216] (by decide +kernel) (by decide +kernel)
set_option maxRecDepth 20000 in
theorem gL_law_X11_lay : GoodIn wsL_law (wsV RL 171 RX11 yX11_lay wsX11_lay) := goodIn_app (goodIn_of _ (by decide +kernel)) ggL_law_X11_lay
set_option maxRecDepth 20000 in
theorem ggL_law_X10_read : GoodIn wsL_law wsX10_read := goodIn_r _ [1133, 34, 24, 54, 1103, 1104, 2, 1105, 1106, 1107, 1108, 1134, 1135, 1136, 36, 1137, 98, 1138, 1139, 1140, 1141, 99, 1142, 438, 296, 439, 1143, 1144, 1145, 1146, 1147, 1148, 1149, 1150, 100, 379, 380, 381, 23, 382, 383, 384, 385, 386, 73, 416, 417, 418, 419, 303, 304, 305, 75, 1175, 1176, 1177, 1178, 1179, 1180, 1181, 1182, 1183, 1184, 1185, 1186, 1237, 1238, 1239, 1230, 1231] (by decide +kernel) (by decide +kernel)
set_option maxRecDepth 20000 in
theorem gL_law_X10_read : GoodIn wsL_law (wsV RL 172 RX10 yX10_read wsX10_read) := goodIn_app (goodIn_of _ (by decide +kernel)) ggL_law_X10_read
set_option maxRecDepth 20000 in
theorem ggL_law_X11_read : GoodIn wsL_law wsX11_read := goodIn_r _ [1154, 594, 552, 1155, 145, 130, 142, 143, 144, 1156, 404, 405, 406, 5, 407, 325, 168, 169, 170, 424, 425, 426, 427, 428, 396, 397, 398, 399, 400, 401, 402, 403, 408, 409, 410, 411, 364, 365, 366, 1187, 1188, 1189, 1190, 1191, 1192, 1193, 1194, 1195, 1196, 1197, 1198, 1199, 1200, 1201, 1202, 1203, 1204, 1205, 1206, 1207, 1208, 1209, 1210, 1211, 1212, 1213, 1214, 1215, 1216] (by decide +kernel) (by decide +kernel)
set_option maxRecDepth 20000 in
theorem gL_law_X11_read : GoodIn wsL_law (wsV RL 175 RX11 yX11_read wsX11_read) := goodIn_app (goodIn_of _ (by decide +kernel)) ggL_law_X11_read
set_option maxRecDepth 20000 in
theorem ggL_law_X10_torn : GoodIn wsL_law wsX10_torn := goodIn_r _ [1160, 54, 1175, 1176, 1177, 1178, 1179, 1180, 1181, 1182, 1183, 1184, 1185, 1186] (by decide +kernel) (by decide +kernel)
set_option maxRecDepth 20000 in
theorem gL_law_X10_torn : GoodIn wsL_law (wsV RL 176 RX10 yX10_torn wsX10_torn) := goodIn_app (goodIn_of _ (by decide +kernel)) ggL_law_X10_torn
set_option maxRecDepth 20000 in
theorem ggL_law_X11_torn : GoodIn wsL_law wsX11_torn := goodIn_r _ [1164, 1156, 1187, 1188, 1189, 1190, 1191, 1192, 1193, 1194, 1195, 1196, 1197, 1198, 1199, 1200, 1201, 1202, 1203, 1204, 1205, 1206, 1207, 1208, 1209, 1210, 1211, 1212, 1213, 1214, 1215, 1216] (by decide +kernel) (by decide +kernel)
set_option maxRecDepth 20000 in
theorem gL_law_X11_torn : GoodIn wsL_law (wsV RL 179 RX11 yX11_torn wsX11_torn) := goodIn_app (goodIn_of _ (by decide +kernel)) ggL_law_X11_torn
set_option maxRecDepth 20000 in
theorem ggL_law_X10_count : GoodIn wsL_law wsX10_count := goodIn_r _ [1168, 24, 804, 28, 178, 30, 179, 16, 150, 34, 1169, 1170, 1087, 1088, 1089, 23, 1090, 73, 391, 299, 300, 301, 75, 498, 2, 499, 497, 1175, 1176, 1177, 1178, 1179, 1180, 1181, 1182, 1183, 1184, 1185, 1186, 1230, 1231, 1232, 1233, 1234, 1235, 1236, 1217, 1218, 1237, 1238, 1239] (by decide +kernel) (by decide +kernel)
set_option maxRecDepth 20000 in
theorem gL_law_X10_count : GoodIn wsL_law (wsV RL 180 RX10 yX10_count wsX10_count) := goodIn_app (goodIn_of _ (by decide +kernel)) ggL_law_X10_count
set_option maxRecDepth 20000 in
theorem ggL_law_X11_count : GoodIn wsL_law wsX11_count := goodIn_r _ [1174, 130, 141, 159, 142, 143, 404, 405, 406, 5, 407, 325, 1095, 1096, 1097, 1098, 1187, 1188, 1189, 1190, 1191, 1192, 1193, 1194, 1195, 1196, 1197, 1198, 1199, 1200, 1201, 1202, 1203, 1204, 1205, 1206, 1207, 1208, 1209, 1210, 1211, 1212, 1213, 1214, 1215, 1216] (by decide +kernel) (by decide +kernel)
set_option maxRecDepth 20000 in
theorem gL_law_X11_count : GoodIn wsL_law (wsV RL 183 RX11 yX11_count wsX11_count) := goodIn_app (goodIn_of _ (by decide +kernel)) ggL_law_X11_count
theorem dL_law_0 : decode cL_law 0 = .ok (.new 7, 3) := by decide +kernel
theorem dL_law_3 : decode cL_law 3 = .ok (.dup, 1) := by decide +kernel
theorem dL_law_4 : decode cL_law 4 = .ok (.invokespecial 9, 3) := by decide +kernel
theorem dL_law_7 : decode cL_law 7 = .ok (.astore_n 1, 1) := by decide +kernel
theorem dL_law_8 : decode cL_law 8 = .ok (.new 10, 3) := by decide +kernel
theorem dL_law_11 : decode cL_law 11 = .ok (.dup, 1) := by decide +kernel
theorem dL_law_12 : decode cL_law 12 = .ok (.invokespecial 12, 3) := by decide +kernel
theorem dL_law_15 : decode cL_law 15 = .ok (.astore_n 2, 1) := by decide +kernel
theorem dL_law_16 : decode cL_law 16 = .ok (.iconst 0, 1) := by decide +kernel
theorem dL_law_17 : decode cL_law 17 = .ok (.istore_n 3, 1) := by decide +kernel
theorem dL_law_18 : decode cL_law 18 = .ok (.iload_n 3, 1) := by decide +kernel
theorem dL_law_19 : decode cL_law 19 = .ok (.aload_n 0, 1) := by decide +kernel
theorem dL_law_20 : decode cL_law 20 = .ok (.arraylength, 1) := by decide +kernel
theorem dL_law_21 : decode cL_law 21 = .ok (.bipush 6, 2) := by decide +kernel
theorem dL_law_23 : decode cL_law 23 = .ok (.isub, 1) := by decide +kernel
theorem dL_law_24 : decode cL_law 24 = .ok (.if_icmp .gt 1655, 3) := by decide +kernel
theorem dL_law_27 : decode cL_law 27 = .ok (.aload_n 0, 1) := by decide +kernel
theorem dL_law_28 : decode cL_law 28 = .ok (.iload_n 3, 1) := by decide +kernel
theorem dL_law_29 : decode cL_law 29 = .ok (.iaload, 1) := by decide +kernel
theorem dL_law_30 : decode cL_law 30 = .ok (.bipush 63, 2) := by decide +kernel
theorem dL_law_32 : decode cL_law 32 = .ok (.iand, 1) := by decide +kernel
theorem dL_law_33 : decode cL_law 33 = .ok (.tableswitch 1640 0 39 #[175, 228, 251, 264, 277, 310, 353, 386, 430, 473, 526, 549, 572, 595, 638, 692, 746, 800, 853, 906, 970, 1013, 1056, 1109, 1122, 1155, 1188, 1241, 1294, 1327, 1350, 1363, 1386, 1419, 1442, 1465, 1508, 1551, 1604, 1617], 175) := by decide +kernel
theorem dL_law_208 : decode cL_law 208 = .ok (.aload_n 1, 1) := by decide +kernel
theorem dL_law_209 : decode cL_law 209 = .ok (.aload_n 0, 1) := by decide +kernel
theorem dL_law_210 : decode cL_law 210 = .ok (.iload_n 3, 1) := by decide +kernel
theorem dL_law_211 : decode cL_law 211 = .ok (.iconst 1, 1) := by decide +kernel
theorem dL_law_212 : decode cL_law 212 = .ok (.iadd, 1) := by decide +kernel
theorem dL_law_213 : decode cL_law 213 = .ok (.iaload, 1) := by decide +kernel
theorem dL_law_214 : decode cL_law 214 = .ok (.i2l, 1) := by decide +kernel
theorem dL_law_215 : decode cL_law 215 = .ok (.bipush 32, 2) := by decide +kernel
theorem dL_law_217 : decode cL_law 217 = .ok (.lshl, 1) := by decide +kernel
theorem dL_law_218 : decode cL_law 218 = .ok (.aload_n 0, 1) := by decide +kernel
theorem dL_law_219 : decode cL_law 219 = .ok (.iload_n 3, 1) := by decide +kernel
theorem dL_law_220 : decode cL_law 220 = .ok (.iconst 2, 1) := by decide +kernel
theorem dL_law_221 : decode cL_law 221 = .ok (.iadd, 1) := by decide +kernel
theorem dL_law_222 : decode cL_law 222 = .ok (.iaload, 1) := by decide +kernel
theorem dL_law_223 : decode cL_law 223 = .ok (.i2l, 1) := by decide +kernel
theorem dL_law_224 : decode cL_law 224 = .ok (.ldc2_w 13, 3) := by decide +kernel
theorem dL_law_227 : decode cL_law 227 = .ok (.land, 1) := by decide +kernel
theorem dL_law_228 : decode cL_law 228 = .ok (.lor, 1) := by decide +kernel
theorem dL_law_229 : decode cL_law 229 = .ok (.invokevirtual 15, 3) := by decide +kernel
theorem dL_law_232 : decode cL_law 232 = .ok (.aload_n 2, 1) := by decide +kernel
theorem dL_law_233 : decode cL_law 233 = .ok (.aload_n 0, 1) := by decide +kernel
theorem dL_law_234 : decode cL_law 234 = .ok (.iload_n 3, 1) := by decide +kernel
theorem dL_law_235 : decode cL_law 235 = .ok (.iconst 1, 1) := by decide +kernel
theorem dL_law_236 : decode cL_law 236 = .ok (.iadd, 1) := by decide +kernel
theorem dL_law_237 : decode cL_law 237 = .ok (.iaload, 1) := by decide +kernel
theorem dL_law_238 : decode cL_law 238 = .ok (.i2l, 1) := by decide +kernel
theorem dL_law_239 : decode cL_law 239 = .ok (.bipush 32, 2) := by decide +kernel
theorem dL_law_241 : decode cL_law 241 = .ok (.lshl, 1) := by decide +kernel
theorem dL_law_242 : decode cL_law 242 = .ok (.aload_n 0, 1) := by decide +kernel
theorem dL_law_243 : decode cL_law 243 = .ok (.iload_n 3, 1) := by decide +kernel
theorem dL_law_244 : decode cL_law 244 = .ok (.iconst 2, 1) := by decide +kernel
theorem dL_law_245 : decode cL_law 245 = .ok (.iadd, 1) := by decide +kernel
theorem dL_law_246 : decode cL_law 246 = .ok (.iaload, 1) := by decide +kernel
theorem dL_law_247 : decode cL_law 247 = .ok (.i2l, 1) := by decide +kernel
theorem dL_law_248 : decode cL_law 248 = .ok (.ldc2_w 13, 3) := by decide +kernel
theorem dL_law_251 : decode cL_law 251 = .ok (.land, 1) := by decide +kernel
theorem dL_law_252 : decode cL_law 252 = .ok (.lor, 1) := by decide +kernel
theorem dL_law_253 : decode cL_law 253 = .ok (.invokevirtual 19, 3) := by decide +kernel
theorem dL_law_256 : decode cL_law 256 = .ok (.if_icmp .eq 1417, 3) := by decide +kernel
theorem dL_law_259 : decode cL_law 259 = .ok (.iconst 0, 1) := by decide +kernel
theorem dL_law_260 : decode cL_law 260 = .ok (.ireturn, 1) := by decide +kernel
theorem dL_law_261 : decode cL_law 261 = .ok (.aload_n 1, 1) := by decide +kernel
theorem dL_law_262 : decode cL_law 262 = .ok (.aload_n 0, 1) := by decide +kernel
theorem dL_law_263 : decode cL_law 263 = .ok (.iload_n 3, 1) := by decide +kernel
theorem dL_law_264 : decode cL_law 264 = .ok (.iconst 1, 1) := by decide +kernel
theorem dL_law_265 : decode cL_law 265 = .ok (.iadd, 1) := by decide +kernel
theorem dL_law_266 : decode cL_law 266 = .ok (.iaload, 1) := by decide +kernel
theorem dL_law_267 : decode cL_law 267 = .ok (.invokevirtual 20, 3) := by decide +kernel
theorem dL_law_270 : decode cL_law 270 = .ok (.aload_n 2, 1) := by decide +kernel
theorem dL_law_271 : decode cL_law 271 = .ok (.aload_n 0, 1) := by decide +kernel
theorem dL_law_272 : decode cL_law 272 = .ok (.iload_n 3, 1) := by decide +kernel
theorem dL_law_273 : decode cL_law 273 = .ok (.iconst 1, 1) := by decide +kernel
theorem dL_law_274 : decode cL_law 274 = .ok (.iadd, 1) := by decide +kernel
theorem dL_law_275 : decode cL_law 275 = .ok (.iaload, 1) := by decide +kernel
theorem dL_law_276 : decode cL_law 276 = .ok (.invokevirtual 24, 3) := by decide +kernel
theorem dL_law_279 : decode cL_law 279 = .ok (.if_icmp .eq 1394, 3) := by decide +kernel
theorem dL_law_282 : decode cL_law 282 = .ok (.iconst 0, 1) := by decide +kernel
theorem dL_law_283 : decode cL_law 283 = .ok (.ireturn, 1) := by decide +kernel
theorem dL_law_284 : decode cL_law 284 = .ok (.aload_n 1, 1) := by decide +kernel
theorem dL_law_285 : decode cL_law 285 = .ok (.invokevirtual 25, 3) := by decide +kernel
theorem dL_law_288 : decode cL_law 288 = .ok (.aload_n 2, 1) := by decide +kernel
theorem dL_law_289 : decode cL_law 289 = .ok (.invokevirtual 29, 3) := by decide +kernel
theorem dL_law_292 : decode cL_law 292 = .ok (.if_icmp .eq 1381, 3) := by decide +kernel
theorem dL_law_295 : decode cL_law 295 = .ok (.iconst 0, 1) := by decide +kernel
theorem dL_law_296 : decode cL_law 296 = .ok (.ireturn, 1) := by decide +kernel
theorem dL_law_297 : decode cL_law 297 = .ok (.aload_n 1, 1) := by decide +kernel
theorem dL_law_298 : decode cL_law 298 = .ok (.invokevirtual 30, 3) := by decide +kernel
theorem dL_law_301 : decode cL_law 301 = .ok (.aload_n 2, 1) := by decide +kernel
theorem dL_law_302 : decode cL_law 302 = .ok (.invokevirtual 33, 3) := by decide +kernel
theorem dL_law_305 : decode cL_law 305 = .ok (.if_icmp .eq 1368, 3) := by decide +kernel
theorem dL_law_308 : decode cL_law 308 = .ok (.iconst 0, 1) := by decide +kernel
theorem dL_law_309 : decode cL_law 309 = .ok (.ireturn, 1) := by decide +kernel
theorem dL_law_310 : decode cL_law 310 = .ok (.aload_n 1, 1) := by decide +kernel
theorem dL_law_311 : decode cL_law 311 = .ok (.aload_n 0, 1) := by decide +kernel
theorem dL_law_312 : decode cL_law 312 = .ok (.iload_n 3, 1) := by decide +kernel
theorem dL_law_313 : decode cL_law 313 = .ok (.iconst 1, 1) := by decide +kernel
theorem dL_law_314 : decode cL_law 314 = .ok (.iadd, 1) := by decide +kernel
theorem dL_law_315 : decode cL_law 315 = .ok (.iaload, 1) := by decide +kernel
theorem dL_law_316 : decode cL_law 316 = .ok (.aload_n 0, 1) := by decide +kernel
theorem dL_law_317 : decode cL_law 317 = .ok (.iload_n 3, 1) := by decide +kernel
theorem dL_law_318 : decode cL_law 318 = .ok (.iconst 2, 1) := by decide +kernel
theorem dL_law_319 : decode cL_law 319 = .ok (.iadd, 1) := by decide +kernel
theorem dL_law_320 : decode cL_law 320 = .ok (.iaload, 1) := by decide +kernel
theorem dL_law_321 : decode cL_law 321 = .ok (.invokevirtual 34, 3) := by decide +kernel
theorem dL_law_324 : decode cL_law 324 = .ok (.aload_n 2, 1) := by decide +kernel
theorem dL_law_325 : decode cL_law 325 = .ok (.aload_n 0, 1) := by decide +kernel
theorem dL_law_326 : decode cL_law 326 = .ok (.iload_n 3, 1) := by decide +kernel
theorem dL_law_327 : decode cL_law 327 = .ok (.iconst 1, 1) := by decide +kernel
theorem dL_law_328 : decode cL_law 328 = .ok (.iadd, 1) := by decide +kernel
theorem dL_law_329 : decode cL_law 329 = .ok (.iaload, 1) := by decide +kernel
theorem dL_law_330 : decode cL_law 330 = .ok (.aload_n 0, 1) := by decide +kernel
theorem dL_law_331 : decode cL_law 331 = .ok (.iload_n 3, 1) := by decide +kernel
theorem dL_law_332 : decode cL_law 332 = .ok (.iconst 2, 1) := by decide +kernel
theorem dL_law_333 : decode cL_law 333 = .ok (.iadd, 1) := by decide +kernel
theorem dL_law_334 : decode cL_law 334 = .ok (.iaload, 1) := by decide +kernel
theorem dL_law_335 : decode cL_law 335 = .ok (.invokevirtual 38, 3) := by decide +kernel
theorem dL_law_338 : decode cL_law 338 = .ok (.if_icmp .eq 1335, 3) := by decide +kernel
theorem dL_law_341 : decode cL_law 341 = .ok (.iconst 0, 1) := by decide +kernel
theorem dL_law_342 : decode cL_law 342 = .ok (.ireturn, 1) := by decide +kernel
theorem dL_law_343 : decode cL_law 343 = .ok (.aload_n 1, 1) := by decide +kernel
theorem dL_law_344 : decode cL_law 344 = .ok (.aload_n 0, 1) := by decide +kernel
theorem dL_law_345 : decode cL_law 345 = .ok (.iload_n 3, 1) := by decide +kernel
theorem dL_law_346 : decode cL_law 346 = .ok (.iconst 1, 1) := by decide +kernel
theorem dL_law_347 : decode cL_law 347 = .ok (.iadd, 1) := by decide +kernel
theorem dL_law_348 : decode cL_law 348 = .ok (.iaload, 1) := by decide +kernel
theorem dL_law_349 : decode cL_law 349 = .ok (.aload_n 0, 1) := by decide +kernel
theorem dL_law_350 : decode cL_law 350 = .ok (.iload_n 3, 1) := by decide +kernel
theorem dL_law_351 : decode cL_law 351 = .ok (.iconst 2, 1) := by decide +kernel
theorem dL_law_352 : decode cL_law 352 = .ok (.iadd, 1) := by decide +kernel
theorem dL_law_353 : decode cL_law 353 = .ok (.iaload, 1) := by decide +kernel
theorem dL_law_354 : decode cL_law 354 = .ok (.aload_n 0, 1) := by decide +kernel
theorem dL_law_355 : decode cL_law 355 = .ok (.iload_n 3, 1) := by decide +kernel
theorem dL_law_356 : decode cL_law 356 = .ok (.iconst 3, 1) := by decide +kernel
theorem dL_law_357 : decode cL_law 357 = .ok (.iadd, 1) := by decide +kernel
theorem dL_law_358 : decode cL_law 358 = .ok (.iaload, 1) := by decide +kernel
