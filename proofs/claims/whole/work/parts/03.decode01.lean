theorem dX4_readToken_175 : decode cX4_readToken 175 = .ok (.getfield 42, 3) := by decide +kernel
theorem dX4_readToken_178 : decode cX4_readToken 178 = .ok (.invokevirtual 109, 3) := by decide +kernel
theorem dX4_readToken_181 : decode cX4_readToken 181 = .ok (.iadd, 1) := by decide +kernel
theorem dX4_readToken_182 : decode cX4_readToken 182 = .ok (.bipush 48, 2) := by decide +kernel
theorem dX4_readToken_184 : decode cX4_readToken 184 = .ok (.isub, 1) := by decide +kernel
theorem dX4_readToken_185 : decode cX4_readToken 185 = .ok (.putfield 89, 3) := by decide +kernel
theorem dX4_readToken_188 : decode cX4_readToken 188 = .ok (.aload_n 0, 1) := by decide +kernel
theorem dX4_readToken_189 : decode cX4_readToken 189 = .ok (.dup, 1) := by decide +kernel
theorem dX4_readToken_190 : decode cX4_readToken 190 = .ok (.getfield 42, 3) := by decide +kernel
theorem dX4_readToken_193 : decode cX4_readToken 193 = .ok (.iconst 1, 1) := by decide +kernel
theorem dX4_readToken_194 : decode cX4_readToken 194 = .ok (.iadd, 1) := by decide +kernel
theorem dX4_readToken_195 : decode cX4_readToken 195 = .ok (.putfield 42, 3) := by decide +kernel
theorem dX4_readToken_198 : decode cX4_readToken 198 = .ok (.goto (-96), 3) := by decide +kernel
theorem dX4_readToken_201 : decode cX4_readToken 201 = .ok (.iconst 1, 1) := by decide +kernel
theorem dX4_readToken_202 : decode cX4_readToken 202 = .ok (.ireturn, 1) := by decide +kernel
theorem dX4_kindAt_0 : decode cX4_kindAt 0 = .ok (.iload_n 1, 1) := by decide +kernel
theorem dX4_kindAt_1 : decode cX4_kindAt 1 = .ok (.ifCond .lt 21, 3) := by decide +kernel
theorem dX4_kindAt_4 : decode cX4_kindAt 4 = .ok (.iload_n 1, 1) := by decide +kernel
theorem dX4_kindAt_5 : decode cX4_kindAt 5 = .ok (.aload_n 0, 1) := by decide +kernel
theorem dX4_kindAt_6 : decode cX4_kindAt 6 = .ok (.getfield 9, 3) := by decide +kernel
theorem dX4_kindAt_9 : decode cX4_kindAt 9 = .ok (.getfield 58, 3) := by decide +kernel
theorem dX4_kindAt_12 : decode cX4_kindAt 12 = .ok (.if_icmp .ge 10, 3) := by decide +kernel
theorem dX4_kindAt_15 : decode cX4_kindAt 15 = .ok (.iload_n 1, 1) := by decide +kernel
theorem dX4_kindAt_16 : decode cX4_kindAt 16 = .ok (.sipush 320, 3) := by decide +kernel
theorem dX4_kindAt_19 : decode cX4_kindAt 19 = .ok (.if_icmp .lt 5, 3) := by decide +kernel
theorem dX4_kindAt_22 : decode cX4_kindAt 22 = .ok (.iconst 0, 1) := by decide +kernel
theorem dX4_kindAt_23 : decode cX4_kindAt 23 = .ok (.ireturn, 1) := by decide +kernel
theorem dX4_kindAt_24 : decode cX4_kindAt 24 = .ok (.aload_n 0, 1) := by decide +kernel
theorem dX4_kindAt_25 : decode cX4_kindAt 25 = .ok (.getfield 9, 3) := by decide +kernel
theorem dX4_kindAt_28 : decode cX4_kindAt 28 = .ok (.getfield 112, 3) := by decide +kernel
theorem dX4_kindAt_31 : decode cX4_kindAt 31 = .ok (.iload_n 1, 1) := by decide +kernel
theorem dX4_kindAt_32 : decode cX4_kindAt 32 = .ok (.baload, 1) := by decide +kernel
theorem dX4_kindAt_33 : decode cX4_kindAt 33 = .ok (.istore_n 2, 1) := by decide +kernel
theorem dX4_kindAt_34 : decode cX4_kindAt 34 = .ok (.iload_n 2, 1) := by decide +kernel
theorem dX4_kindAt_35 : decode cX4_kindAt 35 = .ok (.bipush 97, 2) := by decide +kernel
theorem dX4_kindAt_37 : decode cX4_kindAt 37 = .ok (.if_icmp .lt 11, 3) := by decide +kernel
theorem dX4_kindAt_40 : decode cX4_kindAt 40 = .ok (.iload_n 2, 1) := by decide +kernel
theorem dX4_kindAt_41 : decode cX4_kindAt 41 = .ok (.bipush 122, 2) := by decide +kernel
theorem dX4_kindAt_43 : decode cX4_kindAt 43 = .ok (.if_icmp .gt 5, 3) := by decide +kernel
theorem dX4_kindAt_46 : decode cX4_kindAt 46 = .ok (.iconst 2, 1) := by decide +kernel
theorem dX4_kindAt_47 : decode cX4_kindAt 47 = .ok (.ireturn, 1) := by decide +kernel
theorem dX4_kindAt_48 : decode cX4_kindAt 48 = .ok (.iload_n 2, 1) := by decide +kernel
theorem dX4_kindAt_49 : decode cX4_kindAt 49 = .ok (.bipush 48, 2) := by decide +kernel
theorem dX4_kindAt_51 : decode cX4_kindAt 51 = .ok (.if_icmp .lt 11, 3) := by decide +kernel
theorem dX4_kindAt_54 : decode cX4_kindAt 54 = .ok (.iload_n 2, 1) := by decide +kernel
theorem dX4_kindAt_55 : decode cX4_kindAt 55 = .ok (.bipush 57, 2) := by decide +kernel
theorem dX4_kindAt_57 : decode cX4_kindAt 57 = .ok (.if_icmp .gt 5, 3) := by decide +kernel
theorem dX4_kindAt_60 : decode cX4_kindAt 60 = .ok (.iconst 3, 1) := by decide +kernel
theorem dX4_kindAt_61 : decode cX4_kindAt 61 = .ok (.ireturn, 1) := by decide +kernel
theorem dX4_kindAt_62 : decode cX4_kindAt 62 = .ok (.iload_n 2, 1) := by decide +kernel
theorem dX4_kindAt_63 : decode cX4_kindAt 63 = .ok (.bipush 32, 2) := by decide +kernel
theorem dX4_kindAt_65 : decode cX4_kindAt 65 = .ok (.if_icmp .ne 5, 3) := by decide +kernel
theorem dX4_kindAt_68 : decode cX4_kindAt 68 = .ok (.iconst 1, 1) := by decide +kernel
theorem dX4_kindAt_69 : decode cX4_kindAt 69 = .ok (.ireturn, 1) := by decide +kernel
theorem dX4_kindAt_70 : decode cX4_kindAt 70 = .ok (.iload_n 2, 1) := by decide +kernel
theorem dX4_kindAt_71 : decode cX4_kindAt 71 = .ok (.bipush 59, 2) := by decide +kernel
theorem dX4_kindAt_73 : decode cX4_kindAt 73 = .ok (.if_icmp .ne 7, 3) := by decide +kernel
theorem dX4_kindAt_76 : decode cX4_kindAt 76 = .ok (.iconst 4, 1) := by decide +kernel
theorem dX4_kindAt_77 : decode cX4_kindAt 77 = .ok (.goto 4, 3) := by decide +kernel
theorem dX4_kindAt_80 : decode cX4_kindAt 80 = .ok (.iconst 5, 1) := by decide +kernel
theorem dX4_kindAt_81 : decode cX4_kindAt 81 = .ok (.ireturn, 1) := by decide +kernel
set_option maxRecDepth 20000 in
theorem ggX4_isName_J0_length_8abf5 : GoodIn wsX4_isName wsJ0_length_8abf5 := goodIn_r _ [9, 10, 11, 12, 13, 8, 14, 15, 16] (by decide +kernel) (by decide +kernel)
set_option maxRecDepth 20000 in
theorem gX4_isName_J0_length_8abf5 : GoodIn wsX4_isName (wsV RX4 116 RJ0 yJ0_length_8abf5 wsJ0_length_8abf5) := goodIn_app (goodIn_of _ (by decide +kernel)) ggX4_isName_J0_length_8abf5
set_option maxRecDepth 20000 in
theorem ggX4_isName_X9_byteAt : GoodIn wsX4_isName wsX9_byteAt := goodIn_r _ [21, 22, 23, 72, 73] (by decide +kernel) (by decide +kernel)
set_option maxRecDepth 20000 in
theorem gX4_isName_X9_byteAt : GoodIn wsX4_isName (wsV RX4 109 RX9 yX9_byteAt wsX9_byteAt) := goodIn_app (goodIn_of _ (by decide +kernel)) ggX4_isName_X9_byteAt
set_option maxRecDepth 20000 in
theorem ggX4_isName_J0_charAt_5068e : GoodIn wsX4_isName wsJ0_charAt_5068e := goodIn_r _ [27, 10, 28, 29, 30, 8, 31, 15, 16, 32, 33, 34, 35, 36, 37, 38, 39, 40, 41, 42, 43, 44, 45, 46, 47, 48, 49, 50, 51, 52, 53, 54, 55, 56, 57, 58, 59, 60] (by decide +kernel) (by decide +kernel)
set_option maxRecDepth 20000 in
theorem gX4_isName_J0_charAt_5068e : GoodIn wsX4_isName (wsV RX4 121 RJ0 yJ0_charAt_5068e wsJ0_charAt_5068e) := goodIn_app (goodIn_of _ (by decide +kernel)) ggX4_isName_J0_charAt_5068e
theorem dX4_isName_0 : decode cX4_isName 0 = .ok (.aload_n 0, 1) := by decide +kernel
theorem dX4_isName_1 : decode cX4_isName 1 = .ok (.getfield 49, 3) := by decide +kernel
theorem dX4_isName_4 : decode cX4_isName 4 = .ok (.iconst 2, 1) := by decide +kernel
theorem dX4_isName_5 : decode cX4_isName 5 = .ok (.if_icmp .ne 19, 3) := by decide +kernel
theorem dX4_isName_8 : decode cX4_isName 8 = .ok (.aload_n 0, 1) := by decide +kernel
theorem dX4_isName_9 : decode cX4_isName 9 = .ok (.getfield 42, 3) := by decide +kernel
theorem dX4_isName_12 : decode cX4_isName 12 = .ok (.aload_n 0, 1) := by decide +kernel
theorem dX4_isName_13 : decode cX4_isName 13 = .ok (.getfield 83, 3) := by decide +kernel
theorem dX4_isName_16 : decode cX4_isName 16 = .ok (.isub, 1) := by decide +kernel
theorem dX4_isName_17 : decode cX4_isName 17 = .ok (.aload_n 1, 1) := by decide +kernel
theorem dX4_isName_18 : decode cX4_isName 18 = .ok (.invokevirtual 116, 3) := by decide +kernel
theorem dX4_isName_21 : decode cX4_isName 21 = .ok (.if_icmp .eq 5, 3) := by decide +kernel
theorem dX4_isName_24 : decode cX4_isName 24 = .ok (.iconst 0, 1) := by decide +kernel
theorem dX4_isName_25 : decode cX4_isName 25 = .ok (.ireturn, 1) := by decide +kernel
theorem dX4_isName_26 : decode cX4_isName 26 = .ok (.iconst 0, 1) := by decide +kernel
theorem dX4_isName_27 : decode cX4_isName 27 = .ok (.istore_n 2, 1) := by decide +kernel
theorem dX4_isName_28 : decode cX4_isName 28 = .ok (.iload_n 2, 1) := by decide +kernel
theorem dX4_isName_29 : decode cX4_isName 29 = .ok (.aload_n 1, 1) := by decide +kernel
theorem dX4_isName_30 : decode cX4_isName 30 = .ok (.invokevirtual 116, 3) := by decide +kernel
theorem dX4_isName_33 : decode cX4_isName 33 = .ok (.if_icmp .ge 32, 3) := by decide +kernel
theorem dX4_isName_36 : decode cX4_isName 36 = .ok (.aload_n 0, 1) := by decide +kernel
theorem dX4_isName_37 : decode cX4_isName 37 = .ok (.getfield 9, 3) := by decide +kernel
theorem dX4_isName_40 : decode cX4_isName 40 = .ok (.aload_n 0, 1) := by decide +kernel
theorem dX4_isName_41 : decode cX4_isName 41 = .ok (.getfield 83, 3) := by decide +kernel
theorem dX4_isName_44 : decode cX4_isName 44 = .ok (.iload_n 2, 1) := by decide +kernel
theorem dX4_isName_45 : decode cX4_isName 45 = .ok (.iadd, 1) := by decide +kernel
theorem dX4_isName_46 : decode cX4_isName 46 = .ok (.invokevirtual 109, 3) := by decide +kernel
theorem dX4_isName_49 : decode cX4_isName 49 = .ok (.aload_n 1, 1) := by decide +kernel
theorem dX4_isName_50 : decode cX4_isName 50 = .ok (.iload_n 2, 1) := by decide +kernel
theorem dX4_isName_51 : decode cX4_isName 51 = .ok (.invokevirtual 121, 3) := by decide +kernel
theorem dX4_isName_54 : decode cX4_isName 54 = .ok (.if_icmp .eq 5, 3) := by decide +kernel
theorem dX4_isName_57 : decode cX4_isName 57 = .ok (.iconst 0, 1) := by decide +kernel
theorem dX4_isName_58 : decode cX4_isName 58 = .ok (.ireturn, 1) := by decide +kernel
theorem dX4_isName_59 : decode cX4_isName 59 = .ok (.iinc 2 1, 3) := by decide +kernel
theorem dX4_isName_62 : decode cX4_isName 62 = .ok (.goto (-34), 3) := by decide +kernel
theorem dX4_isName_65 : decode cX4_isName 65 = .ok (.iconst 1, 1) := by decide +kernel
theorem dX4_isName_66 : decode cX4_isName 66 = .ok (.ireturn, 1) := by decide +kernel
theorem dX4_refuse_0 : decode cX4_refuse 0 = .ok (.aload_n 0, 1) := by decide +kernel
theorem dX4_refuse_1 : decode cX4_refuse 1 = .ok (.iload_n 1, 1) := by decide +kernel
theorem dX4_refuse_2 : decode cX4_refuse 2 = .ok (.putfield 29, 3) := by decide +kernel
theorem dX4_refuse_5 : decode cX4_refuse 5 = .ok (.aload_n 0, 1) := by decide +kernel
theorem dX4_refuse_6 : decode cX4_refuse 6 = .ok (.iload_n 2, 1) := by decide +kernel
theorem dX4_refuse_7 : decode cX4_refuse 7 = .ok (.putfield 32, 3) := by decide +kernel
theorem dX4_refuse_10 : decode cX4_refuse 10 = .ok (.iconst 0, 1) := by decide +kernel
theorem dX4_refuse_11 : decode cX4_refuse 11 = .ok (.ireturn, 1) := by decide +kernel
theorem dX5_init_0 : decode cX5_init 0 = .ok (.aload_n 0, 1) := by decide +kernel
theorem dX5_init_1 : decode cX5_init 1 = .ok (.invokespecial 3, 3) := by decide +kernel
theorem dX5_init_4 : decode cX5_init 4 = .ok (.aload_n 0, 1) := by decide +kernel
theorem dX5_init_5 : decode cX5_init 5 = .ok (.iconst 0, 1) := by decide +kernel
theorem dX5_init_6 : decode cX5_init 6 = .ok (.putfield 9, 3) := by decide +kernel
theorem dX5_init_9 : decode cX5_init 9 = .ok (.aload_n 0, 1) := by decide +kernel
theorem dX5_init_10 : decode cX5_init 10 = .ok (.bipush 8, 2) := by decide +kernel
theorem dX5_init_12 : decode cX5_init 12 = .ok (.newarray .int, 2) := by decide +kernel
theorem dX5_init_14 : decode cX5_init 14 = .ok (.putfield 15, 3) := by decide +kernel
theorem dX5_init_17 : decode cX5_init 17 = .ok (.return_, 1) := by decide +kernel
theorem dX5_copyFrom_0 : decode cX5_copyFrom 0 = .ok (.aload_n 0, 1) := by decide +kernel
theorem dX5_copyFrom_1 : decode cX5_copyFrom 1 = .ok (.aload_n 1, 1) := by decide +kernel
theorem dX5_copyFrom_2 : decode cX5_copyFrom 2 = .ok (.getfield 9, 3) := by decide +kernel
theorem dX5_copyFrom_5 : decode cX5_copyFrom 5 = .ok (.putfield 9, 3) := by decide +kernel
theorem dX5_copyFrom_8 : decode cX5_copyFrom 8 = .ok (.aload_n 1, 1) := by decide +kernel
theorem dX5_copyFrom_9 : decode cX5_copyFrom 9 = .ok (.getfield 15, 3) := by decide +kernel
theorem dX5_copyFrom_12 : decode cX5_copyFrom 12 = .ok (.iconst 0, 1) := by decide +kernel
theorem dX5_copyFrom_13 : decode cX5_copyFrom 13 = .ok (.aload_n 0, 1) := by decide +kernel
theorem dX5_copyFrom_14 : decode cX5_copyFrom 14 = .ok (.getfield 15, 3) := by decide +kernel
theorem dX5_copyFrom_17 : decode cX5_copyFrom 17 = .ok (.iconst 0, 1) := by decide +kernel
theorem dX5_copyFrom_18 : decode cX5_copyFrom 18 = .ok (.bipush 8, 2) := by decide +kernel
theorem dX5_copyFrom_20 : decode cX5_copyFrom 20 = .ok (.invokestatic 19, 3) := by decide +kernel
theorem dX5_copyFrom_23 : decode cX5_copyFrom 23 = .ok (.return_, 1) := by decide +kernel
theorem dX5_add_0 : decode cX5_add 0 = .ok (.aload_n 0, 1) := by decide +kernel
theorem dX5_add_1 : decode cX5_add 1 = .ok (.getfield 9, 3) := by decide +kernel
theorem dX5_add_4 : decode cX5_add 4 = .ok (.ifCond .lt 12, 3) := by decide +kernel
theorem dX5_add_7 : decode cX5_add 7 = .ok (.aload_n 0, 1) := by decide +kernel
theorem dX5_add_8 : decode cX5_add 8 = .ok (.getfield 9, 3) := by decide +kernel
theorem dX5_add_11 : decode cX5_add 11 = .ok (.bipush 8, 2) := by decide +kernel
theorem dX5_add_13 : decode cX5_add 13 = .ok (.if_icmp .lt 5, 3) := by decide +kernel
theorem dX5_add_16 : decode cX5_add 16 = .ok (.iconst 0, 1) := by decide +kernel
theorem dX5_add_17 : decode cX5_add 17 = .ok (.ireturn, 1) := by decide +kernel
theorem dX5_add_18 : decode cX5_add 18 = .ok (.aload_n 0, 1) := by decide +kernel
theorem dX5_add_19 : decode cX5_add 19 = .ok (.getfield 15, 3) := by decide +kernel
theorem dX5_add_22 : decode cX5_add 22 = .ok (.aload_n 0, 1) := by decide +kernel
theorem dX5_add_23 : decode cX5_add 23 = .ok (.getfield 9, 3) := by decide +kernel
theorem dX5_add_26 : decode cX5_add 26 = .ok (.iload_n 1, 1) := by decide +kernel
theorem dX5_add_27 : decode cX5_add 27 = .ok (.iastore, 1) := by decide +kernel
theorem dX5_add_28 : decode cX5_add 28 = .ok (.aload_n 0, 1) := by decide +kernel
theorem dX5_add_29 : decode cX5_add 29 = .ok (.dup, 1) := by decide +kernel
theorem dX5_add_30 : decode cX5_add 30 = .ok (.getfield 9, 3) := by decide +kernel
theorem dX5_add_33 : decode cX5_add 33 = .ok (.iconst 1, 1) := by decide +kernel
theorem dX5_add_34 : decode cX5_add 34 = .ok (.iadd, 1) := by decide +kernel
theorem dX5_add_35 : decode cX5_add 35 = .ok (.putfield 9, 3) := by decide +kernel
theorem dX5_add_38 : decode cX5_add 38 = .ok (.iconst 1, 1) := by decide +kernel
theorem dX5_add_39 : decode cX5_add 39 = .ok (.ireturn, 1) := by decide +kernel
theorem dX5_farthest_0 : decode cX5_farthest 0 = .ok (.iconst 0, 1) := by decide +kernel
theorem dX5_farthest_1 : decode cX5_farthest 1 = .ok (.istore_n 1, 1) := by decide +kernel
theorem dX5_farthest_2 : decode cX5_farthest 2 = .ok (.iconst 0, 1) := by decide +kernel
theorem dX5_farthest_3 : decode cX5_farthest 3 = .ok (.istore_n 2, 1) := by decide +kernel
theorem dX5_farthest_4 : decode cX5_farthest 4 = .ok (.iload_n 2, 1) := by decide +kernel
theorem dX5_farthest_5 : decode cX5_farthest 5 = .ok (.aload_n 0, 1) := by decide +kernel
theorem dX5_farthest_6 : decode cX5_farthest 6 = .ok (.getfield 9, 3) := by decide +kernel
theorem dX5_farthest_9 : decode cX5_farthest 9 = .ok (.if_icmp .ge 24, 3) := by decide +kernel
theorem dX5_farthest_12 : decode cX5_farthest 12 = .ok (.iload_n 2, 1) := by decide +kernel
theorem dX5_farthest_13 : decode cX5_farthest 13 = .ok (.bipush 8, 2) := by decide +kernel
theorem dX5_farthest_15 : decode cX5_farthest 15 = .ok (.if_icmp .ge 18, 3) := by decide +kernel
theorem dX5_farthest_18 : decode cX5_farthest 18 = .ok (.iload_n 1, 1) := by decide +kernel
theorem dX5_farthest_19 : decode cX5_farthest 19 = .ok (.aload_n 0, 1) := by decide +kernel
theorem dX5_farthest_20 : decode cX5_farthest 20 = .ok (.getfield 15, 3) := by decide +kernel
theorem dX5_farthest_23 : decode cX5_farthest 23 = .ok (.iload_n 2, 1) := by decide +kernel
theorem dX5_farthest_24 : decode cX5_farthest 24 = .ok (.iaload, 1) := by decide +kernel
theorem dX5_farthest_25 : decode cX5_farthest 25 = .ok (.iadd, 1) := by decide +kernel
theorem dX5_farthest_26 : decode cX5_farthest 26 = .ok (.istore_n 1, 1) := by decide +kernel
theorem dX5_farthest_27 : decode cX5_farthest 27 = .ok (.iinc 2 1, 3) := by decide +kernel
theorem dX5_farthest_30 : decode cX5_farthest 30 = .ok (.goto (-26), 3) := by decide +kernel
theorem dX5_farthest_33 : decode cX5_farthest 33 = .ok (.iload_n 1, 1) := by decide +kernel
theorem dX5_farthest_34 : decode cX5_farthest 34 = .ok (.ireturn, 1) := by decide +kernel
set_option maxRecDepth 20000 in
theorem ggX5_nearest_X5_farthest : GoodIn wsX5_nearest wsX5_farthest := goodIn_r _ [11, 1, 2, 12, 13] (by decide +kernel) (by decide +kernel)
set_option maxRecDepth 20000 in
theorem gX5_nearest_X5_farthest : GoodIn wsX5_nearest (wsV RX5 31 RX5 yX5_farthest wsX5_farthest) := goodIn_app (goodIn_of _ (by decide +kernel)) ggX5_nearest_X5_farthest
theorem dX5_nearest_0 : decode cX5_nearest 0 = .ok (.iconst 0, 1) := by decide +kernel
theorem dX5_nearest_1 : decode cX5_nearest 1 = .ok (.istore_n 1, 1) := by decide +kernel
theorem dX5_nearest_2 : decode cX5_nearest 2 = .ok (.iconst 0, 1) := by decide +kernel
theorem dX5_nearest_3 : decode cX5_nearest 3 = .ok (.istore_n 2, 1) := by decide +kernel
theorem dX5_nearest_4 : decode cX5_nearest 4 = .ok (.iload_n 2, 1) := by decide +kernel
theorem dX5_nearest_5 : decode cX5_nearest 5 = .ok (.aload_n 0, 1) := by decide +kernel
theorem dX5_nearest_6 : decode cX5_nearest 6 = .ok (.getfield 9, 3) := by decide +kernel
theorem dX5_nearest_9 : decode cX5_nearest 9 = .ok (.if_icmp .ge 26, 3) := by decide +kernel
theorem dX5_nearest_12 : decode cX5_nearest 12 = .ok (.iload_n 2, 1) := by decide +kernel
theorem dX5_nearest_13 : decode cX5_nearest 13 = .ok (.bipush 8, 2) := by decide +kernel
theorem dX5_nearest_15 : decode cX5_nearest 15 = .ok (.if_icmp .ge 20, 3) := by decide +kernel
theorem dX5_nearest_18 : decode cX5_nearest 18 = .ok (.iload_n 1, 1) := by decide +kernel
theorem dX5_nearest_19 : decode cX5_nearest 19 = .ok (.aload_n 0, 1) := by decide +kernel
theorem dX5_nearest_20 : decode cX5_nearest 20 = .ok (.getfield 15, 3) := by decide +kernel
theorem dX5_nearest_23 : decode cX5_nearest 23 = .ok (.iload_n 2, 1) := by decide +kernel
theorem dX5_nearest_24 : decode cX5_nearest 24 = .ok (.iaload, 1) := by decide +kernel
theorem dX5_nearest_25 : decode cX5_nearest 25 = .ok (.invokestatic 25, 3) := by decide +kernel
theorem dX5_nearest_28 : decode cX5_nearest 28 = .ok (.istore_n 1, 1) := by decide +kernel
theorem dX5_nearest_29 : decode cX5_nearest 29 = .ok (.iinc 2 1, 3) := by decide +kernel
theorem dX5_nearest_32 : decode cX5_nearest 32 = .ok (.goto (-28), 3) := by decide +kernel
theorem dX5_nearest_35 : decode cX5_nearest 35 = .ok (.iconst 0, 1) := by decide +kernel
theorem dX5_nearest_36 : decode cX5_nearest 36 = .ok (.iconst 2, 1) := by decide +kernel
theorem dX5_nearest_37 : decode cX5_nearest 37 = .ok (.iload_n 1, 1) := by decide +kernel
theorem dX5_nearest_38 : decode cX5_nearest 38 = .ok (.imul, 1) := by decide +kernel
theorem dX5_nearest_39 : decode cX5_nearest 39 = .ok (.aload_n 0, 1) := by decide +kernel
theorem dX5_nearest_40 : decode cX5_nearest 40 = .ok (.invokevirtual 31, 3) := by decide +kernel
theorem dX5_nearest_43 : decode cX5_nearest 43 = .ok (.isub, 1) := by decide +kernel
theorem dX5_nearest_44 : decode cX5_nearest 44 = .ok (.invokestatic 25, 3) := by decide +kernel
theorem dX5_nearest_47 : decode cX5_nearest 47 = .ok (.ireturn, 1) := by decide +kernel
theorem dX6_init_0 : decode cX6_init 0 = .ok (.aload_n 0, 1) := by decide +kernel
theorem dX6_init_1 : decode cX6_init 1 = .ok (.invokespecial 3, 3) := by decide +kernel
theorem dX6_init_4 : decode cX6_init 4 = .ok (.aload_n 0, 1) := by decide +kernel
theorem dX6_init_5 : decode cX6_init 5 = .ok (.iconst (-1), 1) := by decide +kernel
theorem dX6_init_6 : decode cX6_init 6 = .ok (.putfield 9, 3) := by decide +kernel
theorem dX6_init_9 : decode cX6_init 9 = .ok (.aload_n 0, 1) := by decide +kernel
theorem dX6_init_10 : decode cX6_init 10 = .ok (.iconst 0, 1) := by decide +kernel
theorem dX6_init_11 : decode cX6_init 11 = .ok (.putfield 15, 3) := by decide +kernel
theorem dX6_init_14 : decode cX6_init 14 = .ok (.aload_n 0, 1) := by decide +kernel
theorem dX6_init_15 : decode cX6_init 15 = .ok (.bipush 40, 2) := by decide +kernel
theorem dX6_init_17 : decode cX6_init 17 = .ok (.newarray .int, 2) := by decide +kernel
theorem dX6_init_19 : decode cX6_init 19 = .ok (.putfield 18, 3) := by decide +kernel
theorem dX6_init_22 : decode cX6_init 22 = .ok (.return_, 1) := by decide +kernel
set_option maxRecDepth 20000 in
theorem ggX6_renew_J7_fill_53178 : GoodIn wsX6_renew wsJ7_fill_53178 := goodIn_r _ [7] (by decide +kernel) (by decide +kernel)
set_option maxRecDepth 20000 in
theorem gX6_renew_J7_fill_53178 : GoodIn wsX6_renew (va_wsS RX6 22 yJ7_fill_53178 wsJ7_fill_53178) := goodIn_app (goodIn_of _ (by decide +kernel)) ggX6_renew_J7_fill_53178
theorem dX6_renew_0 : decode cX6_renew 0 = .ok (.aload_n 0, 1) := by decide +kernel
theorem dX6_renew_1 : decode cX6_renew 1 = .ok (.iload_n 1, 1) := by decide +kernel
theorem dX6_renew_2 : decode cX6_renew 2 = .ok (.putfield 9, 3) := by decide +kernel
theorem dX6_renew_5 : decode cX6_renew 5 = .ok (.aload_n 0, 1) := by decide +kernel
theorem dX6_renew_6 : decode cX6_renew 6 = .ok (.iload_n 2, 1) := by decide +kernel
theorem dX6_renew_7 : decode cX6_renew 7 = .ok (.putfield 15, 3) := by decide +kernel
theorem dX6_renew_10 : decode cX6_renew 10 = .ok (.aload_n 0, 1) := by decide +kernel
theorem dX6_renew_11 : decode cX6_renew 11 = .ok (.getfield 18, 3) := by decide +kernel
theorem dX6_renew_14 : decode cX6_renew 14 = .ok (.iconst 0, 1) := by decide +kernel
theorem dX6_renew_15 : decode cX6_renew 15 = .ok (.invokestatic 22, 3) := by decide +kernel
theorem dX6_renew_18 : decode cX6_renew 18 = .ok (.return_, 1) := by decide +kernel
theorem dX6_write_0 : decode cX6_write 0 = .ok (.aload_n 0, 1) := by decide +kernel
theorem dX6_write_1 : decode cX6_write 1 = .ok (.getfield 9, 3) := by decide +kernel
theorem dX6_write_4 : decode cX6_write 4 = .ok (.iconst (-1), 1) := by decide +kernel
theorem dX6_write_5 : decode cX6_write 5 = .ok (.if_icmp .ne 5, 3) := by decide +kernel
theorem dX6_write_8 : decode cX6_write 8 = .ok (.iconst 1, 1) := by decide +kernel
theorem dX6_write_9 : decode cX6_write 9 = .ok (.ireturn, 1) := by decide +kernel
theorem dX6_write_10 : decode cX6_write 10 = .ok (.iload_n 1, 1) := by decide +kernel
theorem dX6_write_11 : decode cX6_write 11 = .ok (.ifCond .lt 17, 3) := by decide +kernel
theorem dX6_write_14 : decode cX6_write 14 = .ok (.iload_n 1, 1) := by decide +kernel
theorem dX6_write_15 : decode cX6_write 15 = .ok (.aload_n 0, 1) := by decide +kernel
theorem dX6_write_16 : decode cX6_write 16 = .ok (.getfield 15, 3) := by decide +kernel
theorem dX6_write_19 : decode cX6_write 19 = .ok (.if_icmp .ge 9, 3) := by decide +kernel
theorem dX6_write_22 : decode cX6_write 22 = .ok (.iload_n 1, 1) := by decide +kernel
theorem dX6_write_23 : decode cX6_write 23 = .ok (.bipush 40, 2) := by decide +kernel
theorem dX6_write_25 : decode cX6_write 25 = .ok (.if_icmp .lt 5, 3) := by decide +kernel
theorem dX6_write_28 : decode cX6_write 28 = .ok (.iconst 2, 1) := by decide +kernel
theorem dX6_write_29 : decode cX6_write 29 = .ok (.ireturn, 1) := by decide +kernel
theorem dX6_write_30 : decode cX6_write 30 = .ok (.aload_n 0, 1) := by decide +kernel
theorem dX6_write_31 : decode cX6_write 31 = .ok (.getfield 9, 3) := by decide +kernel
theorem dX6_write_34 : decode cX6_write 34 = .ok (.ifCond .ne 14, 3) := by decide +kernel
theorem dX6_write_37 : decode cX6_write 37 = .ok (.aload_n 0, 1) := by decide +kernel
theorem dX6_write_38 : decode cX6_write 38 = .ok (.getfield 18, 3) := by decide +kernel
theorem dX6_write_41 : decode cX6_write 41 = .ok (.iload_n 1, 1) := by decide +kernel
theorem dX6_write_42 : decode cX6_write 42 = .ok (.iload_n 2, 1) := by decide +kernel
theorem dX6_write_43 : decode cX6_write 43 = .ok (.i2b, 1) := by decide +kernel
theorem dX6_write_44 : decode cX6_write 44 = .ok (.iastore, 1) := by decide +kernel
theorem dX6_write_45 : decode cX6_write 45 = .ok (.goto 29, 3) := by decide +kernel
theorem dX6_write_48 : decode cX6_write 48 = .ok (.aload_n 0, 1) := by decide +kernel
theorem dX6_write_49 : decode cX6_write 49 = .ok (.getfield 9, 3) := by decide +kernel
theorem dX6_write_52 : decode cX6_write 52 = .ok (.iconst 1, 1) := by decide +kernel
theorem dX6_write_53 : decode cX6_write 53 = .ok (.if_icmp .ne 14, 3) := by decide +kernel
theorem dX6_write_56 : decode cX6_write 56 = .ok (.aload_n 0, 1) := by decide +kernel
theorem dX6_write_57 : decode cX6_write 57 = .ok (.getfield 18, 3) := by decide +kernel
theorem dX6_write_60 : decode cX6_write 60 = .ok (.iload_n 1, 1) := by decide +kernel
theorem dX6_write_61 : decode cX6_write 61 = .ok (.iload_n 2, 1) := by decide +kernel
theorem dX6_write_62 : decode cX6_write 62 = .ok (.i2s, 1) := by decide +kernel
theorem dX6_write_63 : decode cX6_write 63 = .ok (.iastore, 1) := by decide +kernel
theorem dX6_write_64 : decode cX6_write 64 = .ok (.goto 10, 3) := by decide +kernel
theorem dX6_write_67 : decode cX6_write 67 = .ok (.aload_n 0, 1) := by decide +kernel
theorem dX6_write_68 : decode cX6_write 68 = .ok (.getfield 18, 3) := by decide +kernel
theorem dX6_write_71 : decode cX6_write 71 = .ok (.iload_n 1, 1) := by decide +kernel
theorem dX6_write_72 : decode cX6_write 72 = .ok (.iload_n 2, 1) := by decide +kernel
theorem dX6_write_73 : decode cX6_write 73 = .ok (.iastore, 1) := by decide +kernel
theorem dX6_write_74 : decode cX6_write 74 = .ok (.iconst 0, 1) := by decide +kernel
theorem dX6_write_75 : decode cX6_write 75 = .ok (.ireturn, 1) := by decide +kernel
theorem dX6_faultAs_0 : decode cX6_faultAs 0 = .ok (.aload_n 0, 1) := by decide +kernel
theorem dX6_faultAs_1 : decode cX6_faultAs 1 = .ok (.getfield 9, 3) := by decide +kernel
theorem dX6_faultAs_4 : decode cX6_faultAs 4 = .ok (.iconst (-1), 1) := by decide +kernel
theorem dX6_faultAs_5 : decode cX6_faultAs 5 = .ok (.if_icmp .ne 5, 3) := by decide +kernel
theorem dX6_faultAs_8 : decode cX6_faultAs 8 = .ok (.iconst 1, 1) := by decide +kernel
theorem dX6_faultAs_9 : decode cX6_faultAs 9 = .ok (.ireturn, 1) := by decide +kernel
theorem dX6_faultAs_10 : decode cX6_faultAs 10 = .ok (.aload_n 0, 1) := by decide +kernel
theorem dX6_faultAs_11 : decode cX6_faultAs 11 = .ok (.getfield 9, 3) := by decide +kernel
theorem dX6_faultAs_14 : decode cX6_faultAs 14 = .ok (.iload_n 1, 1) := by decide +kernel
theorem dX6_faultAs_15 : decode cX6_faultAs 15 = .ok (.if_icmp .ne 7, 3) := by decide +kernel
theorem dX6_faultAs_18 : decode cX6_faultAs 18 = .ok (.iconst 0, 1) := by decide +kernel
theorem dX6_faultAs_19 : decode cX6_faultAs 19 = .ok (.goto 4, 3) := by decide +kernel
theorem dX6_faultAs_22 : decode cX6_faultAs 22 = .ok (.iconst 3, 1) := by decide +kernel
theorem dX6_faultAs_23 : decode cX6_faultAs 23 = .ok (.ireturn, 1) := by decide +kernel
theorem dX6_wholeLengths_0 : decode cX6_wholeLengths 0 = .ok (.iload_n 1, 1) := by decide +kernel
theorem dX6_wholeLengths_1 : decode cX6_wholeLengths 1 = .ok (.ifCond .lt 11, 3) := by decide +kernel
theorem dX6_wholeLengths_4 : decode cX6_wholeLengths 4 = .ok (.iload_n 1, 1) := by decide +kernel
theorem dX6_wholeLengths_5 : decode cX6_wholeLengths 5 = .ok (.aload_n 0, 1) := by decide +kernel
theorem dX6_wholeLengths_6 : decode cX6_wholeLengths 6 = .ok (.getfield 15, 3) := by decide +kernel
theorem dX6_wholeLengths_9 : decode cX6_wholeLengths 9 = .ok (.if_icmp .le 5, 3) := by decide +kernel
theorem dX6_wholeLengths_12 : decode cX6_wholeLengths 12 = .ok (.iconst 0, 1) := by decide +kernel
theorem dX6_wholeLengths_13 : decode cX6_wholeLengths 13 = .ok (.ireturn, 1) := by decide +kernel
theorem dX6_wholeLengths_14 : decode cX6_wholeLengths 14 = .ok (.iload_n 2, 1) := by decide +kernel
theorem dX6_wholeLengths_15 : decode cX6_wholeLengths 15 = .ok (.aload_n 0, 1) := by decide +kernel
theorem dX6_wholeLengths_16 : decode cX6_wholeLengths 16 = .ok (.getfield 15, 3) := by decide +kernel
theorem dX6_wholeLengths_19 : decode cX6_wholeLengths 19 = .ok (.iload_n 1, 1) := by decide +kernel
theorem dX6_wholeLengths_20 : decode cX6_wholeLengths 20 = .ok (.isub, 1) := by decide +kernel
theorem dX6_wholeLengths_21 : decode cX6_wholeLengths 21 = .ok (.iconst 3, 1) := by decide +kernel
theorem dX6_wholeLengths_22 : decode cX6_wholeLengths 22 = .ok (.idiv, 1) := by decide +kernel
theorem dX6_wholeLengths_23 : decode cX6_wholeLengths 23 = .ok (.invokestatic 28, 3) := by decide +kernel
theorem dX6_wholeLengths_26 : decode cX6_wholeLengths 26 = .ok (.ireturn, 1) := by decide +kernel
theorem dX6_cell_0 : decode cX6_cell 0 = .ok (.iload_n 1, 1) := by decide +kernel
theorem dX6_cell_1 : decode cX6_cell 1 = .ok (.ifCond .lt 18, 3) := by decide +kernel
theorem dX6_cell_4 : decode cX6_cell 4 = .ok (.iload_n 1, 1) := by decide +kernel
theorem dX6_cell_5 : decode cX6_cell 5 = .ok (.bipush 40, 2) := by decide +kernel
theorem dX6_cell_7 : decode cX6_cell 7 = .ok (.if_icmp .ge 12, 3) := by decide +kernel
theorem dX6_cell_10 : decode cX6_cell 10 = .ok (.aload_n 0, 1) := by decide +kernel
theorem dX6_cell_11 : decode cX6_cell 11 = .ok (.getfield 18, 3) := by decide +kernel
theorem dX6_cell_14 : decode cX6_cell 14 = .ok (.iload_n 1, 1) := by decide +kernel
theorem dX6_cell_15 : decode cX6_cell 15 = .ok (.iaload, 1) := by decide +kernel
theorem dX6_cell_16 : decode cX6_cell 16 = .ok (.goto 4, 3) := by decide +kernel
theorem dX6_cell_19 : decode cX6_cell 19 = .ok (.iconst 0, 1) := by decide +kernel
theorem dX6_cell_20 : decode cX6_cell 20 = .ok (.ireturn, 1) := by decide +kernel
theorem dX7_init_0 : decode cX7_init 0 = .ok (.aload_n 0, 1) := by decide +kernel
theorem dX7_init_1 : decode cX7_init 1 = .ok (.invokespecial 3, 3) := by decide +kernel
theorem dX7_init_4 : decode cX7_init 4 = .ok (.return_, 1) := by decide +kernel
set_option maxRecDepth 20000 in
theorem ggX7_take_X8_square : GoodIn wsX7_take wsX8_square := goodIn_r _ [9, 10, 27, 28] (by decide +kernel) (by decide +kernel)
set_option maxRecDepth 20000 in
theorem gX7_take_X8_square : GoodIn wsX7_take (wsV RX7 11 RX8 yX8_square wsX8_square) := goodIn_app (goodIn_of _ (by decide +kernel)) ggX7_take_X8_square
set_option maxRecDepth 20000 in
theorem ggX7_take_X8_leaning : GoodIn wsX7_take wsX8_leaning := goodIn_r _ [14, 15, 6, 7, 8, 9, 10, 27, 28] (by decide +kernel) (by decide +kernel)
set_option maxRecDepth 20000 in
theorem gX7_take_X8_leaning : GoodIn wsX7_take (wsV RX7 23 RX8 yX8_leaning wsX8_leaning) := goodIn_app (goodIn_of _ (by decide +kernel)) ggX7_take_X8_leaning
set_option maxRecDepth 20000 in
theorem ggX7_take_X8_wideOf : GoodIn wsX7_take wsX8_wideOf := goodIn_r _ [19, 15, 6, 7, 8, 9, 10, 20, 21, 22, 23, 27, 28] (by decide +kernel) (by decide +kernel)
set_option maxRecDepth 20000 in
theorem gX7_take_X8_wideOf : GoodIn wsX7_take (wsV RX7 30 RX8 yX8_wideOf wsX8_wideOf) := goodIn_app (goodIn_of _ (by decide +kernel)) ggX7_take_X8_wideOf
theorem dX7_take_0 : decode cX7_take 0 = .ok (.aload_n 0, 1) := by decide +kernel
theorem dX7_take_1 : decode cX7_take 1 = .ok (.ldc2_w 9, 3) := by decide +kernel
theorem dX7_take_4 : decode cX7_take 4 = .ok (.aload_n 1, 1) := by decide +kernel
theorem dX7_take_5 : decode cX7_take 5 = .ok (.iload 4, 2) := by decide +kernel
theorem dX7_take_7 : decode cX7_take 7 = .ok (.iload 5, 2) := by decide +kernel
theorem dX7_take_9 : decode cX7_take 9 = .ok (.invokevirtual 11, 3) := by decide +kernel
theorem dX7_take_12 : decode cX7_take 12 = .ok (.i2l, 1) := by decide +kernel
theorem dX7_take_13 : decode cX7_take 13 = .ok (.lmul, 1) := by decide +kernel
theorem dX7_take_14 : decode cX7_take 14 = .ok (.putfield 17, 3) := by decide +kernel
theorem dX7_take_17 : decode cX7_take 17 = .ok (.aload_n 0, 1) := by decide +kernel
theorem dX7_take_18 : decode cX7_take 18 = .ok (.aload_n 0, 1) := by decide +kernel
theorem dX7_take_19 : decode cX7_take 19 = .ok (.getfield 17, 3) := by decide +kernel
theorem dX7_take_22 : decode cX7_take 22 = .ok (.aload_n 1, 1) := by decide +kernel
theorem dX7_take_23 : decode cX7_take 23 = .ok (.iload 4, 2) := by decide +kernel
theorem dX7_take_25 : decode cX7_take 25 = .ok (.iload_n 2, 1) := by decide +kernel
theorem dX7_take_26 : decode cX7_take 26 = .ok (.invokevirtual 11, 3) := by decide +kernel
theorem dX7_take_29 : decode cX7_take 29 = .ok (.aload_n 1, 1) := by decide +kernel
theorem dX7_take_30 : decode cX7_take 30 = .ok (.iload 4, 2) := by decide +kernel
theorem dX7_take_32 : decode cX7_take 32 = .ok (.iload_n 3, 1) := by decide +kernel
theorem dX7_take_33 : decode cX7_take 33 = .ok (.invokevirtual 11, 3) := by decide +kernel
theorem dX7_take_36 : decode cX7_take 36 = .ok (.iadd, 1) := by decide +kernel
theorem dX7_take_37 : decode cX7_take 37 = .ok (.i2l, 1) := by decide +kernel
theorem dX7_take_38 : decode cX7_take 38 = .ok (.lmul, 1) := by decide +kernel
theorem dX7_take_39 : decode cX7_take 39 = .ok (.aload_n 1, 1) := by decide +kernel
theorem dX7_take_40 : decode cX7_take 40 = .ok (.iload 4, 2) := by decide +kernel
theorem dX7_take_42 : decode cX7_take 42 = .ok (.iload 5, 2) := by decide +kernel
theorem dX7_take_44 : decode cX7_take 44 = .ok (.iload_n 2, 1) := by decide +kernel
theorem dX7_take_45 : decode cX7_take 45 = .ok (.invokevirtual 23, 3) := by decide +kernel
theorem dX7_take_48 : decode cX7_take 48 = .ok (.aload_n 1, 1) := by decide +kernel
theorem dX7_take_49 : decode cX7_take 49 = .ok (.iload 4, 2) := by decide +kernel
theorem dX7_take_51 : decode cX7_take 51 = .ok (.iload 5, 2) := by decide +kernel
theorem dX7_take_53 : decode cX7_take 53 = .ok (.iload_n 3, 1) := by decide +kernel
theorem dX7_take_54 : decode cX7_take 54 = .ok (.invokevirtual 23, 3) := by decide +kernel
theorem dX7_take_57 : decode cX7_take 57 = .ok (.lmul, 1) := by decide +kernel
theorem dX7_take_58 : decode cX7_take 58 = .ok (.lsub, 1) := by decide +kernel
theorem dX7_take_59 : decode cX7_take 59 = .ok (.putfield 27, 3) := by decide +kernel
theorem dX7_take_62 : decode cX7_take 62 = .ok (.aload_n 0, 1) := by decide +kernel
theorem dX7_take_63 : decode cX7_take 63 = .ok (.aload_n 1, 1) := by decide +kernel
theorem dX7_take_64 : decode cX7_take 64 = .ok (.iload_n 2, 1) := by decide +kernel
theorem dX7_take_65 : decode cX7_take 65 = .ok (.iload 4, 2) := by decide +kernel
theorem dX7_take_67 : decode cX7_take 67 = .ok (.iload 5, 2) := by decide +kernel
theorem dX7_take_69 : decode cX7_take 69 = .ok (.invokevirtual 30, 3) := by decide +kernel
theorem dX7_take_72 : decode cX7_take 72 = .ok (.aload_n 1, 1) := by decide +kernel
theorem dX7_take_73 : decode cX7_take 73 = .ok (.iload_n 3, 1) := by decide +kernel
theorem dX7_take_74 : decode cX7_take 74 = .ok (.iload 4, 2) := by decide +kernel
theorem dX7_take_76 : decode cX7_take 76 = .ok (.iload 5, 2) := by decide +kernel
theorem dX7_take_78 : decode cX7_take 78 = .ok (.invokevirtual 30, 3) := by decide +kernel
theorem dX7_take_81 : decode cX7_take 81 = .ok (.lmul, 1) := by decide +kernel
theorem dX7_take_82 : decode cX7_take 82 = .ok (.putfield 33, 3) := by decide +kernel
theorem dX7_take_85 : decode cX7_take 85 = .ok (.return_, 1) := by decide +kernel
set_option maxRecDepth 20000 in
theorem ggX7_wholeLength_X10_rootOf : GoodIn wsX7_wholeLength wsX10_rootOf := goodIn_r _ [7] (by decide +kernel) (by decide +kernel)
set_option maxRecDepth 20000 in
theorem gX7_wholeLength_X10_rootOf_n36 : GoodIn wsX7_wholeLength (wsX10_rootOf) := ggX7_wholeLength_X10_rootOf
theorem dX7_wholeLength_0 : decode cX7_wholeLength 0 = .ok (.aload_n 0, 1) := by decide +kernel
theorem dX7_wholeLength_1 : decode cX7_wholeLength 1 = .ok (.getfield 33, 3) := by decide +kernel
theorem dX7_wholeLength_4 : decode cX7_wholeLength 4 = .ok (.invokestatic 36, 3) := by decide +kernel
theorem dX7_wholeLength_7 : decode cX7_wholeLength 7 = .ok (.lstore_n 2, 1) := by decide +kernel
theorem dX7_wholeLength_8 : decode cX7_wholeLength 8 = .ok (.lload_n 2, 1) := by decide +kernel
theorem dX7_wholeLength_9 : decode cX7_wholeLength 9 = .ok (.lload_n 2, 1) := by decide +kernel
theorem dX7_wholeLength_10 : decode cX7_wholeLength 10 = .ok (.lmul, 1) := by decide +kernel
theorem dX7_wholeLength_11 : decode cX7_wholeLength 11 = .ok (.aload_n 0, 1) := by decide +kernel
theorem dX7_wholeLength_12 : decode cX7_wholeLength 12 = .ok (.getfield 33, 3) := by decide +kernel
theorem dX7_wholeLength_15 : decode cX7_wholeLength 15 = .ok (.lcmp, 1) := by decide +kernel
theorem dX7_wholeLength_16 : decode cX7_wholeLength 16 = .ok (.ifCond .eq 7, 3) := by decide +kernel
theorem dX7_wholeLength_19 : decode cX7_wholeLength 19 = .ok (.ldc2_w 40, 3) := by decide +kernel
theorem dX7_wholeLength_22 : decode cX7_wholeLength 22 = .ok (.lreturn, 1) := by decide +kernel
theorem dX7_wholeLength_23 : decode cX7_wholeLength 23 = .ok (.iload_n 1, 1) := by decide +kernel
theorem dX7_wholeLength_24 : decode cX7_wholeLength 24 = .ok (.ifCond .eq 12, 3) := by decide +kernel
theorem dX7_wholeLength_27 : decode cX7_wholeLength 27 = .ok (.aload_n 0, 1) := by decide +kernel
theorem dX7_wholeLength_28 : decode cX7_wholeLength 28 = .ok (.getfield 27, 3) := by decide +kernel
theorem dX7_wholeLength_31 : decode cX7_wholeLength 31 = .ok (.lload_n 2, 1) := by decide +kernel
theorem dX7_wholeLength_32 : decode cX7_wholeLength 32 = .ok (.lsub, 1) := by decide +kernel
theorem dX7_wholeLength_33 : decode cX7_wholeLength 33 = .ok (.goto 9, 3) := by decide +kernel
theorem dX7_wholeLength_36 : decode cX7_wholeLength 36 = .ok (.aload_n 0, 1) := by decide +kernel
theorem dX7_wholeLength_37 : decode cX7_wholeLength 37 = .ok (.getfield 27, 3) := by decide +kernel
theorem dX7_wholeLength_40 : decode cX7_wholeLength 40 = .ok (.lload_n 2, 1) := by decide +kernel
theorem dX7_wholeLength_41 : decode cX7_wholeLength 41 = .ok (.ladd, 1) := by decide +kernel
theorem dX7_wholeLength_42 : decode cX7_wholeLength 42 = .ok (.lstore 4, 2) := by decide +kernel
theorem dX7_wholeLength_44 : decode cX7_wholeLength 44 = .ok (.aload_n 0, 1) := by decide +kernel
theorem dX7_wholeLength_45 : decode cX7_wholeLength 45 = .ok (.getfield 17, 3) := by decide +kernel
theorem dX7_wholeLength_48 : decode cX7_wholeLength 48 = .ok (.lconst 0, 1) := by decide +kernel
theorem dX7_wholeLength_49 : decode cX7_wholeLength 49 = .ok (.lcmp, 1) := by decide +kernel
theorem dX7_wholeLength_50 : decode cX7_wholeLength 50 = .ok (.ifCond .le 15, 3) := by decide +kernel
theorem dX7_wholeLength_53 : decode cX7_wholeLength 53 = .ok (.lload 4, 2) := by decide +kernel
theorem dX7_wholeLength_55 : decode cX7_wholeLength 55 = .ok (.aload_n 0, 1) := by decide +kernel
theorem dX7_wholeLength_56 : decode cX7_wholeLength 56 = .ok (.getfield 17, 3) := by decide +kernel
theorem dX7_wholeLength_59 : decode cX7_wholeLength 59 = .ok (.lrem, 1) := by decide +kernel
theorem dX7_wholeLength_60 : decode cX7_wholeLength 60 = .ok (.lconst 0, 1) := by decide +kernel
theorem dX7_wholeLength_61 : decode cX7_wholeLength 61 = .ok (.lcmp, 1) := by decide +kernel
theorem dX7_wholeLength_62 : decode cX7_wholeLength 62 = .ok (.ifCond .eq 7, 3) := by decide +kernel
theorem dX7_wholeLength_65 : decode cX7_wholeLength 65 = .ok (.ldc2_w 40, 3) := by decide +kernel
theorem dX7_wholeLength_68 : decode cX7_wholeLength 68 = .ok (.lreturn, 1) := by decide +kernel
theorem dX7_wholeLength_69 : decode cX7_wholeLength 69 = .ok (.lload 4, 2) := by decide +kernel
theorem dX7_wholeLength_71 : decode cX7_wholeLength 71 = .ok (.aload_n 0, 1) := by decide +kernel
theorem dX7_wholeLength_72 : decode cX7_wholeLength 72 = .ok (.getfield 17, 3) := by decide +kernel
theorem dX7_wholeLength_75 : decode cX7_wholeLength 75 = .ok (.ldiv, 1) := by decide +kernel
theorem dX7_wholeLength_76 : decode cX7_wholeLength 76 = .ok (.lreturn, 1) := by decide +kernel
theorem dX8_init_0 : decode cX8_init 0 = .ok (.aload_n 0, 1) := by decide +kernel
theorem dX8_init_1 : decode cX8_init 1 = .ok (.invokespecial 3, 3) := by decide +kernel
theorem dX8_init_4 : decode cX8_init 4 = .ok (.aload_n 0, 1) := by decide +kernel
theorem dX8_init_5 : decode cX8_init 5 = .ok (.iconst 3, 1) := by decide +kernel
theorem dX8_init_6 : decode cX8_init 6 = .ok (.putfield 9, 3) := by decide +kernel
theorem dX8_init_9 : decode cX8_init 9 = .ok (.aload_n 0, 1) := by decide +kernel
theorem dX8_init_10 : decode cX8_init 10 = .ok (.bipush 49, 2) := by decide +kernel
theorem dX8_init_12 : decode cX8_init 12 = .ok (.newarray .int, 2) := by decide +kernel
theorem dX8_init_14 : decode cX8_init 14 = .ok (.putfield 15, 3) := by decide +kernel
theorem dX8_init_17 : decode cX8_init 17 = .ok (.return_, 1) := by decide +kernel
set_option maxRecDepth 20000 in
theorem ggX8_reset_J7_fill_53178 : GoodIn wsX8_reset wsJ7_fill_53178 := goodIn_r _ [6] (by decide +kernel) (by decide +kernel)
set_option maxRecDepth 20000 in
theorem gX8_reset_J7_fill_53178 : GoodIn wsX8_reset (va_wsS RX8 19 yJ7_fill_53178 wsJ7_fill_53178) := goodIn_app (goodIn_of _ (by decide +kernel)) ggX8_reset_J7_fill_53178
theorem dX8_reset_0 : decode cX8_reset 0 = .ok (.aload_n 0, 1) := by decide +kernel
theorem dX8_reset_1 : decode cX8_reset 1 = .ok (.iconst 3, 1) := by decide +kernel
theorem dX8_reset_2 : decode cX8_reset 2 = .ok (.putfield 9, 3) := by decide +kernel
theorem dX8_reset_5 : decode cX8_reset 5 = .ok (.aload_n 0, 1) := by decide +kernel
theorem dX8_reset_6 : decode cX8_reset 6 = .ok (.getfield 15, 3) := by decide +kernel
theorem dX8_reset_9 : decode cX8_reset 9 = .ok (.iconst 0, 1) := by decide +kernel
theorem dX8_reset_10 : decode cX8_reset 10 = .ok (.invokestatic 19, 3) := by decide +kernel
theorem dX8_reset_13 : decode cX8_reset 13 = .ok (.return_, 1) := by decide +kernel
theorem dX8_copyFrom_0 : decode cX8_copyFrom 0 = .ok (.aload_n 0, 1) := by decide +kernel
theorem dX8_copyFrom_1 : decode cX8_copyFrom 1 = .ok (.aload_n 1, 1) := by decide +kernel
theorem dX8_copyFrom_2 : decode cX8_copyFrom 2 = .ok (.getfield 9, 3) := by decide +kernel
theorem dX8_copyFrom_5 : decode cX8_copyFrom 5 = .ok (.putfield 9, 3) := by decide +kernel
theorem dX8_copyFrom_8 : decode cX8_copyFrom 8 = .ok (.aload_n 1, 1) := by decide +kernel
theorem dX8_copyFrom_9 : decode cX8_copyFrom 9 = .ok (.getfield 15, 3) := by decide +kernel
theorem dX8_copyFrom_12 : decode cX8_copyFrom 12 = .ok (.iconst 0, 1) := by decide +kernel
theorem dX8_copyFrom_13 : decode cX8_copyFrom 13 = .ok (.aload_n 0, 1) := by decide +kernel
theorem dX8_copyFrom_14 : decode cX8_copyFrom 14 = .ok (.getfield 15, 3) := by decide +kernel
theorem dX8_copyFrom_17 : decode cX8_copyFrom 17 = .ok (.iconst 0, 1) := by decide +kernel
theorem dX8_copyFrom_18 : decode cX8_copyFrom 18 = .ok (.aload_n 0, 1) := by decide +kernel
theorem dX8_copyFrom_19 : decode cX8_copyFrom 19 = .ok (.getfield 15, 3) := by decide +kernel
theorem dX8_copyFrom_22 : decode cX8_copyFrom 22 = .ok (.arraylength, 1) := by decide +kernel
theorem dX8_copyFrom_23 : decode cX8_copyFrom 23 = .ok (.invokestatic 25, 3) := by decide +kernel
theorem dX8_copyFrom_26 : decode cX8_copyFrom 26 = .ok (.return_, 1) := by decide +kernel
theorem dX8_isPlace_0 : decode cX8_isPlace 0 = .ok (.iload_n 1, 1) := by decide +kernel
theorem dX8_isPlace_1 : decode cX8_isPlace 1 = .ok (.ifCond .lt 15, 3) := by decide +kernel
theorem dX8_isPlace_4 : decode cX8_isPlace 4 = .ok (.iload_n 1, 1) := by decide +kernel
theorem dX8_isPlace_5 : decode cX8_isPlace 5 = .ok (.aload_n 0, 1) := by decide +kernel
theorem dX8_isPlace_6 : decode cX8_isPlace 6 = .ok (.getfield 9, 3) := by decide +kernel
theorem dX8_isPlace_9 : decode cX8_isPlace 9 = .ok (.if_icmp .ge 7, 3) := by decide +kernel
theorem dX8_isPlace_12 : decode cX8_isPlace 12 = .ok (.iconst 1, 1) := by decide +kernel
theorem dX8_isPlace_13 : decode cX8_isPlace 13 = .ok (.goto 4, 3) := by decide +kernel
theorem dX8_isPlace_16 : decode cX8_isPlace 16 = .ok (.iconst 0, 1) := by decide +kernel
theorem dX8_isPlace_17 : decode cX8_isPlace 17 = .ok (.ireturn, 1) := by decide +kernel
set_option maxRecDepth 20000 in
theorem ggX8_areTwo_X8_isPlace : GoodIn wsX8_areTwo wsX8_isPlace := goodIn_r _ [5, 6, 7, 8] (by decide +kernel) (by decide +kernel)
set_option maxRecDepth 20000 in
theorem gX8_areTwo_X8_isPlace : GoodIn wsX8_areTwo (wsV RX8 31 RX8 yX8_isPlace wsX8_isPlace) := goodIn_app (goodIn_of _ (by decide +kernel)) ggX8_areTwo_X8_isPlace
theorem dX8_areTwo_0 : decode cX8_areTwo 0 = .ok (.aload_n 0, 1) := by decide +kernel
theorem dX8_areTwo_1 : decode cX8_areTwo 1 = .ok (.iload_n 1, 1) := by decide +kernel
theorem dX8_areTwo_2 : decode cX8_areTwo 2 = .ok (.invokevirtual 31, 3) := by decide +kernel
theorem dX8_areTwo_5 : decode cX8_areTwo 5 = .ok (.ifCond .eq 20, 3) := by decide +kernel
theorem dX8_areTwo_8 : decode cX8_areTwo 8 = .ok (.aload_n 0, 1) := by decide +kernel
theorem dX8_areTwo_9 : decode cX8_areTwo 9 = .ok (.iload_n 2, 1) := by decide +kernel
theorem dX8_areTwo_10 : decode cX8_areTwo 10 = .ok (.invokevirtual 31, 3) := by decide +kernel
theorem dX8_areTwo_13 : decode cX8_areTwo 13 = .ok (.ifCond .eq 12, 3) := by decide +kernel
theorem dX8_areTwo_16 : decode cX8_areTwo 16 = .ok (.iload_n 1, 1) := by decide +kernel
theorem dX8_areTwo_17 : decode cX8_areTwo 17 = .ok (.iload_n 2, 1) := by decide +kernel
theorem dX8_areTwo_18 : decode cX8_areTwo 18 = .ok (.if_icmp .eq 7, 3) := by decide +kernel
theorem dX8_areTwo_21 : decode cX8_areTwo 21 = .ok (.iconst 1, 1) := by decide +kernel
theorem dX8_areTwo_22 : decode cX8_areTwo 22 = .ok (.goto 4, 3) := by decide +kernel
theorem dX8_areTwo_25 : decode cX8_areTwo 25 = .ok (.iconst 0, 1) := by decide +kernel
theorem dX8_areTwo_26 : decode cX8_areTwo 26 = .ok (.ireturn, 1) := by decide +kernel
set_option maxRecDepth 20000 in
theorem ggX8_areThree_X8_areTwo : GoodIn wsX8_areThree wsX8_areTwo := goodIn_r _ [5, 6, 7, 8, 4, 9, 10, 11, 12] (by decide +kernel) (by decide +kernel)
set_option maxRecDepth 20000 in
theorem gX8_areThree_X8_areTwo : GoodIn wsX8_areThree (wsV RX8 35 RX8 yX8_areTwo wsX8_areTwo) := goodIn_app (goodIn_of _ (by decide +kernel)) ggX8_areThree_X8_areTwo
theorem dX8_areThree_0 : decode cX8_areThree 0 = .ok (.aload_n 0, 1) := by decide +kernel
theorem dX8_areThree_1 : decode cX8_areThree 1 = .ok (.iload_n 1, 1) := by decide +kernel
theorem dX8_areThree_2 : decode cX8_areThree 2 = .ok (.iload_n 2, 1) := by decide +kernel
theorem dX8_areThree_3 : decode cX8_areThree 3 = .ok (.invokevirtual 35, 3) := by decide +kernel
theorem dX8_areThree_6 : decode cX8_areThree 6 = .ok (.ifCond .eq 21, 3) := by decide +kernel
theorem dX8_areThree_9 : decode cX8_areThree 9 = .ok (.aload_n 0, 1) := by decide +kernel
theorem dX8_areThree_10 : decode cX8_areThree 10 = .ok (.iload_n 1, 1) := by decide +kernel
theorem dX8_areThree_11 : decode cX8_areThree 11 = .ok (.iload_n 3, 1) := by decide +kernel
theorem dX8_areThree_12 : decode cX8_areThree 12 = .ok (.invokevirtual 35, 3) := by decide +kernel
theorem dX8_areThree_15 : decode cX8_areThree 15 = .ok (.ifCond .eq 12, 3) := by decide +kernel
theorem dX8_areThree_18 : decode cX8_areThree 18 = .ok (.iload_n 2, 1) := by decide +kernel
theorem dX8_areThree_19 : decode cX8_areThree 19 = .ok (.iload_n 3, 1) := by decide +kernel
theorem dX8_areThree_20 : decode cX8_areThree 20 = .ok (.if_icmp .eq 7, 3) := by decide +kernel
theorem dX8_areThree_23 : decode cX8_areThree 23 = .ok (.iconst 1, 1) := by decide +kernel
theorem dX8_areThree_24 : decode cX8_areThree 24 = .ok (.goto 4, 3) := by decide +kernel
theorem dX8_areThree_27 : decode cX8_areThree 27 = .ok (.iconst 0, 1) := by decide +kernel
theorem dX8_areThree_28 : decode cX8_areThree 28 = .ok (.ireturn, 1) := by decide +kernel
set_option maxRecDepth 20000 in
theorem ggX8_areFour_X8_areThree : GoodIn wsX8_areFour wsX8_areThree := goodIn_r _ [5, 6, 7, 8, 4, 9, 10, 11, 12, 13, 14, 15, 16] (by decide +kernel) (by decide +kernel)
set_option maxRecDepth 20000 in
theorem gX8_areFour_X8_areThree : GoodIn wsX8_areFour (wsV RX8 39 RX8 yX8_areThree wsX8_areThree) := goodIn_app (goodIn_of _ (by decide +kernel)) ggX8_areFour_X8_areThree
theorem dX8_areFour_0 : decode cX8_areFour 0 = .ok (.aload_n 0, 1) := by decide +kernel
theorem dX8_areFour_1 : decode cX8_areFour 1 = .ok (.iload_n 1, 1) := by decide +kernel
theorem dX8_areFour_2 : decode cX8_areFour 2 = .ok (.iload_n 2, 1) := by decide +kernel
theorem dX8_areFour_3 : decode cX8_areFour 3 = .ok (.iload_n 3, 1) := by decide +kernel
theorem dX8_areFour_4 : decode cX8_areFour 4 = .ok (.invokevirtual 39, 3) := by decide +kernel
theorem dX8_areFour_7 : decode cX8_areFour 7 = .ok (.ifCond .eq 24, 3) := by decide +kernel
theorem dX8_areFour_10 : decode cX8_areFour 10 = .ok (.aload_n 0, 1) := by decide +kernel
theorem dX8_areFour_11 : decode cX8_areFour 11 = .ok (.iload_n 1, 1) := by decide +kernel
theorem dX8_areFour_12 : decode cX8_areFour 12 = .ok (.iload_n 2, 1) := by decide +kernel
theorem dX8_areFour_13 : decode cX8_areFour 13 = .ok (.iload 4, 2) := by decide +kernel
theorem dX8_areFour_15 : decode cX8_areFour 15 = .ok (.invokevirtual 39, 3) := by decide +kernel
theorem dX8_areFour_18 : decode cX8_areFour 18 = .ok (.ifCond .eq 13, 3) := by decide +kernel
theorem dX8_areFour_21 : decode cX8_areFour 21 = .ok (.iload_n 3, 1) := by decide +kernel
theorem dX8_areFour_22 : decode cX8_areFour 22 = .ok (.iload 4, 2) := by decide +kernel
theorem dX8_areFour_24 : decode cX8_areFour 24 = .ok (.if_icmp .eq 7, 3) := by decide +kernel
theorem dX8_areFour_27 : decode cX8_areFour 27 = .ok (.iconst 1, 1) := by decide +kernel
theorem dX8_areFour_28 : decode cX8_areFour 28 = .ok (.goto 4, 3) := by decide +kernel
theorem dX8_areFour_31 : decode cX8_areFour 31 = .ok (.iconst 0, 1) := by decide +kernel
theorem dX8_areFour_32 : decode cX8_areFour 32 = .ok (.ireturn, 1) := by decide +kernel
theorem dX8_square_0 : decode cX8_square 0 = .ok (.iload_n 1, 1) := by decide +kernel
theorem dX8_square_1 : decode cX8_square 1 = .ok (.ifCond .lt 19, 3) := by decide +kernel
theorem dX8_square_4 : decode cX8_square 4 = .ok (.iload_n 1, 1) := by decide +kernel
theorem dX8_square_5 : decode cX8_square 5 = .ok (.bipush 7, 2) := by decide +kernel
theorem dX8_square_7 : decode cX8_square 7 = .ok (.if_icmp .ge 13, 3) := by decide +kernel
theorem dX8_square_10 : decode cX8_square 10 = .ok (.iload_n 2, 1) := by decide +kernel
theorem dX8_square_11 : decode cX8_square 11 = .ok (.ifCond .lt 9, 3) := by decide +kernel
theorem dX8_square_14 : decode cX8_square 14 = .ok (.iload_n 2, 1) := by decide +kernel
theorem dX8_square_15 : decode cX8_square 15 = .ok (.bipush 7, 2) := by decide +kernel
theorem dX8_square_17 : decode cX8_square 17 = .ok (.if_icmp .lt 5, 3) := by decide +kernel
theorem dX8_square_20 : decode cX8_square 20 = .ok (.iconst 0, 1) := by decide +kernel
theorem dX8_square_21 : decode cX8_square 21 = .ok (.ireturn, 1) := by decide +kernel
theorem dX8_square_22 : decode cX8_square 22 = .ok (.aload_n 0, 1) := by decide +kernel
theorem dX8_square_23 : decode cX8_square 23 = .ok (.getfield 15, 3) := by decide +kernel
theorem dX8_square_26 : decode cX8_square 26 = .ok (.iload_n 1, 1) := by decide +kernel
theorem dX8_square_27 : decode cX8_square 27 = .ok (.bipush 7, 2) := by decide +kernel
theorem dX8_square_29 : decode cX8_square 29 = .ok (.imul, 1) := by decide +kernel
theorem dX8_square_30 : decode cX8_square 30 = .ok (.iload_n 2, 1) := by decide +kernel
theorem dX8_square_31 : decode cX8_square 31 = .ok (.iadd, 1) := by decide +kernel
theorem dX8_square_32 : decode cX8_square 32 = .ok (.iaload, 1) := by decide +kernel
theorem dX8_square_33 : decode cX8_square 33 = .ok (.ireturn, 1) := by decide +kernel
set_option maxRecDepth 20000 in
theorem ggX8_toldOrNone_X8_square : GoodIn wsX8_toldOrNone wsX8_square := goodIn_r _ [5, 6, 7, 8] (by decide +kernel) (by decide +kernel)
set_option maxRecDepth 20000 in
theorem gX8_toldOrNone_X8_square : GoodIn wsX8_toldOrNone (wsV RX8 43 RX8 yX8_square wsX8_square) := goodIn_app (goodIn_of _ (by decide +kernel)) ggX8_toldOrNone_X8_square
theorem dX8_toldOrNone_0 : decode cX8_toldOrNone 0 = .ok (.aload_n 0, 1) := by decide +kernel
theorem dX8_toldOrNone_1 : decode cX8_toldOrNone 1 = .ok (.iload_n 1, 1) := by decide +kernel
theorem dX8_toldOrNone_2 : decode cX8_toldOrNone 2 = .ok (.iload_n 2, 1) := by decide +kernel
theorem dX8_toldOrNone_3 : decode cX8_toldOrNone 3 = .ok (.invokevirtual 43, 3) := by decide +kernel
theorem dX8_toldOrNone_6 : decode cX8_toldOrNone 6 = .ok (.istore_n 3, 1) := by decide +kernel
theorem dX8_toldOrNone_7 : decode cX8_toldOrNone 7 = .ok (.iload_n 3, 1) := by decide +kernel
theorem dX8_toldOrNone_8 : decode cX8_toldOrNone 8 = .ok (.ifCond .ne 8, 3) := by decide +kernel
theorem dX8_toldOrNone_11 : decode cX8_toldOrNone 11 = .ok (.bipush (-4), 2) := by decide +kernel
theorem dX8_toldOrNone_13 : decode cX8_toldOrNone 13 = .ok (.goto 4, 3) := by decide +kernel
theorem dX8_toldOrNone_16 : decode cX8_toldOrNone 16 = .ok (.iload_n 3, 1) := by decide +kernel
theorem dX8_toldOrNone_17 : decode cX8_toldOrNone 17 = .ok (.ireturn, 1) := by decide +kernel
theorem dX8_put_0 : decode cX8_put 0 = .ok (.iload_n 1, 1) := by decide +kernel
theorem dX8_put_1 : decode cX8_put 1 = .ok (.ifCond .lt 24, 3) := by decide +kernel
theorem dX8_put_4 : decode cX8_put 4 = .ok (.iload_n 1, 1) := by decide +kernel
theorem dX8_put_5 : decode cX8_put 5 = .ok (.bipush 7, 2) := by decide +kernel
theorem dX8_put_7 : decode cX8_put 7 = .ok (.if_icmp .ge 18, 3) := by decide +kernel
theorem dX8_put_10 : decode cX8_put 10 = .ok (.iload_n 2, 1) := by decide +kernel
theorem dX8_put_11 : decode cX8_put 11 = .ok (.ifCond .lt 14, 3) := by decide +kernel
theorem dX8_put_14 : decode cX8_put 14 = .ok (.iload_n 2, 1) := by decide +kernel
theorem dX8_put_15 : decode cX8_put 15 = .ok (.bipush 7, 2) := by decide +kernel
theorem dX8_put_17 : decode cX8_put 17 = .ok (.if_icmp .ge 8, 3) := by decide +kernel
theorem dX8_put_20 : decode cX8_put 20 = .ok (.iload_n 1, 1) := by decide +kernel
theorem dX8_put_21 : decode cX8_put 21 = .ok (.iload_n 2, 1) := by decide +kernel
theorem dX8_put_22 : decode cX8_put 22 = .ok (.if_icmp .ne 4, 3) := by decide +kernel
theorem dX8_put_25 : decode cX8_put 25 = .ok (.return_, 1) := by decide +kernel
theorem dX8_put_26 : decode cX8_put 26 = .ok (.aload_n 0, 1) := by decide +kernel
theorem dX8_put_27 : decode cX8_put 27 = .ok (.getfield 15, 3) := by decide +kernel
theorem dX8_put_30 : decode cX8_put 30 = .ok (.iload_n 1, 1) := by decide +kernel
theorem dX8_put_31 : decode cX8_put 31 = .ok (.bipush 7, 2) := by decide +kernel
theorem dX8_put_33 : decode cX8_put 33 = .ok (.imul, 1) := by decide +kernel
theorem dX8_put_34 : decode cX8_put 34 = .ok (.iload_n 2, 1) := by decide +kernel
theorem dX8_put_35 : decode cX8_put 35 = .ok (.iadd, 1) := by decide +kernel
theorem dX8_put_36 : decode cX8_put 36 = .ok (.iload_n 3, 1) := by decide +kernel
theorem dX8_put_37 : decode cX8_put 37 = .ok (.iastore, 1) := by decide +kernel
theorem dX8_put_38 : decode cX8_put 38 = .ok (.aload_n 0, 1) := by decide +kernel
theorem dX8_put_39 : decode cX8_put 39 = .ok (.getfield 15, 3) := by decide +kernel
theorem dX8_put_42 : decode cX8_put 42 = .ok (.iload_n 2, 1) := by decide +kernel
theorem dX8_put_43 : decode cX8_put 43 = .ok (.bipush 7, 2) := by decide +kernel
theorem dX8_put_45 : decode cX8_put 45 = .ok (.imul, 1) := by decide +kernel
theorem dX8_put_46 : decode cX8_put 46 = .ok (.iload_n 1, 1) := by decide +kernel
theorem dX8_put_47 : decode cX8_put 47 = .ok (.iadd, 1) := by decide +kernel
theorem dX8_put_48 : decode cX8_put 48 = .ok (.iload_n 3, 1) := by decide +kernel
theorem dX8_put_49 : decode cX8_put 49 = .ok (.iastore, 1) := by decide +kernel
theorem dX8_put_50 : decode cX8_put 50 = .ok (.return_, 1) := by decide +kernel
set_option maxRecDepth 20000 in
theorem ggX8_countTold_X8_square : GoodIn wsX8_countTold wsX8_square := goodIn_r _ [6, 7, 11, 12] (by decide +kernel) (by decide +kernel)
set_option maxRecDepth 20000 in
theorem gX8_countTold_X8_square : GoodIn wsX8_countTold (wsV RX8 43 RX8 yX8_square wsX8_square) := goodIn_app (goodIn_of _ (by decide +kernel)) ggX8_countTold_X8_square
set_option maxRecDepth 20000 in
theorem ggX8_countTold_X10_bit : GoodIn wsX8_countTold wsX10_bit := goodIn_r _ [10] (by decide +kernel) (by decide +kernel)
set_option maxRecDepth 20000 in
theorem gX8_countTold_X10_bit_n47 : GoodIn wsX8_countTold (wsX10_bit) := ggX8_countTold_X10_bit
theorem dX8_countTold_0 : decode cX8_countTold 0 = .ok (.iconst 0, 1) := by decide +kernel
theorem dX8_countTold_1 : decode cX8_countTold 1 = .ok (.istore_n 1, 1) := by decide +kernel
theorem dX8_countTold_2 : decode cX8_countTold 2 = .ok (.iconst 1, 1) := by decide +kernel
theorem dX8_countTold_3 : decode cX8_countTold 3 = .ok (.istore_n 2, 1) := by decide +kernel
theorem dX8_countTold_4 : decode cX8_countTold 4 = .ok (.iload_n 2, 1) := by decide +kernel
theorem dX8_countTold_5 : decode cX8_countTold 5 = .ok (.aload_n 0, 1) := by decide +kernel
theorem dX8_countTold_6 : decode cX8_countTold 6 = .ok (.getfield 9, 3) := by decide +kernel
theorem dX8_countTold_9 : decode cX8_countTold 9 = .ok (.if_icmp .ge 42, 3) := by decide +kernel
theorem dX8_countTold_12 : decode cX8_countTold 12 = .ok (.iconst 0, 1) := by decide +kernel
theorem dX8_countTold_13 : decode cX8_countTold 13 = .ok (.istore_n 3, 1) := by decide +kernel
theorem dX8_countTold_14 : decode cX8_countTold 14 = .ok (.iload_n 3, 1) := by decide +kernel
theorem dX8_countTold_15 : decode cX8_countTold 15 = .ok (.iload_n 2, 1) := by decide +kernel
theorem dX8_countTold_16 : decode cX8_countTold 16 = .ok (.if_icmp .ge 29, 3) := by decide +kernel
theorem dX8_countTold_19 : decode cX8_countTold 19 = .ok (.iload_n 1, 1) := by decide +kernel
theorem dX8_countTold_20 : decode cX8_countTold 20 = .ok (.aload_n 0, 1) := by decide +kernel
theorem dX8_countTold_21 : decode cX8_countTold 21 = .ok (.iload_n 3, 1) := by decide +kernel
theorem dX8_countTold_22 : decode cX8_countTold 22 = .ok (.iload_n 2, 1) := by decide +kernel
theorem dX8_countTold_23 : decode cX8_countTold 23 = .ok (.invokevirtual 43, 3) := by decide +kernel
theorem dX8_countTold_26 : decode cX8_countTold 26 = .ok (.ifCond .le 7, 3) := by decide +kernel
theorem dX8_countTold_29 : decode cX8_countTold 29 = .ok (.iconst 1, 1) := by decide +kernel
theorem dX8_countTold_30 : decode cX8_countTold 30 = .ok (.goto 4, 3) := by decide +kernel
theorem dX8_countTold_33 : decode cX8_countTold 33 = .ok (.iconst 0, 1) := by decide +kernel
theorem dX8_countTold_34 : decode cX8_countTold 34 = .ok (.invokestatic 47, 3) := by decide +kernel
theorem dX8_countTold_37 : decode cX8_countTold 37 = .ok (.iadd, 1) := by decide +kernel
theorem dX8_countTold_38 : decode cX8_countTold 38 = .ok (.istore_n 1, 1) := by decide +kernel
theorem dX8_countTold_39 : decode cX8_countTold 39 = .ok (.iinc 3 1, 3) := by decide +kernel
theorem dX8_countTold_42 : decode cX8_countTold 42 = .ok (.goto (-28), 3) := by decide +kernel
theorem dX8_countTold_45 : decode cX8_countTold 45 = .ok (.iinc 2 1, 3) := by decide +kernel
theorem dX8_countTold_48 : decode cX8_countTold 48 = .ok (.goto (-44), 3) := by decide +kernel
theorem dX8_countTold_51 : decode cX8_countTold 51 = .ok (.iload_n 1, 1) := by decide +kernel
theorem dX8_countTold_52 : decode cX8_countTold 52 = .ok (.ireturn, 1) := by decide +kernel
set_option maxRecDepth 20000 in
theorem ggX8_isToldThree_X8_square : GoodIn wsX8_isToldThree wsX8_square := goodIn_r _ [5, 6, 7, 8] (by decide +kernel) (by decide +kernel)
set_option maxRecDepth 20000 in
theorem gX8_isToldThree_X8_square : GoodIn wsX8_isToldThree (wsV RX8 43 RX8 yX8_square wsX8_square) := goodIn_app (goodIn_of _ (by decide +kernel)) ggX8_isToldThree_X8_square
theorem dX8_isToldThree_0 : decode cX8_isToldThree 0 = .ok (.aload_n 0, 1) := by decide +kernel
theorem dX8_isToldThree_1 : decode cX8_isToldThree 1 = .ok (.iload_n 1, 1) := by decide +kernel
theorem dX8_isToldThree_2 : decode cX8_isToldThree 2 = .ok (.iload_n 2, 1) := by decide +kernel
theorem dX8_isToldThree_3 : decode cX8_isToldThree 3 = .ok (.invokevirtual 43, 3) := by decide +kernel
theorem dX8_isToldThree_6 : decode cX8_isToldThree 6 = .ok (.ifCond .le 25, 3) := by decide +kernel
theorem dX8_isToldThree_9 : decode cX8_isToldThree 9 = .ok (.aload_n 0, 1) := by decide +kernel
theorem dX8_isToldThree_10 : decode cX8_isToldThree 10 = .ok (.iload_n 1, 1) := by decide +kernel
theorem dX8_isToldThree_11 : decode cX8_isToldThree 11 = .ok (.iload_n 3, 1) := by decide +kernel
theorem dX8_isToldThree_12 : decode cX8_isToldThree 12 = .ok (.invokevirtual 43, 3) := by decide +kernel
theorem dX8_isToldThree_15 : decode cX8_isToldThree 15 = .ok (.ifCond .le 16, 3) := by decide +kernel
theorem dX8_isToldThree_18 : decode cX8_isToldThree 18 = .ok (.aload_n 0, 1) := by decide +kernel
theorem dX8_isToldThree_19 : decode cX8_isToldThree 19 = .ok (.iload_n 2, 1) := by decide +kernel
theorem dX8_isToldThree_20 : decode cX8_isToldThree 20 = .ok (.iload_n 3, 1) := by decide +kernel
theorem dX8_isToldThree_21 : decode cX8_isToldThree 21 = .ok (.invokevirtual 43, 3) := by decide +kernel
theorem dX8_isToldThree_24 : decode cX8_isToldThree 24 = .ok (.ifCond .le 7, 3) := by decide +kernel
theorem dX8_isToldThree_27 : decode cX8_isToldThree 27 = .ok (.iconst 1, 1) := by decide +kernel
theorem dX8_isToldThree_28 : decode cX8_isToldThree 28 = .ok (.goto 4, 3) := by decide +kernel
theorem dX8_isToldThree_31 : decode cX8_isToldThree 31 = .ok (.iconst 0, 1) := by decide +kernel
theorem dX8_isToldThree_32 : decode cX8_isToldThree 32 = .ok (.ireturn, 1) := by decide +kernel
set_option maxRecDepth 20000 in
theorem ggX8_isToldFour_X8_isToldThree : GoodIn wsX8_isToldFour wsX8_isToldThree := goodIn_r _ [5, 6, 7, 8, 4, 9, 10, 11, 12] (by decide +kernel) (by decide +kernel)
set_option maxRecDepth 20000 in
theorem gX8_isToldFour_X8_isToldThree : GoodIn wsX8_isToldFour (wsV RX8 51 RX8 yX8_isToldThree wsX8_isToldThree) := goodIn_app (goodIn_of _ (by decide +kernel)) ggX8_isToldFour_X8_isToldThree
set_option maxRecDepth 20000 in
theorem ggX8_isToldFour_X8_square : GoodIn wsX8_isToldFour wsX8_square := goodIn_r _ [9, 10, 11, 12] (by decide +kernel) (by decide +kernel)
set_option maxRecDepth 20000 in
theorem gX8_isToldFour_X8_square : GoodIn wsX8_isToldFour (wsV RX8 43 RX8 yX8_square wsX8_square) := goodIn_app (goodIn_of _ (by decide +kernel)) ggX8_isToldFour_X8_square
theorem dX8_isToldFour_0 : decode cX8_isToldFour 0 = .ok (.aload_n 0, 1) := by decide +kernel
theorem dX8_isToldFour_1 : decode cX8_isToldFour 1 = .ok (.iload_n 1, 1) := by decide +kernel
theorem dX8_isToldFour_2 : decode cX8_isToldFour 2 = .ok (.iload_n 2, 1) := by decide +kernel
theorem dX8_isToldFour_3 : decode cX8_isToldFour 3 = .ok (.iload_n 3, 1) := by decide +kernel
theorem dX8_isToldFour_4 : decode cX8_isToldFour 4 = .ok (.invokevirtual 51, 3) := by decide +kernel
theorem dX8_isToldFour_7 : decode cX8_isToldFour 7 = .ok (.ifCond .eq 28, 3) := by decide +kernel
theorem dX8_isToldFour_10 : decode cX8_isToldFour 10 = .ok (.aload_n 0, 1) := by decide +kernel
theorem dX8_isToldFour_11 : decode cX8_isToldFour 11 = .ok (.iload_n 1, 1) := by decide +kernel
theorem dX8_isToldFour_12 : decode cX8_isToldFour 12 = .ok (.iload_n 2, 1) := by decide +kernel
theorem dX8_isToldFour_13 : decode cX8_isToldFour 13 = .ok (.iload 4, 2) := by decide +kernel
theorem dX8_isToldFour_15 : decode cX8_isToldFour 15 = .ok (.invokevirtual 51, 3) := by decide +kernel
theorem dX8_isToldFour_18 : decode cX8_isToldFour 18 = .ok (.ifCond .eq 17, 3) := by decide +kernel
theorem dX8_isToldFour_21 : decode cX8_isToldFour 21 = .ok (.aload_n 0, 1) := by decide +kernel
theorem dX8_isToldFour_22 : decode cX8_isToldFour 22 = .ok (.iload_n 3, 1) := by decide +kernel
theorem dX8_isToldFour_23 : decode cX8_isToldFour 23 = .ok (.iload 4, 2) := by decide +kernel
theorem dX8_isToldFour_25 : decode cX8_isToldFour 25 = .ok (.invokevirtual 43, 3) := by decide +kernel
theorem dX8_isToldFour_28 : decode cX8_isToldFour 28 = .ok (.ifCond .le 7, 3) := by decide +kernel
theorem dX8_isToldFour_31 : decode cX8_isToldFour 31 = .ok (.iconst 1, 1) := by decide +kernel
theorem dX8_isToldFour_32 : decode cX8_isToldFour 32 = .ok (.goto 4, 3) := by decide +kernel
theorem dX8_isToldFour_35 : decode cX8_isToldFour 35 = .ok (.iconst 0, 1) := by decide +kernel
theorem dX8_isToldFour_36 : decode cX8_isToldFour 36 = .ok (.ireturn, 1) := by decide +kernel
set_option maxRecDepth 20000 in
theorem ggX8_leaning_X8_square : GoodIn wsX8_leaning wsX8_square := goodIn_r _ [5, 6, 7, 8] (by decide +kernel) (by decide +kernel)
set_option maxRecDepth 20000 in
theorem gX8_leaning_X8_square : GoodIn wsX8_leaning (wsV RX8 43 RX8 yX8_square wsX8_square) := goodIn_app (goodIn_of _ (by decide +kernel)) ggX8_leaning_X8_square
theorem dX8_leaning_0 : decode cX8_leaning 0 = .ok (.aload_n 0, 1) := by decide +kernel
theorem dX8_leaning_1 : decode cX8_leaning 1 = .ok (.iload_n 1, 1) := by decide +kernel
theorem dX8_leaning_2 : decode cX8_leaning 2 = .ok (.iload_n 2, 1) := by decide +kernel
theorem dX8_leaning_3 : decode cX8_leaning 3 = .ok (.invokevirtual 43, 3) := by decide +kernel
theorem dX8_leaning_6 : decode cX8_leaning 6 = .ok (.i2l, 1) := by decide +kernel
theorem dX8_leaning_7 : decode cX8_leaning 7 = .ok (.aload_n 0, 1) := by decide +kernel
theorem dX8_leaning_8 : decode cX8_leaning 8 = .ok (.iload_n 1, 1) := by decide +kernel
theorem dX8_leaning_9 : decode cX8_leaning 9 = .ok (.iload_n 3, 1) := by decide +kernel
theorem dX8_leaning_10 : decode cX8_leaning 10 = .ok (.invokevirtual 43, 3) := by decide +kernel
theorem dX8_leaning_13 : decode cX8_leaning 13 = .ok (.i2l, 1) := by decide +kernel
theorem dX8_leaning_14 : decode cX8_leaning 14 = .ok (.ladd, 1) := by decide +kernel
theorem dX8_leaning_15 : decode cX8_leaning 15 = .ok (.aload_n 0, 1) := by decide +kernel
theorem dX8_leaning_16 : decode cX8_leaning 16 = .ok (.iload_n 2, 1) := by decide +kernel
theorem dX8_leaning_17 : decode cX8_leaning 17 = .ok (.iload_n 3, 1) := by decide +kernel
theorem dX8_leaning_18 : decode cX8_leaning 18 = .ok (.invokevirtual 43, 3) := by decide +kernel
theorem dX8_leaning_21 : decode cX8_leaning 21 = .ok (.i2l, 1) := by decide +kernel
theorem dX8_leaning_22 : decode cX8_leaning 22 = .ok (.lsub, 1) := by decide +kernel
theorem dX8_leaning_23 : decode cX8_leaning 23 = .ok (.lreturn, 1) := by decide +kernel
set_option maxRecDepth 20000 in
theorem ggX8_wideOf_X8_square : GoodIn wsX8_wideOf wsX8_square := goodIn_r _ [5, 6, 11, 12] (by decide +kernel) (by decide +kernel)
set_option maxRecDepth 20000 in
theorem gX8_wideOf_X8_square : GoodIn wsX8_wideOf (wsV RX8 43 RX8 yX8_square wsX8_square) := goodIn_app (goodIn_of _ (by decide +kernel)) ggX8_wideOf_X8_square
set_option maxRecDepth 20000 in
theorem ggX8_wideOf_X10_wideOfSquares : GoodIn wsX8_wideOf wsX10_wideOfSquares := goodIn_r _ [9, 10] (by decide +kernel) (by decide +kernel)
set_option maxRecDepth 20000 in
theorem gX8_wideOf_X10_wideOfSquares_n54 : GoodIn wsX8_wideOf (wsX10_wideOfSquares) := ggX8_wideOf_X10_wideOfSquares
theorem dX8_wideOf_0 : decode cX8_wideOf 0 = .ok (.aload_n 0, 1) := by decide +kernel
theorem dX8_wideOf_1 : decode cX8_wideOf 1 = .ok (.iload_n 1, 1) := by decide +kernel
theorem dX8_wideOf_2 : decode cX8_wideOf 2 = .ok (.iload_n 2, 1) := by decide +kernel
theorem dX8_wideOf_3 : decode cX8_wideOf 3 = .ok (.invokevirtual 43, 3) := by decide +kernel
theorem dX8_wideOf_6 : decode cX8_wideOf 6 = .ok (.i2l, 1) := by decide +kernel
theorem dX8_wideOf_7 : decode cX8_wideOf 7 = .ok (.aload_n 0, 1) := by decide +kernel
theorem dX8_wideOf_8 : decode cX8_wideOf 8 = .ok (.iload_n 1, 1) := by decide +kernel
theorem dX8_wideOf_9 : decode cX8_wideOf 9 = .ok (.iload_n 3, 1) := by decide +kernel
theorem dX8_wideOf_10 : decode cX8_wideOf 10 = .ok (.invokevirtual 43, 3) := by decide +kernel
theorem dX8_wideOf_13 : decode cX8_wideOf 13 = .ok (.i2l, 1) := by decide +kernel
theorem dX8_wideOf_14 : decode cX8_wideOf 14 = .ok (.aload_n 0, 1) := by decide +kernel
theorem dX8_wideOf_15 : decode cX8_wideOf 15 = .ok (.iload_n 2, 1) := by decide +kernel
theorem dX8_wideOf_16 : decode cX8_wideOf 16 = .ok (.iload_n 3, 1) := by decide +kernel
theorem dX8_wideOf_17 : decode cX8_wideOf 17 = .ok (.invokevirtual 43, 3) := by decide +kernel
theorem dX8_wideOf_20 : decode cX8_wideOf 20 = .ok (.i2l, 1) := by decide +kernel
theorem dX8_wideOf_21 : decode cX8_wideOf 21 = .ok (.invokestatic 54, 3) := by decide +kernel
theorem dX8_wideOf_24 : decode cX8_wideOf 24 = .ok (.lreturn, 1) := by decide +kernel
set_option maxRecDepth 20000 in
theorem ggX8_canBeThree_X8_wideOf : GoodIn wsX8_canBeThree wsX8_wideOf := goodIn_r _ [5, 6, 7, 8, 4, 9, 10, 11, 12, 13, 14, 15, 16] (by decide +kernel) (by decide +kernel)
set_option maxRecDepth 20000 in
theorem gX8_canBeThree_X8_wideOf : GoodIn wsX8_canBeThree (wsV RX8 58 RX8 yX8_wideOf wsX8_wideOf) := goodIn_app (goodIn_of _ (by decide +kernel)) ggX8_canBeThree_X8_wideOf
theorem dX8_canBeThree_0 : decode cX8_canBeThree 0 = .ok (.aload_n 0, 1) := by decide +kernel
theorem dX8_canBeThree_1 : decode cX8_canBeThree 1 = .ok (.iload_n 1, 1) := by decide +kernel
theorem dX8_canBeThree_2 : decode cX8_canBeThree 2 = .ok (.iload_n 2, 1) := by decide +kernel
theorem dX8_canBeThree_3 : decode cX8_canBeThree 3 = .ok (.iload_n 3, 1) := by decide +kernel
theorem dX8_canBeThree_4 : decode cX8_canBeThree 4 = .ok (.invokevirtual 58, 3) := by decide +kernel
theorem dX8_canBeThree_7 : decode cX8_canBeThree 7 = .ok (.lconst 0, 1) := by decide +kernel
theorem dX8_canBeThree_8 : decode cX8_canBeThree 8 = .ok (.lcmp, 1) := by decide +kernel
theorem dX8_canBeThree_9 : decode cX8_canBeThree 9 = .ok (.ifCond .lt 7, 3) := by decide +kernel
theorem dX8_canBeThree_12 : decode cX8_canBeThree 12 = .ok (.iconst 1, 1) := by decide +kernel
theorem dX8_canBeThree_13 : decode cX8_canBeThree 13 = .ok (.goto 4, 3) := by decide +kernel
theorem dX8_canBeThree_16 : decode cX8_canBeThree 16 = .ok (.iconst 0, 1) := by decide +kernel
theorem dX8_canBeThree_17 : decode cX8_canBeThree 17 = .ok (.ireturn, 1) := by decide +kernel
set_option maxRecDepth 20000 in
theorem ggX8_canBeFour_X8_canBeThree : GoodIn wsX8_canBeFour wsX8_canBeThree := goodIn_r _ [5, 6, 7, 8, 4, 9, 10, 11, 12, 13, 14, 15, 16, 17, 18, 28, 29] (by decide +kernel) (by decide +kernel)
set_option maxRecDepth 20000 in
theorem gX8_canBeFour_X8_canBeThree : GoodIn wsX8_canBeFour (wsV RX8 62 RX8 yX8_canBeThree wsX8_canBeThree) := goodIn_app (goodIn_of _ (by decide +kernel)) ggX8_canBeFour_X8_canBeThree
set_option maxRecDepth 20000 in
theorem ggX8_canBeFour_X8_isFlatFour : GoodIn wsX8_canBeFour wsX8_isFlatFour := goodIn_r _ [22, 23, 10, 11, 12, 4, 13, 14, 24, 25, 26, 27, 28, 29] (by decide +kernel) (by decide +kernel)
set_option maxRecDepth 20000 in
theorem gX8_canBeFour_X8_isFlatFour : GoodIn wsX8_canBeFour (wsV RX8 65 RX8 yX8_isFlatFour wsX8_isFlatFour) := goodIn_app (goodIn_of _ (by decide +kernel)) ggX8_canBeFour_X8_isFlatFour
theorem dX8_canBeFour_0 : decode cX8_canBeFour 0 = .ok (.aload_n 0, 1) := by decide +kernel
theorem dX8_canBeFour_1 : decode cX8_canBeFour 1 = .ok (.iload_n 1, 1) := by decide +kernel
theorem dX8_canBeFour_2 : decode cX8_canBeFour 2 = .ok (.iload_n 2, 1) := by decide +kernel
theorem dX8_canBeFour_3 : decode cX8_canBeFour 3 = .ok (.iload_n 3, 1) := by decide +kernel
theorem dX8_canBeFour_4 : decode cX8_canBeFour 4 = .ok (.invokevirtual 62, 3) := by decide +kernel
theorem dX8_canBeFour_7 : decode cX8_canBeFour 7 = .ok (.ifCond .eq 52, 3) := by decide +kernel
theorem dX8_canBeFour_10 : decode cX8_canBeFour 10 = .ok (.aload_n 0, 1) := by decide +kernel
theorem dX8_canBeFour_11 : decode cX8_canBeFour 11 = .ok (.iload_n 1, 1) := by decide +kernel
theorem dX8_canBeFour_12 : decode cX8_canBeFour 12 = .ok (.iload_n 2, 1) := by decide +kernel
theorem dX8_canBeFour_13 : decode cX8_canBeFour 13 = .ok (.iload 4, 2) := by decide +kernel
theorem dX8_canBeFour_15 : decode cX8_canBeFour 15 = .ok (.invokevirtual 62, 3) := by decide +kernel
theorem dX8_canBeFour_18 : decode cX8_canBeFour 18 = .ok (.ifCond .eq 41, 3) := by decide +kernel
theorem dX8_canBeFour_21 : decode cX8_canBeFour 21 = .ok (.aload_n 0, 1) := by decide +kernel
theorem dX8_canBeFour_22 : decode cX8_canBeFour 22 = .ok (.iload_n 1, 1) := by decide +kernel
theorem dX8_canBeFour_23 : decode cX8_canBeFour 23 = .ok (.iload_n 3, 1) := by decide +kernel
theorem dX8_canBeFour_24 : decode cX8_canBeFour 24 = .ok (.iload 4, 2) := by decide +kernel
theorem dX8_canBeFour_26 : decode cX8_canBeFour 26 = .ok (.invokevirtual 62, 3) := by decide +kernel
theorem dX8_canBeFour_29 : decode cX8_canBeFour 29 = .ok (.ifCond .eq 30, 3) := by decide +kernel
theorem dX8_canBeFour_32 : decode cX8_canBeFour 32 = .ok (.aload_n 0, 1) := by decide +kernel
theorem dX8_canBeFour_33 : decode cX8_canBeFour 33 = .ok (.iload_n 2, 1) := by decide +kernel
theorem dX8_canBeFour_34 : decode cX8_canBeFour 34 = .ok (.iload_n 3, 1) := by decide +kernel
theorem dX8_canBeFour_35 : decode cX8_canBeFour 35 = .ok (.iload 4, 2) := by decide +kernel
theorem dX8_canBeFour_37 : decode cX8_canBeFour 37 = .ok (.invokevirtual 62, 3) := by decide +kernel
theorem dX8_canBeFour_40 : decode cX8_canBeFour 40 = .ok (.ifCond .eq 19, 3) := by decide +kernel
theorem dX8_canBeFour_43 : decode cX8_canBeFour 43 = .ok (.aload_n 0, 1) := by decide +kernel
theorem dX8_canBeFour_44 : decode cX8_canBeFour 44 = .ok (.iload_n 1, 1) := by decide +kernel
theorem dX8_canBeFour_45 : decode cX8_canBeFour 45 = .ok (.iload_n 2, 1) := by decide +kernel
theorem dX8_canBeFour_46 : decode cX8_canBeFour 46 = .ok (.iload_n 3, 1) := by decide +kernel
theorem dX8_canBeFour_47 : decode cX8_canBeFour 47 = .ok (.iload 4, 2) := by decide +kernel
theorem dX8_canBeFour_49 : decode cX8_canBeFour 49 = .ok (.invokevirtual 65, 3) := by decide +kernel
theorem dX8_canBeFour_52 : decode cX8_canBeFour 52 = .ok (.ifCond .eq 7, 3) := by decide +kernel
theorem dX8_canBeFour_55 : decode cX8_canBeFour 55 = .ok (.iconst 1, 1) := by decide +kernel
theorem dX8_canBeFour_56 : decode cX8_canBeFour 56 = .ok (.goto 4, 3) := by decide +kernel
theorem dX8_canBeFour_59 : decode cX8_canBeFour 59 = .ok (.iconst 0, 1) := by decide +kernel
theorem dX8_canBeFour_60 : decode cX8_canBeFour 60 = .ok (.ireturn, 1) := by decide +kernel
set_option maxRecDepth 20000 in
theorem ggX8_isFlatFour_X8_square : GoodIn wsX8_isFlatFour wsX8_square := goodIn_r _ [6, 7, 12, 13] (by decide +kernel) (by decide +kernel)
set_option maxRecDepth 20000 in
theorem gX8_isFlatFour_X8_square : GoodIn wsX8_isFlatFour (wsV RX8 43 RX8 yX8_square wsX8_square) := goodIn_app (goodIn_of _ (by decide +kernel)) ggX8_isFlatFour_X8_square
set_option maxRecDepth 20000 in
theorem ggX8_isFlatFour_X8_leaning : GoodIn wsX8_isFlatFour wsX8_leaning := goodIn_r _ [11, 2, 3, 4, 5, 6, 7, 12, 13] (by decide +kernel) (by decide +kernel)
set_option maxRecDepth 20000 in
theorem gX8_isFlatFour_X8_leaning : GoodIn wsX8_isFlatFour (wsV RX8 71 RX8 yX8_leaning wsX8_leaning) := goodIn_app (goodIn_of _ (by decide +kernel)) ggX8_isFlatFour_X8_leaning
theorem dX8_isFlatFour_0 : decode cX8_isFlatFour 0 = .ok (.ldc2_w 69, 3) := by decide +kernel
theorem dX8_isFlatFour_3 : decode cX8_isFlatFour 3 = .ok (.aload_n 0, 1) := by decide +kernel
theorem dX8_isFlatFour_4 : decode cX8_isFlatFour 4 = .ok (.iload_n 1, 1) := by decide +kernel
theorem dX8_isFlatFour_5 : decode cX8_isFlatFour 5 = .ok (.iload_n 2, 1) := by decide +kernel
theorem dX8_isFlatFour_6 : decode cX8_isFlatFour 6 = .ok (.invokevirtual 43, 3) := by decide +kernel
theorem dX8_isFlatFour_9 : decode cX8_isFlatFour 9 = .ok (.i2l, 1) := by decide +kernel
theorem dX8_isFlatFour_10 : decode cX8_isFlatFour 10 = .ok (.lmul, 1) := by decide +kernel
theorem dX8_isFlatFour_11 : decode cX8_isFlatFour 11 = .ok (.lstore 5, 2) := by decide +kernel
theorem dX8_isFlatFour_13 : decode cX8_isFlatFour 13 = .ok (.ldc2_w 69, 3) := by decide +kernel
theorem dX8_isFlatFour_16 : decode cX8_isFlatFour 16 = .ok (.aload_n 0, 1) := by decide +kernel
theorem dX8_isFlatFour_17 : decode cX8_isFlatFour 17 = .ok (.iload_n 1, 1) := by decide +kernel
theorem dX8_isFlatFour_18 : decode cX8_isFlatFour 18 = .ok (.iload_n 3, 1) := by decide +kernel
theorem dX8_isFlatFour_19 : decode cX8_isFlatFour 19 = .ok (.invokevirtual 43, 3) := by decide +kernel
theorem dX8_isFlatFour_22 : decode cX8_isFlatFour 22 = .ok (.i2l, 1) := by decide +kernel
theorem dX8_isFlatFour_23 : decode cX8_isFlatFour 23 = .ok (.lmul, 1) := by decide +kernel
theorem dX8_isFlatFour_24 : decode cX8_isFlatFour 24 = .ok (.lstore 7, 2) := by decide +kernel
theorem dX8_isFlatFour_26 : decode cX8_isFlatFour 26 = .ok (.ldc2_w 69, 3) := by decide +kernel
theorem dX8_isFlatFour_29 : decode cX8_isFlatFour 29 = .ok (.aload_n 0, 1) := by decide +kernel
theorem dX8_isFlatFour_30 : decode cX8_isFlatFour 30 = .ok (.iload_n 1, 1) := by decide +kernel
theorem dX8_isFlatFour_31 : decode cX8_isFlatFour 31 = .ok (.iload 4, 2) := by decide +kernel
theorem dX8_isFlatFour_33 : decode cX8_isFlatFour 33 = .ok (.invokevirtual 43, 3) := by decide +kernel
theorem dX8_isFlatFour_36 : decode cX8_isFlatFour 36 = .ok (.i2l, 1) := by decide +kernel
theorem dX8_isFlatFour_37 : decode cX8_isFlatFour 37 = .ok (.lmul, 1) := by decide +kernel
theorem dX8_isFlatFour_38 : decode cX8_isFlatFour 38 = .ok (.lstore 9, 2) := by decide +kernel
theorem dX8_isFlatFour_40 : decode cX8_isFlatFour 40 = .ok (.aload_n 0, 1) := by decide +kernel
theorem dX8_isFlatFour_41 : decode cX8_isFlatFour 41 = .ok (.iload_n 1, 1) := by decide +kernel
theorem dX8_isFlatFour_42 : decode cX8_isFlatFour 42 = .ok (.iload_n 2, 1) := by decide +kernel
theorem dX8_isFlatFour_43 : decode cX8_isFlatFour 43 = .ok (.iload_n 3, 1) := by decide +kernel
theorem dX8_isFlatFour_44 : decode cX8_isFlatFour 44 = .ok (.invokevirtual 71, 3) := by decide +kernel
theorem dX8_isFlatFour_47 : decode cX8_isFlatFour 47 = .ok (.lstore 11, 2) := by decide +kernel
theorem dX8_isFlatFour_49 : decode cX8_isFlatFour 49 = .ok (.aload_n 0, 1) := by decide +kernel
theorem dX8_isFlatFour_50 : decode cX8_isFlatFour 50 = .ok (.iload_n 1, 1) := by decide +kernel
theorem dX8_isFlatFour_51 : decode cX8_isFlatFour 51 = .ok (.iload_n 2, 1) := by decide +kernel
theorem dX8_isFlatFour_52 : decode cX8_isFlatFour 52 = .ok (.iload 4, 2) := by decide +kernel
theorem dX8_isFlatFour_54 : decode cX8_isFlatFour 54 = .ok (.invokevirtual 71, 3) := by decide +kernel
theorem dX8_isFlatFour_57 : decode cX8_isFlatFour 57 = .ok (.lstore 13, 2) := by decide +kernel
theorem dX8_isFlatFour_59 : decode cX8_isFlatFour 59 = .ok (.aload_n 0, 1) := by decide +kernel
theorem dX8_isFlatFour_60 : decode cX8_isFlatFour 60 = .ok (.iload_n 1, 1) := by decide +kernel
theorem dX8_isFlatFour_61 : decode cX8_isFlatFour 61 = .ok (.iload_n 3, 1) := by decide +kernel
theorem dX8_isFlatFour_62 : decode cX8_isFlatFour 62 = .ok (.iload 4, 2) := by decide +kernel
theorem dX8_isFlatFour_64 : decode cX8_isFlatFour 64 = .ok (.invokevirtual 71, 3) := by decide +kernel
theorem dX8_isFlatFour_67 : decode cX8_isFlatFour 67 = .ok (.lstore 15, 2) := by decide +kernel
theorem dX8_isFlatFour_69 : decode cX8_isFlatFour 69 = .ok (.lload 5, 2) := by decide +kernel
theorem dX8_isFlatFour_71 : decode cX8_isFlatFour 71 = .ok (.lload 7, 2) := by decide +kernel
theorem dX8_isFlatFour_73 : decode cX8_isFlatFour 73 = .ok (.lmul, 1) := by decide +kernel
theorem dX8_isFlatFour_74 : decode cX8_isFlatFour 74 = .ok (.lload 9, 2) := by decide +kernel
theorem dX8_isFlatFour_76 : decode cX8_isFlatFour 76 = .ok (.lmul, 1) := by decide +kernel
theorem dX8_isFlatFour_77 : decode cX8_isFlatFour 77 = .ok (.ldc2_w 69, 3) := by decide +kernel
theorem dX8_isFlatFour_80 : decode cX8_isFlatFour 80 = .ok (.lload 11, 2) := by decide +kernel
theorem dX8_isFlatFour_82 : decode cX8_isFlatFour 82 = .ok (.lmul, 1) := by decide +kernel
theorem dX8_isFlatFour_83 : decode cX8_isFlatFour 83 = .ok (.lload 13, 2) := by decide +kernel
theorem dX8_isFlatFour_85 : decode cX8_isFlatFour 85 = .ok (.lmul, 1) := by decide +kernel
theorem dX8_isFlatFour_86 : decode cX8_isFlatFour 86 = .ok (.lload 15, 2) := by decide +kernel
theorem dX8_isFlatFour_88 : decode cX8_isFlatFour 88 = .ok (.lmul, 1) := by decide +kernel
theorem dX8_isFlatFour_89 : decode cX8_isFlatFour 89 = .ok (.ladd, 1) := by decide +kernel
theorem dX8_isFlatFour_90 : decode cX8_isFlatFour 90 = .ok (.lload 5, 2) := by decide +kernel
theorem dX8_isFlatFour_92 : decode cX8_isFlatFour 92 = .ok (.lload 15, 2) := by decide +kernel
theorem dX8_isFlatFour_94 : decode cX8_isFlatFour 94 = .ok (.lmul, 1) := by decide +kernel
theorem dX8_isFlatFour_95 : decode cX8_isFlatFour 95 = .ok (.lload 15, 2) := by decide +kernel
theorem dX8_isFlatFour_97 : decode cX8_isFlatFour 97 = .ok (.lmul, 1) := by decide +kernel
theorem dX8_isFlatFour_98 : decode cX8_isFlatFour 98 = .ok (.lsub, 1) := by decide +kernel
theorem dX8_isFlatFour_99 : decode cX8_isFlatFour 99 = .ok (.lload 7, 2) := by decide +kernel
theorem dX8_isFlatFour_101 : decode cX8_isFlatFour 101 = .ok (.lload 13, 2) := by decide +kernel
theorem dX8_isFlatFour_103 : decode cX8_isFlatFour 103 = .ok (.lmul, 1) := by decide +kernel
theorem dX8_isFlatFour_104 : decode cX8_isFlatFour 104 = .ok (.lload 13, 2) := by decide +kernel
theorem dX8_isFlatFour_106 : decode cX8_isFlatFour 106 = .ok (.lmul, 1) := by decide +kernel
theorem dX8_isFlatFour_107 : decode cX8_isFlatFour 107 = .ok (.lsub, 1) := by decide +kernel
theorem dX8_isFlatFour_108 : decode cX8_isFlatFour 108 = .ok (.lload 9, 2) := by decide +kernel
theorem dX8_isFlatFour_110 : decode cX8_isFlatFour 110 = .ok (.lload 11, 2) := by decide +kernel
theorem dX8_isFlatFour_112 : decode cX8_isFlatFour 112 = .ok (.lmul, 1) := by decide +kernel
theorem dX8_isFlatFour_113 : decode cX8_isFlatFour 113 = .ok (.lload 11, 2) := by decide +kernel
theorem dX8_isFlatFour_115 : decode cX8_isFlatFour 115 = .ok (.lmul, 1) := by decide +kernel
theorem dX8_isFlatFour_116 : decode cX8_isFlatFour 116 = .ok (.lsub, 1) := by decide +kernel
theorem dX8_isFlatFour_117 : decode cX8_isFlatFour 117 = .ok (.lconst 0, 1) := by decide +kernel
theorem dX8_isFlatFour_118 : decode cX8_isFlatFour 118 = .ok (.lcmp, 1) := by decide +kernel
theorem dX8_isFlatFour_119 : decode cX8_isFlatFour 119 = .ok (.ifCond .ne 7, 3) := by decide +kernel
theorem dX8_isFlatFour_122 : decode cX8_isFlatFour 122 = .ok (.iconst 1, 1) := by decide +kernel
theorem dX8_isFlatFour_123 : decode cX8_isFlatFour 123 = .ok (.goto 4, 3) := by decide +kernel
theorem dX8_isFlatFour_126 : decode cX8_isFlatFour 126 = .ok (.iconst 0, 1) := by decide +kernel
theorem dX8_isFlatFour_127 : decode cX8_isFlatFour 127 = .ok (.ireturn, 1) := by decide +kernel
set_option maxRecDepth 20000 in
theorem ggX8_sideSign_X8_square : GoodIn wsX8_sideSign wsX8_square := goodIn_r _ [6, 7, 16, 17] (by decide +kernel) (by decide +kernel)
set_option maxRecDepth 20000 in
theorem gX8_sideSign_X8_square : GoodIn wsX8_sideSign (wsV RX8 43 RX8 yX8_square wsX8_square) := goodIn_app (goodIn_of _ (by decide +kernel)) ggX8_sideSign_X8_square
set_option maxRecDepth 20000 in
theorem ggX8_sideSign_X8_leaning : GoodIn wsX8_sideSign wsX8_leaning := goodIn_r _ [11, 2, 3, 4, 5, 6, 7, 16, 17] (by decide +kernel) (by decide +kernel)
set_option maxRecDepth 20000 in
theorem gX8_sideSign_X8_leaning : GoodIn wsX8_sideSign (wsV RX8 71 RX8 yX8_leaning wsX8_leaning) := goodIn_app (goodIn_of _ (by decide +kernel)) ggX8_sideSign_X8_leaning
set_option maxRecDepth 20000 in
theorem ggX8_sideSign_J13_signum_95d88 : GoodIn wsX8_sideSign wsJ13_signum_95d88 := goodIn_r _ [15] (by decide +kernel) (by decide +kernel)
set_option maxRecDepth 20000 in
theorem gX8_sideSign_J13_signum_95d88 : GoodIn wsX8_sideSign (va_wsS RX8 74 yJ13_signum_95d88 wsJ13_signum_95d88) := goodIn_app (goodIn_of _ (by decide +kernel)) ggX8_sideSign_J13_signum_95d88
theorem dX8_sideSign_0 : decode cX8_sideSign 0 = .ok (.ldc2_w 69, 3) := by decide +kernel
theorem dX8_sideSign_3 : decode cX8_sideSign 3 = .ok (.aload_n 0, 1) := by decide +kernel
theorem dX8_sideSign_4 : decode cX8_sideSign 4 = .ok (.iload_n 1, 1) := by decide +kernel
theorem dX8_sideSign_5 : decode cX8_sideSign 5 = .ok (.iload_n 2, 1) := by decide +kernel
theorem dX8_sideSign_6 : decode cX8_sideSign 6 = .ok (.invokevirtual 43, 3) := by decide +kernel
theorem dX8_sideSign_9 : decode cX8_sideSign 9 = .ok (.i2l, 1) := by decide +kernel
theorem dX8_sideSign_10 : decode cX8_sideSign 10 = .ok (.lmul, 1) := by decide +kernel
theorem dX8_sideSign_11 : decode cX8_sideSign 11 = .ok (.aload_n 0, 1) := by decide +kernel
theorem dX8_sideSign_12 : decode cX8_sideSign 12 = .ok (.iload_n 1, 1) := by decide +kernel
theorem dX8_sideSign_13 : decode cX8_sideSign 13 = .ok (.iload_n 3, 1) := by decide +kernel
theorem dX8_sideSign_14 : decode cX8_sideSign 14 = .ok (.iload 4, 2) := by decide +kernel
theorem dX8_sideSign_16 : decode cX8_sideSign 16 = .ok (.invokevirtual 71, 3) := by decide +kernel
theorem dX8_sideSign_19 : decode cX8_sideSign 19 = .ok (.lmul, 1) := by decide +kernel
theorem dX8_sideSign_20 : decode cX8_sideSign 20 = .ok (.aload_n 0, 1) := by decide +kernel
theorem dX8_sideSign_21 : decode cX8_sideSign 21 = .ok (.iload_n 1, 1) := by decide +kernel
theorem dX8_sideSign_22 : decode cX8_sideSign 22 = .ok (.iload_n 2, 1) := by decide +kernel
theorem dX8_sideSign_23 : decode cX8_sideSign 23 = .ok (.iload_n 3, 1) := by decide +kernel
theorem dX8_sideSign_24 : decode cX8_sideSign 24 = .ok (.invokevirtual 71, 3) := by decide +kernel
theorem dX8_sideSign_27 : decode cX8_sideSign 27 = .ok (.aload_n 0, 1) := by decide +kernel
theorem dX8_sideSign_28 : decode cX8_sideSign 28 = .ok (.iload_n 1, 1) := by decide +kernel
theorem dX8_sideSign_29 : decode cX8_sideSign 29 = .ok (.iload_n 2, 1) := by decide +kernel
theorem dX8_sideSign_30 : decode cX8_sideSign 30 = .ok (.iload 4, 2) := by decide +kernel
theorem dX8_sideSign_32 : decode cX8_sideSign 32 = .ok (.invokevirtual 71, 3) := by decide +kernel
theorem dX8_sideSign_35 : decode cX8_sideSign 35 = .ok (.lmul, 1) := by decide +kernel
theorem dX8_sideSign_36 : decode cX8_sideSign 36 = .ok (.lsub, 1) := by decide +kernel
theorem dX8_sideSign_37 : decode cX8_sideSign 37 = .ok (.invokestatic 74, 3) := by decide +kernel
theorem dX8_sideSign_40 : decode cX8_sideSign 40 = .ok (.ireturn, 1) := by decide +kernel
set_option maxRecDepth 20000 in
theorem ggX8_isToldBy_X10_hasBit : GoodIn wsX8_isToldBy wsX10_hasBit := goodIn_r _ [4] (by decide +kernel) (by decide +kernel)
set_option maxRecDepth 20000 in
theorem gX8_isToldBy_X10_hasBit_n80 : GoodIn wsX8_isToldBy (wsX10_hasBit) := ggX8_isToldBy_X10_hasBit
set_option maxRecDepth 20000 in
theorem ggX8_isToldBy_X8_square : GoodIn wsX8_isToldBy wsX8_square := goodIn_r _ [9, 10, 15, 16] (by decide +kernel) (by decide +kernel)
set_option maxRecDepth 20000 in
theorem gX8_isToldBy_X8_square : GoodIn wsX8_isToldBy (wsV RX8 43 RX8 yX8_square wsX8_square) := goodIn_app (goodIn_of _ (by decide +kernel)) ggX8_isToldBy_X8_square
set_option maxRecDepth 20000 in
theorem ggX8_isToldBy_X8_isAlikeSeenFrom : GoodIn wsX8_isToldBy wsX8_isAlikeSeenFrom := goodIn_r _ [14, 1, 2, 3, 4, 5, 6, 7, 8, 9, 10, 15, 16] (by decide +kernel) (by decide +kernel)
set_option maxRecDepth 20000 in
theorem gX8_isToldBy_X8_isAlikeSeenFrom : GoodIn wsX8_isToldBy (wsV RX8 83 RX8 yX8_isAlikeSeenFrom wsX8_isAlikeSeenFrom) := goodIn_app (goodIn_of _ (by decide +kernel)) ggX8_isToldBy_X8_isAlikeSeenFrom
theorem dX8_isToldBy_0 : decode cX8_isToldBy 0 = .ok (.iconst 0, 1) := by decide +kernel
theorem dX8_isToldBy_1 : decode cX8_isToldBy 1 = .ok (.istore_n 3, 1) := by decide +kernel
theorem dX8_isToldBy_2 : decode cX8_isToldBy 2 = .ok (.iload_n 3, 1) := by decide +kernel
theorem dX8_isToldBy_3 : decode cX8_isToldBy 3 = .ok (.aload_n 0, 1) := by decide +kernel
theorem dX8_isToldBy_4 : decode cX8_isToldBy 4 = .ok (.getfield 9, 3) := by decide +kernel
theorem dX8_isToldBy_7 : decode cX8_isToldBy 7 = .ok (.if_icmp .ge 28, 3) := by decide +kernel
theorem dX8_isToldBy_10 : decode cX8_isToldBy 10 = .ok (.iload_n 2, 1) := by decide +kernel
theorem dX8_isToldBy_11 : decode cX8_isToldBy 11 = .ok (.iload_n 3, 1) := by decide +kernel
theorem dX8_isToldBy_12 : decode cX8_isToldBy 12 = .ok (.invokestatic 80, 3) := by decide +kernel
theorem dX8_isToldBy_15 : decode cX8_isToldBy 15 = .ok (.ifCond .eq 14, 3) := by decide +kernel
theorem dX8_isToldBy_18 : decode cX8_isToldBy 18 = .ok (.aload_n 0, 1) := by decide +kernel
theorem dX8_isToldBy_19 : decode cX8_isToldBy 19 = .ok (.iload_n 1, 1) := by decide +kernel
theorem dX8_isToldBy_20 : decode cX8_isToldBy 20 = .ok (.iload_n 3, 1) := by decide +kernel
theorem dX8_isToldBy_21 : decode cX8_isToldBy 21 = .ok (.invokevirtual 43, 3) := by decide +kernel
theorem dX8_isToldBy_24 : decode cX8_isToldBy 24 = .ok (.ifCond .ne 5, 3) := by decide +kernel
theorem dX8_isToldBy_27 : decode cX8_isToldBy 27 = .ok (.iconst 0, 1) := by decide +kernel
theorem dX8_isToldBy_28 : decode cX8_isToldBy 28 = .ok (.ireturn, 1) := by decide +kernel
theorem dX8_isToldBy_29 : decode cX8_isToldBy 29 = .ok (.iinc 3 1, 3) := by decide +kernel
theorem dX8_isToldBy_32 : decode cX8_isToldBy 32 = .ok (.goto (-30), 3) := by decide +kernel
theorem dX8_isToldBy_35 : decode cX8_isToldBy 35 = .ok (.iconst 0, 1) := by decide +kernel
theorem dX8_isToldBy_36 : decode cX8_isToldBy 36 = .ok (.istore_n 3, 1) := by decide +kernel
theorem dX8_isToldBy_37 : decode cX8_isToldBy 37 = .ok (.iload_n 3, 1) := by decide +kernel
theorem dX8_isToldBy_38 : decode cX8_isToldBy 38 = .ok (.aload_n 0, 1) := by decide +kernel
theorem dX8_isToldBy_39 : decode cX8_isToldBy 39 = .ok (.getfield 9, 3) := by decide +kernel
theorem dX8_isToldBy_42 : decode cX8_isToldBy 42 = .ok (.if_icmp .ge 26, 3) := by decide +kernel
theorem dX8_isToldBy_45 : decode cX8_isToldBy 45 = .ok (.iload_n 3, 1) := by decide +kernel
theorem dX8_isToldBy_46 : decode cX8_isToldBy 46 = .ok (.iload_n 1, 1) := by decide +kernel
theorem dX8_isToldBy_47 : decode cX8_isToldBy 47 = .ok (.if_icmp .eq 15, 3) := by decide +kernel
theorem dX8_isToldBy_50 : decode cX8_isToldBy 50 = .ok (.aload_n 0, 1) := by decide +kernel
theorem dX8_isToldBy_51 : decode cX8_isToldBy 51 = .ok (.iload_n 2, 1) := by decide +kernel
theorem dX8_isToldBy_52 : decode cX8_isToldBy 52 = .ok (.iload_n 1, 1) := by decide +kernel
theorem dX8_isToldBy_53 : decode cX8_isToldBy 53 = .ok (.iload_n 3, 1) := by decide +kernel
theorem dX8_isToldBy_54 : decode cX8_isToldBy 54 = .ok (.invokevirtual 83, 3) := by decide +kernel
theorem dX8_isToldBy_57 : decode cX8_isToldBy 57 = .ok (.ifCond .eq 5, 3) := by decide +kernel
theorem dX8_isToldBy_60 : decode cX8_isToldBy 60 = .ok (.iconst 0, 1) := by decide +kernel
theorem dX8_isToldBy_61 : decode cX8_isToldBy 61 = .ok (.ireturn, 1) := by decide +kernel
theorem dX8_isToldBy_62 : decode cX8_isToldBy 62 = .ok (.iinc 3 1, 3) := by decide +kernel
theorem dX8_isToldBy_65 : decode cX8_isToldBy 65 = .ok (.goto (-28), 3) := by decide +kernel
theorem dX8_isToldBy_68 : decode cX8_isToldBy 68 = .ok (.iconst 1, 1) := by decide +kernel
theorem dX8_isToldBy_69 : decode cX8_isToldBy 69 = .ok (.ireturn, 1) := by decide +kernel
set_option maxRecDepth 20000 in
theorem ggX8_isAlikeSeenFrom_X10_hasBit : GoodIn wsX8_isAlikeSeenFrom wsX10_hasBit := goodIn_r _ [4] (by decide +kernel) (by decide +kernel)
set_option maxRecDepth 20000 in
theorem gX8_isAlikeSeenFrom_X10_hasBit_n80 : GoodIn wsX8_isAlikeSeenFrom (wsX10_hasBit) := ggX8_isAlikeSeenFrom_X10_hasBit
set_option maxRecDepth 20000 in
theorem ggX8_isAlikeSeenFrom_X8_square : GoodIn wsX8_isAlikeSeenFrom wsX8_square := goodIn_r _ [9, 10, 11, 12] (by decide +kernel) (by decide +kernel)
set_option maxRecDepth 20000 in
theorem gX8_isAlikeSeenFrom_X8_square : GoodIn wsX8_isAlikeSeenFrom (wsV RX8 43 RX8 yX8_square wsX8_square) := goodIn_app (goodIn_of _ (by decide +kernel)) ggX8_isAlikeSeenFrom_X8_square
theorem dX8_isAlikeSeenFrom_0 : decode cX8_isAlikeSeenFrom 0 = .ok (.iconst 0, 1) := by decide +kernel
theorem dX8_isAlikeSeenFrom_1 : decode cX8_isAlikeSeenFrom 1 = .ok (.istore 4, 2) := by decide +kernel
theorem dX8_isAlikeSeenFrom_3 : decode cX8_isAlikeSeenFrom 3 = .ok (.iload 4, 2) := by decide +kernel
theorem dX8_isAlikeSeenFrom_5 : decode cX8_isAlikeSeenFrom 5 = .ok (.aload_n 0, 1) := by decide +kernel
theorem dX8_isAlikeSeenFrom_6 : decode cX8_isAlikeSeenFrom 6 = .ok (.getfield 9, 3) := by decide +kernel
theorem dX8_isAlikeSeenFrom_9 : decode cX8_isAlikeSeenFrom 9 = .ok (.if_icmp .ge 37, 3) := by decide +kernel
theorem dX8_isAlikeSeenFrom_12 : decode cX8_isAlikeSeenFrom 12 = .ok (.iload_n 1, 1) := by decide +kernel
theorem dX8_isAlikeSeenFrom_13 : decode cX8_isAlikeSeenFrom 13 = .ok (.iload 4, 2) := by decide +kernel
theorem dX8_isAlikeSeenFrom_15 : decode cX8_isAlikeSeenFrom 15 = .ok (.invokestatic 80, 3) := by decide +kernel
theorem dX8_isAlikeSeenFrom_18 : decode cX8_isAlikeSeenFrom 18 = .ok (.ifCond .eq 22, 3) := by decide +kernel
theorem dX8_isAlikeSeenFrom_21 : decode cX8_isAlikeSeenFrom 21 = .ok (.aload_n 0, 1) := by decide +kernel
theorem dX8_isAlikeSeenFrom_22 : decode cX8_isAlikeSeenFrom 22 = .ok (.iload_n 2, 1) := by decide +kernel
theorem dX8_isAlikeSeenFrom_23 : decode cX8_isAlikeSeenFrom 23 = .ok (.iload 4, 2) := by decide +kernel
theorem dX8_isAlikeSeenFrom_25 : decode cX8_isAlikeSeenFrom 25 = .ok (.invokevirtual 43, 3) := by decide +kernel
theorem dX8_isAlikeSeenFrom_28 : decode cX8_isAlikeSeenFrom 28 = .ok (.aload_n 0, 1) := by decide +kernel
theorem dX8_isAlikeSeenFrom_29 : decode cX8_isAlikeSeenFrom 29 = .ok (.iload_n 3, 1) := by decide +kernel
theorem dX8_isAlikeSeenFrom_30 : decode cX8_isAlikeSeenFrom 30 = .ok (.iload 4, 2) := by decide +kernel
theorem dX8_isAlikeSeenFrom_32 : decode cX8_isAlikeSeenFrom 32 = .ok (.invokevirtual 43, 3) := by decide +kernel
theorem dX8_isAlikeSeenFrom_35 : decode cX8_isAlikeSeenFrom 35 = .ok (.if_icmp .eq 5, 3) := by decide +kernel
theorem dX8_isAlikeSeenFrom_38 : decode cX8_isAlikeSeenFrom 38 = .ok (.iconst 0, 1) := by decide +kernel
theorem dX8_isAlikeSeenFrom_39 : decode cX8_isAlikeSeenFrom 39 = .ok (.ireturn, 1) := by decide +kernel
theorem dX8_isAlikeSeenFrom_40 : decode cX8_isAlikeSeenFrom 40 = .ok (.iinc 4 1, 3) := by decide +kernel
theorem dX8_isAlikeSeenFrom_43 : decode cX8_isAlikeSeenFrom 43 = .ok (.goto (-40), 3) := by decide +kernel
theorem dX8_isAlikeSeenFrom_46 : decode cX8_isAlikeSeenFrom 46 = .ok (.iconst 1, 1) := by decide +kernel
theorem dX8_isAlikeSeenFrom_47 : decode cX8_isAlikeSeenFrom 47 = .ok (.ireturn, 1) := by decide +kernel
theorem dX9_init_0 : decode cX9_init 0 = .ok (.aload_n 0, 1) := by decide +kernel
theorem dX9_init_1 : decode cX9_init 1 = .ok (.invokespecial 3, 3) := by decide +kernel
theorem dX9_init_4 : decode cX9_init 4 = .ok (.aload_n 0, 1) := by decide +kernel
theorem dX9_init_5 : decode cX9_init 5 = .ok (.iconst 0, 1) := by decide +kernel
theorem dX9_init_6 : decode cX9_init 6 = .ok (.putfield 9, 3) := by decide +kernel
theorem dX9_init_9 : decode cX9_init 9 = .ok (.aload_n 0, 1) := by decide +kernel
theorem dX9_init_10 : decode cX9_init 10 = .ok (.sipush 320, 3) := by decide +kernel
theorem dX9_init_13 : decode cX9_init 13 = .ok (.newarray .byte, 2) := by decide +kernel
theorem dX9_init_15 : decode cX9_init 15 = .ok (.putfield 15, 3) := by decide +kernel
theorem dX9_init_18 : decode cX9_init 18 = .ok (.return_, 1) := by decide +kernel
theorem dX9_add_0 : decode cX9_add 0 = .ok (.aload_n 0, 1) := by decide +kernel
theorem dX9_add_1 : decode cX9_add 1 = .ok (.getfield 9, 3) := by decide +kernel
theorem dX9_add_4 : decode cX9_add 4 = .ok (.ifCond .lt 13, 3) := by decide +kernel
theorem dX9_add_7 : decode cX9_add 7 = .ok (.aload_n 0, 1) := by decide +kernel
theorem dX9_add_8 : decode cX9_add 8 = .ok (.getfield 9, 3) := by decide +kernel
theorem dX9_add_11 : decode cX9_add 11 = .ok (.sipush 312, 3) := by decide +kernel
theorem dX9_add_14 : decode cX9_add 14 = .ok (.if_icmp .le 5, 3) := by decide +kernel
theorem dX9_add_17 : decode cX9_add 17 = .ok (.iconst 0, 1) := by decide +kernel
theorem dX9_add_18 : decode cX9_add 18 = .ok (.ireturn, 1) := by decide +kernel
theorem dX9_add_19 : decode cX9_add 19 = .ok (.iconst 0, 1) := by decide +kernel
theorem dX9_add_20 : decode cX9_add 20 = .ok (.istore_n 3, 1) := by decide +kernel
theorem dX9_add_21 : decode cX9_add 21 = .ok (.iload_n 3, 1) := by decide +kernel
theorem dX9_add_22 : decode cX9_add 22 = .ok (.bipush 8, 2) := by decide +kernel
theorem dX9_add_24 : decode cX9_add 24 = .ok (.if_icmp .ge 31, 3) := by decide +kernel
theorem dX9_add_27 : decode cX9_add 27 = .ok (.aload_n 0, 1) := by decide +kernel
theorem dX9_add_28 : decode cX9_add 28 = .ok (.getfield 15, 3) := by decide +kernel
theorem dX9_add_31 : decode cX9_add 31 = .ok (.aload_n 0, 1) := by decide +kernel
theorem dX9_add_32 : decode cX9_add 32 = .ok (.getfield 9, 3) := by decide +kernel
theorem dX9_add_35 : decode cX9_add 35 = .ok (.iload_n 3, 1) := by decide +kernel
theorem dX9_add_36 : decode cX9_add 36 = .ok (.iadd, 1) := by decide +kernel
theorem dX9_add_37 : decode cX9_add 37 = .ok (.lload_n 1, 1) := by decide +kernel
theorem dX9_add_38 : decode cX9_add 38 = .ok (.bipush 56, 2) := by decide +kernel
theorem dX9_add_40 : decode cX9_add 40 = .ok (.bipush 8, 2) := by decide +kernel
theorem dX9_add_42 : decode cX9_add 42 = .ok (.iload_n 3, 1) := by decide +kernel
theorem dX9_add_43 : decode cX9_add 43 = .ok (.imul, 1) := by decide +kernel
theorem dX9_add_44 : decode cX9_add 44 = .ok (.isub, 1) := by decide +kernel
theorem dX9_add_45 : decode cX9_add 45 = .ok (.lushr, 1) := by decide +kernel
theorem dX9_add_46 : decode cX9_add 46 = .ok (.l2i, 1) := by decide +kernel
theorem dX9_add_47 : decode cX9_add 47 = .ok (.i2b, 1) := by decide +kernel
theorem dX9_add_48 : decode cX9_add 48 = .ok (.bastore, 1) := by decide +kernel
theorem dX9_add_49 : decode cX9_add 49 = .ok (.iinc 3 1, 3) := by decide +kernel
theorem dX9_add_52 : decode cX9_add 52 = .ok (.goto (-31), 3) := by decide +kernel
theorem dX9_add_55 : decode cX9_add 55 = .ok (.aload_n 0, 1) := by decide +kernel
theorem dX9_add_56 : decode cX9_add 56 = .ok (.dup, 1) := by decide +kernel
theorem dX9_add_57 : decode cX9_add 57 = .ok (.getfield 9, 3) := by decide +kernel
theorem dX9_add_60 : decode cX9_add 60 = .ok (.bipush 8, 2) := by decide +kernel
theorem dX9_add_62 : decode cX9_add 62 = .ok (.iadd, 1) := by decide +kernel
theorem dX9_add_63 : decode cX9_add 63 = .ok (.putfield 9, 3) := by decide +kernel
theorem dX9_add_66 : decode cX9_add 66 = .ok (.iconst 1, 1) := by decide +kernel
theorem dX9_add_67 : decode cX9_add 67 = .ok (.ireturn, 1) := by decide +kernel
theorem dX9_byteAt_0 : decode cX9_byteAt 0 = .ok (.iload_n 1, 1) := by decide +kernel
theorem dX9_byteAt_1 : decode cX9_byteAt 1 = .ok (.ifCond .lt 27, 3) := by decide +kernel
theorem dX9_byteAt_4 : decode cX9_byteAt 4 = .ok (.iload_n 1, 1) := by decide +kernel
theorem dX9_byteAt_5 : decode cX9_byteAt 5 = .ok (.aload_n 0, 1) := by decide +kernel
theorem dX9_byteAt_6 : decode cX9_byteAt 6 = .ok (.getfield 9, 3) := by decide +kernel
theorem dX9_byteAt_9 : decode cX9_byteAt 9 = .ok (.if_icmp .ge 19, 3) := by decide +kernel
theorem dX9_byteAt_12 : decode cX9_byteAt 12 = .ok (.iload_n 1, 1) := by decide +kernel
theorem dX9_byteAt_13 : decode cX9_byteAt 13 = .ok (.sipush 320, 3) := by decide +kernel
theorem dX9_byteAt_16 : decode cX9_byteAt 16 = .ok (.if_icmp .ge 12, 3) := by decide +kernel
theorem dX9_byteAt_19 : decode cX9_byteAt 19 = .ok (.aload_n 0, 1) := by decide +kernel
theorem dX9_byteAt_20 : decode cX9_byteAt 20 = .ok (.getfield 15, 3) := by decide +kernel
theorem dX9_byteAt_23 : decode cX9_byteAt 23 = .ok (.iload_n 1, 1) := by decide +kernel
theorem dX9_byteAt_24 : decode cX9_byteAt 24 = .ok (.baload, 1) := by decide +kernel
theorem dX9_byteAt_25 : decode cX9_byteAt 25 = .ok (.goto 4, 3) := by decide +kernel
theorem dX9_byteAt_28 : decode cX9_byteAt 28 = .ok (.iconst (-1), 1) := by decide +kernel
theorem dX9_byteAt_29 : decode cX9_byteAt 29 = .ok (.ireturn, 1) := by decide +kernel
set_option maxRecDepth 20000 in
theorem ggX10_init_X9_init : GoodIn wsX10_init wsX9_init := goodIn_r _ [48, 49, 2, 3, 50, 51, 52, 117, 118] (by decide +kernel) (by decide +kernel)
set_option maxRecDepth 20000 in
theorem gX10_init_X9_init : GoodIn wsX10_init (wsX9_init) := ggX10_init_X9_init
set_option maxRecDepth 20000 in
theorem ggX10_init_X4_init : GoodIn wsX10_init wsX4_init := goodIn_r _ [55, 56, 2, 3, 57, 58, 13, 14, 59, 60, 61, 62, 63, 64, 65, 66, 131, 132, 133, 134, 135, 136, 137, 138, 139, 140, 141, 142, 143] (by decide +kernel) (by decide +kernel)
set_option maxRecDepth 20000 in
theorem gX10_init_X4_init : GoodIn wsX10_init (wsX4_init) := ggX10_init_X4_init
set_option maxRecDepth 20000 in
theorem ggX10_init_X8_init : GoodIn wsX10_init wsX8_init := goodIn_r _ [62, 63, 2, 3, 64, 65, 66, 142, 143] (by decide +kernel) (by decide +kernel)
set_option maxRecDepth 20000 in
theorem gX10_init_X8_init : GoodIn wsX10_init (wsX8_init) := ggX10_init_X8_init
set_option maxRecDepth 20000 in
theorem ggX10_init_X5_init : GoodIn wsX10_init wsX5_init := goodIn_r _ [70, 71, 2, 3, 72, 65, 73, 144, 145] (by decide +kernel) (by decide +kernel)
set_option maxRecDepth 20000 in
theorem gX10_init_X5_init : GoodIn wsX10_init (wsX5_init) := ggX10_init_X5_init
set_option maxRecDepth 20000 in
theorem ggX10_init_X2_init : GoodIn wsX10_init wsX2_init := goodIn_r _ [76, 77, 2, 3, 78, 79, 13, 14, 80, 81, 17, 18, 82, 83, 61, 62, 63, 64, 65, 66, 84, 69, 70, 71, 72, 73, 146, 147, 148, 142, 143, 144, 145] (by decide +kernel) (by decide +kernel)
set_option maxRecDepth 20000 in
theorem gX10_init_X2_init : GoodIn wsX10_init (wsX2_init) := ggX10_init_X2_init
set_option maxRecDepth 20000 in
theorem ggX10_init_X6_init : GoodIn wsX10_init wsX6_init := goodIn_r _ [87, 88, 2, 3, 89, 90, 65, 91, 149, 150, 151] (by decide +kernel) (by decide +kernel)
set_option maxRecDepth 20000 in
theorem gX10_init_X6_init : GoodIn wsX10_init (wsX6_init) := ggX10_init_X6_init
set_option maxRecDepth 20000 in
theorem ggX10_init_X1_init : GoodIn wsX10_init wsX1_init := goodIn_r _ [94, 95, 2, 3, 65, 96, 152, 153, 154, 155, 156, 157, 158] (by decide +kernel) (by decide +kernel)
set_option maxRecDepth 20000 in
theorem gX10_init_X1_init : GoodIn wsX10_init (wsX1_init) := ggX10_init_X1_init
set_option maxRecDepth 20000 in
theorem ggX10_init_X7_init : GoodIn wsX10_init wsX7_init := goodIn_r _ [98, 99, 2, 3] (by decide +kernel) (by decide +kernel)
set_option maxRecDepth 20000 in
theorem gX10_init_X7_init_n62 : GoodIn wsX10_init (wsX7_init) := ggX10_init_X7_init
set_option maxRecDepth 20000 in
theorem ggX10_init_X0_init : GoodIn wsX10_init wsX0_init := goodIn_r _ [102, 103, 2, 3, 104, 105, 33, 34, 106, 65, 107, 108, 97, 98, 99, 162, 163, 164, 165, 166, 167, 168, 169, 159, 160, 161] (by decide +kernel) (by decide +kernel)
set_option maxRecDepth 20000 in
theorem gX10_init_X0_init : GoodIn wsX10_init (wsX0_init) := ggX10_init_X0_init
set_option maxRecDepth 20000 in
theorem ggX10_init_X3_init : GoodIn wsX10_init wsX3_init := goodIn_r _ [111, 112, 2, 3, 113, 114, 65, 115, 116, 170, 171, 172, 173, 174, 175, 176] (by decide +kernel) (by decide +kernel)
set_option maxRecDepth 20000 in
theorem gX10_init_X3_init : GoodIn wsX10_init (wsX3_init) := ggX10_init_X3_init
theorem dX10_init_0 : decode cX10_init 0 = .ok (.aload_n 0, 1) := by decide +kernel
theorem dX10_init_1 : decode cX10_init 1 = .ok (.invokespecial 1, 3) := by decide +kernel
theorem dX10_init_4 : decode cX10_init 4 = .ok (.aload_n 0, 1) := by decide +kernel
theorem dX10_init_5 : decode cX10_init 5 = .ok (.new 7, 3) := by decide +kernel
theorem dX10_init_8 : decode cX10_init 8 = .ok (.dup, 1) := by decide +kernel
theorem dX10_init_9 : decode cX10_init 9 = .ok (.invokespecial 9, 3) := by decide +kernel
theorem dX10_init_12 : decode cX10_init 12 = .ok (.putfield 10, 3) := by decide +kernel
theorem dX10_init_15 : decode cX10_init 15 = .ok (.aload_n 0, 1) := by decide +kernel
theorem dX10_init_16 : decode cX10_init 16 = .ok (.new 16, 3) := by decide +kernel
theorem dX10_init_19 : decode cX10_init 19 = .ok (.dup, 1) := by decide +kernel
theorem dX10_init_20 : decode cX10_init 20 = .ok (.aload_n 0, 1) := by decide +kernel
theorem dX10_init_21 : decode cX10_init 21 = .ok (.getfield 10, 3) := by decide +kernel
theorem dX10_init_24 : decode cX10_init 24 = .ok (.invokespecial 18, 3) := by decide +kernel
theorem dX10_init_27 : decode cX10_init 27 = .ok (.putfield 21, 3) := by decide +kernel
theorem dX10_init_30 : decode cX10_init 30 = .ok (.aload_n 0, 1) := by decide +kernel
theorem dX10_init_31 : decode cX10_init 31 = .ok (.new 25, 3) := by decide +kernel
theorem dX10_init_34 : decode cX10_init 34 = .ok (.dup, 1) := by decide +kernel
theorem dX10_init_35 : decode cX10_init 35 = .ok (.invokespecial 27, 3) := by decide +kernel
theorem dX10_init_38 : decode cX10_init 38 = .ok (.putfield 28, 3) := by decide +kernel
theorem dX10_init_41 : decode cX10_init 41 = .ok (.aload_n 0, 1) := by decide +kernel
theorem dX10_init_42 : decode cX10_init 42 = .ok (.new 32, 3) := by decide +kernel
theorem dX10_init_45 : decode cX10_init 45 = .ok (.dup, 1) := by decide +kernel
theorem dX10_init_46 : decode cX10_init 46 = .ok (.invokespecial 34, 3) := by decide +kernel
theorem dX10_init_49 : decode cX10_init 49 = .ok (.putfield 35, 3) := by decide +kernel
theorem dX10_init_52 : decode cX10_init 52 = .ok (.aload_n 0, 1) := by decide +kernel
theorem dX10_init_53 : decode cX10_init 53 = .ok (.iconst 2, 1) := by decide +kernel
theorem dX10_init_54 : decode cX10_init 54 = .ok (.anewarray 39, 3) := by decide +kernel
theorem dX10_init_57 : decode cX10_init 57 = .ok (.putfield 41, 3) := by decide +kernel
theorem dX10_init_60 : decode cX10_init 60 = .ok (.iconst 0, 1) := by decide +kernel
theorem dX10_init_61 : decode cX10_init 61 = .ok (.istore_n 1, 1) := by decide +kernel
theorem dX10_init_62 : decode cX10_init 62 = .ok (.iload_n 1, 1) := by decide +kernel
theorem dX10_init_63 : decode cX10_init 63 = .ok (.iconst 2, 1) := by decide +kernel
theorem dX10_init_64 : decode cX10_init 64 = .ok (.if_icmp .ge 22, 3) := by decide +kernel
theorem dX10_init_67 : decode cX10_init 67 = .ok (.aload_n 0, 1) := by decide +kernel
theorem dX10_init_68 : decode cX10_init 68 = .ok (.getfield 41, 3) := by decide +kernel
theorem dX10_init_71 : decode cX10_init 71 = .ok (.iload_n 1, 1) := by decide +kernel
theorem dX10_init_72 : decode cX10_init 72 = .ok (.new 39, 3) := by decide +kernel
theorem dX10_init_75 : decode cX10_init 75 = .ok (.dup, 1) := by decide +kernel
theorem dX10_init_76 : decode cX10_init 76 = .ok (.invokespecial 45, 3) := by decide +kernel
theorem dX10_init_79 : decode cX10_init 79 = .ok (.aastore, 1) := by decide +kernel
theorem dX10_init_80 : decode cX10_init 80 = .ok (.iinc 1 1, 3) := by decide +kernel
theorem dX10_init_83 : decode cX10_init 83 = .ok (.goto (-21), 3) := by decide +kernel
theorem dX10_init_86 : decode cX10_init 86 = .ok (.aload_n 0, 1) := by decide +kernel
theorem dX10_init_87 : decode cX10_init 87 = .ok (.iconst 4, 1) := by decide +kernel
theorem dX10_init_88 : decode cX10_init 88 = .ok (.anewarray 46, 3) := by decide +kernel
theorem dX10_init_91 : decode cX10_init 91 = .ok (.putfield 48, 3) := by decide +kernel
theorem dX10_init_94 : decode cX10_init 94 = .ok (.iconst 0, 1) := by decide +kernel
theorem dX10_init_95 : decode cX10_init 95 = .ok (.istore_n 1, 1) := by decide +kernel
theorem dX10_init_96 : decode cX10_init 96 = .ok (.iload_n 1, 1) := by decide +kernel
theorem dX10_init_97 : decode cX10_init 97 = .ok (.iconst 4, 1) := by decide +kernel
theorem dX10_init_98 : decode cX10_init 98 = .ok (.if_icmp .ge 22, 3) := by decide +kernel
theorem dX10_init_101 : decode cX10_init 101 = .ok (.aload_n 0, 1) := by decide +kernel
theorem dX10_init_102 : decode cX10_init 102 = .ok (.getfield 48, 3) := by decide +kernel
theorem dX10_init_105 : decode cX10_init 105 = .ok (.iload_n 1, 1) := by decide +kernel
theorem dX10_init_106 : decode cX10_init 106 = .ok (.new 46, 3) := by decide +kernel
theorem dX10_init_109 : decode cX10_init 109 = .ok (.dup, 1) := by decide +kernel
theorem dX10_init_110 : decode cX10_init 110 = .ok (.invokespecial 52, 3) := by decide +kernel
theorem dX10_init_113 : decode cX10_init 113 = .ok (.aastore, 1) := by decide +kernel
theorem dX10_init_114 : decode cX10_init 114 = .ok (.iinc 1 1, 3) := by decide +kernel
theorem dX10_init_117 : decode cX10_init 117 = .ok (.goto (-21), 3) := by decide +kernel
theorem dX10_init_120 : decode cX10_init 120 = .ok (.aload_n 0, 1) := by decide +kernel
theorem dX10_init_121 : decode cX10_init 121 = .ok (.new 53, 3) := by decide +kernel
theorem dX10_init_124 : decode cX10_init 124 = .ok (.dup, 1) := by decide +kernel
theorem dX10_init_125 : decode cX10_init 125 = .ok (.invokespecial 55, 3) := by decide +kernel
theorem dX10_init_128 : decode cX10_init 128 = .ok (.putfield 56, 3) := by decide +kernel
theorem dX10_init_131 : decode cX10_init 131 = .ok (.aload_n 0, 1) := by decide +kernel
theorem dX10_init_132 : decode cX10_init 132 = .ok (.new 60, 3) := by decide +kernel
theorem dX10_init_135 : decode cX10_init 135 = .ok (.dup, 1) := by decide +kernel
theorem dX10_init_136 : decode cX10_init 136 = .ok (.invokespecial 62, 3) := by decide +kernel
theorem dX10_init_139 : decode cX10_init 139 = .ok (.putfield 63, 3) := by decide +kernel
theorem dX10_init_142 : decode cX10_init 142 = .ok (.aload_n 0, 1) := by decide +kernel
theorem dX10_init_143 : decode cX10_init 143 = .ok (.new 67, 3) := by decide +kernel
theorem dX10_init_146 : decode cX10_init 146 = .ok (.dup, 1) := by decide +kernel
theorem dX10_init_147 : decode cX10_init 147 = .ok (.aload_n 0, 1) := by decide +kernel
theorem dX10_init_148 : decode cX10_init 148 = .ok (.getfield 28, 3) := by decide +kernel
theorem dX10_init_151 : decode cX10_init 151 = .ok (.invokespecial 69, 3) := by decide +kernel
theorem dX10_init_154 : decode cX10_init 154 = .ok (.putfield 72, 3) := by decide +kernel
theorem dX10_init_157 : decode cX10_init 157 = .ok (.aload_n 0, 1) := by decide +kernel
theorem dX10_init_158 : decode cX10_init 158 = .ok (.new 76, 3) := by decide +kernel
theorem dX10_init_161 : decode cX10_init 161 = .ok (.dup, 1) := by decide +kernel
theorem dX10_init_162 : decode cX10_init 162 = .ok (.aload_n 0, 1) := by decide +kernel
theorem dX10_init_163 : decode cX10_init 163 = .ok (.getfield 28, 3) := by decide +kernel
theorem dX10_init_166 : decode cX10_init 166 = .ok (.invokespecial 78, 3) := by decide +kernel
theorem dX10_init_169 : decode cX10_init 169 = .ok (.putfield 79, 3) := by decide +kernel
theorem dX10_init_172 : decode cX10_init 172 = .ok (.aload_n 0, 1) := by decide +kernel
theorem dX10_init_173 : decode cX10_init 173 = .ok (.iconst 0, 1) := by decide +kernel
theorem dX10_init_174 : decode cX10_init 174 = .ok (.putfield 83, 3) := by decide +kernel
theorem dX10_init_177 : decode cX10_init 177 = .ok (.aload_n 0, 1) := by decide +kernel
theorem dX10_init_178 : decode cX10_init 178 = .ok (.iconst 0, 1) := by decide +kernel
theorem dX10_init_179 : decode cX10_init 179 = .ok (.putfield 87, 3) := by decide +kernel
theorem dX10_init_182 : decode cX10_init 182 = .ok (.return_, 1) := by decide +kernel
set_option maxRecDepth 20000 in
theorem ggX10_feed_X9_add : GoodIn wsX10_feed wsX9_add := goodIn_r _ [7, 8, 9, 22, 23] (by decide +kernel) (by decide +kernel)
set_option maxRecDepth 20000 in
theorem gX10_feed_X9_add : GoodIn wsX10_feed (wsV RX10 90 RX9 yX9_add wsX9_add) := goodIn_app (goodIn_of _ (by decide +kernel)) ggX10_feed_X9_add
theorem dX10_feed_0 : decode cX10_feed 0 = .ok (.aload_n 0, 1) := by decide +kernel
theorem dX10_feed_1 : decode cX10_feed 1 = .ok (.getfield 10, 3) := by decide +kernel
theorem dX10_feed_4 : decode cX10_feed 4 = .ok (.lload_n 1, 1) := by decide +kernel
theorem dX10_feed_5 : decode cX10_feed 5 = .ok (.invokevirtual 90, 3) := by decide +kernel
theorem dX10_feed_8 : decode cX10_feed 8 = .ok (.ifCond .eq 13, 3) := by decide +kernel
theorem dX10_feed_11 : decode cX10_feed 11 = .ok (.aload_n 0, 1) := by decide +kernel
theorem dX10_feed_12 : decode cX10_feed 12 = .ok (.getfield 10, 3) := by decide +kernel
theorem dX10_feed_15 : decode cX10_feed 15 = .ok (.getfield 94, 3) := by decide +kernel
theorem dX10_feed_18 : decode cX10_feed 18 = .ok (.goto 5, 3) := by decide +kernel
theorem dX10_feed_21 : decode cX10_feed 21 = .ok (.bipush (-3), 2) := by decide +kernel
theorem dX10_feed_23 : decode cX10_feed 23 = .ok (.ireturn, 1) := by decide +kernel
theorem dX10_end_0 : decode cX10_end 0 = .ok (.iload_n 1, 1) := by decide +kernel
theorem dX10_end_1 : decode cX10_end 1 = .ok (.ifCond .lt 14, 3) := by decide +kernel
theorem dX10_end_4 : decode cX10_end 4 = .ok (.iload_n 1, 1) := by decide +kernel
theorem dX10_end_5 : decode cX10_end 5 = .ok (.aload_n 0, 1) := by decide +kernel
theorem dX10_end_6 : decode cX10_end 6 = .ok (.getfield 10, 3) := by decide +kernel
theorem dX10_end_9 : decode cX10_end 9 = .ok (.getfield 94, 3) := by decide +kernel
theorem dX10_end_12 : decode cX10_end 12 = .ok (.if_icmp .le 5, 3) := by decide +kernel
theorem dX10_end_15 : decode cX10_end 15 = .ok (.iconst (-1), 1) := by decide +kernel
theorem dX10_end_16 : decode cX10_end 16 = .ok (.ireturn, 1) := by decide +kernel
theorem dX10_end_17 : decode cX10_end 17 = .ok (.aload_n 0, 1) := by decide +kernel
theorem dX10_end_18 : decode cX10_end 18 = .ok (.getfield 10, 3) := by decide +kernel
theorem dX10_end_21 : decode cX10_end 21 = .ok (.getfield 94, 3) := by decide +kernel
theorem dX10_end_24 : decode cX10_end 24 = .ok (.istore_n 2, 1) := by decide +kernel
theorem dX10_end_25 : decode cX10_end 25 = .ok (.aload_n 0, 1) := by decide +kernel
theorem dX10_end_26 : decode cX10_end 26 = .ok (.getfield 10, 3) := by decide +kernel
theorem dX10_end_29 : decode cX10_end 29 = .ok (.iload_n 1, 1) := by decide +kernel
theorem dX10_end_30 : decode cX10_end 30 = .ok (.putfield 94, 3) := by decide +kernel
theorem dX10_end_33 : decode cX10_end 33 = .ok (.iload_n 2, 1) := by decide +kernel
theorem dX10_end_34 : decode cX10_end 34 = .ok (.ireturn, 1) := by decide +kernel
set_option maxRecDepth 20000 in
theorem ggX10_land_X4_readAll : GoodIn wsX10_land wsX4_readAll := goodIn_r _ [18, 19, 20, 21, 22, 23, 24, 25, 26, 27, 28, 29, 30, 31, 32, 33, 34, 35, 36, 37, 38, 39, 40, 41, 42, 43, 17, 44, 45, 46, 47, 48, 49, 50, 51, 52, 53, 54, 55, 56, 57, 58, 59, 60, 61, 62, 63, 64, 65, 66, 67, 68, 69, 70, 71, 72, 73, 74, 75, 76, 77, 78, 79, 80, 81, 82, 83, 84, 85, 86, 87, 88, 89, 90, 91, 92, 93, 94, 95, 96, 97, 98, 99, 100, 101, 102, 103, 104, 105, 106, 107, 108, 109, 110, 111, 112, 113, 114, 115, 116, 117, 118, 119, 120, 121, 122, 123, 124, 125, 126, 127, 128, 129, 130, 131, 132, 133, 134, 135, 136, 137, 138, 139, 140, 141, 142, 143, 144, 145, 146, 147, 170, 171, 172, 173, 174, 175, 176, 177, 178, 179, 180, 186, 187, 168, 169] (by decide +kernel) (by decide +kernel)
set_option maxRecDepth 20000 in
theorem gX10_land_X4_readAll : GoodIn wsX10_land (wsV RX10 97 RX4 yX4_readAll wsX4_readAll) := goodIn_app (goodIn_of _ (by decide +kernel)) ggX10_land_X4_readAll
set_option maxRecDepth 20000 in
theorem ggX10_land_X8_copyFrom : GoodIn wsX10_land wsX8_copyFrom := goodIn_r _ [151, 35, 36, 152, 153, 154, 155, 186, 187] (by decide +kernel) (by decide +kernel)
set_option maxRecDepth 20000 in
theorem gX10_land_X8_copyFrom : GoodIn wsX10_land (wsV RX10 109 RX8 yX8_copyFrom wsX8_copyFrom) := goodIn_app (goodIn_of _ (by decide +kernel)) ggX10_land_X8_copyFrom
theorem dX10_land_0 : decode cX10_land 0 = .ok (.aload_n 0, 1) := by decide +kernel
theorem dX10_land_1 : decode cX10_land 1 = .ok (.getfield 21, 3) := by decide +kernel
theorem dX10_land_4 : decode cX10_land 4 = .ok (.invokevirtual 97, 3) := by decide +kernel
theorem dX10_land_7 : decode cX10_land 7 = .ok (.aload_n 0, 1) := by decide +kernel
theorem dX10_land_8 : decode cX10_land 8 = .ok (.getfield 10, 3) := by decide +kernel
theorem dX10_land_11 : decode cX10_land 11 = .ok (.iconst 0, 1) := by decide +kernel
theorem dX10_land_12 : decode cX10_land 12 = .ok (.putfield 94, 3) := by decide +kernel
theorem dX10_land_15 : decode cX10_land 15 = .ok (.aload_n 0, 1) := by decide +kernel
theorem dX10_land_16 : decode cX10_land 16 = .ok (.aload_n 0, 1) := by decide +kernel
theorem dX10_land_17 : decode cX10_land 17 = .ok (.getfield 21, 3) := by decide +kernel
theorem dX10_land_20 : decode cX10_land 20 = .ok (.getfield 100, 3) := by decide +kernel
theorem dX10_land_23 : decode cX10_land 23 = .ok (.putfield 83, 3) := by decide +kernel
theorem dX10_land_26 : decode cX10_land 26 = .ok (.aload_n 0, 1) := by decide +kernel
theorem dX10_land_27 : decode cX10_land 27 = .ok (.getfield 83, 3) := by decide +kernel
theorem dX10_land_30 : decode cX10_land 30 = .ok (.ifCond .eq 14, 3) := by decide +kernel
theorem dX10_land_33 : decode cX10_land 33 = .ok (.bipush (-10), 2) := by decide +kernel
theorem dX10_land_35 : decode cX10_land 35 = .ok (.aload_n 0, 1) := by decide +kernel
theorem dX10_land_36 : decode cX10_land 36 = .ok (.getfield 21, 3) := by decide +kernel
theorem dX10_land_39 : decode cX10_land 39 = .ok (.getfield 103, 3) := by decide +kernel
theorem dX10_land_42 : decode cX10_land 42 = .ok (.isub, 1) := by decide +kernel
theorem dX10_land_43 : decode cX10_land 43 = .ok (.ireturn, 1) := by decide +kernel
theorem dX10_land_44 : decode cX10_land 44 = .ok (.aload_n 0, 1) := by decide +kernel
theorem dX10_land_45 : decode cX10_land 45 = .ok (.getfield 28, 3) := by decide +kernel
theorem dX10_land_48 : decode cX10_land 48 = .ok (.aload_n 0, 1) := by decide +kernel
theorem dX10_land_49 : decode cX10_land 49 = .ok (.getfield 21, 3) := by decide +kernel
theorem dX10_land_52 : decode cX10_land 52 = .ok (.getfield 106, 3) := by decide +kernel
theorem dX10_land_55 : decode cX10_land 55 = .ok (.invokevirtual 109, 3) := by decide +kernel
theorem dX10_land_58 : decode cX10_land 58 = .ok (.aload_n 0, 1) := by decide +kernel
theorem dX10_land_59 : decode cX10_land 59 = .ok (.getfield 35, 3) := by decide +kernel
theorem dX10_land_62 : decode cX10_land 62 = .ok (.iconst 0, 1) := by decide +kernel
theorem dX10_land_63 : decode cX10_land 63 = .ok (.putfield 112, 3) := by decide +kernel
theorem dX10_land_66 : decode cX10_land 66 = .ok (.iconst 0, 1) := by decide +kernel
theorem dX10_land_67 : decode cX10_land 67 = .ok (.istore_n 1, 1) := by decide +kernel
theorem dX10_land_68 : decode cX10_land 68 = .ok (.iload_n 1, 1) := by decide +kernel
theorem dX10_land_69 : decode cX10_land 69 = .ok (.iconst 2, 1) := by decide +kernel
theorem dX10_land_70 : decode cX10_land 70 = .ok (.if_icmp .ge 19, 3) := by decide +kernel
theorem dX10_land_73 : decode cX10_land 73 = .ok (.aload_n 0, 1) := by decide +kernel
theorem dX10_land_74 : decode cX10_land 74 = .ok (.getfield 41, 3) := by decide +kernel
theorem dX10_land_77 : decode cX10_land 77 = .ok (.iload_n 1, 1) := by decide +kernel
theorem dX10_land_78 : decode cX10_land 78 = .ok (.aaload, 1) := by decide +kernel
theorem dX10_land_79 : decode cX10_land 79 = .ok (.iconst 0, 1) := by decide +kernel
theorem dX10_land_80 : decode cX10_land 80 = .ok (.putfield 115, 3) := by decide +kernel
theorem dX10_land_83 : decode cX10_land 83 = .ok (.iinc 1 1, 3) := by decide +kernel
theorem dX10_land_86 : decode cX10_land 86 = .ok (.goto (-18), 3) := by decide +kernel
theorem dX10_land_89 : decode cX10_land 89 = .ok (.aload_n 0, 1) := by decide +kernel
theorem dX10_land_90 : decode cX10_land 90 = .ok (.getfield 21, 3) := by decide +kernel
theorem dX10_land_93 : decode cX10_land 93 = .ok (.getfield 119, 3) := by decide +kernel
theorem dX10_land_96 : decode cX10_land 96 = .ok (.ireturn, 1) := by decide +kernel
theorem dX10_fault_0 : decode cX10_fault 0 = .ok (.aload_n 0, 1) := by decide +kernel
theorem dX10_fault_1 : decode cX10_fault 1 = .ok (.getfield 83, 3) := by decide +kernel
theorem dX10_fault_4 : decode cX10_fault 4 = .ok (.ireturn, 1) := by decide +kernel
set_option maxRecDepth 20000 in
theorem ggX10_far_X8_areTwo : GoodIn wsX10_far wsX8_areTwo := goodIn_r _ [6, 7, 8, 9, 5, 10, 11, 33, 34] (by decide +kernel) (by decide +kernel)
set_option maxRecDepth 20000 in
theorem gX10_far_X8_areTwo : GoodIn wsX10_far (wsV RX10 122 RX8 yX8_areTwo wsX8_areTwo) := goodIn_app (goodIn_of _ (by decide +kernel)) ggX10_far_X8_areTwo
set_option maxRecDepth 20000 in
theorem ggX10_far_X8_toldOrNone : GoodIn wsX10_far wsX8_toldOrNone := goodIn_r _ [15, 16, 17, 18, 5, 19, 20, 33, 34] (by decide +kernel) (by decide +kernel)
set_option maxRecDepth 20000 in
theorem gX10_far_X8_toldOrNone : GoodIn wsX10_far (wsV RX10 126 RX8 yX8_toldOrNone wsX8_toldOrNone) := goodIn_app (goodIn_of _ (by decide +kernel)) ggX10_far_X8_toldOrNone
theorem dX10_far_0 : decode cX10_far 0 = .ok (.aload_n 0, 1) := by decide +kernel
theorem dX10_far_1 : decode cX10_far 1 = .ok (.getfield 28, 3) := by decide +kernel
theorem dX10_far_4 : decode cX10_far 4 = .ok (.iload_n 1, 1) := by decide +kernel
theorem dX10_far_5 : decode cX10_far 5 = .ok (.iload_n 2, 1) := by decide +kernel
theorem dX10_far_6 : decode cX10_far 6 = .ok (.invokevirtual 122, 3) := by decide +kernel
theorem dX10_far_9 : decode cX10_far 9 = .ok (.ifCond .eq 15, 3) := by decide +kernel
theorem dX10_far_12 : decode cX10_far 12 = .ok (.aload_n 0, 1) := by decide +kernel
theorem dX10_far_13 : decode cX10_far 13 = .ok (.getfield 28, 3) := by decide +kernel
theorem dX10_far_16 : decode cX10_far 16 = .ok (.iload_n 1, 1) := by decide +kernel
theorem dX10_far_17 : decode cX10_far 17 = .ok (.iload_n 2, 1) := by decide +kernel
theorem dX10_far_18 : decode cX10_far 18 = .ok (.invokevirtual 126, 3) := by decide +kernel
theorem dX10_far_21 : decode cX10_far 21 = .ok (.goto 4, 3) := by decide +kernel
theorem dX10_far_24 : decode cX10_far 24 = .ok (.iconst (-1), 1) := by decide +kernel
theorem dX10_far_25 : decode cX10_far 25 = .ok (.ireturn, 1) := by decide +kernel
set_option maxRecDepth 20000 in
theorem ggX10_tell_X8_areTwo : GoodIn wsX10_tell wsX8_areTwo := goodIn_r _ [6, 7, 8, 9, 5, 10, 11, 41, 42] (by decide +kernel) (by decide +kernel)
set_option maxRecDepth 20000 in
theorem gX10_tell_X8_areTwo : GoodIn wsX10_tell (wsV RX10 122 RX8 yX8_areTwo wsX8_areTwo) := goodIn_app (goodIn_of _ (by decide +kernel)) ggX10_tell_X8_areTwo
set_option maxRecDepth 20000 in
theorem ggX10_tell_X10_isSquare : GoodIn wsX10_tell wsX10_isSquare := goodIn_r _ [15] (by decide +kernel) (by decide +kernel)
set_option maxRecDepth 20000 in
theorem gX10_tell_X10_isSquare : GoodIn wsX10_tell (va_wsS RX10 130 yX10_isSquare wsX10_isSquare) := goodIn_app (goodIn_of _ (by decide +kernel)) ggX10_tell_X10_isSquare
set_option maxRecDepth 20000 in
theorem ggX10_tell_X8_toldOrNone : GoodIn wsX10_tell wsX8_toldOrNone := goodIn_r _ [19, 20, 21, 22, 5, 23, 24, 41, 42] (by decide +kernel) (by decide +kernel)
set_option maxRecDepth 20000 in
theorem gX10_tell_X8_toldOrNone : GoodIn wsX10_tell (wsV RX10 126 RX8 yX8_toldOrNone wsX8_toldOrNone) := goodIn_app (goodIn_of _ (by decide +kernel)) ggX10_tell_X8_toldOrNone
set_option maxRecDepth 20000 in
theorem ggX10_tell_X8_put : GoodIn wsX10_tell wsX8_put := goodIn_r _ [28, 24, 41, 42] (by decide +kernel) (by decide +kernel)
set_option maxRecDepth 20000 in
theorem gX10_tell_X8_put : GoodIn wsX10_tell (wsV RX10 134 RX8 yX8_put wsX8_put) := goodIn_app (goodIn_of _ (by decide +kernel)) ggX10_tell_X8_put
theorem dX10_tell_0 : decode cX10_tell 0 = .ok (.aload_n 0, 1) := by decide +kernel
theorem dX10_tell_1 : decode cX10_tell 1 = .ok (.getfield 28, 3) := by decide +kernel
theorem dX10_tell_4 : decode cX10_tell 4 = .ok (.iload_n 1, 1) := by decide +kernel
theorem dX10_tell_5 : decode cX10_tell 5 = .ok (.iload_n 2, 1) := by decide +kernel
theorem dX10_tell_6 : decode cX10_tell 6 = .ok (.invokevirtual 122, 3) := by decide +kernel
theorem dX10_tell_9 : decode cX10_tell 9 = .ok (.ifCond .eq 16, 3) := by decide +kernel
theorem dX10_tell_12 : decode cX10_tell 12 = .ok (.iload_n 3, 1) := by decide +kernel
theorem dX10_tell_13 : decode cX10_tell 13 = .ok (.bipush (-4), 2) := by decide +kernel
theorem dX10_tell_15 : decode cX10_tell 15 = .ok (.if_icmp .eq 12, 3) := by decide +kernel
theorem dX10_tell_18 : decode cX10_tell 18 = .ok (.iload_n 3, 1) := by decide +kernel
theorem dX10_tell_19 : decode cX10_tell 19 = .ok (.invokestatic 130, 3) := by decide +kernel
theorem dX10_tell_22 : decode cX10_tell 22 = .ok (.ifCond .ne 5, 3) := by decide +kernel
theorem dX10_tell_25 : decode cX10_tell 25 = .ok (.iconst (-1), 1) := by decide +kernel
theorem dX10_tell_26 : decode cX10_tell 26 = .ok (.ireturn, 1) := by decide +kernel
theorem dX10_tell_27 : decode cX10_tell 27 = .ok (.aload_n 0, 1) := by decide +kernel
theorem dX10_tell_28 : decode cX10_tell 28 = .ok (.getfield 28, 3) := by decide +kernel
theorem dX10_tell_31 : decode cX10_tell 31 = .ok (.iload_n 1, 1) := by decide +kernel
theorem dX10_tell_32 : decode cX10_tell 32 = .ok (.iload_n 2, 1) := by decide +kernel
theorem dX10_tell_33 : decode cX10_tell 33 = .ok (.invokevirtual 126, 3) := by decide +kernel
theorem dX10_tell_36 : decode cX10_tell 36 = .ok (.istore 4, 2) := by decide +kernel
theorem dX10_tell_38 : decode cX10_tell 38 = .ok (.aload_n 0, 1) := by decide +kernel
theorem dX10_tell_39 : decode cX10_tell 39 = .ok (.getfield 28, 3) := by decide +kernel
theorem dX10_tell_42 : decode cX10_tell 42 = .ok (.iload_n 1, 1) := by decide +kernel
theorem dX10_tell_43 : decode cX10_tell 43 = .ok (.iload_n 2, 1) := by decide +kernel
theorem dX10_tell_44 : decode cX10_tell 44 = .ok (.iload_n 3, 1) := by decide +kernel
theorem dX10_tell_45 : decode cX10_tell 45 = .ok (.bipush (-4), 2) := by decide +kernel
theorem dX10_tell_47 : decode cX10_tell 47 = .ok (.if_icmp .ne 7, 3) := by decide +kernel
theorem dX10_tell_50 : decode cX10_tell 50 = .ok (.iconst 0, 1) := by decide +kernel
theorem dX10_tell_51 : decode cX10_tell 51 = .ok (.goto 4, 3) := by decide +kernel
theorem dX10_tell_54 : decode cX10_tell 54 = .ok (.iload_n 3, 1) := by decide +kernel
theorem dX10_tell_55 : decode cX10_tell 55 = .ok (.invokevirtual 134, 3) := by decide +kernel
theorem dX10_tell_58 : decode cX10_tell 58 = .ok (.iload 4, 2) := by decide +kernel
theorem dX10_tell_60 : decode cX10_tell 60 = .ok (.ireturn, 1) := by decide +kernel
set_option maxRecDepth 20000 in
theorem ggX10_pair_X8_areTwo : GoodIn wsX10_pair wsX8_areTwo := goodIn_r _ [6, 7, 8, 9, 5, 10, 11, 35, 36] (by decide +kernel) (by decide +kernel)
set_option maxRecDepth 20000 in
theorem gX10_pair_X8_areTwo : GoodIn wsX10_pair (wsV RX10 122 RX8 yX8_areTwo wsX8_areTwo) := goodIn_app (goodIn_of _ (by decide +kernel)) ggX10_pair_X8_areTwo
set_option maxRecDepth 20000 in
theorem ggX10_pair_X10_pairOf : GoodIn wsX10_pair wsX10_pairOf := goodIn_r _ [15, 16, 17, 18, 19, 20, 21, 22] (by decide +kernel) (by decide +kernel)
set_option maxRecDepth 20000 in
theorem gX10_pair_X10_pairOf : GoodIn wsX10_pair (va_wsS RX10 138 yX10_pairOf wsX10_pairOf) := goodIn_app (goodIn_of _ (by decide +kernel)) ggX10_pair_X10_pairOf
theorem dX10_pair_0 : decode cX10_pair 0 = .ok (.aload_n 0, 1) := by decide +kernel
theorem dX10_pair_1 : decode cX10_pair 1 = .ok (.getfield 28, 3) := by decide +kernel
theorem dX10_pair_4 : decode cX10_pair 4 = .ok (.iload_n 1, 1) := by decide +kernel
theorem dX10_pair_5 : decode cX10_pair 5 = .ok (.iload_n 2, 1) := by decide +kernel
theorem dX10_pair_6 : decode cX10_pair 6 = .ok (.invokevirtual 122, 3) := by decide +kernel
theorem dX10_pair_9 : decode cX10_pair 9 = .ok (.ifCond .eq 11, 3) := by decide +kernel
theorem dX10_pair_12 : decode cX10_pair 12 = .ok (.iload_n 1, 1) := by decide +kernel
theorem dX10_pair_13 : decode cX10_pair 13 = .ok (.iload_n 2, 1) := by decide +kernel
theorem dX10_pair_14 : decode cX10_pair 14 = .ok (.invokestatic 138, 3) := by decide +kernel
theorem dX10_pair_17 : decode cX10_pair 17 = .ok (.goto 4, 3) := by decide +kernel
theorem dX10_pair_20 : decode cX10_pair 20 = .ok (.iconst (-1), 1) := by decide +kernel
theorem dX10_pair_21 : decode cX10_pair 21 = .ok (.ireturn, 1) := by decide +kernel
set_option maxRecDepth 20000 in
theorem ggX10_wide_X8_areThree : GoodIn wsX10_wide wsX8_areThree := goodIn_r _ [8, 9, 10, 11, 7, 12, 13, 14, 15, 16, 17, 47, 48] (by decide +kernel) (by decide +kernel)
set_option maxRecDepth 20000 in
theorem gX10_wide_X8_areThree : GoodIn wsX10_wide (wsV RX10 141 RX8 yX8_areThree wsX8_areThree) := goodIn_app (goodIn_of _ (by decide +kernel)) ggX10_wide_X8_areThree
set_option maxRecDepth 20000 in
theorem ggX10_wide_X8_isToldThree : GoodIn wsX10_wide wsX8_isToldThree := goodIn_r _ [21, 22, 23, 24, 7, 25, 26, 47, 48] (by decide +kernel) (by decide +kernel)
set_option maxRecDepth 20000 in
theorem gX10_wide_X8_isToldThree : GoodIn wsX10_wide (wsV RX10 147 RX8 yX8_isToldThree wsX8_isToldThree) := goodIn_app (goodIn_of _ (by decide +kernel)) ggX10_wide_X8_isToldThree
set_option maxRecDepth 20000 in
theorem ggX10_wide_X8_wideOf : GoodIn wsX10_wide wsX8_wideOf := goodIn_r _ [30, 22, 23, 24, 7, 25, 26, 31, 32, 33, 34, 47, 48] (by decide +kernel) (by decide +kernel)
set_option maxRecDepth 20000 in
theorem gX10_wide_X8_wideOf : GoodIn wsX10_wide (wsV RX10 150 RX8 yX8_wideOf wsX8_wideOf) := goodIn_app (goodIn_of _ (by decide +kernel)) ggX10_wide_X8_wideOf
theorem dX10_wide_0 : decode cX10_wide 0 = .ok (.aload_n 0, 1) := by decide +kernel
theorem dX10_wide_1 : decode cX10_wide 1 = .ok (.getfield 28, 3) := by decide +kernel
theorem dX10_wide_4 : decode cX10_wide 4 = .ok (.iload_n 1, 1) := by decide +kernel
theorem dX10_wide_5 : decode cX10_wide 5 = .ok (.iload_n 2, 1) := by decide +kernel
theorem dX10_wide_6 : decode cX10_wide 6 = .ok (.iload_n 3, 1) := by decide +kernel
theorem dX10_wide_7 : decode cX10_wide 7 = .ok (.invokevirtual 141, 3) := by decide +kernel
theorem dX10_wide_10 : decode cX10_wide 10 = .ok (.ifCond .ne 7, 3) := by decide +kernel
theorem dX10_wide_13 : decode cX10_wide 13 = .ok (.ldc2_w 145, 3) := by decide +kernel
theorem dX10_wide_16 : decode cX10_wide 16 = .ok (.lreturn, 1) := by decide +kernel
theorem dX10_wide_17 : decode cX10_wide 17 = .ok (.aload_n 0, 1) := by decide +kernel
theorem dX10_wide_18 : decode cX10_wide 18 = .ok (.getfield 28, 3) := by decide +kernel
theorem dX10_wide_21 : decode cX10_wide 21 = .ok (.iload_n 1, 1) := by decide +kernel
theorem dX10_wide_22 : decode cX10_wide 22 = .ok (.iload_n 2, 1) := by decide +kernel
theorem dX10_wide_23 : decode cX10_wide 23 = .ok (.iload_n 3, 1) := by decide +kernel
theorem dX10_wide_24 : decode cX10_wide 24 = .ok (.invokevirtual 147, 3) := by decide +kernel
theorem dX10_wide_27 : decode cX10_wide 27 = .ok (.ifCond .eq 16, 3) := by decide +kernel
theorem dX10_wide_30 : decode cX10_wide 30 = .ok (.aload_n 0, 1) := by decide +kernel
theorem dX10_wide_31 : decode cX10_wide 31 = .ok (.getfield 28, 3) := by decide +kernel
theorem dX10_wide_34 : decode cX10_wide 34 = .ok (.iload_n 1, 1) := by decide +kernel
theorem dX10_wide_35 : decode cX10_wide 35 = .ok (.iload_n 2, 1) := by decide +kernel
theorem dX10_wide_36 : decode cX10_wide 36 = .ok (.iload_n 3, 1) := by decide +kernel
theorem dX10_wide_37 : decode cX10_wide 37 = .ok (.invokevirtual 150, 3) := by decide +kernel
theorem dX10_wide_40 : decode cX10_wide 40 = .ok (.goto 6, 3) := by decide +kernel
theorem dX10_wide_43 : decode cX10_wide 43 = .ok (.ldc2_w 154, 3) := by decide +kernel
theorem dX10_wide_46 : decode cX10_wide 46 = .ok (.lreturn, 1) := by decide +kernel
set_option maxRecDepth 20000 in
theorem ggX10_three_X8_areThree : GoodIn wsX10_three wsX8_areThree := goodIn_r _ [6, 7, 8, 9, 5, 10, 11, 12, 13, 14, 15, 52, 53] (by decide +kernel) (by decide +kernel)
set_option maxRecDepth 20000 in
theorem gX10_three_X8_areThree : GoodIn wsX10_three (wsV RX10 141 RX8 yX8_areThree wsX8_areThree) := goodIn_app (goodIn_of _ (by decide +kernel)) ggX10_three_X8_areThree
set_option maxRecDepth 20000 in
theorem ggX10_three_X8_isToldThree : GoodIn wsX10_three wsX8_isToldThree := goodIn_r _ [19, 20, 21, 22, 5, 23, 24, 52, 53] (by decide +kernel) (by decide +kernel)
set_option maxRecDepth 20000 in
theorem gX10_three_X8_isToldThree : GoodIn wsX10_three (wsV RX10 147 RX8 yX8_isToldThree wsX8_isToldThree) := goodIn_app (goodIn_of _ (by decide +kernel)) ggX10_three_X8_isToldThree
set_option maxRecDepth 20000 in
theorem ggX10_three_X8_canBeThree : GoodIn wsX10_three wsX8_canBeThree := goodIn_r _ [28, 29, 30, 31, 5, 32, 20, 21, 22, 23, 24, 33, 34, 35, 36, 52, 53] (by decide +kernel) (by decide +kernel)
set_option maxRecDepth 20000 in
theorem gX10_three_X8_canBeThree : GoodIn wsX10_three (wsV RX10 156 RX8 yX8_canBeThree wsX8_canBeThree) := goodIn_app (goodIn_of _ (by decide +kernel)) ggX10_three_X8_canBeThree
set_option maxRecDepth 20000 in
theorem ggX10_three_X10_bit : GoodIn wsX10_three wsX10_bit := goodIn_r _ [39] (by decide +kernel) (by decide +kernel)
set_option maxRecDepth 20000 in
theorem gX10_three_X10_bit : GoodIn wsX10_three (va_wsS RX10 159 yX10_bit wsX10_bit) := goodIn_app (goodIn_of _ (by decide +kernel)) ggX10_three_X10_bit
theorem dX10_three_0 : decode cX10_three 0 = .ok (.aload_n 0, 1) := by decide +kernel
theorem dX10_three_1 : decode cX10_three 1 = .ok (.getfield 28, 3) := by decide +kernel
theorem dX10_three_4 : decode cX10_three 4 = .ok (.iload_n 1, 1) := by decide +kernel
theorem dX10_three_5 : decode cX10_three 5 = .ok (.iload_n 2, 1) := by decide +kernel
theorem dX10_three_6 : decode cX10_three 6 = .ok (.iload_n 3, 1) := by decide +kernel
theorem dX10_three_7 : decode cX10_three 7 = .ok (.invokevirtual 141, 3) := by decide +kernel
theorem dX10_three_10 : decode cX10_three 10 = .ok (.ifCond .ne 5, 3) := by decide +kernel
theorem dX10_three_13 : decode cX10_three 13 = .ok (.iconst (-1), 1) := by decide +kernel
theorem dX10_three_14 : decode cX10_three 14 = .ok (.ireturn, 1) := by decide +kernel
theorem dX10_three_15 : decode cX10_three 15 = .ok (.aload_n 0, 1) := by decide +kernel
theorem dX10_three_16 : decode cX10_three 16 = .ok (.getfield 28, 3) := by decide +kernel
theorem dX10_three_19 : decode cX10_three 19 = .ok (.iload_n 1, 1) := by decide +kernel
theorem dX10_three_20 : decode cX10_three 20 = .ok (.iload_n 2, 1) := by decide +kernel
theorem dX10_three_21 : decode cX10_three 21 = .ok (.iload_n 3, 1) := by decide +kernel
theorem dX10_three_22 : decode cX10_three 22 = .ok (.invokevirtual 147, 3) := by decide +kernel
theorem dX10_three_25 : decode cX10_three 25 = .ok (.ifCond .ne 6, 3) := by decide +kernel
theorem dX10_three_28 : decode cX10_three 28 = .ok (.bipush (-4), 2) := by decide +kernel
theorem dX10_three_30 : decode cX10_three 30 = .ok (.ireturn, 1) := by decide +kernel
theorem dX10_three_31 : decode cX10_three 31 = .ok (.aload_n 0, 1) := by decide +kernel
theorem dX10_three_32 : decode cX10_three 32 = .ok (.getfield 28, 3) := by decide +kernel
theorem dX10_three_35 : decode cX10_three 35 = .ok (.iload_n 1, 1) := by decide +kernel
theorem dX10_three_36 : decode cX10_three 36 = .ok (.iload_n 2, 1) := by decide +kernel
theorem dX10_three_37 : decode cX10_three 37 = .ok (.iload_n 3, 1) := by decide +kernel
theorem dX10_three_38 : decode cX10_three 38 = .ok (.invokevirtual 156, 3) := by decide +kernel
theorem dX10_three_41 : decode cX10_three 41 = .ok (.invokestatic 159, 3) := by decide +kernel
theorem dX10_three_44 : decode cX10_three 44 = .ok (.ireturn, 1) := by decide +kernel
set_option maxRecDepth 20000 in
theorem ggX10_four_X8_areFour : GoodIn wsX10_four wsX8_areFour := goodIn_r _ [6, 7, 8, 9, 5, 10, 11, 12, 13, 14, 15, 16, 17, 18, 19, 73, 74] (by decide +kernel) (by decide +kernel)
set_option maxRecDepth 20000 in
theorem gX10_four_X8_areFour : GoodIn wsX10_four (wsV RX10 163 RX8 yX8_areFour wsX8_areFour) := goodIn_app (goodIn_of _ (by decide +kernel)) ggX10_four_X8_areFour
