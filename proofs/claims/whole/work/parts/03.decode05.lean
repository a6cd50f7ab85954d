theorem dX11_across_24 : decode cX11_across 24 = .ok (.aload_n 0, 1) := by decide +kernel
theorem dX11_across_25 : decode cX11_across 25 = .ok (.iload_n 3, 1) := by decide +kernel
theorem dX11_across_26 : decode cX11_across 26 = .ok (.iload 4, 2) := by decide +kernel
theorem dX11_across_28 : decode cX11_across 28 = .ok (.invokevirtual 149, 3) := by decide +kernel
theorem dX11_across_31 : decode cX11_across 31 = .ok (.aload_n 0, 1) := by decide +kernel
theorem dX11_across_32 : decode cX11_across 32 = .ok (.iload_n 3, 1) := by decide +kernel
theorem dX11_across_33 : decode cX11_across 33 = .ok (.iload_n 2, 1) := by decide +kernel
theorem dX11_across_34 : decode cX11_across 34 = .ok (.invokevirtual 149, 3) := by decide +kernel
theorem dX11_across_37 : decode cX11_across 37 = .ok (.ladd, 1) := by decide +kernel
theorem dX11_across_38 : decode cX11_across 38 = .ok (.aload_n 0, 1) := by decide +kernel
theorem dX11_across_39 : decode cX11_across 39 = .ok (.iload 4, 2) := by decide +kernel
theorem dX11_across_41 : decode cX11_across 41 = .ok (.iload_n 2, 1) := by decide +kernel
theorem dX11_across_42 : decode cX11_across 42 = .ok (.invokevirtual 149, 3) := by decide +kernel
theorem dX11_across_45 : decode cX11_across 45 = .ok (.lsub, 1) := by decide +kernel
theorem dX11_across_46 : decode cX11_across 46 = .ok (.lstore 7, 2) := by decide +kernel
theorem dX11_across_48 : decode cX11_across 48 = .ok (.ldc2_w 179, 3) := by decide +kernel
theorem dX11_across_51 : decode cX11_across 51 = .ok (.aload_n 0, 1) := by decide +kernel
theorem dX11_across_52 : decode cX11_across 52 = .ok (.iload_n 3, 1) := by decide +kernel
theorem dX11_across_53 : decode cX11_across 53 = .ok (.iload 4, 2) := by decide +kernel
theorem dX11_across_55 : decode cX11_across 55 = .ok (.invokevirtual 149, 3) := by decide +kernel
theorem dX11_across_58 : decode cX11_across 58 = .ok (.lmul, 1) := by decide +kernel
theorem dX11_across_59 : decode cX11_across 59 = .ok (.aload_n 0, 1) := by decide +kernel
theorem dX11_across_60 : decode cX11_across 60 = .ok (.iload_n 3, 1) := by decide +kernel
theorem dX11_across_61 : decode cX11_across 61 = .ok (.iload_n 1, 1) := by decide +kernel
theorem dX11_across_62 : decode cX11_across 62 = .ok (.invokevirtual 149, 3) := by decide +kernel
theorem dX11_across_65 : decode cX11_across 65 = .ok (.aload_n 0, 1) := by decide +kernel
theorem dX11_across_66 : decode cX11_across 66 = .ok (.iload_n 3, 1) := by decide +kernel
theorem dX11_across_67 : decode cX11_across 67 = .ok (.iload_n 2, 1) := by decide +kernel
theorem dX11_across_68 : decode cX11_across 68 = .ok (.invokevirtual 149, 3) := by decide +kernel
theorem dX11_across_71 : decode cX11_across 71 = .ok (.ladd, 1) := by decide +kernel
theorem dX11_across_72 : decode cX11_across 72 = .ok (.lmul, 1) := by decide +kernel
theorem dX11_across_73 : decode cX11_across 73 = .ok (.lload 5, 2) := by decide +kernel
theorem dX11_across_75 : decode cX11_across 75 = .ok (.lload 7, 2) := by decide +kernel
theorem dX11_across_77 : decode cX11_across 77 = .ok (.lmul, 1) := by decide +kernel
theorem dX11_across_78 : decode cX11_across 78 = .ok (.lsub, 1) := by decide +kernel
theorem dX11_across_79 : decode cX11_across 79 = .ok (.lreturn, 1) := by decide +kernel
set_option maxRecDepth 20000 in
theorem ggX11_under_X11_wideOf : GoodIn wsX11_under wsX11_wideOf := goodIn_r _ [5, 6, 7, 8, 4, 9, 10, 11, 12, 13, 14, 15, 16, 17, 18, 19, 20, 21, 22, 23, 24, 25, 26, 27, 28, 29, 30, 31, 32, 33, 34, 35, 36, 37, 38, 39, 40, 41, 42, 43, 44, 45, 46, 47] (by decide +kernel) (by decide +kernel)
set_option maxRecDepth 20000 in
theorem gX11_under_X11_wideOf : GoodIn wsX11_under (wsV RX11 168 RX11 yX11_wideOf wsX11_wideOf) := goodIn_app (goodIn_of _ (by decide +kernel)) ggX11_under_X11_wideOf
theorem dX11_under_0 : decode cX11_under 0 = .ok (.aload_n 0, 1) := by decide +kernel
theorem dX11_under_1 : decode cX11_under 1 = .ok (.iload_n 3, 1) := by decide +kernel
theorem dX11_under_2 : decode cX11_under 2 = .ok (.iload 4, 2) := by decide +kernel
theorem dX11_under_4 : decode cX11_under 4 = .ok (.iload_n 1, 1) := by decide +kernel
theorem dX11_under_5 : decode cX11_under 5 = .ok (.invokevirtual 168, 3) := by decide +kernel
theorem dX11_under_8 : decode cX11_under 8 = .ok (.aload_n 0, 1) := by decide +kernel
theorem dX11_under_9 : decode cX11_under 9 = .ok (.iload_n 3, 1) := by decide +kernel
theorem dX11_under_10 : decode cX11_under 10 = .ok (.iload 4, 2) := by decide +kernel
theorem dX11_under_12 : decode cX11_under 12 = .ok (.iload_n 2, 1) := by decide +kernel
theorem dX11_under_13 : decode cX11_under 13 = .ok (.invokevirtual 168, 3) := by decide +kernel
theorem dX11_under_16 : decode cX11_under 16 = .ok (.lmul, 1) := by decide +kernel
theorem dX11_under_17 : decode cX11_under 17 = .ok (.lreturn, 1) := by decide +kernel
set_option maxRecDepth 20000 in
theorem ggX11_sixth_X11_areFour : GoodIn wsX11_sixth wsX11_areFour := goodIn_r _ [10, 11, 12, 13, 9, 14, 15, 16, 17, 18, 19, 20, 21, 22, 23, 24, 25, 26, 27, 28, 29, 30, 31, 66, 67, 68, 69, 70, 71, 72, 73, 74, 75, 76, 77, 78, 79, 80, 81, 82, 83, 84, 85, 86, 87, 88, 89, 90, 91, 92, 93, 94, 95] (by decide +kernel) (by decide +kernel)
set_option maxRecDepth 20000 in
theorem gX11_sixth_X11_areFour : GoodIn wsX11_sixth (wsV RX11 184 RX11 yX11_areFour wsX11_areFour) := goodIn_app (goodIn_of _ (by decide +kernel)) ggX11_sixth_X11_areFour
set_option maxRecDepth 20000 in
theorem ggX11_sixth_X11_in : GoodIn wsX11_sixth wsX11_in := goodIn_r _ [31] (by decide +kernel) (by decide +kernel)
set_option maxRecDepth 20000 in
theorem gX11_sixth_X11_in : GoodIn wsX11_sixth (va_wsS RX11 64 yX11_in wsX11_in) := goodIn_app (goodIn_of _ (by decide +kernel)) ggX11_sixth_X11_in
set_option maxRecDepth 20000 in
theorem ggX11_sixth_X11_areTold : GoodIn wsX11_sixth wsX11_areTold := goodIn_r _ [35, 36, 37, 38, 9, 39, 23, 40, 41, 42, 66, 67, 68, 69, 70, 71, 72, 73, 74, 75, 76, 77, 78, 79, 80, 81, 82, 83, 84, 85, 86, 87, 88, 89, 90, 91, 92, 93, 94, 95] (by decide +kernel) (by decide +kernel)
set_option maxRecDepth 20000 in
theorem gX11_sixth_X11_areTold : GoodIn wsX11_sixth (wsV RX11 153 RX11 yX11_areTold wsX11_areTold) := goodIn_app (goodIn_of _ (by decide +kernel)) ggX11_sixth_X11_areTold
set_option maxRecDepth 20000 in
theorem ggX11_sixth_X11_canBe : GoodIn wsX11_sixth wsX11_canBe := goodIn_r _ [46, 47, 48, 49, 9, 50, 36, 37, 38, 39, 23, 40, 41, 42, 51, 52, 53, 1, 66, 67, 68, 69, 70, 71, 72, 73, 74, 75, 76, 77, 78, 79, 80, 81, 82, 83, 84, 85, 86, 87, 88, 89, 90, 91, 92, 93, 94, 95] (by decide +kernel) (by decide +kernel)
set_option maxRecDepth 20000 in
theorem gX11_sixth_X11_canBe : GoodIn wsX11_sixth (wsV RX11 176 RX11 yX11_canBe wsX11_canBe) := goodIn_app (goodIn_of _ (by decide +kernel)) ggX11_sixth_X11_canBe
set_option maxRecDepth 20000 in
theorem ggX11_sixth_X11_across : GoodIn wsX11_sixth wsX11_across := goodIn_r _ [57, 4, 36, 37, 38, 9, 39, 23, 40, 41, 42, 66, 67, 68, 69, 70, 71, 72, 73, 74, 75, 76, 77, 78, 79, 80, 81, 82, 83, 84, 85, 86, 87, 88, 89, 90, 91, 92, 93, 94, 95] (by decide +kernel) (by decide +kernel)
set_option maxRecDepth 20000 in
theorem gX11_sixth_X11_across : GoodIn wsX11_sixth (wsV RX11 233 RX11 yX11_across wsX11_across) := goodIn_app (goodIn_of _ (by decide +kernel)) ggX11_sixth_X11_across
set_option maxRecDepth 20000 in
theorem ggX11_sixth_X11_under : GoodIn wsX11_sixth wsX11_under := goodIn_r _ [61, 47, 48, 49, 9, 50, 36, 37, 38, 39, 23, 40, 41, 42, 51, 52, 53, 1, 66, 67, 68, 69, 70, 71, 72, 73, 74, 75, 76, 77, 78, 79, 80, 81, 82, 83, 84, 85, 86, 87, 88, 89, 90, 91, 92, 93, 94, 95] (by decide +kernel) (by decide +kernel)
set_option maxRecDepth 20000 in
theorem gX11_sixth_X11_under : GoodIn wsX11_sixth (wsV RX11 236 RX11 yX11_under wsX11_under) := goodIn_app (goodIn_of _ (by decide +kernel)) ggX11_sixth_X11_under
set_option maxRecDepth 20000 in
theorem ggX11_sixth_X11_sq : GoodIn wsX11_sixth wsX11_sq := goodIn_r _ [39, 23, 40, 41, 9, 42, 66, 67, 68, 69, 70, 71, 72, 73, 74, 75, 76, 77, 78, 79, 80, 81, 82, 83, 84, 85, 86, 87, 88, 89, 90, 91, 92, 93, 94, 95] (by decide +kernel) (by decide +kernel)
set_option maxRecDepth 20000 in
theorem gX11_sixth_X11_sq : GoodIn wsX11_sixth (wsV RX11 149 RX11 yX11_sq wsX11_sq) := goodIn_app (goodIn_of _ (by decide +kernel)) ggX11_sixth_X11_sq
set_option maxRecDepth 20000 in
theorem ggX11_sixth_X11_root : GoodIn wsX11_sixth wsX11_root := goodIn_r _ [64, 65, 4] (by decide +kernel) (by decide +kernel)
set_option maxRecDepth 20000 in
theorem gX11_sixth_X11_root : GoodIn wsX11_sixth (va_wsS RX11 239 yX11_root wsX11_root) := goodIn_app (goodIn_of _ (by decide +kernel)) ggX11_sixth_X11_root
theorem dX11_sixth_0 : decode cX11_sixth 0 = .ok (.aload_n 0, 1) := by decide +kernel
theorem dX11_sixth_1 : decode cX11_sixth 1 = .ok (.iload_n 1, 1) := by decide +kernel
theorem dX11_sixth_2 : decode cX11_sixth 2 = .ok (.iload_n 2, 1) := by decide +kernel
theorem dX11_sixth_3 : decode cX11_sixth 3 = .ok (.iload_n 3, 1) := by decide +kernel
theorem dX11_sixth_4 : decode cX11_sixth 4 = .ok (.iload 4, 2) := by decide +kernel
theorem dX11_sixth_6 : decode cX11_sixth 6 = .ok (.invokevirtual 184, 3) := by decide +kernel
theorem dX11_sixth_9 : decode cX11_sixth 9 = .ok (.ifCond .eq 16, 3) := by decide +kernel
theorem dX11_sixth_12 : decode cX11_sixth 12 = .ok (.iload 5, 2) := by decide +kernel
theorem dX11_sixth_14 : decode cX11_sixth 14 = .ok (.i2l, 1) := by decide +kernel
theorem dX11_sixth_15 : decode cX11_sixth 15 = .ok (.lconst 0, 1) := by decide +kernel
theorem dX11_sixth_16 : decode cX11_sixth 16 = .ok (.ldc2_w 162, 3) := by decide +kernel
theorem dX11_sixth_19 : decode cX11_sixth 19 = .ok (.invokestatic 64, 3) := by decide +kernel
theorem dX11_sixth_22 : decode cX11_sixth 22 = .ok (.ifCond .ne 7, 3) := by decide +kernel
theorem dX11_sixth_25 : decode cX11_sixth 25 = .ok (.ldc2_w 172, 3) := by decide +kernel
theorem dX11_sixth_28 : decode cX11_sixth 28 = .ok (.lreturn, 1) := by decide +kernel
theorem dX11_sixth_29 : decode cX11_sixth 29 = .ok (.aload_n 0, 1) := by decide +kernel
theorem dX11_sixth_30 : decode cX11_sixth 30 = .ok (.iload_n 3, 1) := by decide +kernel
theorem dX11_sixth_31 : decode cX11_sixth 31 = .ok (.iload 4, 2) := by decide +kernel
theorem dX11_sixth_33 : decode cX11_sixth 33 = .ok (.iload_n 1, 1) := by decide +kernel
theorem dX11_sixth_34 : decode cX11_sixth 34 = .ok (.invokevirtual 153, 3) := by decide +kernel
theorem dX11_sixth_37 : decode cX11_sixth 37 = .ok (.ifCond .eq 36, 3) := by decide +kernel
theorem dX11_sixth_40 : decode cX11_sixth 40 = .ok (.aload_n 0, 1) := by decide +kernel
theorem dX11_sixth_41 : decode cX11_sixth 41 = .ok (.iload_n 3, 1) := by decide +kernel
theorem dX11_sixth_42 : decode cX11_sixth 42 = .ok (.iload 4, 2) := by decide +kernel
theorem dX11_sixth_44 : decode cX11_sixth 44 = .ok (.iload_n 2, 1) := by decide +kernel
theorem dX11_sixth_45 : decode cX11_sixth 45 = .ok (.invokevirtual 153, 3) := by decide +kernel
theorem dX11_sixth_48 : decode cX11_sixth 48 = .ok (.ifCond .eq 25, 3) := by decide +kernel
theorem dX11_sixth_51 : decode cX11_sixth 51 = .ok (.aload_n 0, 1) := by decide +kernel
theorem dX11_sixth_52 : decode cX11_sixth 52 = .ok (.iload_n 3, 1) := by decide +kernel
theorem dX11_sixth_53 : decode cX11_sixth 53 = .ok (.iload 4, 2) := by decide +kernel
theorem dX11_sixth_55 : decode cX11_sixth 55 = .ok (.iload_n 1, 1) := by decide +kernel
theorem dX11_sixth_56 : decode cX11_sixth 56 = .ok (.invokevirtual 176, 3) := by decide +kernel
theorem dX11_sixth_59 : decode cX11_sixth 59 = .ok (.ifCond .eq 14, 3) := by decide +kernel
theorem dX11_sixth_62 : decode cX11_sixth 62 = .ok (.aload_n 0, 1) := by decide +kernel
theorem dX11_sixth_63 : decode cX11_sixth 63 = .ok (.iload_n 3, 1) := by decide +kernel
theorem dX11_sixth_64 : decode cX11_sixth 64 = .ok (.iload 4, 2) := by decide +kernel
theorem dX11_sixth_66 : decode cX11_sixth 66 = .ok (.iload_n 2, 1) := by decide +kernel
theorem dX11_sixth_67 : decode cX11_sixth 67 = .ok (.invokevirtual 176, 3) := by decide +kernel
theorem dX11_sixth_70 : decode cX11_sixth 70 = .ok (.ifCond .ne 7, 3) := by decide +kernel
theorem dX11_sixth_73 : decode cX11_sixth 73 = .ok (.ldc2_w 174, 3) := by decide +kernel
theorem dX11_sixth_76 : decode cX11_sixth 76 = .ok (.lreturn, 1) := by decide +kernel
theorem dX11_sixth_77 : decode cX11_sixth 77 = .ok (.aload_n 0, 1) := by decide +kernel
theorem dX11_sixth_78 : decode cX11_sixth 78 = .ok (.iload_n 1, 1) := by decide +kernel
theorem dX11_sixth_79 : decode cX11_sixth 79 = .ok (.iload_n 2, 1) := by decide +kernel
theorem dX11_sixth_80 : decode cX11_sixth 80 = .ok (.iload_n 3, 1) := by decide +kernel
theorem dX11_sixth_81 : decode cX11_sixth 81 = .ok (.iload 4, 2) := by decide +kernel
theorem dX11_sixth_83 : decode cX11_sixth 83 = .ok (.invokevirtual 233, 3) := by decide +kernel
theorem dX11_sixth_86 : decode cX11_sixth 86 = .ok (.lstore 6, 2) := by decide +kernel
theorem dX11_sixth_88 : decode cX11_sixth 88 = .ok (.aload_n 0, 1) := by decide +kernel
theorem dX11_sixth_89 : decode cX11_sixth 89 = .ok (.iload_n 1, 1) := by decide +kernel
theorem dX11_sixth_90 : decode cX11_sixth 90 = .ok (.iload_n 2, 1) := by decide +kernel
theorem dX11_sixth_91 : decode cX11_sixth 91 = .ok (.iload_n 3, 1) := by decide +kernel
theorem dX11_sixth_92 : decode cX11_sixth 92 = .ok (.iload 4, 2) := by decide +kernel
theorem dX11_sixth_94 : decode cX11_sixth 94 = .ok (.invokevirtual 236, 3) := by decide +kernel
theorem dX11_sixth_97 : decode cX11_sixth 97 = .ok (.lstore 8, 2) := by decide +kernel
theorem dX11_sixth_99 : decode cX11_sixth 99 = .ok (.ldc2_w 179, 3) := by decide +kernel
theorem dX11_sixth_102 : decode cX11_sixth 102 = .ok (.aload_n 0, 1) := by decide +kernel
theorem dX11_sixth_103 : decode cX11_sixth 103 = .ok (.iload_n 3, 1) := by decide +kernel
theorem dX11_sixth_104 : decode cX11_sixth 104 = .ok (.iload 4, 2) := by decide +kernel
theorem dX11_sixth_106 : decode cX11_sixth 106 = .ok (.invokevirtual 149, 3) := by decide +kernel
theorem dX11_sixth_109 : decode cX11_sixth 109 = .ok (.lmul, 1) := by decide +kernel
theorem dX11_sixth_110 : decode cX11_sixth 110 = .ok (.lstore 10, 2) := by decide +kernel
theorem dX11_sixth_112 : decode cX11_sixth 112 = .ok (.iload 5, 2) := by decide +kernel
theorem dX11_sixth_114 : decode cX11_sixth 114 = .ok (.iconst 3, 1) := by decide +kernel
theorem dX11_sixth_115 : decode cX11_sixth 115 = .ok (.if_icmp .ge 27, 3) := by decide +kernel
theorem dX11_sixth_118 : decode cX11_sixth 118 = .ok (.iload 5, 2) := by decide +kernel
theorem dX11_sixth_120 : decode cX11_sixth 120 = .ok (.ifCond .ne 8, 3) := by decide +kernel
theorem dX11_sixth_123 : decode cX11_sixth 123 = .ok (.lload 6, 2) := by decide +kernel
theorem dX11_sixth_125 : decode cX11_sixth 125 = .ok (.goto 16, 3) := by decide +kernel
theorem dX11_sixth_128 : decode cX11_sixth 128 = .ok (.iload 5, 2) := by decide +kernel
theorem dX11_sixth_130 : decode cX11_sixth 130 = .ok (.iconst 1, 1) := by decide +kernel
theorem dX11_sixth_131 : decode cX11_sixth 131 = .ok (.if_icmp .ne 8, 3) := by decide +kernel
theorem dX11_sixth_134 : decode cX11_sixth 134 = .ok (.lload 8, 2) := by decide +kernel
theorem dX11_sixth_136 : decode cX11_sixth 136 = .ok (.goto 5, 3) := by decide +kernel
theorem dX11_sixth_139 : decode cX11_sixth 139 = .ok (.lload 10, 2) := by decide +kernel
theorem dX11_sixth_141 : decode cX11_sixth 141 = .ok (.lreturn, 1) := by decide +kernel
theorem dX11_sixth_142 : decode cX11_sixth 142 = .ok (.lload 8, 2) := by decide +kernel
theorem dX11_sixth_144 : decode cX11_sixth 144 = .ok (.invokestatic 239, 3) := by decide +kernel
theorem dX11_sixth_147 : decode cX11_sixth 147 = .ok (.lstore 12, 2) := by decide +kernel
theorem dX11_sixth_149 : decode cX11_sixth 149 = .ok (.iload 5, 2) := by decide +kernel
theorem dX11_sixth_151 : decode cX11_sixth 151 = .ok (.iconst 3, 1) := by decide +kernel
theorem dX11_sixth_152 : decode cX11_sixth 152 = .ok (.if_icmp .ne 11, 3) := by decide +kernel
theorem dX11_sixth_155 : decode cX11_sixth 155 = .ok (.lload 6, 2) := by decide +kernel
theorem dX11_sixth_157 : decode cX11_sixth 157 = .ok (.lload 12, 2) := by decide +kernel
theorem dX11_sixth_159 : decode cX11_sixth 159 = .ok (.lsub, 1) := by decide +kernel
theorem dX11_sixth_160 : decode cX11_sixth 160 = .ok (.goto 8, 3) := by decide +kernel
theorem dX11_sixth_163 : decode cX11_sixth 163 = .ok (.lload 6, 2) := by decide +kernel
theorem dX11_sixth_165 : decode cX11_sixth 165 = .ok (.lload 12, 2) := by decide +kernel
theorem dX11_sixth_167 : decode cX11_sixth 167 = .ok (.ladd, 1) := by decide +kernel
theorem dX11_sixth_168 : decode cX11_sixth 168 = .ok (.lstore 14, 2) := by decide +kernel
theorem dX11_sixth_170 : decode cX11_sixth 170 = .ok (.lload 12, 2) := by decide +kernel
theorem dX11_sixth_172 : decode cX11_sixth 172 = .ok (.lload 12, 2) := by decide +kernel
theorem dX11_sixth_174 : decode cX11_sixth 174 = .ok (.lmul, 1) := by decide +kernel
theorem dX11_sixth_175 : decode cX11_sixth 175 = .ok (.lload 8, 2) := by decide +kernel
theorem dX11_sixth_177 : decode cX11_sixth 177 = .ok (.lcmp, 1) := by decide +kernel
theorem dX11_sixth_178 : decode cX11_sixth 178 = .ok (.ifCond .ne 21, 3) := by decide +kernel
theorem dX11_sixth_181 : decode cX11_sixth 181 = .ok (.lload 14, 2) := by decide +kernel
theorem dX11_sixth_183 : decode cX11_sixth 183 = .ok (.lload 10, 2) := by decide +kernel
theorem dX11_sixth_185 : decode cX11_sixth 185 = .ok (.lrem, 1) := by decide +kernel
theorem dX11_sixth_186 : decode cX11_sixth 186 = .ok (.lconst 0, 1) := by decide +kernel
theorem dX11_sixth_187 : decode cX11_sixth 187 = .ok (.lcmp, 1) := by decide +kernel
theorem dX11_sixth_188 : decode cX11_sixth 188 = .ok (.ifCond .ne 11, 3) := by decide +kernel
theorem dX11_sixth_191 : decode cX11_sixth 191 = .ok (.lload 14, 2) := by decide +kernel
theorem dX11_sixth_193 : decode cX11_sixth 193 = .ok (.lload 10, 2) := by decide +kernel
theorem dX11_sixth_195 : decode cX11_sixth 195 = .ok (.ldiv, 1) := by decide +kernel
theorem dX11_sixth_196 : decode cX11_sixth 196 = .ok (.goto 6, 3) := by decide +kernel
theorem dX11_sixth_199 : decode cX11_sixth 199 = .ok (.ldc2_w 243, 3) := by decide +kernel
theorem dX11_sixth_202 : decode cX11_sixth 202 = .ok (.lreturn, 1) := by decide +kernel
set_option maxRecDepth 20000 in
theorem ggX11_ends_X11_areTwo : GoodIn wsX11_ends wsX11_areTwo := goodIn_r _ [8, 9, 10, 11, 7, 12, 2, 13, 14, 15, 16, 17, 18, 19, 20, 33, 34, 35, 36, 37, 38, 39, 40, 41, 42, 43, 44, 45, 46, 47, 48, 49, 50, 51, 52, 53, 54, 55, 56, 57, 58, 59, 60, 61, 62] (by decide +kernel) (by decide +kernel)
set_option maxRecDepth 20000 in
theorem gX11_ends_X11_areTwo : GoodIn wsX11_ends (wsV RX11 142 RX11 yX11_areTwo wsX11_areTwo) := goodIn_app (goodIn_of _ (by decide +kernel)) ggX11_ends_X11_areTwo
set_option maxRecDepth 20000 in
theorem ggX11_ends_X11_in : GoodIn wsX11_ends wsX11_in := goodIn_r _ [20] (by decide +kernel) (by decide +kernel)
set_option maxRecDepth 20000 in
theorem gX11_ends_X11_in : GoodIn wsX11_ends (va_wsS RX11 64 yX11_in wsX11_in) := goodIn_app (goodIn_of _ (by decide +kernel)) ggX11_ends_X11_in
set_option maxRecDepth 20000 in
theorem ggX11_ends_X11_sq : GoodIn wsX11_ends wsX11_sq := goodIn_r _ [24, 2, 25, 26, 7, 27, 33, 34, 35, 36, 37, 38, 39, 40, 41, 42, 43, 44, 45, 46, 47, 48, 49, 50, 51, 52, 53, 54, 55, 56, 57, 58, 59, 60, 61, 62] (by decide +kernel) (by decide +kernel)
set_option maxRecDepth 20000 in
theorem gX11_ends_X11_sq : GoodIn wsX11_ends (wsV RX11 149 RX11 yX11_sq wsX11_sq) := goodIn_app (goodIn_of _ (by decide +kernel)) ggX11_ends_X11_sq
set_option maxRecDepth 20000 in
theorem ggX11_ends_X11_root : GoodIn wsX11_ends wsX11_root := goodIn_r _ [30, 31, 32] (by decide +kernel) (by decide +kernel)
set_option maxRecDepth 20000 in
theorem gX11_ends_X11_root : GoodIn wsX11_ends (va_wsS RX11 239 yX11_root wsX11_root) := goodIn_app (goodIn_of _ (by decide +kernel)) ggX11_ends_X11_root
theorem dX11_ends_0 : decode cX11_ends 0 = .ok (.aload_n 0, 1) := by decide +kernel
theorem dX11_ends_1 : decode cX11_ends 1 = .ok (.iload_n 1, 1) := by decide +kernel
theorem dX11_ends_2 : decode cX11_ends 2 = .ok (.iload_n 2, 1) := by decide +kernel
theorem dX11_ends_3 : decode cX11_ends 3 = .ok (.invokevirtual 142, 3) := by decide +kernel
theorem dX11_ends_6 : decode cX11_ends 6 = .ok (.ifCond .eq 13, 3) := by decide +kernel
theorem dX11_ends_9 : decode cX11_ends 9 = .ok (.iload_n 3, 1) := by decide +kernel
theorem dX11_ends_10 : decode cX11_ends 10 = .ok (.i2l, 1) := by decide +kernel
theorem dX11_ends_11 : decode cX11_ends 11 = .ok (.lconst 0, 1) := by decide +kernel
theorem dX11_ends_12 : decode cX11_ends 12 = .ok (.lconst 1, 1) := by decide +kernel
theorem dX11_ends_13 : decode cX11_ends 13 = .ok (.invokestatic 64, 3) := by decide +kernel
theorem dX11_ends_16 : decode cX11_ends 16 = .ok (.ifCond .ne 5, 3) := by decide +kernel
theorem dX11_ends_19 : decode cX11_ends 19 = .ok (.iconst (-1), 1) := by decide +kernel
theorem dX11_ends_20 : decode cX11_ends 20 = .ok (.ireturn, 1) := by decide +kernel
theorem dX11_ends_21 : decode cX11_ends 21 = .ok (.lconst 0, 1) := by decide +kernel
theorem dX11_ends_22 : decode cX11_ends 22 = .ok (.lstore 4, 2) := by decide +kernel
theorem dX11_ends_24 : decode cX11_ends 24 = .ok (.ldc2_w 245, 3) := by decide +kernel
theorem dX11_ends_27 : decode cX11_ends 27 = .ok (.lstore 6, 2) := by decide +kernel
theorem dX11_ends_29 : decode cX11_ends 29 = .ok (.iconst 0, 1) := by decide +kernel
theorem dX11_ends_30 : decode cX11_ends 30 = .ok (.istore 8, 2) := by decide +kernel
theorem dX11_ends_32 : decode cX11_ends 32 = .ok (.iload 8, 2) := by decide +kernel
theorem dX11_ends_34 : decode cX11_ends 34 = .ok (.aload_n 0, 1) := by decide +kernel
theorem dX11_ends_35 : decode cX11_ends 35 = .ok (.getfield 7, 3) := by decide +kernel
theorem dX11_ends_38 : decode cX11_ends 38 = .ok (.bipush 21, 2) := by decide +kernel
theorem dX11_ends_40 : decode cX11_ends 40 = .ok (.iaload, 1) := by decide +kernel
theorem dX11_ends_41 : decode cX11_ends 41 = .ok (.if_icmp .ge 125, 3) := by decide +kernel
theorem dX11_ends_44 : decode cX11_ends 44 = .ok (.aload_n 0, 1) := by decide +kernel
theorem dX11_ends_45 : decode cX11_ends 45 = .ok (.iload_n 1, 1) := by decide +kernel
theorem dX11_ends_46 : decode cX11_ends 46 = .ok (.iload 8, 2) := by decide +kernel
theorem dX11_ends_48 : decode cX11_ends 48 = .ok (.invokevirtual 149, 3) := by decide +kernel
theorem dX11_ends_51 : decode cX11_ends 51 = .ok (.lstore 9, 2) := by decide +kernel
theorem dX11_ends_53 : decode cX11_ends 53 = .ok (.aload_n 0, 1) := by decide +kernel
theorem dX11_ends_54 : decode cX11_ends 54 = .ok (.iload_n 2, 1) := by decide +kernel
theorem dX11_ends_55 : decode cX11_ends 55 = .ok (.iload 8, 2) := by decide +kernel
theorem dX11_ends_57 : decode cX11_ends 57 = .ok (.invokevirtual 149, 3) := by decide +kernel
theorem dX11_ends_60 : decode cX11_ends 60 = .ok (.lstore 11, 2) := by decide +kernel
theorem dX11_ends_62 : decode cX11_ends 62 = .ok (.iload 8, 2) := by decide +kernel
theorem dX11_ends_64 : decode cX11_ends 64 = .ok (.iload_n 1, 1) := by decide +kernel
theorem dX11_ends_65 : decode cX11_ends 65 = .ok (.if_icmp .eq 95, 3) := by decide +kernel
theorem dX11_ends_68 : decode cX11_ends 68 = .ok (.iload 8, 2) := by decide +kernel
theorem dX11_ends_70 : decode cX11_ends 70 = .ok (.iload_n 2, 1) := by decide +kernel
theorem dX11_ends_71 : decode cX11_ends 71 = .ok (.if_icmp .eq 89, 3) := by decide +kernel
theorem dX11_ends_74 : decode cX11_ends 74 = .ok (.lload 9, 2) := by decide +kernel
theorem dX11_ends_76 : decode cX11_ends 76 = .ok (.lconst 0, 1) := by decide +kernel
theorem dX11_ends_77 : decode cX11_ends 77 = .ok (.lcmp, 1) := by decide +kernel
theorem dX11_ends_78 : decode cX11_ends 78 = .ok (.ifCond .le 82, 3) := by decide +kernel
theorem dX11_ends_81 : decode cX11_ends 81 = .ok (.lload 11, 2) := by decide +kernel
theorem dX11_ends_83 : decode cX11_ends 83 = .ok (.lconst 0, 1) := by decide +kernel
theorem dX11_ends_84 : decode cX11_ends 84 = .ok (.lcmp, 1) := by decide +kernel
theorem dX11_ends_85 : decode cX11_ends 85 = .ok (.ifCond .le 75, 3) := by decide +kernel
theorem dX11_ends_88 : decode cX11_ends 88 = .ok (.ldc2_w 162, 3) := by decide +kernel
theorem dX11_ends_91 : decode cX11_ends 91 = .ok (.lload 9, 2) := by decide +kernel
theorem dX11_ends_93 : decode cX11_ends 93 = .ok (.lmul, 1) := by decide +kernel
theorem dX11_ends_94 : decode cX11_ends 94 = .ok (.lload 11, 2) := by decide +kernel
theorem dX11_ends_96 : decode cX11_ends 96 = .ok (.lmul, 1) := by decide +kernel
theorem dX11_ends_97 : decode cX11_ends 97 = .ok (.invokestatic 239, 3) := by decide +kernel
theorem dX11_ends_100 : decode cX11_ends 100 = .ok (.lstore 13, 2) := by decide +kernel
theorem dX11_ends_102 : decode cX11_ends 102 = .ok (.lload 9, 2) := by decide +kernel
theorem dX11_ends_104 : decode cX11_ends 104 = .ok (.lload 11, 2) := by decide +kernel
theorem dX11_ends_106 : decode cX11_ends 106 = .ok (.ladd, 1) := by decide +kernel
theorem dX11_ends_107 : decode cX11_ends 107 = .ok (.lload 13, 2) := by decide +kernel
theorem dX11_ends_109 : decode cX11_ends 109 = .ok (.lsub, 1) := by decide +kernel
theorem dX11_ends_110 : decode cX11_ends 110 = .ok (.lload 4, 2) := by decide +kernel
theorem dX11_ends_112 : decode cX11_ends 112 = .ok (.lcmp, 1) := by decide +kernel
theorem dX11_ends_113 : decode cX11_ends 113 = .ok (.ifCond .le 14, 3) := by decide +kernel
theorem dX11_ends_116 : decode cX11_ends 116 = .ok (.lload 9, 2) := by decide +kernel
theorem dX11_ends_118 : decode cX11_ends 118 = .ok (.lload 11, 2) := by decide +kernel
theorem dX11_ends_120 : decode cX11_ends 120 = .ok (.ladd, 1) := by decide +kernel
theorem dX11_ends_121 : decode cX11_ends 121 = .ok (.lload 13, 2) := by decide +kernel
theorem dX11_ends_123 : decode cX11_ends 123 = .ok (.lsub, 1) := by decide +kernel
theorem dX11_ends_124 : decode cX11_ends 124 = .ok (.goto 5, 3) := by decide +kernel
theorem dX11_ends_127 : decode cX11_ends 127 = .ok (.lload 4, 2) := by decide +kernel
theorem dX11_ends_129 : decode cX11_ends 129 = .ok (.lstore 4, 2) := by decide +kernel
theorem dX11_ends_131 : decode cX11_ends 131 = .ok (.lload 9, 2) := by decide +kernel
theorem dX11_ends_133 : decode cX11_ends 133 = .ok (.lload 11, 2) := by decide +kernel
theorem dX11_ends_135 : decode cX11_ends 135 = .ok (.ladd, 1) := by decide +kernel
theorem dX11_ends_136 : decode cX11_ends 136 = .ok (.lload 13, 2) := by decide +kernel
theorem dX11_ends_138 : decode cX11_ends 138 = .ok (.ladd, 1) := by decide +kernel
theorem dX11_ends_139 : decode cX11_ends 139 = .ok (.lload 6, 2) := by decide +kernel
theorem dX11_ends_141 : decode cX11_ends 141 = .ok (.lcmp, 1) := by decide +kernel
theorem dX11_ends_142 : decode cX11_ends 142 = .ok (.ifCond .ge 14, 3) := by decide +kernel
theorem dX11_ends_145 : decode cX11_ends 145 = .ok (.lload 9, 2) := by decide +kernel
theorem dX11_ends_147 : decode cX11_ends 147 = .ok (.lload 11, 2) := by decide +kernel
theorem dX11_ends_149 : decode cX11_ends 149 = .ok (.ladd, 1) := by decide +kernel
theorem dX11_ends_150 : decode cX11_ends 150 = .ok (.lload 13, 2) := by decide +kernel
theorem dX11_ends_152 : decode cX11_ends 152 = .ok (.ladd, 1) := by decide +kernel
theorem dX11_ends_153 : decode cX11_ends 153 = .ok (.goto 5, 3) := by decide +kernel
theorem dX11_ends_156 : decode cX11_ends 156 = .ok (.lload 6, 2) := by decide +kernel
theorem dX11_ends_158 : decode cX11_ends 158 = .ok (.lstore 6, 2) := by decide +kernel
theorem dX11_ends_160 : decode cX11_ends 160 = .ok (.iinc 8 1, 3) := by decide +kernel
theorem dX11_ends_163 : decode cX11_ends 163 = .ok (.goto (-131), 3) := by decide +kernel
theorem dX11_ends_166 : decode cX11_ends 166 = .ok (.iload_n 3, 1) := by decide +kernel
theorem dX11_ends_167 : decode cX11_ends 167 = .ok (.ifCond .ne 8, 3) := by decide +kernel
theorem dX11_ends_170 : decode cX11_ends 170 = .ok (.lload 4, 2) := by decide +kernel
theorem dX11_ends_172 : decode cX11_ends 172 = .ok (.goto 5, 3) := by decide +kernel
theorem dX11_ends_175 : decode cX11_ends 175 = .ok (.lload 6, 2) := by decide +kernel
theorem dX11_ends_177 : decode cX11_ends 177 = .ok (.l2i, 1) := by decide +kernel
theorem dX11_ends_178 : decode cX11_ends 178 = .ok (.ireturn, 1) := by decide +kernel
theorem dX11_isLaid_0 : decode cX11_isLaid 0 = .ok (.aload_n 0, 1) := by decide +kernel
theorem dX11_isLaid_1 : decode cX11_isLaid 1 = .ok (.getfield 247, 3) := by decide +kernel
theorem dX11_isLaid_4 : decode cX11_isLaid 4 = .ok (.iload_n 1, 1) := by decide +kernel
theorem dX11_isLaid_5 : decode cX11_isLaid 5 = .ok (.ishr, 1) := by decide +kernel
theorem dX11_isLaid_6 : decode cX11_isLaid 6 = .ok (.iconst 1, 1) := by decide +kernel
theorem dX11_isLaid_7 : decode cX11_isLaid 7 = .ok (.iand, 1) := by decide +kernel
theorem dX11_isLaid_8 : decode cX11_isLaid 8 = .ok (.iconst 1, 1) := by decide +kernel
theorem dX11_isLaid_9 : decode cX11_isLaid 9 = .ok (.if_icmp .ne 7, 3) := by decide +kernel
theorem dX11_isLaid_12 : decode cX11_isLaid 12 = .ok (.iconst 1, 1) := by decide +kernel
theorem dX11_isLaid_13 : decode cX11_isLaid 13 = .ok (.goto 4, 3) := by decide +kernel
theorem dX11_isLaid_16 : decode cX11_isLaid 16 = .ok (.iconst 0, 1) := by decide +kernel
theorem dX11_isLaid_17 : decode cX11_isLaid 17 = .ok (.ireturn, 1) := by decide +kernel
set_option maxRecDepth 20000 in
theorem ggX11_relation_X11_sq : GoodIn wsX11_relation wsX11_sq := goodIn_r _ [6, 7, 8, 9, 5, 10, 30, 31, 32, 33, 34, 35, 36, 37, 38, 39, 40, 41, 42, 43, 44, 45, 46, 47, 48, 49, 50, 51, 52, 53, 54, 55, 56, 57, 58, 59] (by decide +kernel) (by decide +kernel)
set_option maxRecDepth 20000 in
theorem gX11_relation_X11_sq : GoodIn wsX11_relation (wsV RX11 149 RX11 yX11_sq wsX11_sq) := goodIn_app (goodIn_of _ (by decide +kernel)) ggX11_relation_X11_sq
set_option maxRecDepth 20000 in
theorem ggX11_relation_X11_across : GoodIn wsX11_relation wsX11_across := goodIn_r _ [14, 1, 2, 3, 4, 5, 6, 7, 8, 9, 10, 30, 31, 32, 33, 34, 35, 36, 37, 38, 39, 40, 41, 42, 43, 44, 45, 46, 47, 48, 49, 50, 51, 52, 53, 54, 55, 56, 57, 58, 59] (by decide +kernel) (by decide +kernel)
set_option maxRecDepth 20000 in
theorem gX11_relation_X11_across : GoodIn wsX11_relation (wsV RX11 233 RX11 yX11_across wsX11_across) := goodIn_app (goodIn_of _ (by decide +kernel)) ggX11_relation_X11_across
set_option maxRecDepth 20000 in
theorem ggX11_relation_X11_under : GoodIn wsX11_relation wsX11_under := goodIn_r _ [18, 19, 20, 21, 5, 22, 2, 3, 4, 6, 7, 8, 9, 10, 23, 24, 25, 26, 30, 31, 32, 33, 34, 35, 36, 37, 38, 39, 40, 41, 42, 43, 44, 45, 46, 47, 48, 49, 50, 51, 52, 53, 54, 55, 56, 57, 58, 59] (by decide +kernel) (by decide +kernel)
set_option maxRecDepth 20000 in
theorem gX11_relation_X11_under : GoodIn wsX11_relation (wsV RX11 236 RX11 yX11_under wsX11_under) := goodIn_app (goodIn_of _ (by decide +kernel)) ggX11_relation_X11_under
set_option maxRecDepth 20000 in
theorem ggX11_relation_X11_signOf : GoodIn wsX11_relation wsX11_signOf := goodIn_r _ [29] (by decide +kernel) (by decide +kernel)
set_option maxRecDepth 20000 in
theorem gX11_relation_X11_signOf : GoodIn wsX11_relation (va_wsS RX11 212 yX11_signOf wsX11_signOf) := goodIn_app (goodIn_of _ (by decide +kernel)) ggX11_relation_X11_signOf
theorem dX11_relation_0 : decode cX11_relation 0 = .ok (.ldc2_w 179, 3) := by decide +kernel
theorem dX11_relation_3 : decode cX11_relation 3 = .ok (.aload_n 0, 1) := by decide +kernel
theorem dX11_relation_4 : decode cX11_relation 4 = .ok (.iload_n 1, 1) := by decide +kernel
theorem dX11_relation_5 : decode cX11_relation 5 = .ok (.iload_n 2, 1) := by decide +kernel
theorem dX11_relation_6 : decode cX11_relation 6 = .ok (.invokevirtual 149, 3) := by decide +kernel
theorem dX11_relation_9 : decode cX11_relation 9 = .ok (.lmul, 1) := by decide +kernel
theorem dX11_relation_10 : decode cX11_relation 10 = .ok (.aload_n 0, 1) := by decide +kernel
theorem dX11_relation_11 : decode cX11_relation 11 = .ok (.iload_n 3, 1) := by decide +kernel
theorem dX11_relation_12 : decode cX11_relation 12 = .ok (.iload 4, 2) := by decide +kernel
theorem dX11_relation_14 : decode cX11_relation 14 = .ok (.invokevirtual 149, 3) := by decide +kernel
theorem dX11_relation_17 : decode cX11_relation 17 = .ok (.lmul, 1) := by decide +kernel
theorem dX11_relation_18 : decode cX11_relation 18 = .ok (.aload_n 0, 1) := by decide +kernel
theorem dX11_relation_19 : decode cX11_relation 19 = .ok (.iload_n 3, 1) := by decide +kernel
theorem dX11_relation_20 : decode cX11_relation 20 = .ok (.iload 4, 2) := by decide +kernel
theorem dX11_relation_22 : decode cX11_relation 22 = .ok (.iload_n 1, 1) := by decide +kernel
theorem dX11_relation_23 : decode cX11_relation 23 = .ok (.iload_n 2, 1) := by decide +kernel
theorem dX11_relation_24 : decode cX11_relation 24 = .ok (.invokevirtual 233, 3) := by decide +kernel
theorem dX11_relation_27 : decode cX11_relation 27 = .ok (.lsub, 1) := by decide +kernel
theorem dX11_relation_28 : decode cX11_relation 28 = .ok (.lstore 5, 2) := by decide +kernel
theorem dX11_relation_30 : decode cX11_relation 30 = .ok (.lload 5, 2) := by decide +kernel
theorem dX11_relation_32 : decode cX11_relation 32 = .ok (.lload 5, 2) := by decide +kernel
theorem dX11_relation_34 : decode cX11_relation 34 = .ok (.lmul, 1) := by decide +kernel
theorem dX11_relation_35 : decode cX11_relation 35 = .ok (.aload_n 0, 1) := by decide +kernel
theorem dX11_relation_36 : decode cX11_relation 36 = .ok (.iload_n 3, 1) := by decide +kernel
theorem dX11_relation_37 : decode cX11_relation 37 = .ok (.iload 4, 2) := by decide +kernel
theorem dX11_relation_39 : decode cX11_relation 39 = .ok (.iload_n 1, 1) := by decide +kernel
theorem dX11_relation_40 : decode cX11_relation 40 = .ok (.iload_n 2, 1) := by decide +kernel
theorem dX11_relation_41 : decode cX11_relation 41 = .ok (.invokevirtual 236, 3) := by decide +kernel
theorem dX11_relation_44 : decode cX11_relation 44 = .ok (.lcmp, 1) := by decide +kernel
theorem dX11_relation_45 : decode cX11_relation 45 = .ok (.ifCond .eq 5, 3) := by decide +kernel
theorem dX11_relation_48 : decode cX11_relation 48 = .ok (.iconst 2, 1) := by decide +kernel
theorem dX11_relation_49 : decode cX11_relation 49 = .ok (.ireturn, 1) := by decide +kernel
theorem dX11_relation_50 : decode cX11_relation 50 = .ok (.lload 5, 2) := by decide +kernel
theorem dX11_relation_52 : decode cX11_relation 52 = .ok (.invokestatic 212, 3) := by decide +kernel
theorem dX11_relation_55 : decode cX11_relation 55 = .ok (.ineg, 1) := by decide +kernel
theorem dX11_relation_56 : decode cX11_relation 56 = .ok (.ireturn, 1) := by decide +kernel
set_option maxRecDepth 20000 in
theorem ggX11_layGroups_X11_sq : GoodIn wsX11_layGroups wsX11_sq := goodIn_r _ [8, 1, 9, 10, 7, 11, 36, 37, 38, 39, 40, 41, 42, 43, 44, 45, 46, 47, 48, 49, 50, 51, 52, 53, 54, 55, 56, 57, 58, 59, 60, 61, 62, 63, 64, 65] (by decide +kernel) (by decide +kernel)
set_option maxRecDepth 20000 in
theorem gX11_layGroups_X11_sq : GoodIn wsX11_layGroups (wsV RX11 149 RX11 yX11_sq wsX11_sq) := goodIn_app (goodIn_of _ (by decide +kernel)) ggX11_layGroups_X11_sq
set_option maxRecDepth 20000 in
theorem ggX11_layGroups_X11_relation : GoodIn wsX11_layGroups wsX11_relation := goodIn_r _ [15, 16, 4, 5, 6, 7, 8, 1, 9, 10, 11, 17, 18, 19, 20, 21, 22, 23, 24, 25, 26, 27, 28, 29, 30, 31, 32, 33, 34, 35, 36, 37, 38, 39, 40, 41, 42, 43, 44, 45, 46, 47, 48, 49, 50, 51, 52, 53, 54, 55, 56, 57, 58, 59, 60, 61, 62, 63, 64, 65] (by decide +kernel) (by decide +kernel)
set_option maxRecDepth 20000 in
theorem gX11_layGroups_X11_relation : GoodIn wsX11_layGroups (wsV RX11 250 RX11 yX11_relation wsX11_relation) := goodIn_app (goodIn_of _ (by decide +kernel)) ggX11_layGroups_X11_relation
theorem dX11_layGroups_0 : decode cX11_layGroups 0 = .ok (.iconst 1, 1) := by decide +kernel
theorem dX11_layGroups_1 : decode cX11_layGroups 1 = .ok (.istore_n 3, 1) := by decide +kernel
theorem dX11_layGroups_2 : decode cX11_layGroups 2 = .ok (.iload_n 3, 1) := by decide +kernel
theorem dX11_layGroups_3 : decode cX11_layGroups 3 = .ok (.ifCond .eq 183, 3) := by decide +kernel
theorem dX11_layGroups_6 : decode cX11_layGroups 6 = .ok (.iconst 0, 1) := by decide +kernel
theorem dX11_layGroups_7 : decode cX11_layGroups 7 = .ok (.istore_n 3, 1) := by decide +kernel
theorem dX11_layGroups_8 : decode cX11_layGroups 8 = .ok (.iconst 0, 1) := by decide +kernel
theorem dX11_layGroups_9 : decode cX11_layGroups 9 = .ok (.istore 4, 2) := by decide +kernel
theorem dX11_layGroups_11 : decode cX11_layGroups 11 = .ok (.iload 4, 2) := by decide +kernel
theorem dX11_layGroups_13 : decode cX11_layGroups 13 = .ok (.aload_n 0, 1) := by decide +kernel
theorem dX11_layGroups_14 : decode cX11_layGroups 14 = .ok (.getfield 7, 3) := by decide +kernel
theorem dX11_layGroups_17 : decode cX11_layGroups 17 = .ok (.bipush 21, 2) := by decide +kernel
theorem dX11_layGroups_19 : decode cX11_layGroups 19 = .ok (.iaload, 1) := by decide +kernel
theorem dX11_layGroups_20 : decode cX11_layGroups 20 = .ok (.if_icmp .ge 163, 3) := by decide +kernel
theorem dX11_layGroups_23 : decode cX11_layGroups 23 = .ok (.iconst 0, 1) := by decide +kernel
theorem dX11_layGroups_24 : decode cX11_layGroups 24 = .ok (.istore 5, 2) := by decide +kernel
theorem dX11_layGroups_26 : decode cX11_layGroups 26 = .ok (.iload 5, 2) := by decide +kernel
theorem dX11_layGroups_28 : decode cX11_layGroups 28 = .ok (.aload_n 0, 1) := by decide +kernel
theorem dX11_layGroups_29 : decode cX11_layGroups 29 = .ok (.getfield 7, 3) := by decide +kernel
theorem dX11_layGroups_32 : decode cX11_layGroups 32 = .ok (.bipush 21, 2) := by decide +kernel
theorem dX11_layGroups_34 : decode cX11_layGroups 34 = .ok (.iaload, 1) := by decide +kernel
theorem dX11_layGroups_35 : decode cX11_layGroups 35 = .ok (.if_icmp .ge 142, 3) := by decide +kernel
theorem dX11_layGroups_38 : decode cX11_layGroups 38 = .ok (.iload 4, 2) := by decide +kernel
theorem dX11_layGroups_40 : decode cX11_layGroups 40 = .ok (.iload 5, 2) := by decide +kernel
theorem dX11_layGroups_42 : decode cX11_layGroups 42 = .ok (.if_icmp .eq 44, 3) := by decide +kernel
theorem dX11_layGroups_45 : decode cX11_layGroups 45 = .ok (.aload_n 0, 1) := by decide +kernel
theorem dX11_layGroups_46 : decode cX11_layGroups 46 = .ok (.getfield 28, 3) := by decide +kernel
theorem dX11_layGroups_49 : decode cX11_layGroups 49 = .ok (.iload 4, 2) := by decide +kernel
theorem dX11_layGroups_51 : decode cX11_layGroups 51 = .ok (.iaload, 1) := by decide +kernel
theorem dX11_layGroups_52 : decode cX11_layGroups 52 = .ok (.bipush (-4), 2) := by decide +kernel
theorem dX11_layGroups_54 : decode cX11_layGroups 54 = .ok (.if_icmp .eq 32, 3) := by decide +kernel
theorem dX11_layGroups_57 : decode cX11_layGroups 57 = .ok (.aload_n 0, 1) := by decide +kernel
theorem dX11_layGroups_58 : decode cX11_layGroups 58 = .ok (.getfield 28, 3) := by decide +kernel
theorem dX11_layGroups_61 : decode cX11_layGroups 61 = .ok (.iload 5, 2) := by decide +kernel
theorem dX11_layGroups_63 : decode cX11_layGroups 63 = .ok (.iaload, 1) := by decide +kernel
theorem dX11_layGroups_64 : decode cX11_layGroups 64 = .ok (.bipush (-4), 2) := by decide +kernel
theorem dX11_layGroups_66 : decode cX11_layGroups 66 = .ok (.if_icmp .eq 20, 3) := by decide +kernel
theorem dX11_layGroups_69 : decode cX11_layGroups 69 = .ok (.aload_n 0, 1) := by decide +kernel
theorem dX11_layGroups_70 : decode cX11_layGroups 70 = .ok (.iload 4, 2) := by decide +kernel
theorem dX11_layGroups_72 : decode cX11_layGroups 72 = .ok (.iload 5, 2) := by decide +kernel
theorem dX11_layGroups_74 : decode cX11_layGroups 74 = .ok (.invokevirtual 149, 3) := by decide +kernel
theorem dX11_layGroups_77 : decode cX11_layGroups 77 = .ok (.lconst 0, 1) := by decide +kernel
theorem dX11_layGroups_78 : decode cX11_layGroups 78 = .ok (.lcmp, 1) := by decide +kernel
theorem dX11_layGroups_79 : decode cX11_layGroups 79 = .ok (.ifCond .le 7, 3) := by decide +kernel
theorem dX11_layGroups_82 : decode cX11_layGroups 82 = .ok (.iconst 1, 1) := by decide +kernel
theorem dX11_layGroups_83 : decode cX11_layGroups 83 = .ok (.goto 4, 3) := by decide +kernel
theorem dX11_layGroups_86 : decode cX11_layGroups 86 = .ok (.iconst 0, 1) := by decide +kernel
theorem dX11_layGroups_87 : decode cX11_layGroups 87 = .ok (.istore 6, 2) := by decide +kernel
theorem dX11_layGroups_89 : decode cX11_layGroups 89 = .ok (.iload 6, 2) := by decide +kernel
theorem dX11_layGroups_91 : decode cX11_layGroups 91 = .ok (.ifCond .eq 80, 3) := by decide +kernel
theorem dX11_layGroups_94 : decode cX11_layGroups 94 = .ok (.aload_n 0, 1) := by decide +kernel
theorem dX11_layGroups_95 : decode cX11_layGroups 95 = .ok (.getfield 28, 3) := by decide +kernel
theorem dX11_layGroups_98 : decode cX11_layGroups 98 = .ok (.iload 5, 2) := by decide +kernel
theorem dX11_layGroups_100 : decode cX11_layGroups 100 = .ok (.iaload, 1) := by decide +kernel
theorem dX11_layGroups_101 : decode cX11_layGroups 101 = .ok (.aload_n 0, 1) := by decide +kernel
theorem dX11_layGroups_102 : decode cX11_layGroups 102 = .ok (.getfield 28, 3) := by decide +kernel
theorem dX11_layGroups_105 : decode cX11_layGroups 105 = .ok (.iload 4, 2) := by decide +kernel
theorem dX11_layGroups_107 : decode cX11_layGroups 107 = .ok (.iaload, 1) := by decide +kernel
theorem dX11_layGroups_108 : decode cX11_layGroups 108 = .ok (.if_icmp .le 63, 3) := by decide +kernel
theorem dX11_layGroups_111 : decode cX11_layGroups 111 = .ok (.aload_n 0, 1) := by decide +kernel
theorem dX11_layGroups_112 : decode cX11_layGroups 112 = .ok (.iload_n 1, 1) := by decide +kernel
theorem dX11_layGroups_113 : decode cX11_layGroups 113 = .ok (.iload_n 2, 1) := by decide +kernel
theorem dX11_layGroups_114 : decode cX11_layGroups 114 = .ok (.iload 4, 2) := by decide +kernel
theorem dX11_layGroups_116 : decode cX11_layGroups 116 = .ok (.iload 5, 2) := by decide +kernel
theorem dX11_layGroups_118 : decode cX11_layGroups 118 = .ok (.invokevirtual 250, 3) := by decide +kernel
theorem dX11_layGroups_121 : decode cX11_layGroups 121 = .ok (.istore 7, 2) := by decide +kernel
theorem dX11_layGroups_123 : decode cX11_layGroups 123 = .ok (.aload_n 0, 1) := by decide +kernel
theorem dX11_layGroups_124 : decode cX11_layGroups 124 = .ok (.getfield 28, 3) := by decide +kernel
theorem dX11_layGroups_127 : decode cX11_layGroups 127 = .ok (.iload 5, 2) := by decide +kernel
theorem dX11_layGroups_129 : decode cX11_layGroups 129 = .ok (.aload_n 0, 1) := by decide +kernel
theorem dX11_layGroups_130 : decode cX11_layGroups 130 = .ok (.getfield 28, 3) := by decide +kernel
theorem dX11_layGroups_133 : decode cX11_layGroups 133 = .ok (.iload 4, 2) := by decide +kernel
theorem dX11_layGroups_135 : decode cX11_layGroups 135 = .ok (.iaload, 1) := by decide +kernel
theorem dX11_layGroups_136 : decode cX11_layGroups 136 = .ok (.iastore, 1) := by decide +kernel
theorem dX11_layGroups_137 : decode cX11_layGroups 137 = .ok (.aload_n 0, 1) := by decide +kernel
theorem dX11_layGroups_138 : decode cX11_layGroups 138 = .ok (.getfield 31, 3) := by decide +kernel
theorem dX11_layGroups_141 : decode cX11_layGroups 141 = .ok (.iload 5, 2) := by decide +kernel
theorem dX11_layGroups_143 : decode cX11_layGroups 143 = .ok (.iload 7, 2) := by decide +kernel
theorem dX11_layGroups_145 : decode cX11_layGroups 145 = .ok (.iconst (-1), 1) := by decide +kernel
theorem dX11_layGroups_146 : decode cX11_layGroups 146 = .ok (.if_icmp .ne 15, 3) := by decide +kernel
theorem dX11_layGroups_149 : decode cX11_layGroups 149 = .ok (.iconst 3, 1) := by decide +kernel
theorem dX11_layGroups_150 : decode cX11_layGroups 150 = .ok (.aload_n 0, 1) := by decide +kernel
theorem dX11_layGroups_151 : decode cX11_layGroups 151 = .ok (.getfield 31, 3) := by decide +kernel
theorem dX11_layGroups_154 : decode cX11_layGroups 154 = .ok (.iload 4, 2) := by decide +kernel
theorem dX11_layGroups_156 : decode cX11_layGroups 156 = .ok (.iaload, 1) := by decide +kernel
theorem dX11_layGroups_157 : decode cX11_layGroups 157 = .ok (.isub, 1) := by decide +kernel
theorem dX11_layGroups_158 : decode cX11_layGroups 158 = .ok (.goto 10, 3) := by decide +kernel
theorem dX11_layGroups_161 : decode cX11_layGroups 161 = .ok (.aload_n 0, 1) := by decide +kernel
theorem dX11_layGroups_162 : decode cX11_layGroups 162 = .ok (.getfield 31, 3) := by decide +kernel
theorem dX11_layGroups_165 : decode cX11_layGroups 165 = .ok (.iload 4, 2) := by decide +kernel
theorem dX11_layGroups_167 : decode cX11_layGroups 167 = .ok (.iaload, 1) := by decide +kernel
theorem dX11_layGroups_168 : decode cX11_layGroups 168 = .ok (.iastore, 1) := by decide +kernel
theorem dX11_layGroups_169 : decode cX11_layGroups 169 = .ok (.iconst 1, 1) := by decide +kernel
theorem dX11_layGroups_170 : decode cX11_layGroups 170 = .ok (.istore_n 3, 1) := by decide +kernel
theorem dX11_layGroups_171 : decode cX11_layGroups 171 = .ok (.iinc 5 1, 3) := by decide +kernel
theorem dX11_layGroups_174 : decode cX11_layGroups 174 = .ok (.goto (-148), 3) := by decide +kernel
theorem dX11_layGroups_177 : decode cX11_layGroups 177 = .ok (.iinc 4 1, 3) := by decide +kernel
theorem dX11_layGroups_180 : decode cX11_layGroups 180 = .ok (.goto (-169), 3) := by decide +kernel
theorem dX11_layGroups_183 : decode cX11_layGroups 183 = .ok (.goto (-181), 3) := by decide +kernel
theorem dX11_layGroups_186 : decode cX11_layGroups 186 = .ok (.return_, 1) := by decide +kernel
set_option maxRecDepth 20000 in
theorem ggX11_layDrawings_X11_areTold : GoodIn wsX11_layDrawings wsX11_areTold := goodIn_r _ [11, 12, 13, 14, 10, 15, 4, 16, 17, 18, 55, 56, 57, 58, 59, 60, 61, 62, 63, 64, 65, 66, 67, 68, 69, 70, 71, 72, 73, 74, 75, 76, 77, 78, 79, 80, 81, 82, 83, 84] (by decide +kernel) (by decide +kernel)
set_option maxRecDepth 20000 in
theorem gX11_layDrawings_X11_areTold : GoodIn wsX11_layDrawings (wsV RX11 153 RX11 yX11_areTold wsX11_areTold) := goodIn_app (goodIn_of _ (by decide +kernel)) ggX11_layDrawings_X11_areTold
set_option maxRecDepth 20000 in
theorem ggX11_layDrawings_X11_canBe : GoodIn wsX11_layDrawings wsX11_canBe := goodIn_r _ [22, 23, 24, 25, 10, 26, 12, 13, 14, 15, 4, 16, 17, 18, 27, 28, 29, 30, 55, 56, 57, 58, 59, 60, 61, 62, 63, 64, 65, 66, 67, 68, 69, 70, 71, 72, 73, 74, 75, 76, 77, 78, 79, 80, 81, 82, 83, 84] (by decide +kernel) (by decide +kernel)
set_option maxRecDepth 20000 in
theorem gX11_layDrawings_X11_canBe : GoodIn wsX11_layDrawings (wsV RX11 176 RX11 yX11_canBe wsX11_canBe) := goodIn_app (goodIn_of _ (by decide +kernel)) ggX11_layDrawings_X11_canBe
set_option maxRecDepth 20000 in
theorem ggX11_layDrawings_X11_wideOf : GoodIn wsX11_layDrawings wsX11_wideOf := goodIn_r _ [26, 12, 13, 14, 10, 15, 4, 16, 17, 18, 27, 28, 29, 30, 55, 56, 57, 58, 59, 60, 61, 62, 63, 64, 65, 66, 67, 68, 69, 70, 71, 72, 73, 74, 75, 76, 77, 78, 79, 80, 81, 82, 83, 84] (by decide +kernel) (by decide +kernel)
set_option maxRecDepth 20000 in
theorem gX11_layDrawings_X11_wideOf : GoodIn wsX11_layDrawings (wsV RX11 168 RX11 yX11_wideOf wsX11_wideOf) := goodIn_app (goodIn_of _ (by decide +kernel)) ggX11_layDrawings_X11_wideOf
set_option maxRecDepth 20000 in
theorem ggX11_layDrawings_X11_layGroups : GoodIn wsX11_layDrawings wsX11_layGroups := goodIn_r _ [34, 4, 5, 6, 12, 13, 14, 10, 15, 16, 17, 18, 35, 36, 37, 38, 39, 40, 41, 42, 43, 44, 45, 46, 47, 23, 24, 25, 26, 27, 28, 29, 30, 48, 49, 50, 55, 56, 57, 58, 59, 60, 61, 62, 63, 64, 65, 66, 67, 68, 69, 70, 71, 72, 73, 74, 75, 76, 77, 78, 79, 80, 81, 82, 83, 84] (by decide +kernel) (by decide +kernel)
set_option maxRecDepth 20000 in
theorem gX11_layDrawings_X11_layGroups : GoodIn wsX11_layDrawings (wsV RX11 259 RX11 yX11_layGroups wsX11_layGroups) := goodIn_app (goodIn_of _ (by decide +kernel)) ggX11_layDrawings_X11_layGroups
set_option maxRecDepth 20000 in
theorem ggX11_layDrawings_X11_isLaid : GoodIn wsX11_layDrawings wsX11_isLaid := goodIn_r _ [54, 1, 55, 56, 57, 58, 59, 60, 61, 62, 63, 64, 65, 66, 67, 68, 69, 70, 71, 72, 73, 74, 75, 76, 77, 78, 79, 80, 81, 82, 83, 84] (by decide +kernel) (by decide +kernel)
set_option maxRecDepth 20000 in
theorem gX11_layDrawings_X11_isLaid : GoodIn wsX11_layDrawings (wsV RX11 262 RX11 yX11_isLaid wsX11_isLaid) := goodIn_app (goodIn_of _ (by decide +kernel)) ggX11_layDrawings_X11_isLaid
set_option maxRecDepth 20000 in
theorem ggX11_layDrawings_X11_sq : GoodIn wsX11_layDrawings wsX11_sq := goodIn_r _ [15, 4, 16, 17, 10, 18, 55, 56, 57, 58, 59, 60, 61, 62, 63, 64, 65, 66, 67, 68, 69, 70, 71, 72, 73, 74, 75, 76, 77, 78, 79, 80, 81, 82, 83, 84] (by decide +kernel) (by decide +kernel)
set_option maxRecDepth 20000 in
theorem gX11_layDrawings_X11_sq : GoodIn wsX11_layDrawings (wsV RX11 149 RX11 yX11_sq wsX11_sq) := goodIn_app (goodIn_of _ (by decide +kernel)) ggX11_layDrawings_X11_sq
set_option maxRecDepth 20000 in
theorem ggX11_layDrawings_X11_relation : GoodIn wsX11_layDrawings wsX11_relation := goodIn_r _ [38, 39, 12, 13, 14, 10, 15, 4, 16, 17, 18, 40, 41, 42, 43, 44, 45, 46, 47, 23, 24, 25, 26, 27, 28, 29, 30, 48, 49, 50, 55, 56, 57, 58, 59, 60, 61, 62, 63, 64, 65, 66, 67, 68, 69, 70, 71, 72, 73, 74, 75, 76, 77, 78, 79, 80, 81, 82, 83, 84] (by decide +kernel) (by decide +kernel)
set_option maxRecDepth 20000 in
theorem gX11_layDrawings_X11_relation : GoodIn wsX11_layDrawings (wsV RX11 250 RX11 yX11_relation wsX11_relation) := goodIn_app (goodIn_of _ (by decide +kernel)) ggX11_layDrawings_X11_relation
theorem dX11_layDrawings_0 : decode cX11_layDrawings 0 = .ok (.aload_n 0, 1) := by decide +kernel
theorem dX11_layDrawings_1 : decode cX11_layDrawings 1 = .ok (.iconst 0, 1) := by decide +kernel
theorem dX11_layDrawings_2 : decode cX11_layDrawings 2 = .ok (.putfield 247, 3) := by decide +kernel
theorem dX11_layDrawings_5 : decode cX11_layDrawings 5 = .ok (.aload_n 0, 1) := by decide +kernel
theorem dX11_layDrawings_6 : decode cX11_layDrawings 6 = .ok (.iconst 1, 1) := by decide +kernel
theorem dX11_layDrawings_7 : decode cX11_layDrawings 7 = .ok (.putfield 253, 3) := by decide +kernel
theorem dX11_layDrawings_10 : decode cX11_layDrawings 10 = .ok (.aload_n 0, 1) := by decide +kernel
theorem dX11_layDrawings_11 : decode cX11_layDrawings 11 = .ok (.iconst 0, 1) := by decide +kernel
theorem dX11_layDrawings_12 : decode cX11_layDrawings 12 = .ok (.putfield 256, 3) := by decide +kernel
theorem dX11_layDrawings_15 : decode cX11_layDrawings 15 = .ok (.aload_n 0, 1) := by decide +kernel
theorem dX11_layDrawings_16 : decode cX11_layDrawings 16 = .ok (.getfield 7, 3) := by decide +kernel
theorem dX11_layDrawings_19 : decode cX11_layDrawings 19 = .ok (.bipush 21, 2) := by decide +kernel
theorem dX11_layDrawings_21 : decode cX11_layDrawings 21 = .ok (.iaload, 1) := by decide +kernel
theorem dX11_layDrawings_22 : decode cX11_layDrawings 22 = .ok (.istore_n 3, 1) := by decide +kernel
theorem dX11_layDrawings_23 : decode cX11_layDrawings 23 = .ok (.iconst 0, 1) := by decide +kernel
theorem dX11_layDrawings_24 : decode cX11_layDrawings 24 = .ok (.istore 4, 2) := by decide +kernel
theorem dX11_layDrawings_26 : decode cX11_layDrawings 26 = .ok (.iload 4, 2) := by decide +kernel
theorem dX11_layDrawings_28 : decode cX11_layDrawings 28 = .ok (.iload_n 3, 1) := by decide +kernel
theorem dX11_layDrawings_29 : decode cX11_layDrawings 29 = .ok (.if_icmp .ge 128, 3) := by decide +kernel
theorem dX11_layDrawings_32 : decode cX11_layDrawings 32 = .ok (.iload 4, 2) := by decide +kernel
theorem dX11_layDrawings_34 : decode cX11_layDrawings 34 = .ok (.iload_n 1, 1) := by decide +kernel
theorem dX11_layDrawings_35 : decode cX11_layDrawings 35 = .ok (.if_icmp .eq 35, 3) := by decide +kernel
theorem dX11_layDrawings_38 : decode cX11_layDrawings 38 = .ok (.iload 4, 2) := by decide +kernel
theorem dX11_layDrawings_40 : decode cX11_layDrawings 40 = .ok (.iload_n 2, 1) := by decide +kernel
theorem dX11_layDrawings_41 : decode cX11_layDrawings 41 = .ok (.if_icmp .eq 29, 3) := by decide +kernel
theorem dX11_layDrawings_44 : decode cX11_layDrawings 44 = .ok (.aload_n 0, 1) := by decide +kernel
theorem dX11_layDrawings_45 : decode cX11_layDrawings 45 = .ok (.iload_n 1, 1) := by decide +kernel
theorem dX11_layDrawings_46 : decode cX11_layDrawings 46 = .ok (.iload_n 2, 1) := by decide +kernel
theorem dX11_layDrawings_47 : decode cX11_layDrawings 47 = .ok (.iload 4, 2) := by decide +kernel
theorem dX11_layDrawings_49 : decode cX11_layDrawings 49 = .ok (.invokevirtual 153, 3) := by decide +kernel
theorem dX11_layDrawings_52 : decode cX11_layDrawings 52 = .ok (.ifCond .eq 18, 3) := by decide +kernel
theorem dX11_layDrawings_55 : decode cX11_layDrawings 55 = .ok (.aload_n 0, 1) := by decide +kernel
theorem dX11_layDrawings_56 : decode cX11_layDrawings 56 = .ok (.iload_n 1, 1) := by decide +kernel
theorem dX11_layDrawings_57 : decode cX11_layDrawings 57 = .ok (.iload_n 2, 1) := by decide +kernel
theorem dX11_layDrawings_58 : decode cX11_layDrawings 58 = .ok (.iload 4, 2) := by decide +kernel
theorem dX11_layDrawings_60 : decode cX11_layDrawings 60 = .ok (.invokevirtual 176, 3) := by decide +kernel
theorem dX11_layDrawings_63 : decode cX11_layDrawings 63 = .ok (.ifCond .eq 7, 3) := by decide +kernel
theorem dX11_layDrawings_66 : decode cX11_layDrawings 66 = .ok (.iconst 1, 1) := by decide +kernel
theorem dX11_layDrawings_67 : decode cX11_layDrawings 67 = .ok (.goto 4, 3) := by decide +kernel
theorem dX11_layDrawings_70 : decode cX11_layDrawings 70 = .ok (.iconst 0, 1) := by decide +kernel
theorem dX11_layDrawings_71 : decode cX11_layDrawings 71 = .ok (.istore 5, 2) := by decide +kernel
theorem dX11_layDrawings_73 : decode cX11_layDrawings 73 = .ok (.aload_n 0, 1) := by decide +kernel
theorem dX11_layDrawings_74 : decode cX11_layDrawings 74 = .ok (.dup, 1) := by decide +kernel
theorem dX11_layDrawings_75 : decode cX11_layDrawings 75 = .ok (.getfield 247, 3) := by decide +kernel
theorem dX11_layDrawings_78 : decode cX11_layDrawings 78 = .ok (.iload 5, 2) := by decide +kernel
theorem dX11_layDrawings_80 : decode cX11_layDrawings 80 = .ok (.ifCond .eq 10, 3) := by decide +kernel
theorem dX11_layDrawings_83 : decode cX11_layDrawings 83 = .ok (.iconst 1, 1) := by decide +kernel
theorem dX11_layDrawings_84 : decode cX11_layDrawings 84 = .ok (.iload 4, 2) := by decide +kernel
theorem dX11_layDrawings_86 : decode cX11_layDrawings 86 = .ok (.ishl, 1) := by decide +kernel
theorem dX11_layDrawings_87 : decode cX11_layDrawings 87 = .ok (.goto 4, 3) := by decide +kernel
theorem dX11_layDrawings_90 : decode cX11_layDrawings 90 = .ok (.iconst 0, 1) := by decide +kernel
theorem dX11_layDrawings_91 : decode cX11_layDrawings 91 = .ok (.ior, 1) := by decide +kernel
theorem dX11_layDrawings_92 : decode cX11_layDrawings 92 = .ok (.putfield 247, 3) := by decide +kernel
theorem dX11_layDrawings_95 : decode cX11_layDrawings 95 = .ok (.aload_n 0, 1) := by decide +kernel
theorem dX11_layDrawings_96 : decode cX11_layDrawings 96 = .ok (.getfield 28, 3) := by decide +kernel
theorem dX11_layDrawings_99 : decode cX11_layDrawings 99 = .ok (.iload 4, 2) := by decide +kernel
theorem dX11_layDrawings_101 : decode cX11_layDrawings 101 = .ok (.iload 5, 2) := by decide +kernel
theorem dX11_layDrawings_103 : decode cX11_layDrawings 103 = .ok (.ifCond .eq 21, 3) := by decide +kernel
theorem dX11_layDrawings_106 : decode cX11_layDrawings 106 = .ok (.aload_n 0, 1) := by decide +kernel
theorem dX11_layDrawings_107 : decode cX11_layDrawings 107 = .ok (.iload_n 1, 1) := by decide +kernel
theorem dX11_layDrawings_108 : decode cX11_layDrawings 108 = .ok (.iload_n 2, 1) := by decide +kernel
theorem dX11_layDrawings_109 : decode cX11_layDrawings 109 = .ok (.iload 4, 2) := by decide +kernel
theorem dX11_layDrawings_111 : decode cX11_layDrawings 111 = .ok (.invokevirtual 168, 3) := by decide +kernel
theorem dX11_layDrawings_114 : decode cX11_layDrawings 114 = .ok (.lconst 0, 1) := by decide +kernel
theorem dX11_layDrawings_115 : decode cX11_layDrawings 115 = .ok (.lcmp, 1) := by decide +kernel
theorem dX11_layDrawings_116 : decode cX11_layDrawings 116 = .ok (.ifCond .le 8, 3) := by decide +kernel
theorem dX11_layDrawings_119 : decode cX11_layDrawings 119 = .ok (.iload 4, 2) := by decide +kernel
theorem dX11_layDrawings_121 : decode cX11_layDrawings 121 = .ok (.goto 5, 3) := by decide +kernel
theorem dX11_layDrawings_124 : decode cX11_layDrawings 124 = .ok (.bipush (-4), 2) := by decide +kernel
theorem dX11_layDrawings_126 : decode cX11_layDrawings 126 = .ok (.iastore, 1) := by decide +kernel
theorem dX11_layDrawings_127 : decode cX11_layDrawings 127 = .ok (.aload_n 0, 1) := by decide +kernel
theorem dX11_layDrawings_128 : decode cX11_layDrawings 128 = .ok (.getfield 31, 3) := by decide +kernel
theorem dX11_layDrawings_131 : decode cX11_layDrawings 131 = .ok (.iload 4, 2) := by decide +kernel
theorem dX11_layDrawings_133 : decode cX11_layDrawings 133 = .ok (.aload_n 0, 1) := by decide +kernel
theorem dX11_layDrawings_134 : decode cX11_layDrawings 134 = .ok (.getfield 28, 3) := by decide +kernel
theorem dX11_layDrawings_137 : decode cX11_layDrawings 137 = .ok (.iload 4, 2) := by decide +kernel
theorem dX11_layDrawings_139 : decode cX11_layDrawings 139 = .ok (.iaload, 1) := by decide +kernel
theorem dX11_layDrawings_140 : decode cX11_layDrawings 140 = .ok (.bipush (-4), 2) := by decide +kernel
theorem dX11_layDrawings_142 : decode cX11_layDrawings 142 = .ok (.if_icmp .ne 7, 3) := by decide +kernel
theorem dX11_layDrawings_145 : decode cX11_layDrawings 145 = .ok (.iconst 0, 1) := by decide +kernel
theorem dX11_layDrawings_146 : decode cX11_layDrawings 146 = .ok (.goto 4, 3) := by decide +kernel
theorem dX11_layDrawings_149 : decode cX11_layDrawings 149 = .ok (.iconst 1, 1) := by decide +kernel
theorem dX11_layDrawings_150 : decode cX11_layDrawings 150 = .ok (.iastore, 1) := by decide +kernel
theorem dX11_layDrawings_151 : decode cX11_layDrawings 151 = .ok (.iinc 4 1, 3) := by decide +kernel
theorem dX11_layDrawings_154 : decode cX11_layDrawings 154 = .ok (.goto (-128), 3) := by decide +kernel
theorem dX11_layDrawings_157 : decode cX11_layDrawings 157 = .ok (.aload_n 0, 1) := by decide +kernel
theorem dX11_layDrawings_158 : decode cX11_layDrawings 158 = .ok (.iload_n 1, 1) := by decide +kernel
theorem dX11_layDrawings_159 : decode cX11_layDrawings 159 = .ok (.iload_n 2, 1) := by decide +kernel
theorem dX11_layDrawings_160 : decode cX11_layDrawings 160 = .ok (.invokevirtual 259, 3) := by decide +kernel
theorem dX11_layDrawings_163 : decode cX11_layDrawings 163 = .ok (.iconst 0, 1) := by decide +kernel
theorem dX11_layDrawings_164 : decode cX11_layDrawings 164 = .ok (.istore 4, 2) := by decide +kernel
theorem dX11_layDrawings_166 : decode cX11_layDrawings 166 = .ok (.iload 4, 2) := by decide +kernel
theorem dX11_layDrawings_168 : decode cX11_layDrawings 168 = .ok (.iload_n 3, 1) := by decide +kernel
theorem dX11_layDrawings_169 : decode cX11_layDrawings 169 = .ok (.if_icmp .ge 161, 3) := by decide +kernel
theorem dX11_layDrawings_172 : decode cX11_layDrawings 172 = .ok (.aload_n 0, 1) := by decide +kernel
theorem dX11_layDrawings_173 : decode cX11_layDrawings 173 = .ok (.dup, 1) := by decide +kernel
theorem dX11_layDrawings_174 : decode cX11_layDrawings 174 = .ok (.getfield 256, 3) := by decide +kernel
theorem dX11_layDrawings_177 : decode cX11_layDrawings 177 = .ok (.aload_n 0, 1) := by decide +kernel
theorem dX11_layDrawings_178 : decode cX11_layDrawings 178 = .ok (.getfield 28, 3) := by decide +kernel
theorem dX11_layDrawings_181 : decode cX11_layDrawings 181 = .ok (.iload 4, 2) := by decide +kernel
theorem dX11_layDrawings_183 : decode cX11_layDrawings 183 = .ok (.iaload, 1) := by decide +kernel
theorem dX11_layDrawings_184 : decode cX11_layDrawings 184 = .ok (.iload 4, 2) := by decide +kernel
theorem dX11_layDrawings_186 : decode cX11_layDrawings 186 = .ok (.if_icmp .ne 7, 3) := by decide +kernel
theorem dX11_layDrawings_189 : decode cX11_layDrawings 189 = .ok (.iconst 1, 1) := by decide +kernel
theorem dX11_layDrawings_190 : decode cX11_layDrawings 190 = .ok (.goto 4, 3) := by decide +kernel
theorem dX11_layDrawings_193 : decode cX11_layDrawings 193 = .ok (.iconst 0, 1) := by decide +kernel
theorem dX11_layDrawings_194 : decode cX11_layDrawings 194 = .ok (.iadd, 1) := by decide +kernel
theorem dX11_layDrawings_195 : decode cX11_layDrawings 195 = .ok (.putfield 256, 3) := by decide +kernel
theorem dX11_layDrawings_198 : decode cX11_layDrawings 198 = .ok (.iconst 0, 1) := by decide +kernel
theorem dX11_layDrawings_199 : decode cX11_layDrawings 199 = .ok (.istore 5, 2) := by decide +kernel
theorem dX11_layDrawings_201 : decode cX11_layDrawings 201 = .ok (.iload 5, 2) := by decide +kernel
theorem dX11_layDrawings_203 : decode cX11_layDrawings 203 = .ok (.iload 4, 2) := by decide +kernel
theorem dX11_layDrawings_205 : decode cX11_layDrawings 205 = .ok (.if_icmp .ge 119, 3) := by decide +kernel
theorem dX11_layDrawings_208 : decode cX11_layDrawings 208 = .ok (.aload_n 0, 1) := by decide +kernel
theorem dX11_layDrawings_209 : decode cX11_layDrawings 209 = .ok (.iload 4, 2) := by decide +kernel
theorem dX11_layDrawings_211 : decode cX11_layDrawings 211 = .ok (.invokevirtual 262, 3) := by decide +kernel
theorem dX11_layDrawings_214 : decode cX11_layDrawings 214 = .ok (.ifCond .eq 104, 3) := by decide +kernel
theorem dX11_layDrawings_217 : decode cX11_layDrawings 217 = .ok (.aload_n 0, 1) := by decide +kernel
theorem dX11_layDrawings_218 : decode cX11_layDrawings 218 = .ok (.iload 5, 2) := by decide +kernel
theorem dX11_layDrawings_220 : decode cX11_layDrawings 220 = .ok (.invokevirtual 262, 3) := by decide +kernel
theorem dX11_layDrawings_223 : decode cX11_layDrawings 223 = .ok (.ifCond .eq 95, 3) := by decide +kernel
theorem dX11_layDrawings_226 : decode cX11_layDrawings 226 = .ok (.aload_n 0, 1) := by decide +kernel
theorem dX11_layDrawings_227 : decode cX11_layDrawings 227 = .ok (.iload 4, 2) := by decide +kernel
theorem dX11_layDrawings_229 : decode cX11_layDrawings 229 = .ok (.iload 5, 2) := by decide +kernel
theorem dX11_layDrawings_231 : decode cX11_layDrawings 231 = .ok (.invokevirtual 149, 3) := by decide +kernel
theorem dX11_layDrawings_234 : decode cX11_layDrawings 234 = .ok (.lconst 0, 1) := by decide +kernel
theorem dX11_layDrawings_235 : decode cX11_layDrawings 235 = .ok (.lcmp, 1) := by decide +kernel
theorem dX11_layDrawings_236 : decode cX11_layDrawings 236 = .ok (.ifCond .le 82, 3) := by decide +kernel
theorem dX11_layDrawings_239 : decode cX11_layDrawings 239 = .ok (.aload_n 0, 1) := by decide +kernel
theorem dX11_layDrawings_240 : decode cX11_layDrawings 240 = .ok (.iload_n 1, 1) := by decide +kernel
theorem dX11_layDrawings_241 : decode cX11_layDrawings 241 = .ok (.iload_n 2, 1) := by decide +kernel
theorem dX11_layDrawings_242 : decode cX11_layDrawings 242 = .ok (.iload 4, 2) := by decide +kernel
theorem dX11_layDrawings_244 : decode cX11_layDrawings 244 = .ok (.iload 5, 2) := by decide +kernel
theorem dX11_layDrawings_246 : decode cX11_layDrawings 246 = .ok (.invokevirtual 250, 3) := by decide +kernel
theorem dX11_layDrawings_249 : decode cX11_layDrawings 249 = .ok (.istore 6, 2) := by decide +kernel
theorem dX11_layDrawings_251 : decode cX11_layDrawings 251 = .ok (.aload_n 0, 1) := by decide +kernel
theorem dX11_layDrawings_252 : decode cX11_layDrawings 252 = .ok (.getfield 31, 3) := by decide +kernel
theorem dX11_layDrawings_255 : decode cX11_layDrawings 255 = .ok (.iload 4, 2) := by decide +kernel
theorem dX11_layDrawings_257 : decode cX11_layDrawings 257 = .ok (.iaload, 1) := by decide +kernel
theorem dX11_layDrawings_258 : decode cX11_layDrawings 258 = .ok (.aload_n 0, 1) := by decide +kernel
theorem dX11_layDrawings_259 : decode cX11_layDrawings 259 = .ok (.getfield 31, 3) := by decide +kernel
theorem dX11_layDrawings_262 : decode cX11_layDrawings 262 = .ok (.iload 5, 2) := by decide +kernel
theorem dX11_layDrawings_264 : decode cX11_layDrawings 264 = .ok (.iaload, 1) := by decide +kernel
theorem dX11_layDrawings_265 : decode cX11_layDrawings 265 = .ok (.if_icmp .ne 7, 3) := by decide +kernel
theorem dX11_layDrawings_268 : decode cX11_layDrawings 268 = .ok (.iconst 1, 1) := by decide +kernel
theorem dX11_layDrawings_269 : decode cX11_layDrawings 269 = .ok (.goto 4, 3) := by decide +kernel
theorem dX11_layDrawings_272 : decode cX11_layDrawings 272 = .ok (.iconst 0, 1) := by decide +kernel
theorem dX11_layDrawings_273 : decode cX11_layDrawings 273 = .ok (.istore 7, 2) := by decide +kernel
theorem dX11_layDrawings_275 : decode cX11_layDrawings 275 = .ok (.aload_n 0, 1) := by decide +kernel
theorem dX11_layDrawings_276 : decode cX11_layDrawings 276 = .ok (.aload_n 0, 1) := by decide +kernel
theorem dX11_layDrawings_277 : decode cX11_layDrawings 277 = .ok (.getfield 253, 3) := by decide +kernel
theorem dX11_layDrawings_280 : decode cX11_layDrawings 280 = .ok (.ifCond .eq 34, 3) := by decide +kernel
theorem dX11_layDrawings_283 : decode cX11_layDrawings 283 = .ok (.iload 6, 2) := by decide +kernel
theorem dX11_layDrawings_285 : decode cX11_layDrawings 285 = .ok (.iconst 2, 1) := by decide +kernel
theorem dX11_layDrawings_286 : decode cX11_layDrawings 286 = .ok (.if_icmp .eq 28, 3) := by decide +kernel
theorem dX11_layDrawings_289 : decode cX11_layDrawings 289 = .ok (.iload 6, 2) := by decide +kernel
theorem dX11_layDrawings_291 : decode cX11_layDrawings 291 = .ok (.ifCond .eq 19, 3) := by decide +kernel
theorem dX11_layDrawings_294 : decode cX11_layDrawings 294 = .ok (.iload 7, 2) := by decide +kernel
theorem dX11_layDrawings_296 : decode cX11_layDrawings 296 = .ok (.iload 6, 2) := by decide +kernel
theorem dX11_layDrawings_298 : decode cX11_layDrawings 298 = .ok (.iconst 1, 1) := by decide +kernel
theorem dX11_layDrawings_299 : decode cX11_layDrawings 299 = .ok (.if_icmp .ne 7, 3) := by decide +kernel
theorem dX11_layDrawings_302 : decode cX11_layDrawings 302 = .ok (.iconst 1, 1) := by decide +kernel
theorem dX11_layDrawings_303 : decode cX11_layDrawings 303 = .ok (.goto 4, 3) := by decide +kernel
theorem dX11_layDrawings_306 : decode cX11_layDrawings 306 = .ok (.iconst 0, 1) := by decide +kernel
theorem dX11_layDrawings_307 : decode cX11_layDrawings 307 = .ok (.if_icmp .ne 7, 3) := by decide +kernel
theorem dX11_layDrawings_310 : decode cX11_layDrawings 310 = .ok (.iconst 1, 1) := by decide +kernel
theorem dX11_layDrawings_311 : decode cX11_layDrawings 311 = .ok (.goto 4, 3) := by decide +kernel
theorem dX11_layDrawings_314 : decode cX11_layDrawings 314 = .ok (.iconst 0, 1) := by decide +kernel
theorem dX11_layDrawings_315 : decode cX11_layDrawings 315 = .ok (.putfield 253, 3) := by decide +kernel
theorem dX11_layDrawings_318 : decode cX11_layDrawings 318 = .ok (.iinc 5 1, 3) := by decide +kernel
theorem dX11_layDrawings_321 : decode cX11_layDrawings 321 = .ok (.goto (-120), 3) := by decide +kernel
theorem dX11_layDrawings_324 : decode cX11_layDrawings 324 = .ok (.iinc 4 1, 3) := by decide +kernel
theorem dX11_layDrawings_327 : decode cX11_layDrawings 327 = .ok (.goto (-161), 3) := by decide +kernel
theorem dX11_layDrawings_330 : decode cX11_layDrawings 330 = .ok (.return_, 1) := by decide +kernel
theorem dX11_drawingMany_0 : decode cX11_drawingMany 0 = .ok (.aload_n 0, 1) := by decide +kernel
theorem dX11_drawingMany_1 : decode cX11_drawingMany 1 = .ok (.getfield 253, 3) := by decide +kernel
theorem dX11_drawingMany_4 : decode cX11_drawingMany 4 = .ok (.ifCond .ne 7, 3) := by decide +kernel
theorem dX11_drawingMany_7 : decode cX11_drawingMany 7 = .ok (.iconst 0, 1) := by decide +kernel
theorem dX11_drawingMany_8 : decode cX11_drawingMany 8 = .ok (.goto 22, 3) := by decide +kernel
theorem dX11_drawingMany_11 : decode cX11_drawingMany 11 = .ok (.aload_n 0, 1) := by decide +kernel
theorem dX11_drawingMany_12 : decode cX11_drawingMany 12 = .ok (.getfield 256, 3) := by decide +kernel
theorem dX11_drawingMany_15 : decode cX11_drawingMany 15 = .ok (.ifCond .ne 7, 3) := by decide +kernel
theorem dX11_drawingMany_18 : decode cX11_drawingMany 18 = .ok (.iconst 1, 1) := by decide +kernel
theorem dX11_drawingMany_19 : decode cX11_drawingMany 19 = .ok (.goto 11, 3) := by decide +kernel
theorem dX11_drawingMany_22 : decode cX11_drawingMany 22 = .ok (.iconst 1, 1) := by decide +kernel
theorem dX11_drawingMany_23 : decode cX11_drawingMany 23 = .ok (.aload_n 0, 1) := by decide +kernel
theorem dX11_drawingMany_24 : decode cX11_drawingMany 24 = .ok (.getfield 256, 3) := by decide +kernel
theorem dX11_drawingMany_27 : decode cX11_drawingMany 27 = .ok (.iconst 1, 1) := by decide +kernel
theorem dX11_drawingMany_28 : decode cX11_drawingMany 28 = .ok (.isub, 1) := by decide +kernel
theorem dX11_drawingMany_29 : decode cX11_drawingMany 29 = .ok (.ishl, 1) := by decide +kernel
theorem dX11_drawingMany_30 : decode cX11_drawingMany 30 = .ok (.ireturn, 1) := by decide +kernel
set_option maxRecDepth 20000 in
theorem ggX11_drawings_X11_areTwo : GoodIn wsX11_drawings wsX11_areTwo := goodIn_r _ [12, 13, 14, 15, 11, 16, 3, 17, 18, 19, 20, 21, 22, 23, 24, 81, 82, 83, 84, 85, 86, 87, 88, 89, 90, 91, 92, 93, 94, 95, 96, 97, 98, 99, 100, 101, 102, 103, 104, 105, 106, 107, 108, 109, 110] (by decide +kernel) (by decide +kernel)
set_option maxRecDepth 20000 in
theorem gX11_drawings_X11_areTwo : GoodIn wsX11_drawings (wsV RX11 142 RX11 yX11_areTwo wsX11_areTwo) := goodIn_app (goodIn_of _ (by decide +kernel)) ggX11_drawings_X11_areTwo
set_option maxRecDepth 20000 in
theorem ggX11_drawings_X11_in : GoodIn wsX11_drawings wsX11_in := goodIn_r _ [24] (by decide +kernel) (by decide +kernel)
set_option maxRecDepth 20000 in
theorem gX11_drawings_X11_in : GoodIn wsX11_drawings (va_wsS RX11 64 yX11_in wsX11_in) := goodIn_app (goodIn_of _ (by decide +kernel)) ggX11_drawings_X11_in
set_option maxRecDepth 20000 in
theorem ggX11_drawings_X11_sq : GoodIn wsX11_drawings wsX11_sq := goodIn_r _ [28, 3, 29, 30, 11, 31, 81, 82, 83, 84, 85, 86, 87, 88, 89, 90, 91, 92, 93, 94, 95, 96, 97, 98, 99, 100, 101, 102, 103, 104, 105, 106, 107, 108, 109, 110] (by decide +kernel) (by decide +kernel)
set_option maxRecDepth 20000 in
theorem gX11_drawings_X11_sq : GoodIn wsX11_drawings (wsV RX11 149 RX11 yX11_sq wsX11_sq) := goodIn_app (goodIn_of _ (by decide +kernel)) ggX11_drawings_X11_sq
set_option maxRecDepth 20000 in
theorem ggX11_drawings_X11_layDrawings : GoodIn wsX11_drawings wsX11_layDrawings := goodIn_r _ [35, 4, 6, 5, 3, 36, 7, 37, 38, 39, 11, 40, 25, 26, 27, 28, 29, 30, 31, 41, 42, 43, 44, 45, 46, 47, 48, 49, 50, 51, 52, 53, 54, 55, 56, 57, 58, 59, 60, 61, 62, 63, 64, 65, 66, 67, 68, 69, 70, 71, 72, 73, 74, 75, 76, 81, 82, 83, 84, 85, 86, 87, 88, 89, 90, 91, 92, 93, 94, 95, 96, 97, 98, 99, 100, 101, 102, 103, 104, 105, 106, 107, 108, 109, 110] (by decide +kernel) (by decide +kernel)
set_option maxRecDepth 20000 in
theorem gX11_drawings_X11_layDrawings : GoodIn wsX11_drawings (wsV RX11 267 RX11 yX11_layDrawings wsX11_layDrawings) := goodIn_app (goodIn_of _ (by decide +kernel)) ggX11_drawings_X11_layDrawings
set_option maxRecDepth 20000 in
theorem ggX11_drawings_X11_drawingMany : GoodIn wsX11_drawings wsX11_drawingMany := goodIn_r _ [80, 6, 5, 81, 82, 83, 84, 85, 86, 87, 88, 89, 90, 91, 92, 93, 94, 95, 96, 97, 98, 99, 100, 101, 102, 103, 104, 105, 106, 107, 108, 109, 110] (by decide +kernel) (by decide +kernel)
set_option maxRecDepth 20000 in
theorem gX11_drawings_X11_drawingMany : GoodIn wsX11_drawings (wsV RX11 270 RX11 yX11_drawingMany wsX11_drawingMany) := goodIn_app (goodIn_of _ (by decide +kernel)) ggX11_drawings_X11_drawingMany
set_option maxRecDepth 20000 in
theorem ggX11_drawings_X11_isLaid : GoodIn wsX11_drawings wsX11_isLaid := goodIn_r _ [76, 4, 81, 82, 83, 84, 85, 86, 87, 88, 89, 90, 91, 92, 93, 94, 95, 96, 97, 98, 99, 100, 101, 102, 103, 104, 105, 106, 107, 108, 109, 110] (by decide +kernel) (by decide +kernel)
set_option maxRecDepth 20000 in
theorem gX11_drawings_X11_isLaid : GoodIn wsX11_drawings (wsV RX11 262 RX11 yX11_isLaid wsX11_isLaid) := goodIn_app (goodIn_of _ (by decide +kernel)) ggX11_drawings_X11_isLaid
theorem dX11_drawings_0 : decode cX11_drawings 0 = .ok (.aload_n 0, 1) := by decide +kernel
theorem dX11_drawings_1 : decode cX11_drawings 1 = .ok (.iload_n 1, 1) := by decide +kernel
theorem dX11_drawings_2 : decode cX11_drawings 2 = .ok (.iload_n 2, 1) := by decide +kernel
theorem dX11_drawings_3 : decode cX11_drawings 3 = .ok (.invokevirtual 142, 3) := by decide +kernel
theorem dX11_drawings_6 : decode cX11_drawings 6 = .ok (.ifCond .eq 37, 3) := by decide +kernel
theorem dX11_drawings_9 : decode cX11_drawings 9 = .ok (.iload_n 3, 1) := by decide +kernel
theorem dX11_drawings_10 : decode cX11_drawings 10 = .ok (.i2l, 1) := by decide +kernel
theorem dX11_drawings_11 : decode cX11_drawings 11 = .ok (.lconst 0, 1) := by decide +kernel
theorem dX11_drawings_12 : decode cX11_drawings 12 = .ok (.ldc2_w 194, 3) := by decide +kernel
theorem dX11_drawings_15 : decode cX11_drawings 15 = .ok (.invokestatic 64, 3) := by decide +kernel
theorem dX11_drawings_18 : decode cX11_drawings 18 = .ok (.ifCond .ne 27, 3) := by decide +kernel
theorem dX11_drawings_21 : decode cX11_drawings 21 = .ok (.iload_n 3, 1) := by decide +kernel
theorem dX11_drawings_22 : decode cX11_drawings 22 = .ok (.i2l, 1) := by decide +kernel
theorem dX11_drawings_23 : decode cX11_drawings 23 = .ok (.ldc2_w 265, 3) := by decide +kernel
theorem dX11_drawings_26 : decode cX11_drawings 26 = .ok (.bipush 9, 2) := by decide +kernel
theorem dX11_drawings_28 : decode cX11_drawings 28 = .ok (.aload_n 0, 1) := by decide +kernel
theorem dX11_drawings_29 : decode cX11_drawings 29 = .ok (.getfield 7, 3) := by decide +kernel
theorem dX11_drawings_32 : decode cX11_drawings 32 = .ok (.bipush 21, 2) := by decide +kernel
theorem dX11_drawings_34 : decode cX11_drawings 34 = .ok (.iaload, 1) := by decide +kernel
theorem dX11_drawings_35 : decode cX11_drawings 35 = .ok (.iadd, 1) := by decide +kernel
theorem dX11_drawings_36 : decode cX11_drawings 36 = .ok (.i2l, 1) := by decide +kernel
theorem dX11_drawings_37 : decode cX11_drawings 37 = .ok (.invokestatic 64, 3) := by decide +kernel
theorem dX11_drawings_40 : decode cX11_drawings 40 = .ok (.ifCond .ne 5, 3) := by decide +kernel
theorem dX11_drawings_43 : decode cX11_drawings 43 = .ok (.iconst (-1), 1) := by decide +kernel
theorem dX11_drawings_44 : decode cX11_drawings 44 = .ok (.ireturn, 1) := by decide +kernel
theorem dX11_drawings_45 : decode cX11_drawings 45 = .ok (.aload_n 0, 1) := by decide +kernel
theorem dX11_drawings_46 : decode cX11_drawings 46 = .ok (.iload_n 1, 1) := by decide +kernel
theorem dX11_drawings_47 : decode cX11_drawings 47 = .ok (.iload_n 2, 1) := by decide +kernel
theorem dX11_drawings_48 : decode cX11_drawings 48 = .ok (.invokevirtual 149, 3) := by decide +kernel
theorem dX11_drawings_51 : decode cX11_drawings 51 = .ok (.lconst 0, 1) := by decide +kernel
theorem dX11_drawings_52 : decode cX11_drawings 52 = .ok (.lcmp, 1) := by decide +kernel
theorem dX11_drawings_53 : decode cX11_drawings 53 = .ok (.ifCond .ne 6, 3) := by decide +kernel
theorem dX11_drawings_56 : decode cX11_drawings 56 = .ok (.bipush (-2), 2) := by decide +kernel
theorem dX11_drawings_58 : decode cX11_drawings 58 = .ok (.ireturn, 1) := by decide +kernel
theorem dX11_drawings_59 : decode cX11_drawings 59 = .ok (.aload_n 0, 1) := by decide +kernel
theorem dX11_drawings_60 : decode cX11_drawings 60 = .ok (.iload_n 1, 1) := by decide +kernel
theorem dX11_drawings_61 : decode cX11_drawings 61 = .ok (.iload_n 2, 1) := by decide +kernel
theorem dX11_drawings_62 : decode cX11_drawings 62 = .ok (.invokevirtual 267, 3) := by decide +kernel
theorem dX11_drawings_65 : decode cX11_drawings 65 = .ok (.iload_n 3, 1) := by decide +kernel
theorem dX11_drawings_66 : decode cX11_drawings 66 = .ok (.tableswitch 75 0 3 #[30, 35, 40, 45], 30) := by decide +kernel
theorem dX11_drawings_96 : decode cX11_drawings 96 = .ok (.aload_n 0, 1) := by decide +kernel
theorem dX11_drawings_97 : decode cX11_drawings 97 = .ok (.invokevirtual 270, 3) := by decide +kernel
theorem dX11_drawings_100 : decode cX11_drawings 100 = .ok (.ireturn, 1) := by decide +kernel
theorem dX11_drawings_101 : decode cX11_drawings 101 = .ok (.aload_n 0, 1) := by decide +kernel
theorem dX11_drawings_102 : decode cX11_drawings 102 = .ok (.getfield 247, 3) := by decide +kernel
theorem dX11_drawings_105 : decode cX11_drawings 105 = .ok (.ireturn, 1) := by decide +kernel
theorem dX11_drawings_106 : decode cX11_drawings 106 = .ok (.aload_n 0, 1) := by decide +kernel
theorem dX11_drawings_107 : decode cX11_drawings 107 = .ok (.getfield 256, 3) := by decide +kernel
theorem dX11_drawings_110 : decode cX11_drawings 110 = .ok (.ireturn, 1) := by decide +kernel
theorem dX11_drawings_111 : decode cX11_drawings 111 = .ok (.aload_n 0, 1) := by decide +kernel
theorem dX11_drawings_112 : decode cX11_drawings 112 = .ok (.getfield 253, 3) := by decide +kernel
theorem dX11_drawings_115 : decode cX11_drawings 115 = .ok (.ifCond .ne 8, 3) := by decide +kernel
theorem dX11_drawings_118 : decode cX11_drawings 118 = .ok (.bipush (-4), 2) := by decide +kernel
theorem dX11_drawings_120 : decode cX11_drawings 120 = .ok (.goto 20, 3) := by decide +kernel
theorem dX11_drawings_123 : decode cX11_drawings 123 = .ok (.aload_n 0, 1) := by decide +kernel
theorem dX11_drawings_124 : decode cX11_drawings 124 = .ok (.getfield 256, 3) := by decide +kernel
theorem dX11_drawings_127 : decode cX11_drawings 127 = .ok (.ifCond .ne 7, 3) := by decide +kernel
theorem dX11_drawings_130 : decode cX11_drawings 130 = .ok (.iconst 0, 1) := by decide +kernel
theorem dX11_drawings_131 : decode cX11_drawings 131 = .ok (.goto 9, 3) := by decide +kernel
theorem dX11_drawings_134 : decode cX11_drawings 134 = .ok (.aload_n 0, 1) := by decide +kernel
theorem dX11_drawings_135 : decode cX11_drawings 135 = .ok (.getfield 256, 3) := by decide +kernel
theorem dX11_drawings_138 : decode cX11_drawings 138 = .ok (.iconst 1, 1) := by decide +kernel
theorem dX11_drawings_139 : decode cX11_drawings 139 = .ok (.isub, 1) := by decide +kernel
theorem dX11_drawings_140 : decode cX11_drawings 140 = .ok (.ireturn, 1) := by decide +kernel
theorem dX11_drawings_141 : decode cX11_drawings 141 = .ok (.aload_n 0, 1) := by decide +kernel
theorem dX11_drawings_142 : decode cX11_drawings 142 = .ok (.getfield 253, 3) := by decide +kernel
theorem dX11_drawings_145 : decode cX11_drawings 145 = .ok (.ifCond .eq 26, 3) := by decide +kernel
theorem dX11_drawings_148 : decode cX11_drawings 148 = .ok (.aload_n 0, 1) := by decide +kernel
theorem dX11_drawings_149 : decode cX11_drawings 149 = .ok (.iload_n 3, 1) := by decide +kernel
theorem dX11_drawings_150 : decode cX11_drawings 150 = .ok (.bipush 10, 2) := by decide +kernel
theorem dX11_drawings_152 : decode cX11_drawings 152 = .ok (.isub, 1) := by decide +kernel
theorem dX11_drawings_153 : decode cX11_drawings 153 = .ok (.invokevirtual 262, 3) := by decide +kernel
theorem dX11_drawings_156 : decode cX11_drawings 156 = .ok (.ifCond .eq 15, 3) := by decide +kernel
theorem dX11_drawings_159 : decode cX11_drawings 159 = .ok (.aload_n 0, 1) := by decide +kernel
theorem dX11_drawings_160 : decode cX11_drawings 160 = .ok (.getfield 31, 3) := by decide +kernel
theorem dX11_drawings_163 : decode cX11_drawings 163 = .ok (.iload_n 3, 1) := by decide +kernel
theorem dX11_drawings_164 : decode cX11_drawings 164 = .ok (.bipush 10, 2) := by decide +kernel
theorem dX11_drawings_166 : decode cX11_drawings 166 = .ok (.isub, 1) := by decide +kernel
theorem dX11_drawings_167 : decode cX11_drawings 167 = .ok (.iaload, 1) := by decide +kernel
theorem dX11_drawings_168 : decode cX11_drawings 168 = .ok (.goto 5, 3) := by decide +kernel
theorem dX11_drawings_171 : decode cX11_drawings 171 = .ok (.bipush (-4), 2) := by decide +kernel
theorem dX11_drawings_173 : decode cX11_drawings 173 = .ok (.ireturn, 1) := by decide +kernel
set_option maxRecDepth 20000 in
theorem ggX11_spare_X11_areTwo : GoodIn wsX11_spare wsX11_areTwo := goodIn_r _ [6, 7, 8, 9, 5, 10, 1, 11, 12, 13, 14, 15, 16, 17, 18, 79, 80, 81, 82, 83, 84, 85, 86, 87, 88, 89, 90, 91, 92, 93, 94, 95, 96, 97, 98, 99, 100, 101, 102, 103, 104, 105, 106, 107, 108] (by decide +kernel) (by decide +kernel)
set_option maxRecDepth 20000 in
theorem gX11_spare_X11_areTwo : GoodIn wsX11_spare (wsV RX11 142 RX11 yX11_areTwo wsX11_areTwo) := goodIn_app (goodIn_of _ (by decide +kernel)) ggX11_spare_X11_areTwo
set_option maxRecDepth 20000 in
theorem ggX11_spare_X11_sq : GoodIn wsX11_spare wsX11_sq := goodIn_r _ [22, 1, 23, 24, 5, 25, 79, 80, 81, 82, 83, 84, 85, 86, 87, 88, 89, 90, 91, 92, 93, 94, 95, 96, 97, 98, 99, 100, 101, 102, 103, 104, 105, 106, 107, 108] (by decide +kernel) (by decide +kernel)
set_option maxRecDepth 20000 in
theorem gX11_spare_X11_sq : GoodIn wsX11_spare (wsV RX11 149 RX11 yX11_sq wsX11_sq) := goodIn_app (goodIn_of _ (by decide +kernel)) ggX11_spare_X11_sq
set_option maxRecDepth 20000 in
theorem ggX11_spare_X11_layDrawings : GoodIn wsX11_spare wsX11_layDrawings := goodIn_r _ [29, 30, 31, 32, 1, 33, 34, 35, 36, 37, 5, 38, 19, 20, 21, 22, 23, 24, 25, 39, 40, 41, 42, 43, 44, 45, 46, 47, 48, 49, 50, 51, 52, 53, 54, 55, 56, 57, 58, 59, 60, 61, 62, 63, 64, 65, 66, 67, 68, 69, 70, 71, 72, 73, 74, 79, 80, 81, 82, 83, 84, 85, 86, 87, 88, 89, 90, 91, 92, 93, 94, 95, 96, 97, 98, 99, 100, 101, 102, 103, 104, 105, 106, 107, 108] (by decide +kernel) (by decide +kernel)
set_option maxRecDepth 20000 in
theorem gX11_spare_X11_layDrawings : GoodIn wsX11_spare (wsV RX11 267 RX11 yX11_layDrawings wsX11_layDrawings) := goodIn_app (goodIn_of _ (by decide +kernel)) ggX11_spare_X11_layDrawings
set_option maxRecDepth 20000 in
theorem ggX11_spare_X11_isLaid : GoodIn wsX11_spare wsX11_isLaid := goodIn_r _ [74, 30, 79, 80, 81, 82, 83, 84, 85, 86, 87, 88, 89, 90, 91, 92, 93, 94, 95, 96, 97, 98, 99, 100, 101, 102, 103, 104, 105, 106, 107, 108] (by decide +kernel) (by decide +kernel)
set_option maxRecDepth 20000 in
theorem gX11_spare_X11_isLaid : GoodIn wsX11_spare (wsV RX11 262 RX11 yX11_isLaid wsX11_isLaid) := goodIn_app (goodIn_of _ (by decide +kernel)) ggX11_spare_X11_isLaid
set_option maxRecDepth 20000 in
theorem ggX11_spare_X11_drawingMany : GoodIn wsX11_spare wsX11_drawingMany := goodIn_r _ [78, 31, 32, 79, 80, 81, 82, 83, 84, 85, 86, 87, 88, 89, 90, 91, 92, 93, 94, 95, 96, 97, 98, 99, 100, 101, 102, 103, 104, 105, 106, 107, 108] (by decide +kernel) (by decide +kernel)
set_option maxRecDepth 20000 in
theorem gX11_spare_X11_drawingMany : GoodIn wsX11_spare (wsV RX11 270 RX11 yX11_drawingMany wsX11_drawingMany) := goodIn_app (goodIn_of _ (by decide +kernel)) ggX11_spare_X11_drawingMany
set_option maxRecDepth 20000 in
theorem ggX11_spare_X11_pairOf : GoodIn wsX11_spare wsX11_pairOf := goodIn_r _ [25] (by decide +kernel) (by decide +kernel)
set_option maxRecDepth 20000 in
theorem gX11_spare_X11_pairOf : GoodIn wsX11_spare (va_wsS RX11 113 yX11_pairOf wsX11_pairOf) := goodIn_app (goodIn_of _ (by decide +kernel)) ggX11_spare_X11_pairOf
theorem dX11_spare_0 : decode cX11_spare 0 = .ok (.aload_n 0, 1) := by decide +kernel
theorem dX11_spare_1 : decode cX11_spare 1 = .ok (.iload_n 1, 1) := by decide +kernel
theorem dX11_spare_2 : decode cX11_spare 2 = .ok (.iload_n 2, 1) := by decide +kernel
theorem dX11_spare_3 : decode cX11_spare 3 = .ok (.invokevirtual 142, 3) := by decide +kernel
theorem dX11_spare_6 : decode cX11_spare 6 = .ok (.ifCond .eq 13, 3) := by decide +kernel
theorem dX11_spare_9 : decode cX11_spare 9 = .ok (.aload_n 0, 1) := by decide +kernel
theorem dX11_spare_10 : decode cX11_spare 10 = .ok (.iload_n 3, 1) := by decide +kernel
theorem dX11_spare_11 : decode cX11_spare 11 = .ok (.iload 4, 2) := by decide +kernel
theorem dX11_spare_13 : decode cX11_spare 13 = .ok (.invokevirtual 142, 3) := by decide +kernel
theorem dX11_spare_16 : decode cX11_spare 16 = .ok (.ifCond .ne 5, 3) := by decide +kernel
theorem dX11_spare_19 : decode cX11_spare 19 = .ok (.iconst (-1), 1) := by decide +kernel
theorem dX11_spare_20 : decode cX11_spare 20 = .ok (.ireturn, 1) := by decide +kernel
theorem dX11_spare_21 : decode cX11_spare 21 = .ok (.aload_n 0, 1) := by decide +kernel
theorem dX11_spare_22 : decode cX11_spare 22 = .ok (.iload_n 1, 1) := by decide +kernel
theorem dX11_spare_23 : decode cX11_spare 23 = .ok (.iload_n 2, 1) := by decide +kernel
theorem dX11_spare_24 : decode cX11_spare 24 = .ok (.invokevirtual 149, 3) := by decide +kernel
theorem dX11_spare_27 : decode cX11_spare 27 = .ok (.lconst 0, 1) := by decide +kernel
theorem dX11_spare_28 : decode cX11_spare 28 = .ok (.lcmp, 1) := by decide +kernel
theorem dX11_spare_29 : decode cX11_spare 29 = .ok (.ifCond .ne 6, 3) := by decide +kernel
theorem dX11_spare_32 : decode cX11_spare 32 = .ok (.bipush (-2), 2) := by decide +kernel
theorem dX11_spare_34 : decode cX11_spare 34 = .ok (.ireturn, 1) := by decide +kernel
theorem dX11_spare_35 : decode cX11_spare 35 = .ok (.aload_n 0, 1) := by decide +kernel
theorem dX11_spare_36 : decode cX11_spare 36 = .ok (.iload_n 1, 1) := by decide +kernel
theorem dX11_spare_37 : decode cX11_spare 37 = .ok (.iload_n 2, 1) := by decide +kernel
theorem dX11_spare_38 : decode cX11_spare 38 = .ok (.invokevirtual 267, 3) := by decide +kernel
theorem dX11_spare_41 : decode cX11_spare 41 = .ok (.aload_n 0, 1) := by decide +kernel
theorem dX11_spare_42 : decode cX11_spare 42 = .ok (.iload_n 3, 1) := by decide +kernel
theorem dX11_spare_43 : decode cX11_spare 43 = .ok (.invokevirtual 262, 3) := by decide +kernel
theorem dX11_spare_46 : decode cX11_spare 46 = .ok (.ifCond .eq 24, 3) := by decide +kernel
theorem dX11_spare_49 : decode cX11_spare 49 = .ok (.aload_n 0, 1) := by decide +kernel
theorem dX11_spare_50 : decode cX11_spare 50 = .ok (.iload 4, 2) := by decide +kernel
theorem dX11_spare_52 : decode cX11_spare 52 = .ok (.invokevirtual 262, 3) := by decide +kernel
theorem dX11_spare_55 : decode cX11_spare 55 = .ok (.ifCond .eq 15, 3) := by decide +kernel
theorem dX11_spare_58 : decode cX11_spare 58 = .ok (.aload_n 0, 1) := by decide +kernel
theorem dX11_spare_59 : decode cX11_spare 59 = .ok (.iload_n 3, 1) := by decide +kernel
theorem dX11_spare_60 : decode cX11_spare 60 = .ok (.iload 4, 2) := by decide +kernel
theorem dX11_spare_62 : decode cX11_spare 62 = .ok (.invokevirtual 149, 3) := by decide +kernel
theorem dX11_spare_65 : decode cX11_spare 65 = .ok (.lconst 0, 1) := by decide +kernel
theorem dX11_spare_66 : decode cX11_spare 66 = .ok (.lcmp, 1) := by decide +kernel
theorem dX11_spare_67 : decode cX11_spare 67 = .ok (.ifCond .ne 6, 3) := by decide +kernel
theorem dX11_spare_70 : decode cX11_spare 70 = .ok (.bipush (-4), 2) := by decide +kernel
theorem dX11_spare_72 : decode cX11_spare 72 = .ok (.ireturn, 1) := by decide +kernel
theorem dX11_spare_73 : decode cX11_spare 73 = .ok (.aload_n 0, 1) := by decide +kernel
theorem dX11_spare_74 : decode cX11_spare 74 = .ok (.invokevirtual 270, 3) := by decide +kernel
theorem dX11_spare_77 : decode cX11_spare 77 = .ok (.istore 5, 2) := by decide +kernel
theorem dX11_spare_79 : decode cX11_spare 79 = .ok (.aload_n 0, 1) := by decide +kernel
theorem dX11_spare_80 : decode cX11_spare 80 = .ok (.getfield 7, 3) := by decide +kernel
theorem dX11_spare_83 : decode cX11_spare 83 = .ok (.iload_n 3, 1) := by decide +kernel
theorem dX11_spare_84 : decode cX11_spare 84 = .ok (.iload 4, 2) := by decide +kernel
theorem dX11_spare_86 : decode cX11_spare 86 = .ok (.invokestatic 113, 3) := by decide +kernel
theorem dX11_spare_89 : decode cX11_spare 89 = .ok (.iaload, 1) := by decide +kernel
theorem dX11_spare_90 : decode cX11_spare 90 = .ok (.istore 6, 2) := by decide +kernel
theorem dX11_spare_92 : decode cX11_spare 92 = .ok (.aload_n 0, 1) := by decide +kernel
theorem dX11_spare_93 : decode cX11_spare 93 = .ok (.getfield 7, 3) := by decide +kernel
theorem dX11_spare_96 : decode cX11_spare 96 = .ok (.iload_n 3, 1) := by decide +kernel
theorem dX11_spare_97 : decode cX11_spare 97 = .ok (.iload 4, 2) := by decide +kernel
theorem dX11_spare_99 : decode cX11_spare 99 = .ok (.invokestatic 113, 3) := by decide +kernel
theorem dX11_spare_102 : decode cX11_spare 102 = .ok (.iconst 0, 1) := by decide +kernel
theorem dX11_spare_103 : decode cX11_spare 103 = .ok (.iastore, 1) := by decide +kernel
theorem dX11_spare_104 : decode cX11_spare 104 = .ok (.aload_n 0, 1) := by decide +kernel
theorem dX11_spare_105 : decode cX11_spare 105 = .ok (.iload_n 1, 1) := by decide +kernel
theorem dX11_spare_106 : decode cX11_spare 106 = .ok (.iload_n 2, 1) := by decide +kernel
theorem dX11_spare_107 : decode cX11_spare 107 = .ok (.invokevirtual 267, 3) := by decide +kernel
theorem dX11_spare_110 : decode cX11_spare 110 = .ok (.aload_n 0, 1) := by decide +kernel
theorem dX11_spare_111 : decode cX11_spare 111 = .ok (.getfield 7, 3) := by decide +kernel
theorem dX11_spare_114 : decode cX11_spare 114 = .ok (.iload_n 3, 1) := by decide +kernel
theorem dX11_spare_115 : decode cX11_spare 115 = .ok (.iload 4, 2) := by decide +kernel
theorem dX11_spare_117 : decode cX11_spare 117 = .ok (.invokestatic 113, 3) := by decide +kernel
theorem dX11_spare_120 : decode cX11_spare 120 = .ok (.iload 6, 2) := by decide +kernel
theorem dX11_spare_122 : decode cX11_spare 122 = .ok (.iastore, 1) := by decide +kernel
theorem dX11_spare_123 : decode cX11_spare 123 = .ok (.aload_n 0, 1) := by decide +kernel
theorem dX11_spare_124 : decode cX11_spare 124 = .ok (.invokevirtual 270, 3) := by decide +kernel
theorem dX11_spare_127 : decode cX11_spare 127 = .ok (.iload 5, 2) := by decide +kernel
theorem dX11_spare_129 : decode cX11_spare 129 = .ok (.if_icmp .ne 7, 3) := by decide +kernel
theorem dX11_spare_132 : decode cX11_spare 132 = .ok (.iconst 1, 1) := by decide +kernel
theorem dX11_spare_133 : decode cX11_spare 133 = .ok (.goto 4, 3) := by decide +kernel
theorem dX11_spare_136 : decode cX11_spare 136 = .ok (.iconst 0, 1) := by decide +kernel
theorem dX11_spare_137 : decode cX11_spare 137 = .ok (.ireturn, 1) := by decide +kernel
theorem dX11_bitsOf_0 : decode cX11_bitsOf 0 = .ok (.iconst 0, 1) := by decide +kernel
theorem dX11_bitsOf_1 : decode cX11_bitsOf 1 = .ok (.istore_n 1, 1) := by decide +kernel
theorem dX11_bitsOf_2 : decode cX11_bitsOf 2 = .ok (.iconst 0, 1) := by decide +kernel
theorem dX11_bitsOf_3 : decode cX11_bitsOf 3 = .ok (.istore_n 2, 1) := by decide +kernel
theorem dX11_bitsOf_4 : decode cX11_bitsOf 4 = .ok (.iload_n 2, 1) := by decide +kernel
theorem dX11_bitsOf_5 : decode cX11_bitsOf 5 = .ok (.bipush 7, 2) := by decide +kernel
theorem dX11_bitsOf_7 : decode cX11_bitsOf 7 = .ok (.if_icmp .ge 17, 3) := by decide +kernel
theorem dX11_bitsOf_10 : decode cX11_bitsOf 10 = .ok (.iload_n 1, 1) := by decide +kernel
theorem dX11_bitsOf_11 : decode cX11_bitsOf 11 = .ok (.iload_n 0, 1) := by decide +kernel
theorem dX11_bitsOf_12 : decode cX11_bitsOf 12 = .ok (.iload_n 2, 1) := by decide +kernel
theorem dX11_bitsOf_13 : decode cX11_bitsOf 13 = .ok (.ishr, 1) := by decide +kernel
theorem dX11_bitsOf_14 : decode cX11_bitsOf 14 = .ok (.iconst 1, 1) := by decide +kernel
theorem dX11_bitsOf_15 : decode cX11_bitsOf 15 = .ok (.iand, 1) := by decide +kernel
theorem dX11_bitsOf_16 : decode cX11_bitsOf 16 = .ok (.iadd, 1) := by decide +kernel
theorem dX11_bitsOf_17 : decode cX11_bitsOf 17 = .ok (.istore_n 1, 1) := by decide +kernel
theorem dX11_bitsOf_18 : decode cX11_bitsOf 18 = .ok (.iinc 2 1, 3) := by decide +kernel
theorem dX11_bitsOf_21 : decode cX11_bitsOf 21 = .ok (.goto (-17), 3) := by decide +kernel
theorem dX11_bitsOf_24 : decode cX11_bitsOf 24 = .ok (.iload_n 1, 1) := by decide +kernel
theorem dX11_bitsOf_25 : decode cX11_bitsOf 25 = .ok (.ireturn, 1) := by decide +kernel
set_option maxRecDepth 20000 in
theorem ggX11_base_X11_awake : GoodIn wsX11_base wsX11_awake := goodIn_r _ [7, 8, 1, 71, 72, 73, 74, 75, 76, 77, 78, 79, 80, 81, 82, 83, 84, 85, 86, 87, 88, 89, 90, 91, 92, 93, 94, 95, 96, 97, 98, 99, 100] (by decide +kernel) (by decide +kernel)
set_option maxRecDepth 20000 in
theorem gX11_base_X11_awake : GoodIn wsX11_base (wsV RX11 135 RX11 yX11_awake wsX11_awake) := goodIn_app (goodIn_of _ (by decide +kernel)) ggX11_base_X11_awake
set_option maxRecDepth 20000 in
theorem ggX11_base_X11_sq : GoodIn wsX11_base wsX11_sq := goodIn_r _ [12, 1, 13, 14, 6, 15, 71, 72, 73, 74, 75, 76, 77, 78, 79, 80, 81, 82, 83, 84, 85, 86, 87, 88, 89, 90, 91, 92, 93, 94, 95, 96, 97, 98, 99, 100] (by decide +kernel) (by decide +kernel)
set_option maxRecDepth 20000 in
theorem gX11_base_X11_sq : GoodIn wsX11_base (wsV RX11 149 RX11 yX11_sq wsX11_sq) := goodIn_app (goodIn_of _ (by decide +kernel)) ggX11_base_X11_sq
set_option maxRecDepth 20000 in
theorem ggX11_base_X11_layDrawings : GoodIn wsX11_base wsX11_layDrawings := goodIn_r _ [19, 2, 20, 21, 1, 22, 23, 24, 25, 26, 6, 27, 9, 10, 11, 12, 13, 14, 15, 28, 29, 30, 31, 32, 33, 34, 35, 36, 37, 38, 39, 40, 41, 42, 43, 44, 45, 46, 47, 48, 49, 50, 51, 52, 53, 54, 55, 56, 57, 58, 59, 60, 61, 62, 63, 71, 72, 73, 74, 75, 76, 77, 78, 79, 80, 81, 82, 83, 84, 85, 86, 87, 88, 89, 90, 91, 92, 93, 94, 95, 96, 97, 98, 99, 100] (by decide +kernel) (by decide +kernel)
set_option maxRecDepth 20000 in
theorem gX11_base_X11_layDrawings : GoodIn wsX11_base (wsV RX11 267 RX11 yX11_layDrawings wsX11_layDrawings) := goodIn_app (goodIn_of _ (by decide +kernel)) ggX11_base_X11_layDrawings
set_option maxRecDepth 20000 in
theorem ggX11_base_X11_bitsOf : GoodIn wsX11_base wsX11_bitsOf := goodIn_r _ [66] (by decide +kernel) (by decide +kernel)
set_option maxRecDepth 20000 in
theorem gX11_base_X11_bitsOf : GoodIn wsX11_base (va_wsS RX11 274 yX11_bitsOf wsX11_bitsOf) := goodIn_app (goodIn_of _ (by decide +kernel)) ggX11_base_X11_bitsOf
set_option maxRecDepth 20000 in
theorem ggX11_base_X11_drawingMany : GoodIn wsX11_base wsX11_drawingMany := goodIn_r _ [70, 20, 21, 71, 72, 73, 74, 75, 76, 77, 78, 79, 80, 81, 82, 83, 84, 85, 86, 87, 88, 89, 90, 91, 92, 93, 94, 95, 96, 97, 98, 99, 100] (by decide +kernel) (by decide +kernel)
set_option maxRecDepth 20000 in
theorem gX11_base_X11_drawingMany : GoodIn wsX11_base (wsV RX11 270 RX11 yX11_drawingMany wsX11_drawingMany) := goodIn_app (goodIn_of _ (by decide +kernel)) ggX11_base_X11_drawingMany
set_option maxRecDepth 20000 in
theorem ggX11_base_X11_pairOf : GoodIn wsX11_base wsX11_pairOf := goodIn_r _ [15] (by decide +kernel) (by decide +kernel)
set_option maxRecDepth 20000 in
theorem gX11_base_X11_pairOf : GoodIn wsX11_base (va_wsS RX11 113 yX11_pairOf wsX11_pairOf) := goodIn_app (goodIn_of _ (by decide +kernel)) ggX11_base_X11_pairOf
theorem dX11_base_0 : decode cX11_base 0 = .ok (.aload_n 0, 1) := by decide +kernel
theorem dX11_base_1 : decode cX11_base 1 = .ok (.invokevirtual 135, 3) := by decide +kernel
theorem dX11_base_4 : decode cX11_base 4 = .ok (.bipush (-4), 2) := by decide +kernel
theorem dX11_base_6 : decode cX11_base 6 = .ok (.istore_n 1, 1) := by decide +kernel
theorem dX11_base_7 : decode cX11_base 7 = .ok (.iconst 0, 1) := by decide +kernel
theorem dX11_base_8 : decode cX11_base 8 = .ok (.istore_n 2, 1) := by decide +kernel
theorem dX11_base_9 : decode cX11_base 9 = .ok (.iconst 0, 1) := by decide +kernel
theorem dX11_base_10 : decode cX11_base 10 = .ok (.istore_n 3, 1) := by decide +kernel
theorem dX11_base_11 : decode cX11_base 11 = .ok (.iconst 1, 1) := by decide +kernel
theorem dX11_base_12 : decode cX11_base 12 = .ok (.istore 4, 2) := by decide +kernel
theorem dX11_base_14 : decode cX11_base 14 = .ok (.iload 4, 2) := by decide +kernel
theorem dX11_base_16 : decode cX11_base 16 = .ok (.aload_n 0, 1) := by decide +kernel
theorem dX11_base_17 : decode cX11_base 17 = .ok (.getfield 7, 3) := by decide +kernel
theorem dX11_base_20 : decode cX11_base 20 = .ok (.bipush 21, 2) := by decide +kernel
theorem dX11_base_22 : decode cX11_base 22 = .ok (.iaload, 1) := by decide +kernel
theorem dX11_base_23 : decode cX11_base 23 = .ok (.if_icmp .ge 104, 3) := by decide +kernel
theorem dX11_base_26 : decode cX11_base 26 = .ok (.iconst 0, 1) := by decide +kernel
theorem dX11_base_27 : decode cX11_base 27 = .ok (.istore 5, 2) := by decide +kernel
theorem dX11_base_29 : decode cX11_base 29 = .ok (.iload 5, 2) := by decide +kernel
theorem dX11_base_31 : decode cX11_base 31 = .ok (.iload 4, 2) := by decide +kernel
theorem dX11_base_33 : decode cX11_base 33 = .ok (.if_icmp .ge 88, 3) := by decide +kernel
theorem dX11_base_36 : decode cX11_base 36 = .ok (.aload_n 0, 1) := by decide +kernel
theorem dX11_base_37 : decode cX11_base 37 = .ok (.iload 5, 2) := by decide +kernel
theorem dX11_base_39 : decode cX11_base 39 = .ok (.iload 4, 2) := by decide +kernel
theorem dX11_base_41 : decode cX11_base 41 = .ok (.invokevirtual 149, 3) := by decide +kernel
theorem dX11_base_44 : decode cX11_base 44 = .ok (.lconst 0, 1) := by decide +kernel
theorem dX11_base_45 : decode cX11_base 45 = .ok (.lcmp, 1) := by decide +kernel
theorem dX11_base_46 : decode cX11_base 46 = .ok (.ifCond .le 69, 3) := by decide +kernel
theorem dX11_base_49 : decode cX11_base 49 = .ok (.aload_n 0, 1) := by decide +kernel
theorem dX11_base_50 : decode cX11_base 50 = .ok (.iload 5, 2) := by decide +kernel
theorem dX11_base_52 : decode cX11_base 52 = .ok (.iload 4, 2) := by decide +kernel
theorem dX11_base_54 : decode cX11_base 54 = .ok (.invokevirtual 267, 3) := by decide +kernel
theorem dX11_base_57 : decode cX11_base 57 = .ok (.aload_n 0, 1) := by decide +kernel
theorem dX11_base_58 : decode cX11_base 58 = .ok (.getfield 247, 3) := by decide +kernel
theorem dX11_base_61 : decode cX11_base 61 = .ok (.invokestatic 274, 3) := by decide +kernel
theorem dX11_base_64 : decode cX11_base 64 = .ok (.istore 6, 2) := by decide +kernel
theorem dX11_base_66 : decode cX11_base 66 = .ok (.aload_n 0, 1) := by decide +kernel
theorem dX11_base_67 : decode cX11_base 67 = .ok (.invokevirtual 270, 3) := by decide +kernel
theorem dX11_base_70 : decode cX11_base 70 = .ok (.istore 7, 2) := by decide +kernel
theorem dX11_base_72 : decode cX11_base 72 = .ok (.iload 7, 2) := by decide +kernel
theorem dX11_base_74 : decode cX11_base 74 = .ok (.ifCond .le 41, 3) := by decide +kernel
theorem dX11_base_77 : decode cX11_base 77 = .ok (.iload_n 1, 1) := by decide +kernel
theorem dX11_base_78 : decode cX11_base 78 = .ok (.bipush (-4), 2) := by decide +kernel
theorem dX11_base_80 : decode cX11_base 80 = .ok (.if_icmp .eq 21, 3) := by decide +kernel
theorem dX11_base_83 : decode cX11_base 83 = .ok (.iload 6, 2) := by decide +kernel
theorem dX11_base_85 : decode cX11_base 85 = .ok (.iload_n 2, 1) := by decide +kernel
theorem dX11_base_86 : decode cX11_base 86 = .ok (.if_icmp .gt 15, 3) := by decide +kernel
theorem dX11_base_89 : decode cX11_base 89 = .ok (.iload 6, 2) := by decide +kernel
theorem dX11_base_91 : decode cX11_base 91 = .ok (.iload_n 2, 1) := by decide +kernel
theorem dX11_base_92 : decode cX11_base 92 = .ok (.if_icmp .ne 23, 3) := by decide +kernel
theorem dX11_base_95 : decode cX11_base 95 = .ok (.iload 7, 2) := by decide +kernel
theorem dX11_base_97 : decode cX11_base 97 = .ok (.iload_n 3, 1) := by decide +kernel
theorem dX11_base_98 : decode cX11_base 98 = .ok (.if_icmp .ge 17, 3) := by decide +kernel
theorem dX11_base_101 : decode cX11_base 101 = .ok (.iload 5, 2) := by decide +kernel
theorem dX11_base_103 : decode cX11_base 103 = .ok (.iload 4, 2) := by decide +kernel
theorem dX11_base_105 : decode cX11_base 105 = .ok (.invokestatic 113, 3) := by decide +kernel
theorem dX11_base_108 : decode cX11_base 108 = .ok (.istore_n 1, 1) := by decide +kernel
theorem dX11_base_109 : decode cX11_base 109 = .ok (.iload 6, 2) := by decide +kernel
theorem dX11_base_111 : decode cX11_base 111 = .ok (.istore_n 2, 1) := by decide +kernel
theorem dX11_base_112 : decode cX11_base 112 = .ok (.iload 7, 2) := by decide +kernel
theorem dX11_base_114 : decode cX11_base 114 = .ok (.istore_n 3, 1) := by decide +kernel
theorem dX11_base_115 : decode cX11_base 115 = .ok (.iinc 5 1, 3) := by decide +kernel
theorem dX11_base_118 : decode cX11_base 118 = .ok (.goto (-89), 3) := by decide +kernel
theorem dX11_base_121 : decode cX11_base 121 = .ok (.iinc 4 1, 3) := by decide +kernel
theorem dX11_base_124 : decode cX11_base 124 = .ok (.goto (-110), 3) := by decide +kernel
theorem dX11_base_127 : decode cX11_base 127 = .ok (.iload_n 1, 1) := by decide +kernel
theorem dX11_base_128 : decode cX11_base 128 = .ok (.ireturn, 1) := by decide +kernel
set_option maxRecDepth 20000 in
theorem ggX11_isTold_X11_sq : GoodIn wsX11_isTold wsX11_sq := goodIn_r _ [6, 1, 7, 8, 5, 9, 10, 11, 12, 13, 14, 15, 16, 17, 18, 19, 20, 21, 22, 23, 24, 25, 26, 27, 28, 29, 30, 31, 32, 33, 34, 35, 36, 37, 38, 39] (by decide +kernel) (by decide +kernel)
set_option maxRecDepth 20000 in
theorem gX11_isTold_X11_sq : GoodIn wsX11_isTold (wsV RX11 149 RX11 yX11_sq wsX11_sq) := goodIn_app (goodIn_of _ (by decide +kernel)) ggX11_isTold_X11_sq
theorem dX11_isTold_0 : decode cX11_isTold 0 = .ok (.iconst 0, 1) := by decide +kernel
theorem dX11_isTold_1 : decode cX11_isTold 1 = .ok (.istore_n 3, 1) := by decide +kernel
theorem dX11_isTold_2 : decode cX11_isTold 2 = .ok (.iload_n 3, 1) := by decide +kernel
theorem dX11_isTold_3 : decode cX11_isTold 3 = .ok (.aload_n 0, 1) := by decide +kernel
theorem dX11_isTold_4 : decode cX11_isTold 4 = .ok (.getfield 7, 3) := by decide +kernel
theorem dX11_isTold_7 : decode cX11_isTold 7 = .ok (.bipush 21, 2) := by decide +kernel
theorem dX11_isTold_9 : decode cX11_isTold 9 = .ok (.iaload, 1) := by decide +kernel
theorem dX11_isTold_10 : decode cX11_isTold 10 = .ok (.if_icmp .ge 31, 3) := by decide +kernel
theorem dX11_isTold_13 : decode cX11_isTold 13 = .ok (.iload_n 2, 1) := by decide +kernel
theorem dX11_isTold_14 : decode cX11_isTold 14 = .ok (.iload_n 3, 1) := by decide +kernel
theorem dX11_isTold_15 : decode cX11_isTold 15 = .ok (.ishr, 1) := by decide +kernel
theorem dX11_isTold_16 : decode cX11_isTold 16 = .ok (.iconst 1, 1) := by decide +kernel
theorem dX11_isTold_17 : decode cX11_isTold 17 = .ok (.iand, 1) := by decide +kernel
theorem dX11_isTold_18 : decode cX11_isTold 18 = .ok (.iconst 1, 1) := by decide +kernel
theorem dX11_isTold_19 : decode cX11_isTold 19 = .ok (.if_icmp .ne 16, 3) := by decide +kernel
theorem dX11_isTold_22 : decode cX11_isTold 22 = .ok (.aload_n 0, 1) := by decide +kernel
theorem dX11_isTold_23 : decode cX11_isTold 23 = .ok (.iload_n 1, 1) := by decide +kernel
theorem dX11_isTold_24 : decode cX11_isTold 24 = .ok (.iload_n 3, 1) := by decide +kernel
theorem dX11_isTold_25 : decode cX11_isTold 25 = .ok (.invokevirtual 149, 3) := by decide +kernel
theorem dX11_isTold_28 : decode cX11_isTold 28 = .ok (.lconst 0, 1) := by decide +kernel
theorem dX11_isTold_29 : decode cX11_isTold 29 = .ok (.lcmp, 1) := by decide +kernel
theorem dX11_isTold_30 : decode cX11_isTold 30 = .ok (.ifCond .ne 5, 3) := by decide +kernel
theorem dX11_isTold_33 : decode cX11_isTold 33 = .ok (.iconst 0, 1) := by decide +kernel
theorem dX11_isTold_34 : decode cX11_isTold 34 = .ok (.ireturn, 1) := by decide +kernel
theorem dX11_isTold_35 : decode cX11_isTold 35 = .ok (.iinc 3 1, 3) := by decide +kernel
theorem dX11_isTold_38 : decode cX11_isTold 38 = .ok (.goto (-36), 3) := by decide +kernel
theorem dX11_isTold_41 : decode cX11_isTold 41 = .ok (.iconst 0, 1) := by decide +kernel
theorem dX11_isTold_42 : decode cX11_isTold 42 = .ok (.istore_n 3, 1) := by decide +kernel
theorem dX11_isTold_43 : decode cX11_isTold 43 = .ok (.iload_n 3, 1) := by decide +kernel
theorem dX11_isTold_44 : decode cX11_isTold 44 = .ok (.aload_n 0, 1) := by decide +kernel
theorem dX11_isTold_45 : decode cX11_isTold 45 = .ok (.getfield 7, 3) := by decide +kernel
theorem dX11_isTold_48 : decode cX11_isTold 48 = .ok (.bipush 21, 2) := by decide +kernel
theorem dX11_isTold_50 : decode cX11_isTold 50 = .ok (.iaload, 1) := by decide +kernel
theorem dX11_isTold_51 : decode cX11_isTold 51 = .ok (.if_icmp .ge 88, 3) := by decide +kernel
theorem dX11_isTold_54 : decode cX11_isTold 54 = .ok (.iload_n 3, 1) := by decide +kernel
theorem dX11_isTold_55 : decode cX11_isTold 55 = .ok (.iload_n 1, 1) := by decide +kernel
theorem dX11_isTold_56 : decode cX11_isTold 56 = .ok (.if_icmp .eq 7, 3) := by decide +kernel
theorem dX11_isTold_59 : decode cX11_isTold 59 = .ok (.iconst 1, 1) := by decide +kernel
theorem dX11_isTold_60 : decode cX11_isTold 60 = .ok (.goto 4, 3) := by decide +kernel
theorem dX11_isTold_63 : decode cX11_isTold 63 = .ok (.iconst 0, 1) := by decide +kernel
theorem dX11_isTold_64 : decode cX11_isTold 64 = .ok (.istore 4, 2) := by decide +kernel
theorem dX11_isTold_66 : decode cX11_isTold 66 = .ok (.iconst 0, 1) := by decide +kernel
theorem dX11_isTold_67 : decode cX11_isTold 67 = .ok (.istore 5, 2) := by decide +kernel
theorem dX11_isTold_69 : decode cX11_isTold 69 = .ok (.iload 5, 2) := by decide +kernel
theorem dX11_isTold_71 : decode cX11_isTold 71 = .ok (.aload_n 0, 1) := by decide +kernel
theorem dX11_isTold_72 : decode cX11_isTold 72 = .ok (.getfield 7, 3) := by decide +kernel
theorem dX11_isTold_75 : decode cX11_isTold 75 = .ok (.bipush 21, 2) := by decide +kernel
theorem dX11_isTold_77 : decode cX11_isTold 77 = .ok (.iaload, 1) := by decide +kernel
theorem dX11_isTold_78 : decode cX11_isTold 78 = .ok (.if_icmp .ge 48, 3) := by decide +kernel
theorem dX11_isTold_81 : decode cX11_isTold 81 = .ok (.iload 4, 2) := by decide +kernel
theorem dX11_isTold_83 : decode cX11_isTold 83 = .ok (.ifCond .eq 43, 3) := by decide +kernel
theorem dX11_isTold_86 : decode cX11_isTold 86 = .ok (.iload_n 2, 1) := by decide +kernel
theorem dX11_isTold_87 : decode cX11_isTold 87 = .ok (.iload 5, 2) := by decide +kernel
theorem dX11_isTold_89 : decode cX11_isTold 89 = .ok (.ishr, 1) := by decide +kernel
theorem dX11_isTold_90 : decode cX11_isTold 90 = .ok (.iconst 1, 1) := by decide +kernel
theorem dX11_isTold_91 : decode cX11_isTold 91 = .ok (.iand, 1) := by decide +kernel
theorem dX11_isTold_92 : decode cX11_isTold 92 = .ok (.ifCond .eq 21, 3) := by decide +kernel
theorem dX11_isTold_95 : decode cX11_isTold 95 = .ok (.aload_n 0, 1) := by decide +kernel
theorem dX11_isTold_96 : decode cX11_isTold 96 = .ok (.iload_n 3, 1) := by decide +kernel
theorem dX11_isTold_97 : decode cX11_isTold 97 = .ok (.iload 5, 2) := by decide +kernel
theorem dX11_isTold_99 : decode cX11_isTold 99 = .ok (.invokevirtual 149, 3) := by decide +kernel
theorem dX11_isTold_102 : decode cX11_isTold 102 = .ok (.aload_n 0, 1) := by decide +kernel
theorem dX11_isTold_103 : decode cX11_isTold 103 = .ok (.iload_n 1, 1) := by decide +kernel
theorem dX11_isTold_104 : decode cX11_isTold 104 = .ok (.iload 5, 2) := by decide +kernel
theorem dX11_isTold_106 : decode cX11_isTold 106 = .ok (.invokevirtual 149, 3) := by decide +kernel
theorem dX11_isTold_109 : decode cX11_isTold 109 = .ok (.lcmp, 1) := by decide +kernel
theorem dX11_isTold_110 : decode cX11_isTold 110 = .ok (.ifCond .ne 7, 3) := by decide +kernel
theorem dX11_isTold_113 : decode cX11_isTold 113 = .ok (.iconst 1, 1) := by decide +kernel
theorem dX11_isTold_114 : decode cX11_isTold 114 = .ok (.goto 4, 3) := by decide +kernel
theorem dX11_isTold_117 : decode cX11_isTold 117 = .ok (.iconst 0, 1) := by decide +kernel
theorem dX11_isTold_118 : decode cX11_isTold 118 = .ok (.istore 4, 2) := by decide +kernel
theorem dX11_isTold_120 : decode cX11_isTold 120 = .ok (.iinc 5 1, 3) := by decide +kernel
theorem dX11_isTold_123 : decode cX11_isTold 123 = .ok (.goto (-54), 3) := by decide +kernel
theorem dX11_isTold_126 : decode cX11_isTold 126 = .ok (.iload 4, 2) := by decide +kernel
theorem dX11_isTold_128 : decode cX11_isTold 128 = .ok (.ifCond .eq 5, 3) := by decide +kernel
theorem dX11_isTold_131 : decode cX11_isTold 131 = .ok (.iconst 0, 1) := by decide +kernel
theorem dX11_isTold_132 : decode cX11_isTold 132 = .ok (.ireturn, 1) := by decide +kernel
theorem dX11_isTold_133 : decode cX11_isTold 133 = .ok (.iinc 3 1, 3) := by decide +kernel
theorem dX11_isTold_136 : decode cX11_isTold 136 = .ok (.goto (-93), 3) := by decide +kernel
theorem dX11_isTold_139 : decode cX11_isTold 139 = .ok (.iconst 1, 1) := by decide +kernel
theorem dX11_isTold_140 : decode cX11_isTold 140 = .ok (.ireturn, 1) := by decide +kernel
set_option maxRecDepth 20000 in
theorem ggX11_areSome_X11_in : GoodIn wsX11_areSome wsX11_in := goodIn_r _ [5] (by decide +kernel) (by decide +kernel)
set_option maxRecDepth 20000 in
theorem gX11_areSome_X11_in : GoodIn wsX11_areSome (va_wsS RX11 64 yX11_in wsX11_in) := goodIn_app (goodIn_of _ (by decide +kernel)) ggX11_areSome_X11_in
theorem dX11_areSome_0 : decode cX11_areSome 0 = .ok (.iload_n 2, 1) := by decide +kernel
theorem dX11_areSome_1 : decode cX11_areSome 1 = .ok (.i2l, 1) := by decide +kernel
theorem dX11_areSome_2 : decode cX11_areSome 2 = .ok (.lconst 1, 1) := by decide +kernel
theorem dX11_areSome_3 : decode cX11_areSome 3 = .ok (.iconst 1, 1) := by decide +kernel
theorem dX11_areSome_4 : decode cX11_areSome 4 = .ok (.aload_n 0, 1) := by decide +kernel
theorem dX11_areSome_5 : decode cX11_areSome 5 = .ok (.getfield 7, 3) := by decide +kernel
theorem dX11_areSome_8 : decode cX11_areSome 8 = .ok (.bipush 21, 2) := by decide +kernel
theorem dX11_areSome_10 : decode cX11_areSome 10 = .ok (.iaload, 1) := by decide +kernel
theorem dX11_areSome_11 : decode cX11_areSome 11 = .ok (.ishl, 1) := by decide +kernel
theorem dX11_areSome_12 : decode cX11_areSome 12 = .ok (.iconst 1, 1) := by decide +kernel
theorem dX11_areSome_13 : decode cX11_areSome 13 = .ok (.isub, 1) := by decide +kernel
theorem dX11_areSome_14 : decode cX11_areSome 14 = .ok (.i2l, 1) := by decide +kernel
theorem dX11_areSome_15 : decode cX11_areSome 15 = .ok (.invokestatic 64, 3) := by decide +kernel
theorem dX11_areSome_18 : decode cX11_areSome 18 = .ok (.ifCond .eq 15, 3) := by decide +kernel
theorem dX11_areSome_21 : decode cX11_areSome 21 = .ok (.iload_n 2, 1) := by decide +kernel
theorem dX11_areSome_22 : decode cX11_areSome 22 = .ok (.iload_n 1, 1) := by decide +kernel
theorem dX11_areSome_23 : decode cX11_areSome 23 = .ok (.ishr, 1) := by decide +kernel
theorem dX11_areSome_24 : decode cX11_areSome 24 = .ok (.iconst 1, 1) := by decide +kernel
theorem dX11_areSome_25 : decode cX11_areSome 25 = .ok (.iand, 1) := by decide +kernel
theorem dX11_areSome_26 : decode cX11_areSome 26 = .ok (.ifCond .ne 7, 3) := by decide +kernel
theorem dX11_areSome_29 : decode cX11_areSome 29 = .ok (.iconst 1, 1) := by decide +kernel
theorem dX11_areSome_30 : decode cX11_areSome 30 = .ok (.goto 4, 3) := by decide +kernel
theorem dX11_areSome_33 : decode cX11_areSome 33 = .ok (.iconst 0, 1) := by decide +kernel
theorem dX11_areSome_34 : decode cX11_areSome 34 = .ok (.ireturn, 1) := by decide +kernel
set_option maxRecDepth 20000 in
theorem ggX11_tells_X11_isPlace : GoodIn wsX11_tells wsX11_isPlace := goodIn_r _ [5, 6, 7, 8, 9, 4, 10, 11, 12, 13, 14, 30, 31, 32, 33, 34, 35, 36, 37, 38, 39, 40, 41, 42, 43, 44, 45, 46, 47, 48, 49, 50, 51, 52, 53, 54, 55, 56, 57, 58, 59] (by decide +kernel) (by decide +kernel)
set_option maxRecDepth 20000 in
theorem gX11_tells_X11_isPlace : GoodIn wsX11_tells (wsV RX11 138 RX11 yX11_isPlace wsX11_isPlace) := goodIn_app (goodIn_of _ (by decide +kernel)) ggX11_tells_X11_isPlace
set_option maxRecDepth 20000 in
theorem ggX11_tells_X11_areSome : GoodIn wsX11_tells wsX11_areSome := goodIn_r _ [18, 6, 12, 13, 4, 14, 30, 31, 32, 33, 34, 35, 36, 37, 38, 39, 40, 41, 42, 43, 44, 45, 46, 47, 48, 49, 50, 51, 52, 53, 54, 55, 56, 57, 58, 59] (by decide +kernel) (by decide +kernel)
set_option maxRecDepth 20000 in
theorem gX11_tells_X11_areSome : GoodIn wsX11_tells (wsV RX11 277 RX11 yX11_areSome wsX11_areSome) := goodIn_app (goodIn_of _ (by decide +kernel)) ggX11_tells_X11_areSome
set_option maxRecDepth 20000 in
theorem ggX11_tells_X11_isTold : GoodIn wsX11_tells wsX11_isTold := goodIn_r _ [22, 6, 23, 24, 25, 4, 26, 27, 28, 29, 30, 31, 32, 33, 34, 35, 36, 37, 38, 39, 40, 41, 42, 43, 44, 45, 46, 47, 48, 49, 50, 51, 52, 53, 54, 55, 56, 57, 58, 59] (by decide +kernel) (by decide +kernel)
set_option maxRecDepth 20000 in
theorem gX11_tells_X11_isTold : GoodIn wsX11_tells (wsV RX11 280 RX11 yX11_isTold wsX11_isTold) := goodIn_app (goodIn_of _ (by decide +kernel)) ggX11_tells_X11_isTold
theorem dX11_tells_0 : decode cX11_tells 0 = .ok (.aload_n 0, 1) := by decide +kernel
theorem dX11_tells_1 : decode cX11_tells 1 = .ok (.iload_n 1, 1) := by decide +kernel
theorem dX11_tells_2 : decode cX11_tells 2 = .ok (.invokevirtual 138, 3) := by decide +kernel
theorem dX11_tells_5 : decode cX11_tells 5 = .ok (.ifCond .eq 29, 3) := by decide +kernel
theorem dX11_tells_8 : decode cX11_tells 8 = .ok (.aload_n 0, 1) := by decide +kernel
theorem dX11_tells_9 : decode cX11_tells 9 = .ok (.iload_n 1, 1) := by decide +kernel
theorem dX11_tells_10 : decode cX11_tells 10 = .ok (.iload_n 2, 1) := by decide +kernel
theorem dX11_tells_11 : decode cX11_tells 11 = .ok (.invokevirtual 277, 3) := by decide +kernel
theorem dX11_tells_14 : decode cX11_tells 14 = .ok (.ifCond .eq 20, 3) := by decide +kernel
theorem dX11_tells_17 : decode cX11_tells 17 = .ok (.aload_n 0, 1) := by decide +kernel
theorem dX11_tells_18 : decode cX11_tells 18 = .ok (.iload_n 1, 1) := by decide +kernel
theorem dX11_tells_19 : decode cX11_tells 19 = .ok (.iload_n 2, 1) := by decide +kernel
theorem dX11_tells_20 : decode cX11_tells 20 = .ok (.invokevirtual 280, 3) := by decide +kernel
theorem dX11_tells_23 : decode cX11_tells 23 = .ok (.ifCond .eq 7, 3) := by decide +kernel
theorem dX11_tells_26 : decode cX11_tells 26 = .ok (.iconst 1, 1) := by decide +kernel
theorem dX11_tells_27 : decode cX11_tells 27 = .ok (.goto 8, 3) := by decide +kernel
theorem dX11_tells_30 : decode cX11_tells 30 = .ok (.iconst 0, 1) := by decide +kernel
theorem dX11_tells_31 : decode cX11_tells 31 = .ok (.goto 4, 3) := by decide +kernel
theorem dX11_tells_34 : decode cX11_tells 34 = .ok (.iconst (-1), 1) := by decide +kernel
theorem dX11_tells_35 : decode cX11_tells 35 = .ok (.ireturn, 1) := by decide +kernel
set_option maxRecDepth 20000 in
theorem ggX11_words_X11_isPlace : GoodIn wsX11_words wsX11_isPlace := goodIn_r _ [6, 1, 7, 8, 9, 5, 10, 11, 12, 13, 14, 29, 30, 31, 32, 33, 34, 35, 36, 37, 38, 39, 40, 41, 42, 43, 44, 45, 46, 47, 48, 49, 50, 51, 52, 53, 54, 55, 56, 57, 58] (by decide +kernel) (by decide +kernel)
set_option maxRecDepth 20000 in
theorem gX11_words_X11_isPlace : GoodIn wsX11_words (wsV RX11 138 RX11 yX11_isPlace wsX11_isPlace) := goodIn_app (goodIn_of _ (by decide +kernel)) ggX11_words_X11_isPlace
set_option maxRecDepth 20000 in
theorem ggX11_words_X11_in : GoodIn wsX11_words wsX11_in := goodIn_r _ [14] (by decide +kernel) (by decide +kernel)
set_option maxRecDepth 20000 in
theorem gX11_words_X11_in : GoodIn wsX11_words (va_wsS RX11 64 yX11_in wsX11_in) := goodIn_app (goodIn_of _ (by decide +kernel)) ggX11_words_X11_in
set_option maxRecDepth 20000 in
theorem ggX11_words_X11_isTold : GoodIn wsX11_words wsX11_isTold := goodIn_r _ [18, 1, 19, 20, 21, 5, 22, 23, 24, 25, 29, 30, 31, 32, 33, 34, 35, 36, 37, 38, 39, 40, 41, 42, 43, 44, 45, 46, 47, 48, 49, 50, 51, 52, 53, 54, 55, 56, 57, 58] (by decide +kernel) (by decide +kernel)
set_option maxRecDepth 20000 in
theorem gX11_words_X11_isTold : GoodIn wsX11_words (wsV RX11 280 RX11 yX11_isTold wsX11_isTold) := goodIn_app (goodIn_of _ (by decide +kernel)) ggX11_words_X11_isTold
set_option maxRecDepth 20000 in
theorem ggX11_words_X11_bitsOf : GoodIn wsX11_words wsX11_bitsOf := goodIn_r _ [28] (by decide +kernel) (by decide +kernel)
set_option maxRecDepth 20000 in
theorem gX11_words_X11_bitsOf : GoodIn wsX11_words (va_wsS RX11 274 yX11_bitsOf wsX11_bitsOf) := goodIn_app (goodIn_of _ (by decide +kernel)) ggX11_words_X11_bitsOf
theorem dX11_words_0 : decode cX11_words 0 = .ok (.aload_n 0, 1) := by decide +kernel
theorem dX11_words_1 : decode cX11_words 1 = .ok (.iload_n 1, 1) := by decide +kernel
theorem dX11_words_2 : decode cX11_words 2 = .ok (.invokevirtual 138, 3) := by decide +kernel
theorem dX11_words_5 : decode cX11_words 5 = .ok (.ifCond .eq 13, 3) := by decide +kernel
theorem dX11_words_8 : decode cX11_words 8 = .ok (.iload_n 2, 1) := by decide +kernel
theorem dX11_words_9 : decode cX11_words 9 = .ok (.i2l, 1) := by decide +kernel
theorem dX11_words_10 : decode cX11_words 10 = .ok (.lconst 0, 1) := by decide +kernel
theorem dX11_words_11 : decode cX11_words 11 = .ok (.lconst 1, 1) := by decide +kernel
theorem dX11_words_12 : decode cX11_words 12 = .ok (.invokestatic 64, 3) := by decide +kernel
theorem dX11_words_15 : decode cX11_words 15 = .ok (.ifCond .ne 5, 3) := by decide +kernel
theorem dX11_words_18 : decode cX11_words 18 = .ok (.iconst (-1), 1) := by decide +kernel
theorem dX11_words_19 : decode cX11_words 19 = .ok (.ireturn, 1) := by decide +kernel
theorem dX11_words_20 : decode cX11_words 20 = .ok (.bipush (-4), 2) := by decide +kernel
theorem dX11_words_22 : decode cX11_words 22 = .ok (.istore_n 3, 1) := by decide +kernel
theorem dX11_words_23 : decode cX11_words 23 = .ok (.iconst 1, 1) := by decide +kernel
theorem dX11_words_24 : decode cX11_words 24 = .ok (.istore 4, 2) := by decide +kernel
theorem dX11_words_26 : decode cX11_words 26 = .ok (.iload 4, 2) := by decide +kernel
theorem dX11_words_28 : decode cX11_words 28 = .ok (.iconst 1, 1) := by decide +kernel
theorem dX11_words_29 : decode cX11_words 29 = .ok (.aload_n 0, 1) := by decide +kernel
theorem dX11_words_30 : decode cX11_words 30 = .ok (.getfield 7, 3) := by decide +kernel
theorem dX11_words_33 : decode cX11_words 33 = .ok (.bipush 21, 2) := by decide +kernel
theorem dX11_words_35 : decode cX11_words 35 = .ok (.iaload, 1) := by decide +kernel
theorem dX11_words_36 : decode cX11_words 36 = .ok (.ishl, 1) := by decide +kernel
theorem dX11_words_37 : decode cX11_words 37 = .ok (.if_icmp .ge 65, 3) := by decide +kernel
theorem dX11_words_40 : decode cX11_words 40 = .ok (.iload 4, 2) := by decide +kernel
theorem dX11_words_42 : decode cX11_words 42 = .ok (.iload_n 1, 1) := by decide +kernel
theorem dX11_words_43 : decode cX11_words 43 = .ok (.ishr, 1) := by decide +kernel
theorem dX11_words_44 : decode cX11_words 44 = .ok (.iconst 1, 1) := by decide +kernel
theorem dX11_words_45 : decode cX11_words 45 = .ok (.iand, 1) := by decide +kernel
theorem dX11_words_46 : decode cX11_words 46 = .ok (.ifCond .ne 17, 3) := by decide +kernel
theorem dX11_words_49 : decode cX11_words 49 = .ok (.aload_n 0, 1) := by decide +kernel
theorem dX11_words_50 : decode cX11_words 50 = .ok (.iload_n 1, 1) := by decide +kernel
theorem dX11_words_51 : decode cX11_words 51 = .ok (.iload 4, 2) := by decide +kernel
theorem dX11_words_53 : decode cX11_words 53 = .ok (.invokevirtual 280, 3) := by decide +kernel
theorem dX11_words_56 : decode cX11_words 56 = .ok (.ifCond .eq 7, 3) := by decide +kernel
theorem dX11_words_59 : decode cX11_words 59 = .ok (.iconst 1, 1) := by decide +kernel
theorem dX11_words_60 : decode cX11_words 60 = .ok (.goto 4, 3) := by decide +kernel
theorem dX11_words_63 : decode cX11_words 63 = .ok (.iconst 0, 1) := by decide +kernel
theorem dX11_words_64 : decode cX11_words 64 = .ok (.istore 5, 2) := by decide +kernel
theorem dX11_words_66 : decode cX11_words 66 = .ok (.iload 5, 2) := by decide +kernel
theorem dX11_words_68 : decode cX11_words 68 = .ok (.ifCond .eq 26, 3) := by decide +kernel
theorem dX11_words_71 : decode cX11_words 71 = .ok (.iload_n 3, 1) := by decide +kernel
theorem dX11_words_72 : decode cX11_words 72 = .ok (.bipush (-4), 2) := by decide +kernel
theorem dX11_words_74 : decode cX11_words 74 = .ok (.if_icmp .eq 15, 3) := by decide +kernel
theorem dX11_words_77 : decode cX11_words 77 = .ok (.iload 4, 2) := by decide +kernel
theorem dX11_words_79 : decode cX11_words 79 = .ok (.invokestatic 274, 3) := by decide +kernel
theorem dX11_words_82 : decode cX11_words 82 = .ok (.iload_n 3, 1) := by decide +kernel
theorem dX11_words_83 : decode cX11_words 83 = .ok (.invokestatic 274, 3) := by decide +kernel
theorem dX11_words_86 : decode cX11_words 86 = .ok (.if_icmp .ge 8, 3) := by decide +kernel
theorem dX11_words_89 : decode cX11_words 89 = .ok (.iload 4, 2) := by decide +kernel
theorem dX11_words_91 : decode cX11_words 91 = .ok (.goto 4, 3) := by decide +kernel
theorem dX11_words_94 : decode cX11_words 94 = .ok (.iload_n 3, 1) := by decide +kernel
theorem dX11_words_95 : decode cX11_words 95 = .ok (.istore_n 3, 1) := by decide +kernel
theorem dX11_words_96 : decode cX11_words 96 = .ok (.iinc 4 1, 3) := by decide +kernel
theorem dX11_words_99 : decode cX11_words 99 = .ok (.goto (-73), 3) := by decide +kernel
theorem dX11_words_102 : decode cX11_words 102 = .ok (.iload_n 3, 1) := by decide +kernel
theorem dX11_words_103 : decode cX11_words 103 = .ok (.bipush (-4), 2) := by decide +kernel
theorem dX11_words_105 : decode cX11_words 105 = .ok (.if_icmp .eq 8, 3) := by decide +kernel
theorem dX11_words_108 : decode cX11_words 108 = .ok (.iload_n 2, 1) := by decide +kernel
theorem dX11_words_109 : decode cX11_words 109 = .ok (.iconst 1, 1) := by decide +kernel
theorem dX11_words_110 : decode cX11_words 110 = .ok (.if_icmp .ne 7, 3) := by decide +kernel
theorem dX11_words_113 : decode cX11_words 113 = .ok (.iload_n 3, 1) := by decide +kernel
theorem dX11_words_114 : decode cX11_words 114 = .ok (.goto 7, 3) := by decide +kernel
theorem dX11_words_117 : decode cX11_words 117 = .ok (.iload_n 3, 1) := by decide +kernel
theorem dX11_words_118 : decode cX11_words 118 = .ok (.invokestatic 274, 3) := by decide +kernel
theorem dX11_words_121 : decode cX11_words 121 = .ok (.ireturn, 1) := by decide +kernel
set_option maxRecDepth 20000 in
theorem ggX11_isAt_X11_areTwo : GoodIn wsX11_isAt wsX11_areTwo := goodIn_r _ [6, 7, 8, 9, 5, 10, 11, 12, 13, 14, 15, 16, 17, 18, 19, 20, 21, 22, 23, 24, 25, 26, 27, 28, 29, 30, 31, 32, 33, 34, 35, 36, 37, 38, 39, 40, 41, 42, 43, 44, 45, 46, 47, 48, 49] (by decide +kernel) (by decide +kernel)
set_option maxRecDepth 20000 in
theorem gX11_isAt_X11_areTwo : GoodIn wsX11_isAt (wsV RX11 142 RX11 yX11_areTwo wsX11_areTwo) := goodIn_app (goodIn_of _ (by decide +kernel)) ggX11_isAt_X11_areTwo
set_option maxRecDepth 20000 in
theorem ggX11_isAt_X11_in : GoodIn wsX11_isAt wsX11_in := goodIn_r _ [19] (by decide +kernel) (by decide +kernel)
set_option maxRecDepth 20000 in
theorem gX11_isAt_X11_in : GoodIn wsX11_isAt (va_wsS RX11 64 yX11_in wsX11_in) := goodIn_app (goodIn_of _ (by decide +kernel)) ggX11_isAt_X11_in
theorem dX11_isAt_0 : decode cX11_isAt 0 = .ok (.aload_n 0, 1) := by decide +kernel
theorem dX11_isAt_1 : decode cX11_isAt 1 = .ok (.iload_n 1, 1) := by decide +kernel
theorem dX11_isAt_2 : decode cX11_isAt 2 = .ok (.iload_n 3, 1) := by decide +kernel
theorem dX11_isAt_3 : decode cX11_isAt 3 = .ok (.invokevirtual 142, 3) := by decide +kernel
theorem dX11_isAt_6 : decode cX11_isAt 6 = .ok (.ifCond .eq 32, 3) := by decide +kernel
theorem dX11_isAt_9 : decode cX11_isAt 9 = .ok (.iload_n 2, 1) := by decide +kernel
theorem dX11_isAt_10 : decode cX11_isAt 10 = .ok (.i2l, 1) := by decide +kernel
theorem dX11_isAt_11 : decode cX11_isAt 11 = .ok (.lconst 1, 1) := by decide +kernel
theorem dX11_isAt_12 : decode cX11_isAt 12 = .ok (.ldc2_w 156, 3) := by decide +kernel
theorem dX11_isAt_15 : decode cX11_isAt 15 = .ok (.invokestatic 64, 3) := by decide +kernel
theorem dX11_isAt_18 : decode cX11_isAt 18 = .ok (.ifCond .eq 20, 3) := by decide +kernel
theorem dX11_isAt_21 : decode cX11_isAt 21 = .ok (.iload 4, 2) := by decide +kernel
theorem dX11_isAt_23 : decode cX11_isAt 23 = .ok (.i2l, 1) := by decide +kernel
theorem dX11_isAt_24 : decode cX11_isAt 24 = .ok (.lconst 1, 1) := by decide +kernel
theorem dX11_isAt_25 : decode cX11_isAt 25 = .ok (.ldc2_w 156, 3) := by decide +kernel
theorem dX11_isAt_28 : decode cX11_isAt 28 = .ok (.invokestatic 64, 3) := by decide +kernel
theorem dX11_isAt_31 : decode cX11_isAt 31 = .ok (.ifCond .eq 7, 3) := by decide +kernel
theorem dX11_isAt_34 : decode cX11_isAt 34 = .ok (.iconst 1, 1) := by decide +kernel
theorem dX11_isAt_35 : decode cX11_isAt 35 = .ok (.goto 4, 3) := by decide +kernel
theorem dX11_isAt_38 : decode cX11_isAt 38 = .ok (.iconst 0, 1) := by decide +kernel
theorem dX11_isAt_39 : decode cX11_isAt 39 = .ok (.ireturn, 1) := by decide +kernel
set_option maxRecDepth 20000 in
theorem ggX11_at_X11_isAt : GoodIn wsX11_at wsX11_isAt := goodIn_r _ [6, 7, 8, 9, 10, 5, 11, 12, 13, 14, 15, 1, 16, 17, 18, 19, 20, 21, 22, 23, 31, 32, 33, 34, 35, 36, 37, 38, 39, 40, 41, 42, 43, 44, 45, 46, 47, 48, 49, 50, 51, 52, 53, 54, 55, 56, 57, 58, 59, 60] (by decide +kernel) (by decide +kernel)
set_option maxRecDepth 20000 in
theorem gX11_at_X11_isAt : GoodIn wsX11_at (wsV RX11 283 RX11 yX11_isAt wsX11_isAt) := goodIn_app (goodIn_of _ (by decide +kernel)) ggX11_at_X11_isAt
set_option maxRecDepth 20000 in
theorem ggX11_at_X11_sq : GoodIn wsX11_at wsX11_sq := goodIn_r _ [27, 1, 28, 29, 5, 30, 31, 32, 33, 34, 35, 36, 37, 38, 39, 40, 41, 42, 43, 44, 45, 46, 47, 48, 49, 50, 51, 52, 53, 54, 55, 56, 57, 58, 59, 60] (by decide +kernel) (by decide +kernel)
set_option maxRecDepth 20000 in
theorem gX11_at_X11_sq : GoodIn wsX11_at (wsV RX11 149 RX11 yX11_sq wsX11_sq) := goodIn_app (goodIn_of _ (by decide +kernel)) ggX11_at_X11_sq
theorem dX11_at_0 : decode cX11_at 0 = .ok (.aload_n 0, 1) := by decide +kernel
theorem dX11_at_1 : decode cX11_at 1 = .ok (.iload_n 1, 1) := by decide +kernel
theorem dX11_at_2 : decode cX11_at 2 = .ok (.iload_n 2, 1) := by decide +kernel
theorem dX11_at_3 : decode cX11_at 3 = .ok (.iload_n 3, 1) := by decide +kernel
theorem dX11_at_4 : decode cX11_at 4 = .ok (.iload 4, 2) := by decide +kernel
theorem dX11_at_6 : decode cX11_at 6 = .ok (.invokevirtual 283, 3) := by decide +kernel
theorem dX11_at_9 : decode cX11_at 9 = .ok (.ifCond .ne 5, 3) := by decide +kernel
theorem dX11_at_12 : decode cX11_at 12 = .ok (.iconst (-1), 1) := by decide +kernel
theorem dX11_at_13 : decode cX11_at 13 = .ok (.ireturn, 1) := by decide +kernel
theorem dX11_at_14 : decode cX11_at 14 = .ok (.iconst 0, 1) := by decide +kernel
theorem dX11_at_15 : decode cX11_at 15 = .ok (.istore 5, 2) := by decide +kernel
theorem dX11_at_17 : decode cX11_at 17 = .ok (.iconst 0, 1) := by decide +kernel
theorem dX11_at_18 : decode cX11_at 18 = .ok (.istore 6, 2) := by decide +kernel
theorem dX11_at_20 : decode cX11_at 20 = .ok (.iload 6, 2) := by decide +kernel
theorem dX11_at_22 : decode cX11_at 22 = .ok (.aload_n 0, 1) := by decide +kernel
theorem dX11_at_23 : decode cX11_at 23 = .ok (.getfield 7, 3) := by decide +kernel
theorem dX11_at_26 : decode cX11_at 26 = .ok (.bipush 21, 2) := by decide +kernel
theorem dX11_at_28 : decode cX11_at 28 = .ok (.iaload, 1) := by decide +kernel
theorem dX11_at_29 : decode cX11_at 29 = .ok (.if_icmp .ge 49, 3) := by decide +kernel
theorem dX11_at_32 : decode cX11_at 32 = .ok (.iload 5, 2) := by decide +kernel
theorem dX11_at_34 : decode cX11_at 34 = .ok (.aload_n 0, 1) := by decide +kernel
theorem dX11_at_35 : decode cX11_at 35 = .ok (.iload 6, 2) := by decide +kernel
theorem dX11_at_37 : decode cX11_at 37 = .ok (.iload_n 1, 1) := by decide +kernel
theorem dX11_at_38 : decode cX11_at 38 = .ok (.invokevirtual 149, 3) := by decide +kernel
theorem dX11_at_41 : decode cX11_at 41 = .ok (.iload_n 2, 1) := by decide +kernel
theorem dX11_at_42 : decode cX11_at 42 = .ok (.i2l, 1) := by decide +kernel
theorem dX11_at_43 : decode cX11_at 43 = .ok (.lcmp, 1) := by decide +kernel
theorem dX11_at_44 : decode cX11_at 44 = .ok (.ifCond .ne 24, 3) := by decide +kernel
theorem dX11_at_47 : decode cX11_at 47 = .ok (.aload_n 0, 1) := by decide +kernel
theorem dX11_at_48 : decode cX11_at 48 = .ok (.iload 6, 2) := by decide +kernel
theorem dX11_at_50 : decode cX11_at 50 = .ok (.iload_n 3, 1) := by decide +kernel
theorem dX11_at_51 : decode cX11_at 51 = .ok (.invokevirtual 149, 3) := by decide +kernel
theorem dX11_at_54 : decode cX11_at 54 = .ok (.iload 4, 2) := by decide +kernel
theorem dX11_at_56 : decode cX11_at 56 = .ok (.i2l, 1) := by decide +kernel
theorem dX11_at_57 : decode cX11_at 57 = .ok (.lcmp, 1) := by decide +kernel
theorem dX11_at_58 : decode cX11_at 58 = .ok (.ifCond .ne 10, 3) := by decide +kernel
theorem dX11_at_61 : decode cX11_at 61 = .ok (.iconst 1, 1) := by decide +kernel
theorem dX11_at_62 : decode cX11_at 62 = .ok (.iload 6, 2) := by decide +kernel
theorem dX11_at_64 : decode cX11_at 64 = .ok (.ishl, 1) := by decide +kernel
theorem dX11_at_65 : decode cX11_at 65 = .ok (.goto 4, 3) := by decide +kernel
theorem dX11_at_68 : decode cX11_at 68 = .ok (.iconst 0, 1) := by decide +kernel
theorem dX11_at_69 : decode cX11_at 69 = .ok (.ior, 1) := by decide +kernel
theorem dX11_at_70 : decode cX11_at 70 = .ok (.istore 5, 2) := by decide +kernel
theorem dX11_at_72 : decode cX11_at 72 = .ok (.iinc 6 1, 3) := by decide +kernel
theorem dX11_at_75 : decode cX11_at 75 = .ok (.goto (-55), 3) := by decide +kernel
theorem dX11_at_78 : decode cX11_at 78 = .ok (.iload 5, 2) := by decide +kernel
theorem dX11_at_80 : decode cX11_at 80 = .ok (.ireturn, 1) := by decide +kernel
set_option maxRecDepth 20000 in
theorem ggX11_spots_X11_isAt : GoodIn wsX11_spots wsX11_isAt := goodIn_r _ [5, 6, 7, 8, 9, 4, 10, 11, 12, 13, 14, 15, 16, 17, 18, 19, 20, 21, 22, 23, 38, 39, 40, 41, 42, 43, 44, 45, 46, 47, 48, 49, 50, 51, 52, 53, 54, 55, 56, 57, 58, 59, 60, 61, 62, 63, 64, 65, 66, 67] (by decide +kernel) (by decide +kernel)
set_option maxRecDepth 20000 in
theorem gX11_spots_X11_isAt : GoodIn wsX11_spots (wsV RX11 283 RX11 yX11_isAt wsX11_isAt) := goodIn_app (goodIn_of _ (by decide +kernel)) ggX11_spots_X11_isAt
set_option maxRecDepth 20000 in
theorem ggX11_spots_X11_sq : GoodIn wsX11_spots wsX11_sq := goodIn_r _ [27, 15, 28, 29, 4, 30, 38, 39, 40, 41, 42, 43, 44, 45, 46, 47, 48, 49, 50, 51, 52, 53, 54, 55, 56, 57, 58, 59, 60, 61, 62, 63, 64, 65, 66, 67] (by decide +kernel) (by decide +kernel)
set_option maxRecDepth 20000 in
theorem gX11_spots_X11_sq : GoodIn wsX11_spots (wsV RX11 149 RX11 yX11_sq wsX11_sq) := goodIn_app (goodIn_of _ (by decide +kernel)) ggX11_spots_X11_sq
set_option maxRecDepth 20000 in
theorem ggX11_spots_X11_wideBy : GoodIn wsX11_spots wsX11_wideBy := goodIn_r _ [33, 34] (by decide +kernel) (by decide +kernel)
set_option maxRecDepth 20000 in
theorem gX11_spots_X11_wideBy : GoodIn wsX11_spots (va_wsS RX11 164 yX11_wideBy wsX11_wideBy) := goodIn_app (goodIn_of _ (by decide +kernel)) ggX11_spots_X11_wideBy
set_option maxRecDepth 20000 in
theorem ggX11_spots_X11_signOf : GoodIn wsX11_spots wsX11_signOf := goodIn_r _ [37] (by decide +kernel) (by decide +kernel)
set_option maxRecDepth 20000 in
theorem gX11_spots_X11_signOf : GoodIn wsX11_spots (va_wsS RX11 212 yX11_signOf wsX11_signOf) := goodIn_app (goodIn_of _ (by decide +kernel)) ggX11_spots_X11_signOf
theorem dX11_spots_0 : decode cX11_spots 0 = .ok (.aload_n 0, 1) := by decide +kernel
theorem dX11_spots_1 : decode cX11_spots 1 = .ok (.iload_n 1, 1) := by decide +kernel
theorem dX11_spots_2 : decode cX11_spots 2 = .ok (.iload_n 2, 1) := by decide +kernel
theorem dX11_spots_3 : decode cX11_spots 3 = .ok (.iload_n 3, 1) := by decide +kernel
theorem dX11_spots_4 : decode cX11_spots 4 = .ok (.iload 4, 2) := by decide +kernel
theorem dX11_spots_6 : decode cX11_spots 6 = .ok (.invokevirtual 283, 3) := by decide +kernel
theorem dX11_spots_9 : decode cX11_spots 9 = .ok (.ifCond .ne 5, 3) := by decide +kernel
theorem dX11_spots_12 : decode cX11_spots 12 = .ok (.iconst (-1), 1) := by decide +kernel
theorem dX11_spots_13 : decode cX11_spots 13 = .ok (.ireturn, 1) := by decide +kernel
theorem dX11_spots_14 : decode cX11_spots 14 = .ok (.aload_n 0, 1) := by decide +kernel
theorem dX11_spots_15 : decode cX11_spots 15 = .ok (.iload_n 1, 1) := by decide +kernel
theorem dX11_spots_16 : decode cX11_spots 16 = .ok (.iload_n 3, 1) := by decide +kernel
theorem dX11_spots_17 : decode cX11_spots 17 = .ok (.invokevirtual 149, 3) := by decide +kernel
theorem dX11_spots_20 : decode cX11_spots 20 = .ok (.lconst 0, 1) := by decide +kernel
theorem dX11_spots_21 : decode cX11_spots 21 = .ok (.lcmp, 1) := by decide +kernel
theorem dX11_spots_22 : decode cX11_spots 22 = .ok (.ifCond .ne 8, 3) := by decide +kernel
theorem dX11_spots_25 : decode cX11_spots 25 = .ok (.bipush (-2), 2) := by decide +kernel
theorem dX11_spots_27 : decode cX11_spots 27 = .ok (.goto 22, 3) := by decide +kernel
theorem dX11_spots_30 : decode cX11_spots 30 = .ok (.iconst 1, 1) := by decide +kernel
theorem dX11_spots_31 : decode cX11_spots 31 = .ok (.aload_n 0, 1) := by decide +kernel
theorem dX11_spots_32 : decode cX11_spots 32 = .ok (.iload_n 1, 1) := by decide +kernel
theorem dX11_spots_33 : decode cX11_spots 33 = .ok (.iload_n 3, 1) := by decide +kernel
theorem dX11_spots_34 : decode cX11_spots 34 = .ok (.invokevirtual 149, 3) := by decide +kernel
theorem dX11_spots_37 : decode cX11_spots 37 = .ok (.iload_n 2, 1) := by decide +kernel
theorem dX11_spots_38 : decode cX11_spots 38 = .ok (.i2l, 1) := by decide +kernel
theorem dX11_spots_39 : decode cX11_spots 39 = .ok (.iload 4, 2) := by decide +kernel
theorem dX11_spots_41 : decode cX11_spots 41 = .ok (.i2l, 1) := by decide +kernel
theorem dX11_spots_42 : decode cX11_spots 42 = .ok (.invokestatic 164, 3) := by decide +kernel
theorem dX11_spots_45 : decode cX11_spots 45 = .ok (.invokestatic 212, 3) := by decide +kernel
theorem dX11_spots_48 : decode cX11_spots 48 = .ok (.iadd, 1) := by decide +kernel
theorem dX11_spots_49 : decode cX11_spots 49 = .ok (.ireturn, 1) := by decide +kernel
set_option maxRecDepth 20000 in
theorem ggX11_isLike_X11_pairOf : GoodIn wsX11_isLike wsX11_pairOf := goodIn_r _ [6] (by decide +kernel) (by decide +kernel)
set_option maxRecDepth 20000 in
theorem gX11_isLike_X11_pairOf : GoodIn wsX11_isLike (va_wsS RX11 113 yX11_pairOf wsX11_pairOf) := goodIn_app (goodIn_of _ (by decide +kernel)) ggX11_isLike_X11_pairOf
theorem dX11_isLike_0 : decode cX11_isLike 0 = .ok (.iconst 0, 1) := by decide +kernel
theorem dX11_isLike_1 : decode cX11_isLike 1 = .ok (.istore_n 3, 1) := by decide +kernel
theorem dX11_isLike_2 : decode cX11_isLike 2 = .ok (.iload_n 3, 1) := by decide +kernel
theorem dX11_isLike_3 : decode cX11_isLike 3 = .ok (.iload_n 2, 1) := by decide +kernel
theorem dX11_isLike_4 : decode cX11_isLike 4 = .ok (.if_icmp .ge 61, 3) := by decide +kernel
theorem dX11_isLike_7 : decode cX11_isLike 7 = .ok (.aload_n 0, 1) := by decide +kernel
theorem dX11_isLike_8 : decode cX11_isLike 8 = .ok (.getfield 34, 3) := by decide +kernel
theorem dX11_isLike_11 : decode cX11_isLike 11 = .ok (.iload_n 3, 1) := by decide +kernel
theorem dX11_isLike_12 : decode cX11_isLike 12 = .ok (.iaload, 1) := by decide +kernel
theorem dX11_isLike_13 : decode cX11_isLike 13 = .ok (.aload_n 0, 1) := by decide +kernel
theorem dX11_isLike_14 : decode cX11_isLike 14 = .ok (.getfield 34, 3) := by decide +kernel
theorem dX11_isLike_17 : decode cX11_isLike 17 = .ok (.iload_n 2, 1) := by decide +kernel
theorem dX11_isLike_18 : decode cX11_isLike 18 = .ok (.iaload, 1) := by decide +kernel
theorem dX11_isLike_19 : decode cX11_isLike 19 = .ok (.if_icmp .eq 38, 3) := by decide +kernel
theorem dX11_isLike_22 : decode cX11_isLike 22 = .ok (.aload_n 0, 1) := by decide +kernel
theorem dX11_isLike_23 : decode cX11_isLike 23 = .ok (.getfield 7, 3) := by decide +kernel
theorem dX11_isLike_26 : decode cX11_isLike 26 = .ok (.iload_n 1, 1) := by decide +kernel
theorem dX11_isLike_27 : decode cX11_isLike 27 = .ok (.aload_n 0, 1) := by decide +kernel
theorem dX11_isLike_28 : decode cX11_isLike 28 = .ok (.getfield 34, 3) := by decide +kernel
theorem dX11_isLike_31 : decode cX11_isLike 31 = .ok (.iload_n 3, 1) := by decide +kernel
theorem dX11_isLike_32 : decode cX11_isLike 32 = .ok (.iaload, 1) := by decide +kernel
theorem dX11_isLike_33 : decode cX11_isLike 33 = .ok (.aload_n 0, 1) := by decide +kernel
theorem dX11_isLike_34 : decode cX11_isLike 34 = .ok (.getfield 34, 3) := by decide +kernel
theorem dX11_isLike_37 : decode cX11_isLike 37 = .ok (.iload_n 2, 1) := by decide +kernel
theorem dX11_isLike_38 : decode cX11_isLike 38 = .ok (.iaload, 1) := by decide +kernel
theorem dX11_isLike_39 : decode cX11_isLike 39 = .ok (.invokestatic 113, 3) := by decide +kernel
theorem dX11_isLike_42 : decode cX11_isLike 42 = .ok (.iadd, 1) := by decide +kernel
theorem dX11_isLike_43 : decode cX11_isLike 43 = .ok (.iaload, 1) := by decide +kernel
theorem dX11_isLike_44 : decode cX11_isLike 44 = .ok (.aload_n 0, 1) := by decide +kernel
theorem dX11_isLike_45 : decode cX11_isLike 45 = .ok (.getfield 7, 3) := by decide +kernel
theorem dX11_isLike_48 : decode cX11_isLike 48 = .ok (.iload_n 3, 1) := by decide +kernel
theorem dX11_isLike_49 : decode cX11_isLike 49 = .ok (.iload_n 2, 1) := by decide +kernel
theorem dX11_isLike_50 : decode cX11_isLike 50 = .ok (.invokestatic 113, 3) := by decide +kernel
theorem dX11_isLike_53 : decode cX11_isLike 53 = .ok (.iaload, 1) := by decide +kernel
theorem dX11_isLike_54 : decode cX11_isLike 54 = .ok (.if_icmp .eq 5, 3) := by decide +kernel
theorem dX11_isLike_57 : decode cX11_isLike 57 = .ok (.iconst 0, 1) := by decide +kernel
theorem dX11_isLike_58 : decode cX11_isLike 58 = .ok (.ireturn, 1) := by decide +kernel
theorem dX11_isLike_59 : decode cX11_isLike 59 = .ok (.iinc 3 1, 3) := by decide +kernel
theorem dX11_isLike_62 : decode cX11_isLike 62 = .ok (.goto (-60), 3) := by decide +kernel
theorem dX11_isLike_65 : decode cX11_isLike 65 = .ok (.iconst 1, 1) := by decide +kernel
theorem dX11_isLike_66 : decode cX11_isLike 66 = .ok (.ireturn, 1) := by decide +kernel
set_option maxRecDepth 20000 in
theorem ggX11_layMaps_X11_isLike : GoodIn wsX11_layMaps wsX11_isLike := goodIn_r _ [8, 2, 1, 9, 10, 7, 11, 12, 13, 14, 15, 16, 17, 18, 19, 20, 21, 22, 23, 24, 25, 26, 27, 28, 29, 30, 31, 32, 33, 34, 35, 36, 37, 38, 39, 40, 41] (by decide +kernel) (by decide +kernel)
set_option maxRecDepth 20000 in
theorem gX11_layMaps_X11_isLike : GoodIn wsX11_layMaps (wsV RX11 286 RX11 yX11_isLike wsX11_isLike) := goodIn_app (goodIn_of _ (by decide +kernel)) ggX11_layMaps_X11_isLike
theorem dX11_layMaps_0 : decode cX11_layMaps 0 = .ok (.aload_n 0, 1) := by decide +kernel
theorem dX11_layMaps_1 : decode cX11_layMaps 1 = .ok (.getfield 7, 3) := by decide +kernel
theorem dX11_layMaps_4 : decode cX11_layMaps 4 = .ok (.bipush 21, 2) := by decide +kernel
theorem dX11_layMaps_6 : decode cX11_layMaps 6 = .ok (.iaload, 1) := by decide +kernel
theorem dX11_layMaps_7 : decode cX11_layMaps 7 = .ok (.istore_n 2, 1) := by decide +kernel
theorem dX11_layMaps_8 : decode cX11_layMaps 8 = .ok (.iconst 0, 1) := by decide +kernel
theorem dX11_layMaps_9 : decode cX11_layMaps 9 = .ok (.istore_n 3, 1) := by decide +kernel
theorem dX11_layMaps_10 : decode cX11_layMaps 10 = .ok (.iconst 0, 1) := by decide +kernel
theorem dX11_layMaps_11 : decode cX11_layMaps 11 = .ok (.istore 4, 2) := by decide +kernel
theorem dX11_layMaps_13 : decode cX11_layMaps 13 = .ok (.aload_n 0, 1) := by decide +kernel
theorem dX11_layMaps_14 : decode cX11_layMaps 14 = .ok (.getfield 7, 3) := by decide +kernel
theorem dX11_layMaps_17 : decode cX11_layMaps 17 = .ok (.iload_n 1, 1) := by decide +kernel
theorem dX11_layMaps_18 : decode cX11_layMaps 18 = .ok (.bipush 21, 2) := by decide +kernel
theorem dX11_layMaps_20 : decode cX11_layMaps 20 = .ok (.iadd, 1) := by decide +kernel
theorem dX11_layMaps_21 : decode cX11_layMaps 21 = .ok (.iaload, 1) := by decide +kernel
theorem dX11_layMaps_22 : decode cX11_layMaps 22 = .ok (.iload_n 2, 1) := by decide +kernel
theorem dX11_layMaps_23 : decode cX11_layMaps 23 = .ok (.if_icmp .eq 5, 3) := by decide +kernel
theorem dX11_layMaps_26 : decode cX11_layMaps 26 = .ok (.iconst 0, 1) := by decide +kernel
theorem dX11_layMaps_27 : decode cX11_layMaps 27 = .ok (.ireturn, 1) := by decide +kernel
theorem dX11_layMaps_28 : decode cX11_layMaps 28 = .ok (.aload_n 0, 1) := by decide +kernel
theorem dX11_layMaps_29 : decode cX11_layMaps 29 = .ok (.getfield 34, 3) := by decide +kernel
theorem dX11_layMaps_32 : decode cX11_layMaps 32 = .ok (.iconst 0, 1) := by decide +kernel
theorem dX11_layMaps_33 : decode cX11_layMaps 33 = .ok (.iconst (-1), 1) := by decide +kernel
theorem dX11_layMaps_34 : decode cX11_layMaps 34 = .ok (.iastore, 1) := by decide +kernel
theorem dX11_layMaps_35 : decode cX11_layMaps 35 = .ok (.iload 4, 2) := by decide +kernel
theorem dX11_layMaps_37 : decode cX11_layMaps 37 = .ok (.ifCond .lt 102, 3) := by decide +kernel
theorem dX11_layMaps_40 : decode cX11_layMaps 40 = .ok (.aload_n 0, 1) := by decide +kernel
theorem dX11_layMaps_41 : decode cX11_layMaps 41 = .ok (.getfield 34, 3) := by decide +kernel
theorem dX11_layMaps_44 : decode cX11_layMaps 44 = .ok (.iload 4, 2) := by decide +kernel
theorem dX11_layMaps_46 : decode cX11_layMaps 46 = .ok (.dup2, 1) := by decide +kernel
theorem dX11_layMaps_47 : decode cX11_layMaps 47 = .ok (.iaload, 1) := by decide +kernel
theorem dX11_layMaps_48 : decode cX11_layMaps 48 = .ok (.iconst 1, 1) := by decide +kernel
theorem dX11_layMaps_49 : decode cX11_layMaps 49 = .ok (.iadd, 1) := by decide +kernel
theorem dX11_layMaps_50 : decode cX11_layMaps 50 = .ok (.iastore, 1) := by decide +kernel
theorem dX11_layMaps_51 : decode cX11_layMaps 51 = .ok (.aload_n 0, 1) := by decide +kernel
theorem dX11_layMaps_52 : decode cX11_layMaps 52 = .ok (.getfield 34, 3) := by decide +kernel
theorem dX11_layMaps_55 : decode cX11_layMaps 55 = .ok (.iload 4, 2) := by decide +kernel
theorem dX11_layMaps_57 : decode cX11_layMaps 57 = .ok (.iaload, 1) := by decide +kernel
theorem dX11_layMaps_58 : decode cX11_layMaps 58 = .ok (.iload_n 2, 1) := by decide +kernel
theorem dX11_layMaps_59 : decode cX11_layMaps 59 = .ok (.if_icmp .ne 9, 3) := by decide +kernel
theorem dX11_layMaps_62 : decode cX11_layMaps 62 = .ok (.iinc 4 (-1), 3) := by decide +kernel
theorem dX11_layMaps_65 : decode cX11_layMaps 65 = .ok (.goto (-30), 3) := by decide +kernel
theorem dX11_layMaps_68 : decode cX11_layMaps 68 = .ok (.aload_n 0, 1) := by decide +kernel
theorem dX11_layMaps_69 : decode cX11_layMaps 69 = .ok (.iload_n 1, 1) := by decide +kernel
theorem dX11_layMaps_70 : decode cX11_layMaps 70 = .ok (.iload 4, 2) := by decide +kernel
theorem dX11_layMaps_72 : decode cX11_layMaps 72 = .ok (.invokevirtual 286, 3) := by decide +kernel
theorem dX11_layMaps_75 : decode cX11_layMaps 75 = .ok (.ifCond .eq (-40), 3) := by decide +kernel
theorem dX11_layMaps_78 : decode cX11_layMaps 78 = .ok (.iload 4, 2) := by decide +kernel
theorem dX11_layMaps_80 : decode cX11_layMaps 80 = .ok (.iload_n 2, 1) := by decide +kernel
theorem dX11_layMaps_81 : decode cX11_layMaps 81 = .ok (.iconst 1, 1) := by decide +kernel
theorem dX11_layMaps_82 : decode cX11_layMaps 82 = .ok (.isub, 1) := by decide +kernel
theorem dX11_layMaps_83 : decode cX11_layMaps 83 = .ok (.if_icmp .ne 42, 3) := by decide +kernel
theorem dX11_layMaps_86 : decode cX11_layMaps 86 = .ok (.iconst 0, 1) := by decide +kernel
theorem dX11_layMaps_87 : decode cX11_layMaps 87 = .ok (.istore 5, 2) := by decide +kernel
theorem dX11_layMaps_89 : decode cX11_layMaps 89 = .ok (.iload 5, 2) := by decide +kernel
theorem dX11_layMaps_91 : decode cX11_layMaps 91 = .ok (.iload_n 2, 1) := by decide +kernel
theorem dX11_layMaps_92 : decode cX11_layMaps 92 = .ok (.if_icmp .ge 27, 3) := by decide +kernel
theorem dX11_layMaps_95 : decode cX11_layMaps 95 = .ok (.iload_n 3, 1) := by decide +kernel
theorem dX11_layMaps_96 : decode cX11_layMaps 96 = .ok (.ifCond .ne 23, 3) := by decide +kernel
theorem dX11_layMaps_99 : decode cX11_layMaps 99 = .ok (.aload_n 0, 1) := by decide +kernel
theorem dX11_layMaps_100 : decode cX11_layMaps 100 = .ok (.getfield 37, 3) := by decide +kernel
theorem dX11_layMaps_103 : decode cX11_layMaps 103 = .ok (.iload 5, 2) := by decide +kernel
theorem dX11_layMaps_105 : decode cX11_layMaps 105 = .ok (.aload_n 0, 1) := by decide +kernel
theorem dX11_layMaps_106 : decode cX11_layMaps 106 = .ok (.getfield 34, 3) := by decide +kernel
theorem dX11_layMaps_109 : decode cX11_layMaps 109 = .ok (.iload 5, 2) := by decide +kernel
theorem dX11_layMaps_111 : decode cX11_layMaps 111 = .ok (.iaload, 1) := by decide +kernel
theorem dX11_layMaps_112 : decode cX11_layMaps 112 = .ok (.iastore, 1) := by decide +kernel
theorem dX11_layMaps_113 : decode cX11_layMaps 113 = .ok (.iinc 5 1, 3) := by decide +kernel
theorem dX11_layMaps_116 : decode cX11_layMaps 116 = .ok (.goto (-27), 3) := by decide +kernel
theorem dX11_layMaps_119 : decode cX11_layMaps 119 = .ok (.iinc 3 1, 3) := by decide +kernel
theorem dX11_layMaps_122 : decode cX11_layMaps 122 = .ok (.goto (-87), 3) := by decide +kernel
theorem dX11_layMaps_125 : decode cX11_layMaps 125 = .ok (.iinc 4 1, 3) := by decide +kernel
theorem dX11_layMaps_128 : decode cX11_layMaps 128 = .ok (.aload_n 0, 1) := by decide +kernel
theorem dX11_layMaps_129 : decode cX11_layMaps 129 = .ok (.getfield 34, 3) := by decide +kernel
theorem dX11_layMaps_132 : decode cX11_layMaps 132 = .ok (.iload 4, 2) := by decide +kernel
theorem dX11_layMaps_134 : decode cX11_layMaps 134 = .ok (.iconst (-1), 1) := by decide +kernel
theorem dX11_layMaps_135 : decode cX11_layMaps 135 = .ok (.iastore, 1) := by decide +kernel
theorem dX11_layMaps_136 : decode cX11_layMaps 136 = .ok (.goto (-101), 3) := by decide +kernel
theorem dX11_layMaps_139 : decode cX11_layMaps 139 = .ok (.iload_n 3, 1) := by decide +kernel
