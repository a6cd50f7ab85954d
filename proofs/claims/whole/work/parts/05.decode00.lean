theorem dX0_init_0 : decode cX0_init 0 = .ok (.aload_n 0, 1) := by decide +kernel
theorem dX0_init_1 : decode cX0_init 1 = .ok (.invokespecial 3, 3) := by decide +kernel
theorem dX0_init_4 : decode cX0_init 4 = .ok (.aload_n 0, 1) := by decide +kernel
theorem dX0_init_5 : decode cX0_init 5 = .ok (.aload_n 1, 1) := by decide +kernel
theorem dX0_init_6 : decode cX0_init 6 = .ok (.putfield 9, 3) := by decide +kernel
theorem dX0_init_9 : decode cX0_init 9 = .ok (.aload_n 0, 1) := by decide +kernel
theorem dX0_init_10 : decode cX0_init 10 = .ok (.new 15, 3) := by decide +kernel
theorem dX0_init_13 : decode cX0_init 13 = .ok (.dup, 1) := by decide +kernel
theorem dX0_init_14 : decode cX0_init 14 = .ok (.invokespecial 17, 3) := by decide +kernel
theorem dX0_init_17 : decode cX0_init 17 = .ok (.putfield 18, 3) := by decide +kernel
theorem dX0_init_20 : decode cX0_init 20 = .ok (.aload_n 0, 1) := by decide +kernel
theorem dX0_init_21 : decode cX0_init 21 = .ok (.bipush 7, 2) := by decide +kernel
theorem dX0_init_23 : decode cX0_init 23 = .ok (.newarray .int, 2) := by decide +kernel
theorem dX0_init_25 : decode cX0_init 25 = .ok (.putfield 22, 3) := by decide +kernel
theorem dX0_init_28 : decode cX0_init 28 = .ok (.aload_n 0, 1) := by decide +kernel
theorem dX0_init_29 : decode cX0_init 29 = .ok (.bipush 49, 2) := by decide +kernel
theorem dX0_init_31 : decode cX0_init 31 = .ok (.newarray .int, 2) := by decide +kernel
theorem dX0_init_33 : decode cX0_init 33 = .ok (.putfield 26, 3) := by decide +kernel
theorem dX0_init_36 : decode cX0_init 36 = .ok (.return_, 1) := by decide +kernel
theorem dX0_draw_0 : decode cX0_draw 0 = .ok (.aload_n 0, 1) := by decide +kernel
theorem dX0_draw_1 : decode cX0_draw 1 = .ok (.iload_n 1, 1) := by decide +kernel
theorem dX0_draw_2 : decode cX0_draw 2 = .ok (.iload_n 2, 1) := by decide +kernel
theorem dX0_draw_3 : decode cX0_draw 3 = .ok (.invokevirtual 29, 3) := by decide +kernel
theorem dX0_draw_6 : decode cX0_draw 6 = .ok (.iconst 0, 1) := by decide +kernel
theorem dX0_draw_7 : decode cX0_draw 7 = .ok (.istore 4, 2) := by decide +kernel
theorem dX0_draw_9 : decode cX0_draw 9 = .ok (.iload 4, 2) := by decide +kernel
theorem dX0_draw_11 : decode cX0_draw 11 = .ok (.bipush 7, 2) := by decide +kernel
theorem dX0_draw_13 : decode cX0_draw 13 = .ok (.if_icmp .ge 107, 3) := by decide +kernel
theorem dX0_draw_16 : decode cX0_draw 16 = .ok (.iconst 0, 1) := by decide +kernel
theorem dX0_draw_17 : decode cX0_draw 17 = .ok (.istore 5, 2) := by decide +kernel
theorem dX0_draw_19 : decode cX0_draw 19 = .ok (.iload 5, 2) := by decide +kernel
theorem dX0_draw_21 : decode cX0_draw 21 = .ok (.bipush 7, 2) := by decide +kernel
theorem dX0_draw_23 : decode cX0_draw 23 = .ok (.if_icmp .ge 91, 3) := by decide +kernel
theorem dX0_draw_26 : decode cX0_draw 26 = .ok (.aload_n 0, 1) := by decide +kernel
theorem dX0_draw_27 : decode cX0_draw 27 = .ok (.getfield 9, 3) := by decide +kernel
theorem dX0_draw_30 : decode cX0_draw 30 = .ok (.iload 5, 2) := by decide +kernel
theorem dX0_draw_32 : decode cX0_draw 32 = .ok (.iload 4, 2) := by decide +kernel
theorem dX0_draw_34 : decode cX0_draw 34 = .ok (.invokevirtual 33, 3) := by decide +kernel
theorem dX0_draw_37 : decode cX0_draw 37 = .ok (.ifCond .le 36, 3) := by decide +kernel
theorem dX0_draw_40 : decode cX0_draw 40 = .ok (.aload_n 0, 1) := by decide +kernel
theorem dX0_draw_41 : decode cX0_draw 41 = .ok (.iload 5, 2) := by decide +kernel
theorem dX0_draw_43 : decode cX0_draw 43 = .ok (.invokevirtual 39, 3) := by decide +kernel
theorem dX0_draw_46 : decode cX0_draw 46 = .ok (.ifCond .eq 27, 3) := by decide +kernel
theorem dX0_draw_49 : decode cX0_draw 49 = .ok (.aload_n 0, 1) := by decide +kernel
theorem dX0_draw_50 : decode cX0_draw 50 = .ok (.iload 4, 2) := by decide +kernel
theorem dX0_draw_52 : decode cX0_draw 52 = .ok (.invokevirtual 39, 3) := by decide +kernel
theorem dX0_draw_55 : decode cX0_draw 55 = .ok (.ifCond .eq 18, 3) := by decide +kernel
theorem dX0_draw_58 : decode cX0_draw 58 = .ok (.iload 5, 2) := by decide +kernel
theorem dX0_draw_60 : decode cX0_draw 60 = .ok (.iload 4, 2) := by decide +kernel
theorem dX0_draw_62 : decode cX0_draw 62 = .ok (.invokestatic 43, 3) := by decide +kernel
theorem dX0_draw_65 : decode cX0_draw 65 = .ok (.iload_n 3, 1) := by decide +kernel
theorem dX0_draw_66 : decode cX0_draw 66 = .ok (.if_icmp .eq 7, 3) := by decide +kernel
theorem dX0_draw_69 : decode cX0_draw 69 = .ok (.iconst 1, 1) := by decide +kernel
theorem dX0_draw_70 : decode cX0_draw 70 = .ok (.goto 4, 3) := by decide +kernel
theorem dX0_draw_73 : decode cX0_draw 73 = .ok (.iconst 0, 1) := by decide +kernel
theorem dX0_draw_74 : decode cX0_draw 74 = .ok (.istore 6, 2) := by decide +kernel
theorem dX0_draw_76 : decode cX0_draw 76 = .ok (.aload_n 0, 1) := by decide +kernel
theorem dX0_draw_77 : decode cX0_draw 77 = .ok (.getfield 26, 3) := by decide +kernel
theorem dX0_draw_80 : decode cX0_draw 80 = .ok (.iload 5, 2) := by decide +kernel
theorem dX0_draw_82 : decode cX0_draw 82 = .ok (.bipush 7, 2) := by decide +kernel
theorem dX0_draw_84 : decode cX0_draw 84 = .ok (.imul, 1) := by decide +kernel
theorem dX0_draw_85 : decode cX0_draw 85 = .ok (.iload 4, 2) := by decide +kernel
theorem dX0_draw_87 : decode cX0_draw 87 = .ok (.iadd, 1) := by decide +kernel
theorem dX0_draw_88 : decode cX0_draw 88 = .ok (.iload 6, 2) := by decide +kernel
theorem dX0_draw_90 : decode cX0_draw 90 = .ok (.ifCond .eq 16, 3) := by decide +kernel
theorem dX0_draw_93 : decode cX0_draw 93 = .ok (.aload_n 0, 1) := by decide +kernel
theorem dX0_draw_94 : decode cX0_draw 94 = .ok (.iload 5, 2) := by decide +kernel
theorem dX0_draw_96 : decode cX0_draw 96 = .ok (.iload 4, 2) := by decide +kernel
theorem dX0_draw_98 : decode cX0_draw 98 = .ok (.iload_n 1, 1) := by decide +kernel
theorem dX0_draw_99 : decode cX0_draw 99 = .ok (.iload_n 2, 1) := by decide +kernel
theorem dX0_draw_100 : decode cX0_draw 100 = .ok (.invokevirtual 46, 3) := by decide +kernel
theorem dX0_draw_103 : decode cX0_draw 103 = .ok (.goto 4, 3) := by decide +kernel
theorem dX0_draw_106 : decode cX0_draw 106 = .ok (.iconst 0, 1) := by decide +kernel
theorem dX0_draw_107 : decode cX0_draw 107 = .ok (.iastore, 1) := by decide +kernel
theorem dX0_draw_108 : decode cX0_draw 108 = .ok (.iinc 5 1, 3) := by decide +kernel
theorem dX0_draw_111 : decode cX0_draw 111 = .ok (.goto (-92), 3) := by decide +kernel
theorem dX0_draw_114 : decode cX0_draw 114 = .ok (.iinc 4 1, 3) := by decide +kernel
theorem dX0_draw_117 : decode cX0_draw 117 = .ok (.goto (-108), 3) := by decide +kernel
theorem dX0_draw_120 : decode cX0_draw 120 = .ok (.aload_n 0, 1) := by decide +kernel
theorem dX0_draw_121 : decode cX0_draw 121 = .ok (.invokevirtual 50, 3) := by decide +kernel
theorem dX0_draw_124 : decode cX0_draw 124 = .ok (.aload_n 0, 1) := by decide +kernel
theorem dX0_draw_125 : decode cX0_draw 125 = .ok (.iconst 1, 1) := by decide +kernel
theorem dX0_draw_126 : decode cX0_draw 126 = .ok (.putfield 53, 3) := by decide +kernel
theorem dX0_draw_129 : decode cX0_draw 129 = .ok (.iconst 0, 1) := by decide +kernel
theorem dX0_draw_130 : decode cX0_draw 130 = .ok (.istore 4, 2) := by decide +kernel
theorem dX0_draw_132 : decode cX0_draw 132 = .ok (.iload 4, 2) := by decide +kernel
theorem dX0_draw_134 : decode cX0_draw 134 = .ok (.bipush 7, 2) := by decide +kernel
theorem dX0_draw_136 : decode cX0_draw 136 = .ok (.if_icmp .ge 52, 3) := by decide +kernel
theorem dX0_draw_139 : decode cX0_draw 139 = .ok (.iconst 0, 1) := by decide +kernel
theorem dX0_draw_140 : decode cX0_draw 140 = .ok (.istore 5, 2) := by decide +kernel
theorem dX0_draw_142 : decode cX0_draw 142 = .ok (.iload 5, 2) := by decide +kernel
theorem dX0_draw_144 : decode cX0_draw 144 = .ok (.iload 4, 2) := by decide +kernel
theorem dX0_draw_146 : decode cX0_draw 146 = .ok (.if_icmp .ge 36, 3) := by decide +kernel
theorem dX0_draw_149 : decode cX0_draw 149 = .ok (.aload_n 0, 1) := by decide +kernel
theorem dX0_draw_150 : decode cX0_draw 150 = .ok (.aload_n 0, 1) := by decide +kernel
theorem dX0_draw_151 : decode cX0_draw 151 = .ok (.getfield 53, 3) := by decide +kernel
theorem dX0_draw_154 : decode cX0_draw 154 = .ok (.ifCond .eq 18, 3) := by decide +kernel
theorem dX0_draw_157 : decode cX0_draw 157 = .ok (.aload_n 0, 1) := by decide +kernel
theorem dX0_draw_158 : decode cX0_draw 158 = .ok (.iload 5, 2) := by decide +kernel
theorem dX0_draw_160 : decode cX0_draw 160 = .ok (.iload 4, 2) := by decide +kernel
theorem dX0_draw_162 : decode cX0_draw 162 = .ok (.invokevirtual 57, 3) := by decide +kernel
theorem dX0_draw_165 : decode cX0_draw 165 = .ok (.ifCond .eq 7, 3) := by decide +kernel
theorem dX0_draw_168 : decode cX0_draw 168 = .ok (.iconst 1, 1) := by decide +kernel
theorem dX0_draw_169 : decode cX0_draw 169 = .ok (.goto 4, 3) := by decide +kernel
theorem dX0_draw_172 : decode cX0_draw 172 = .ok (.iconst 0, 1) := by decide +kernel
theorem dX0_draw_173 : decode cX0_draw 173 = .ok (.putfield 53, 3) := by decide +kernel
theorem dX0_draw_176 : decode cX0_draw 176 = .ok (.iinc 5 1, 3) := by decide +kernel
theorem dX0_draw_179 : decode cX0_draw 179 = .ok (.goto (-37), 3) := by decide +kernel
theorem dX0_draw_182 : decode cX0_draw 182 = .ok (.iinc 4 1, 3) := by decide +kernel
theorem dX0_draw_185 : decode cX0_draw 185 = .ok (.goto (-53), 3) := by decide +kernel
theorem dX0_draw_188 : decode cX0_draw 188 = .ok (.return_, 1) := by decide +kernel
theorem dX0_ways_0 : decode cX0_ways 0 = .ok (.aload_n 0, 1) := by decide +kernel
theorem dX0_ways_1 : decode cX0_ways 1 = .ok (.getfield 53, 3) := by decide +kernel
theorem dX0_ways_4 : decode cX0_ways 4 = .ok (.ifCond .ne 5, 3) := by decide +kernel
theorem dX0_ways_7 : decode cX0_ways 7 = .ok (.iconst 0, 1) := by decide +kernel
theorem dX0_ways_8 : decode cX0_ways 8 = .ok (.ireturn, 1) := by decide +kernel
theorem dX0_ways_9 : decode cX0_ways 9 = .ok (.aload_n 0, 1) := by decide +kernel
theorem dX0_ways_10 : decode cX0_ways 10 = .ok (.getfield 61, 3) := by decide +kernel
theorem dX0_ways_13 : decode cX0_ways 13 = .ok (.iconst 1, 1) := by decide +kernel
theorem dX0_ways_14 : decode cX0_ways 14 = .ok (.if_icmp .le 14, 3) := by decide +kernel
theorem dX0_ways_17 : decode cX0_ways 17 = .ok (.iconst 1, 1) := by decide +kernel
theorem dX0_ways_18 : decode cX0_ways 18 = .ok (.aload_n 0, 1) := by decide +kernel
theorem dX0_ways_19 : decode cX0_ways 19 = .ok (.getfield 61, 3) := by decide +kernel
theorem dX0_ways_22 : decode cX0_ways 22 = .ok (.iconst 1, 1) := by decide +kernel
theorem dX0_ways_23 : decode cX0_ways 23 = .ok (.isub, 1) := by decide +kernel
theorem dX0_ways_24 : decode cX0_ways 24 = .ok (.ishl, 1) := by decide +kernel
theorem dX0_ways_25 : decode cX0_ways 25 = .ok (.goto 4, 3) := by decide +kernel
theorem dX0_ways_28 : decode cX0_ways 28 = .ok (.iconst 1, 1) := by decide +kernel
theorem dX0_ways_29 : decode cX0_ways 29 = .ok (.ireturn, 1) := by decide +kernel
theorem dX0_isLaid_0 : decode cX0_isLaid 0 = .ok (.aload_n 0, 1) := by decide +kernel
theorem dX0_isLaid_1 : decode cX0_isLaid 1 = .ok (.getfield 65, 3) := by decide +kernel
theorem dX0_isLaid_4 : decode cX0_isLaid 4 = .ok (.iload_n 1, 1) := by decide +kernel
theorem dX0_isLaid_5 : decode cX0_isLaid 5 = .ok (.invokestatic 68, 3) := by decide +kernel
theorem dX0_isLaid_8 : decode cX0_isLaid 8 = .ok (.ireturn, 1) := by decide +kernel
theorem dX0_sideOf_0 : decode cX0_sideOf 0 = .ok (.iload_n 1, 1) := by decide +kernel
theorem dX0_sideOf_1 : decode cX0_sideOf 1 = .ok (.ifCond .lt 18, 3) := by decide +kernel
theorem dX0_sideOf_4 : decode cX0_sideOf 4 = .ok (.iload_n 1, 1) := by decide +kernel
theorem dX0_sideOf_5 : decode cX0_sideOf 5 = .ok (.bipush 7, 2) := by decide +kernel
theorem dX0_sideOf_7 : decode cX0_sideOf 7 = .ok (.if_icmp .ge 12, 3) := by decide +kernel
theorem dX0_sideOf_10 : decode cX0_sideOf 10 = .ok (.aload_n 0, 1) := by decide +kernel
theorem dX0_sideOf_11 : decode cX0_sideOf 11 = .ok (.getfield 22, 3) := by decide +kernel
theorem dX0_sideOf_14 : decode cX0_sideOf 14 = .ok (.iload_n 1, 1) := by decide +kernel
theorem dX0_sideOf_15 : decode cX0_sideOf 15 = .ok (.iaload, 1) := by decide +kernel
theorem dX0_sideOf_16 : decode cX0_sideOf 16 = .ok (.goto 4, 3) := by decide +kernel
theorem dX0_sideOf_19 : decode cX0_sideOf 19 = .ok (.iconst 0, 1) := by decide +kernel
theorem dX0_sideOf_20 : decode cX0_sideOf 20 = .ok (.ireturn, 1) := by decide +kernel
theorem dX0_layPlaces_0 : decode cX0_layPlaces 0 = .ok (.aload_n 0, 1) := by decide +kernel
theorem dX0_layPlaces_1 : decode cX0_layPlaces 1 = .ok (.iconst 0, 1) := by decide +kernel
theorem dX0_layPlaces_2 : decode cX0_layPlaces 2 = .ok (.putfield 65, 3) := by decide +kernel
theorem dX0_layPlaces_5 : decode cX0_layPlaces 5 = .ok (.aload_n 0, 1) := by decide +kernel
theorem dX0_layPlaces_6 : decode cX0_layPlaces 6 = .ok (.iconst 0, 1) := by decide +kernel
theorem dX0_layPlaces_7 : decode cX0_layPlaces 7 = .ok (.putfield 71, 3) := by decide +kernel
theorem dX0_layPlaces_10 : decode cX0_layPlaces 10 = .ok (.iconst 0, 1) := by decide +kernel
theorem dX0_layPlaces_11 : decode cX0_layPlaces 11 = .ok (.istore_n 3, 1) := by decide +kernel
theorem dX0_layPlaces_12 : decode cX0_layPlaces 12 = .ok (.iload_n 3, 1) := by decide +kernel
theorem dX0_layPlaces_13 : decode cX0_layPlaces 13 = .ok (.aload_n 0, 1) := by decide +kernel
theorem dX0_layPlaces_14 : decode cX0_layPlaces 14 = .ok (.getfield 9, 3) := by decide +kernel
theorem dX0_layPlaces_17 : decode cX0_layPlaces 17 = .ok (.getfield 74, 3) := by decide +kernel
theorem dX0_layPlaces_20 : decode cX0_layPlaces 20 = .ok (.if_icmp .ge 75, 3) := by decide +kernel
theorem dX0_layPlaces_23 : decode cX0_layPlaces 23 = .ok (.aload_n 0, 1) := by decide +kernel
theorem dX0_layPlaces_24 : decode cX0_layPlaces 24 = .ok (.getfield 9, 3) := by decide +kernel
theorem dX0_layPlaces_27 : decode cX0_layPlaces 27 = .ok (.iload_n 1, 1) := by decide +kernel
theorem dX0_layPlaces_28 : decode cX0_layPlaces 28 = .ok (.iload_n 2, 1) := by decide +kernel
theorem dX0_layPlaces_29 : decode cX0_layPlaces 29 = .ok (.iload_n 3, 1) := by decide +kernel
theorem dX0_layPlaces_30 : decode cX0_layPlaces 30 = .ok (.invokevirtual 77, 3) := by decide +kernel
theorem dX0_layPlaces_33 : decode cX0_layPlaces 33 = .ok (.ifCond .ne 6, 3) := by decide +kernel
theorem dX0_layPlaces_36 : decode cX0_layPlaces 36 = .ok (.goto 53, 3) := by decide +kernel
theorem dX0_layPlaces_39 : decode cX0_layPlaces 39 = .ok (.aload_n 0, 1) := by decide +kernel
theorem dX0_layPlaces_40 : decode cX0_layPlaces 40 = .ok (.getfield 9, 3) := by decide +kernel
theorem dX0_layPlaces_43 : decode cX0_layPlaces 43 = .ok (.iload_n 1, 1) := by decide +kernel
theorem dX0_layPlaces_44 : decode cX0_layPlaces 44 = .ok (.iload_n 2, 1) := by decide +kernel
theorem dX0_layPlaces_45 : decode cX0_layPlaces 45 = .ok (.iload_n 3, 1) := by decide +kernel
theorem dX0_layPlaces_46 : decode cX0_layPlaces 46 = .ok (.invokevirtual 81, 3) := by decide +kernel
theorem dX0_layPlaces_49 : decode cX0_layPlaces 49 = .ok (.lstore 4, 2) := by decide +kernel
theorem dX0_layPlaces_51 : decode cX0_layPlaces 51 = .ok (.lload 4, 2) := by decide +kernel
theorem dX0_layPlaces_53 : decode cX0_layPlaces 53 = .ok (.lconst 0, 1) := by decide +kernel
theorem dX0_layPlaces_54 : decode cX0_layPlaces 54 = .ok (.lcmp, 1) := by decide +kernel
theorem dX0_layPlaces_55 : decode cX0_layPlaces 55 = .ok (.ifCond .lt 15, 3) := by decide +kernel
theorem dX0_layPlaces_58 : decode cX0_layPlaces 58 = .ok (.aload_n 0, 1) := by decide +kernel
theorem dX0_layPlaces_59 : decode cX0_layPlaces 59 = .ok (.dup, 1) := by decide +kernel
theorem dX0_layPlaces_60 : decode cX0_layPlaces 60 = .ok (.getfield 65, 3) := by decide +kernel
theorem dX0_layPlaces_63 : decode cX0_layPlaces 63 = .ok (.iconst 1, 1) := by decide +kernel
theorem dX0_layPlaces_64 : decode cX0_layPlaces 64 = .ok (.iload_n 3, 1) := by decide +kernel
theorem dX0_layPlaces_65 : decode cX0_layPlaces 65 = .ok (.ishl, 1) := by decide +kernel
theorem dX0_layPlaces_66 : decode cX0_layPlaces 66 = .ok (.ior, 1) := by decide +kernel
theorem dX0_layPlaces_67 : decode cX0_layPlaces 67 = .ok (.putfield 65, 3) := by decide +kernel
theorem dX0_layPlaces_70 : decode cX0_layPlaces 70 = .ok (.lload 4, 2) := by decide +kernel
theorem dX0_layPlaces_72 : decode cX0_layPlaces 72 = .ok (.lconst 0, 1) := by decide +kernel
theorem dX0_layPlaces_73 : decode cX0_layPlaces 73 = .ok (.lcmp, 1) := by decide +kernel
theorem dX0_layPlaces_74 : decode cX0_layPlaces 74 = .ok (.ifCond .le 15, 3) := by decide +kernel
theorem dX0_layPlaces_77 : decode cX0_layPlaces 77 = .ok (.aload_n 0, 1) := by decide +kernel
theorem dX0_layPlaces_78 : decode cX0_layPlaces 78 = .ok (.dup, 1) := by decide +kernel
theorem dX0_layPlaces_79 : decode cX0_layPlaces 79 = .ok (.getfield 71, 3) := by decide +kernel
theorem dX0_layPlaces_82 : decode cX0_layPlaces 82 = .ok (.iconst 1, 1) := by decide +kernel
theorem dX0_layPlaces_83 : decode cX0_layPlaces 83 = .ok (.iload_n 3, 1) := by decide +kernel
theorem dX0_layPlaces_84 : decode cX0_layPlaces 84 = .ok (.ishl, 1) := by decide +kernel
theorem dX0_layPlaces_85 : decode cX0_layPlaces 85 = .ok (.ior, 1) := by decide +kernel
theorem dX0_layPlaces_86 : decode cX0_layPlaces 86 = .ok (.putfield 71, 3) := by decide +kernel
theorem dX0_layPlaces_89 : decode cX0_layPlaces 89 = .ok (.iinc 3 1, 3) := by decide +kernel
theorem dX0_layPlaces_92 : decode cX0_layPlaces 92 = .ok (.goto (-80), 3) := by decide +kernel
theorem dX0_layPlaces_95 : decode cX0_layPlaces 95 = .ok (.return_, 1) := by decide +kernel
theorem dX0_bondOf_0 : decode cX0_bondOf 0 = .ok (.aload_n 0, 1) := by decide +kernel
theorem dX0_bondOf_1 : decode cX0_bondOf 1 = .ok (.getfield 18, 3) := by decide +kernel
theorem dX0_bondOf_4 : decode cX0_bondOf 4 = .ok (.aload_n 0, 1) := by decide +kernel
theorem dX0_bondOf_5 : decode cX0_bondOf 5 = .ok (.getfield 9, 3) := by decide +kernel
theorem dX0_bondOf_8 : decode cX0_bondOf 8 = .ok (.iload_n 1, 1) := by decide +kernel
theorem dX0_bondOf_9 : decode cX0_bondOf 9 = .ok (.iload_n 2, 1) := by decide +kernel
theorem dX0_bondOf_10 : decode cX0_bondOf 10 = .ok (.iload_n 3, 1) := by decide +kernel
theorem dX0_bondOf_11 : decode cX0_bondOf 11 = .ok (.iload 4, 2) := by decide +kernel
theorem dX0_bondOf_13 : decode cX0_bondOf 13 = .ok (.invokevirtual 85, 3) := by decide +kernel
theorem dX0_bondOf_16 : decode cX0_bondOf 16 = .ok (.aload_n 0, 1) := by decide +kernel
theorem dX0_bondOf_17 : decode cX0_bondOf 17 = .ok (.getfield 18, 3) := by decide +kernel
theorem dX0_bondOf_20 : decode cX0_bondOf 20 = .ok (.getfield 89, 3) := by decide +kernel
theorem dX0_bondOf_23 : decode cX0_bondOf 23 = .ok (.aload_n 0, 1) := by decide +kernel
theorem dX0_bondOf_24 : decode cX0_bondOf 24 = .ok (.getfield 18, 3) := by decide +kernel
theorem dX0_bondOf_27 : decode cX0_bondOf 27 = .ok (.getfield 93, 3) := by decide +kernel
theorem dX0_bondOf_30 : decode cX0_bondOf 30 = .ok (.aload_n 0, 1) := by decide +kernel
theorem dX0_bondOf_31 : decode cX0_bondOf 31 = .ok (.getfield 9, 3) := by decide +kernel
theorem dX0_bondOf_34 : decode cX0_bondOf 34 = .ok (.iload_n 1, 1) := by decide +kernel
theorem dX0_bondOf_35 : decode cX0_bondOf 35 = .ok (.iload_n 2, 1) := by decide +kernel
theorem dX0_bondOf_36 : decode cX0_bondOf 36 = .ok (.invokevirtual 33, 3) := by decide +kernel
theorem dX0_bondOf_39 : decode cX0_bondOf 39 = .ok (.i2l, 1) := by decide +kernel
theorem dX0_bondOf_40 : decode cX0_bondOf 40 = .ok (.lmul, 1) := by decide +kernel
theorem dX0_bondOf_41 : decode cX0_bondOf 41 = .ok (.lsub, 1) := by decide +kernel
theorem dX0_bondOf_42 : decode cX0_bondOf 42 = .ok (.lstore 5, 2) := by decide +kernel
theorem dX0_bondOf_44 : decode cX0_bondOf 44 = .ok (.lload 5, 2) := by decide +kernel
theorem dX0_bondOf_46 : decode cX0_bondOf 46 = .ok (.lload 5, 2) := by decide +kernel
theorem dX0_bondOf_48 : decode cX0_bondOf 48 = .ok (.lmul, 1) := by decide +kernel
theorem dX0_bondOf_49 : decode cX0_bondOf 49 = .ok (.aload_n 0, 1) := by decide +kernel
theorem dX0_bondOf_50 : decode cX0_bondOf 50 = .ok (.getfield 18, 3) := by decide +kernel
theorem dX0_bondOf_53 : decode cX0_bondOf 53 = .ok (.getfield 96, 3) := by decide +kernel
theorem dX0_bondOf_56 : decode cX0_bondOf 56 = .ok (.lcmp, 1) := by decide +kernel
theorem dX0_bondOf_57 : decode cX0_bondOf 57 = .ok (.ifCond .eq 5, 3) := by decide +kernel
theorem dX0_bondOf_60 : decode cX0_bondOf 60 = .ok (.iconst 1, 1) := by decide +kernel
theorem dX0_bondOf_61 : decode cX0_bondOf 61 = .ok (.ireturn, 1) := by decide +kernel
theorem dX0_bondOf_62 : decode cX0_bondOf 62 = .ok (.lload 5, 2) := by decide +kernel
theorem dX0_bondOf_64 : decode cX0_bondOf 64 = .ok (.lconst 0, 1) := by decide +kernel
theorem dX0_bondOf_65 : decode cX0_bondOf 65 = .ok (.lcmp, 1) := by decide +kernel
theorem dX0_bondOf_66 : decode cX0_bondOf 66 = .ok (.ifCond .ne 5, 3) := by decide +kernel
theorem dX0_bondOf_69 : decode cX0_bondOf 69 = .ok (.iconst 4, 1) := by decide +kernel
theorem dX0_bondOf_70 : decode cX0_bondOf 70 = .ok (.ireturn, 1) := by decide +kernel
theorem dX0_bondOf_71 : decode cX0_bondOf 71 = .ok (.lload 5, 2) := by decide +kernel
theorem dX0_bondOf_73 : decode cX0_bondOf 73 = .ok (.lconst 0, 1) := by decide +kernel
theorem dX0_bondOf_74 : decode cX0_bondOf 74 = .ok (.lcmp, 1) := by decide +kernel
theorem dX0_bondOf_75 : decode cX0_bondOf 75 = .ok (.ifCond .le 7, 3) := by decide +kernel
theorem dX0_bondOf_78 : decode cX0_bondOf 78 = .ok (.iconst 2, 1) := by decide +kernel
theorem dX0_bondOf_79 : decode cX0_bondOf 79 = .ok (.goto 4, 3) := by decide +kernel
theorem dX0_bondOf_82 : decode cX0_bondOf 82 = .ok (.iconst 3, 1) := by decide +kernel
theorem dX0_bondOf_83 : decode cX0_bondOf 83 = .ok (.ireturn, 1) := by decide +kernel
theorem dX0_findGroups_0 : decode cX0_findGroups 0 = .ok (.aload_n 0, 1) := by decide +kernel
theorem dX0_findGroups_1 : decode cX0_findGroups 1 = .ok (.getfield 22, 3) := by decide +kernel
theorem dX0_findGroups_4 : decode cX0_findGroups 4 = .ok (.iconst 0, 1) := by decide +kernel
theorem dX0_findGroups_5 : decode cX0_findGroups 5 = .ok (.invokestatic 99, 3) := by decide +kernel
theorem dX0_findGroups_8 : decode cX0_findGroups 8 = .ok (.aload_n 0, 1) := by decide +kernel
theorem dX0_findGroups_9 : decode cX0_findGroups 9 = .ok (.iconst 0, 1) := by decide +kernel
theorem dX0_findGroups_10 : decode cX0_findGroups 10 = .ok (.putfield 61, 3) := by decide +kernel
theorem dX0_findGroups_13 : decode cX0_findGroups 13 = .ok (.iconst 0, 1) := by decide +kernel
theorem dX0_findGroups_14 : decode cX0_findGroups 14 = .ok (.istore_n 1, 1) := by decide +kernel
theorem dX0_findGroups_15 : decode cX0_findGroups 15 = .ok (.iload_n 1, 1) := by decide +kernel
theorem dX0_findGroups_16 : decode cX0_findGroups 16 = .ok (.bipush 7, 2) := by decide +kernel
theorem dX0_findGroups_18 : decode cX0_findGroups 18 = .ok (.if_icmp .ge 50, 3) := by decide +kernel
theorem dX0_findGroups_21 : decode cX0_findGroups 21 = .ok (.aload_n 0, 1) := by decide +kernel
theorem dX0_findGroups_22 : decode cX0_findGroups 22 = .ok (.getfield 71, 3) := by decide +kernel
theorem dX0_findGroups_25 : decode cX0_findGroups 25 = .ok (.iload_n 1, 1) := by decide +kernel
theorem dX0_findGroups_26 : decode cX0_findGroups 26 = .ok (.invokestatic 68, 3) := by decide +kernel
theorem dX0_findGroups_29 : decode cX0_findGroups 29 = .ok (.ifCond .eq 33, 3) := by decide +kernel
theorem dX0_findGroups_32 : decode cX0_findGroups 32 = .ok (.aload_n 0, 1) := by decide +kernel
theorem dX0_findGroups_33 : decode cX0_findGroups 33 = .ok (.getfield 22, 3) := by decide +kernel
theorem dX0_findGroups_36 : decode cX0_findGroups 36 = .ok (.iload_n 1, 1) := by decide +kernel
theorem dX0_findGroups_37 : decode cX0_findGroups 37 = .ok (.iaload, 1) := by decide +kernel
theorem dX0_findGroups_38 : decode cX0_findGroups 38 = .ok (.ifCond .ne 24, 3) := by decide +kernel
theorem dX0_findGroups_41 : decode cX0_findGroups 41 = .ok (.aload_n 0, 1) := by decide +kernel
theorem dX0_findGroups_42 : decode cX0_findGroups 42 = .ok (.dup, 1) := by decide +kernel
theorem dX0_findGroups_43 : decode cX0_findGroups 43 = .ok (.getfield 61, 3) := by decide +kernel
theorem dX0_findGroups_46 : decode cX0_findGroups 46 = .ok (.iconst 1, 1) := by decide +kernel
theorem dX0_findGroups_47 : decode cX0_findGroups 47 = .ok (.iadd, 1) := by decide +kernel
theorem dX0_findGroups_48 : decode cX0_findGroups 48 = .ok (.putfield 61, 3) := by decide +kernel
theorem dX0_findGroups_51 : decode cX0_findGroups 51 = .ok (.aload_n 0, 1) := by decide +kernel
theorem dX0_findGroups_52 : decode cX0_findGroups 52 = .ok (.getfield 22, 3) := by decide +kernel
theorem dX0_findGroups_55 : decode cX0_findGroups 55 = .ok (.iload_n 1, 1) := by decide +kernel
theorem dX0_findGroups_56 : decode cX0_findGroups 56 = .ok (.iconst 1, 1) := by decide +kernel
theorem dX0_findGroups_57 : decode cX0_findGroups 57 = .ok (.iastore, 1) := by decide +kernel
theorem dX0_findGroups_58 : decode cX0_findGroups 58 = .ok (.aload_n 0, 1) := by decide +kernel
theorem dX0_findGroups_59 : decode cX0_findGroups 59 = .ok (.invokevirtual 105, 3) := by decide +kernel
theorem dX0_findGroups_62 : decode cX0_findGroups 62 = .ok (.iinc 1 1, 3) := by decide +kernel
theorem dX0_findGroups_65 : decode cX0_findGroups 65 = .ok (.goto (-50), 3) := by decide +kernel
theorem dX0_findGroups_68 : decode cX0_findGroups 68 = .ok (.return_, 1) := by decide +kernel
theorem dX0_spreadSides_0 : decode cX0_spreadSides 0 = .ok (.iconst 0, 1) := by decide +kernel
theorem dX0_spreadSides_1 : decode cX0_spreadSides 1 = .ok (.istore_n 1, 1) := by decide +kernel
theorem dX0_spreadSides_2 : decode cX0_spreadSides 2 = .ok (.iload_n 1, 1) := by decide +kernel
theorem dX0_spreadSides_3 : decode cX0_spreadSides 3 = .ok (.bipush 7, 2) := by decide +kernel
theorem dX0_spreadSides_5 : decode cX0_spreadSides 5 = .ok (.if_icmp .ge 113, 3) := by decide +kernel
theorem dX0_spreadSides_8 : decode cX0_spreadSides 8 = .ok (.iconst 0, 1) := by decide +kernel
theorem dX0_spreadSides_9 : decode cX0_spreadSides 9 = .ok (.istore_n 2, 1) := by decide +kernel
theorem dX0_spreadSides_10 : decode cX0_spreadSides 10 = .ok (.iload_n 2, 1) := by decide +kernel
theorem dX0_spreadSides_11 : decode cX0_spreadSides 11 = .ok (.bipush 7, 2) := by decide +kernel
theorem dX0_spreadSides_13 : decode cX0_spreadSides 13 = .ok (.if_icmp .ge 99, 3) := by decide +kernel
theorem dX0_spreadSides_16 : decode cX0_spreadSides 16 = .ok (.iconst 0, 1) := by decide +kernel
theorem dX0_spreadSides_17 : decode cX0_spreadSides 17 = .ok (.istore_n 3, 1) := by decide +kernel
theorem dX0_spreadSides_18 : decode cX0_spreadSides 18 = .ok (.iload_n 3, 1) := by decide +kernel
theorem dX0_spreadSides_19 : decode cX0_spreadSides 19 = .ok (.bipush 7, 2) := by decide +kernel
theorem dX0_spreadSides_21 : decode cX0_spreadSides 21 = .ok (.if_icmp .ge 85, 3) := by decide +kernel
theorem dX0_spreadSides_24 : decode cX0_spreadSides 24 = .ok (.aload_n 0, 1) := by decide +kernel
theorem dX0_spreadSides_25 : decode cX0_spreadSides 25 = .ok (.getfield 26, 3) := by decide +kernel
theorem dX0_spreadSides_28 : decode cX0_spreadSides 28 = .ok (.iload_n 2, 1) := by decide +kernel
theorem dX0_spreadSides_29 : decode cX0_spreadSides 29 = .ok (.bipush 7, 2) := by decide +kernel
theorem dX0_spreadSides_31 : decode cX0_spreadSides 31 = .ok (.imul, 1) := by decide +kernel
theorem dX0_spreadSides_32 : decode cX0_spreadSides 32 = .ok (.iload_n 3, 1) := by decide +kernel
theorem dX0_spreadSides_33 : decode cX0_spreadSides 33 = .ok (.iadd, 1) := by decide +kernel
theorem dX0_spreadSides_34 : decode cX0_spreadSides 34 = .ok (.iaload, 1) := by decide +kernel
theorem dX0_spreadSides_35 : decode cX0_spreadSides 35 = .ok (.istore 4, 2) := by decide +kernel
theorem dX0_spreadSides_37 : decode cX0_spreadSides 37 = .ok (.iload 4, 2) := by decide +kernel
theorem dX0_spreadSides_39 : decode cX0_spreadSides 39 = .ok (.ifCond .eq 61, 3) := by decide +kernel
theorem dX0_spreadSides_42 : decode cX0_spreadSides 42 = .ok (.aload_n 0, 1) := by decide +kernel
theorem dX0_spreadSides_43 : decode cX0_spreadSides 43 = .ok (.getfield 22, 3) := by decide +kernel
theorem dX0_spreadSides_46 : decode cX0_spreadSides 46 = .ok (.iload_n 2, 1) := by decide +kernel
theorem dX0_spreadSides_47 : decode cX0_spreadSides 47 = .ok (.iaload, 1) := by decide +kernel
theorem dX0_spreadSides_48 : decode cX0_spreadSides 48 = .ok (.ifCond .eq 52, 3) := by decide +kernel
theorem dX0_spreadSides_51 : decode cX0_spreadSides 51 = .ok (.aload_n 0, 1) := by decide +kernel
theorem dX0_spreadSides_52 : decode cX0_spreadSides 52 = .ok (.getfield 22, 3) := by decide +kernel
theorem dX0_spreadSides_55 : decode cX0_spreadSides 55 = .ok (.iload_n 3, 1) := by decide +kernel
theorem dX0_spreadSides_56 : decode cX0_spreadSides 56 = .ok (.iaload, 1) := by decide +kernel
theorem dX0_spreadSides_57 : decode cX0_spreadSides 57 = .ok (.ifCond .ne 43, 3) := by decide +kernel
theorem dX0_spreadSides_60 : decode cX0_spreadSides 60 = .ok (.aload_n 0, 1) := by decide +kernel
theorem dX0_spreadSides_61 : decode cX0_spreadSides 61 = .ok (.getfield 71, 3) := by decide +kernel
theorem dX0_spreadSides_64 : decode cX0_spreadSides 64 = .ok (.iload_n 3, 1) := by decide +kernel
theorem dX0_spreadSides_65 : decode cX0_spreadSides 65 = .ok (.invokestatic 68, 3) := by decide +kernel
theorem dX0_spreadSides_68 : decode cX0_spreadSides 68 = .ok (.ifCond .eq 32, 3) := by decide +kernel
theorem dX0_spreadSides_71 : decode cX0_spreadSides 71 = .ok (.aload_n 0, 1) := by decide +kernel
theorem dX0_spreadSides_72 : decode cX0_spreadSides 72 = .ok (.getfield 22, 3) := by decide +kernel
theorem dX0_spreadSides_75 : decode cX0_spreadSides 75 = .ok (.iload_n 3, 1) := by decide +kernel
theorem dX0_spreadSides_76 : decode cX0_spreadSides 76 = .ok (.iload 4, 2) := by decide +kernel
theorem dX0_spreadSides_78 : decode cX0_spreadSides 78 = .ok (.iconst 3, 1) := by decide +kernel
theorem dX0_spreadSides_79 : decode cX0_spreadSides 79 = .ok (.if_icmp .ne 14, 3) := by decide +kernel
theorem dX0_spreadSides_82 : decode cX0_spreadSides 82 = .ok (.iconst 3, 1) := by decide +kernel
theorem dX0_spreadSides_83 : decode cX0_spreadSides 83 = .ok (.aload_n 0, 1) := by decide +kernel
theorem dX0_spreadSides_84 : decode cX0_spreadSides 84 = .ok (.getfield 22, 3) := by decide +kernel
theorem dX0_spreadSides_87 : decode cX0_spreadSides 87 = .ok (.iload_n 2, 1) := by decide +kernel
theorem dX0_spreadSides_88 : decode cX0_spreadSides 88 = .ok (.iaload, 1) := by decide +kernel
theorem dX0_spreadSides_89 : decode cX0_spreadSides 89 = .ok (.isub, 1) := by decide +kernel
theorem dX0_spreadSides_90 : decode cX0_spreadSides 90 = .ok (.goto 9, 3) := by decide +kernel
theorem dX0_spreadSides_93 : decode cX0_spreadSides 93 = .ok (.aload_n 0, 1) := by decide +kernel
theorem dX0_spreadSides_94 : decode cX0_spreadSides 94 = .ok (.getfield 22, 3) := by decide +kernel
theorem dX0_spreadSides_97 : decode cX0_spreadSides 97 = .ok (.iload_n 2, 1) := by decide +kernel
theorem dX0_spreadSides_98 : decode cX0_spreadSides 98 = .ok (.iaload, 1) := by decide +kernel
theorem dX0_spreadSides_99 : decode cX0_spreadSides 99 = .ok (.iastore, 1) := by decide +kernel
theorem dX0_spreadSides_100 : decode cX0_spreadSides 100 = .ok (.iinc 3 1, 3) := by decide +kernel
theorem dX0_spreadSides_103 : decode cX0_spreadSides 103 = .ok (.goto (-85), 3) := by decide +kernel
theorem dX0_spreadSides_106 : decode cX0_spreadSides 106 = .ok (.iinc 2 1, 3) := by decide +kernel
theorem dX0_spreadSides_109 : decode cX0_spreadSides 109 = .ok (.goto (-99), 3) := by decide +kernel
theorem dX0_spreadSides_112 : decode cX0_spreadSides 112 = .ok (.iinc 1 1, 3) := by decide +kernel
theorem dX0_spreadSides_115 : decode cX0_spreadSides 115 = .ok (.goto (-113), 3) := by decide +kernel
theorem dX0_spreadSides_118 : decode cX0_spreadSides 118 = .ok (.return_, 1) := by decide +kernel
theorem dX0_holds_0 : decode cX0_holds 0 = .ok (.aload_n 0, 1) := by decide +kernel
theorem dX0_holds_1 : decode cX0_holds 1 = .ok (.getfield 26, 3) := by decide +kernel
theorem dX0_holds_4 : decode cX0_holds 4 = .ok (.iload_n 1, 1) := by decide +kernel
theorem dX0_holds_5 : decode cX0_holds 5 = .ok (.bipush 7, 2) := by decide +kernel
theorem dX0_holds_7 : decode cX0_holds 7 = .ok (.imul, 1) := by decide +kernel
theorem dX0_holds_8 : decode cX0_holds 8 = .ok (.iload_n 2, 1) := by decide +kernel
theorem dX0_holds_9 : decode cX0_holds 9 = .ok (.iadd, 1) := by decide +kernel
theorem dX0_holds_10 : decode cX0_holds 10 = .ok (.iaload, 1) := by decide +kernel
theorem dX0_holds_11 : decode cX0_holds 11 = .ok (.tableswitch 69 1 3 #[25, 27, 48], 25) := by decide +kernel
theorem dX0_holds_36 : decode cX0_holds 36 = .ok (.iconst 0, 1) := by decide +kernel
theorem dX0_holds_37 : decode cX0_holds 37 = .ok (.ireturn, 1) := by decide +kernel
theorem dX0_holds_38 : decode cX0_holds 38 = .ok (.aload_n 0, 1) := by decide +kernel
theorem dX0_holds_39 : decode cX0_holds 39 = .ok (.getfield 22, 3) := by decide +kernel
theorem dX0_holds_42 : decode cX0_holds 42 = .ok (.iload_n 1, 1) := by decide +kernel
theorem dX0_holds_43 : decode cX0_holds 43 = .ok (.iaload, 1) := by decide +kernel
theorem dX0_holds_44 : decode cX0_holds 44 = .ok (.aload_n 0, 1) := by decide +kernel
theorem dX0_holds_45 : decode cX0_holds 45 = .ok (.getfield 22, 3) := by decide +kernel
theorem dX0_holds_48 : decode cX0_holds 48 = .ok (.iload_n 2, 1) := by decide +kernel
theorem dX0_holds_49 : decode cX0_holds 49 = .ok (.iaload, 1) := by decide +kernel
theorem dX0_holds_50 : decode cX0_holds 50 = .ok (.if_icmp .ne 7, 3) := by decide +kernel
theorem dX0_holds_53 : decode cX0_holds 53 = .ok (.iconst 1, 1) := by decide +kernel
theorem dX0_holds_54 : decode cX0_holds 54 = .ok (.goto 4, 3) := by decide +kernel
theorem dX0_holds_57 : decode cX0_holds 57 = .ok (.iconst 0, 1) := by decide +kernel
theorem dX0_holds_58 : decode cX0_holds 58 = .ok (.ireturn, 1) := by decide +kernel
theorem dX0_holds_59 : decode cX0_holds 59 = .ok (.aload_n 0, 1) := by decide +kernel
theorem dX0_holds_60 : decode cX0_holds 60 = .ok (.getfield 22, 3) := by decide +kernel
theorem dX0_holds_63 : decode cX0_holds 63 = .ok (.iload_n 1, 1) := by decide +kernel
theorem dX0_holds_64 : decode cX0_holds 64 = .ok (.iaload, 1) := by decide +kernel
theorem dX0_holds_65 : decode cX0_holds 65 = .ok (.aload_n 0, 1) := by decide +kernel
theorem dX0_holds_66 : decode cX0_holds 66 = .ok (.getfield 22, 3) := by decide +kernel
theorem dX0_holds_69 : decode cX0_holds 69 = .ok (.iload_n 2, 1) := by decide +kernel
theorem dX0_holds_70 : decode cX0_holds 70 = .ok (.iaload, 1) := by decide +kernel
theorem dX0_holds_71 : decode cX0_holds 71 = .ok (.if_icmp .eq 7, 3) := by decide +kernel
theorem dX0_holds_74 : decode cX0_holds 74 = .ok (.iconst 1, 1) := by decide +kernel
theorem dX0_holds_75 : decode cX0_holds 75 = .ok (.goto 4, 3) := by decide +kernel
theorem dX0_holds_78 : decode cX0_holds 78 = .ok (.iconst 0, 1) := by decide +kernel
theorem dX0_holds_79 : decode cX0_holds 79 = .ok (.ireturn, 1) := by decide +kernel
theorem dX0_holds_80 : decode cX0_holds 80 = .ok (.iconst 1, 1) := by decide +kernel
theorem dX0_holds_81 : decode cX0_holds 81 = .ok (.ireturn, 1) := by decide +kernel
theorem dX1_init_0 : decode cX1_init 0 = .ok (.aload_n 0, 1) := by decide +kernel
theorem dX1_init_1 : decode cX1_init 1 = .ok (.invokespecial 3, 3) := by decide +kernel
theorem dX1_init_4 : decode cX1_init 4 = .ok (.aload_n 0, 1) := by decide +kernel
theorem dX1_init_5 : decode cX1_init 5 = .ok (.bipush 70, 2) := by decide +kernel
theorem dX1_init_7 : decode cX1_init 7 = .ok (.newarray .int, 2) := by decide +kernel
theorem dX1_init_9 : decode cX1_init 9 = .ok (.putfield 11, 3) := by decide +kernel
theorem dX1_init_12 : decode cX1_init 12 = .ok (.return_, 1) := by decide +kernel
theorem dX1_lookAt_0 : decode cX1_lookAt 0 = .ok (.aload_n 0, 1) := by decide +kernel
theorem dX1_lookAt_1 : decode cX1_lookAt 1 = .ok (.iconst 0, 1) := by decide +kernel
theorem dX1_lookAt_2 : decode cX1_lookAt 2 = .ok (.putfield 15, 3) := by decide +kernel
theorem dX1_lookAt_5 : decode cX1_lookAt 5 = .ok (.aload_n 0, 1) := by decide +kernel
theorem dX1_lookAt_6 : decode cX1_lookAt 6 = .ok (.iconst 0, 1) := by decide +kernel
theorem dX1_lookAt_7 : decode cX1_lookAt 7 = .ok (.putfield 19, 3) := by decide +kernel
theorem dX1_lookAt_10 : decode cX1_lookAt 10 = .ok (.aload_n 0, 1) := by decide +kernel
theorem dX1_lookAt_11 : decode cX1_lookAt 11 = .ok (.iconst 0, 1) := by decide +kernel
theorem dX1_lookAt_12 : decode cX1_lookAt 12 = .ok (.putfield 22, 3) := by decide +kernel
theorem dX1_lookAt_15 : decode cX1_lookAt 15 = .ok (.aload_n 0, 1) := by decide +kernel
theorem dX1_lookAt_16 : decode cX1_lookAt 16 = .ok (.iconst 0, 1) := by decide +kernel
theorem dX1_lookAt_17 : decode cX1_lookAt 17 = .ok (.putfield 25, 3) := by decide +kernel
theorem dX1_lookAt_20 : decode cX1_lookAt 20 = .ok (.aload_n 0, 1) := by decide +kernel
theorem dX1_lookAt_21 : decode cX1_lookAt 21 = .ok (.iconst 0, 1) := by decide +kernel
theorem dX1_lookAt_22 : decode cX1_lookAt 22 = .ok (.putfield 28, 3) := by decide +kernel
theorem dX1_lookAt_25 : decode cX1_lookAt 25 = .ok (.iconst 2, 1) := by decide +kernel
theorem dX1_lookAt_26 : decode cX1_lookAt 26 = .ok (.istore_n 2, 1) := by decide +kernel
theorem dX1_lookAt_27 : decode cX1_lookAt 27 = .ok (.iload_n 2, 1) := by decide +kernel
theorem dX1_lookAt_28 : decode cX1_lookAt 28 = .ok (.aload_n 1, 1) := by decide +kernel
theorem dX1_lookAt_29 : decode cX1_lookAt 29 = .ok (.getfield 31, 3) := by decide +kernel
theorem dX1_lookAt_32 : decode cX1_lookAt 32 = .ok (.if_icmp .ge 46, 3) := by decide +kernel
theorem dX1_lookAt_35 : decode cX1_lookAt 35 = .ok (.iconst 1, 1) := by decide +kernel
theorem dX1_lookAt_36 : decode cX1_lookAt 36 = .ok (.istore_n 3, 1) := by decide +kernel
theorem dX1_lookAt_37 : decode cX1_lookAt 37 = .ok (.iload_n 3, 1) := by decide +kernel
theorem dX1_lookAt_38 : decode cX1_lookAt 38 = .ok (.iload_n 2, 1) := by decide +kernel
theorem dX1_lookAt_39 : decode cX1_lookAt 39 = .ok (.if_icmp .ge 33, 3) := by decide +kernel
theorem dX1_lookAt_42 : decode cX1_lookAt 42 = .ok (.iconst 0, 1) := by decide +kernel
theorem dX1_lookAt_43 : decode cX1_lookAt 43 = .ok (.istore 4, 2) := by decide +kernel
theorem dX1_lookAt_45 : decode cX1_lookAt 45 = .ok (.iload 4, 2) := by decide +kernel
theorem dX1_lookAt_47 : decode cX1_lookAt 47 = .ok (.iload_n 3, 1) := by decide +kernel
theorem dX1_lookAt_48 : decode cX1_lookAt 48 = .ok (.if_icmp .ge 18, 3) := by decide +kernel
theorem dX1_lookAt_51 : decode cX1_lookAt 51 = .ok (.aload_n 0, 1) := by decide +kernel
theorem dX1_lookAt_52 : decode cX1_lookAt 52 = .ok (.aload_n 1, 1) := by decide +kernel
theorem dX1_lookAt_53 : decode cX1_lookAt 53 = .ok (.iload 4, 2) := by decide +kernel
theorem dX1_lookAt_55 : decode cX1_lookAt 55 = .ok (.iload_n 3, 1) := by decide +kernel
theorem dX1_lookAt_56 : decode cX1_lookAt 56 = .ok (.iload_n 2, 1) := by decide +kernel
theorem dX1_lookAt_57 : decode cX1_lookAt 57 = .ok (.invokevirtual 36, 3) := by decide +kernel
theorem dX1_lookAt_60 : decode cX1_lookAt 60 = .ok (.iinc 4 1, 3) := by decide +kernel
theorem dX1_lookAt_63 : decode cX1_lookAt 63 = .ok (.goto (-18), 3) := by decide +kernel
theorem dX1_lookAt_66 : decode cX1_lookAt 66 = .ok (.iinc 3 1, 3) := by decide +kernel
theorem dX1_lookAt_69 : decode cX1_lookAt 69 = .ok (.goto (-32), 3) := by decide +kernel
theorem dX1_lookAt_72 : decode cX1_lookAt 72 = .ok (.iinc 2 1, 3) := by decide +kernel
theorem dX1_lookAt_75 : decode cX1_lookAt 75 = .ok (.goto (-48), 3) := by decide +kernel
theorem dX1_lookAt_78 : decode cX1_lookAt 78 = .ok (.return_, 1) := by decide +kernel
theorem dX1_lookAtThree_0 : decode cX1_lookAtThree 0 = .ok (.aload_n 1, 1) := by decide +kernel
theorem dX1_lookAtThree_1 : decode cX1_lookAtThree 1 = .ok (.iload_n 2, 1) := by decide +kernel
theorem dX1_lookAtThree_2 : decode cX1_lookAtThree 2 = .ok (.iload_n 3, 1) := by decide +kernel
theorem dX1_lookAtThree_3 : decode cX1_lookAtThree 3 = .ok (.iload 4, 2) := by decide +kernel
theorem dX1_lookAtThree_5 : decode cX1_lookAtThree 5 = .ok (.invokevirtual 40, 3) := by decide +kernel
theorem dX1_lookAtThree_8 : decode cX1_lookAtThree 8 = .ok (.ifCond .ne 4, 3) := by decide +kernel
theorem dX1_lookAtThree_11 : decode cX1_lookAtThree 11 = .ok (.return_, 1) := by decide +kernel
theorem dX1_lookAtThree_12 : decode cX1_lookAtThree 12 = .ok (.aload_n 0, 1) := by decide +kernel
theorem dX1_lookAtThree_13 : decode cX1_lookAtThree 13 = .ok (.dup, 1) := by decide +kernel
theorem dX1_lookAtThree_14 : decode cX1_lookAtThree 14 = .ok (.getfield 25, 3) := by decide +kernel
theorem dX1_lookAtThree_17 : decode cX1_lookAtThree 17 = .ok (.iconst 1, 1) := by decide +kernel
theorem dX1_lookAtThree_18 : decode cX1_lookAtThree 18 = .ok (.iadd, 1) := by decide +kernel
theorem dX1_lookAtThree_19 : decode cX1_lookAtThree 19 = .ok (.putfield 25, 3) := by decide +kernel
theorem dX1_lookAtThree_22 : decode cX1_lookAtThree 22 = .ok (.aload_n 1, 1) := by decide +kernel
theorem dX1_lookAtThree_23 : decode cX1_lookAtThree 23 = .ok (.iload_n 2, 1) := by decide +kernel
theorem dX1_lookAtThree_24 : decode cX1_lookAtThree 24 = .ok (.iload_n 3, 1) := by decide +kernel
theorem dX1_lookAtThree_25 : decode cX1_lookAtThree 25 = .ok (.iload 4, 2) := by decide +kernel
theorem dX1_lookAtThree_27 : decode cX1_lookAtThree 27 = .ok (.invokevirtual 44, 3) := by decide +kernel
theorem dX1_lookAtThree_30 : decode cX1_lookAtThree 30 = .ok (.lstore 5, 2) := by decide +kernel
theorem dX1_lookAtThree_32 : decode cX1_lookAtThree 32 = .ok (.lload 5, 2) := by decide +kernel
theorem dX1_lookAtThree_34 : decode cX1_lookAtThree 34 = .ok (.lconst 0, 1) := by decide +kernel
theorem dX1_lookAtThree_35 : decode cX1_lookAtThree 35 = .ok (.lcmp, 1) := by decide +kernel
theorem dX1_lookAtThree_36 : decode cX1_lookAtThree 36 = .ok (.ifCond .ne 16, 3) := by decide +kernel
theorem dX1_lookAtThree_39 : decode cX1_lookAtThree 39 = .ok (.aload_n 0, 1) := by decide +kernel
theorem dX1_lookAtThree_40 : decode cX1_lookAtThree 40 = .ok (.dup, 1) := by decide +kernel
theorem dX1_lookAtThree_41 : decode cX1_lookAtThree 41 = .ok (.getfield 22, 3) := by decide +kernel
theorem dX1_lookAtThree_44 : decode cX1_lookAtThree 44 = .ok (.iconst 1, 1) := by decide +kernel
theorem dX1_lookAtThree_45 : decode cX1_lookAtThree 45 = .ok (.iadd, 1) := by decide +kernel
theorem dX1_lookAtThree_46 : decode cX1_lookAtThree 46 = .ok (.putfield 22, 3) := by decide +kernel
theorem dX1_lookAtThree_49 : decode cX1_lookAtThree 49 = .ok (.goto 31, 3) := by decide +kernel
theorem dX1_lookAtThree_52 : decode cX1_lookAtThree 52 = .ok (.lload 5, 2) := by decide +kernel
theorem dX1_lookAtThree_54 : decode cX1_lookAtThree 54 = .ok (.lconst 0, 1) := by decide +kernel
theorem dX1_lookAtThree_55 : decode cX1_lookAtThree 55 = .ok (.lcmp, 1) := by decide +kernel
theorem dX1_lookAtThree_56 : decode cX1_lookAtThree 56 = .ok (.ifCond .ge 24, 3) := by decide +kernel
theorem dX1_lookAtThree_59 : decode cX1_lookAtThree 59 = .ok (.aload_n 0, 1) := by decide +kernel
theorem dX1_lookAtThree_60 : decode cX1_lookAtThree 60 = .ok (.dup, 1) := by decide +kernel
theorem dX1_lookAtThree_61 : decode cX1_lookAtThree 61 = .ok (.getfield 15, 3) := by decide +kernel
theorem dX1_lookAtThree_64 : decode cX1_lookAtThree 64 = .ok (.iconst 1, 1) := by decide +kernel
theorem dX1_lookAtThree_65 : decode cX1_lookAtThree 65 = .ok (.iadd, 1) := by decide +kernel
theorem dX1_lookAtThree_66 : decode cX1_lookAtThree 66 = .ok (.putfield 15, 3) := by decide +kernel
theorem dX1_lookAtThree_69 : decode cX1_lookAtThree 69 = .ok (.aload_n 0, 1) := by decide +kernel
theorem dX1_lookAtThree_70 : decode cX1_lookAtThree 70 = .ok (.iload_n 2, 1) := by decide +kernel
theorem dX1_lookAtThree_71 : decode cX1_lookAtThree 71 = .ok (.iload_n 3, 1) := by decide +kernel
theorem dX1_lookAtThree_72 : decode cX1_lookAtThree 72 = .ok (.iload 4, 2) := by decide +kernel
theorem dX1_lookAtThree_74 : decode cX1_lookAtThree 74 = .ok (.invokestatic 48, 3) := by decide +kernel
theorem dX1_lookAtThree_77 : decode cX1_lookAtThree 77 = .ok (.invokevirtual 52, 3) := by decide +kernel
theorem dX1_lookAtThree_80 : decode cX1_lookAtThree 80 = .ok (.iload 4, 2) := by decide +kernel
theorem dX1_lookAtThree_82 : decode cX1_lookAtThree 82 = .ok (.iconst 1, 1) := by decide +kernel
theorem dX1_lookAtThree_83 : decode cX1_lookAtThree 83 = .ok (.iadd, 1) := by decide +kernel
theorem dX1_lookAtThree_84 : decode cX1_lookAtThree 84 = .ok (.istore 7, 2) := by decide +kernel
theorem dX1_lookAtThree_86 : decode cX1_lookAtThree 86 = .ok (.iload 7, 2) := by decide +kernel
theorem dX1_lookAtThree_88 : decode cX1_lookAtThree 88 = .ok (.aload_n 1, 1) := by decide +kernel
theorem dX1_lookAtThree_89 : decode cX1_lookAtThree 89 = .ok (.getfield 31, 3) := by decide +kernel
theorem dX1_lookAtThree_92 : decode cX1_lookAtThree 92 = .ok (.if_icmp .ge 74, 3) := by decide +kernel
theorem dX1_lookAtThree_95 : decode cX1_lookAtThree 95 = .ok (.aload_n 1, 1) := by decide +kernel
theorem dX1_lookAtThree_96 : decode cX1_lookAtThree 96 = .ok (.iload_n 2, 1) := by decide +kernel
theorem dX1_lookAtThree_97 : decode cX1_lookAtThree 97 = .ok (.iload_n 3, 1) := by decide +kernel
theorem dX1_lookAtThree_98 : decode cX1_lookAtThree 98 = .ok (.iload 4, 2) := by decide +kernel
theorem dX1_lookAtThree_100 : decode cX1_lookAtThree 100 = .ok (.iload 7, 2) := by decide +kernel
theorem dX1_lookAtThree_102 : decode cX1_lookAtThree 102 = .ok (.invokevirtual 56, 3) := by decide +kernel
theorem dX1_lookAtThree_105 : decode cX1_lookAtThree 105 = .ok (.ifCond .eq 55, 3) := by decide +kernel
theorem dX1_lookAtThree_108 : decode cX1_lookAtThree 108 = .ok (.aload_n 1, 1) := by decide +kernel
theorem dX1_lookAtThree_109 : decode cX1_lookAtThree 109 = .ok (.iload_n 2, 1) := by decide +kernel
theorem dX1_lookAtThree_110 : decode cX1_lookAtThree 110 = .ok (.iload_n 3, 1) := by decide +kernel
theorem dX1_lookAtThree_111 : decode cX1_lookAtThree 111 = .ok (.iload 4, 2) := by decide +kernel
theorem dX1_lookAtThree_113 : decode cX1_lookAtThree 113 = .ok (.iload 7, 2) := by decide +kernel
theorem dX1_lookAtThree_115 : decode cX1_lookAtThree 115 = .ok (.invokevirtual 60, 3) := by decide +kernel
theorem dX1_lookAtThree_118 : decode cX1_lookAtThree 118 = .ok (.ifCond .ne 42, 3) := by decide +kernel
theorem dX1_lookAtThree_121 : decode cX1_lookAtThree 121 = .ok (.aload_n 0, 1) := by decide +kernel
theorem dX1_lookAtThree_122 : decode cX1_lookAtThree 122 = .ok (.dup, 1) := by decide +kernel
theorem dX1_lookAtThree_123 : decode cX1_lookAtThree 123 = .ok (.getfield 19, 3) := by decide +kernel
theorem dX1_lookAtThree_126 : decode cX1_lookAtThree 126 = .ok (.iconst 1, 1) := by decide +kernel
theorem dX1_lookAtThree_127 : decode cX1_lookAtThree 127 = .ok (.iadd, 1) := by decide +kernel
theorem dX1_lookAtThree_128 : decode cX1_lookAtThree 128 = .ok (.putfield 19, 3) := by decide +kernel
theorem dX1_lookAtThree_131 : decode cX1_lookAtThree 131 = .ok (.aload_n 0, 1) := by decide +kernel
theorem dX1_lookAtThree_132 : decode cX1_lookAtThree 132 = .ok (.iload_n 2, 1) := by decide +kernel
theorem dX1_lookAtThree_133 : decode cX1_lookAtThree 133 = .ok (.iload_n 3, 1) := by decide +kernel
theorem dX1_lookAtThree_134 : decode cX1_lookAtThree 134 = .ok (.iload 4, 2) := by decide +kernel
theorem dX1_lookAtThree_136 : decode cX1_lookAtThree 136 = .ok (.invokestatic 48, 3) := by decide +kernel
theorem dX1_lookAtThree_139 : decode cX1_lookAtThree 139 = .ok (.iload_n 2, 1) := by decide +kernel
theorem dX1_lookAtThree_140 : decode cX1_lookAtThree 140 = .ok (.iload_n 3, 1) := by decide +kernel
theorem dX1_lookAtThree_141 : decode cX1_lookAtThree 141 = .ok (.iload 7, 2) := by decide +kernel
theorem dX1_lookAtThree_143 : decode cX1_lookAtThree 143 = .ok (.invokestatic 48, 3) := by decide +kernel
theorem dX1_lookAtThree_146 : decode cX1_lookAtThree 146 = .ok (.ior, 1) := by decide +kernel
theorem dX1_lookAtThree_147 : decode cX1_lookAtThree 147 = .ok (.iconst 1, 1) := by decide +kernel
theorem dX1_lookAtThree_148 : decode cX1_lookAtThree 148 = .ok (.iload 4, 2) := by decide +kernel
theorem dX1_lookAtThree_150 : decode cX1_lookAtThree 150 = .ok (.iload 7, 2) := by decide +kernel
theorem dX1_lookAtThree_152 : decode cX1_lookAtThree 152 = .ok (.invokestatic 63, 3) := by decide +kernel
theorem dX1_lookAtThree_155 : decode cX1_lookAtThree 155 = .ok (.ishl, 1) := by decide +kernel
theorem dX1_lookAtThree_156 : decode cX1_lookAtThree 156 = .ok (.ior, 1) := by decide +kernel
theorem dX1_lookAtThree_157 : decode cX1_lookAtThree 157 = .ok (.invokevirtual 52, 3) := by decide +kernel
theorem dX1_lookAtThree_160 : decode cX1_lookAtThree 160 = .ok (.iinc 7 1, 3) := by decide +kernel
theorem dX1_lookAtThree_163 : decode cX1_lookAtThree 163 = .ok (.goto (-77), 3) := by decide +kernel
theorem dX1_lookAtThree_166 : decode cX1_lookAtThree 166 = .ok (.return_, 1) := by decide +kernel
theorem dX1_pairsOfThree_0 : decode cX1_pairsOfThree 0 = .ok (.iconst 1, 1) := by decide +kernel
theorem dX1_pairsOfThree_1 : decode cX1_pairsOfThree 1 = .ok (.iload_n 0, 1) := by decide +kernel
theorem dX1_pairsOfThree_2 : decode cX1_pairsOfThree 2 = .ok (.iload_n 1, 1) := by decide +kernel
theorem dX1_pairsOfThree_3 : decode cX1_pairsOfThree 3 = .ok (.invokestatic 63, 3) := by decide +kernel
theorem dX1_pairsOfThree_6 : decode cX1_pairsOfThree 6 = .ok (.ishl, 1) := by decide +kernel
theorem dX1_pairsOfThree_7 : decode cX1_pairsOfThree 7 = .ok (.iconst 1, 1) := by decide +kernel
theorem dX1_pairsOfThree_8 : decode cX1_pairsOfThree 8 = .ok (.iload_n 0, 1) := by decide +kernel
theorem dX1_pairsOfThree_9 : decode cX1_pairsOfThree 9 = .ok (.iload_n 2, 1) := by decide +kernel
theorem dX1_pairsOfThree_10 : decode cX1_pairsOfThree 10 = .ok (.invokestatic 63, 3) := by decide +kernel
theorem dX1_pairsOfThree_13 : decode cX1_pairsOfThree 13 = .ok (.ishl, 1) := by decide +kernel
theorem dX1_pairsOfThree_14 : decode cX1_pairsOfThree 14 = .ok (.ior, 1) := by decide +kernel
theorem dX1_pairsOfThree_15 : decode cX1_pairsOfThree 15 = .ok (.iconst 1, 1) := by decide +kernel
theorem dX1_pairsOfThree_16 : decode cX1_pairsOfThree 16 = .ok (.iload_n 1, 1) := by decide +kernel
theorem dX1_pairsOfThree_17 : decode cX1_pairsOfThree 17 = .ok (.iload_n 2, 1) := by decide +kernel
theorem dX1_pairsOfThree_18 : decode cX1_pairsOfThree 18 = .ok (.invokestatic 63, 3) := by decide +kernel
theorem dX1_pairsOfThree_21 : decode cX1_pairsOfThree 21 = .ok (.ishl, 1) := by decide +kernel
theorem dX1_pairsOfThree_22 : decode cX1_pairsOfThree 22 = .ok (.ior, 1) := by decide +kernel
theorem dX1_pairsOfThree_23 : decode cX1_pairsOfThree 23 = .ok (.ireturn, 1) := by decide +kernel
theorem dX1_add_0 : decode cX1_add 0 = .ok (.aload_n 0, 1) := by decide +kernel
theorem dX1_add_1 : decode cX1_add 1 = .ok (.getfield 28, 3) := by decide +kernel
theorem dX1_add_4 : decode cX1_add 4 = .ok (.ifCond .lt 32, 3) := by decide +kernel
theorem dX1_add_7 : decode cX1_add 7 = .ok (.aload_n 0, 1) := by decide +kernel
theorem dX1_add_8 : decode cX1_add 8 = .ok (.getfield 28, 3) := by decide +kernel
theorem dX1_add_11 : decode cX1_add 11 = .ok (.bipush 70, 2) := by decide +kernel
theorem dX1_add_13 : decode cX1_add 13 = .ok (.if_icmp .ge 23, 3) := by decide +kernel
theorem dX1_add_16 : decode cX1_add 16 = .ok (.aload_n 0, 1) := by decide +kernel
theorem dX1_add_17 : decode cX1_add 17 = .ok (.getfield 11, 3) := by decide +kernel
theorem dX1_add_20 : decode cX1_add 20 = .ok (.aload_n 0, 1) := by decide +kernel
theorem dX1_add_21 : decode cX1_add 21 = .ok (.getfield 28, 3) := by decide +kernel
theorem dX1_add_24 : decode cX1_add 24 = .ok (.iload_n 1, 1) := by decide +kernel
theorem dX1_add_25 : decode cX1_add 25 = .ok (.iastore, 1) := by decide +kernel
theorem dX1_add_26 : decode cX1_add 26 = .ok (.aload_n 0, 1) := by decide +kernel
theorem dX1_add_27 : decode cX1_add 27 = .ok (.dup, 1) := by decide +kernel
theorem dX1_add_28 : decode cX1_add 28 = .ok (.getfield 28, 3) := by decide +kernel
theorem dX1_add_31 : decode cX1_add 31 = .ok (.iconst 1, 1) := by decide +kernel
theorem dX1_add_32 : decode cX1_add 32 = .ok (.iadd, 1) := by decide +kernel
theorem dX1_add_33 : decode cX1_add 33 = .ok (.putfield 28, 3) := by decide +kernel
theorem dX1_add_36 : decode cX1_add 36 = .ok (.return_, 1) := by decide +kernel
theorem dX1_flawsWith_0 : decode cX1_flawsWith 0 = .ok (.iconst 0, 1) := by decide +kernel
theorem dX1_flawsWith_1 : decode cX1_flawsWith 1 = .ok (.istore_n 2, 1) := by decide +kernel
theorem dX1_flawsWith_2 : decode cX1_flawsWith 2 = .ok (.iconst 0, 1) := by decide +kernel
theorem dX1_flawsWith_3 : decode cX1_flawsWith 3 = .ok (.istore_n 3, 1) := by decide +kernel
theorem dX1_flawsWith_4 : decode cX1_flawsWith 4 = .ok (.iload_n 3, 1) := by decide +kernel
theorem dX1_flawsWith_5 : decode cX1_flawsWith 5 = .ok (.aload_n 0, 1) := by decide +kernel
theorem dX1_flawsWith_6 : decode cX1_flawsWith 6 = .ok (.getfield 28, 3) := by decide +kernel
theorem dX1_flawsWith_9 : decode cX1_flawsWith 9 = .ok (.if_icmp .ge 31, 3) := by decide +kernel
theorem dX1_flawsWith_12 : decode cX1_flawsWith 12 = .ok (.iload_n 3, 1) := by decide +kernel
theorem dX1_flawsWith_13 : decode cX1_flawsWith 13 = .ok (.bipush 70, 2) := by decide +kernel
theorem dX1_flawsWith_15 : decode cX1_flawsWith 15 = .ok (.if_icmp .ge 25, 3) := by decide +kernel
theorem dX1_flawsWith_18 : decode cX1_flawsWith 18 = .ok (.iload_n 2, 1) := by decide +kernel
theorem dX1_flawsWith_19 : decode cX1_flawsWith 19 = .ok (.aload_n 0, 1) := by decide +kernel
theorem dX1_flawsWith_20 : decode cX1_flawsWith 20 = .ok (.getfield 11, 3) := by decide +kernel
theorem dX1_flawsWith_23 : decode cX1_flawsWith 23 = .ok (.iload_n 3, 1) := by decide +kernel
theorem dX1_flawsWith_24 : decode cX1_flawsWith 24 = .ok (.iaload, 1) := by decide +kernel
theorem dX1_flawsWith_25 : decode cX1_flawsWith 25 = .ok (.iload_n 1, 1) := by decide +kernel
theorem dX1_flawsWith_26 : decode cX1_flawsWith 26 = .ok (.invokestatic 67, 3) := by decide +kernel
theorem dX1_flawsWith_29 : decode cX1_flawsWith 29 = .ok (.invokestatic 71, 3) := by decide +kernel
theorem dX1_flawsWith_32 : decode cX1_flawsWith 32 = .ok (.iadd, 1) := by decide +kernel
theorem dX1_flawsWith_33 : decode cX1_flawsWith 33 = .ok (.istore_n 2, 1) := by decide +kernel
theorem dX1_flawsWith_34 : decode cX1_flawsWith 34 = .ok (.iinc 3 1, 3) := by decide +kernel
theorem dX1_flawsWith_37 : decode cX1_flawsWith 37 = .ok (.goto (-33), 3) := by decide +kernel
theorem dX1_flawsWith_40 : decode cX1_flawsWith 40 = .ok (.iload_n 2, 1) := by decide +kernel
theorem dX1_flawsWith_41 : decode cX1_flawsWith 41 = .ok (.ireturn, 1) := by decide +kernel
theorem dX1_mostDoubted_0 : decode cX1_mostDoubted 0 = .ok (.iconst (-1), 1) := by decide +kernel
theorem dX1_mostDoubted_1 : decode cX1_mostDoubted 1 = .ok (.istore_n 1, 1) := by decide +kernel
theorem dX1_mostDoubted_2 : decode cX1_mostDoubted 2 = .ok (.iconst 0, 1) := by decide +kernel
theorem dX1_mostDoubted_3 : decode cX1_mostDoubted 3 = .ok (.istore_n 2, 1) := by decide +kernel
theorem dX1_mostDoubted_4 : decode cX1_mostDoubted 4 = .ok (.iconst 0, 1) := by decide +kernel
theorem dX1_mostDoubted_5 : decode cX1_mostDoubted 5 = .ok (.istore_n 3, 1) := by decide +kernel
theorem dX1_mostDoubted_6 : decode cX1_mostDoubted 6 = .ok (.iload_n 3, 1) := by decide +kernel
theorem dX1_mostDoubted_7 : decode cX1_mostDoubted 7 = .ok (.bipush 21, 2) := by decide +kernel
theorem dX1_mostDoubted_9 : decode cX1_mostDoubted 9 = .ok (.if_icmp .ge 27, 3) := by decide +kernel
theorem dX1_mostDoubted_12 : decode cX1_mostDoubted 12 = .ok (.aload_n 0, 1) := by decide +kernel
theorem dX1_mostDoubted_13 : decode cX1_mostDoubted 13 = .ok (.iload_n 3, 1) := by decide +kernel
theorem dX1_mostDoubted_14 : decode cX1_mostDoubted 14 = .ok (.invokevirtual 75, 3) := by decide +kernel
theorem dX1_mostDoubted_17 : decode cX1_mostDoubted 17 = .ok (.istore 4, 2) := by decide +kernel
theorem dX1_mostDoubted_19 : decode cX1_mostDoubted 19 = .ok (.iload 4, 2) := by decide +kernel
theorem dX1_mostDoubted_21 : decode cX1_mostDoubted 21 = .ok (.iload_n 2, 1) := by decide +kernel
theorem dX1_mostDoubted_22 : decode cX1_mostDoubted 22 = .ok (.if_icmp .le 8, 3) := by decide +kernel
theorem dX1_mostDoubted_25 : decode cX1_mostDoubted 25 = .ok (.iload_n 3, 1) := by decide +kernel
theorem dX1_mostDoubted_26 : decode cX1_mostDoubted 26 = .ok (.istore_n 1, 1) := by decide +kernel
theorem dX1_mostDoubted_27 : decode cX1_mostDoubted 27 = .ok (.iload 4, 2) := by decide +kernel
theorem dX1_mostDoubted_29 : decode cX1_mostDoubted 29 = .ok (.istore_n 2, 1) := by decide +kernel
theorem dX1_mostDoubted_30 : decode cX1_mostDoubted 30 = .ok (.iinc 3 1, 3) := by decide +kernel
theorem dX1_mostDoubted_33 : decode cX1_mostDoubted 33 = .ok (.goto (-27), 3) := by decide +kernel
theorem dX1_mostDoubted_36 : decode cX1_mostDoubted 36 = .ok (.iload_n 1, 1) := by decide +kernel
theorem dX1_mostDoubted_37 : decode cX1_mostDoubted 37 = .ok (.ireturn, 1) := by decide +kernel
theorem dX1_fewestFalse_0 : decode cX1_fewestFalse 0 = .ok (.aload_n 0, 1) := by decide +kernel
theorem dX1_fewestFalse_1 : decode cX1_fewestFalse 1 = .ok (.iconst (-1), 1) := by decide +kernel
theorem dX1_fewestFalse_2 : decode cX1_fewestFalse 2 = .ok (.putfield 79, 3) := by decide +kernel
theorem dX1_fewestFalse_5 : decode cX1_fewestFalse 5 = .ok (.aload_n 0, 1) := by decide +kernel
theorem dX1_fewestFalse_6 : decode cX1_fewestFalse 6 = .ok (.iconst 0, 1) := by decide +kernel
theorem dX1_fewestFalse_7 : decode cX1_fewestFalse 7 = .ok (.iconst 0, 1) := by decide +kernel
theorem dX1_fewestFalse_8 : decode cX1_fewestFalse 8 = .ok (.invokevirtual 82, 3) := by decide +kernel
theorem dX1_fewestFalse_11 : decode cX1_fewestFalse 11 = .ok (.aload_n 0, 1) := by decide +kernel
theorem dX1_fewestFalse_12 : decode cX1_fewestFalse 12 = .ok (.getfield 79, 3) := by decide +kernel
theorem dX1_fewestFalse_15 : decode cX1_fewestFalse 15 = .ok (.ireturn, 1) := by decide +kernel
theorem dX1_leaveOut_0 : decode cX1_leaveOut 0 = .ok (.aload_n 0, 1) := by decide +kernel
theorem dX1_leaveOut_1 : decode cX1_leaveOut 1 = .ok (.iload_n 1, 1) := by decide +kernel
theorem dX1_leaveOut_2 : decode cX1_leaveOut 2 = .ok (.invokevirtual 86, 3) := by decide +kernel
theorem dX1_leaveOut_5 : decode cX1_leaveOut 5 = .ok (.istore_n 3, 1) := by decide +kernel
theorem dX1_leaveOut_6 : decode cX1_leaveOut 6 = .ok (.iload_n 3, 1) := by decide +kernel
theorem dX1_leaveOut_7 : decode cX1_leaveOut 7 = .ok (.ifCond .ne 17, 3) := by decide +kernel
theorem dX1_leaveOut_10 : decode cX1_leaveOut 10 = .ok (.aload_n 0, 1) := by decide +kernel
theorem dX1_leaveOut_11 : decode cX1_leaveOut 11 = .ok (.iload_n 1, 1) := by decide +kernel
theorem dX1_leaveOut_12 : decode cX1_leaveOut 12 = .ok (.invokevirtual 89, 3) := by decide +kernel
theorem dX1_leaveOut_15 : decode cX1_leaveOut 15 = .ok (.ifCond .eq 8, 3) := by decide +kernel
theorem dX1_leaveOut_18 : decode cX1_leaveOut 18 = .ok (.aload_n 0, 1) := by decide +kernel
theorem dX1_leaveOut_19 : decode cX1_leaveOut 19 = .ok (.iload_n 1, 1) := by decide +kernel
theorem dX1_leaveOut_20 : decode cX1_leaveOut 20 = .ok (.putfield 79, 3) := by decide +kernel
theorem dX1_leaveOut_23 : decode cX1_leaveOut 23 = .ok (.return_, 1) := by decide +kernel
theorem dX1_leaveOut_24 : decode cX1_leaveOut 24 = .ok (.iload_n 2, 1) := by decide +kernel
theorem dX1_leaveOut_25 : decode cX1_leaveOut 25 = .ok (.iconst 3, 1) := by decide +kernel
theorem dX1_leaveOut_26 : decode cX1_leaveOut 26 = .ok (.if_icmp .lt 4, 3) := by decide +kernel
theorem dX1_leaveOut_29 : decode cX1_leaveOut 29 = .ok (.return_, 1) := by decide +kernel
theorem dX1_leaveOut_30 : decode cX1_leaveOut 30 = .ok (.iconst 0, 1) := by decide +kernel
theorem dX1_leaveOut_31 : decode cX1_leaveOut 31 = .ok (.istore 4, 2) := by decide +kernel
theorem dX1_leaveOut_33 : decode cX1_leaveOut 33 = .ok (.iload 4, 2) := by decide +kernel
theorem dX1_leaveOut_35 : decode cX1_leaveOut 35 = .ok (.bipush 21, 2) := by decide +kernel
theorem dX1_leaveOut_37 : decode cX1_leaveOut 37 = .ok (.if_icmp .ge 31, 3) := by decide +kernel
theorem dX1_leaveOut_40 : decode cX1_leaveOut 40 = .ok (.iload_n 3, 1) := by decide +kernel
theorem dX1_leaveOut_41 : decode cX1_leaveOut 41 = .ok (.iload 4, 2) := by decide +kernel
theorem dX1_leaveOut_43 : decode cX1_leaveOut 43 = .ok (.invokestatic 67, 3) := by decide +kernel
theorem dX1_leaveOut_46 : decode cX1_leaveOut 46 = .ok (.ifCond .eq 16, 3) := by decide +kernel
theorem dX1_leaveOut_49 : decode cX1_leaveOut 49 = .ok (.aload_n 0, 1) := by decide +kernel
theorem dX1_leaveOut_50 : decode cX1_leaveOut 50 = .ok (.iload_n 1, 1) := by decide +kernel
theorem dX1_leaveOut_51 : decode cX1_leaveOut 51 = .ok (.iconst 1, 1) := by decide +kernel
theorem dX1_leaveOut_52 : decode cX1_leaveOut 52 = .ok (.iload 4, 2) := by decide +kernel
theorem dX1_leaveOut_54 : decode cX1_leaveOut 54 = .ok (.ishl, 1) := by decide +kernel
theorem dX1_leaveOut_55 : decode cX1_leaveOut 55 = .ok (.ior, 1) := by decide +kernel
theorem dX1_leaveOut_56 : decode cX1_leaveOut 56 = .ok (.iload_n 2, 1) := by decide +kernel
theorem dX1_leaveOut_57 : decode cX1_leaveOut 57 = .ok (.iconst 1, 1) := by decide +kernel
theorem dX1_leaveOut_58 : decode cX1_leaveOut 58 = .ok (.iadd, 1) := by decide +kernel
theorem dX1_leaveOut_59 : decode cX1_leaveOut 59 = .ok (.invokevirtual 82, 3) := by decide +kernel
theorem dX1_leaveOut_62 : decode cX1_leaveOut 62 = .ok (.iinc 4 1, 3) := by decide +kernel
theorem dX1_leaveOut_65 : decode cX1_leaveOut 65 = .ok (.goto (-32), 3) := by decide +kernel
theorem dX1_leaveOut_68 : decode cX1_leaveOut 68 = .ok (.return_, 1) := by decide +kernel
theorem dX1_firstFlawWithout_0 : decode cX1_firstFlawWithout 0 = .ok (.iconst 0, 1) := by decide +kernel
theorem dX1_firstFlawWithout_1 : decode cX1_firstFlawWithout 1 = .ok (.istore_n 2, 1) := by decide +kernel
theorem dX1_firstFlawWithout_2 : decode cX1_firstFlawWithout 2 = .ok (.iload_n 2, 1) := by decide +kernel
theorem dX1_firstFlawWithout_3 : decode cX1_firstFlawWithout 3 = .ok (.aload_n 0, 1) := by decide +kernel
theorem dX1_firstFlawWithout_4 : decode cX1_firstFlawWithout 4 = .ok (.getfield 28, 3) := by decide +kernel
theorem dX1_firstFlawWithout_7 : decode cX1_firstFlawWithout 7 = .ok (.if_icmp .ge 33, 3) := by decide +kernel
theorem dX1_firstFlawWithout_10 : decode cX1_firstFlawWithout 10 = .ok (.iload_n 2, 1) := by decide +kernel
theorem dX1_firstFlawWithout_11 : decode cX1_firstFlawWithout 11 = .ok (.bipush 70, 2) := by decide +kernel
theorem dX1_firstFlawWithout_13 : decode cX1_firstFlawWithout 13 = .ok (.if_icmp .ge 27, 3) := by decide +kernel
theorem dX1_firstFlawWithout_16 : decode cX1_firstFlawWithout 16 = .ok (.aload_n 0, 1) := by decide +kernel
theorem dX1_firstFlawWithout_17 : decode cX1_firstFlawWithout 17 = .ok (.getfield 11, 3) := by decide +kernel
theorem dX1_firstFlawWithout_20 : decode cX1_firstFlawWithout 20 = .ok (.iload_n 2, 1) := by decide +kernel
theorem dX1_firstFlawWithout_21 : decode cX1_firstFlawWithout 21 = .ok (.iaload, 1) := by decide +kernel
theorem dX1_firstFlawWithout_22 : decode cX1_firstFlawWithout 22 = .ok (.iload_n 1, 1) := by decide +kernel
theorem dX1_firstFlawWithout_23 : decode cX1_firstFlawWithout 23 = .ok (.iand, 1) := by decide +kernel
theorem dX1_firstFlawWithout_24 : decode cX1_firstFlawWithout 24 = .ok (.ifCond .ne 10, 3) := by decide +kernel
theorem dX1_firstFlawWithout_27 : decode cX1_firstFlawWithout 27 = .ok (.aload_n 0, 1) := by decide +kernel
theorem dX1_firstFlawWithout_28 : decode cX1_firstFlawWithout 28 = .ok (.getfield 11, 3) := by decide +kernel
theorem dX1_firstFlawWithout_31 : decode cX1_firstFlawWithout 31 = .ok (.iload_n 2, 1) := by decide +kernel
theorem dX1_firstFlawWithout_32 : decode cX1_firstFlawWithout 32 = .ok (.iaload, 1) := by decide +kernel
theorem dX1_firstFlawWithout_33 : decode cX1_firstFlawWithout 33 = .ok (.ireturn, 1) := by decide +kernel
theorem dX1_firstFlawWithout_34 : decode cX1_firstFlawWithout 34 = .ok (.iinc 2 1, 3) := by decide +kernel
theorem dX1_firstFlawWithout_37 : decode cX1_firstFlawWithout 37 = .ok (.goto (-35), 3) := by decide +kernel
theorem dX1_firstFlawWithout_40 : decode cX1_firstFlawWithout 40 = .ok (.iconst 0, 1) := by decide +kernel
theorem dX1_firstFlawWithout_41 : decode cX1_firstFlawWithout 41 = .ok (.ireturn, 1) := by decide +kernel
theorem dX1_isBetter_0 : decode cX1_isBetter 0 = .ok (.aload_n 0, 1) := by decide +kernel
theorem dX1_isBetter_1 : decode cX1_isBetter 1 = .ok (.getfield 79, 3) := by decide +kernel
theorem dX1_isBetter_4 : decode cX1_isBetter 4 = .ok (.iconst (-1), 1) := by decide +kernel
theorem dX1_isBetter_5 : decode cX1_isBetter 5 = .ok (.if_icmp .ne 5, 3) := by decide +kernel
theorem dX1_isBetter_8 : decode cX1_isBetter 8 = .ok (.iconst 1, 1) := by decide +kernel
theorem dX1_isBetter_9 : decode cX1_isBetter 9 = .ok (.ireturn, 1) := by decide +kernel
theorem dX1_isBetter_10 : decode cX1_isBetter 10 = .ok (.aload_n 0, 1) := by decide +kernel
theorem dX1_isBetter_11 : decode cX1_isBetter 11 = .ok (.getfield 79, 3) := by decide +kernel
theorem dX1_isBetter_14 : decode cX1_isBetter 14 = .ok (.invokestatic 93, 3) := by decide +kernel
theorem dX1_isBetter_17 : decode cX1_isBetter 17 = .ok (.iload_n 1, 1) := by decide +kernel
theorem dX1_isBetter_18 : decode cX1_isBetter 18 = .ok (.invokestatic 93, 3) := by decide +kernel
theorem dX1_isBetter_21 : decode cX1_isBetter 21 = .ok (.isub, 1) := by decide +kernel
theorem dX1_isBetter_22 : decode cX1_isBetter 22 = .ok (.istore_n 2, 1) := by decide +kernel
theorem dX1_isBetter_23 : decode cX1_isBetter 23 = .ok (.iload_n 2, 1) := by decide +kernel
theorem dX1_isBetter_24 : decode cX1_isBetter 24 = .ok (.ifCond .gt 15, 3) := by decide +kernel
theorem dX1_isBetter_27 : decode cX1_isBetter 27 = .ok (.iload_n 2, 1) := by decide +kernel
theorem dX1_isBetter_28 : decode cX1_isBetter 28 = .ok (.ifCond .ne 15, 3) := by decide +kernel
theorem dX1_isBetter_31 : decode cX1_isBetter 31 = .ok (.iload_n 1, 1) := by decide +kernel
theorem dX1_isBetter_32 : decode cX1_isBetter 32 = .ok (.aload_n 0, 1) := by decide +kernel
theorem dX1_isBetter_33 : decode cX1_isBetter 33 = .ok (.getfield 79, 3) := by decide +kernel
theorem dX1_isBetter_36 : decode cX1_isBetter 36 = .ok (.if_icmp .ge 7, 3) := by decide +kernel
theorem dX1_isBetter_39 : decode cX1_isBetter 39 = .ok (.iconst 1, 1) := by decide +kernel
theorem dX1_isBetter_40 : decode cX1_isBetter 40 = .ok (.goto 4, 3) := by decide +kernel
theorem dX1_isBetter_43 : decode cX1_isBetter 43 = .ok (.iconst 0, 1) := by decide +kernel
theorem dX1_isBetter_44 : decode cX1_isBetter 44 = .ok (.ireturn, 1) := by decide +kernel
theorem dX2_init_0 : decode cX2_init 0 = .ok (.aload_n 0, 1) := by decide +kernel
theorem dX2_init_1 : decode cX2_init 1 = .ok (.invokespecial 1, 3) := by decide +kernel
theorem dX2_init_4 : decode cX2_init 4 = .ok (.aload_n 0, 1) := by decide +kernel
theorem dX2_init_5 : decode cX2_init 5 = .ok (.iconst 0, 1) := by decide +kernel
theorem dX2_init_6 : decode cX2_init 6 = .ok (.putfield 7, 3) := by decide +kernel
theorem dX2_init_9 : decode cX2_init 9 = .ok (.aload_n 0, 1) := by decide +kernel
theorem dX2_init_10 : decode cX2_init 10 = .ok (.new 13, 3) := by decide +kernel
theorem dX2_init_13 : decode cX2_init 13 = .ok (.dup, 1) := by decide +kernel
theorem dX2_init_14 : decode cX2_init 14 = .ok (.invokespecial 15, 3) := by decide +kernel
theorem dX2_init_17 : decode cX2_init 17 = .ok (.putfield 16, 3) := by decide +kernel
theorem dX2_init_20 : decode cX2_init 20 = .ok (.aload_n 0, 1) := by decide +kernel
theorem dX2_init_21 : decode cX2_init 21 = .ok (.new 20, 3) := by decide +kernel
theorem dX2_init_24 : decode cX2_init 24 = .ok (.dup, 1) := by decide +kernel
theorem dX2_init_25 : decode cX2_init 25 = .ok (.invokespecial 22, 3) := by decide +kernel
theorem dX2_init_28 : decode cX2_init 28 = .ok (.putfield 23, 3) := by decide +kernel
theorem dX2_init_31 : decode cX2_init 31 = .ok (.return_, 1) := by decide +kernel
theorem dX3_init_0 : decode cX3_init 0 = .ok (.aload_n 0, 1) := by decide +kernel
theorem dX3_init_1 : decode cX3_init 1 = .ok (.invokespecial 3, 3) := by decide +kernel
theorem dX3_init_4 : decode cX3_init 4 = .ok (.aload_n 0, 1) := by decide +kernel
theorem dX3_init_5 : decode cX3_init 5 = .ok (.aload_n 1, 1) := by decide +kernel
theorem dX3_init_6 : decode cX3_init 6 = .ok (.putfield 9, 3) := by decide +kernel
theorem dX3_init_9 : decode cX3_init 9 = .ok (.aload_n 0, 1) := by decide +kernel
theorem dX3_init_10 : decode cX3_init 10 = .ok (.aload_n 1, 1) := by decide +kernel
theorem dX3_init_11 : decode cX3_init 11 = .ok (.putfield 15, 3) := by decide +kernel
theorem dX3_init_14 : decode cX3_init 14 = .ok (.aload_n 0, 1) := by decide +kernel
theorem dX3_init_15 : decode cX3_init 15 = .ok (.bipush 7, 2) := by decide +kernel
theorem dX3_init_17 : decode cX3_init 17 = .ok (.newarray .int, 2) := by decide +kernel
theorem dX3_init_19 : decode cX3_init 19 = .ok (.putfield 18, 3) := by decide +kernel
theorem dX3_init_22 : decode cX3_init 22 = .ok (.aload_n 0, 1) := by decide +kernel
theorem dX3_init_23 : decode cX3_init 23 = .ok (.bipush 7, 2) := by decide +kernel
theorem dX3_init_25 : decode cX3_init 25 = .ok (.newarray .int, 2) := by decide +kernel
theorem dX3_init_27 : decode cX3_init 27 = .ok (.putfield 22, 3) := by decide +kernel
theorem dX3_init_30 : decode cX3_init 30 = .ok (.return_, 1) := by decide +kernel
theorem dX3_compare_0 : decode cX3_compare 0 = .ok (.aload_n 0, 1) := by decide +kernel
theorem dX3_compare_1 : decode cX3_compare 1 = .ok (.aload_n 1, 1) := by decide +kernel
theorem dX3_compare_2 : decode cX3_compare 2 = .ok (.putfield 15, 3) := by decide +kernel
theorem dX3_compare_5 : decode cX3_compare 5 = .ok (.aload_n 0, 1) := by decide +kernel
theorem dX3_compare_6 : decode cX3_compare 6 = .ok (.iload_n 2, 1) := by decide +kernel
theorem dX3_compare_7 : decode cX3_compare 7 = .ok (.putfield 25, 3) := by decide +kernel
theorem dX3_compare_10 : decode cX3_compare 10 = .ok (.aload_n 0, 1) := by decide +kernel
theorem dX3_compare_11 : decode cX3_compare 11 = .ok (.iconst 0, 1) := by decide +kernel
theorem dX3_compare_12 : decode cX3_compare 12 = .ok (.putfield 29, 3) := by decide +kernel
theorem dX3_compare_15 : decode cX3_compare 15 = .ok (.aload_n 0, 1) := by decide +kernel
theorem dX3_compare_16 : decode cX3_compare 16 = .ok (.iconst 0, 1) := by decide +kernel
theorem dX3_compare_17 : decode cX3_compare 17 = .ok (.putfield 33, 3) := by decide +kernel
theorem dX3_compare_20 : decode cX3_compare 20 = .ok (.aload_n 0, 1) := by decide +kernel
theorem dX3_compare_21 : decode cX3_compare 21 = .ok (.getfield 9, 3) := by decide +kernel
theorem dX3_compare_24 : decode cX3_compare 24 = .ok (.getfield 36, 3) := by decide +kernel
theorem dX3_compare_27 : decode cX3_compare 27 = .ok (.aload_n 0, 1) := by decide +kernel
theorem dX3_compare_28 : decode cX3_compare 28 = .ok (.getfield 15, 3) := by decide +kernel
theorem dX3_compare_31 : decode cX3_compare 31 = .ok (.getfield 36, 3) := by decide +kernel
theorem dX3_compare_34 : decode cX3_compare 34 = .ok (.if_icmp .ne 8, 3) := by decide +kernel
theorem dX3_compare_37 : decode cX3_compare 37 = .ok (.aload_n 0, 1) := by decide +kernel
theorem dX3_compare_38 : decode cX3_compare 38 = .ok (.iconst 0, 1) := by decide +kernel
theorem dX3_compare_39 : decode cX3_compare 39 = .ok (.invokevirtual 41, 3) := by decide +kernel
theorem dX3_compare_42 : decode cX3_compare 42 = .ok (.return_, 1) := by decide +kernel
theorem dX3_nameOf_0 : decode cX3_nameOf 0 = .ok (.iload_n 1, 1) := by decide +kernel
theorem dX3_nameOf_1 : decode cX3_nameOf 1 = .ok (.ifCond .lt 18, 3) := by decide +kernel
theorem dX3_nameOf_4 : decode cX3_nameOf 4 = .ok (.iload_n 1, 1) := by decide +kernel
theorem dX3_nameOf_5 : decode cX3_nameOf 5 = .ok (.bipush 7, 2) := by decide +kernel
theorem dX3_nameOf_7 : decode cX3_nameOf 7 = .ok (.if_icmp .ge 12, 3) := by decide +kernel
theorem dX3_nameOf_10 : decode cX3_nameOf 10 = .ok (.aload_n 0, 1) := by decide +kernel
theorem dX3_nameOf_11 : decode cX3_nameOf 11 = .ok (.getfield 18, 3) := by decide +kernel
theorem dX3_nameOf_14 : decode cX3_nameOf 14 = .ok (.iload_n 1, 1) := by decide +kernel
theorem dX3_nameOf_15 : decode cX3_nameOf 15 = .ok (.iaload, 1) := by decide +kernel
theorem dX3_nameOf_16 : decode cX3_nameOf 16 = .ok (.goto 5, 3) := by decide +kernel
theorem dX3_nameOf_19 : decode cX3_nameOf 19 = .ok (.bipush (-4), 2) := by decide +kernel
theorem dX3_nameOf_21 : decode cX3_nameOf 21 = .ok (.ireturn, 1) := by decide +kernel
theorem dX3_nameFrom_0 : decode cX3_nameFrom 0 = .ok (.iload_n 1, 1) := by decide +kernel
theorem dX3_nameFrom_1 : decode cX3_nameFrom 1 = .ok (.aload_n 0, 1) := by decide +kernel
theorem dX3_nameFrom_2 : decode cX3_nameFrom 2 = .ok (.getfield 9, 3) := by decide +kernel
theorem dX3_nameFrom_5 : decode cX3_nameFrom 5 = .ok (.getfield 36, 3) := by decide +kernel
theorem dX3_nameFrom_8 : decode cX3_nameFrom 8 = .ok (.if_icmp .ge 9, 3) := by decide +kernel
theorem dX3_nameFrom_11 : decode cX3_nameFrom 11 = .ok (.iload_n 1, 1) := by decide +kernel
theorem dX3_nameFrom_12 : decode cX3_nameFrom 12 = .ok (.bipush 7, 2) := by decide +kernel
theorem dX3_nameFrom_14 : decode cX3_nameFrom 14 = .ok (.if_icmp .lt 36, 3) := by decide +kernel
theorem dX3_nameFrom_17 : decode cX3_nameFrom 17 = .ok (.aload_n 0, 1) := by decide +kernel
theorem dX3_nameFrom_18 : decode cX3_nameFrom 18 = .ok (.getfield 29, 3) := by decide +kernel
theorem dX3_nameFrom_21 : decode cX3_nameFrom 21 = .ok (.ifCond .ne 18, 3) := by decide +kernel
theorem dX3_nameFrom_24 : decode cX3_nameFrom 24 = .ok (.aload_n 0, 1) := by decide +kernel
theorem dX3_nameFrom_25 : decode cX3_nameFrom 25 = .ok (.getfield 22, 3) := by decide +kernel
theorem dX3_nameFrom_28 : decode cX3_nameFrom 28 = .ok (.iconst 0, 1) := by decide +kernel
theorem dX3_nameFrom_29 : decode cX3_nameFrom 29 = .ok (.aload_n 0, 1) := by decide +kernel
theorem dX3_nameFrom_30 : decode cX3_nameFrom 30 = .ok (.getfield 18, 3) := by decide +kernel
theorem dX3_nameFrom_33 : decode cX3_nameFrom 33 = .ok (.iconst 0, 1) := by decide +kernel
theorem dX3_nameFrom_34 : decode cX3_nameFrom 34 = .ok (.bipush 7, 2) := by decide +kernel
theorem dX3_nameFrom_36 : decode cX3_nameFrom 36 = .ok (.invokestatic 45, 3) := by decide +kernel
theorem dX3_nameFrom_39 : decode cX3_nameFrom 39 = .ok (.aload_n 0, 1) := by decide +kernel
theorem dX3_nameFrom_40 : decode cX3_nameFrom 40 = .ok (.dup, 1) := by decide +kernel
theorem dX3_nameFrom_41 : decode cX3_nameFrom 41 = .ok (.getfield 29, 3) := by decide +kernel
theorem dX3_nameFrom_44 : decode cX3_nameFrom 44 = .ok (.iconst 1, 1) := by decide +kernel
theorem dX3_nameFrom_45 : decode cX3_nameFrom 45 = .ok (.iadd, 1) := by decide +kernel
theorem dX3_nameFrom_46 : decode cX3_nameFrom 46 = .ok (.putfield 29, 3) := by decide +kernel
theorem dX3_nameFrom_49 : decode cX3_nameFrom 49 = .ok (.return_, 1) := by decide +kernel
theorem dX3_nameFrom_50 : decode cX3_nameFrom 50 = .ok (.iconst 0, 1) := by decide +kernel
theorem dX3_nameFrom_51 : decode cX3_nameFrom 51 = .ok (.istore_n 2, 1) := by decide +kernel
theorem dX3_nameFrom_52 : decode cX3_nameFrom 52 = .ok (.iload_n 2, 1) := by decide +kernel
theorem dX3_nameFrom_53 : decode cX3_nameFrom 53 = .ok (.aload_n 0, 1) := by decide +kernel
theorem dX3_nameFrom_54 : decode cX3_nameFrom 54 = .ok (.getfield 15, 3) := by decide +kernel
theorem dX3_nameFrom_57 : decode cX3_nameFrom 57 = .ok (.getfield 36, 3) := by decide +kernel
theorem dX3_nameFrom_60 : decode cX3_nameFrom 60 = .ok (.if_icmp .ge 84, 3) := by decide +kernel
theorem dX3_nameFrom_63 : decode cX3_nameFrom 63 = .ok (.aload_n 0, 1) := by decide +kernel
theorem dX3_nameFrom_64 : decode cX3_nameFrom 64 = .ok (.getfield 25, 3) := by decide +kernel
theorem dX3_nameFrom_67 : decode cX3_nameFrom 67 = .ok (.ifCond .eq 11, 3) := by decide +kernel
theorem dX3_nameFrom_70 : decode cX3_nameFrom 70 = .ok (.aload_n 0, 1) := by decide +kernel
theorem dX3_nameFrom_71 : decode cX3_nameFrom 71 = .ok (.getfield 29, 3) := by decide +kernel
theorem dX3_nameFrom_74 : decode cX3_nameFrom 74 = .ok (.ifCond .le 4, 3) := by decide +kernel
theorem dX3_nameFrom_77 : decode cX3_nameFrom 77 = .ok (.return_, 1) := by decide +kernel
theorem dX3_nameFrom_78 : decode cX3_nameFrom 78 = .ok (.aload_n 0, 1) := by decide +kernel
theorem dX3_nameFrom_79 : decode cX3_nameFrom 79 = .ok (.getfield 33, 3) := by decide +kernel
theorem dX3_nameFrom_82 : decode cX3_nameFrom 82 = .ok (.iload_n 2, 1) := by decide +kernel
theorem dX3_nameFrom_83 : decode cX3_nameFrom 83 = .ok (.invokestatic 51, 3) := by decide +kernel
theorem dX3_nameFrom_86 : decode cX3_nameFrom 86 = .ok (.ifCond .ne 52, 3) := by decide +kernel
theorem dX3_nameFrom_89 : decode cX3_nameFrom 89 = .ok (.aload_n 0, 1) := by decide +kernel
theorem dX3_nameFrom_90 : decode cX3_nameFrom 90 = .ok (.iload_n 1, 1) := by decide +kernel
theorem dX3_nameFrom_91 : decode cX3_nameFrom 91 = .ok (.iload_n 2, 1) := by decide +kernel
theorem dX3_nameFrom_92 : decode cX3_nameFrom 92 = .ok (.invokevirtual 55, 3) := by decide +kernel
theorem dX3_nameFrom_95 : decode cX3_nameFrom 95 = .ok (.ifCond .eq 43, 3) := by decide +kernel
theorem dX3_nameFrom_98 : decode cX3_nameFrom 98 = .ok (.aload_n 0, 1) := by decide +kernel
theorem dX3_nameFrom_99 : decode cX3_nameFrom 99 = .ok (.getfield 22, 3) := by decide +kernel
theorem dX3_nameFrom_102 : decode cX3_nameFrom 102 = .ok (.iload_n 1, 1) := by decide +kernel
theorem dX3_nameFrom_103 : decode cX3_nameFrom 103 = .ok (.iload_n 2, 1) := by decide +kernel
theorem dX3_nameFrom_104 : decode cX3_nameFrom 104 = .ok (.iastore, 1) := by decide +kernel
theorem dX3_nameFrom_105 : decode cX3_nameFrom 105 = .ok (.aload_n 0, 1) := by decide +kernel
theorem dX3_nameFrom_106 : decode cX3_nameFrom 106 = .ok (.dup, 1) := by decide +kernel
theorem dX3_nameFrom_107 : decode cX3_nameFrom 107 = .ok (.getfield 33, 3) := by decide +kernel
theorem dX3_nameFrom_110 : decode cX3_nameFrom 110 = .ok (.iconst 1, 1) := by decide +kernel
theorem dX3_nameFrom_111 : decode cX3_nameFrom 111 = .ok (.iload_n 2, 1) := by decide +kernel
theorem dX3_nameFrom_112 : decode cX3_nameFrom 112 = .ok (.ishl, 1) := by decide +kernel
theorem dX3_nameFrom_113 : decode cX3_nameFrom 113 = .ok (.ior, 1) := by decide +kernel
theorem dX3_nameFrom_114 : decode cX3_nameFrom 114 = .ok (.putfield 33, 3) := by decide +kernel
theorem dX3_nameFrom_117 : decode cX3_nameFrom 117 = .ok (.aload_n 0, 1) := by decide +kernel
theorem dX3_nameFrom_118 : decode cX3_nameFrom 118 = .ok (.iload_n 1, 1) := by decide +kernel
theorem dX3_nameFrom_119 : decode cX3_nameFrom 119 = .ok (.iconst 1, 1) := by decide +kernel
theorem dX3_nameFrom_120 : decode cX3_nameFrom 120 = .ok (.iadd, 1) := by decide +kernel
theorem dX3_nameFrom_121 : decode cX3_nameFrom 121 = .ok (.invokevirtual 41, 3) := by decide +kernel
theorem dX3_nameFrom_124 : decode cX3_nameFrom 124 = .ok (.aload_n 0, 1) := by decide +kernel
theorem dX3_nameFrom_125 : decode cX3_nameFrom 125 = .ok (.dup, 1) := by decide +kernel
theorem dX3_nameFrom_126 : decode cX3_nameFrom 126 = .ok (.getfield 33, 3) := by decide +kernel
theorem dX3_nameFrom_129 : decode cX3_nameFrom 129 = .ok (.iconst 1, 1) := by decide +kernel
theorem dX3_nameFrom_130 : decode cX3_nameFrom 130 = .ok (.iload_n 2, 1) := by decide +kernel
theorem dX3_nameFrom_131 : decode cX3_nameFrom 131 = .ok (.ishl, 1) := by decide +kernel
theorem dX3_nameFrom_132 : decode cX3_nameFrom 132 = .ok (.iconst (-1), 1) := by decide +kernel
theorem dX3_nameFrom_133 : decode cX3_nameFrom 133 = .ok (.ixor, 1) := by decide +kernel
theorem dX3_nameFrom_134 : decode cX3_nameFrom 134 = .ok (.iand, 1) := by decide +kernel
theorem dX3_nameFrom_135 : decode cX3_nameFrom 135 = .ok (.putfield 33, 3) := by decide +kernel
theorem dX3_nameFrom_138 : decode cX3_nameFrom 138 = .ok (.iinc 2 1, 3) := by decide +kernel
theorem dX3_nameFrom_141 : decode cX3_nameFrom 141 = .ok (.goto (-89), 3) := by decide +kernel
theorem dX3_nameFrom_144 : decode cX3_nameFrom 144 = .ok (.return_, 1) := by decide +kernel
theorem dX3_fits_0 : decode cX3_fits 0 = .ok (.iconst 0, 1) := by decide +kernel
theorem dX3_fits_1 : decode cX3_fits 1 = .ok (.istore_n 3, 1) := by decide +kernel
theorem dX3_fits_2 : decode cX3_fits 2 = .ok (.iload_n 3, 1) := by decide +kernel
theorem dX3_fits_3 : decode cX3_fits 3 = .ok (.iload_n 1, 1) := by decide +kernel
theorem dX3_fits_4 : decode cX3_fits 4 = .ok (.if_icmp .ge 43, 3) := by decide +kernel
theorem dX3_fits_7 : decode cX3_fits 7 = .ok (.iload_n 3, 1) := by decide +kernel
theorem dX3_fits_8 : decode cX3_fits 8 = .ok (.bipush 7, 2) := by decide +kernel
theorem dX3_fits_10 : decode cX3_fits 10 = .ok (.if_icmp .ge 37, 3) := by decide +kernel
theorem dX3_fits_13 : decode cX3_fits 13 = .ok (.aload_n 0, 1) := by decide +kernel
theorem dX3_fits_14 : decode cX3_fits 14 = .ok (.getfield 9, 3) := by decide +kernel
theorem dX3_fits_17 : decode cX3_fits 17 = .ok (.iload_n 1, 1) := by decide +kernel
theorem dX3_fits_18 : decode cX3_fits 18 = .ok (.iload_n 3, 1) := by decide +kernel
theorem dX3_fits_19 : decode cX3_fits 19 = .ok (.invokevirtual 58, 3) := by decide +kernel
theorem dX3_fits_22 : decode cX3_fits 22 = .ok (.aload_n 0, 1) := by decide +kernel
theorem dX3_fits_23 : decode cX3_fits 23 = .ok (.getfield 15, 3) := by decide +kernel
theorem dX3_fits_26 : decode cX3_fits 26 = .ok (.iload_n 2, 1) := by decide +kernel
theorem dX3_fits_27 : decode cX3_fits 27 = .ok (.aload_n 0, 1) := by decide +kernel
theorem dX3_fits_28 : decode cX3_fits 28 = .ok (.getfield 22, 3) := by decide +kernel
theorem dX3_fits_31 : decode cX3_fits 31 = .ok (.iload_n 3, 1) := by decide +kernel
theorem dX3_fits_32 : decode cX3_fits 32 = .ok (.iaload, 1) := by decide +kernel
theorem dX3_fits_33 : decode cX3_fits 33 = .ok (.invokevirtual 58, 3) := by decide +kernel
theorem dX3_fits_36 : decode cX3_fits 36 = .ok (.if_icmp .eq 5, 3) := by decide +kernel
theorem dX3_fits_39 : decode cX3_fits 39 = .ok (.iconst 0, 1) := by decide +kernel
theorem dX3_fits_40 : decode cX3_fits 40 = .ok (.ireturn, 1) := by decide +kernel
theorem dX3_fits_41 : decode cX3_fits 41 = .ok (.iinc 3 1, 3) := by decide +kernel
theorem dX3_fits_44 : decode cX3_fits 44 = .ok (.goto (-42), 3) := by decide +kernel
theorem dX3_fits_47 : decode cX3_fits 47 = .ok (.iconst 1, 1) := by decide +kernel
theorem dX3_fits_48 : decode cX3_fits 48 = .ok (.ireturn, 1) := by decide +kernel
theorem dX4_init_0 : decode cX4_init 0 = .ok (.aload_n 0, 1) := by decide +kernel
theorem dX4_init_1 : decode cX4_init 1 = .ok (.invokespecial 3, 3) := by decide +kernel
theorem dX4_init_4 : decode cX4_init 4 = .ok (.aload_n 0, 1) := by decide +kernel
theorem dX4_init_5 : decode cX4_init 5 = .ok (.aload_n 1, 1) := by decide +kernel
theorem dX4_init_6 : decode cX4_init 6 = .ok (.putfield 9, 3) := by decide +kernel
theorem dX4_init_9 : decode cX4_init 9 = .ok (.aload_n 0, 1) := by decide +kernel
theorem dX4_init_10 : decode cX4_init 10 = .ok (.new 15, 3) := by decide +kernel
theorem dX4_init_13 : decode cX4_init 13 = .ok (.dup, 1) := by decide +kernel
theorem dX4_init_14 : decode cX4_init 14 = .ok (.invokespecial 17, 3) := by decide +kernel
theorem dX4_init_17 : decode cX4_init 17 = .ok (.putfield 18, 3) := by decide +kernel
theorem dX4_init_20 : decode cX4_init 20 = .ok (.return_, 1) := by decide +kernel
theorem dX4_readAll_0 : decode cX4_readAll 0 = .ok (.aload_n 0, 1) := by decide +kernel
theorem dX4_readAll_1 : decode cX4_readAll 1 = .ok (.getfield 18, 3) := by decide +kernel
theorem dX4_readAll_4 : decode cX4_readAll 4 = .ok (.invokevirtual 22, 3) := by decide +kernel
theorem dX4_readAll_7 : decode cX4_readAll 7 = .ok (.aload_n 0, 1) := by decide +kernel
theorem dX4_readAll_8 : decode cX4_readAll 8 = .ok (.iconst 0, 1) := by decide +kernel
theorem dX4_readAll_9 : decode cX4_readAll 9 = .ok (.putfield 25, 3) := by decide +kernel
theorem dX4_readAll_12 : decode cX4_readAll 12 = .ok (.aload_n 0, 1) := by decide +kernel
theorem dX4_readAll_13 : decode cX4_readAll 13 = .ok (.iconst 0, 1) := by decide +kernel
theorem dX4_readAll_14 : decode cX4_readAll 14 = .ok (.putfield 29, 3) := by decide +kernel
theorem dX4_readAll_17 : decode cX4_readAll 17 = .ok (.aload_n 0, 1) := by decide +kernel
theorem dX4_readAll_18 : decode cX4_readAll 18 = .ok (.iconst 0, 1) := by decide +kernel
theorem dX4_readAll_19 : decode cX4_readAll 19 = .ok (.putfield 32, 3) := by decide +kernel
theorem dX4_readAll_22 : decode cX4_readAll 22 = .ok (.aload_n 0, 1) := by decide +kernel
theorem dX4_readAll_23 : decode cX4_readAll 23 = .ok (.iconst 0, 1) := by decide +kernel
theorem dX4_readAll_24 : decode cX4_readAll 24 = .ok (.putfield 35, 3) := by decide +kernel
theorem dX4_readAll_27 : decode cX4_readAll 27 = .ok (.aload_n 0, 1) := by decide +kernel
theorem dX4_readAll_28 : decode cX4_readAll 28 = .ok (.iconst 0, 1) := by decide +kernel
theorem dX4_readAll_29 : decode cX4_readAll 29 = .ok (.putfield 39, 3) := by decide +kernel
theorem dX4_readAll_32 : decode cX4_readAll 32 = .ok (.aload_n 0, 1) := by decide +kernel
theorem dX4_readAll_33 : decode cX4_readAll 33 = .ok (.iconst 0, 1) := by decide +kernel
theorem dX4_readAll_34 : decode cX4_readAll 34 = .ok (.putfield 42, 3) := by decide +kernel
theorem dX4_readAll_37 : decode cX4_readAll 37 = .ok (.iconst 0, 1) := by decide +kernel
theorem dX4_readAll_38 : decode cX4_readAll 38 = .ok (.istore_n 1, 1) := by decide +kernel
theorem dX4_readAll_39 : decode cX4_readAll 39 = .ok (.iload_n 1, 1) := by decide +kernel
theorem dX4_readAll_40 : decode cX4_readAll 40 = .ok (.sipush 320, 3) := by decide +kernel
theorem dX4_readAll_43 : decode cX4_readAll 43 = .ok (.if_icmp .ge 43, 3) := by decide +kernel
theorem dX4_readAll_46 : decode cX4_readAll 46 = .ok (.aload_n 0, 1) := by decide +kernel
theorem dX4_readAll_47 : decode cX4_readAll 47 = .ok (.invokevirtual 45, 3) := by decide +kernel
theorem dX4_readAll_50 : decode cX4_readAll 50 = .ok (.ifCond .eq 36, 3) := by decide +kernel
theorem dX4_readAll_53 : decode cX4_readAll 53 = .ok (.aload_n 0, 1) := by decide +kernel
theorem dX4_readAll_54 : decode cX4_readAll 54 = .ok (.getfield 49, 3) := by decide +kernel
theorem dX4_readAll_57 : decode cX4_readAll 57 = .ok (.ifCond .eq 29, 3) := by decide +kernel
theorem dX4_readAll_60 : decode cX4_readAll 60 = .ok (.aload_n 0, 1) := by decide +kernel
theorem dX4_readAll_61 : decode cX4_readAll 61 = .ok (.invokevirtual 52, 3) := by decide +kernel
theorem dX4_readAll_64 : decode cX4_readAll 64 = .ok (.ifCond .ne 6, 3) := by decide +kernel
theorem dX4_readAll_67 : decode cX4_readAll 67 = .ok (.goto 19, 3) := by decide +kernel
theorem dX4_readAll_70 : decode cX4_readAll 70 = .ok (.aload_n 0, 1) := by decide +kernel
theorem dX4_readAll_71 : decode cX4_readAll 71 = .ok (.dup, 1) := by decide +kernel
theorem dX4_readAll_72 : decode cX4_readAll 72 = .ok (.getfield 25, 3) := by decide +kernel
theorem dX4_readAll_75 : decode cX4_readAll 75 = .ok (.iconst 1, 1) := by decide +kernel
theorem dX4_readAll_76 : decode cX4_readAll 76 = .ok (.iadd, 1) := by decide +kernel
theorem dX4_readAll_77 : decode cX4_readAll 77 = .ok (.putfield 25, 3) := by decide +kernel
theorem dX4_readAll_80 : decode cX4_readAll 80 = .ok (.iinc 1 1, 3) := by decide +kernel
theorem dX4_readAll_83 : decode cX4_readAll 83 = .ok (.goto (-44), 3) := by decide +kernel
theorem dX4_readAll_86 : decode cX4_readAll 86 = .ok (.aload_n 0, 1) := by decide +kernel
theorem dX4_readAll_87 : decode cX4_readAll 87 = .ok (.getfield 29, 3) := by decide +kernel
theorem dX4_readAll_90 : decode cX4_readAll 90 = .ok (.ifCond .ne 30, 3) := by decide +kernel
theorem dX4_readAll_93 : decode cX4_readAll 93 = .ok (.aload_n 0, 1) := by decide +kernel
theorem dX4_readAll_94 : decode cX4_readAll 94 = .ok (.getfield 39, 3) := by decide +kernel
theorem dX4_readAll_97 : decode cX4_readAll 97 = .ok (.aload_n 0, 1) := by decide +kernel
theorem dX4_readAll_98 : decode cX4_readAll 98 = .ok (.getfield 18, 3) := by decide +kernel
theorem dX4_readAll_101 : decode cX4_readAll 101 = .ok (.getfield 55, 3) := by decide +kernel
theorem dX4_readAll_104 : decode cX4_readAll 104 = .ok (.if_icmp .lt 16, 3) := by decide +kernel
theorem dX4_readAll_107 : decode cX4_readAll 107 = .ok (.aload_n 0, 1) := by decide +kernel
theorem dX4_readAll_108 : decode cX4_readAll 108 = .ok (.iconst 5, 1) := by decide +kernel
theorem dX4_readAll_109 : decode cX4_readAll 109 = .ok (.aload_n 0, 1) := by decide +kernel
theorem dX4_readAll_110 : decode cX4_readAll 110 = .ok (.getfield 9, 3) := by decide +kernel
theorem dX4_readAll_113 : decode cX4_readAll 113 = .ok (.getfield 58, 3) := by decide +kernel
theorem dX4_readAll_116 : decode cX4_readAll 116 = .ok (.invokevirtual 63, 3) := by decide +kernel
theorem dX4_readAll_119 : decode cX4_readAll 119 = .ok (.pop, 1) := by decide +kernel
theorem dX4_readAll_120 : decode cX4_readAll 120 = .ok (.return_, 1) := by decide +kernel
theorem dX4_readLine_0 : decode cX4_readLine 0 = .ok (.aload_n 0, 1) := by decide +kernel
theorem dX4_readLine_1 : decode cX4_readLine 1 = .ok (.ldc 67, 2) := by decide +kernel
theorem dX4_readLine_3 : decode cX4_readLine 3 = .ok (.invokevirtual 68, 3) := by decide +kernel
theorem dX4_readLine_6 : decode cX4_readLine 6 = .ok (.ifCond .eq 23, 3) := by decide +kernel
theorem dX4_readLine_9 : decode cX4_readLine 9 = .ok (.aload_n 0, 1) := by decide +kernel
theorem dX4_readLine_10 : decode cX4_readLine 10 = .ok (.invokevirtual 72, 3) := by decide +kernel
theorem dX4_readLine_13 : decode cX4_readLine 13 = .ok (.ifCond .eq 14, 3) := by decide +kernel
theorem dX4_readLine_16 : decode cX4_readLine 16 = .ok (.aload_n 0, 1) := by decide +kernel
theorem dX4_readLine_17 : decode cX4_readLine 17 = .ok (.invokevirtual 75, 3) := by decide +kernel
theorem dX4_readLine_20 : decode cX4_readLine 20 = .ok (.ifCond .eq 7, 3) := by decide +kernel
theorem dX4_readLine_23 : decode cX4_readLine 23 = .ok (.iconst 1, 1) := by decide +kernel
theorem dX4_readLine_24 : decode cX4_readLine 24 = .ok (.goto 4, 3) := by decide +kernel
theorem dX4_readLine_27 : decode cX4_readLine 27 = .ok (.iconst 0, 1) := by decide +kernel
theorem dX4_readLine_28 : decode cX4_readLine 28 = .ok (.ireturn, 1) := by decide +kernel
theorem dX4_readLine_29 : decode cX4_readLine 29 = .ok (.aload_n 0, 1) := by decide +kernel
theorem dX4_readLine_30 : decode cX4_readLine 30 = .ok (.ldc 78, 2) := by decide +kernel
theorem dX4_readLine_32 : decode cX4_readLine 32 = .ok (.invokevirtual 68, 3) := by decide +kernel
theorem dX4_readLine_35 : decode cX4_readLine 35 = .ok (.ifCond .eq 23, 3) := by decide +kernel
theorem dX4_readLine_38 : decode cX4_readLine 38 = .ok (.aload_n 0, 1) := by decide +kernel
theorem dX4_readLine_39 : decode cX4_readLine 39 = .ok (.invokevirtual 80, 3) := by decide +kernel
theorem dX4_readLine_42 : decode cX4_readLine 42 = .ok (.ifCond .eq 14, 3) := by decide +kernel
theorem dX4_readLine_45 : decode cX4_readLine 45 = .ok (.aload_n 0, 1) := by decide +kernel
theorem dX4_readLine_46 : decode cX4_readLine 46 = .ok (.invokevirtual 75, 3) := by decide +kernel
theorem dX4_readLine_49 : decode cX4_readLine 49 = .ok (.ifCond .eq 7, 3) := by decide +kernel
theorem dX4_readLine_52 : decode cX4_readLine 52 = .ok (.iconst 1, 1) := by decide +kernel
theorem dX4_readLine_53 : decode cX4_readLine 53 = .ok (.goto 4, 3) := by decide +kernel
theorem dX4_readLine_56 : decode cX4_readLine 56 = .ok (.iconst 0, 1) := by decide +kernel
theorem dX4_readLine_57 : decode cX4_readLine 57 = .ok (.ireturn, 1) := by decide +kernel
theorem dX4_readLine_58 : decode cX4_readLine 58 = .ok (.aload_n 0, 1) := by decide +kernel
theorem dX4_readLine_59 : decode cX4_readLine 59 = .ok (.iconst 2, 1) := by decide +kernel
theorem dX4_readLine_60 : decode cX4_readLine 60 = .ok (.aload_n 0, 1) := by decide +kernel
theorem dX4_readLine_61 : decode cX4_readLine 61 = .ok (.getfield 83, 3) := by decide +kernel
theorem dX4_readLine_64 : decode cX4_readLine 64 = .ok (.invokevirtual 63, 3) := by decide +kernel
theorem dX4_readLine_67 : decode cX4_readLine 67 = .ok (.ireturn, 1) := by decide +kernel
theorem dX4_readPlaces_0 : decode cX4_readPlaces 0 = .ok (.aload_n 0, 1) := by decide +kernel
theorem dX4_readPlaces_1 : decode cX4_readPlaces 1 = .ok (.getfield 35, 3) := by decide +kernel
theorem dX4_readPlaces_4 : decode cX4_readPlaces 4 = .ok (.ifCond .eq 13, 3) := by decide +kernel
theorem dX4_readPlaces_7 : decode cX4_readPlaces 7 = .ok (.aload_n 0, 1) := by decide +kernel
theorem dX4_readPlaces_8 : decode cX4_readPlaces 8 = .ok (.iconst 4, 1) := by decide +kernel
theorem dX4_readPlaces_9 : decode cX4_readPlaces 9 = .ok (.aload_n 0, 1) := by decide +kernel
theorem dX4_readPlaces_10 : decode cX4_readPlaces 10 = .ok (.getfield 83, 3) := by decide +kernel
theorem dX4_readPlaces_13 : decode cX4_readPlaces 13 = .ok (.invokevirtual 63, 3) := by decide +kernel
theorem dX4_readPlaces_16 : decode cX4_readPlaces 16 = .ok (.ireturn, 1) := by decide +kernel
theorem dX4_readPlaces_17 : decode cX4_readPlaces 17 = .ok (.aload_n 0, 1) := by decide +kernel
theorem dX4_readPlaces_18 : decode cX4_readPlaces 18 = .ok (.iconst 1, 1) := by decide +kernel
theorem dX4_readPlaces_19 : decode cX4_readPlaces 19 = .ok (.putfield 35, 3) := by decide +kernel
theorem dX4_readPlaces_22 : decode cX4_readPlaces 22 = .ok (.aload_n 0, 1) := by decide +kernel
theorem dX4_readPlaces_23 : decode cX4_readPlaces 23 = .ok (.iconst 2, 1) := by decide +kernel
theorem dX4_readPlaces_24 : decode cX4_readPlaces 24 = .ok (.bipush 7, 2) := by decide +kernel
theorem dX4_readPlaces_26 : decode cX4_readPlaces 26 = .ok (.invokevirtual 86, 3) := by decide +kernel
theorem dX4_readPlaces_29 : decode cX4_readPlaces 29 = .ok (.ifCond .ne 5, 3) := by decide +kernel
theorem dX4_readPlaces_32 : decode cX4_readPlaces 32 = .ok (.iconst 0, 1) := by decide +kernel
theorem dX4_readPlaces_33 : decode cX4_readPlaces 33 = .ok (.ireturn, 1) := by decide +kernel
theorem dX4_readPlaces_34 : decode cX4_readPlaces 34 = .ok (.aload_n 0, 1) := by decide +kernel
theorem dX4_readPlaces_35 : decode cX4_readPlaces 35 = .ok (.getfield 18, 3) := by decide +kernel
theorem dX4_readPlaces_38 : decode cX4_readPlaces 38 = .ok (.aload_n 0, 1) := by decide +kernel
theorem dX4_readPlaces_39 : decode cX4_readPlaces 39 = .ok (.getfield 89, 3) := by decide +kernel
theorem dX4_readPlaces_42 : decode cX4_readPlaces 42 = .ok (.putfield 55, 3) := by decide +kernel
theorem dX4_readPlaces_45 : decode cX4_readPlaces 45 = .ok (.iconst 1, 1) := by decide +kernel
theorem dX4_readPlaces_46 : decode cX4_readPlaces 46 = .ok (.ireturn, 1) := by decide +kernel
theorem dX4_readFar_0 : decode cX4_readFar 0 = .ok (.aload_n 0, 1) := by decide +kernel
theorem dX4_readFar_1 : decode cX4_readFar 1 = .ok (.iconst 0, 1) := by decide +kernel
theorem dX4_readFar_2 : decode cX4_readFar 2 = .ok (.bipush 6, 2) := by decide +kernel
theorem dX4_readFar_4 : decode cX4_readFar 4 = .ok (.invokevirtual 86, 3) := by decide +kernel
theorem dX4_readFar_7 : decode cX4_readFar 7 = .ok (.ifCond .ne 5, 3) := by decide +kernel
theorem dX4_readFar_10 : decode cX4_readFar 10 = .ok (.iconst 0, 1) := by decide +kernel
theorem dX4_readFar_11 : decode cX4_readFar 11 = .ok (.ireturn, 1) := by decide +kernel
theorem dX4_readFar_12 : decode cX4_readFar 12 = .ok (.aload_n 0, 1) := by decide +kernel
theorem dX4_readFar_13 : decode cX4_readFar 13 = .ok (.getfield 89, 3) := by decide +kernel
theorem dX4_readFar_16 : decode cX4_readFar 16 = .ok (.istore_n 1, 1) := by decide +kernel
theorem dX4_readFar_17 : decode cX4_readFar 17 = .ok (.aload_n 0, 1) := by decide +kernel
theorem dX4_readFar_18 : decode cX4_readFar 18 = .ok (.iconst 0, 1) := by decide +kernel
theorem dX4_readFar_19 : decode cX4_readFar 19 = .ok (.bipush 6, 2) := by decide +kernel
theorem dX4_readFar_21 : decode cX4_readFar 21 = .ok (.invokevirtual 86, 3) := by decide +kernel
theorem dX4_readFar_24 : decode cX4_readFar 24 = .ok (.ifCond .ne 5, 3) := by decide +kernel
theorem dX4_readFar_27 : decode cX4_readFar 27 = .ok (.iconst 0, 1) := by decide +kernel
theorem dX4_readFar_28 : decode cX4_readFar 28 = .ok (.ireturn, 1) := by decide +kernel
theorem dX4_readFar_29 : decode cX4_readFar 29 = .ok (.aload_n 0, 1) := by decide +kernel
theorem dX4_readFar_30 : decode cX4_readFar 30 = .ok (.getfield 89, 3) := by decide +kernel
theorem dX4_readFar_33 : decode cX4_readFar 33 = .ok (.istore_n 2, 1) := by decide +kernel
theorem dX4_readFar_34 : decode cX4_readFar 34 = .ok (.iload_n 1, 1) := by decide +kernel
theorem dX4_readFar_35 : decode cX4_readFar 35 = .ok (.iload_n 2, 1) := by decide +kernel
theorem dX4_readFar_36 : decode cX4_readFar 36 = .ok (.if_icmp .ne 13, 3) := by decide +kernel
theorem dX4_readFar_39 : decode cX4_readFar 39 = .ok (.aload_n 0, 1) := by decide +kernel
theorem dX4_readFar_40 : decode cX4_readFar 40 = .ok (.iconst 3, 1) := by decide +kernel
theorem dX4_readFar_41 : decode cX4_readFar 41 = .ok (.aload_n 0, 1) := by decide +kernel
theorem dX4_readFar_42 : decode cX4_readFar 42 = .ok (.getfield 83, 3) := by decide +kernel
theorem dX4_readFar_45 : decode cX4_readFar 45 = .ok (.invokevirtual 63, 3) := by decide +kernel
theorem dX4_readFar_48 : decode cX4_readFar 48 = .ok (.ireturn, 1) := by decide +kernel
theorem dX4_readFar_49 : decode cX4_readFar 49 = .ok (.aload_n 0, 1) := by decide +kernel
theorem dX4_readFar_50 : decode cX4_readFar 50 = .ok (.getfield 18, 3) := by decide +kernel
theorem dX4_readFar_53 : decode cX4_readFar 53 = .ok (.iload_n 1, 1) := by decide +kernel
theorem dX4_readFar_54 : decode cX4_readFar 54 = .ok (.iload_n 2, 1) := by decide +kernel
theorem dX4_readFar_55 : decode cX4_readFar 55 = .ok (.invokevirtual 92, 3) := by decide +kernel
theorem dX4_readFar_58 : decode cX4_readFar 58 = .ok (.ifCond .eq 13, 3) := by decide +kernel
theorem dX4_readFar_61 : decode cX4_readFar 61 = .ok (.aload_n 0, 1) := by decide +kernel
theorem dX4_readFar_62 : decode cX4_readFar 62 = .ok (.iconst 4, 1) := by decide +kernel
theorem dX4_readFar_63 : decode cX4_readFar 63 = .ok (.aload_n 0, 1) := by decide +kernel
theorem dX4_readFar_64 : decode cX4_readFar 64 = .ok (.getfield 83, 3) := by decide +kernel
theorem dX4_readFar_67 : decode cX4_readFar 67 = .ok (.invokevirtual 63, 3) := by decide +kernel
theorem dX4_readFar_70 : decode cX4_readFar 70 = .ok (.ireturn, 1) := by decide +kernel
theorem dX4_readFar_71 : decode cX4_readFar 71 = .ok (.aload_n 0, 1) := by decide +kernel
theorem dX4_readFar_72 : decode cX4_readFar 72 = .ok (.iconst 1, 1) := by decide +kernel
theorem dX4_readFar_73 : decode cX4_readFar 73 = .ok (.sipush 9999, 3) := by decide +kernel
theorem dX4_readFar_76 : decode cX4_readFar 76 = .ok (.invokevirtual 86, 3) := by decide +kernel
theorem dX4_readFar_79 : decode cX4_readFar 79 = .ok (.ifCond .ne 5, 3) := by decide +kernel
theorem dX4_readFar_82 : decode cX4_readFar 82 = .ok (.iconst 0, 1) := by decide +kernel
theorem dX4_readFar_83 : decode cX4_readFar 83 = .ok (.ireturn, 1) := by decide +kernel
theorem dX4_readFar_84 : decode cX4_readFar 84 = .ok (.aload_n 0, 1) := by decide +kernel
theorem dX4_readFar_85 : decode cX4_readFar 85 = .ok (.getfield 18, 3) := by decide +kernel
theorem dX4_readFar_88 : decode cX4_readFar 88 = .ok (.iload_n 1, 1) := by decide +kernel
theorem dX4_readFar_89 : decode cX4_readFar 89 = .ok (.iload_n 2, 1) := by decide +kernel
theorem dX4_readFar_90 : decode cX4_readFar 90 = .ok (.aload_n 0, 1) := by decide +kernel
theorem dX4_readFar_91 : decode cX4_readFar 91 = .ok (.getfield 89, 3) := by decide +kernel
theorem dX4_readFar_94 : decode cX4_readFar 94 = .ok (.invokevirtual 96, 3) := by decide +kernel
theorem dX4_readFar_97 : decode cX4_readFar 97 = .ok (.aload_n 0, 1) := by decide +kernel
theorem dX4_readFar_98 : decode cX4_readFar 98 = .ok (.aload_n 0, 1) := by decide +kernel
theorem dX4_readFar_99 : decode cX4_readFar 99 = .ok (.getfield 39, 3) := by decide +kernel
theorem dX4_readFar_102 : decode cX4_readFar 102 = .ok (.iload_n 1, 1) := by decide +kernel
theorem dX4_readFar_103 : decode cX4_readFar 103 = .ok (.iload_n 2, 1) := by decide +kernel
theorem dX4_readFar_104 : decode cX4_readFar 104 = .ok (.invokestatic 100, 3) := by decide +kernel
theorem dX4_readFar_107 : decode cX4_readFar 107 = .ok (.invokestatic 100, 3) := by decide +kernel
theorem dX4_readFar_110 : decode cX4_readFar 110 = .ok (.putfield 39, 3) := by decide +kernel
theorem dX4_readFar_113 : decode cX4_readFar 113 = .ok (.iconst 1, 1) := by decide +kernel
theorem dX4_readFar_114 : decode cX4_readFar 114 = .ok (.ireturn, 1) := by decide +kernel
theorem dX4_readNumber_0 : decode cX4_readNumber 0 = .ok (.aload_n 0, 1) := by decide +kernel
theorem dX4_readNumber_1 : decode cX4_readNumber 1 = .ok (.invokevirtual 45, 3) := by decide +kernel
theorem dX4_readNumber_4 : decode cX4_readNumber 4 = .ok (.ifCond .ne 5, 3) := by decide +kernel
theorem dX4_readNumber_7 : decode cX4_readNumber 7 = .ok (.iconst 0, 1) := by decide +kernel
theorem dX4_readNumber_8 : decode cX4_readNumber 8 = .ok (.ireturn, 1) := by decide +kernel
theorem dX4_readNumber_9 : decode cX4_readNumber 9 = .ok (.aload_n 0, 1) := by decide +kernel
theorem dX4_readNumber_10 : decode cX4_readNumber 10 = .ok (.getfield 49, 3) := by decide +kernel
theorem dX4_readNumber_13 : decode cX4_readNumber 13 = .ok (.iconst 3, 1) := by decide +kernel
theorem dX4_readNumber_14 : decode cX4_readNumber 14 = .ok (.if_icmp .eq 13, 3) := by decide +kernel
theorem dX4_readNumber_17 : decode cX4_readNumber 17 = .ok (.aload_n 0, 1) := by decide +kernel
theorem dX4_readNumber_18 : decode cX4_readNumber 18 = .ok (.iconst 2, 1) := by decide +kernel
theorem dX4_readNumber_19 : decode cX4_readNumber 19 = .ok (.aload_n 0, 1) := by decide +kernel
theorem dX4_readNumber_20 : decode cX4_readNumber 20 = .ok (.getfield 83, 3) := by decide +kernel
theorem dX4_readNumber_23 : decode cX4_readNumber 23 = .ok (.invokevirtual 63, 3) := by decide +kernel
theorem dX4_readNumber_26 : decode cX4_readNumber 26 = .ok (.ireturn, 1) := by decide +kernel
theorem dX4_readNumber_27 : decode cX4_readNumber 27 = .ok (.aload_n 0, 1) := by decide +kernel
theorem dX4_readNumber_28 : decode cX4_readNumber 28 = .ok (.getfield 89, 3) := by decide +kernel
theorem dX4_readNumber_31 : decode cX4_readNumber 31 = .ok (.iload_n 1, 1) := by decide +kernel
theorem dX4_readNumber_32 : decode cX4_readNumber 32 = .ok (.if_icmp .lt 11, 3) := by decide +kernel
theorem dX4_readNumber_35 : decode cX4_readNumber 35 = .ok (.aload_n 0, 1) := by decide +kernel
theorem dX4_readNumber_36 : decode cX4_readNumber 36 = .ok (.getfield 89, 3) := by decide +kernel
theorem dX4_readNumber_39 : decode cX4_readNumber 39 = .ok (.iload_n 2, 1) := by decide +kernel
theorem dX4_readNumber_40 : decode cX4_readNumber 40 = .ok (.if_icmp .le 13, 3) := by decide +kernel
theorem dX4_readNumber_43 : decode cX4_readNumber 43 = .ok (.aload_n 0, 1) := by decide +kernel
theorem dX4_readNumber_44 : decode cX4_readNumber 44 = .ok (.iconst 3, 1) := by decide +kernel
theorem dX4_readNumber_45 : decode cX4_readNumber 45 = .ok (.aload_n 0, 1) := by decide +kernel
theorem dX4_readNumber_46 : decode cX4_readNumber 46 = .ok (.getfield 83, 3) := by decide +kernel
theorem dX4_readNumber_49 : decode cX4_readNumber 49 = .ok (.invokevirtual 63, 3) := by decide +kernel
theorem dX4_readNumber_52 : decode cX4_readNumber 52 = .ok (.ireturn, 1) := by decide +kernel
theorem dX4_readNumber_53 : decode cX4_readNumber 53 = .ok (.iconst 1, 1) := by decide +kernel
theorem dX4_readNumber_54 : decode cX4_readNumber 54 = .ok (.ireturn, 1) := by decide +kernel
theorem dX4_readSign_0 : decode cX4_readSign 0 = .ok (.aload_n 0, 1) := by decide +kernel
theorem dX4_readSign_1 : decode cX4_readSign 1 = .ok (.invokevirtual 45, 3) := by decide +kernel
theorem dX4_readSign_4 : decode cX4_readSign 4 = .ok (.ifCond .ne 5, 3) := by decide +kernel
theorem dX4_readSign_7 : decode cX4_readSign 7 = .ok (.iconst 0, 1) := by decide +kernel
theorem dX4_readSign_8 : decode cX4_readSign 8 = .ok (.ireturn, 1) := by decide +kernel
theorem dX4_readSign_9 : decode cX4_readSign 9 = .ok (.aload_n 0, 1) := by decide +kernel
theorem dX4_readSign_10 : decode cX4_readSign 10 = .ok (.getfield 49, 3) := by decide +kernel
theorem dX4_readSign_13 : decode cX4_readSign 13 = .ok (.iconst 4, 1) := by decide +kernel
theorem dX4_readSign_14 : decode cX4_readSign 14 = .ok (.if_icmp .eq 15, 3) := by decide +kernel
theorem dX4_readSign_17 : decode cX4_readSign 17 = .ok (.aload_n 0, 1) := by decide +kernel
theorem dX4_readSign_18 : decode cX4_readSign 18 = .ok (.iconst 2, 1) := by decide +kernel
theorem dX4_readSign_19 : decode cX4_readSign 19 = .ok (.aload_n 0, 1) := by decide +kernel
theorem dX4_readSign_20 : decode cX4_readSign 20 = .ok (.getfield 83, 3) := by decide +kernel
theorem dX4_readSign_23 : decode cX4_readSign 23 = .ok (.invokevirtual 63, 3) := by decide +kernel
theorem dX4_readSign_26 : decode cX4_readSign 26 = .ok (.ifCond .eq 7, 3) := by decide +kernel
theorem dX4_readSign_29 : decode cX4_readSign 29 = .ok (.iconst 1, 1) := by decide +kernel
theorem dX4_readSign_30 : decode cX4_readSign 30 = .ok (.goto 4, 3) := by decide +kernel
theorem dX4_readSign_33 : decode cX4_readSign 33 = .ok (.iconst 0, 1) := by decide +kernel
theorem dX4_readSign_34 : decode cX4_readSign 34 = .ok (.ireturn, 1) := by decide +kernel
theorem dX4_readToken_0 : decode cX4_readToken 0 = .ok (.aload_n 0, 1) := by decide +kernel
theorem dX4_readToken_1 : decode cX4_readToken 1 = .ok (.getfield 42, 3) := by decide +kernel
theorem dX4_readToken_4 : decode cX4_readToken 4 = .ok (.aload_n 0, 1) := by decide +kernel
theorem dX4_readToken_5 : decode cX4_readToken 5 = .ok (.getfield 9, 3) := by decide +kernel
theorem dX4_readToken_8 : decode cX4_readToken 8 = .ok (.getfield 58, 3) := by decide +kernel
theorem dX4_readToken_11 : decode cX4_readToken 11 = .ok (.if_icmp .ge 28, 3) := by decide +kernel
theorem dX4_readToken_14 : decode cX4_readToken 14 = .ok (.aload_n 0, 1) := by decide +kernel
theorem dX4_readToken_15 : decode cX4_readToken 15 = .ok (.aload_n 0, 1) := by decide +kernel
theorem dX4_readToken_16 : decode cX4_readToken 16 = .ok (.getfield 42, 3) := by decide +kernel
theorem dX4_readToken_19 : decode cX4_readToken 19 = .ok (.invokevirtual 105, 3) := by decide +kernel
theorem dX4_readToken_22 : decode cX4_readToken 22 = .ok (.iconst 1, 1) := by decide +kernel
theorem dX4_readToken_23 : decode cX4_readToken 23 = .ok (.if_icmp .ne 16, 3) := by decide +kernel
theorem dX4_readToken_26 : decode cX4_readToken 26 = .ok (.aload_n 0, 1) := by decide +kernel
theorem dX4_readToken_27 : decode cX4_readToken 27 = .ok (.dup, 1) := by decide +kernel
theorem dX4_readToken_28 : decode cX4_readToken 28 = .ok (.getfield 42, 3) := by decide +kernel
theorem dX4_readToken_31 : decode cX4_readToken 31 = .ok (.iconst 1, 1) := by decide +kernel
theorem dX4_readToken_32 : decode cX4_readToken 32 = .ok (.iadd, 1) := by decide +kernel
theorem dX4_readToken_33 : decode cX4_readToken 33 = .ok (.putfield 42, 3) := by decide +kernel
theorem dX4_readToken_36 : decode cX4_readToken 36 = .ok (.goto (-36), 3) := by decide +kernel
theorem dX4_readToken_39 : decode cX4_readToken 39 = .ok (.aload_n 0, 1) := by decide +kernel
theorem dX4_readToken_40 : decode cX4_readToken 40 = .ok (.aload_n 0, 1) := by decide +kernel
theorem dX4_readToken_41 : decode cX4_readToken 41 = .ok (.getfield 42, 3) := by decide +kernel
theorem dX4_readToken_44 : decode cX4_readToken 44 = .ok (.putfield 83, 3) := by decide +kernel
theorem dX4_readToken_47 : decode cX4_readToken 47 = .ok (.aload_n 0, 1) := by decide +kernel
theorem dX4_readToken_48 : decode cX4_readToken 48 = .ok (.aload_n 0, 1) := by decide +kernel
theorem dX4_readToken_49 : decode cX4_readToken 49 = .ok (.aload_n 0, 1) := by decide +kernel
theorem dX4_readToken_50 : decode cX4_readToken 50 = .ok (.getfield 83, 3) := by decide +kernel
theorem dX4_readToken_53 : decode cX4_readToken 53 = .ok (.invokevirtual 105, 3) := by decide +kernel
theorem dX4_readToken_56 : decode cX4_readToken 56 = .ok (.putfield 49, 3) := by decide +kernel
theorem dX4_readToken_59 : decode cX4_readToken 59 = .ok (.aload_n 0, 1) := by decide +kernel
theorem dX4_readToken_60 : decode cX4_readToken 60 = .ok (.getfield 49, 3) := by decide +kernel
theorem dX4_readToken_63 : decode cX4_readToken 63 = .ok (.iconst 5, 1) := by decide +kernel
theorem dX4_readToken_64 : decode cX4_readToken 64 = .ok (.if_icmp .ne 13, 3) := by decide +kernel
theorem dX4_readToken_67 : decode cX4_readToken 67 = .ok (.aload_n 0, 1) := by decide +kernel
theorem dX4_readToken_68 : decode cX4_readToken 68 = .ok (.iconst 1, 1) := by decide +kernel
theorem dX4_readToken_69 : decode cX4_readToken 69 = .ok (.aload_n 0, 1) := by decide +kernel
theorem dX4_readToken_70 : decode cX4_readToken 70 = .ok (.getfield 83, 3) := by decide +kernel
theorem dX4_readToken_73 : decode cX4_readToken 73 = .ok (.invokevirtual 63, 3) := by decide +kernel
theorem dX4_readToken_76 : decode cX4_readToken 76 = .ok (.ireturn, 1) := by decide +kernel
theorem dX4_readToken_77 : decode cX4_readToken 77 = .ok (.aload_n 0, 1) := by decide +kernel
theorem dX4_readToken_78 : decode cX4_readToken 78 = .ok (.getfield 49, 3) := by decide +kernel
theorem dX4_readToken_81 : decode cX4_readToken 81 = .ok (.iconst 4, 1) := by decide +kernel
theorem dX4_readToken_82 : decode cX4_readToken 82 = .ok (.if_icmp .ne 15, 3) := by decide +kernel
theorem dX4_readToken_85 : decode cX4_readToken 85 = .ok (.aload_n 0, 1) := by decide +kernel
theorem dX4_readToken_86 : decode cX4_readToken 86 = .ok (.dup, 1) := by decide +kernel
theorem dX4_readToken_87 : decode cX4_readToken 87 = .ok (.getfield 42, 3) := by decide +kernel
theorem dX4_readToken_90 : decode cX4_readToken 90 = .ok (.iconst 1, 1) := by decide +kernel
theorem dX4_readToken_91 : decode cX4_readToken 91 = .ok (.iadd, 1) := by decide +kernel
theorem dX4_readToken_92 : decode cX4_readToken 92 = .ok (.putfield 42, 3) := by decide +kernel
theorem dX4_readToken_95 : decode cX4_readToken 95 = .ok (.iconst 1, 1) := by decide +kernel
theorem dX4_readToken_96 : decode cX4_readToken 96 = .ok (.ireturn, 1) := by decide +kernel
theorem dX4_readToken_97 : decode cX4_readToken 97 = .ok (.aload_n 0, 1) := by decide +kernel
theorem dX4_readToken_98 : decode cX4_readToken 98 = .ok (.iconst 0, 1) := by decide +kernel
theorem dX4_readToken_99 : decode cX4_readToken 99 = .ok (.putfield 89, 3) := by decide +kernel
theorem dX4_readToken_102 : decode cX4_readToken 102 = .ok (.aload_n 0, 1) := by decide +kernel
theorem dX4_readToken_103 : decode cX4_readToken 103 = .ok (.getfield 42, 3) := by decide +kernel
theorem dX4_readToken_106 : decode cX4_readToken 106 = .ok (.aload_n 0, 1) := by decide +kernel
theorem dX4_readToken_107 : decode cX4_readToken 107 = .ok (.getfield 9, 3) := by decide +kernel
theorem dX4_readToken_110 : decode cX4_readToken 110 = .ok (.getfield 58, 3) := by decide +kernel
theorem dX4_readToken_113 : decode cX4_readToken 113 = .ok (.if_icmp .ge 88, 3) := by decide +kernel
theorem dX4_readToken_116 : decode cX4_readToken 116 = .ok (.aload_n 0, 1) := by decide +kernel
theorem dX4_readToken_117 : decode cX4_readToken 117 = .ok (.aload_n 0, 1) := by decide +kernel
theorem dX4_readToken_118 : decode cX4_readToken 118 = .ok (.getfield 42, 3) := by decide +kernel
theorem dX4_readToken_121 : decode cX4_readToken 121 = .ok (.invokevirtual 105, 3) := by decide +kernel
theorem dX4_readToken_124 : decode cX4_readToken 124 = .ok (.aload_n 0, 1) := by decide +kernel
theorem dX4_readToken_125 : decode cX4_readToken 125 = .ok (.getfield 49, 3) := by decide +kernel
theorem dX4_readToken_128 : decode cX4_readToken 128 = .ok (.if_icmp .ne 73, 3) := by decide +kernel
theorem dX4_readToken_131 : decode cX4_readToken 131 = .ok (.aload_n 0, 1) := by decide +kernel
theorem dX4_readToken_132 : decode cX4_readToken 132 = .ok (.getfield 49, 3) := by decide +kernel
theorem dX4_readToken_135 : decode cX4_readToken 135 = .ok (.iconst 3, 1) := by decide +kernel
theorem dX4_readToken_136 : decode cX4_readToken 136 = .ok (.if_icmp .ne 52, 3) := by decide +kernel
theorem dX4_readToken_139 : decode cX4_readToken 139 = .ok (.aload_n 0, 1) := by decide +kernel
theorem dX4_readToken_140 : decode cX4_readToken 140 = .ok (.getfield 42, 3) := by decide +kernel
theorem dX4_readToken_143 : decode cX4_readToken 143 = .ok (.aload_n 0, 1) := by decide +kernel
theorem dX4_readToken_144 : decode cX4_readToken 144 = .ok (.getfield 83, 3) := by decide +kernel
theorem dX4_readToken_147 : decode cX4_readToken 147 = .ok (.isub, 1) := by decide +kernel
theorem dX4_readToken_148 : decode cX4_readToken 148 = .ok (.iconst 4, 1) := by decide +kernel
theorem dX4_readToken_149 : decode cX4_readToken 149 = .ok (.if_icmp .lt 13, 3) := by decide +kernel
theorem dX4_readToken_152 : decode cX4_readToken 152 = .ok (.aload_n 0, 1) := by decide +kernel
theorem dX4_readToken_153 : decode cX4_readToken 153 = .ok (.iconst 1, 1) := by decide +kernel
theorem dX4_readToken_154 : decode cX4_readToken 154 = .ok (.aload_n 0, 1) := by decide +kernel
theorem dX4_readToken_155 : decode cX4_readToken 155 = .ok (.getfield 83, 3) := by decide +kernel
theorem dX4_readToken_158 : decode cX4_readToken 158 = .ok (.invokevirtual 63, 3) := by decide +kernel
theorem dX4_readToken_161 : decode cX4_readToken 161 = .ok (.ireturn, 1) := by decide +kernel
theorem dX4_readToken_162 : decode cX4_readToken 162 = .ok (.aload_n 0, 1) := by decide +kernel
theorem dX4_readToken_163 : decode cX4_readToken 163 = .ok (.aload_n 0, 1) := by decide +kernel
theorem dX4_readToken_164 : decode cX4_readToken 164 = .ok (.getfield 89, 3) := by decide +kernel
theorem dX4_readToken_167 : decode cX4_readToken 167 = .ok (.bipush 10, 2) := by decide +kernel
theorem dX4_readToken_169 : decode cX4_readToken 169 = .ok (.imul, 1) := by decide +kernel
theorem dX4_readToken_170 : decode cX4_readToken 170 = .ok (.aload_n 0, 1) := by decide +kernel
theorem dX4_readToken_171 : decode cX4_readToken 171 = .ok (.getfield 9, 3) := by decide +kernel
theorem dX4_readToken_174 : decode cX4_readToken 174 = .ok (.aload_n 0, 1) := by decide +kernel
theorem dX4_readToken_175 : decode cX4_readToken 175 = .ok (.getfield 42, 3) := by decide +kernel
theorem dX4_readToken_178 : decode cX4_readToken 178 = .ok (.invokevirtual 109, 3) := by decide +kernel
theorem dX4_readToken_181 : decode cX4_readToken 181 = .ok (.iadd, 1) := by decide +kernel
theorem dX4_readToken_182 : decode cX4_readToken 182 = .ok (.bipush 48, 2) := by decide +kernel
theorem dX4_readToken_184 : decode cX4_readToken 184 = .ok (.isub, 1) := by decide +kernel
theorem dX4_readToken_185 : decode cX4_readToken 185 = .ok (.putfield 89, 3) := by decide +kernel
theorem dX4_readToken_188 : decode cX4_readToken 188 = .ok (.aload_n 0, 1) := by decide +kernel
theorem dX4_readToken_189 : decode cX4_readToken 189 = .ok (.dup, 1) := by decide +kernel
theorem dX4_readToken_190 : decode cX4_readToken 190 = .ok (.getfield 42, 3) := by decide +kernel
theorem dX4_readToken_193 : decode cX4_readToken 193 = .ok (.iconst 1, 1) := by decide +kernel
theorem dX4_readToken_194 : decode cX4_readToken 194 = .ok (.iadd, 1) := by decide +kernel
theorem dX4_readToken_195 : decode cX4_readToken 195 = .ok (.putfield 42, 3) := by decide +kernel
theorem dX4_readToken_198 : decode cX4_readToken 198 = .ok (.goto (-96), 3) := by decide +kernel
theorem dX4_readToken_201 : decode cX4_readToken 201 = .ok (.iconst 1, 1) := by decide +kernel
theorem dX4_readToken_202 : decode cX4_readToken 202 = .ok (.ireturn, 1) := by decide +kernel
theorem dX4_kindAt_0 : decode cX4_kindAt 0 = .ok (.iload_n 1, 1) := by decide +kernel
theorem dX4_kindAt_1 : decode cX4_kindAt 1 = .ok (.ifCond .lt 21, 3) := by decide +kernel
theorem dX4_kindAt_4 : decode cX4_kindAt 4 = .ok (.iload_n 1, 1) := by decide +kernel
theorem dX4_kindAt_5 : decode cX4_kindAt 5 = .ok (.aload_n 0, 1) := by decide +kernel
theorem dX4_kindAt_6 : decode cX4_kindAt 6 = .ok (.getfield 9, 3) := by decide +kernel
theorem dX4_kindAt_9 : decode cX4_kindAt 9 = .ok (.getfield 58, 3) := by decide +kernel
theorem dX4_kindAt_12 : decode cX4_kindAt 12 = .ok (.if_icmp .ge 10, 3) := by decide +kernel
theorem dX4_kindAt_15 : decode cX4_kindAt 15 = .ok (.iload_n 1, 1) := by decide +kernel
theorem dX4_kindAt_16 : decode cX4_kindAt 16 = .ok (.sipush 320, 3) := by decide +kernel
theorem dX4_kindAt_19 : decode cX4_kindAt 19 = .ok (.if_icmp .lt 5, 3) := by decide +kernel
theorem dX4_kindAt_22 : decode cX4_kindAt 22 = .ok (.iconst 0, 1) := by decide +kernel
theorem dX4_kindAt_23 : decode cX4_kindAt 23 = .ok (.ireturn, 1) := by decide +kernel
theorem dX4_kindAt_24 : decode cX4_kindAt 24 = .ok (.aload_n 0, 1) := by decide +kernel
theorem dX4_kindAt_25 : decode cX4_kindAt 25 = .ok (.getfield 9, 3) := by decide +kernel
theorem dX4_kindAt_28 : decode cX4_kindAt 28 = .ok (.getfield 112, 3) := by decide +kernel
theorem dX4_kindAt_31 : decode cX4_kindAt 31 = .ok (.iload_n 1, 1) := by decide +kernel
theorem dX4_kindAt_32 : decode cX4_kindAt 32 = .ok (.baload, 1) := by decide +kernel
theorem dX4_kindAt_33 : decode cX4_kindAt 33 = .ok (.istore_n 2, 1) := by decide +kernel
theorem dX4_kindAt_34 : decode cX4_kindAt 34 = .ok (.iload_n 2, 1) := by decide +kernel
theorem dX4_kindAt_35 : decode cX4_kindAt 35 = .ok (.bipush 97, 2) := by decide +kernel
theorem dX4_kindAt_37 : decode cX4_kindAt 37 = .ok (.if_icmp .lt 11, 3) := by decide +kernel
theorem dX4_kindAt_40 : decode cX4_kindAt 40 = .ok (.iload_n 2, 1) := by decide +kernel
theorem dX4_kindAt_41 : decode cX4_kindAt 41 = .ok (.bipush 122, 2) := by decide +kernel
theorem dX4_kindAt_43 : decode cX4_kindAt 43 = .ok (.if_icmp .gt 5, 3) := by decide +kernel
theorem dX4_kindAt_46 : decode cX4_kindAt 46 = .ok (.iconst 2, 1) := by decide +kernel
theorem dX4_kindAt_47 : decode cX4_kindAt 47 = .ok (.ireturn, 1) := by decide +kernel
theorem dX4_kindAt_48 : decode cX4_kindAt 48 = .ok (.iload_n 2, 1) := by decide +kernel
theorem dX4_kindAt_49 : decode cX4_kindAt 49 = .ok (.bipush 48, 2) := by decide +kernel
theorem dX4_kindAt_51 : decode cX4_kindAt 51 = .ok (.if_icmp .lt 11, 3) := by decide +kernel
theorem dX4_kindAt_54 : decode cX4_kindAt 54 = .ok (.iload_n 2, 1) := by decide +kernel
theorem dX4_kindAt_55 : decode cX4_kindAt 55 = .ok (.bipush 57, 2) := by decide +kernel
theorem dX4_kindAt_57 : decode cX4_kindAt 57 = .ok (.if_icmp .gt 5, 3) := by decide +kernel
theorem dX4_kindAt_60 : decode cX4_kindAt 60 = .ok (.iconst 3, 1) := by decide +kernel
theorem dX4_kindAt_61 : decode cX4_kindAt 61 = .ok (.ireturn, 1) := by decide +kernel
theorem dX4_kindAt_62 : decode cX4_kindAt 62 = .ok (.iload_n 2, 1) := by decide +kernel
theorem dX4_kindAt_63 : decode cX4_kindAt 63 = .ok (.bipush 32, 2) := by decide +kernel
theorem dX4_kindAt_65 : decode cX4_kindAt 65 = .ok (.if_icmp .ne 5, 3) := by decide +kernel
theorem dX4_kindAt_68 : decode cX4_kindAt 68 = .ok (.iconst 1, 1) := by decide +kernel
theorem dX4_kindAt_69 : decode cX4_kindAt 69 = .ok (.ireturn, 1) := by decide +kernel
theorem dX4_kindAt_70 : decode cX4_kindAt 70 = .ok (.iload_n 2, 1) := by decide +kernel
theorem dX4_kindAt_71 : decode cX4_kindAt 71 = .ok (.bipush 59, 2) := by decide +kernel
theorem dX4_kindAt_73 : decode cX4_kindAt 73 = .ok (.if_icmp .ne 7, 3) := by decide +kernel
theorem dX4_kindAt_76 : decode cX4_kindAt 76 = .ok (.iconst 4, 1) := by decide +kernel
theorem dX4_kindAt_77 : decode cX4_kindAt 77 = .ok (.goto 4, 3) := by decide +kernel
theorem dX4_kindAt_80 : decode cX4_kindAt 80 = .ok (.iconst 5, 1) := by decide +kernel
theorem dX4_kindAt_81 : decode cX4_kindAt 81 = .ok (.ireturn, 1) := by decide +kernel
theorem dX4_isName_0 : decode cX4_isName 0 = .ok (.aload_n 0, 1) := by decide +kernel
theorem dX4_isName_1 : decode cX4_isName 1 = .ok (.getfield 49, 3) := by decide +kernel
theorem dX4_isName_4 : decode cX4_isName 4 = .ok (.iconst 2, 1) := by decide +kernel
theorem dX4_isName_5 : decode cX4_isName 5 = .ok (.if_icmp .ne 19, 3) := by decide +kernel
theorem dX4_isName_8 : decode cX4_isName 8 = .ok (.aload_n 0, 1) := by decide +kernel
theorem dX4_isName_9 : decode cX4_isName 9 = .ok (.getfield 42, 3) := by decide +kernel
theorem dX4_isName_12 : decode cX4_isName 12 = .ok (.aload_n 0, 1) := by decide +kernel
theorem dX4_isName_13 : decode cX4_isName 13 = .ok (.getfield 83, 3) := by decide +kernel
theorem dX4_isName_16 : decode cX4_isName 16 = .ok (.isub, 1) := by decide +kernel
theorem dX4_isName_17 : decode cX4_isName 17 = .ok (.aload_n 1, 1) := by decide +kernel
theorem dX4_isName_18 : decode cX4_isName 18 = .ok (.invokevirtual 116, 3) := by decide +kernel
theorem dX4_isName_21 : decode cX4_isName 21 = .ok (.if_icmp .eq 5, 3) := by decide +kernel
theorem dX4_isName_24 : decode cX4_isName 24 = .ok (.iconst 0, 1) := by decide +kernel
theorem dX4_isName_25 : decode cX4_isName 25 = .ok (.ireturn, 1) := by decide +kernel
theorem dX4_isName_26 : decode cX4_isName 26 = .ok (.iconst 0, 1) := by decide +kernel
theorem dX4_isName_27 : decode cX4_isName 27 = .ok (.istore_n 2, 1) := by decide +kernel
theorem dX4_isName_28 : decode cX4_isName 28 = .ok (.iload_n 2, 1) := by decide +kernel
theorem dX4_isName_29 : decode cX4_isName 29 = .ok (.aload_n 1, 1) := by decide +kernel
theorem dX4_isName_30 : decode cX4_isName 30 = .ok (.invokevirtual 116, 3) := by decide +kernel
theorem dX4_isName_33 : decode cX4_isName 33 = .ok (.if_icmp .ge 32, 3) := by decide +kernel
theorem dX4_isName_36 : decode cX4_isName 36 = .ok (.aload_n 0, 1) := by decide +kernel
theorem dX4_isName_37 : decode cX4_isName 37 = .ok (.getfield 9, 3) := by decide +kernel
theorem dX4_isName_40 : decode cX4_isName 40 = .ok (.aload_n 0, 1) := by decide +kernel
theorem dX4_isName_41 : decode cX4_isName 41 = .ok (.getfield 83, 3) := by decide +kernel
theorem dX4_isName_44 : decode cX4_isName 44 = .ok (.iload_n 2, 1) := by decide +kernel
theorem dX4_isName_45 : decode cX4_isName 45 = .ok (.iadd, 1) := by decide +kernel
theorem dX4_isName_46 : decode cX4_isName 46 = .ok (.invokevirtual 109, 3) := by decide +kernel
theorem dX4_isName_49 : decode cX4_isName 49 = .ok (.aload_n 1, 1) := by decide +kernel
theorem dX4_isName_50 : decode cX4_isName 50 = .ok (.iload_n 2, 1) := by decide +kernel
theorem dX4_isName_51 : decode cX4_isName 51 = .ok (.invokevirtual 121, 3) := by decide +kernel
theorem dX4_isName_54 : decode cX4_isName 54 = .ok (.if_icmp .eq 5, 3) := by decide +kernel
theorem dX4_isName_57 : decode cX4_isName 57 = .ok (.iconst 0, 1) := by decide +kernel
theorem dX4_isName_58 : decode cX4_isName 58 = .ok (.ireturn, 1) := by decide +kernel
theorem dX4_isName_59 : decode cX4_isName 59 = .ok (.iinc 2 1, 3) := by decide +kernel
theorem dX4_isName_62 : decode cX4_isName 62 = .ok (.goto (-34), 3) := by decide +kernel
theorem dX4_isName_65 : decode cX4_isName 65 = .ok (.iconst 1, 1) := by decide +kernel
theorem dX4_isName_66 : decode cX4_isName 66 = .ok (.ireturn, 1) := by decide +kernel
theorem dX4_refuse_0 : decode cX4_refuse 0 = .ok (.aload_n 0, 1) := by decide +kernel
theorem dX4_refuse_1 : decode cX4_refuse 1 = .ok (.iload_n 1, 1) := by decide +kernel
theorem dX4_refuse_2 : decode cX4_refuse 2 = .ok (.putfield 29, 3) := by decide +kernel
theorem dX4_refuse_5 : decode cX4_refuse 5 = .ok (.aload_n 0, 1) := by decide +kernel
theorem dX4_refuse_6 : decode cX4_refuse 6 = .ok (.iload_n 2, 1) := by decide +kernel
theorem dX4_refuse_7 : decode cX4_refuse 7 = .ok (.putfield 32, 3) := by decide +kernel
theorem dX4_refuse_10 : decode cX4_refuse 10 = .ok (.iconst 0, 1) := by decide +kernel
theorem dX4_refuse_11 : decode cX4_refuse 11 = .ok (.ireturn, 1) := by decide +kernel
theorem dX5_init_0 : decode cX5_init 0 = .ok (.aload_n 0, 1) := by decide +kernel
theorem dX5_init_1 : decode cX5_init 1 = .ok (.invokespecial 3, 3) := by decide +kernel
theorem dX5_init_4 : decode cX5_init 4 = .ok (.aload_n 0, 1) := by decide +kernel
theorem dX5_init_5 : decode cX5_init 5 = .ok (.iconst 0, 1) := by decide +kernel
theorem dX5_init_6 : decode cX5_init 6 = .ok (.putfield 9, 3) := by decide +kernel
theorem dX5_init_9 : decode cX5_init 9 = .ok (.aload_n 0, 1) := by decide +kernel
theorem dX5_init_10 : decode cX5_init 10 = .ok (.bipush 8, 2) := by decide +kernel
theorem dX5_init_12 : decode cX5_init 12 = .ok (.newarray .int, 2) := by decide +kernel
theorem dX5_init_14 : decode cX5_init 14 = .ok (.putfield 15, 3) := by decide +kernel
theorem dX5_init_17 : decode cX5_init 17 = .ok (.return_, 1) := by decide +kernel
theorem dX5_copyFrom_0 : decode cX5_copyFrom 0 = .ok (.aload_n 0, 1) := by decide +kernel
theorem dX5_copyFrom_1 : decode cX5_copyFrom 1 = .ok (.aload_n 1, 1) := by decide +kernel
theorem dX5_copyFrom_2 : decode cX5_copyFrom 2 = .ok (.getfield 9, 3) := by decide +kernel
theorem dX5_copyFrom_5 : decode cX5_copyFrom 5 = .ok (.putfield 9, 3) := by decide +kernel
theorem dX5_copyFrom_8 : decode cX5_copyFrom 8 = .ok (.aload_n 1, 1) := by decide +kernel
theorem dX5_copyFrom_9 : decode cX5_copyFrom 9 = .ok (.getfield 15, 3) := by decide +kernel
theorem dX5_copyFrom_12 : decode cX5_copyFrom 12 = .ok (.iconst 0, 1) := by decide +kernel
theorem dX5_copyFrom_13 : decode cX5_copyFrom 13 = .ok (.aload_n 0, 1) := by decide +kernel
theorem dX5_copyFrom_14 : decode cX5_copyFrom 14 = .ok (.getfield 15, 3) := by decide +kernel
theorem dX5_copyFrom_17 : decode cX5_copyFrom 17 = .ok (.iconst 0, 1) := by decide +kernel
theorem dX5_copyFrom_18 : decode cX5_copyFrom 18 = .ok (.bipush 8, 2) := by decide +kernel
theorem dX5_copyFrom_20 : decode cX5_copyFrom 20 = .ok (.invokestatic 19, 3) := by decide +kernel
theorem dX5_copyFrom_23 : decode cX5_copyFrom 23 = .ok (.return_, 1) := by decide +kernel
theorem dX5_add_0 : decode cX5_add 0 = .ok (.aload_n 0, 1) := by decide +kernel
theorem dX5_add_1 : decode cX5_add 1 = .ok (.getfield 9, 3) := by decide +kernel
theorem dX5_add_4 : decode cX5_add 4 = .ok (.ifCond .lt 12, 3) := by decide +kernel
theorem dX5_add_7 : decode cX5_add 7 = .ok (.aload_n 0, 1) := by decide +kernel
theorem dX5_add_8 : decode cX5_add 8 = .ok (.getfield 9, 3) := by decide +kernel
theorem dX5_add_11 : decode cX5_add 11 = .ok (.bipush 8, 2) := by decide +kernel
theorem dX5_add_13 : decode cX5_add 13 = .ok (.if_icmp .lt 5, 3) := by decide +kernel
theorem dX5_add_16 : decode cX5_add 16 = .ok (.iconst 0, 1) := by decide +kernel
theorem dX5_add_17 : decode cX5_add 17 = .ok (.ireturn, 1) := by decide +kernel
theorem dX5_add_18 : decode cX5_add 18 = .ok (.aload_n 0, 1) := by decide +kernel
theorem dX5_add_19 : decode cX5_add 19 = .ok (.getfield 15, 3) := by decide +kernel
theorem dX5_add_22 : decode cX5_add 22 = .ok (.aload_n 0, 1) := by decide +kernel
theorem dX5_add_23 : decode cX5_add 23 = .ok (.getfield 9, 3) := by decide +kernel
theorem dX5_add_26 : decode cX5_add 26 = .ok (.iload_n 1, 1) := by decide +kernel
theorem dX5_add_27 : decode cX5_add 27 = .ok (.iastore, 1) := by decide +kernel
theorem dX5_add_28 : decode cX5_add 28 = .ok (.aload_n 0, 1) := by decide +kernel
theorem dX5_add_29 : decode cX5_add 29 = .ok (.dup, 1) := by decide +kernel
theorem dX5_add_30 : decode cX5_add 30 = .ok (.getfield 9, 3) := by decide +kernel
theorem dX5_add_33 : decode cX5_add 33 = .ok (.iconst 1, 1) := by decide +kernel
theorem dX5_add_34 : decode cX5_add 34 = .ok (.iadd, 1) := by decide +kernel
theorem dX5_add_35 : decode cX5_add 35 = .ok (.putfield 9, 3) := by decide +kernel
theorem dX5_add_38 : decode cX5_add 38 = .ok (.iconst 1, 1) := by decide +kernel
theorem dX5_add_39 : decode cX5_add 39 = .ok (.ireturn, 1) := by decide +kernel
theorem dX5_farthest_0 : decode cX5_farthest 0 = .ok (.iconst 0, 1) := by decide +kernel
theorem dX5_farthest_1 : decode cX5_farthest 1 = .ok (.istore_n 1, 1) := by decide +kernel
theorem dX5_farthest_2 : decode cX5_farthest 2 = .ok (.iconst 0, 1) := by decide +kernel
theorem dX5_farthest_3 : decode cX5_farthest 3 = .ok (.istore_n 2, 1) := by decide +kernel
theorem dX5_farthest_4 : decode cX5_farthest 4 = .ok (.iload_n 2, 1) := by decide +kernel
theorem dX5_farthest_5 : decode cX5_farthest 5 = .ok (.aload_n 0, 1) := by decide +kernel
theorem dX5_farthest_6 : decode cX5_farthest 6 = .ok (.getfield 9, 3) := by decide +kernel
theorem dX5_farthest_9 : decode cX5_farthest 9 = .ok (.if_icmp .ge 24, 3) := by decide +kernel
theorem dX5_farthest_12 : decode cX5_farthest 12 = .ok (.iload_n 2, 1) := by decide +kernel
theorem dX5_farthest_13 : decode cX5_farthest 13 = .ok (.bipush 8, 2) := by decide +kernel
theorem dX5_farthest_15 : decode cX5_farthest 15 = .ok (.if_icmp .ge 18, 3) := by decide +kernel
theorem dX5_farthest_18 : decode cX5_farthest 18 = .ok (.iload_n 1, 1) := by decide +kernel
theorem dX5_farthest_19 : decode cX5_farthest 19 = .ok (.aload_n 0, 1) := by decide +kernel
theorem dX5_farthest_20 : decode cX5_farthest 20 = .ok (.getfield 15, 3) := by decide +kernel
theorem dX5_farthest_23 : decode cX5_farthest 23 = .ok (.iload_n 2, 1) := by decide +kernel
theorem dX5_farthest_24 : decode cX5_farthest 24 = .ok (.iaload, 1) := by decide +kernel
theorem dX5_farthest_25 : decode cX5_farthest 25 = .ok (.iadd, 1) := by decide +kernel
theorem dX5_farthest_26 : decode cX5_farthest 26 = .ok (.istore_n 1, 1) := by decide +kernel
theorem dX5_farthest_27 : decode cX5_farthest 27 = .ok (.iinc 2 1, 3) := by decide +kernel
theorem dX5_farthest_30 : decode cX5_farthest 30 = .ok (.goto (-26), 3) := by decide +kernel
theorem dX5_farthest_33 : decode cX5_farthest 33 = .ok (.iload_n 1, 1) := by decide +kernel
theorem dX5_farthest_34 : decode cX5_farthest 34 = .ok (.ireturn, 1) := by decide +kernel
theorem dX5_nearest_0 : decode cX5_nearest 0 = .ok (.iconst 0, 1) := by decide +kernel
theorem dX5_nearest_1 : decode cX5_nearest 1 = .ok (.istore_n 1, 1) := by decide +kernel
theorem dX5_nearest_2 : decode cX5_nearest 2 = .ok (.iconst 0, 1) := by decide +kernel
theorem dX5_nearest_3 : decode cX5_nearest 3 = .ok (.istore_n 2, 1) := by decide +kernel
theorem dX5_nearest_4 : decode cX5_nearest 4 = .ok (.iload_n 2, 1) := by decide +kernel
theorem dX5_nearest_5 : decode cX5_nearest 5 = .ok (.aload_n 0, 1) := by decide +kernel
theorem dX5_nearest_6 : decode cX5_nearest 6 = .ok (.getfield 9, 3) := by decide +kernel
theorem dX5_nearest_9 : decode cX5_nearest 9 = .ok (.if_icmp .ge 26, 3) := by decide +kernel
theorem dX5_nearest_12 : decode cX5_nearest 12 = .ok (.iload_n 2, 1) := by decide +kernel
theorem dX5_nearest_13 : decode cX5_nearest 13 = .ok (.bipush 8, 2) := by decide +kernel
theorem dX5_nearest_15 : decode cX5_nearest 15 = .ok (.if_icmp .ge 20, 3) := by decide +kernel
theorem dX5_nearest_18 : decode cX5_nearest 18 = .ok (.iload_n 1, 1) := by decide +kernel
theorem dX5_nearest_19 : decode cX5_nearest 19 = .ok (.aload_n 0, 1) := by decide +kernel
theorem dX5_nearest_20 : decode cX5_nearest 20 = .ok (.getfield 15, 3) := by decide +kernel
theorem dX5_nearest_23 : decode cX5_nearest 23 = .ok (.iload_n 2, 1) := by decide +kernel
theorem dX5_nearest_24 : decode cX5_nearest 24 = .ok (.iaload, 1) := by decide +kernel
theorem dX5_nearest_25 : decode cX5_nearest 25 = .ok (.invokestatic 25, 3) := by decide +kernel
theorem dX5_nearest_28 : decode cX5_nearest 28 = .ok (.istore_n 1, 1) := by decide +kernel
theorem dX5_nearest_29 : decode cX5_nearest 29 = .ok (.iinc 2 1, 3) := by decide +kernel
theorem dX5_nearest_32 : decode cX5_nearest 32 = .ok (.goto (-28), 3) := by decide +kernel
theorem dX5_nearest_35 : decode cX5_nearest 35 = .ok (.iconst 0, 1) := by decide +kernel
theorem dX5_nearest_36 : decode cX5_nearest 36 = .ok (.iconst 2, 1) := by decide +kernel
theorem dX5_nearest_37 : decode cX5_nearest 37 = .ok (.iload_n 1, 1) := by decide +kernel
theorem dX5_nearest_38 : decode cX5_nearest 38 = .ok (.imul, 1) := by decide +kernel
theorem dX5_nearest_39 : decode cX5_nearest 39 = .ok (.aload_n 0, 1) := by decide +kernel
theorem dX5_nearest_40 : decode cX5_nearest 40 = .ok (.invokevirtual 31, 3) := by decide +kernel
theorem dX5_nearest_43 : decode cX5_nearest 43 = .ok (.isub, 1) := by decide +kernel
theorem dX5_nearest_44 : decode cX5_nearest 44 = .ok (.invokestatic 25, 3) := by decide +kernel
theorem dX5_nearest_47 : decode cX5_nearest 47 = .ok (.ireturn, 1) := by decide +kernel
theorem dX6_init_0 : decode cX6_init 0 = .ok (.aload_n 0, 1) := by decide +kernel
theorem dX6_init_1 : decode cX6_init 1 = .ok (.invokespecial 3, 3) := by decide +kernel
theorem dX6_init_4 : decode cX6_init 4 = .ok (.aload_n 0, 1) := by decide +kernel
theorem dX6_init_5 : decode cX6_init 5 = .ok (.iconst (-1), 1) := by decide +kernel
theorem dX6_init_6 : decode cX6_init 6 = .ok (.putfield 9, 3) := by decide +kernel
theorem dX6_init_9 : decode cX6_init 9 = .ok (.aload_n 0, 1) := by decide +kernel
theorem dX6_init_10 : decode cX6_init 10 = .ok (.iconst 0, 1) := by decide +kernel
theorem dX6_init_11 : decode cX6_init 11 = .ok (.putfield 15, 3) := by decide +kernel
theorem dX6_init_14 : decode cX6_init 14 = .ok (.aload_n 0, 1) := by decide +kernel
theorem dX6_init_15 : decode cX6_init 15 = .ok (.bipush 40, 2) := by decide +kernel
theorem dX6_init_17 : decode cX6_init 17 = .ok (.newarray .int, 2) := by decide +kernel
theorem dX6_init_19 : decode cX6_init 19 = .ok (.putfield 18, 3) := by decide +kernel
theorem dX6_init_22 : decode cX6_init 22 = .ok (.return_, 1) := by decide +kernel
theorem dX6_renew_0 : decode cX6_renew 0 = .ok (.aload_n 0, 1) := by decide +kernel
theorem dX6_renew_1 : decode cX6_renew 1 = .ok (.iload_n 1, 1) := by decide +kernel
theorem dX6_renew_2 : decode cX6_renew 2 = .ok (.putfield 9, 3) := by decide +kernel
theorem dX6_renew_5 : decode cX6_renew 5 = .ok (.aload_n 0, 1) := by decide +kernel
theorem dX6_renew_6 : decode cX6_renew 6 = .ok (.iload_n 2, 1) := by decide +kernel
theorem dX6_renew_7 : decode cX6_renew 7 = .ok (.putfield 15, 3) := by decide +kernel
theorem dX6_renew_10 : decode cX6_renew 10 = .ok (.aload_n 0, 1) := by decide +kernel
theorem dX6_renew_11 : decode cX6_renew 11 = .ok (.getfield 18, 3) := by decide +kernel
theorem dX6_renew_14 : decode cX6_renew 14 = .ok (.iconst 0, 1) := by decide +kernel
theorem dX6_renew_15 : decode cX6_renew 15 = .ok (.invokestatic 22, 3) := by decide +kernel
theorem dX6_renew_18 : decode cX6_renew 18 = .ok (.return_, 1) := by decide +kernel
theorem dX6_write_0 : decode cX6_write 0 = .ok (.aload_n 0, 1) := by decide +kernel
theorem dX6_write_1 : decode cX6_write 1 = .ok (.getfield 9, 3) := by decide +kernel
theorem dX6_write_4 : decode cX6_write 4 = .ok (.iconst (-1), 1) := by decide +kernel
theorem dX6_write_5 : decode cX6_write 5 = .ok (.if_icmp .ne 5, 3) := by decide +kernel
theorem dX6_write_8 : decode cX6_write 8 = .ok (.iconst 1, 1) := by decide +kernel
theorem dX6_write_9 : decode cX6_write 9 = .ok (.ireturn, 1) := by decide +kernel
theorem dX6_write_10 : decode cX6_write 10 = .ok (.iload_n 1, 1) := by decide +kernel
theorem dX6_write_11 : decode cX6_write 11 = .ok (.ifCond .lt 17, 3) := by decide +kernel
theorem dX6_write_14 : decode cX6_write 14 = .ok (.iload_n 1, 1) := by decide +kernel
theorem dX6_write_15 : decode cX6_write 15 = .ok (.aload_n 0, 1) := by decide +kernel
theorem dX6_write_16 : decode cX6_write 16 = .ok (.getfield 15, 3) := by decide +kernel
theorem dX6_write_19 : decode cX6_write 19 = .ok (.if_icmp .ge 9, 3) := by decide +kernel
theorem dX6_write_22 : decode cX6_write 22 = .ok (.iload_n 1, 1) := by decide +kernel
theorem dX6_write_23 : decode cX6_write 23 = .ok (.bipush 40, 2) := by decide +kernel
theorem dX6_write_25 : decode cX6_write 25 = .ok (.if_icmp .lt 5, 3) := by decide +kernel
theorem dX6_write_28 : decode cX6_write 28 = .ok (.iconst 2, 1) := by decide +kernel
theorem dX6_write_29 : decode cX6_write 29 = .ok (.ireturn, 1) := by decide +kernel
theorem dX6_write_30 : decode cX6_write 30 = .ok (.aload_n 0, 1) := by decide +kernel
theorem dX6_write_31 : decode cX6_write 31 = .ok (.getfield 9, 3) := by decide +kernel
theorem dX6_write_34 : decode cX6_write 34 = .ok (.ifCond .ne 14, 3) := by decide +kernel
theorem dX6_write_37 : decode cX6_write 37 = .ok (.aload_n 0, 1) := by decide +kernel
theorem dX6_write_38 : decode cX6_write 38 = .ok (.getfield 18, 3) := by decide +kernel
theorem dX6_write_41 : decode cX6_write 41 = .ok (.iload_n 1, 1) := by decide +kernel
theorem dX6_write_42 : decode cX6_write 42 = .ok (.iload_n 2, 1) := by decide +kernel
theorem dX6_write_43 : decode cX6_write 43 = .ok (.i2b, 1) := by decide +kernel
theorem dX6_write_44 : decode cX6_write 44 = .ok (.iastore, 1) := by decide +kernel
theorem dX6_write_45 : decode cX6_write 45 = .ok (.goto 29, 3) := by decide +kernel
theorem dX6_write_48 : decode cX6_write 48 = .ok (.aload_n 0, 1) := by decide +kernel
theorem dX6_write_49 : decode cX6_write 49 = .ok (.getfield 9, 3) := by decide +kernel
theorem dX6_write_52 : decode cX6_write 52 = .ok (.iconst 1, 1) := by decide +kernel
theorem dX6_write_53 : decode cX6_write 53 = .ok (.if_icmp .ne 14, 3) := by decide +kernel
theorem dX6_write_56 : decode cX6_write 56 = .ok (.aload_n 0, 1) := by decide +kernel
theorem dX6_write_57 : decode cX6_write 57 = .ok (.getfield 18, 3) := by decide +kernel
theorem dX6_write_60 : decode cX6_write 60 = .ok (.iload_n 1, 1) := by decide +kernel
theorem dX6_write_61 : decode cX6_write 61 = .ok (.iload_n 2, 1) := by decide +kernel
theorem dX6_write_62 : decode cX6_write 62 = .ok (.i2s, 1) := by decide +kernel
theorem dX6_write_63 : decode cX6_write 63 = .ok (.iastore, 1) := by decide +kernel
theorem dX6_write_64 : decode cX6_write 64 = .ok (.goto 10, 3) := by decide +kernel
theorem dX6_write_67 : decode cX6_write 67 = .ok (.aload_n 0, 1) := by decide +kernel
theorem dX6_write_68 : decode cX6_write 68 = .ok (.getfield 18, 3) := by decide +kernel
theorem dX6_write_71 : decode cX6_write 71 = .ok (.iload_n 1, 1) := by decide +kernel
theorem dX6_write_72 : decode cX6_write 72 = .ok (.iload_n 2, 1) := by decide +kernel
theorem dX6_write_73 : decode cX6_write 73 = .ok (.iastore, 1) := by decide +kernel
theorem dX6_write_74 : decode cX6_write 74 = .ok (.iconst 0, 1) := by decide +kernel
theorem dX6_write_75 : decode cX6_write 75 = .ok (.ireturn, 1) := by decide +kernel
theorem dX6_faultAs_0 : decode cX6_faultAs 0 = .ok (.aload_n 0, 1) := by decide +kernel
theorem dX6_faultAs_1 : decode cX6_faultAs 1 = .ok (.getfield 9, 3) := by decide +kernel
theorem dX6_faultAs_4 : decode cX6_faultAs 4 = .ok (.iconst (-1), 1) := by decide +kernel
theorem dX6_faultAs_5 : decode cX6_faultAs 5 = .ok (.if_icmp .ne 5, 3) := by decide +kernel
theorem dX6_faultAs_8 : decode cX6_faultAs 8 = .ok (.iconst 1, 1) := by decide +kernel
theorem dX6_faultAs_9 : decode cX6_faultAs 9 = .ok (.ireturn, 1) := by decide +kernel
theorem dX6_faultAs_10 : decode cX6_faultAs 10 = .ok (.aload_n 0, 1) := by decide +kernel
theorem dX6_faultAs_11 : decode cX6_faultAs 11 = .ok (.getfield 9, 3) := by decide +kernel
theorem dX6_faultAs_14 : decode cX6_faultAs 14 = .ok (.iload_n 1, 1) := by decide +kernel
theorem dX6_faultAs_15 : decode cX6_faultAs 15 = .ok (.if_icmp .ne 7, 3) := by decide +kernel
theorem dX6_faultAs_18 : decode cX6_faultAs 18 = .ok (.iconst 0, 1) := by decide +kernel
theorem dX6_faultAs_19 : decode cX6_faultAs 19 = .ok (.goto 4, 3) := by decide +kernel
theorem dX6_faultAs_22 : decode cX6_faultAs 22 = .ok (.iconst 3, 1) := by decide +kernel
theorem dX6_faultAs_23 : decode cX6_faultAs 23 = .ok (.ireturn, 1) := by decide +kernel
theorem dX6_wholeLengths_0 : decode cX6_wholeLengths 0 = .ok (.iload_n 1, 1) := by decide +kernel
theorem dX6_wholeLengths_1 : decode cX6_wholeLengths 1 = .ok (.ifCond .lt 11, 3) := by decide +kernel
theorem dX6_wholeLengths_4 : decode cX6_wholeLengths 4 = .ok (.iload_n 1, 1) := by decide +kernel
theorem dX6_wholeLengths_5 : decode cX6_wholeLengths 5 = .ok (.aload_n 0, 1) := by decide +kernel
theorem dX6_wholeLengths_6 : decode cX6_wholeLengths 6 = .ok (.getfield 15, 3) := by decide +kernel
theorem dX6_wholeLengths_9 : decode cX6_wholeLengths 9 = .ok (.if_icmp .le 5, 3) := by decide +kernel
theorem dX6_wholeLengths_12 : decode cX6_wholeLengths 12 = .ok (.iconst 0, 1) := by decide +kernel
theorem dX6_wholeLengths_13 : decode cX6_wholeLengths 13 = .ok (.ireturn, 1) := by decide +kernel
theorem dX6_wholeLengths_14 : decode cX6_wholeLengths 14 = .ok (.iload_n 2, 1) := by decide +kernel
theorem dX6_wholeLengths_15 : decode cX6_wholeLengths 15 = .ok (.aload_n 0, 1) := by decide +kernel
theorem dX6_wholeLengths_16 : decode cX6_wholeLengths 16 = .ok (.getfield 15, 3) := by decide +kernel
theorem dX6_wholeLengths_19 : decode cX6_wholeLengths 19 = .ok (.iload_n 1, 1) := by decide +kernel
theorem dX6_wholeLengths_20 : decode cX6_wholeLengths 20 = .ok (.isub, 1) := by decide +kernel
theorem dX6_wholeLengths_21 : decode cX6_wholeLengths 21 = .ok (.iconst 3, 1) := by decide +kernel
theorem dX6_wholeLengths_22 : decode cX6_wholeLengths 22 = .ok (.idiv, 1) := by decide +kernel
theorem dX6_wholeLengths_23 : decode cX6_wholeLengths 23 = .ok (.invokestatic 28, 3) := by decide +kernel
theorem dX6_wholeLengths_26 : decode cX6_wholeLengths 26 = .ok (.ireturn, 1) := by decide +kernel
theorem dX6_cell_0 : decode cX6_cell 0 = .ok (.iload_n 1, 1) := by decide +kernel
theorem dX6_cell_1 : decode cX6_cell 1 = .ok (.ifCond .lt 18, 3) := by decide +kernel
theorem dX6_cell_4 : decode cX6_cell 4 = .ok (.iload_n 1, 1) := by decide +kernel
theorem dX6_cell_5 : decode cX6_cell 5 = .ok (.bipush 40, 2) := by decide +kernel
theorem dX6_cell_7 : decode cX6_cell 7 = .ok (.if_icmp .ge 12, 3) := by decide +kernel
theorem dX6_cell_10 : decode cX6_cell 10 = .ok (.aload_n 0, 1) := by decide +kernel
theorem dX6_cell_11 : decode cX6_cell 11 = .ok (.getfield 18, 3) := by decide +kernel
theorem dX6_cell_14 : decode cX6_cell 14 = .ok (.iload_n 1, 1) := by decide +kernel
theorem dX6_cell_15 : decode cX6_cell 15 = .ok (.iaload, 1) := by decide +kernel
theorem dX6_cell_16 : decode cX6_cell 16 = .ok (.goto 4, 3) := by decide +kernel
theorem dX6_cell_19 : decode cX6_cell 19 = .ok (.iconst 0, 1) := by decide +kernel
theorem dX6_cell_20 : decode cX6_cell 20 = .ok (.ireturn, 1) := by decide +kernel
theorem dX7_init_0 : decode cX7_init 0 = .ok (.aload_n 0, 1) := by decide +kernel
theorem dX7_init_1 : decode cX7_init 1 = .ok (.invokespecial 3, 3) := by decide +kernel
theorem dX7_init_4 : decode cX7_init 4 = .ok (.return_, 1) := by decide +kernel
theorem dX7_take_0 : decode cX7_take 0 = .ok (.aload_n 0, 1) := by decide +kernel
theorem dX7_take_1 : decode cX7_take 1 = .ok (.ldc2_w 9, 3) := by decide +kernel
theorem dX7_take_4 : decode cX7_take 4 = .ok (.aload_n 1, 1) := by decide +kernel
theorem dX7_take_5 : decode cX7_take 5 = .ok (.iload 4, 2) := by decide +kernel
theorem dX7_take_7 : decode cX7_take 7 = .ok (.iload 5, 2) := by decide +kernel
theorem dX7_take_9 : decode cX7_take 9 = .ok (.invokevirtual 11, 3) := by decide +kernel
theorem dX7_take_12 : decode cX7_take 12 = .ok (.i2l, 1) := by decide +kernel
theorem dX7_take_13 : decode cX7_take 13 = .ok (.lmul, 1) := by decide +kernel
theorem dX7_take_14 : decode cX7_take 14 = .ok (.putfield 17, 3) := by decide +kernel
theorem dX7_take_17 : decode cX7_take 17 = .ok (.aload_n 0, 1) := by decide +kernel
theorem dX7_take_18 : decode cX7_take 18 = .ok (.aload_n 0, 1) := by decide +kernel
theorem dX7_take_19 : decode cX7_take 19 = .ok (.getfield 17, 3) := by decide +kernel
theorem dX7_take_22 : decode cX7_take 22 = .ok (.aload_n 1, 1) := by decide +kernel
theorem dX7_take_23 : decode cX7_take 23 = .ok (.iload 4, 2) := by decide +kernel
theorem dX7_take_25 : decode cX7_take 25 = .ok (.iload_n 2, 1) := by decide +kernel
theorem dX7_take_26 : decode cX7_take 26 = .ok (.invokevirtual 11, 3) := by decide +kernel
theorem dX7_take_29 : decode cX7_take 29 = .ok (.aload_n 1, 1) := by decide +kernel
theorem dX7_take_30 : decode cX7_take 30 = .ok (.iload 4, 2) := by decide +kernel
theorem dX7_take_32 : decode cX7_take 32 = .ok (.iload_n 3, 1) := by decide +kernel
theorem dX7_take_33 : decode cX7_take 33 = .ok (.invokevirtual 11, 3) := by decide +kernel
theorem dX7_take_36 : decode cX7_take 36 = .ok (.iadd, 1) := by decide +kernel
theorem dX7_take_37 : decode cX7_take 37 = .ok (.i2l, 1) := by decide +kernel
theorem dX7_take_38 : decode cX7_take 38 = .ok (.lmul, 1) := by decide +kernel
theorem dX7_take_39 : decode cX7_take 39 = .ok (.aload_n 1, 1) := by decide +kernel
theorem dX7_take_40 : decode cX7_take 40 = .ok (.iload 4, 2) := by decide +kernel
theorem dX7_take_42 : decode cX7_take 42 = .ok (.iload 5, 2) := by decide +kernel
theorem dX7_take_44 : decode cX7_take 44 = .ok (.iload_n 2, 1) := by decide +kernel
theorem dX7_take_45 : decode cX7_take 45 = .ok (.invokevirtual 23, 3) := by decide +kernel
theorem dX7_take_48 : decode cX7_take 48 = .ok (.aload_n 1, 1) := by decide +kernel
theorem dX7_take_49 : decode cX7_take 49 = .ok (.iload 4, 2) := by decide +kernel
theorem dX7_take_51 : decode cX7_take 51 = .ok (.iload 5, 2) := by decide +kernel
theorem dX7_take_53 : decode cX7_take 53 = .ok (.iload_n 3, 1) := by decide +kernel
theorem dX7_take_54 : decode cX7_take 54 = .ok (.invokevirtual 23, 3) := by decide +kernel
theorem dX7_take_57 : decode cX7_take 57 = .ok (.lmul, 1) := by decide +kernel
theorem dX7_take_58 : decode cX7_take 58 = .ok (.lsub, 1) := by decide +kernel
theorem dX7_take_59 : decode cX7_take 59 = .ok (.putfield 27, 3) := by decide +kernel
theorem dX7_take_62 : decode cX7_take 62 = .ok (.aload_n 0, 1) := by decide +kernel
theorem dX7_take_63 : decode cX7_take 63 = .ok (.aload_n 1, 1) := by decide +kernel
theorem dX7_take_64 : decode cX7_take 64 = .ok (.iload_n 2, 1) := by decide +kernel
theorem dX7_take_65 : decode cX7_take 65 = .ok (.iload 4, 2) := by decide +kernel
theorem dX7_take_67 : decode cX7_take 67 = .ok (.iload 5, 2) := by decide +kernel
theorem dX7_take_69 : decode cX7_take 69 = .ok (.invokevirtual 30, 3) := by decide +kernel
