theorem dX10_base_73 : decode cX10_base 73 = .ok (.aload_n 0, 1) := by decide +kernel
theorem dX10_base_74 : decode cX10_base 74 = .ok (.getfield 72, 3) := by decide +kernel
theorem dX10_base_77 : decode cX10_base 77 = .ok (.invokevirtual 266, 3) := by decide +kernel
theorem dX10_base_80 : decode cX10_base 80 = .ok (.istore 7, 2) := by decide +kernel
theorem dX10_base_82 : decode cX10_base 82 = .ok (.iload_n 1, 1) := by decide +kernel
theorem dX10_base_83 : decode cX10_base 83 = .ok (.bipush (-4), 2) := by decide +kernel
theorem dX10_base_85 : decode cX10_base 85 = .ok (.if_icmp .eq 21, 3) := by decide +kernel
theorem dX10_base_88 : decode cX10_base 88 = .ok (.iload 6, 2) := by decide +kernel
theorem dX10_base_90 : decode cX10_base 90 = .ok (.iload_n 2, 1) := by decide +kernel
theorem dX10_base_91 : decode cX10_base 91 = .ok (.if_icmp .gt 15, 3) := by decide +kernel
theorem dX10_base_94 : decode cX10_base 94 = .ok (.iload 6, 2) := by decide +kernel
theorem dX10_base_96 : decode cX10_base 96 = .ok (.iload_n 2, 1) := by decide +kernel
theorem dX10_base_97 : decode cX10_base 97 = .ok (.if_icmp .ne 13, 3) := by decide +kernel
theorem dX10_base_100 : decode cX10_base 100 = .ok (.iload 7, 2) := by decide +kernel
theorem dX10_base_102 : decode cX10_base 102 = .ok (.iload_n 3, 1) := by decide +kernel
theorem dX10_base_103 : decode cX10_base 103 = .ok (.if_icmp .ge 7, 3) := by decide +kernel
theorem dX10_base_106 : decode cX10_base 106 = .ok (.iconst 1, 1) := by decide +kernel
theorem dX10_base_107 : decode cX10_base 107 = .ok (.goto 4, 3) := by decide +kernel
theorem dX10_base_110 : decode cX10_base 110 = .ok (.iconst 0, 1) := by decide +kernel
theorem dX10_base_111 : decode cX10_base 111 = .ok (.istore 8, 2) := by decide +kernel
theorem dX10_base_113 : decode cX10_base 113 = .ok (.iload 7, 2) := by decide +kernel
theorem dX10_base_115 : decode cX10_base 115 = .ok (.ifCond .le 22, 3) := by decide +kernel
theorem dX10_base_118 : decode cX10_base 118 = .ok (.iload 8, 2) := by decide +kernel
theorem dX10_base_120 : decode cX10_base 120 = .ok (.ifCond .eq 17, 3) := by decide +kernel
theorem dX10_base_123 : decode cX10_base 123 = .ok (.iload 5, 2) := by decide +kernel
theorem dX10_base_125 : decode cX10_base 125 = .ok (.iload 4, 2) := by decide +kernel
theorem dX10_base_127 : decode cX10_base 127 = .ok (.invokestatic 138, 3) := by decide +kernel
theorem dX10_base_130 : decode cX10_base 130 = .ok (.istore_n 1, 1) := by decide +kernel
theorem dX10_base_131 : decode cX10_base 131 = .ok (.iload 6, 2) := by decide +kernel
theorem dX10_base_133 : decode cX10_base 133 = .ok (.istore_n 2, 1) := by decide +kernel
theorem dX10_base_134 : decode cX10_base 134 = .ok (.iload 7, 2) := by decide +kernel
theorem dX10_base_136 : decode cX10_base 136 = .ok (.istore_n 3, 1) := by decide +kernel
theorem dX10_base_137 : decode cX10_base 137 = .ok (.iinc 5 1, 3) := by decide +kernel
theorem dX10_base_140 : decode cX10_base 140 = .ok (.goto (-115), 3) := by decide +kernel
theorem dX10_base_143 : decode cX10_base 143 = .ok (.iinc 4 1, 3) := by decide +kernel
theorem dX10_base_146 : decode cX10_base 146 = .ok (.goto (-136), 3) := by decide +kernel
theorem dX10_base_149 : decode cX10_base 149 = .ok (.iload_n 1, 1) := by decide +kernel
theorem dX10_base_150 : decode cX10_base 150 = .ok (.ireturn, 1) := by decide +kernel
theorem dX10_tells_0 : decode cX10_tells 0 = .ok (.aload_n 0, 1) := by decide +kernel
theorem dX10_tells_1 : decode cX10_tells 1 = .ok (.getfield 28, 3) := by decide +kernel
theorem dX10_tells_4 : decode cX10_tells 4 = .ok (.iload_n 1, 1) := by decide +kernel
theorem dX10_tells_5 : decode cX10_tells 5 = .ok (.invokevirtual 260, 3) := by decide +kernel
theorem dX10_tells_8 : decode cX10_tells 8 = .ok (.ifCond .eq 28, 3) := by decide +kernel
theorem dX10_tells_11 : decode cX10_tells 11 = .ok (.iload_n 2, 1) := by decide +kernel
theorem dX10_tells_12 : decode cX10_tells 12 = .ok (.ifCond .le 24, 3) := by decide +kernel
theorem dX10_tells_15 : decode cX10_tells 15 = .ok (.iload_n 2, 1) := by decide +kernel
theorem dX10_tells_16 : decode cX10_tells 16 = .ok (.iconst 1, 1) := by decide +kernel
theorem dX10_tells_17 : decode cX10_tells 17 = .ok (.aload_n 0, 1) := by decide +kernel
theorem dX10_tells_18 : decode cX10_tells 18 = .ok (.getfield 28, 3) := by decide +kernel
theorem dX10_tells_21 : decode cX10_tells 21 = .ok (.getfield 245, 3) := by decide +kernel
theorem dX10_tells_24 : decode cX10_tells 24 = .ok (.ishl, 1) := by decide +kernel
theorem dX10_tells_25 : decode cX10_tells 25 = .ok (.if_icmp .ge 11, 3) := by decide +kernel
theorem dX10_tells_28 : decode cX10_tells 28 = .ok (.iload_n 2, 1) := by decide +kernel
theorem dX10_tells_29 : decode cX10_tells 29 = .ok (.iload_n 1, 1) := by decide +kernel
theorem dX10_tells_30 : decode cX10_tells 30 = .ok (.invokestatic 284, 3) := by decide +kernel
theorem dX10_tells_33 : decode cX10_tells 33 = .ok (.ifCond .eq 5, 3) := by decide +kernel
theorem dX10_tells_36 : decode cX10_tells 36 = .ok (.iconst (-1), 1) := by decide +kernel
theorem dX10_tells_37 : decode cX10_tells 37 = .ok (.ireturn, 1) := by decide +kernel
theorem dX10_tells_38 : decode cX10_tells 38 = .ok (.aload_n 0, 1) := by decide +kernel
theorem dX10_tells_39 : decode cX10_tells 39 = .ok (.getfield 28, 3) := by decide +kernel
theorem dX10_tells_42 : decode cX10_tells 42 = .ok (.iload_n 1, 1) := by decide +kernel
theorem dX10_tells_43 : decode cX10_tells 43 = .ok (.iload_n 2, 1) := by decide +kernel
theorem dX10_tells_44 : decode cX10_tells 44 = .ok (.invokevirtual 287, 3) := by decide +kernel
theorem dX10_tells_47 : decode cX10_tells 47 = .ok (.invokestatic 159, 3) := by decide +kernel
theorem dX10_tells_50 : decode cX10_tells 50 = .ok (.ireturn, 1) := by decide +kernel
theorem dX10_words_0 : decode cX10_words 0 = .ok (.aload_n 0, 1) := by decide +kernel
theorem dX10_words_1 : decode cX10_words 1 = .ok (.getfield 28, 3) := by decide +kernel
theorem dX10_words_4 : decode cX10_words 4 = .ok (.iload_n 1, 1) := by decide +kernel
theorem dX10_words_5 : decode cX10_words 5 = .ok (.invokevirtual 260, 3) := by decide +kernel
theorem dX10_words_8 : decode cX10_words 8 = .ok (.ifCond .eq 12, 3) := by decide +kernel
theorem dX10_words_11 : decode cX10_words 11 = .ok (.iload_n 2, 1) := by decide +kernel
theorem dX10_words_12 : decode cX10_words 12 = .ok (.ifCond .lt 8, 3) := by decide +kernel
theorem dX10_words_15 : decode cX10_words 15 = .ok (.iload_n 2, 1) := by decide +kernel
theorem dX10_words_16 : decode cX10_words 16 = .ok (.iconst 1, 1) := by decide +kernel
theorem dX10_words_17 : decode cX10_words 17 = .ok (.if_icmp .le 5, 3) := by decide +kernel
theorem dX10_words_20 : decode cX10_words 20 = .ok (.iconst (-1), 1) := by decide +kernel
theorem dX10_words_21 : decode cX10_words 21 = .ok (.ireturn, 1) := by decide +kernel
theorem dX10_words_22 : decode cX10_words 22 = .ok (.iconst 0, 1) := by decide +kernel
theorem dX10_words_23 : decode cX10_words 23 = .ok (.istore_n 3, 1) := by decide +kernel
theorem dX10_words_24 : decode cX10_words 24 = .ok (.iconst 1, 1) := by decide +kernel
theorem dX10_words_25 : decode cX10_words 25 = .ok (.istore 4, 2) := by decide +kernel
theorem dX10_words_27 : decode cX10_words 27 = .ok (.iload 4, 2) := by decide +kernel
theorem dX10_words_29 : decode cX10_words 29 = .ok (.iconst 1, 1) := by decide +kernel
theorem dX10_words_30 : decode cX10_words 30 = .ok (.aload_n 0, 1) := by decide +kernel
theorem dX10_words_31 : decode cX10_words 31 = .ok (.getfield 28, 3) := by decide +kernel
theorem dX10_words_34 : decode cX10_words 34 = .ok (.getfield 245, 3) := by decide +kernel
theorem dX10_words_37 : decode cX10_words 37 = .ok (.ishl, 1) := by decide +kernel
theorem dX10_words_38 : decode cX10_words 38 = .ok (.if_icmp .ge 62, 3) := by decide +kernel
theorem dX10_words_41 : decode cX10_words 41 = .ok (.iload_n 3, 1) := by decide +kernel
theorem dX10_words_42 : decode cX10_words 42 = .ok (.ifCond .eq 15, 3) := by decide +kernel
theorem dX10_words_45 : decode cX10_words 45 = .ok (.iload 4, 2) := by decide +kernel
theorem dX10_words_47 : decode cX10_words 47 = .ok (.invokestatic 192, 3) := by decide +kernel
theorem dX10_words_50 : decode cX10_words 50 = .ok (.iload_n 3, 1) := by decide +kernel
theorem dX10_words_51 : decode cX10_words 51 = .ok (.invokestatic 192, 3) := by decide +kernel
theorem dX10_words_54 : decode cX10_words 54 = .ok (.if_icmp .ge 7, 3) := by decide +kernel
theorem dX10_words_57 : decode cX10_words 57 = .ok (.iconst 1, 1) := by decide +kernel
theorem dX10_words_58 : decode cX10_words 58 = .ok (.goto 4, 3) := by decide +kernel
theorem dX10_words_61 : decode cX10_words 61 = .ok (.iconst 0, 1) := by decide +kernel
theorem dX10_words_62 : decode cX10_words 62 = .ok (.istore 5, 2) := by decide +kernel
theorem dX10_words_64 : decode cX10_words 64 = .ok (.iload 5, 2) := by decide +kernel
theorem dX10_words_66 : decode cX10_words 66 = .ok (.ifCond .eq 28, 3) := by decide +kernel
theorem dX10_words_69 : decode cX10_words 69 = .ok (.iload 4, 2) := by decide +kernel
theorem dX10_words_71 : decode cX10_words 71 = .ok (.iload_n 1, 1) := by decide +kernel
theorem dX10_words_72 : decode cX10_words 72 = .ok (.invokestatic 284, 3) := by decide +kernel
theorem dX10_words_75 : decode cX10_words 75 = .ok (.ifCond .ne 19, 3) := by decide +kernel
theorem dX10_words_78 : decode cX10_words 78 = .ok (.aload_n 0, 1) := by decide +kernel
theorem dX10_words_79 : decode cX10_words 79 = .ok (.getfield 28, 3) := by decide +kernel
theorem dX10_words_82 : decode cX10_words 82 = .ok (.iload_n 1, 1) := by decide +kernel
theorem dX10_words_83 : decode cX10_words 83 = .ok (.iload 4, 2) := by decide +kernel
theorem dX10_words_85 : decode cX10_words 85 = .ok (.invokevirtual 287, 3) := by decide +kernel
theorem dX10_words_88 : decode cX10_words 88 = .ok (.ifCond .eq 6, 3) := by decide +kernel
theorem dX10_words_91 : decode cX10_words 91 = .ok (.iload 4, 2) := by decide +kernel
theorem dX10_words_93 : decode cX10_words 93 = .ok (.istore_n 3, 1) := by decide +kernel
theorem dX10_words_94 : decode cX10_words 94 = .ok (.iinc 4 1, 3) := by decide +kernel
theorem dX10_words_97 : decode cX10_words 97 = .ok (.goto (-70), 3) := by decide +kernel
theorem dX10_words_100 : decode cX10_words 100 = .ok (.iload_n 3, 1) := by decide +kernel
theorem dX10_words_101 : decode cX10_words 101 = .ok (.ifCond .ne 6, 3) := by decide +kernel
theorem dX10_words_104 : decode cX10_words 104 = .ok (.bipush (-4), 2) := by decide +kernel
theorem dX10_words_106 : decode cX10_words 106 = .ok (.ireturn, 1) := by decide +kernel
theorem dX10_words_107 : decode cX10_words 107 = .ok (.iload_n 2, 1) := by decide +kernel
theorem dX10_words_108 : decode cX10_words 108 = .ok (.ifCond .ne 10, 3) := by decide +kernel
theorem dX10_words_111 : decode cX10_words 111 = .ok (.iload_n 3, 1) := by decide +kernel
theorem dX10_words_112 : decode cX10_words 112 = .ok (.invokestatic 192, 3) := by decide +kernel
theorem dX10_words_115 : decode cX10_words 115 = .ok (.goto 4, 3) := by decide +kernel
theorem dX10_words_118 : decode cX10_words 118 = .ok (.iload_n 3, 1) := by decide +kernel
theorem dX10_words_119 : decode cX10_words 119 = .ok (.ireturn, 1) := by decide +kernel
theorem dX10_at_0 : decode cX10_at 0 = .ok (.aload_n 0, 1) := by decide +kernel
theorem dX10_at_1 : decode cX10_at 1 = .ok (.getfield 28, 3) := by decide +kernel
theorem dX10_at_4 : decode cX10_at 4 = .ok (.iload_n 1, 1) := by decide +kernel
theorem dX10_at_5 : decode cX10_at 5 = .ok (.iload_n 3, 1) := by decide +kernel
theorem dX10_at_6 : decode cX10_at 6 = .ok (.invokevirtual 122, 3) := by decide +kernel
theorem dX10_at_9 : decode cX10_at 9 = .ok (.ifCond .eq 18, 3) := by decide +kernel
theorem dX10_at_12 : decode cX10_at 12 = .ok (.iload_n 2, 1) := by decide +kernel
theorem dX10_at_13 : decode cX10_at 13 = .ok (.invokestatic 130, 3) := by decide +kernel
theorem dX10_at_16 : decode cX10_at 16 = .ok (.ifCond .eq 11, 3) := by decide +kernel
theorem dX10_at_19 : decode cX10_at 19 = .ok (.iload 4, 2) := by decide +kernel
theorem dX10_at_21 : decode cX10_at 21 = .ok (.invokestatic 130, 3) := by decide +kernel
theorem dX10_at_24 : decode cX10_at 24 = .ok (.ifCond .ne 5, 3) := by decide +kernel
theorem dX10_at_27 : decode cX10_at 27 = .ok (.iconst (-1), 1) := by decide +kernel
theorem dX10_at_28 : decode cX10_at 28 = .ok (.ireturn, 1) := by decide +kernel
theorem dX10_at_29 : decode cX10_at 29 = .ok (.iconst 0, 1) := by decide +kernel
theorem dX10_at_30 : decode cX10_at 30 = .ok (.istore 5, 2) := by decide +kernel
theorem dX10_at_32 : decode cX10_at 32 = .ok (.iconst 0, 1) := by decide +kernel
theorem dX10_at_33 : decode cX10_at 33 = .ok (.istore 6, 2) := by decide +kernel
theorem dX10_at_35 : decode cX10_at 35 = .ok (.iload 6, 2) := by decide +kernel
theorem dX10_at_37 : decode cX10_at 37 = .ok (.aload_n 0, 1) := by decide +kernel
theorem dX10_at_38 : decode cX10_at 38 = .ok (.getfield 28, 3) := by decide +kernel
theorem dX10_at_41 : decode cX10_at 41 = .ok (.getfield 245, 3) := by decide +kernel
theorem dX10_at_44 : decode cX10_at 44 = .ok (.if_icmp .ge 47, 3) := by decide +kernel
theorem dX10_at_47 : decode cX10_at 47 = .ok (.aload_n 0, 1) := by decide +kernel
theorem dX10_at_48 : decode cX10_at 48 = .ok (.getfield 28, 3) := by decide +kernel
theorem dX10_at_51 : decode cX10_at 51 = .ok (.iload_n 1, 1) := by decide +kernel
theorem dX10_at_52 : decode cX10_at 52 = .ok (.iload 6, 2) := by decide +kernel
theorem dX10_at_54 : decode cX10_at 54 = .ok (.invokevirtual 213, 3) := by decide +kernel
theorem dX10_at_57 : decode cX10_at 57 = .ok (.iload_n 2, 1) := by decide +kernel
theorem dX10_at_58 : decode cX10_at 58 = .ok (.if_icmp .ne 27, 3) := by decide +kernel
theorem dX10_at_61 : decode cX10_at 61 = .ok (.aload_n 0, 1) := by decide +kernel
theorem dX10_at_62 : decode cX10_at 62 = .ok (.getfield 28, 3) := by decide +kernel
theorem dX10_at_65 : decode cX10_at 65 = .ok (.iload_n 3, 1) := by decide +kernel
theorem dX10_at_66 : decode cX10_at 66 = .ok (.iload 6, 2) := by decide +kernel
theorem dX10_at_68 : decode cX10_at 68 = .ok (.invokevirtual 213, 3) := by decide +kernel
theorem dX10_at_71 : decode cX10_at 71 = .ok (.iload 4, 2) := by decide +kernel
theorem dX10_at_73 : decode cX10_at 73 = .ok (.if_icmp .ne 12, 3) := by decide +kernel
theorem dX10_at_76 : decode cX10_at 76 = .ok (.iload 5, 2) := by decide +kernel
theorem dX10_at_78 : decode cX10_at 78 = .ok (.iconst 1, 1) := by decide +kernel
theorem dX10_at_79 : decode cX10_at 79 = .ok (.iload 6, 2) := by decide +kernel
theorem dX10_at_81 : decode cX10_at 81 = .ok (.ishl, 1) := by decide +kernel
theorem dX10_at_82 : decode cX10_at 82 = .ok (.ior, 1) := by decide +kernel
theorem dX10_at_83 : decode cX10_at 83 = .ok (.istore 5, 2) := by decide +kernel
theorem dX10_at_85 : decode cX10_at 85 = .ok (.iinc 6 1, 3) := by decide +kernel
theorem dX10_at_88 : decode cX10_at 88 = .ok (.goto (-53), 3) := by decide +kernel
theorem dX10_at_91 : decode cX10_at 91 = .ok (.iload 5, 2) := by decide +kernel
theorem dX10_at_93 : decode cX10_at 93 = .ok (.ireturn, 1) := by decide +kernel
theorem dX10_spots_0 : decode cX10_spots 0 = .ok (.aload_n 0, 1) := by decide +kernel
theorem dX10_spots_1 : decode cX10_spots 1 = .ok (.getfield 28, 3) := by decide +kernel
theorem dX10_spots_4 : decode cX10_spots 4 = .ok (.iload_n 1, 1) := by decide +kernel
theorem dX10_spots_5 : decode cX10_spots 5 = .ok (.iload_n 3, 1) := by decide +kernel
theorem dX10_spots_6 : decode cX10_spots 6 = .ok (.invokevirtual 122, 3) := by decide +kernel
theorem dX10_spots_9 : decode cX10_spots 9 = .ok (.ifCond .eq 18, 3) := by decide +kernel
theorem dX10_spots_12 : decode cX10_spots 12 = .ok (.iload_n 2, 1) := by decide +kernel
theorem dX10_spots_13 : decode cX10_spots 13 = .ok (.invokestatic 130, 3) := by decide +kernel
theorem dX10_spots_16 : decode cX10_spots 16 = .ok (.ifCond .eq 11, 3) := by decide +kernel
theorem dX10_spots_19 : decode cX10_spots 19 = .ok (.iload 4, 2) := by decide +kernel
theorem dX10_spots_21 : decode cX10_spots 21 = .ok (.invokestatic 130, 3) := by decide +kernel
theorem dX10_spots_24 : decode cX10_spots 24 = .ok (.ifCond .ne 5, 3) := by decide +kernel
theorem dX10_spots_27 : decode cX10_spots 27 = .ok (.iconst (-1), 1) := by decide +kernel
theorem dX10_spots_28 : decode cX10_spots 28 = .ok (.ireturn, 1) := by decide +kernel
theorem dX10_spots_29 : decode cX10_spots 29 = .ok (.aload_n 0, 1) := by decide +kernel
theorem dX10_spots_30 : decode cX10_spots 30 = .ok (.getfield 28, 3) := by decide +kernel
theorem dX10_spots_33 : decode cX10_spots 33 = .ok (.iload_n 1, 1) := by decide +kernel
theorem dX10_spots_34 : decode cX10_spots 34 = .ok (.iload_n 3, 1) := by decide +kernel
theorem dX10_spots_35 : decode cX10_spots 35 = .ok (.invokevirtual 213, 3) := by decide +kernel
theorem dX10_spots_38 : decode cX10_spots 38 = .ok (.ifCond .ne 6, 3) := by decide +kernel
theorem dX10_spots_41 : decode cX10_spots 41 = .ok (.bipush (-2), 2) := by decide +kernel
theorem dX10_spots_43 : decode cX10_spots 43 = .ok (.ireturn, 1) := by decide +kernel
theorem dX10_spots_44 : decode cX10_spots 44 = .ok (.aload_n 0, 1) := by decide +kernel
theorem dX10_spots_45 : decode cX10_spots 45 = .ok (.getfield 28, 3) := by decide +kernel
theorem dX10_spots_48 : decode cX10_spots 48 = .ok (.iload_n 1, 1) := by decide +kernel
theorem dX10_spots_49 : decode cX10_spots 49 = .ok (.iload_n 3, 1) := by decide +kernel
theorem dX10_spots_50 : decode cX10_spots 50 = .ok (.invokevirtual 213, 3) := by decide +kernel
theorem dX10_spots_53 : decode cX10_spots 53 = .ok (.i2l, 1) := by decide +kernel
theorem dX10_spots_54 : decode cX10_spots 54 = .ok (.iload_n 2, 1) := by decide +kernel
theorem dX10_spots_55 : decode cX10_spots 55 = .ok (.i2l, 1) := by decide +kernel
theorem dX10_spots_56 : decode cX10_spots 56 = .ok (.iload 4, 2) := by decide +kernel
theorem dX10_spots_58 : decode cX10_spots 58 = .ok (.i2l, 1) := by decide +kernel
theorem dX10_spots_59 : decode cX10_spots 59 = .ok (.invokestatic 290, 3) := by decide +kernel
theorem dX10_spots_62 : decode cX10_spots 62 = .ok (.invokestatic 294, 3) := by decide +kernel
theorem dX10_spots_65 : decode cX10_spots 65 = .ok (.iconst 1, 1) := by decide +kernel
theorem dX10_spots_66 : decode cX10_spots 66 = .ok (.iadd, 1) := by decide +kernel
theorem dX10_spots_67 : decode cX10_spots 67 = .ok (.ireturn, 1) := by decide +kernel
theorem dX10_maps_0 : decode cX10_maps 0 = .ok (.aload_n 0, 1) := by decide +kernel
theorem dX10_maps_1 : decode cX10_maps 1 = .ok (.getfield 28, 3) := by decide +kernel
theorem dX10_maps_4 : decode cX10_maps 4 = .ok (.iload_n 2, 1) := by decide +kernel
theorem dX10_maps_5 : decode cX10_maps 5 = .ok (.bipush 10, 2) := by decide +kernel
theorem dX10_maps_7 : decode cX10_maps 7 = .ok (.isub, 1) := by decide +kernel
theorem dX10_maps_8 : decode cX10_maps 8 = .ok (.invokevirtual 260, 3) := by decide +kernel
theorem dX10_maps_11 : decode cX10_maps 11 = .ok (.istore_n 3, 1) := by decide +kernel
theorem dX10_maps_12 : decode cX10_maps 12 = .ok (.iload_n 1, 1) := by decide +kernel
theorem dX10_maps_13 : decode cX10_maps 13 = .ok (.invokestatic 300, 3) := by decide +kernel
theorem dX10_maps_16 : decode cX10_maps 16 = .ok (.ifCond .eq 11, 3) := by decide +kernel
theorem dX10_maps_19 : decode cX10_maps 19 = .ok (.iload_n 3, 1) := by decide +kernel
theorem dX10_maps_20 : decode cX10_maps 20 = .ok (.ifCond .ne 9, 3) := by decide +kernel
theorem dX10_maps_23 : decode cX10_maps 23 = .ok (.iload_n 2, 1) := by decide +kernel
theorem dX10_maps_24 : decode cX10_maps 24 = .ok (.ifCond .eq 5, 3) := by decide +kernel
theorem dX10_maps_27 : decode cX10_maps 27 = .ok (.iconst (-1), 1) := by decide +kernel
theorem dX10_maps_28 : decode cX10_maps 28 = .ok (.ireturn, 1) := by decide +kernel
theorem dX10_maps_29 : decode cX10_maps 29 = .ok (.aload_n 0, 1) := by decide +kernel
theorem dX10_maps_30 : decode cX10_maps 30 = .ok (.getfield 41, 3) := by decide +kernel
theorem dX10_maps_33 : decode cX10_maps 33 = .ok (.iload_n 1, 1) := by decide +kernel
theorem dX10_maps_34 : decode cX10_maps 34 = .ok (.aaload, 1) := by decide +kernel
theorem dX10_maps_35 : decode cX10_maps 35 = .ok (.getfield 115, 3) := by decide +kernel
theorem dX10_maps_38 : decode cX10_maps 38 = .ok (.ifCond .ne 6, 3) := by decide +kernel
theorem dX10_maps_41 : decode cX10_maps 41 = .ok (.bipush (-2), 2) := by decide +kernel
theorem dX10_maps_43 : decode cX10_maps 43 = .ok (.ireturn, 1) := by decide +kernel
theorem dX10_maps_44 : decode cX10_maps 44 = .ok (.aload_n 0, 1) := by decide +kernel
theorem dX10_maps_45 : decode cX10_maps 45 = .ok (.getfield 79, 3) := by decide +kernel
theorem dX10_maps_48 : decode cX10_maps 48 = .ok (.aload_n 0, 1) := by decide +kernel
theorem dX10_maps_49 : decode cX10_maps 49 = .ok (.getfield 41, 3) := by decide +kernel
theorem dX10_maps_52 : decode cX10_maps 52 = .ok (.iload_n 1, 1) := by decide +kernel
theorem dX10_maps_53 : decode cX10_maps 53 = .ok (.aaload, 1) := by decide +kernel
theorem dX10_maps_54 : decode cX10_maps 54 = .ok (.getfield 303, 3) := by decide +kernel
theorem dX10_maps_57 : decode cX10_maps 57 = .ok (.iload_n 3, 1) := by decide +kernel
theorem dX10_maps_58 : decode cX10_maps 58 = .ok (.invokevirtual 304, 3) := by decide +kernel
theorem dX10_maps_61 : decode cX10_maps 61 = .ok (.iload_n 3, 1) := by decide +kernel
theorem dX10_maps_62 : decode cX10_maps 62 = .ok (.ifCond .ne 11, 3) := by decide +kernel
theorem dX10_maps_65 : decode cX10_maps 65 = .ok (.aload_n 0, 1) := by decide +kernel
theorem dX10_maps_66 : decode cX10_maps 66 = .ok (.getfield 79, 3) := by decide +kernel
theorem dX10_maps_69 : decode cX10_maps 69 = .ok (.getfield 308, 3) := by decide +kernel
theorem dX10_maps_72 : decode cX10_maps 72 = .ok (.ireturn, 1) := by decide +kernel
theorem dX10_maps_73 : decode cX10_maps 73 = .ok (.aload_n 0, 1) := by decide +kernel
theorem dX10_maps_74 : decode cX10_maps 74 = .ok (.getfield 79, 3) := by decide +kernel
theorem dX10_maps_77 : decode cX10_maps 77 = .ok (.getfield 308, 3) := by decide +kernel
theorem dX10_maps_80 : decode cX10_maps 80 = .ok (.ifCond .le 17, 3) := by decide +kernel
theorem dX10_maps_83 : decode cX10_maps 83 = .ok (.aload_n 0, 1) := by decide +kernel
theorem dX10_maps_84 : decode cX10_maps 84 = .ok (.getfield 79, 3) := by decide +kernel
theorem dX10_maps_87 : decode cX10_maps 87 = .ok (.iload_n 2, 1) := by decide +kernel
theorem dX10_maps_88 : decode cX10_maps 88 = .ok (.bipush 10, 2) := by decide +kernel
theorem dX10_maps_90 : decode cX10_maps 90 = .ok (.isub, 1) := by decide +kernel
theorem dX10_maps_91 : decode cX10_maps 91 = .ok (.invokevirtual 311, 3) := by decide +kernel
theorem dX10_maps_94 : decode cX10_maps 94 = .ok (.goto 5, 3) := by decide +kernel
theorem dX10_maps_97 : decode cX10_maps 97 = .ok (.bipush (-4), 2) := by decide +kernel
theorem dX10_maps_99 : decode cX10_maps 99 = .ok (.ireturn, 1) := by decide +kernel
theorem dX10_part_0 : decode cX10_part 0 = .ok (.iload_n 1, 1) := by decide +kernel
theorem dX10_part_1 : decode cX10_part 1 = .ok (.iconst 1, 1) := by decide +kernel
theorem dX10_part_2 : decode cX10_part 2 = .ok (.if_icmp .lt 9, 3) := by decide +kernel
theorem dX10_part_5 : decode cX10_part 5 = .ok (.iload_n 1, 1) := by decide +kernel
theorem dX10_part_6 : decode cX10_part 6 = .ok (.bipush 99, 2) := by decide +kernel
theorem dX10_part_8 : decode cX10_part 8 = .ok (.if_icmp .le 5, 3) := by decide +kernel
theorem dX10_part_11 : decode cX10_part 11 = .ok (.iconst (-1), 1) := by decide +kernel
theorem dX10_part_12 : decode cX10_part 12 = .ok (.ireturn, 1) := by decide +kernel
theorem dX10_part_13 : decode cX10_part 13 = .ok (.aload_n 0, 1) := by decide +kernel
theorem dX10_part_14 : decode cX10_part 14 = .ok (.getfield 35, 3) := by decide +kernel
theorem dX10_part_17 : decode cX10_part 17 = .ok (.iload_n 1, 1) := by decide +kernel
theorem dX10_part_18 : decode cX10_part 18 = .ok (.invokevirtual 314, 3) := by decide +kernel
theorem dX10_part_21 : decode cX10_part 21 = .ok (.ifCond .eq 13, 3) := by decide +kernel
theorem dX10_part_24 : decode cX10_part 24 = .ok (.aload_n 0, 1) := by decide +kernel
theorem dX10_part_25 : decode cX10_part 25 = .ok (.getfield 35, 3) := by decide +kernel
theorem dX10_part_28 : decode cX10_part 28 = .ok (.getfield 112, 3) := by decide +kernel
theorem dX10_part_31 : decode cX10_part 31 = .ok (.goto 5, 3) := by decide +kernel
theorem dX10_part_34 : decode cX10_part 34 = .ok (.bipush (-3), 2) := by decide +kernel
theorem dX10_part_36 : decode cX10_part 36 = .ok (.ireturn, 1) := by decide +kernel
theorem dX10_clear_0 : decode cX10_clear 0 = .ok (.aload_n 0, 1) := by decide +kernel
theorem dX10_clear_1 : decode cX10_clear 1 = .ok (.getfield 35, 3) := by decide +kernel
theorem dX10_clear_4 : decode cX10_clear 4 = .ok (.getfield 112, 3) := by decide +kernel
theorem dX10_clear_7 : decode cX10_clear 7 = .ok (.istore_n 1, 1) := by decide +kernel
theorem dX10_clear_8 : decode cX10_clear 8 = .ok (.aload_n 0, 1) := by decide +kernel
theorem dX10_clear_9 : decode cX10_clear 9 = .ok (.getfield 35, 3) := by decide +kernel
theorem dX10_clear_12 : decode cX10_clear 12 = .ok (.iconst 0, 1) := by decide +kernel
theorem dX10_clear_13 : decode cX10_clear 13 = .ok (.putfield 112, 3) := by decide +kernel
theorem dX10_clear_16 : decode cX10_clear 16 = .ok (.iload_n 1, 1) := by decide +kernel
theorem dX10_clear_17 : decode cX10_clear 17 = .ok (.ireturn, 1) := by decide +kernel
theorem dX10_road_0 : decode cX10_road 0 = .ok (.iload_n 1, 1) := by decide +kernel
theorem dX10_road_1 : decode cX10_road 1 = .ok (.ifCond .lt 8, 3) := by decide +kernel
theorem dX10_road_4 : decode cX10_road 4 = .ok (.iload_n 1, 1) := by decide +kernel
theorem dX10_road_5 : decode cX10_road 5 = .ok (.iconst 1, 1) := by decide +kernel
theorem dX10_road_6 : decode cX10_road 6 = .ok (.if_icmp .le 5, 3) := by decide +kernel
theorem dX10_road_9 : decode cX10_road 9 = .ok (.iconst (-1), 1) := by decide +kernel
theorem dX10_road_10 : decode cX10_road 10 = .ok (.ireturn, 1) := by decide +kernel
theorem dX10_road_11 : decode cX10_road 11 = .ok (.aload_n 0, 1) := by decide +kernel
theorem dX10_road_12 : decode cX10_road 12 = .ok (.getfield 35, 3) := by decide +kernel
theorem dX10_road_15 : decode cX10_road 15 = .ok (.getfield 112, 3) := by decide +kernel
theorem dX10_road_18 : decode cX10_road 18 = .ok (.ifCond .ne 6, 3) := by decide +kernel
theorem dX10_road_21 : decode cX10_road 21 = .ok (.bipush (-2), 2) := by decide +kernel
theorem dX10_road_23 : decode cX10_road 23 = .ok (.ireturn, 1) := by decide +kernel
theorem dX10_road_24 : decode cX10_road 24 = .ok (.iload_n 1, 1) := by decide +kernel
theorem dX10_road_25 : decode cX10_road 25 = .ok (.ifCond .ne 13, 3) := by decide +kernel
theorem dX10_road_28 : decode cX10_road 28 = .ok (.aload_n 0, 1) := by decide +kernel
theorem dX10_road_29 : decode cX10_road 29 = .ok (.getfield 35, 3) := by decide +kernel
theorem dX10_road_32 : decode cX10_road 32 = .ok (.invokevirtual 316, 3) := by decide +kernel
theorem dX10_road_35 : decode cX10_road 35 = .ok (.goto 10, 3) := by decide +kernel
theorem dX10_road_38 : decode cX10_road 38 = .ok (.aload_n 0, 1) := by decide +kernel
theorem dX10_road_39 : decode cX10_road 39 = .ok (.getfield 35, 3) := by decide +kernel
theorem dX10_road_42 : decode cX10_road 42 = .ok (.invokevirtual 319, 3) := by decide +kernel
theorem dX10_road_45 : decode cX10_road 45 = .ok (.ireturn, 1) := by decide +kernel
theorem dX10_reaches_0 : decode cX10_reaches 0 = .ok (.aload_n 0, 1) := by decide +kernel
theorem dX10_reaches_1 : decode cX10_reaches 1 = .ok (.getfield 28, 3) := by decide +kernel
theorem dX10_reaches_4 : decode cX10_reaches 4 = .ok (.iload_n 1, 1) := by decide +kernel
theorem dX10_reaches_5 : decode cX10_reaches 5 = .ok (.iload_n 2, 1) := by decide +kernel
theorem dX10_reaches_6 : decode cX10_reaches 6 = .ok (.invokevirtual 122, 3) := by decide +kernel
theorem dX10_reaches_9 : decode cX10_reaches 9 = .ok (.ifCond .ne 5, 3) := by decide +kernel
theorem dX10_reaches_12 : decode cX10_reaches 12 = .ok (.iconst (-1), 1) := by decide +kernel
theorem dX10_reaches_13 : decode cX10_reaches 13 = .ok (.ireturn, 1) := by decide +kernel
theorem dX10_reaches_14 : decode cX10_reaches 14 = .ok (.aload_n 0, 1) := by decide +kernel
theorem dX10_reaches_15 : decode cX10_reaches 15 = .ok (.getfield 35, 3) := by decide +kernel
theorem dX10_reaches_18 : decode cX10_reaches 18 = .ok (.getfield 112, 3) := by decide +kernel
theorem dX10_reaches_21 : decode cX10_reaches 21 = .ok (.ifCond .ne 6, 3) := by decide +kernel
theorem dX10_reaches_24 : decode cX10_reaches 24 = .ok (.bipush (-2), 2) := by decide +kernel
theorem dX10_reaches_26 : decode cX10_reaches 26 = .ok (.ireturn, 1) := by decide +kernel
theorem dX10_reaches_27 : decode cX10_reaches 27 = .ok (.aload_n 0, 1) := by decide +kernel
theorem dX10_reaches_28 : decode cX10_reaches 28 = .ok (.getfield 28, 3) := by decide +kernel
theorem dX10_reaches_31 : decode cX10_reaches 31 = .ok (.iload_n 1, 1) := by decide +kernel
theorem dX10_reaches_32 : decode cX10_reaches 32 = .ok (.iload_n 2, 1) := by decide +kernel
theorem dX10_reaches_33 : decode cX10_reaches 33 = .ok (.invokevirtual 213, 3) := by decide +kernel
theorem dX10_reaches_36 : decode cX10_reaches 36 = .ok (.istore_n 3, 1) := by decide +kernel
theorem dX10_reaches_37 : decode cX10_reaches 37 = .ok (.iload_n 3, 1) := by decide +kernel
theorem dX10_reaches_38 : decode cX10_reaches 38 = .ok (.ifCond .ne 6, 3) := by decide +kernel
theorem dX10_reaches_41 : decode cX10_reaches 41 = .ok (.bipush (-4), 2) := by decide +kernel
theorem dX10_reaches_43 : decode cX10_reaches 43 = .ok (.ireturn, 1) := by decide +kernel
theorem dX10_reaches_44 : decode cX10_reaches 44 = .ok (.aload_n 0, 1) := by decide +kernel
theorem dX10_reaches_45 : decode cX10_reaches 45 = .ok (.getfield 35, 3) := by decide +kernel
theorem dX10_reaches_48 : decode cX10_reaches 48 = .ok (.invokevirtual 316, 3) := by decide +kernel
theorem dX10_reaches_51 : decode cX10_reaches 51 = .ok (.istore 4, 2) := by decide +kernel
theorem dX10_reaches_53 : decode cX10_reaches 53 = .ok (.aload_n 0, 1) := by decide +kernel
theorem dX10_reaches_54 : decode cX10_reaches 54 = .ok (.getfield 35, 3) := by decide +kernel
theorem dX10_reaches_57 : decode cX10_reaches 57 = .ok (.invokevirtual 319, 3) := by decide +kernel
theorem dX10_reaches_60 : decode cX10_reaches 60 = .ok (.istore 5, 2) := by decide +kernel
theorem dX10_reaches_62 : decode cX10_reaches 62 = .ok (.iload_n 3, 1) := by decide +kernel
theorem dX10_reaches_63 : decode cX10_reaches 63 = .ok (.iload 4, 2) := by decide +kernel
theorem dX10_reaches_65 : decode cX10_reaches 65 = .ok (.iload 4, 2) := by decide +kernel
theorem dX10_reaches_67 : decode cX10_reaches 67 = .ok (.imul, 1) := by decide +kernel
theorem dX10_reaches_68 : decode cX10_reaches 68 = .ok (.if_icmp .lt 16, 3) := by decide +kernel
theorem dX10_reaches_71 : decode cX10_reaches 71 = .ok (.iload_n 3, 1) := by decide +kernel
theorem dX10_reaches_72 : decode cX10_reaches 72 = .ok (.iload 5, 2) := by decide +kernel
theorem dX10_reaches_74 : decode cX10_reaches 74 = .ok (.iload 5, 2) := by decide +kernel
theorem dX10_reaches_76 : decode cX10_reaches 76 = .ok (.imul, 1) := by decide +kernel
theorem dX10_reaches_77 : decode cX10_reaches 77 = .ok (.if_icmp .gt 7, 3) := by decide +kernel
theorem dX10_reaches_80 : decode cX10_reaches 80 = .ok (.iconst 1, 1) := by decide +kernel
theorem dX10_reaches_81 : decode cX10_reaches 81 = .ok (.goto 4, 3) := by decide +kernel
theorem dX10_reaches_84 : decode cX10_reaches 84 = .ok (.iconst 0, 1) := by decide +kernel
theorem dX10_reaches_85 : decode cX10_reaches 85 = .ok (.invokestatic 159, 3) := by decide +kernel
theorem dX10_reaches_88 : decode cX10_reaches 88 = .ok (.ireturn, 1) := by decide +kernel
theorem dX10_keep_0 : decode cX10_keep 0 = .ok (.iload_n 1, 1) := by decide +kernel
theorem dX10_keep_1 : decode cX10_keep 1 = .ok (.invokestatic 300, 3) := by decide +kernel
theorem dX10_keep_4 : decode cX10_keep 4 = .ok (.ifCond .ne 5, 3) := by decide +kernel
theorem dX10_keep_7 : decode cX10_keep 7 = .ok (.iconst (-1), 1) := by decide +kernel
theorem dX10_keep_8 : decode cX10_keep 8 = .ok (.ireturn, 1) := by decide +kernel
theorem dX10_keep_9 : decode cX10_keep 9 = .ok (.aload_n 0, 1) := by decide +kernel
theorem dX10_keep_10 : decode cX10_keep 10 = .ok (.getfield 41, 3) := by decide +kernel
theorem dX10_keep_13 : decode cX10_keep 13 = .ok (.iload_n 1, 1) := by decide +kernel
theorem dX10_keep_14 : decode cX10_keep 14 = .ok (.aaload, 1) := by decide +kernel
theorem dX10_keep_15 : decode cX10_keep 15 = .ok (.astore_n 2, 1) := by decide +kernel
theorem dX10_keep_16 : decode cX10_keep 16 = .ok (.aload_n 2, 1) := by decide +kernel
theorem dX10_keep_17 : decode cX10_keep 17 = .ok (.getfield 115, 3) := by decide +kernel
theorem dX10_keep_20 : decode cX10_keep 20 = .ok (.invokestatic 159, 3) := by decide +kernel
theorem dX10_keep_23 : decode cX10_keep 23 = .ok (.istore_n 3, 1) := by decide +kernel
theorem dX10_keep_24 : decode cX10_keep 24 = .ok (.aload_n 2, 1) := by decide +kernel
theorem dX10_keep_25 : decode cX10_keep 25 = .ok (.getfield 303, 3) := by decide +kernel
theorem dX10_keep_28 : decode cX10_keep 28 = .ok (.aload_n 0, 1) := by decide +kernel
theorem dX10_keep_29 : decode cX10_keep 29 = .ok (.getfield 28, 3) := by decide +kernel
theorem dX10_keep_32 : decode cX10_keep 32 = .ok (.invokevirtual 109, 3) := by decide +kernel
theorem dX10_keep_35 : decode cX10_keep 35 = .ok (.aload_n 2, 1) := by decide +kernel
theorem dX10_keep_36 : decode cX10_keep 36 = .ok (.getfield 322, 3) := by decide +kernel
theorem dX10_keep_39 : decode cX10_keep 39 = .ok (.aload_n 0, 1) := by decide +kernel
theorem dX10_keep_40 : decode cX10_keep 40 = .ok (.getfield 35, 3) := by decide +kernel
theorem dX10_keep_43 : decode cX10_keep 43 = .ok (.invokevirtual 323, 3) := by decide +kernel
theorem dX10_keep_46 : decode cX10_keep 46 = .ok (.aload_n 2, 1) := by decide +kernel
theorem dX10_keep_47 : decode cX10_keep 47 = .ok (.iconst 1, 1) := by decide +kernel
theorem dX10_keep_48 : decode cX10_keep 48 = .ok (.putfield 115, 3) := by decide +kernel
theorem dX10_keep_51 : decode cX10_keep 51 = .ok (.iload_n 3, 1) := by decide +kernel
theorem dX10_keep_52 : decode cX10_keep 52 = .ok (.ireturn, 1) := by decide +kernel
theorem dX10_back_0 : decode cX10_back 0 = .ok (.iload_n 1, 1) := by decide +kernel
theorem dX10_back_1 : decode cX10_back 1 = .ok (.invokestatic 300, 3) := by decide +kernel
theorem dX10_back_4 : decode cX10_back 4 = .ok (.ifCond .ne 5, 3) := by decide +kernel
theorem dX10_back_7 : decode cX10_back 7 = .ok (.iconst (-1), 1) := by decide +kernel
theorem dX10_back_8 : decode cX10_back 8 = .ok (.ireturn, 1) := by decide +kernel
theorem dX10_back_9 : decode cX10_back 9 = .ok (.aload_n 0, 1) := by decide +kernel
theorem dX10_back_10 : decode cX10_back 10 = .ok (.getfield 41, 3) := by decide +kernel
theorem dX10_back_13 : decode cX10_back 13 = .ok (.iload_n 1, 1) := by decide +kernel
theorem dX10_back_14 : decode cX10_back 14 = .ok (.aaload, 1) := by decide +kernel
theorem dX10_back_15 : decode cX10_back 15 = .ok (.astore_n 2, 1) := by decide +kernel
theorem dX10_back_16 : decode cX10_back 16 = .ok (.aload_n 2, 1) := by decide +kernel
theorem dX10_back_17 : decode cX10_back 17 = .ok (.getfield 115, 3) := by decide +kernel
theorem dX10_back_20 : decode cX10_back 20 = .ok (.ifCond .ne 6, 3) := by decide +kernel
theorem dX10_back_23 : decode cX10_back 23 = .ok (.bipush (-2), 2) := by decide +kernel
theorem dX10_back_25 : decode cX10_back 25 = .ok (.ireturn, 1) := by decide +kernel
theorem dX10_back_26 : decode cX10_back 26 = .ok (.aload_n 0, 1) := by decide +kernel
theorem dX10_back_27 : decode cX10_back 27 = .ok (.getfield 28, 3) := by decide +kernel
theorem dX10_back_30 : decode cX10_back 30 = .ok (.aload_n 2, 1) := by decide +kernel
theorem dX10_back_31 : decode cX10_back 31 = .ok (.getfield 303, 3) := by decide +kernel
theorem dX10_back_34 : decode cX10_back 34 = .ok (.invokevirtual 109, 3) := by decide +kernel
theorem dX10_back_37 : decode cX10_back 37 = .ok (.aload_n 0, 1) := by decide +kernel
theorem dX10_back_38 : decode cX10_back 38 = .ok (.getfield 35, 3) := by decide +kernel
theorem dX10_back_41 : decode cX10_back 41 = .ok (.aload_n 2, 1) := by decide +kernel
theorem dX10_back_42 : decode cX10_back 42 = .ok (.getfield 322, 3) := by decide +kernel
theorem dX10_back_45 : decode cX10_back 45 = .ok (.invokevirtual 323, 3) := by decide +kernel
theorem dX10_back_48 : decode cX10_back 48 = .ok (.aload_n 0, 1) := by decide +kernel
theorem dX10_back_49 : decode cX10_back 49 = .ok (.getfield 28, 3) := by decide +kernel
theorem dX10_back_52 : decode cX10_back 52 = .ok (.invokevirtual 326, 3) := by decide +kernel
theorem dX10_back_55 : decode cX10_back 55 = .ok (.ireturn, 1) := by decide +kernel
theorem dX10_sheet_0 : decode cX10_sheet 0 = .ok (.iload_n 1, 1) := by decide +kernel
theorem dX10_sheet_1 : decode cX10_sheet 1 = .ok (.invokestatic 329, 3) := by decide +kernel
theorem dX10_sheet_4 : decode cX10_sheet 4 = .ok (.ifCond .eq 16, 3) := by decide +kernel
theorem dX10_sheet_7 : decode cX10_sheet 7 = .ok (.iload_n 2, 1) := by decide +kernel
theorem dX10_sheet_8 : decode cX10_sheet 8 = .ok (.invokestatic 332, 3) := by decide +kernel
theorem dX10_sheet_11 : decode cX10_sheet 11 = .ok (.ifCond .eq 9, 3) := by decide +kernel
theorem dX10_sheet_14 : decode cX10_sheet 14 = .ok (.iload_n 3, 1) := by decide +kernel
theorem dX10_sheet_15 : decode cX10_sheet 15 = .ok (.bipush 40, 2) := by decide +kernel
theorem dX10_sheet_17 : decode cX10_sheet 17 = .ok (.if_icmp .le 5, 3) := by decide +kernel
theorem dX10_sheet_20 : decode cX10_sheet 20 = .ok (.iconst (-1), 1) := by decide +kernel
theorem dX10_sheet_21 : decode cX10_sheet 21 = .ok (.ireturn, 1) := by decide +kernel
theorem dX10_sheet_22 : decode cX10_sheet 22 = .ok (.iload_n 3, 1) := by decide +kernel
theorem dX10_sheet_23 : decode cX10_sheet 23 = .ok (.ifCond .ge 6, 3) := by decide +kernel
theorem dX10_sheet_26 : decode cX10_sheet 26 = .ok (.bipush (-14), 2) := by decide +kernel
theorem dX10_sheet_28 : decode cX10_sheet 28 = .ok (.ireturn, 1) := by decide +kernel
theorem dX10_sheet_29 : decode cX10_sheet 29 = .ok (.aload_n 0, 1) := by decide +kernel
theorem dX10_sheet_30 : decode cX10_sheet 30 = .ok (.getfield 48, 3) := by decide +kernel
theorem dX10_sheet_33 : decode cX10_sheet 33 = .ok (.iload_n 1, 1) := by decide +kernel
theorem dX10_sheet_34 : decode cX10_sheet 34 = .ok (.aaload, 1) := by decide +kernel
theorem dX10_sheet_35 : decode cX10_sheet 35 = .ok (.iload_n 2, 1) := by decide +kernel
theorem dX10_sheet_36 : decode cX10_sheet 36 = .ok (.iload_n 3, 1) := by decide +kernel
theorem dX10_sheet_37 : decode cX10_sheet 37 = .ok (.invokevirtual 335, 3) := by decide +kernel
theorem dX10_sheet_40 : decode cX10_sheet 40 = .ok (.iconst 1, 1) := by decide +kernel
theorem dX10_sheet_41 : decode cX10_sheet 41 = .ok (.ireturn, 1) := by decide +kernel
theorem dX10_lay_0 : decode cX10_lay 0 = .ok (.iload_n 1, 1) := by decide +kernel
theorem dX10_lay_1 : decode cX10_lay 1 = .ok (.invokestatic 329, 3) := by decide +kernel
theorem dX10_lay_4 : decode cX10_lay 4 = .ok (.ifCond .ne 5, 3) := by decide +kernel
theorem dX10_lay_7 : decode cX10_lay 7 = .ok (.iconst (-1), 1) := by decide +kernel
theorem dX10_lay_8 : decode cX10_lay 8 = .ok (.ireturn, 1) := by decide +kernel
theorem dX10_lay_9 : decode cX10_lay 9 = .ok (.aload_n 0, 1) := by decide +kernel
theorem dX10_lay_10 : decode cX10_lay 10 = .ok (.getfield 48, 3) := by decide +kernel
theorem dX10_lay_13 : decode cX10_lay 13 = .ok (.iload_n 1, 1) := by decide +kernel
theorem dX10_lay_14 : decode cX10_lay 14 = .ok (.aaload, 1) := by decide +kernel
theorem dX10_lay_15 : decode cX10_lay 15 = .ok (.iload_n 2, 1) := by decide +kernel
theorem dX10_lay_16 : decode cX10_lay 16 = .ok (.iload_n 3, 1) := by decide +kernel
theorem dX10_lay_17 : decode cX10_lay 17 = .ok (.invokevirtual 339, 3) := by decide +kernel
theorem dX10_lay_20 : decode cX10_lay 20 = .ok (.istore 4, 2) := by decide +kernel
theorem dX10_lay_22 : decode cX10_lay 22 = .ok (.iload 4, 2) := by decide +kernel
theorem dX10_lay_24 : decode cX10_lay 24 = .ok (.ifCond .ne 7, 3) := by decide +kernel
theorem dX10_lay_27 : decode cX10_lay 27 = .ok (.iconst 1, 1) := by decide +kernel
theorem dX10_lay_28 : decode cX10_lay 28 = .ok (.goto 8, 3) := by decide +kernel
theorem dX10_lay_31 : decode cX10_lay 31 = .ok (.bipush (-10), 2) := by decide +kernel
theorem dX10_lay_33 : decode cX10_lay 33 = .ok (.iload 4, 2) := by decide +kernel
theorem dX10_lay_35 : decode cX10_lay 35 = .ok (.isub, 1) := by decide +kernel
theorem dX10_lay_36 : decode cX10_lay 36 = .ok (.ireturn, 1) := by decide +kernel
theorem dX10_read_0 : decode cX10_read 0 = .ok (.iload_n 1, 1) := by decide +kernel
theorem dX10_read_1 : decode cX10_read 1 = .ok (.invokestatic 329, 3) := by decide +kernel
theorem dX10_read_4 : decode cX10_read 4 = .ok (.ifCond .eq 22, 3) := by decide +kernel
theorem dX10_read_7 : decode cX10_read 7 = .ok (.iload_n 2, 1) := by decide +kernel
theorem dX10_read_8 : decode cX10_read 8 = .ok (.invokestatic 332, 3) := by decide +kernel
theorem dX10_read_11 : decode cX10_read 11 = .ok (.ifCond .eq 15, 3) := by decide +kernel
theorem dX10_read_14 : decode cX10_read 14 = .ok (.iload 4, 2) := by decide +kernel
theorem dX10_read_16 : decode cX10_read 16 = .ok (.ifCond .lt 10, 3) := by decide +kernel
theorem dX10_read_19 : decode cX10_read 19 = .ok (.iload 4, 2) := by decide +kernel
theorem dX10_read_21 : decode cX10_read 21 = .ok (.bipush 13, 2) := by decide +kernel
theorem dX10_read_23 : decode cX10_read 23 = .ok (.if_icmp .le 5, 3) := by decide +kernel
theorem dX10_read_26 : decode cX10_read 26 = .ok (.iconst (-1), 1) := by decide +kernel
theorem dX10_read_27 : decode cX10_read 27 = .ok (.ireturn, 1) := by decide +kernel
theorem dX10_read_28 : decode cX10_read 28 = .ok (.aload_n 0, 1) := by decide +kernel
theorem dX10_read_29 : decode cX10_read 29 = .ok (.getfield 48, 3) := by decide +kernel
theorem dX10_read_32 : decode cX10_read 32 = .ok (.iload_n 1, 1) := by decide +kernel
theorem dX10_read_33 : decode cX10_read 33 = .ok (.aaload, 1) := by decide +kernel
theorem dX10_read_34 : decode cX10_read 34 = .ok (.astore 5, 2) := by decide +kernel
theorem dX10_read_36 : decode cX10_read 36 = .ok (.iload 4, 2) := by decide +kernel
theorem dX10_read_38 : decode cX10_read 38 = .ok (.ifCond .ne 7, 3) := by decide +kernel
theorem dX10_read_41 : decode cX10_read 41 = .ok (.iconst 0, 1) := by decide +kernel
theorem dX10_read_42 : decode cX10_read 42 = .ok (.goto 9, 3) := by decide +kernel
theorem dX10_read_45 : decode cX10_read 45 = .ok (.aload 5, 2) := by decide +kernel
theorem dX10_read_47 : decode cX10_read 47 = .ok (.iload_n 2, 1) := by decide +kernel
theorem dX10_read_48 : decode cX10_read 48 = .ok (.invokevirtual 342, 3) := by decide +kernel
theorem dX10_read_51 : decode cX10_read 51 = .ok (.istore 6, 2) := by decide +kernel
theorem dX10_read_53 : decode cX10_read 53 = .ok (.iload 6, 2) := by decide +kernel
theorem dX10_read_55 : decode cX10_read 55 = .ok (.ifCond .eq 7, 3) := by decide +kernel
theorem dX10_read_58 : decode cX10_read 58 = .ok (.iconst 0, 1) := by decide +kernel
theorem dX10_read_59 : decode cX10_read 59 = .ok (.goto 11, 3) := by decide +kernel
theorem dX10_read_62 : decode cX10_read 62 = .ok (.aload 5, 2) := by decide +kernel
theorem dX10_read_64 : decode cX10_read 64 = .ok (.iload_n 3, 1) := by decide +kernel
theorem dX10_read_65 : decode cX10_read 65 = .ok (.iload 4, 2) := by decide +kernel
theorem dX10_read_67 : decode cX10_read 67 = .ok (.invokevirtual 345, 3) := by decide +kernel
theorem dX10_read_70 : decode cX10_read 70 = .ok (.istore 7, 2) := by decide +kernel
theorem dX10_read_72 : decode cX10_read 72 = .ok (.iconst 0, 1) := by decide +kernel
theorem dX10_read_73 : decode cX10_read 73 = .ok (.istore 8, 2) := by decide +kernel
theorem dX10_read_75 : decode cX10_read 75 = .ok (.iload 8, 2) := by decide +kernel
theorem dX10_read_77 : decode cX10_read 77 = .ok (.iload 7, 2) := by decide +kernel
theorem dX10_read_79 : decode cX10_read 79 = .ok (.if_icmp .ge 30, 3) := by decide +kernel
theorem dX10_read_82 : decode cX10_read 82 = .ok (.aload_n 0, 1) := by decide +kernel
theorem dX10_read_83 : decode cX10_read 83 = .ok (.aload 5, 2) := by decide +kernel
theorem dX10_read_85 : decode cX10_read 85 = .ok (.iload_n 3, 1) := by decide +kernel
theorem dX10_read_86 : decode cX10_read 86 = .ok (.iload 8, 2) := by decide +kernel
theorem dX10_read_88 : decode cX10_read 88 = .ok (.iconst 3, 1) := by decide +kernel
theorem dX10_read_89 : decode cX10_read 89 = .ok (.imul, 1) := by decide +kernel
theorem dX10_read_90 : decode cX10_read 90 = .ok (.iadd, 1) := by decide +kernel
theorem dX10_read_91 : decode cX10_read 91 = .ok (.invokevirtual 348, 3) := by decide +kernel
theorem dX10_read_94 : decode cX10_read 94 = .ok (.ifCond .ne 9, 3) := by decide +kernel
theorem dX10_read_97 : decode cX10_read 97 = .ok (.bipush (-20), 2) := by decide +kernel
theorem dX10_read_99 : decode cX10_read 99 = .ok (.iload 8, 2) := by decide +kernel
theorem dX10_read_101 : decode cX10_read 101 = .ok (.isub, 1) := by decide +kernel
theorem dX10_read_102 : decode cX10_read 102 = .ok (.ireturn, 1) := by decide +kernel
theorem dX10_read_103 : decode cX10_read 103 = .ok (.iinc 8 1, 3) := by decide +kernel
theorem dX10_read_106 : decode cX10_read 106 = .ok (.goto (-31), 3) := by decide +kernel
theorem dX10_read_109 : decode cX10_read 109 = .ok (.iconst 0, 1) := by decide +kernel
theorem dX10_read_110 : decode cX10_read 110 = .ok (.istore 8, 2) := by decide +kernel
theorem dX10_read_112 : decode cX10_read 112 = .ok (.iload 8, 2) := by decide +kernel
theorem dX10_read_114 : decode cX10_read 114 = .ok (.iload 7, 2) := by decide +kernel
theorem dX10_read_116 : decode cX10_read 116 = .ok (.if_icmp .ge 49, 3) := by decide +kernel
theorem dX10_read_119 : decode cX10_read 119 = .ok (.iload_n 3, 1) := by decide +kernel
theorem dX10_read_120 : decode cX10_read 120 = .ok (.iload 8, 2) := by decide +kernel
theorem dX10_read_122 : decode cX10_read 122 = .ok (.iconst 3, 1) := by decide +kernel
theorem dX10_read_123 : decode cX10_read 123 = .ok (.imul, 1) := by decide +kernel
theorem dX10_read_124 : decode cX10_read 124 = .ok (.iadd, 1) := by decide +kernel
theorem dX10_read_125 : decode cX10_read 125 = .ok (.istore 9, 2) := by decide +kernel
theorem dX10_read_127 : decode cX10_read 127 = .ok (.aload_n 0, 1) := by decide +kernel
theorem dX10_read_128 : decode cX10_read 128 = .ok (.getfield 28, 3) := by decide +kernel
theorem dX10_read_131 : decode cX10_read 131 = .ok (.aload 5, 2) := by decide +kernel
theorem dX10_read_133 : decode cX10_read 133 = .ok (.iload 9, 2) := by decide +kernel
theorem dX10_read_135 : decode cX10_read 135 = .ok (.invokevirtual 352, 3) := by decide +kernel
theorem dX10_read_138 : decode cX10_read 138 = .ok (.aload 5, 2) := by decide +kernel
theorem dX10_read_140 : decode cX10_read 140 = .ok (.iload 9, 2) := by decide +kernel
theorem dX10_read_142 : decode cX10_read 142 = .ok (.iconst 1, 1) := by decide +kernel
theorem dX10_read_143 : decode cX10_read 143 = .ok (.iadd, 1) := by decide +kernel
theorem dX10_read_144 : decode cX10_read 144 = .ok (.invokevirtual 352, 3) := by decide +kernel
theorem dX10_read_147 : decode cX10_read 147 = .ok (.aload 5, 2) := by decide +kernel
theorem dX10_read_149 : decode cX10_read 149 = .ok (.iload 9, 2) := by decide +kernel
theorem dX10_read_151 : decode cX10_read 151 = .ok (.iconst 2, 1) := by decide +kernel
theorem dX10_read_152 : decode cX10_read 152 = .ok (.iadd, 1) := by decide +kernel
theorem dX10_read_153 : decode cX10_read 153 = .ok (.invokevirtual 352, 3) := by decide +kernel
theorem dX10_read_156 : decode cX10_read 156 = .ok (.invokevirtual 134, 3) := by decide +kernel
theorem dX10_read_159 : decode cX10_read 159 = .ok (.iinc 8 1, 3) := by decide +kernel
theorem dX10_read_162 : decode cX10_read 162 = .ok (.goto (-50), 3) := by decide +kernel
theorem dX10_read_165 : decode cX10_read 165 = .ok (.aload_n 0, 1) := by decide +kernel
theorem dX10_read_166 : decode cX10_read 166 = .ok (.iload 6, 2) := by decide +kernel
theorem dX10_read_168 : decode cX10_read 168 = .ok (.ifCond .ne 14, 3) := by decide +kernel
theorem dX10_read_171 : decode cX10_read 171 = .ok (.iload 7, 2) := by decide +kernel
theorem dX10_read_173 : decode cX10_read 173 = .ok (.iload 4, 2) := by decide +kernel
theorem dX10_read_175 : decode cX10_read 175 = .ok (.if_icmp .ge 7, 3) := by decide +kernel
theorem dX10_read_178 : decode cX10_read 178 = .ok (.iconst 2, 1) := by decide +kernel
theorem dX10_read_179 : decode cX10_read 179 = .ok (.goto 5, 3) := by decide +kernel
theorem dX10_read_182 : decode cX10_read 182 = .ok (.iload 6, 2) := by decide +kernel
theorem dX10_read_184 : decode cX10_read 184 = .ok (.putfield 87, 3) := by decide +kernel
theorem dX10_read_187 : decode cX10_read 187 = .ok (.iload 7, 2) := by decide +kernel
theorem dX10_read_189 : decode cX10_read 189 = .ok (.ireturn, 1) := by decide +kernel
theorem dX10_torn_0 : decode cX10_torn 0 = .ok (.aload_n 0, 1) := by decide +kernel
theorem dX10_torn_1 : decode cX10_torn 1 = .ok (.getfield 87, 3) := by decide +kernel
theorem dX10_torn_4 : decode cX10_torn 4 = .ok (.ireturn, 1) := by decide +kernel
theorem dX10_count_0 : decode cX10_count 0 = .ok (.iload_n 1, 1) := by decide +kernel
theorem dX10_count_1 : decode cX10_count 1 = .ok (.tableswitch 125 0 5 #[39, 47, 55, 63, 89, 97], 39) := by decide +kernel
theorem dX10_count_40 : decode cX10_count 40 = .ok (.aload_n 0, 1) := by decide +kernel
theorem dX10_count_41 : decode cX10_count 41 = .ok (.getfield 28, 3) := by decide +kernel
theorem dX10_count_44 : decode cX10_count 44 = .ok (.getfield 245, 3) := by decide +kernel
theorem dX10_count_47 : decode cX10_count 47 = .ok (.ireturn, 1) := by decide +kernel
theorem dX10_count_48 : decode cX10_count 48 = .ok (.aload_n 0, 1) := by decide +kernel
theorem dX10_count_49 : decode cX10_count 49 = .ok (.getfield 28, 3) := by decide +kernel
theorem dX10_count_52 : decode cX10_count 52 = .ok (.invokevirtual 326, 3) := by decide +kernel
theorem dX10_count_55 : decode cX10_count 55 = .ok (.ireturn, 1) := by decide +kernel
theorem dX10_count_56 : decode cX10_count 56 = .ok (.aload_n 0, 1) := by decide +kernel
theorem dX10_count_57 : decode cX10_count 57 = .ok (.getfield 35, 3) := by decide +kernel
theorem dX10_count_60 : decode cX10_count 60 = .ok (.getfield 112, 3) := by decide +kernel
theorem dX10_count_63 : decode cX10_count 63 = .ok (.ireturn, 1) := by decide +kernel
theorem dX10_count_64 : decode cX10_count 64 = .ok (.aload_n 0, 1) := by decide +kernel
theorem dX10_count_65 : decode cX10_count 65 = .ok (.getfield 41, 3) := by decide +kernel
theorem dX10_count_68 : decode cX10_count 68 = .ok (.iconst 0, 1) := by decide +kernel
theorem dX10_count_69 : decode cX10_count 69 = .ok (.aaload, 1) := by decide +kernel
theorem dX10_count_70 : decode cX10_count 70 = .ok (.getfield 115, 3) := by decide +kernel
theorem dX10_count_73 : decode cX10_count 73 = .ok (.invokestatic 159, 3) := by decide +kernel
theorem dX10_count_76 : decode cX10_count 76 = .ok (.aload_n 0, 1) := by decide +kernel
theorem dX10_count_77 : decode cX10_count 77 = .ok (.getfield 41, 3) := by decide +kernel
theorem dX10_count_80 : decode cX10_count 80 = .ok (.iconst 1, 1) := by decide +kernel
theorem dX10_count_81 : decode cX10_count 81 = .ok (.aaload, 1) := by decide +kernel
theorem dX10_count_82 : decode cX10_count 82 = .ok (.getfield 115, 3) := by decide +kernel
theorem dX10_count_85 : decode cX10_count 85 = .ok (.invokestatic 159, 3) := by decide +kernel
theorem dX10_count_88 : decode cX10_count 88 = .ok (.iadd, 1) := by decide +kernel
theorem dX10_count_89 : decode cX10_count 89 = .ok (.ireturn, 1) := by decide +kernel
theorem dX10_count_90 : decode cX10_count 90 = .ok (.aload_n 0, 1) := by decide +kernel
theorem dX10_count_91 : decode cX10_count 91 = .ok (.getfield 10, 3) := by decide +kernel
theorem dX10_count_94 : decode cX10_count 94 = .ok (.getfield 94, 3) := by decide +kernel
theorem dX10_count_97 : decode cX10_count 97 = .ok (.ireturn, 1) := by decide +kernel
theorem dX10_count_98 : decode cX10_count 98 = .ok (.aload_n 0, 1) := by decide +kernel
theorem dX10_count_99 : decode cX10_count 99 = .ok (.getfield 48, 3) := by decide +kernel
theorem dX10_count_102 : decode cX10_count 102 = .ok (.iconst 0, 1) := by decide +kernel
theorem dX10_count_103 : decode cX10_count 103 = .ok (.aaload, 1) := by decide +kernel
theorem dX10_count_104 : decode cX10_count 104 = .ok (.getfield 355, 3) := by decide +kernel
theorem dX10_count_107 : decode cX10_count 107 = .ok (.iconst (-1), 1) := by decide +kernel
theorem dX10_count_108 : decode cX10_count 108 = .ok (.if_icmp .ne 8, 3) := by decide +kernel
theorem dX10_count_111 : decode cX10_count 111 = .ok (.bipush (-4), 2) := by decide +kernel
theorem dX10_count_113 : decode cX10_count 113 = .ok (.goto 12, 3) := by decide +kernel
theorem dX10_count_116 : decode cX10_count 116 = .ok (.aload_n 0, 1) := by decide +kernel
theorem dX10_count_117 : decode cX10_count 117 = .ok (.getfield 48, 3) := by decide +kernel
theorem dX10_count_120 : decode cX10_count 120 = .ok (.iconst 0, 1) := by decide +kernel
theorem dX10_count_121 : decode cX10_count 121 = .ok (.aaload, 1) := by decide +kernel
theorem dX10_count_122 : decode cX10_count 122 = .ok (.getfield 358, 3) := by decide +kernel
theorem dX10_count_125 : decode cX10_count 125 = .ok (.ireturn, 1) := by decide +kernel
theorem dX10_count_126 : decode cX10_count 126 = .ok (.iconst (-1), 1) := by decide +kernel
theorem dX10_count_127 : decode cX10_count 127 = .ok (.ireturn, 1) := by decide +kernel
theorem dX10_bit_0 : decode cX10_bit 0 = .ok (.iload_n 0, 1) := by decide +kernel
theorem dX10_bit_1 : decode cX10_bit 1 = .ok (.ifCond .eq 7, 3) := by decide +kernel
theorem dX10_bit_4 : decode cX10_bit 4 = .ok (.iconst 1, 1) := by decide +kernel
theorem dX10_bit_5 : decode cX10_bit 5 = .ok (.goto 4, 3) := by decide +kernel
theorem dX10_bit_8 : decode cX10_bit 8 = .ok (.iconst 0, 1) := by decide +kernel
theorem dX10_bit_9 : decode cX10_bit 9 = .ok (.ireturn, 1) := by decide +kernel
theorem dX10_hasBit_0 : decode cX10_hasBit 0 = .ok (.iload_n 0, 1) := by decide +kernel
theorem dX10_hasBit_1 : decode cX10_hasBit 1 = .ok (.iload_n 1, 1) := by decide +kernel
theorem dX10_hasBit_2 : decode cX10_hasBit 2 = .ok (.ishr, 1) := by decide +kernel
theorem dX10_hasBit_3 : decode cX10_hasBit 3 = .ok (.iconst 1, 1) := by decide +kernel
theorem dX10_hasBit_4 : decode cX10_hasBit 4 = .ok (.iand, 1) := by decide +kernel
theorem dX10_hasBit_5 : decode cX10_hasBit 5 = .ok (.ifCond .eq 7, 3) := by decide +kernel
theorem dX10_hasBit_8 : decode cX10_hasBit 8 = .ok (.iconst 1, 1) := by decide +kernel
theorem dX10_hasBit_9 : decode cX10_hasBit 9 = .ok (.goto 4, 3) := by decide +kernel
theorem dX10_hasBit_12 : decode cX10_hasBit 12 = .ok (.iconst 0, 1) := by decide +kernel
theorem dX10_hasBit_13 : decode cX10_hasBit 13 = .ok (.ireturn, 1) := by decide +kernel
theorem dX10_isSquare_0 : decode cX10_isSquare 0 = .ok (.iload_n 0, 1) := by decide +kernel
theorem dX10_isSquare_1 : decode cX10_isSquare 1 = .ok (.iconst 1, 1) := by decide +kernel
theorem dX10_isSquare_2 : decode cX10_isSquare 2 = .ok (.if_icmp .lt 14, 3) := by decide +kernel
theorem dX10_isSquare_5 : decode cX10_isSquare 5 = .ok (.iload_n 0, 1) := by decide +kernel
theorem dX10_isSquare_6 : decode cX10_isSquare 6 = .ok (.sipush 9999, 3) := by decide +kernel
theorem dX10_isSquare_9 : decode cX10_isSquare 9 = .ok (.if_icmp .gt 7, 3) := by decide +kernel
theorem dX10_isSquare_12 : decode cX10_isSquare 12 = .ok (.iconst 1, 1) := by decide +kernel
theorem dX10_isSquare_13 : decode cX10_isSquare 13 = .ok (.goto 4, 3) := by decide +kernel
theorem dX10_isSquare_16 : decode cX10_isSquare 16 = .ok (.iconst 0, 1) := by decide +kernel
theorem dX10_isSquare_17 : decode cX10_isSquare 17 = .ok (.ireturn, 1) := by decide +kernel
theorem dX10_isImage_0 : decode cX10_isImage 0 = .ok (.iload_n 0, 1) := by decide +kernel
theorem dX10_isImage_1 : decode cX10_isImage 1 = .ok (.ifCond .lt 12, 3) := by decide +kernel
theorem dX10_isImage_4 : decode cX10_isImage 4 = .ok (.iload_n 0, 1) := by decide +kernel
theorem dX10_isImage_5 : decode cX10_isImage 5 = .ok (.iconst 2, 1) := by decide +kernel
theorem dX10_isImage_6 : decode cX10_isImage 6 = .ok (.if_icmp .ge 7, 3) := by decide +kernel
theorem dX10_isImage_9 : decode cX10_isImage 9 = .ok (.iconst 1, 1) := by decide +kernel
theorem dX10_isImage_10 : decode cX10_isImage 10 = .ok (.goto 4, 3) := by decide +kernel
theorem dX10_isImage_13 : decode cX10_isImage 13 = .ok (.iconst 0, 1) := by decide +kernel
theorem dX10_isImage_14 : decode cX10_isImage 14 = .ok (.ireturn, 1) := by decide +kernel
theorem dX10_isSheet_0 : decode cX10_isSheet 0 = .ok (.iload_n 0, 1) := by decide +kernel
theorem dX10_isSheet_1 : decode cX10_isSheet 1 = .ok (.ifCond .lt 12, 3) := by decide +kernel
theorem dX10_isSheet_4 : decode cX10_isSheet 4 = .ok (.iload_n 0, 1) := by decide +kernel
theorem dX10_isSheet_5 : decode cX10_isSheet 5 = .ok (.iconst 4, 1) := by decide +kernel
theorem dX10_isSheet_6 : decode cX10_isSheet 6 = .ok (.if_icmp .ge 7, 3) := by decide +kernel
theorem dX10_isSheet_9 : decode cX10_isSheet 9 = .ok (.iconst 1, 1) := by decide +kernel
theorem dX10_isSheet_10 : decode cX10_isSheet 10 = .ok (.goto 4, 3) := by decide +kernel
theorem dX10_isSheet_13 : decode cX10_isSheet 13 = .ok (.iconst 0, 1) := by decide +kernel
theorem dX10_isSheet_14 : decode cX10_isSheet 14 = .ok (.ireturn, 1) := by decide +kernel
theorem dX10_isLane_0 : decode cX10_isLane 0 = .ok (.iload_n 0, 1) := by decide +kernel
theorem dX10_isLane_1 : decode cX10_isLane 1 = .ok (.ifCond .lt 12, 3) := by decide +kernel
theorem dX10_isLane_4 : decode cX10_isLane 4 = .ok (.iload_n 0, 1) := by decide +kernel
theorem dX10_isLane_5 : decode cX10_isLane 5 = .ok (.iconst 3, 1) := by decide +kernel
theorem dX10_isLane_6 : decode cX10_isLane 6 = .ok (.if_icmp .ge 7, 3) := by decide +kernel
theorem dX10_isLane_9 : decode cX10_isLane 9 = .ok (.iconst 1, 1) := by decide +kernel
theorem dX10_isLane_10 : decode cX10_isLane 10 = .ok (.goto 4, 3) := by decide +kernel
theorem dX10_isLane_13 : decode cX10_isLane 13 = .ok (.iconst 0, 1) := by decide +kernel
theorem dX10_isLane_14 : decode cX10_isLane 14 = .ok (.ireturn, 1) := by decide +kernel
theorem dX10_isGoodLength_0 : decode cX10_isGoodLength 0 = .ok (.aload_n 0, 1) := by decide +kernel
theorem dX10_isGoodLength_1 : decode cX10_isGoodLength 1 = .ok (.getfield 28, 3) := by decide +kernel
theorem dX10_isGoodLength_4 : decode cX10_isGoodLength 4 = .ok (.aload_n 1, 1) := by decide +kernel
theorem dX10_isGoodLength_5 : decode cX10_isGoodLength 5 = .ok (.iload_n 2, 1) := by decide +kernel
theorem dX10_isGoodLength_6 : decode cX10_isGoodLength 6 = .ok (.invokevirtual 352, 3) := by decide +kernel
theorem dX10_isGoodLength_9 : decode cX10_isGoodLength 9 = .ok (.aload_n 1, 1) := by decide +kernel
theorem dX10_isGoodLength_10 : decode cX10_isGoodLength 10 = .ok (.iload_n 2, 1) := by decide +kernel
theorem dX10_isGoodLength_11 : decode cX10_isGoodLength 11 = .ok (.iconst 1, 1) := by decide +kernel
theorem dX10_isGoodLength_12 : decode cX10_isGoodLength 12 = .ok (.iadd, 1) := by decide +kernel
theorem dX10_isGoodLength_13 : decode cX10_isGoodLength 13 = .ok (.invokevirtual 352, 3) := by decide +kernel
theorem dX10_isGoodLength_16 : decode cX10_isGoodLength 16 = .ok (.invokevirtual 122, 3) := by decide +kernel
theorem dX10_isGoodLength_19 : decode cX10_isGoodLength 19 = .ok (.ifCond .eq 20, 3) := by decide +kernel
theorem dX10_isGoodLength_22 : decode cX10_isGoodLength 22 = .ok (.aload_n 1, 1) := by decide +kernel
theorem dX10_isGoodLength_23 : decode cX10_isGoodLength 23 = .ok (.iload_n 2, 1) := by decide +kernel
theorem dX10_isGoodLength_24 : decode cX10_isGoodLength 24 = .ok (.iconst 2, 1) := by decide +kernel
theorem dX10_isGoodLength_25 : decode cX10_isGoodLength 25 = .ok (.iadd, 1) := by decide +kernel
theorem dX10_isGoodLength_26 : decode cX10_isGoodLength 26 = .ok (.invokevirtual 352, 3) := by decide +kernel
theorem dX10_isGoodLength_29 : decode cX10_isGoodLength 29 = .ok (.invokestatic 130, 3) := by decide +kernel
theorem dX10_isGoodLength_32 : decode cX10_isGoodLength 32 = .ok (.ifCond .eq 7, 3) := by decide +kernel
theorem dX10_isGoodLength_35 : decode cX10_isGoodLength 35 = .ok (.iconst 1, 1) := by decide +kernel
theorem dX10_isGoodLength_36 : decode cX10_isGoodLength 36 = .ok (.goto 4, 3) := by decide +kernel
theorem dX10_isGoodLength_39 : decode cX10_isGoodLength 39 = .ok (.iconst 0, 1) := by decide +kernel
theorem dX10_isGoodLength_40 : decode cX10_isGoodLength 40 = .ok (.ireturn, 1) := by decide +kernel
theorem dX10_refusalOfThree_0 : decode cX10_refusalOfThree 0 = .ok (.aload_n 0, 1) := by decide +kernel
theorem dX10_refusalOfThree_1 : decode cX10_refusalOfThree 1 = .ok (.getfield 28, 3) := by decide +kernel
theorem dX10_refusalOfThree_4 : decode cX10_refusalOfThree 4 = .ok (.iload_n 1, 1) := by decide +kernel
theorem dX10_refusalOfThree_5 : decode cX10_refusalOfThree 5 = .ok (.iload_n 2, 1) := by decide +kernel
theorem dX10_refusalOfThree_6 : decode cX10_refusalOfThree 6 = .ok (.iload_n 3, 1) := by decide +kernel
theorem dX10_refusalOfThree_7 : decode cX10_refusalOfThree 7 = .ok (.invokevirtual 141, 3) := by decide +kernel
theorem dX10_refusalOfThree_10 : decode cX10_refusalOfThree 10 = .ok (.ifCond .eq 14, 3) := by decide +kernel
theorem dX10_refusalOfThree_13 : decode cX10_refusalOfThree 13 = .ok (.iload 4, 2) := by decide +kernel
theorem dX10_refusalOfThree_15 : decode cX10_refusalOfThree 15 = .ok (.ifCond .lt 9, 3) := by decide +kernel
theorem dX10_refusalOfThree_18 : decode cX10_refusalOfThree 18 = .ok (.iload 4, 2) := by decide +kernel
theorem dX10_refusalOfThree_20 : decode cX10_refusalOfThree 20 = .ok (.iconst 1, 1) := by decide +kernel
theorem dX10_refusalOfThree_21 : decode cX10_refusalOfThree 21 = .ok (.if_icmp .le 7, 3) := by decide +kernel
theorem dX10_refusalOfThree_24 : decode cX10_refusalOfThree 24 = .ok (.ldc2_w 145, 3) := by decide +kernel
theorem dX10_refusalOfThree_27 : decode cX10_refusalOfThree 27 = .ok (.lreturn, 1) := by decide +kernel
theorem dX10_refusalOfThree_28 : decode cX10_refusalOfThree 28 = .ok (.aload_n 0, 1) := by decide +kernel
theorem dX10_refusalOfThree_29 : decode cX10_refusalOfThree 29 = .ok (.getfield 28, 3) := by decide +kernel
theorem dX10_refusalOfThree_32 : decode cX10_refusalOfThree 32 = .ok (.iload_n 1, 1) := by decide +kernel
theorem dX10_refusalOfThree_33 : decode cX10_refusalOfThree 33 = .ok (.iload_n 2, 1) := by decide +kernel
theorem dX10_refusalOfThree_34 : decode cX10_refusalOfThree 34 = .ok (.iload_n 3, 1) := by decide +kernel
theorem dX10_refusalOfThree_35 : decode cX10_refusalOfThree 35 = .ok (.invokevirtual 147, 3) := by decide +kernel
theorem dX10_refusalOfThree_38 : decode cX10_refusalOfThree 38 = .ok (.ifCond .eq 16, 3) := by decide +kernel
theorem dX10_refusalOfThree_41 : decode cX10_refusalOfThree 41 = .ok (.aload_n 0, 1) := by decide +kernel
theorem dX10_refusalOfThree_42 : decode cX10_refusalOfThree 42 = .ok (.getfield 28, 3) := by decide +kernel
theorem dX10_refusalOfThree_45 : decode cX10_refusalOfThree 45 = .ok (.iload_n 1, 1) := by decide +kernel
theorem dX10_refusalOfThree_46 : decode cX10_refusalOfThree 46 = .ok (.iload_n 2, 1) := by decide +kernel
theorem dX10_refusalOfThree_47 : decode cX10_refusalOfThree 47 = .ok (.iload_n 3, 1) := by decide +kernel
theorem dX10_refusalOfThree_48 : decode cX10_refusalOfThree 48 = .ok (.invokevirtual 156, 3) := by decide +kernel
theorem dX10_refusalOfThree_51 : decode cX10_refusalOfThree 51 = .ok (.ifCond .ne 7, 3) := by decide +kernel
theorem dX10_refusalOfThree_54 : decode cX10_refusalOfThree 54 = .ok (.ldc2_w 154, 3) := by decide +kernel
theorem dX10_refusalOfThree_57 : decode cX10_refusalOfThree 57 = .ok (.lreturn, 1) := by decide +kernel
theorem dX10_refusalOfThree_58 : decode cX10_refusalOfThree 58 = .ok (.lconst 0, 1) := by decide +kernel
theorem dX10_refusalOfThree_59 : decode cX10_refusalOfThree 59 = .ok (.lreturn, 1) := by decide +kernel
theorem dX10_pairOf_0 : decode cX10_pairOf 0 = .ok (.iload_n 0, 1) := by decide +kernel
theorem dX10_pairOf_1 : decode cX10_pairOf 1 = .ok (.iload_n 1, 1) := by decide +kernel
theorem dX10_pairOf_2 : decode cX10_pairOf 2 = .ok (.invokestatic 252, 3) := by decide +kernel
theorem dX10_pairOf_5 : decode cX10_pairOf 5 = .ok (.istore_n 2, 1) := by decide +kernel
theorem dX10_pairOf_6 : decode cX10_pairOf 6 = .ok (.iload_n 2, 1) := by decide +kernel
theorem dX10_pairOf_7 : decode cX10_pairOf 7 = .ok (.iload_n 2, 1) := by decide +kernel
theorem dX10_pairOf_8 : decode cX10_pairOf 8 = .ok (.iconst 1, 1) := by decide +kernel
theorem dX10_pairOf_9 : decode cX10_pairOf 9 = .ok (.isub, 1) := by decide +kernel
theorem dX10_pairOf_10 : decode cX10_pairOf 10 = .ok (.imul, 1) := by decide +kernel
theorem dX10_pairOf_11 : decode cX10_pairOf 11 = .ok (.iconst 2, 1) := by decide +kernel
theorem dX10_pairOf_12 : decode cX10_pairOf 12 = .ok (.idiv, 1) := by decide +kernel
theorem dX10_pairOf_13 : decode cX10_pairOf 13 = .ok (.iload_n 0, 1) := by decide +kernel
theorem dX10_pairOf_14 : decode cX10_pairOf 14 = .ok (.iload_n 1, 1) := by decide +kernel
theorem dX10_pairOf_15 : decode cX10_pairOf 15 = .ok (.invokestatic 257, 3) := by decide +kernel
theorem dX10_pairOf_18 : decode cX10_pairOf 18 = .ok (.iadd, 1) := by decide +kernel
theorem dX10_pairOf_19 : decode cX10_pairOf 19 = .ok (.ireturn, 1) := by decide +kernel
theorem dX10_wideOfSquares_0 : decode cX10_wideOfSquares 0 = .ok (.lload_n 0, 1) := by decide +kernel
theorem dX10_wideOfSquares_1 : decode cX10_wideOfSquares 1 = .ok (.lload_n 2, 1) := by decide +kernel
theorem dX10_wideOfSquares_2 : decode cX10_wideOfSquares 2 = .ok (.ladd, 1) := by decide +kernel
theorem dX10_wideOfSquares_3 : decode cX10_wideOfSquares 3 = .ok (.lload 4, 2) := by decide +kernel
theorem dX10_wideOfSquares_5 : decode cX10_wideOfSquares 5 = .ok (.lsub, 1) := by decide +kernel
theorem dX10_wideOfSquares_6 : decode cX10_wideOfSquares 6 = .ok (.lstore 6, 2) := by decide +kernel
theorem dX10_wideOfSquares_8 : decode cX10_wideOfSquares 8 = .ok (.ldc2_w 220, 3) := by decide +kernel
theorem dX10_wideOfSquares_11 : decode cX10_wideOfSquares 11 = .ok (.lload_n 0, 1) := by decide +kernel
theorem dX10_wideOfSquares_12 : decode cX10_wideOfSquares 12 = .ok (.lmul, 1) := by decide +kernel
theorem dX10_wideOfSquares_13 : decode cX10_wideOfSquares 13 = .ok (.lload_n 2, 1) := by decide +kernel
theorem dX10_wideOfSquares_14 : decode cX10_wideOfSquares 14 = .ok (.lmul, 1) := by decide +kernel
theorem dX10_wideOfSquares_15 : decode cX10_wideOfSquares 15 = .ok (.lload 6, 2) := by decide +kernel
theorem dX10_wideOfSquares_17 : decode cX10_wideOfSquares 17 = .ok (.lload 6, 2) := by decide +kernel
theorem dX10_wideOfSquares_19 : decode cX10_wideOfSquares 19 = .ok (.lmul, 1) := by decide +kernel
theorem dX10_wideOfSquares_20 : decode cX10_wideOfSquares 20 = .ok (.lsub, 1) := by decide +kernel
theorem dX10_wideOfSquares_21 : decode cX10_wideOfSquares 21 = .ok (.lreturn, 1) := by decide +kernel
theorem dX10_rootOf_0 : decode cX10_rootOf 0 = .ok (.lconst 0, 1) := by decide +kernel
theorem dX10_rootOf_1 : decode cX10_rootOf 1 = .ok (.lstore_n 2, 1) := by decide +kernel
theorem dX10_rootOf_2 : decode cX10_rootOf 2 = .ok (.bipush 30, 2) := by decide +kernel
theorem dX10_rootOf_4 : decode cX10_rootOf 4 = .ok (.istore 4, 2) := by decide +kernel
theorem dX10_rootOf_6 : decode cX10_rootOf 6 = .ok (.iload 4, 2) := by decide +kernel
theorem dX10_rootOf_8 : decode cX10_rootOf 8 = .ok (.ifCond .lt 30, 3) := by decide +kernel
theorem dX10_rootOf_11 : decode cX10_rootOf 11 = .ok (.lload_n 2, 1) := by decide +kernel
theorem dX10_rootOf_12 : decode cX10_rootOf 12 = .ok (.lconst 1, 1) := by decide +kernel
theorem dX10_rootOf_13 : decode cX10_rootOf 13 = .ok (.iload 4, 2) := by decide +kernel
theorem dX10_rootOf_15 : decode cX10_rootOf 15 = .ok (.lshl, 1) := by decide +kernel
theorem dX10_rootOf_16 : decode cX10_rootOf 16 = .ok (.lor, 1) := by decide +kernel
theorem dX10_rootOf_17 : decode cX10_rootOf 17 = .ok (.lstore 5, 2) := by decide +kernel
theorem dX10_rootOf_19 : decode cX10_rootOf 19 = .ok (.lload 5, 2) := by decide +kernel
theorem dX10_rootOf_21 : decode cX10_rootOf 21 = .ok (.lload 5, 2) := by decide +kernel
theorem dX10_rootOf_23 : decode cX10_rootOf 23 = .ok (.lmul, 1) := by decide +kernel
theorem dX10_rootOf_24 : decode cX10_rootOf 24 = .ok (.lload_n 0, 1) := by decide +kernel
theorem dX10_rootOf_25 : decode cX10_rootOf 25 = .ok (.lcmp, 1) := by decide +kernel
theorem dX10_rootOf_26 : decode cX10_rootOf 26 = .ok (.ifCond .gt 6, 3) := by decide +kernel
theorem dX10_rootOf_29 : decode cX10_rootOf 29 = .ok (.lload 5, 2) := by decide +kernel
theorem dX10_rootOf_31 : decode cX10_rootOf 31 = .ok (.lstore_n 2, 1) := by decide +kernel
theorem dX10_rootOf_32 : decode cX10_rootOf 32 = .ok (.iinc 4 (-1), 3) := by decide +kernel
theorem dX10_rootOf_35 : decode cX10_rootOf 35 = .ok (.goto (-29), 3) := by decide +kernel
theorem dX10_rootOf_38 : decode cX10_rootOf 38 = .ok (.lload_n 2, 1) := by decide +kernel
theorem dX10_rootOf_39 : decode cX10_rootOf 39 = .ok (.lreturn, 1) := by decide +kernel
theorem dX10_lowest_0 : decode cX10_lowest 0 = .ok (.lload_n 0, 1) := by decide +kernel
theorem dX10_lowest_1 : decode cX10_lowest 1 = .ok (.invokestatic 361, 3) := by decide +kernel
theorem dX10_lowest_4 : decode cX10_lowest 4 = .ok (.lload_n 2, 1) := by decide +kernel
theorem dX10_lowest_5 : decode cX10_lowest 5 = .ok (.invokestatic 364, 3) := by decide +kernel
theorem dX10_lowest_8 : decode cX10_lowest 8 = .ok (.lstore 5, 2) := by decide +kernel
theorem dX10_lowest_10 : decode cX10_lowest 10 = .ok (.lload 5, 2) := by decide +kernel
theorem dX10_lowest_12 : decode cX10_lowest 12 = .ok (.lconst 0, 1) := by decide +kernel
theorem dX10_lowest_13 : decode cX10_lowest 13 = .ok (.lcmp, 1) := by decide +kernel
theorem dX10_lowest_14 : decode cX10_lowest 14 = .ok (.ifCond .gt 5, 3) := by decide +kernel
theorem dX10_lowest_17 : decode cX10_lowest 17 = .ok (.lconst 0, 1) := by decide +kernel
theorem dX10_lowest_18 : decode cX10_lowest 18 = .ok (.lreturn, 1) := by decide +kernel
theorem dX10_lowest_19 : decode cX10_lowest 19 = .ok (.iload 4, 2) := by decide +kernel
theorem dX10_lowest_21 : decode cX10_lowest 21 = .ok (.ifCond .ne 7, 3) := by decide +kernel
theorem dX10_lowest_24 : decode cX10_lowest 24 = .ok (.lload_n 0, 1) := by decide +kernel
theorem dX10_lowest_25 : decode cX10_lowest 25 = .ok (.goto 4, 3) := by decide +kernel
theorem dX10_lowest_28 : decode cX10_lowest 28 = .ok (.lload_n 2, 1) := by decide +kernel
theorem dX10_lowest_29 : decode cX10_lowest 29 = .ok (.lload 5, 2) := by decide +kernel
theorem dX10_lowest_31 : decode cX10_lowest 31 = .ok (.ldiv, 1) := by decide +kernel
theorem dX10_lowest_32 : decode cX10_lowest 32 = .ok (.lreturn, 1) := by decide +kernel
theorem dX10_commonDivisor_0 : decode cX10_commonDivisor 0 = .ok (.lload_n 0, 1) := by decide +kernel
theorem dX10_commonDivisor_1 : decode cX10_commonDivisor 1 = .ok (.lstore 4, 2) := by decide +kernel
theorem dX10_commonDivisor_3 : decode cX10_commonDivisor 3 = .ok (.lload_n 2, 1) := by decide +kernel
theorem dX10_commonDivisor_4 : decode cX10_commonDivisor 4 = .ok (.lstore 6, 2) := by decide +kernel
theorem dX10_commonDivisor_6 : decode cX10_commonDivisor 6 = .ok (.iconst 0, 1) := by decide +kernel
theorem dX10_commonDivisor_7 : decode cX10_commonDivisor 7 = .ok (.istore 8, 2) := by decide +kernel
theorem dX10_commonDivisor_9 : decode cX10_commonDivisor 9 = .ok (.iload 8, 2) := by decide +kernel
theorem dX10_commonDivisor_11 : decode cX10_commonDivisor 11 = .ok (.sipush 200, 3) := by decide +kernel
theorem dX10_commonDivisor_14 : decode cX10_commonDivisor 14 = .ok (.if_icmp .ge 31, 3) := by decide +kernel
theorem dX10_commonDivisor_17 : decode cX10_commonDivisor 17 = .ok (.lload 6, 2) := by decide +kernel
theorem dX10_commonDivisor_19 : decode cX10_commonDivisor 19 = .ok (.lconst 0, 1) := by decide +kernel
theorem dX10_commonDivisor_20 : decode cX10_commonDivisor 20 = .ok (.lcmp, 1) := by decide +kernel
theorem dX10_commonDivisor_21 : decode cX10_commonDivisor 21 = .ok (.ifCond .eq 24, 3) := by decide +kernel
theorem dX10_commonDivisor_24 : decode cX10_commonDivisor 24 = .ok (.lload 4, 2) := by decide +kernel
theorem dX10_commonDivisor_26 : decode cX10_commonDivisor 26 = .ok (.lload 6, 2) := by decide +kernel
theorem dX10_commonDivisor_28 : decode cX10_commonDivisor 28 = .ok (.lrem, 1) := by decide +kernel
theorem dX10_commonDivisor_29 : decode cX10_commonDivisor 29 = .ok (.lstore 9, 2) := by decide +kernel
theorem dX10_commonDivisor_31 : decode cX10_commonDivisor 31 = .ok (.lload 6, 2) := by decide +kernel
theorem dX10_commonDivisor_33 : decode cX10_commonDivisor 33 = .ok (.lstore 4, 2) := by decide +kernel
theorem dX10_commonDivisor_35 : decode cX10_commonDivisor 35 = .ok (.lload 9, 2) := by decide +kernel
theorem dX10_commonDivisor_37 : decode cX10_commonDivisor 37 = .ok (.lstore 6, 2) := by decide +kernel
theorem dX10_commonDivisor_39 : decode cX10_commonDivisor 39 = .ok (.iinc 8 1, 3) := by decide +kernel
theorem dX10_commonDivisor_42 : decode cX10_commonDivisor 42 = .ok (.goto (-33), 3) := by decide +kernel
theorem dX10_commonDivisor_45 : decode cX10_commonDivisor 45 = .ok (.lload 4, 2) := by decide +kernel
theorem dX10_commonDivisor_47 : decode cX10_commonDivisor 47 = .ok (.lreturn, 1) := by decide +kernel
theorem dX11_init_0 : decode cX11_init 0 = .ok (.aload_n 0, 1) := by decide +kernel
theorem dX11_init_1 : decode cX11_init 1 = .ok (.invokespecial 1, 3) := by decide +kernel
theorem dX11_init_4 : decode cX11_init 4 = .ok (.aload_n 0, 1) := by decide +kernel
theorem dX11_init_5 : decode cX11_init 5 = .ok (.bipush 96, 2) := by decide +kernel
theorem dX11_init_7 : decode cX11_init 7 = .ok (.newarray .int, 2) := by decide +kernel
theorem dX11_init_9 : decode cX11_init 9 = .ok (.putfield 7, 3) := by decide +kernel
theorem dX11_init_12 : decode cX11_init 12 = .ok (.aload_n 0, 1) := by decide +kernel
theorem dX11_init_13 : decode cX11_init 13 = .ok (.bipush 22, 2) := by decide +kernel
theorem dX11_init_15 : decode cX11_init 15 = .ok (.newarray .int, 2) := by decide +kernel
theorem dX11_init_17 : decode cX11_init 17 = .ok (.putfield 13, 3) := by decide +kernel
theorem dX11_init_20 : decode cX11_init 20 = .ok (.aload_n 0, 1) := by decide +kernel
theorem dX11_init_21 : decode cX11_init 21 = .ok (.sipush 320, 3) := by decide +kernel
theorem dX11_init_24 : decode cX11_init 24 = .ok (.newarray .int, 2) := by decide +kernel
theorem dX11_init_26 : decode cX11_init 26 = .ok (.putfield 16, 3) := by decide +kernel
theorem dX11_init_29 : decode cX11_init 29 = .ok (.aload_n 0, 1) := by decide +kernel
theorem dX11_init_30 : decode cX11_init 30 = .ok (.bipush 9, 2) := by decide +kernel
theorem dX11_init_32 : decode cX11_init 32 = .ok (.newarray .int, 2) := by decide +kernel
theorem dX11_init_34 : decode cX11_init 34 = .ok (.dup, 1) := by decide +kernel
theorem dX11_init_35 : decode cX11_init 35 = .ok (.iconst 0, 1) := by decide +kernel
theorem dX11_init_36 : decode cX11_init 36 = .ok (.bipush 112, 2) := by decide +kernel
theorem dX11_init_38 : decode cX11_init 38 = .ok (.iastore, 1) := by decide +kernel
theorem dX11_init_39 : decode cX11_init 39 = .ok (.dup, 1) := by decide +kernel
theorem dX11_init_40 : decode cX11_init 40 = .ok (.iconst 1, 1) := by decide +kernel
theorem dX11_init_41 : decode cX11_init 41 = .ok (.bipush 108, 2) := by decide +kernel
theorem dX11_init_43 : decode cX11_init 43 = .ok (.iastore, 1) := by decide +kernel
theorem dX11_init_44 : decode cX11_init 44 = .ok (.dup, 1) := by decide +kernel
theorem dX11_init_45 : decode cX11_init 45 = .ok (.iconst 2, 1) := by decide +kernel
theorem dX11_init_46 : decode cX11_init 46 = .ok (.bipush 97, 2) := by decide +kernel
theorem dX11_init_48 : decode cX11_init 48 = .ok (.iastore, 1) := by decide +kernel
theorem dX11_init_49 : decode cX11_init 49 = .ok (.dup, 1) := by decide +kernel
theorem dX11_init_50 : decode cX11_init 50 = .ok (.iconst 3, 1) := by decide +kernel
theorem dX11_init_51 : decode cX11_init 51 = .ok (.bipush 99, 2) := by decide +kernel
theorem dX11_init_53 : decode cX11_init 53 = .ok (.iastore, 1) := by decide +kernel
theorem dX11_init_54 : decode cX11_init 54 = .ok (.dup, 1) := by decide +kernel
theorem dX11_init_55 : decode cX11_init 55 = .ok (.iconst 4, 1) := by decide +kernel
theorem dX11_init_56 : decode cX11_init 56 = .ok (.bipush 101, 2) := by decide +kernel
theorem dX11_init_58 : decode cX11_init 58 = .ok (.iastore, 1) := by decide +kernel
theorem dX11_init_59 : decode cX11_init 59 = .ok (.dup, 1) := by decide +kernel
theorem dX11_init_60 : decode cX11_init 60 = .ok (.iconst 5, 1) := by decide +kernel
theorem dX11_init_61 : decode cX11_init 61 = .ok (.bipush 115, 2) := by decide +kernel
theorem dX11_init_63 : decode cX11_init 63 = .ok (.iastore, 1) := by decide +kernel
theorem dX11_init_64 : decode cX11_init 64 = .ok (.dup, 1) := by decide +kernel
theorem dX11_init_65 : decode cX11_init 65 = .ok (.bipush 6, 2) := by decide +kernel
theorem dX11_init_67 : decode cX11_init 67 = .ok (.bipush 102, 2) := by decide +kernel
theorem dX11_init_69 : decode cX11_init 69 = .ok (.iastore, 1) := by decide +kernel
theorem dX11_init_70 : decode cX11_init 70 = .ok (.dup, 1) := by decide +kernel
theorem dX11_init_71 : decode cX11_init 71 = .ok (.bipush 7, 2) := by decide +kernel
theorem dX11_init_73 : decode cX11_init 73 = .ok (.bipush 97, 2) := by decide +kernel
theorem dX11_init_75 : decode cX11_init 75 = .ok (.iastore, 1) := by decide +kernel
theorem dX11_init_76 : decode cX11_init 76 = .ok (.dup, 1) := by decide +kernel
theorem dX11_init_77 : decode cX11_init 77 = .ok (.bipush 8, 2) := by decide +kernel
theorem dX11_init_79 : decode cX11_init 79 = .ok (.bipush 114, 2) := by decide +kernel
theorem dX11_init_81 : decode cX11_init 81 = .ok (.iastore, 1) := by decide +kernel
theorem dX11_init_82 : decode cX11_init 82 = .ok (.putfield 19, 3) := by decide +kernel
theorem dX11_init_85 : decode cX11_init 85 = .ok (.aload_n 0, 1) := by decide +kernel
theorem dX11_init_86 : decode cX11_init 86 = .ok (.iconst 4, 1) := by decide +kernel
theorem dX11_init_87 : decode cX11_init 87 = .ok (.newarray .int, 2) := by decide +kernel
theorem dX11_init_89 : decode cX11_init 89 = .ok (.putfield 22, 3) := by decide +kernel
theorem dX11_init_92 : decode cX11_init 92 = .ok (.aload_n 0, 1) := by decide +kernel
theorem dX11_init_93 : decode cX11_init 93 = .ok (.bipush 21, 2) := by decide +kernel
theorem dX11_init_95 : decode cX11_init 95 = .ok (.newarray .int, 2) := by decide +kernel
theorem dX11_init_97 : decode cX11_init 97 = .ok (.putfield 25, 3) := by decide +kernel
theorem dX11_init_100 : decode cX11_init 100 = .ok (.aload_n 0, 1) := by decide +kernel
theorem dX11_init_101 : decode cX11_init 101 = .ok (.bipush 7, 2) := by decide +kernel
theorem dX11_init_103 : decode cX11_init 103 = .ok (.newarray .int, 2) := by decide +kernel
theorem dX11_init_105 : decode cX11_init 105 = .ok (.putfield 28, 3) := by decide +kernel
theorem dX11_init_108 : decode cX11_init 108 = .ok (.aload_n 0, 1) := by decide +kernel
theorem dX11_init_109 : decode cX11_init 109 = .ok (.bipush 7, 2) := by decide +kernel
theorem dX11_init_111 : decode cX11_init 111 = .ok (.newarray .int, 2) := by decide +kernel
theorem dX11_init_113 : decode cX11_init 113 = .ok (.putfield 31, 3) := by decide +kernel
theorem dX11_init_116 : decode cX11_init 116 = .ok (.aload_n 0, 1) := by decide +kernel
theorem dX11_init_117 : decode cX11_init 117 = .ok (.bipush 7, 2) := by decide +kernel
theorem dX11_init_119 : decode cX11_init 119 = .ok (.newarray .int, 2) := by decide +kernel
theorem dX11_init_121 : decode cX11_init 121 = .ok (.putfield 34, 3) := by decide +kernel
theorem dX11_init_124 : decode cX11_init 124 = .ok (.aload_n 0, 1) := by decide +kernel
theorem dX11_init_125 : decode cX11_init 125 = .ok (.bipush 7, 2) := by decide +kernel
theorem dX11_init_127 : decode cX11_init 127 = .ok (.newarray .int, 2) := by decide +kernel
theorem dX11_init_129 : decode cX11_init 129 = .ok (.putfield 37, 3) := by decide +kernel
theorem dX11_init_132 : decode cX11_init 132 = .ok (.aload_n 0, 1) := by decide +kernel
theorem dX11_init_133 : decode cX11_init 133 = .ok (.iconst 2, 1) := by decide +kernel
theorem dX11_init_134 : decode cX11_init 134 = .ok (.newarray .boolean, 2) := by decide +kernel
theorem dX11_init_136 : decode cX11_init 136 = .ok (.putfield 40, 3) := by decide +kernel
theorem dX11_init_139 : decode cX11_init 139 = .ok (.aload_n 0, 1) := by decide +kernel
theorem dX11_init_140 : decode cX11_init 140 = .ok (.iconst 4, 1) := by decide +kernel
theorem dX11_init_141 : decode cX11_init 141 = .ok (.newarray .int, 2) := by decide +kernel
theorem dX11_init_143 : decode cX11_init 143 = .ok (.dup, 1) := by decide +kernel
theorem dX11_init_144 : decode cX11_init 144 = .ok (.iconst 0, 1) := by decide +kernel
theorem dX11_init_145 : decode cX11_init 145 = .ok (.bipush (-4), 2) := by decide +kernel
theorem dX11_init_147 : decode cX11_init 147 = .ok (.iastore, 1) := by decide +kernel
theorem dX11_init_148 : decode cX11_init 148 = .ok (.dup, 1) := by decide +kernel
theorem dX11_init_149 : decode cX11_init 149 = .ok (.iconst 1, 1) := by decide +kernel
theorem dX11_init_150 : decode cX11_init 150 = .ok (.bipush (-4), 2) := by decide +kernel
theorem dX11_init_152 : decode cX11_init 152 = .ok (.iastore, 1) := by decide +kernel
theorem dX11_init_153 : decode cX11_init 153 = .ok (.dup, 1) := by decide +kernel
theorem dX11_init_154 : decode cX11_init 154 = .ok (.iconst 2, 1) := by decide +kernel
theorem dX11_init_155 : decode cX11_init 155 = .ok (.bipush (-4), 2) := by decide +kernel
theorem dX11_init_157 : decode cX11_init 157 = .ok (.iastore, 1) := by decide +kernel
theorem dX11_init_158 : decode cX11_init 158 = .ok (.dup, 1) := by decide +kernel
theorem dX11_init_159 : decode cX11_init 159 = .ok (.iconst 3, 1) := by decide +kernel
theorem dX11_init_160 : decode cX11_init 160 = .ok (.bipush (-4), 2) := by decide +kernel
theorem dX11_init_162 : decode cX11_init 162 = .ok (.iastore, 1) := by decide +kernel
theorem dX11_init_163 : decode cX11_init 163 = .ok (.putfield 44, 3) := by decide +kernel
theorem dX11_init_166 : decode cX11_init 166 = .ok (.aload_n 0, 1) := by decide +kernel
theorem dX11_init_167 : decode cX11_init 167 = .ok (.iconst 4, 1) := by decide +kernel
theorem dX11_init_168 : decode cX11_init 168 = .ok (.newarray .int, 2) := by decide +kernel
theorem dX11_init_170 : decode cX11_init 170 = .ok (.putfield 47, 3) := by decide +kernel
theorem dX11_init_173 : decode cX11_init 173 = .ok (.aload_n 0, 1) := by decide +kernel
theorem dX11_init_174 : decode cX11_init 174 = .ok (.sipush 160, 3) := by decide +kernel
theorem dX11_init_177 : decode cX11_init 177 = .ok (.newarray .int, 2) := by decide +kernel
theorem dX11_init_179 : decode cX11_init 179 = .ok (.putfield 50, 3) := by decide +kernel
theorem dX11_init_182 : decode cX11_init 182 = .ok (.aload_n 0, 1) := by decide +kernel
theorem dX11_init_183 : decode cX11_init 183 = .ok (.bipush 21, 2) := by decide +kernel
theorem dX11_init_185 : decode cX11_init 185 = .ok (.newarray .int, 2) := by decide +kernel
theorem dX11_init_187 : decode cX11_init 187 = .ok (.putfield 53, 3) := by decide +kernel
theorem dX11_init_190 : decode cX11_init 190 = .ok (.return_, 1) := by decide +kernel
theorem dX11_in_0 : decode cX11_in 0 = .ok (.lload_n 0, 1) := by decide +kernel
theorem dX11_in_1 : decode cX11_in 1 = .ok (.lload_n 2, 1) := by decide +kernel
theorem dX11_in_2 : decode cX11_in 2 = .ok (.lcmp, 1) := by decide +kernel
theorem dX11_in_3 : decode cX11_in 3 = .ok (.ifCond .lt 14, 3) := by decide +kernel
theorem dX11_in_6 : decode cX11_in 6 = .ok (.lload_n 0, 1) := by decide +kernel
theorem dX11_in_7 : decode cX11_in 7 = .ok (.lload 4, 2) := by decide +kernel
theorem dX11_in_9 : decode cX11_in 9 = .ok (.lcmp, 1) := by decide +kernel
theorem dX11_in_10 : decode cX11_in 10 = .ok (.ifCond .gt 7, 3) := by decide +kernel
theorem dX11_in_13 : decode cX11_in 13 = .ok (.iconst 1, 1) := by decide +kernel
theorem dX11_in_14 : decode cX11_in 14 = .ok (.goto 4, 3) := by decide +kernel
theorem dX11_in_17 : decode cX11_in 17 = .ok (.iconst 0, 1) := by decide +kernel
theorem dX11_in_18 : decode cX11_in 18 = .ok (.ireturn, 1) := by decide +kernel
theorem dX11_awake_0 : decode cX11_awake 0 = .ok (.aload_n 0, 1) := by decide +kernel
theorem dX11_awake_1 : decode cX11_awake 1 = .ok (.getfield 56, 3) := by decide +kernel
theorem dX11_awake_4 : decode cX11_awake 4 = .ok (.ifCond .ne 16, 3) := by decide +kernel
theorem dX11_awake_7 : decode cX11_awake 7 = .ok (.aload_n 0, 1) := by decide +kernel
theorem dX11_awake_8 : decode cX11_awake 8 = .ok (.getfield 7, 3) := by decide +kernel
theorem dX11_awake_11 : decode cX11_awake 11 = .ok (.bipush 21, 2) := by decide +kernel
theorem dX11_awake_13 : decode cX11_awake 13 = .ok (.iconst 3, 1) := by decide +kernel
theorem dX11_awake_14 : decode cX11_awake 14 = .ok (.iastore, 1) := by decide +kernel
theorem dX11_awake_15 : decode cX11_awake 15 = .ok (.aload_n 0, 1) := by decide +kernel
theorem dX11_awake_16 : decode cX11_awake 16 = .ok (.iconst 1, 1) := by decide +kernel
theorem dX11_awake_17 : decode cX11_awake 17 = .ok (.putfield 56, 3) := by decide +kernel
theorem dX11_awake_20 : decode cX11_awake 20 = .ok (.return_, 1) := by decide +kernel
theorem dX11_feed_0 : decode cX11_feed 0 = .ok (.aload_n 0, 1) := by decide +kernel
theorem dX11_feed_1 : decode cX11_feed 1 = .ok (.getfield 60, 3) := by decide +kernel
theorem dX11_feed_4 : decode cX11_feed 4 = .ok (.bipush 8, 2) := by decide +kernel
theorem dX11_feed_6 : decode cX11_feed 6 = .ok (.iadd, 1) := by decide +kernel
theorem dX11_feed_7 : decode cX11_feed 7 = .ok (.sipush 320, 3) := by decide +kernel
theorem dX11_feed_10 : decode cX11_feed 10 = .ok (.if_icmp .le 6, 3) := by decide +kernel
theorem dX11_feed_13 : decode cX11_feed 13 = .ok (.bipush (-3), 2) := by decide +kernel
theorem dX11_feed_15 : decode cX11_feed 15 = .ok (.ireturn, 1) := by decide +kernel
theorem dX11_feed_16 : decode cX11_feed 16 = .ok (.bipush 56, 2) := by decide +kernel
theorem dX11_feed_18 : decode cX11_feed 18 = .ok (.istore_n 3, 1) := by decide +kernel
theorem dX11_feed_19 : decode cX11_feed 19 = .ok (.iload_n 3, 1) := by decide +kernel
theorem dX11_feed_20 : decode cX11_feed 20 = .ok (.ifCond .lt 36, 3) := by decide +kernel
theorem dX11_feed_23 : decode cX11_feed 23 = .ok (.aload_n 0, 1) := by decide +kernel
theorem dX11_feed_24 : decode cX11_feed 24 = .ok (.getfield 16, 3) := by decide +kernel
theorem dX11_feed_27 : decode cX11_feed 27 = .ok (.aload_n 0, 1) := by decide +kernel
theorem dX11_feed_28 : decode cX11_feed 28 = .ok (.getfield 60, 3) := by decide +kernel
theorem dX11_feed_31 : decode cX11_feed 31 = .ok (.lload_n 1, 1) := by decide +kernel
theorem dX11_feed_32 : decode cX11_feed 32 = .ok (.iload_n 3, 1) := by decide +kernel
theorem dX11_feed_33 : decode cX11_feed 33 = .ok (.lshr, 1) := by decide +kernel
theorem dX11_feed_34 : decode cX11_feed 34 = .ok (.l2i, 1) := by decide +kernel
theorem dX11_feed_35 : decode cX11_feed 35 = .ok (.sipush 255, 3) := by decide +kernel
theorem dX11_feed_38 : decode cX11_feed 38 = .ok (.iand, 1) := by decide +kernel
theorem dX11_feed_39 : decode cX11_feed 39 = .ok (.iastore, 1) := by decide +kernel
theorem dX11_feed_40 : decode cX11_feed 40 = .ok (.aload_n 0, 1) := by decide +kernel
theorem dX11_feed_41 : decode cX11_feed 41 = .ok (.dup, 1) := by decide +kernel
theorem dX11_feed_42 : decode cX11_feed 42 = .ok (.getfield 60, 3) := by decide +kernel
theorem dX11_feed_45 : decode cX11_feed 45 = .ok (.iconst 1, 1) := by decide +kernel
theorem dX11_feed_46 : decode cX11_feed 46 = .ok (.iadd, 1) := by decide +kernel
theorem dX11_feed_47 : decode cX11_feed 47 = .ok (.putfield 60, 3) := by decide +kernel
theorem dX11_feed_50 : decode cX11_feed 50 = .ok (.iinc 3 (-8), 3) := by decide +kernel
theorem dX11_feed_53 : decode cX11_feed 53 = .ok (.goto (-34), 3) := by decide +kernel
theorem dX11_feed_56 : decode cX11_feed 56 = .ok (.aload_n 0, 1) := by decide +kernel
theorem dX11_feed_57 : decode cX11_feed 57 = .ok (.getfield 60, 3) := by decide +kernel
theorem dX11_feed_60 : decode cX11_feed 60 = .ok (.ireturn, 1) := by decide +kernel
theorem dX11_end_0 : decode cX11_end 0 = .ok (.iload_n 1, 1) := by decide +kernel
theorem dX11_end_1 : decode cX11_end 1 = .ok (.i2l, 1) := by decide +kernel
theorem dX11_end_2 : decode cX11_end 2 = .ok (.lconst 0, 1) := by decide +kernel
theorem dX11_end_3 : decode cX11_end 3 = .ok (.aload_n 0, 1) := by decide +kernel
theorem dX11_end_4 : decode cX11_end 4 = .ok (.getfield 60, 3) := by decide +kernel
theorem dX11_end_7 : decode cX11_end 7 = .ok (.i2l, 1) := by decide +kernel
theorem dX11_end_8 : decode cX11_end 8 = .ok (.invokestatic 64, 3) := by decide +kernel
theorem dX11_end_11 : decode cX11_end 11 = .ok (.ifCond .ne 5, 3) := by decide +kernel
theorem dX11_end_14 : decode cX11_end 14 = .ok (.iconst (-1), 1) := by decide +kernel
theorem dX11_end_15 : decode cX11_end 15 = .ok (.ireturn, 1) := by decide +kernel
theorem dX11_end_16 : decode cX11_end 16 = .ok (.aload_n 0, 1) := by decide +kernel
theorem dX11_end_17 : decode cX11_end 17 = .ok (.getfield 60, 3) := by decide +kernel
theorem dX11_end_20 : decode cX11_end 20 = .ok (.istore_n 2, 1) := by decide +kernel
theorem dX11_end_21 : decode cX11_end 21 = .ok (.aload_n 0, 1) := by decide +kernel
theorem dX11_end_22 : decode cX11_end 22 = .ok (.iload_n 1, 1) := by decide +kernel
theorem dX11_end_23 : decode cX11_end 23 = .ok (.putfield 60, 3) := by decide +kernel
theorem dX11_end_26 : decode cX11_end 26 = .ok (.iload_n 2, 1) := by decide +kernel
theorem dX11_end_27 : decode cX11_end 27 = .ok (.ireturn, 1) := by decide +kernel
theorem dX11_byteAt_0 : decode cX11_byteAt 0 = .ok (.iload_n 1, 1) := by decide +kernel
theorem dX11_byteAt_1 : decode cX11_byteAt 1 = .ok (.aload_n 0, 1) := by decide +kernel
theorem dX11_byteAt_2 : decode cX11_byteAt 2 = .ok (.getfield 60, 3) := by decide +kernel
theorem dX11_byteAt_5 : decode cX11_byteAt 5 = .ok (.if_icmp .ge 12, 3) := by decide +kernel
theorem dX11_byteAt_8 : decode cX11_byteAt 8 = .ok (.aload_n 0, 1) := by decide +kernel
theorem dX11_byteAt_9 : decode cX11_byteAt 9 = .ok (.getfield 16, 3) := by decide +kernel
theorem dX11_byteAt_12 : decode cX11_byteAt 12 = .ok (.iload_n 1, 1) := by decide +kernel
theorem dX11_byteAt_13 : decode cX11_byteAt 13 = .ok (.iaload, 1) := by decide +kernel
theorem dX11_byteAt_14 : decode cX11_byteAt 14 = .ok (.goto 5, 3) := by decide +kernel
theorem dX11_byteAt_17 : decode cX11_byteAt 17 = .ok (.bipush (-4), 2) := by decide +kernel
theorem dX11_byteAt_19 : decode cX11_byteAt 19 = .ok (.ireturn, 1) := by decide +kernel
theorem dX11_fails_0 : decode cX11_fails 0 = .ok (.aload_n 0, 1) := by decide +kernel
theorem dX11_fails_1 : decode cX11_fails 1 = .ok (.getfield 68, 3) := by decide +kernel
theorem dX11_fails_4 : decode cX11_fails 4 = .ok (.ifCond .ne 16, 3) := by decide +kernel
theorem dX11_fails_7 : decode cX11_fails 7 = .ok (.aload_n 0, 1) := by decide +kernel
theorem dX11_fails_8 : decode cX11_fails 8 = .ok (.iload_n 1, 1) := by decide +kernel
theorem dX11_fails_9 : decode cX11_fails 9 = .ok (.putfield 68, 3) := by decide +kernel
theorem dX11_fails_12 : decode cX11_fails 12 = .ok (.aload_n 0, 1) := by decide +kernel
theorem dX11_fails_13 : decode cX11_fails 13 = .ok (.aload_n 0, 1) := by decide +kernel
theorem dX11_fails_14 : decode cX11_fails 14 = .ok (.getfield 71, 3) := by decide +kernel
theorem dX11_fails_17 : decode cX11_fails 17 = .ok (.putfield 74, 3) := by decide +kernel
theorem dX11_fails_20 : decode cX11_fails 20 = .ok (.return_, 1) := by decide +kernel
theorem dX11_isName_0 : decode cX11_isName 0 = .ok (.aload_n 0, 1) := by decide +kernel
theorem dX11_isName_1 : decode cX11_isName 1 = .ok (.getfield 77, 3) := by decide +kernel
theorem dX11_isName_4 : decode cX11_isName 4 = .ok (.iconst 1, 1) := by decide +kernel
theorem dX11_isName_5 : decode cX11_isName 5 = .ok (.if_icmp .ne 22, 3) := by decide +kernel
theorem dX11_isName_8 : decode cX11_isName 8 = .ok (.aload_n 0, 1) := by decide +kernel
theorem dX11_isName_9 : decode cX11_isName 9 = .ok (.getfield 80, 3) := by decide +kernel
theorem dX11_isName_12 : decode cX11_isName 12 = .ok (.aload_n 0, 1) := by decide +kernel
theorem dX11_isName_13 : decode cX11_isName 13 = .ok (.getfield 71, 3) := by decide +kernel
theorem dX11_isName_16 : decode cX11_isName 16 = .ok (.isub, 1) := by decide +kernel
theorem dX11_isName_17 : decode cX11_isName 17 = .ok (.iload_n 2, 1) := by decide +kernel
theorem dX11_isName_18 : decode cX11_isName 18 = .ok (.iload_n 1, 1) := by decide +kernel
theorem dX11_isName_19 : decode cX11_isName 19 = .ok (.isub, 1) := by decide +kernel
theorem dX11_isName_20 : decode cX11_isName 20 = .ok (.if_icmp .ne 7, 3) := by decide +kernel
theorem dX11_isName_23 : decode cX11_isName 23 = .ok (.iconst 1, 1) := by decide +kernel
theorem dX11_isName_24 : decode cX11_isName 24 = .ok (.goto 4, 3) := by decide +kernel
theorem dX11_isName_27 : decode cX11_isName 27 = .ok (.iconst 0, 1) := by decide +kernel
theorem dX11_isName_28 : decode cX11_isName 28 = .ok (.istore_n 3, 1) := by decide +kernel
theorem dX11_isName_29 : decode cX11_isName 29 = .ok (.iconst 0, 1) := by decide +kernel
theorem dX11_isName_30 : decode cX11_isName 30 = .ok (.istore 4, 2) := by decide +kernel
theorem dX11_isName_32 : decode cX11_isName 32 = .ok (.iload_n 3, 1) := by decide +kernel
theorem dX11_isName_33 : decode cX11_isName 33 = .ok (.ifCond .eq 46, 3) := by decide +kernel
theorem dX11_isName_36 : decode cX11_isName 36 = .ok (.iload 4, 2) := by decide +kernel
theorem dX11_isName_38 : decode cX11_isName 38 = .ok (.iload_n 2, 1) := by decide +kernel
theorem dX11_isName_39 : decode cX11_isName 39 = .ok (.iload_n 1, 1) := by decide +kernel
theorem dX11_isName_40 : decode cX11_isName 40 = .ok (.isub, 1) := by decide +kernel
theorem dX11_isName_41 : decode cX11_isName 41 = .ok (.if_icmp .ge 38, 3) := by decide +kernel
theorem dX11_isName_44 : decode cX11_isName 44 = .ok (.aload_n 0, 1) := by decide +kernel
theorem dX11_isName_45 : decode cX11_isName 45 = .ok (.aload_n 0, 1) := by decide +kernel
theorem dX11_isName_46 : decode cX11_isName 46 = .ok (.getfield 71, 3) := by decide +kernel
theorem dX11_isName_49 : decode cX11_isName 49 = .ok (.iload 4, 2) := by decide +kernel
theorem dX11_isName_51 : decode cX11_isName 51 = .ok (.iadd, 1) := by decide +kernel
theorem dX11_isName_52 : decode cX11_isName 52 = .ok (.invokevirtual 83, 3) := by decide +kernel
theorem dX11_isName_55 : decode cX11_isName 55 = .ok (.aload_n 0, 1) := by decide +kernel
theorem dX11_isName_56 : decode cX11_isName 56 = .ok (.getfield 19, 3) := by decide +kernel
theorem dX11_isName_59 : decode cX11_isName 59 = .ok (.iload_n 1, 1) := by decide +kernel
theorem dX11_isName_60 : decode cX11_isName 60 = .ok (.iload 4, 2) := by decide +kernel
theorem dX11_isName_62 : decode cX11_isName 62 = .ok (.iadd, 1) := by decide +kernel
theorem dX11_isName_63 : decode cX11_isName 63 = .ok (.iaload, 1) := by decide +kernel
theorem dX11_isName_64 : decode cX11_isName 64 = .ok (.if_icmp .ne 7, 3) := by decide +kernel
theorem dX11_isName_67 : decode cX11_isName 67 = .ok (.iconst 1, 1) := by decide +kernel
theorem dX11_isName_68 : decode cX11_isName 68 = .ok (.goto 4, 3) := by decide +kernel
theorem dX11_isName_71 : decode cX11_isName 71 = .ok (.iconst 0, 1) := by decide +kernel
theorem dX11_isName_72 : decode cX11_isName 72 = .ok (.istore_n 3, 1) := by decide +kernel
theorem dX11_isName_73 : decode cX11_isName 73 = .ok (.iinc 4 1, 3) := by decide +kernel
theorem dX11_isName_76 : decode cX11_isName 76 = .ok (.goto (-44), 3) := by decide +kernel
theorem dX11_isName_79 : decode cX11_isName 79 = .ok (.iload_n 3, 1) := by decide +kernel
theorem dX11_isName_80 : decode cX11_isName 80 = .ok (.ireturn, 1) := by decide +kernel
theorem dX11_step_0 : decode cX11_step 0 = .ok (.aload_n 0, 1) := by decide +kernel
theorem dX11_step_1 : decode cX11_step 1 = .ok (.getfield 68, 3) := by decide +kernel
theorem dX11_step_4 : decode cX11_step 4 = .ok (.ifCond .le 4, 3) := by decide +kernel
theorem dX11_step_7 : decode cX11_step 7 = .ok (.return_, 1) := by decide +kernel
theorem dX11_step_8 : decode cX11_step 8 = .ok (.aload_n 0, 1) := by decide +kernel
theorem dX11_step_9 : decode cX11_step 9 = .ok (.aload_n 0, 1) := by decide +kernel
theorem dX11_step_10 : decode cX11_step 10 = .ok (.getfield 80, 3) := by decide +kernel
theorem dX11_step_13 : decode cX11_step 13 = .ok (.invokevirtual 83, 3) := by decide +kernel
theorem dX11_step_16 : decode cX11_step 16 = .ok (.bipush 32, 2) := by decide +kernel
theorem dX11_step_18 : decode cX11_step 18 = .ok (.if_icmp .ne 16, 3) := by decide +kernel
theorem dX11_step_21 : decode cX11_step 21 = .ok (.aload_n 0, 1) := by decide +kernel
theorem dX11_step_22 : decode cX11_step 22 = .ok (.dup, 1) := by decide +kernel
theorem dX11_step_23 : decode cX11_step 23 = .ok (.getfield 80, 3) := by decide +kernel
theorem dX11_step_26 : decode cX11_step 26 = .ok (.iconst 1, 1) := by decide +kernel
theorem dX11_step_27 : decode cX11_step 27 = .ok (.iadd, 1) := by decide +kernel
theorem dX11_step_28 : decode cX11_step 28 = .ok (.putfield 80, 3) := by decide +kernel
theorem dX11_step_31 : decode cX11_step 31 = .ok (.goto (-23), 3) := by decide +kernel
theorem dX11_step_34 : decode cX11_step 34 = .ok (.aload_n 0, 1) := by decide +kernel
theorem dX11_step_35 : decode cX11_step 35 = .ok (.aload_n 0, 1) := by decide +kernel
theorem dX11_step_36 : decode cX11_step 36 = .ok (.getfield 80, 3) := by decide +kernel
theorem dX11_step_39 : decode cX11_step 39 = .ok (.putfield 71, 3) := by decide +kernel
theorem dX11_step_42 : decode cX11_step 42 = .ok (.aload_n 0, 1) := by decide +kernel
theorem dX11_step_43 : decode cX11_step 43 = .ok (.aload_n 0, 1) := by decide +kernel
theorem dX11_step_44 : decode cX11_step 44 = .ok (.getfield 80, 3) := by decide +kernel
theorem dX11_step_47 : decode cX11_step 47 = .ok (.invokevirtual 83, 3) := by decide +kernel
theorem dX11_step_50 : decode cX11_step 50 = .ok (.istore_n 1, 1) := by decide +kernel
theorem dX11_step_51 : decode cX11_step 51 = .ok (.aload_n 0, 1) := by decide +kernel
theorem dX11_step_52 : decode cX11_step 52 = .ok (.iconst 0, 1) := by decide +kernel
theorem dX11_step_53 : decode cX11_step 53 = .ok (.putfield 87, 3) := by decide +kernel
theorem dX11_step_56 : decode cX11_step 56 = .ok (.iload_n 1, 1) := by decide +kernel
theorem dX11_step_57 : decode cX11_step 57 = .ok (.bipush (-4), 2) := by decide +kernel
theorem dX11_step_59 : decode cX11_step 59 = .ok (.if_icmp .ne 11, 3) := by decide +kernel
theorem dX11_step_62 : decode cX11_step 62 = .ok (.aload_n 0, 1) := by decide +kernel
theorem dX11_step_63 : decode cX11_step 63 = .ok (.iconst 0, 1) := by decide +kernel
theorem dX11_step_64 : decode cX11_step 64 = .ok (.putfield 77, 3) := by decide +kernel
theorem dX11_step_67 : decode cX11_step 67 = .ok (.goto 202, 3) := by decide +kernel
theorem dX11_step_70 : decode cX11_step 70 = .ok (.iload_n 1, 1) := by decide +kernel
theorem dX11_step_71 : decode cX11_step 71 = .ok (.i2l, 1) := by decide +kernel
theorem dX11_step_72 : decode cX11_step 72 = .ok (.ldc2_w 90, 3) := by decide +kernel
theorem dX11_step_75 : decode cX11_step 75 = .ok (.ldc2_w 92, 3) := by decide +kernel
theorem dX11_step_78 : decode cX11_step 78 = .ok (.invokestatic 64, 3) := by decide +kernel
theorem dX11_step_81 : decode cX11_step 81 = .ok (.ifCond .eq 45, 3) := by decide +kernel
theorem dX11_step_84 : decode cX11_step 84 = .ok (.aload_n 0, 1) := by decide +kernel
theorem dX11_step_85 : decode cX11_step 85 = .ok (.aload_n 0, 1) := by decide +kernel
theorem dX11_step_86 : decode cX11_step 86 = .ok (.getfield 80, 3) := by decide +kernel
theorem dX11_step_89 : decode cX11_step 89 = .ok (.invokevirtual 83, 3) := by decide +kernel
theorem dX11_step_92 : decode cX11_step 92 = .ok (.i2l, 1) := by decide +kernel
theorem dX11_step_93 : decode cX11_step 93 = .ok (.ldc2_w 90, 3) := by decide +kernel
theorem dX11_step_96 : decode cX11_step 96 = .ok (.ldc2_w 92, 3) := by decide +kernel
theorem dX11_step_99 : decode cX11_step 99 = .ok (.invokestatic 64, 3) := by decide +kernel
theorem dX11_step_102 : decode cX11_step 102 = .ok (.ifCond .eq 16, 3) := by decide +kernel
theorem dX11_step_105 : decode cX11_step 105 = .ok (.aload_n 0, 1) := by decide +kernel
theorem dX11_step_106 : decode cX11_step 106 = .ok (.dup, 1) := by decide +kernel
theorem dX11_step_107 : decode cX11_step 107 = .ok (.getfield 80, 3) := by decide +kernel
theorem dX11_step_110 : decode cX11_step 110 = .ok (.iconst 1, 1) := by decide +kernel
theorem dX11_step_111 : decode cX11_step 111 = .ok (.iadd, 1) := by decide +kernel
theorem dX11_step_112 : decode cX11_step 112 = .ok (.putfield 80, 3) := by decide +kernel
theorem dX11_step_115 : decode cX11_step 115 = .ok (.goto (-31), 3) := by decide +kernel
theorem dX11_step_118 : decode cX11_step 118 = .ok (.aload_n 0, 1) := by decide +kernel
theorem dX11_step_119 : decode cX11_step 119 = .ok (.iconst 1, 1) := by decide +kernel
theorem dX11_step_120 : decode cX11_step 120 = .ok (.putfield 77, 3) := by decide +kernel
theorem dX11_step_123 : decode cX11_step 123 = .ok (.goto 146, 3) := by decide +kernel
theorem dX11_step_126 : decode cX11_step 126 = .ok (.iload_n 1, 1) := by decide +kernel
theorem dX11_step_127 : decode cX11_step 127 = .ok (.i2l, 1) := by decide +kernel
theorem dX11_step_128 : decode cX11_step 128 = .ok (.ldc2_w 94, 3) := by decide +kernel
theorem dX11_step_131 : decode cX11_step 131 = .ok (.ldc2_w 96, 3) := by decide +kernel
theorem dX11_step_134 : decode cX11_step 134 = .ok (.invokestatic 64, 3) := by decide +kernel
theorem dX11_step_137 : decode cX11_step 137 = .ok (.ifCond .eq 106, 3) := by decide +kernel
theorem dX11_step_140 : decode cX11_step 140 = .ok (.aload_n 0, 1) := by decide +kernel
theorem dX11_step_141 : decode cX11_step 141 = .ok (.aload_n 0, 1) := by decide +kernel
theorem dX11_step_142 : decode cX11_step 142 = .ok (.getfield 80, 3) := by decide +kernel
theorem dX11_step_145 : decode cX11_step 145 = .ok (.invokevirtual 83, 3) := by decide +kernel
theorem dX11_step_148 : decode cX11_step 148 = .ok (.i2l, 1) := by decide +kernel
theorem dX11_step_149 : decode cX11_step 149 = .ok (.ldc2_w 94, 3) := by decide +kernel
theorem dX11_step_152 : decode cX11_step 152 = .ok (.ldc2_w 96, 3) := by decide +kernel
theorem dX11_step_155 : decode cX11_step 155 = .ok (.invokestatic 64, 3) := by decide +kernel
theorem dX11_step_158 : decode cX11_step 158 = .ok (.ifCond .eq 59, 3) := by decide +kernel
theorem dX11_step_161 : decode cX11_step 161 = .ok (.aload_n 0, 1) := by decide +kernel
theorem dX11_step_162 : decode cX11_step 162 = .ok (.aload_n 0, 1) := by decide +kernel
theorem dX11_step_163 : decode cX11_step 163 = .ok (.getfield 80, 3) := by decide +kernel
theorem dX11_step_166 : decode cX11_step 166 = .ok (.aload_n 0, 1) := by decide +kernel
theorem dX11_step_167 : decode cX11_step 167 = .ok (.getfield 71, 3) := by decide +kernel
theorem dX11_step_170 : decode cX11_step 170 = .ok (.isub, 1) := by decide +kernel
theorem dX11_step_171 : decode cX11_step 171 = .ok (.iconst 4, 1) := by decide +kernel
theorem dX11_step_172 : decode cX11_step 172 = .ok (.if_icmp .ge 25, 3) := by decide +kernel
theorem dX11_step_175 : decode cX11_step 175 = .ok (.bipush 10, 2) := by decide +kernel
theorem dX11_step_177 : decode cX11_step 177 = .ok (.aload_n 0, 1) := by decide +kernel
theorem dX11_step_178 : decode cX11_step 178 = .ok (.getfield 87, 3) := by decide +kernel
theorem dX11_step_181 : decode cX11_step 181 = .ok (.imul, 1) := by decide +kernel
theorem dX11_step_182 : decode cX11_step 182 = .ok (.aload_n 0, 1) := by decide +kernel
theorem dX11_step_183 : decode cX11_step 183 = .ok (.aload_n 0, 1) := by decide +kernel
theorem dX11_step_184 : decode cX11_step 184 = .ok (.getfield 80, 3) := by decide +kernel
theorem dX11_step_187 : decode cX11_step 187 = .ok (.invokevirtual 83, 3) := by decide +kernel
theorem dX11_step_190 : decode cX11_step 190 = .ok (.iadd, 1) := by decide +kernel
theorem dX11_step_191 : decode cX11_step 191 = .ok (.bipush 48, 2) := by decide +kernel
theorem dX11_step_193 : decode cX11_step 193 = .ok (.isub, 1) := by decide +kernel
theorem dX11_step_194 : decode cX11_step 194 = .ok (.goto 7, 3) := by decide +kernel
theorem dX11_step_197 : decode cX11_step 197 = .ok (.aload_n 0, 1) := by decide +kernel
theorem dX11_step_198 : decode cX11_step 198 = .ok (.getfield 87, 3) := by decide +kernel
theorem dX11_step_201 : decode cX11_step 201 = .ok (.putfield 87, 3) := by decide +kernel
theorem dX11_step_204 : decode cX11_step 204 = .ok (.aload_n 0, 1) := by decide +kernel
theorem dX11_step_205 : decode cX11_step 205 = .ok (.dup, 1) := by decide +kernel
theorem dX11_step_206 : decode cX11_step 206 = .ok (.getfield 80, 3) := by decide +kernel
theorem dX11_step_209 : decode cX11_step 209 = .ok (.iconst 1, 1) := by decide +kernel
theorem dX11_step_210 : decode cX11_step 210 = .ok (.iadd, 1) := by decide +kernel
theorem dX11_step_211 : decode cX11_step 211 = .ok (.putfield 80, 3) := by decide +kernel
theorem dX11_step_214 : decode cX11_step 214 = .ok (.goto (-74), 3) := by decide +kernel
theorem dX11_step_217 : decode cX11_step 217 = .ok (.aload_n 0, 1) := by decide +kernel
theorem dX11_step_218 : decode cX11_step 218 = .ok (.iconst 2, 1) := by decide +kernel
theorem dX11_step_219 : decode cX11_step 219 = .ok (.putfield 77, 3) := by decide +kernel
theorem dX11_step_222 : decode cX11_step 222 = .ok (.aload_n 0, 1) := by decide +kernel
theorem dX11_step_223 : decode cX11_step 223 = .ok (.getfield 80, 3) := by decide +kernel
theorem dX11_step_226 : decode cX11_step 226 = .ok (.aload_n 0, 1) := by decide +kernel
theorem dX11_step_227 : decode cX11_step 227 = .ok (.getfield 71, 3) := by decide +kernel
theorem dX11_step_230 : decode cX11_step 230 = .ok (.isub, 1) := by decide +kernel
theorem dX11_step_231 : decode cX11_step 231 = .ok (.iconst 4, 1) := by decide +kernel
theorem dX11_step_232 : decode cX11_step 232 = .ok (.if_icmp .le 37, 3) := by decide +kernel
theorem dX11_step_235 : decode cX11_step 235 = .ok (.aload_n 0, 1) := by decide +kernel
theorem dX11_step_236 : decode cX11_step 236 = .ok (.iconst 1, 1) := by decide +kernel
theorem dX11_step_237 : decode cX11_step 237 = .ok (.invokevirtual 98, 3) := by decide +kernel
theorem dX11_step_240 : decode cX11_step 240 = .ok (.goto 29, 3) := by decide +kernel
theorem dX11_step_243 : decode cX11_step 243 = .ok (.aload_n 0, 1) := by decide +kernel
theorem dX11_step_244 : decode cX11_step 244 = .ok (.iconst 3, 1) := by decide +kernel
theorem dX11_step_245 : decode cX11_step 245 = .ok (.putfield 77, 3) := by decide +kernel
theorem dX11_step_248 : decode cX11_step 248 = .ok (.aload_n 0, 1) := by decide +kernel
theorem dX11_step_249 : decode cX11_step 249 = .ok (.dup, 1) := by decide +kernel
theorem dX11_step_250 : decode cX11_step 250 = .ok (.getfield 80, 3) := by decide +kernel
theorem dX11_step_253 : decode cX11_step 253 = .ok (.iconst 1, 1) := by decide +kernel
theorem dX11_step_254 : decode cX11_step 254 = .ok (.iadd, 1) := by decide +kernel
theorem dX11_step_255 : decode cX11_step 255 = .ok (.putfield 80, 3) := by decide +kernel
theorem dX11_step_258 : decode cX11_step 258 = .ok (.iload_n 1, 1) := by decide +kernel
theorem dX11_step_259 : decode cX11_step 259 = .ok (.bipush 59, 2) := by decide +kernel
theorem dX11_step_261 : decode cX11_step 261 = .ok (.if_icmp .eq 8, 3) := by decide +kernel
theorem dX11_step_264 : decode cX11_step 264 = .ok (.aload_n 0, 1) := by decide +kernel
theorem dX11_step_265 : decode cX11_step 265 = .ok (.iconst 1, 1) := by decide +kernel
theorem dX11_step_266 : decode cX11_step 266 = .ok (.invokevirtual 98, 3) := by decide +kernel
theorem dX11_step_269 : decode cX11_step 269 = .ok (.return_, 1) := by decide +kernel
theorem dX11_looks_0 : decode cX11_looks 0 = .ok (.aload_n 0, 1) := by decide +kernel
theorem dX11_looks_1 : decode cX11_looks 1 = .ok (.getfield 68, 3) := by decide +kernel
theorem dX11_looks_4 : decode cX11_looks 4 = .ok (.ifCond .ne 16, 3) := by decide +kernel
theorem dX11_looks_7 : decode cX11_looks 7 = .ok (.aload_n 0, 1) := by decide +kernel
theorem dX11_looks_8 : decode cX11_looks 8 = .ok (.getfield 77, 3) := by decide +kernel
theorem dX11_looks_11 : decode cX11_looks 11 = .ok (.iconst 2, 1) := by decide +kernel
theorem dX11_looks_12 : decode cX11_looks 12 = .ok (.if_icmp .eq 8, 3) := by decide +kernel
theorem dX11_looks_15 : decode cX11_looks 15 = .ok (.aload_n 0, 1) := by decide +kernel
theorem dX11_looks_16 : decode cX11_looks 16 = .ok (.iconst 2, 1) := by decide +kernel
theorem dX11_looks_17 : decode cX11_looks 17 = .ok (.invokevirtual 98, 3) := by decide +kernel
theorem dX11_looks_20 : decode cX11_looks 20 = .ok (.aload_n 0, 1) := by decide +kernel
theorem dX11_looks_21 : decode cX11_looks 21 = .ok (.getfield 68, 3) := by decide +kernel
theorem dX11_looks_24 : decode cX11_looks 24 = .ok (.ifCond .ne 23, 3) := by decide +kernel
theorem dX11_looks_27 : decode cX11_looks 27 = .ok (.aload_n 0, 1) := by decide +kernel
theorem dX11_looks_28 : decode cX11_looks 28 = .ok (.getfield 87, 3) := by decide +kernel
theorem dX11_looks_31 : decode cX11_looks 31 = .ok (.i2l, 1) := by decide +kernel
theorem dX11_looks_32 : decode cX11_looks 32 = .ok (.iload_n 1, 1) := by decide +kernel
theorem dX11_looks_33 : decode cX11_looks 33 = .ok (.i2l, 1) := by decide +kernel
theorem dX11_looks_34 : decode cX11_looks 34 = .ok (.iload_n 2, 1) := by decide +kernel
theorem dX11_looks_35 : decode cX11_looks 35 = .ok (.i2l, 1) := by decide +kernel
theorem dX11_looks_36 : decode cX11_looks 36 = .ok (.invokestatic 64, 3) := by decide +kernel
theorem dX11_looks_39 : decode cX11_looks 39 = .ok (.ifCond .ne 8, 3) := by decide +kernel
theorem dX11_looks_42 : decode cX11_looks 42 = .ok (.aload_n 0, 1) := by decide +kernel
theorem dX11_looks_43 : decode cX11_looks 43 = .ok (.iconst 3, 1) := by decide +kernel
theorem dX11_looks_44 : decode cX11_looks 44 = .ok (.invokevirtual 98, 3) := by decide +kernel
theorem dX11_looks_47 : decode cX11_looks 47 = .ok (.return_, 1) := by decide +kernel
theorem dX11_number_0 : decode cX11_number 0 = .ok (.aload_n 0, 1) := by decide +kernel
theorem dX11_number_1 : decode cX11_number 1 = .ok (.iload_n 1, 1) := by decide +kernel
theorem dX11_number_2 : decode cX11_number 2 = .ok (.iload_n 2, 1) := by decide +kernel
theorem dX11_number_3 : decode cX11_number 3 = .ok (.invokevirtual 102, 3) := by decide +kernel
theorem dX11_number_6 : decode cX11_number 6 = .ok (.aload_n 0, 1) := by decide +kernel
theorem dX11_number_7 : decode cX11_number 7 = .ok (.getfield 68, 3) := by decide +kernel
theorem dX11_number_10 : decode cX11_number 10 = .ok (.ifCond .ne 10, 3) := by decide +kernel
theorem dX11_number_13 : decode cX11_number 13 = .ok (.aload_n 0, 1) := by decide +kernel
theorem dX11_number_14 : decode cX11_number 14 = .ok (.getfield 87, 3) := by decide +kernel
theorem dX11_number_17 : decode cX11_number 17 = .ok (.goto 4, 3) := by decide +kernel
theorem dX11_number_20 : decode cX11_number 20 = .ok (.iload_n 1, 1) := by decide +kernel
theorem dX11_number_21 : decode cX11_number 21 = .ok (.istore_n 3, 1) := by decide +kernel
theorem dX11_number_22 : decode cX11_number 22 = .ok (.aload_n 0, 1) := by decide +kernel
theorem dX11_number_23 : decode cX11_number 23 = .ok (.invokevirtual 106, 3) := by decide +kernel
theorem dX11_number_26 : decode cX11_number 26 = .ok (.iload_n 3, 1) := by decide +kernel
theorem dX11_number_27 : decode cX11_number 27 = .ok (.ireturn, 1) := by decide +kernel
theorem dX11_pairOf_0 : decode cX11_pairOf 0 = .ok (.iload_n 0, 1) := by decide +kernel
theorem dX11_pairOf_1 : decode cX11_pairOf 1 = .ok (.iload_n 1, 1) := by decide +kernel
theorem dX11_pairOf_2 : decode cX11_pairOf 2 = .ok (.if_icmp .ge 7, 3) := by decide +kernel
theorem dX11_pairOf_5 : decode cX11_pairOf 5 = .ok (.iload_n 0, 1) := by decide +kernel
theorem dX11_pairOf_6 : decode cX11_pairOf 6 = .ok (.goto 4, 3) := by decide +kernel
theorem dX11_pairOf_9 : decode cX11_pairOf 9 = .ok (.iload_n 1, 1) := by decide +kernel
theorem dX11_pairOf_10 : decode cX11_pairOf 10 = .ok (.istore_n 2, 1) := by decide +kernel
theorem dX11_pairOf_11 : decode cX11_pairOf 11 = .ok (.iload_n 0, 1) := by decide +kernel
theorem dX11_pairOf_12 : decode cX11_pairOf 12 = .ok (.iload_n 1, 1) := by decide +kernel
theorem dX11_pairOf_13 : decode cX11_pairOf 13 = .ok (.if_icmp .ge 7, 3) := by decide +kernel
theorem dX11_pairOf_16 : decode cX11_pairOf 16 = .ok (.iload_n 1, 1) := by decide +kernel
theorem dX11_pairOf_17 : decode cX11_pairOf 17 = .ok (.goto 4, 3) := by decide +kernel
theorem dX11_pairOf_20 : decode cX11_pairOf 20 = .ok (.iload_n 0, 1) := by decide +kernel
theorem dX11_pairOf_21 : decode cX11_pairOf 21 = .ok (.istore_n 3, 1) := by decide +kernel
theorem dX11_pairOf_22 : decode cX11_pairOf 22 = .ok (.iload_n 3, 1) := by decide +kernel
theorem dX11_pairOf_23 : decode cX11_pairOf 23 = .ok (.iload_n 3, 1) := by decide +kernel
theorem dX11_pairOf_24 : decode cX11_pairOf 24 = .ok (.iconst 1, 1) := by decide +kernel
theorem dX11_pairOf_25 : decode cX11_pairOf 25 = .ok (.isub, 1) := by decide +kernel
theorem dX11_pairOf_26 : decode cX11_pairOf 26 = .ok (.imul, 1) := by decide +kernel
theorem dX11_pairOf_27 : decode cX11_pairOf 27 = .ok (.iconst 2, 1) := by decide +kernel
theorem dX11_pairOf_28 : decode cX11_pairOf 28 = .ok (.idiv, 1) := by decide +kernel
theorem dX11_pairOf_29 : decode cX11_pairOf 29 = .ok (.iload_n 2, 1) := by decide +kernel
theorem dX11_pairOf_30 : decode cX11_pairOf 30 = .ok (.iadd, 1) := by decide +kernel
theorem dX11_pairOf_31 : decode cX11_pairOf 31 = .ok (.ireturn, 1) := by decide +kernel
theorem dX11_readFar_0 : decode cX11_readFar 0 = .ok (.aload_n 0, 1) := by decide +kernel
theorem dX11_readFar_1 : decode cX11_readFar 1 = .ok (.invokevirtual 106, 3) := by decide +kernel
theorem dX11_readFar_4 : decode cX11_readFar 4 = .ok (.aload_n 0, 1) := by decide +kernel
theorem dX11_readFar_5 : decode cX11_readFar 5 = .ok (.iconst 0, 1) := by decide +kernel
theorem dX11_readFar_6 : decode cX11_readFar 6 = .ok (.bipush 6, 2) := by decide +kernel
theorem dX11_readFar_8 : decode cX11_readFar 8 = .ok (.invokevirtual 109, 3) := by decide +kernel
theorem dX11_readFar_11 : decode cX11_readFar 11 = .ok (.istore_n 1, 1) := by decide +kernel
theorem dX11_readFar_12 : decode cX11_readFar 12 = .ok (.aload_n 0, 1) := by decide +kernel
theorem dX11_readFar_13 : decode cX11_readFar 13 = .ok (.iconst 0, 1) := by decide +kernel
theorem dX11_readFar_14 : decode cX11_readFar 14 = .ok (.bipush 6, 2) := by decide +kernel
theorem dX11_readFar_16 : decode cX11_readFar 16 = .ok (.invokevirtual 102, 3) := by decide +kernel
theorem dX11_readFar_19 : decode cX11_readFar 19 = .ok (.aload_n 0, 1) := by decide +kernel
theorem dX11_readFar_20 : decode cX11_readFar 20 = .ok (.getfield 68, 3) := by decide +kernel
theorem dX11_readFar_23 : decode cX11_readFar 23 = .ok (.ifCond .ne 16, 3) := by decide +kernel
theorem dX11_readFar_26 : decode cX11_readFar 26 = .ok (.aload_n 0, 1) := by decide +kernel
theorem dX11_readFar_27 : decode cX11_readFar 27 = .ok (.getfield 87, 3) := by decide +kernel
theorem dX11_readFar_30 : decode cX11_readFar 30 = .ok (.iload_n 1, 1) := by decide +kernel
theorem dX11_readFar_31 : decode cX11_readFar 31 = .ok (.if_icmp .ne 8, 3) := by decide +kernel
theorem dX11_readFar_34 : decode cX11_readFar 34 = .ok (.aload_n 0, 1) := by decide +kernel
theorem dX11_readFar_35 : decode cX11_readFar 35 = .ok (.iconst 3, 1) := by decide +kernel
theorem dX11_readFar_36 : decode cX11_readFar 36 = .ok (.invokevirtual 98, 3) := by decide +kernel
theorem dX11_readFar_39 : decode cX11_readFar 39 = .ok (.aload_n 0, 1) := by decide +kernel
theorem dX11_readFar_40 : decode cX11_readFar 40 = .ok (.getfield 68, 3) := by decide +kernel
theorem dX11_readFar_43 : decode cX11_readFar 43 = .ok (.ifCond .ne 10, 3) := by decide +kernel
theorem dX11_readFar_46 : decode cX11_readFar 46 = .ok (.aload_n 0, 1) := by decide +kernel
theorem dX11_readFar_47 : decode cX11_readFar 47 = .ok (.getfield 87, 3) := by decide +kernel
theorem dX11_readFar_50 : decode cX11_readFar 50 = .ok (.goto 6, 3) := by decide +kernel
theorem dX11_readFar_53 : decode cX11_readFar 53 = .ok (.iload_n 1, 1) := by decide +kernel
theorem dX11_readFar_54 : decode cX11_readFar 54 = .ok (.iconst 1, 1) := by decide +kernel
theorem dX11_readFar_55 : decode cX11_readFar 55 = .ok (.iadd, 1) := by decide +kernel
theorem dX11_readFar_56 : decode cX11_readFar 56 = .ok (.istore_n 2, 1) := by decide +kernel
theorem dX11_readFar_57 : decode cX11_readFar 57 = .ok (.aload_n 0, 1) := by decide +kernel
theorem dX11_readFar_58 : decode cX11_readFar 58 = .ok (.getfield 68, 3) := by decide +kernel
theorem dX11_readFar_61 : decode cX11_readFar 61 = .ok (.ifCond .ne 21, 3) := by decide +kernel
theorem dX11_readFar_64 : decode cX11_readFar 64 = .ok (.aload_n 0, 1) := by decide +kernel
theorem dX11_readFar_65 : decode cX11_readFar 65 = .ok (.getfield 13, 3) := by decide +kernel
theorem dX11_readFar_68 : decode cX11_readFar 68 = .ok (.iload_n 1, 1) := by decide +kernel
theorem dX11_readFar_69 : decode cX11_readFar 69 = .ok (.iload_n 2, 1) := by decide +kernel
theorem dX11_readFar_70 : decode cX11_readFar 70 = .ok (.invokestatic 113, 3) := by decide +kernel
theorem dX11_readFar_73 : decode cX11_readFar 73 = .ok (.iaload, 1) := by decide +kernel
theorem dX11_readFar_74 : decode cX11_readFar 74 = .ok (.ifCond .le 8, 3) := by decide +kernel
theorem dX11_readFar_77 : decode cX11_readFar 77 = .ok (.aload_n 0, 1) := by decide +kernel
theorem dX11_readFar_78 : decode cX11_readFar 78 = .ok (.iconst 4, 1) := by decide +kernel
theorem dX11_readFar_79 : decode cX11_readFar 79 = .ok (.invokevirtual 98, 3) := by decide +kernel
theorem dX11_readFar_82 : decode cX11_readFar 82 = .ok (.aload_n 0, 1) := by decide +kernel
theorem dX11_readFar_83 : decode cX11_readFar 83 = .ok (.invokevirtual 106, 3) := by decide +kernel
theorem dX11_readFar_86 : decode cX11_readFar 86 = .ok (.aload_n 0, 1) := by decide +kernel
theorem dX11_readFar_87 : decode cX11_readFar 87 = .ok (.iconst 1, 1) := by decide +kernel
theorem dX11_readFar_88 : decode cX11_readFar 88 = .ok (.sipush 9999, 3) := by decide +kernel
theorem dX11_readFar_91 : decode cX11_readFar 91 = .ok (.invokevirtual 109, 3) := by decide +kernel
theorem dX11_readFar_94 : decode cX11_readFar 94 = .ok (.istore_n 3, 1) := by decide +kernel
theorem dX11_readFar_95 : decode cX11_readFar 95 = .ok (.aload_n 0, 1) := by decide +kernel
theorem dX11_readFar_96 : decode cX11_readFar 96 = .ok (.getfield 68, 3) := by decide +kernel
theorem dX11_readFar_99 : decode cX11_readFar 99 = .ok (.ifCond .ne 54, 3) := by decide +kernel
theorem dX11_readFar_102 : decode cX11_readFar 102 = .ok (.aload_n 0, 1) := by decide +kernel
theorem dX11_readFar_103 : decode cX11_readFar 103 = .ok (.getfield 13, 3) := by decide +kernel
theorem dX11_readFar_106 : decode cX11_readFar 106 = .ok (.iload_n 1, 1) := by decide +kernel
theorem dX11_readFar_107 : decode cX11_readFar 107 = .ok (.iload_n 2, 1) := by decide +kernel
theorem dX11_readFar_108 : decode cX11_readFar 108 = .ok (.invokestatic 113, 3) := by decide +kernel
theorem dX11_readFar_111 : decode cX11_readFar 111 = .ok (.iload_n 3, 1) := by decide +kernel
theorem dX11_readFar_112 : decode cX11_readFar 112 = .ok (.iastore, 1) := by decide +kernel
theorem dX11_readFar_113 : decode cX11_readFar 113 = .ok (.aload_n 0, 1) := by decide +kernel
theorem dX11_readFar_114 : decode cX11_readFar 114 = .ok (.iload_n 1, 1) := by decide +kernel
theorem dX11_readFar_115 : decode cX11_readFar 115 = .ok (.aload_n 0, 1) := by decide +kernel
theorem dX11_readFar_116 : decode cX11_readFar 116 = .ok (.getfield 116, 3) := by decide +kernel
theorem dX11_readFar_119 : decode cX11_readFar 119 = .ok (.if_icmp .le 7, 3) := by decide +kernel
theorem dX11_readFar_122 : decode cX11_readFar 122 = .ok (.iload_n 1, 1) := by decide +kernel
theorem dX11_readFar_123 : decode cX11_readFar 123 = .ok (.goto 7, 3) := by decide +kernel
theorem dX11_readFar_126 : decode cX11_readFar 126 = .ok (.aload_n 0, 1) := by decide +kernel
theorem dX11_readFar_127 : decode cX11_readFar 127 = .ok (.getfield 116, 3) := by decide +kernel
theorem dX11_readFar_130 : decode cX11_readFar 130 = .ok (.putfield 116, 3) := by decide +kernel
theorem dX11_readFar_133 : decode cX11_readFar 133 = .ok (.aload_n 0, 1) := by decide +kernel
theorem dX11_readFar_134 : decode cX11_readFar 134 = .ok (.iload_n 2, 1) := by decide +kernel
theorem dX11_readFar_135 : decode cX11_readFar 135 = .ok (.aload_n 0, 1) := by decide +kernel
theorem dX11_readFar_136 : decode cX11_readFar 136 = .ok (.getfield 116, 3) := by decide +kernel
theorem dX11_readFar_139 : decode cX11_readFar 139 = .ok (.if_icmp .le 7, 3) := by decide +kernel
theorem dX11_readFar_142 : decode cX11_readFar 142 = .ok (.iload_n 2, 1) := by decide +kernel
theorem dX11_readFar_143 : decode cX11_readFar 143 = .ok (.goto 7, 3) := by decide +kernel
theorem dX11_readFar_146 : decode cX11_readFar 146 = .ok (.aload_n 0, 1) := by decide +kernel
theorem dX11_readFar_147 : decode cX11_readFar 147 = .ok (.getfield 116, 3) := by decide +kernel
theorem dX11_readFar_150 : decode cX11_readFar 150 = .ok (.putfield 116, 3) := by decide +kernel
theorem dX11_readFar_153 : decode cX11_readFar 153 = .ok (.return_, 1) := by decide +kernel
theorem dX11_readLine_0 : decode cX11_readLine 0 = .ok (.aload_n 0, 1) := by decide +kernel
theorem dX11_readLine_1 : decode cX11_readLine 1 = .ok (.iconst 0, 1) := by decide +kernel
theorem dX11_readLine_2 : decode cX11_readLine 2 = .ok (.bipush 6, 2) := by decide +kernel
theorem dX11_readLine_4 : decode cX11_readLine 4 = .ok (.invokevirtual 119, 3) := by decide +kernel
theorem dX11_readLine_7 : decode cX11_readLine 7 = .ok (.ifCond .eq 41, 3) := by decide +kernel
theorem dX11_readLine_10 : decode cX11_readLine 10 = .ok (.aload_n 0, 1) := by decide +kernel
theorem dX11_readLine_11 : decode cX11_readLine 11 = .ok (.getfield 123, 3) := by decide +kernel
theorem dX11_readLine_14 : decode cX11_readLine 14 = .ok (.ifCond .eq 8, 3) := by decide +kernel
theorem dX11_readLine_17 : decode cX11_readLine 17 = .ok (.aload_n 0, 1) := by decide +kernel
theorem dX11_readLine_18 : decode cX11_readLine 18 = .ok (.iconst 4, 1) := by decide +kernel
theorem dX11_readLine_19 : decode cX11_readLine 19 = .ok (.invokevirtual 98, 3) := by decide +kernel
theorem dX11_readLine_22 : decode cX11_readLine 22 = .ok (.aload_n 0, 1) := by decide +kernel
theorem dX11_readLine_23 : decode cX11_readLine 23 = .ok (.iconst 1, 1) := by decide +kernel
theorem dX11_readLine_24 : decode cX11_readLine 24 = .ok (.putfield 123, 3) := by decide +kernel
theorem dX11_readLine_27 : decode cX11_readLine 27 = .ok (.aload_n 0, 1) := by decide +kernel
theorem dX11_readLine_28 : decode cX11_readLine 28 = .ok (.invokevirtual 106, 3) := by decide +kernel
theorem dX11_readLine_31 : decode cX11_readLine 31 = .ok (.aload_n 0, 1) := by decide +kernel
theorem dX11_readLine_32 : decode cX11_readLine 32 = .ok (.getfield 13, 3) := by decide +kernel
theorem dX11_readLine_35 : decode cX11_readLine 35 = .ok (.bipush 21, 2) := by decide +kernel
theorem dX11_readLine_37 : decode cX11_readLine 37 = .ok (.aload_n 0, 1) := by decide +kernel
theorem dX11_readLine_38 : decode cX11_readLine 38 = .ok (.iconst 2, 1) := by decide +kernel
theorem dX11_readLine_39 : decode cX11_readLine 39 = .ok (.bipush 7, 2) := by decide +kernel
theorem dX11_readLine_41 : decode cX11_readLine 41 = .ok (.invokevirtual 109, 3) := by decide +kernel
theorem dX11_readLine_44 : decode cX11_readLine 44 = .ok (.iastore, 1) := by decide +kernel
theorem dX11_readLine_45 : decode cX11_readLine 45 = .ok (.goto 26, 3) := by decide +kernel
theorem dX11_readLine_48 : decode cX11_readLine 48 = .ok (.aload_n 0, 1) := by decide +kernel
theorem dX11_readLine_49 : decode cX11_readLine 49 = .ok (.bipush 6, 2) := by decide +kernel
theorem dX11_readLine_51 : decode cX11_readLine 51 = .ok (.bipush 9, 2) := by decide +kernel
theorem dX11_readLine_53 : decode cX11_readLine 53 = .ok (.invokevirtual 119, 3) := by decide +kernel
theorem dX11_readLine_56 : decode cX11_readLine 56 = .ok (.ifCond .eq 10, 3) := by decide +kernel
theorem dX11_readLine_59 : decode cX11_readLine 59 = .ok (.aload_n 0, 1) := by decide +kernel
theorem dX11_readLine_60 : decode cX11_readLine 60 = .ok (.invokevirtual 126, 3) := by decide +kernel
theorem dX11_readLine_63 : decode cX11_readLine 63 = .ok (.goto 8, 3) := by decide +kernel
theorem dX11_readLine_66 : decode cX11_readLine 66 = .ok (.aload_n 0, 1) := by decide +kernel
theorem dX11_readLine_67 : decode cX11_readLine 67 = .ok (.iconst 2, 1) := by decide +kernel
theorem dX11_readLine_68 : decode cX11_readLine 68 = .ok (.invokevirtual 98, 3) := by decide +kernel
theorem dX11_readLine_71 : decode cX11_readLine 71 = .ok (.aload_n 0, 1) := by decide +kernel
theorem dX11_readLine_72 : decode cX11_readLine 72 = .ok (.getfield 68, 3) := by decide +kernel
theorem dX11_readLine_75 : decode cX11_readLine 75 = .ok (.ifCond .ne 16, 3) := by decide +kernel
theorem dX11_readLine_78 : decode cX11_readLine 78 = .ok (.aload_n 0, 1) := by decide +kernel
theorem dX11_readLine_79 : decode cX11_readLine 79 = .ok (.getfield 77, 3) := by decide +kernel
theorem dX11_readLine_82 : decode cX11_readLine 82 = .ok (.iconst 3, 1) := by decide +kernel
theorem dX11_readLine_83 : decode cX11_readLine 83 = .ok (.if_icmp .eq 8, 3) := by decide +kernel
theorem dX11_readLine_86 : decode cX11_readLine 86 = .ok (.aload_n 0, 1) := by decide +kernel
theorem dX11_readLine_87 : decode cX11_readLine 87 = .ok (.iconst 2, 1) := by decide +kernel
theorem dX11_readLine_88 : decode cX11_readLine 88 = .ok (.invokevirtual 98, 3) := by decide +kernel
theorem dX11_readLine_91 : decode cX11_readLine 91 = .ok (.aload_n 0, 1) := by decide +kernel
theorem dX11_readLine_92 : decode cX11_readLine 92 = .ok (.invokevirtual 106, 3) := by decide +kernel
theorem dX11_readLine_95 : decode cX11_readLine 95 = .ok (.return_, 1) := by decide +kernel
theorem dX11_land_0 : decode cX11_land 0 = .ok (.aload_n 0, 1) := by decide +kernel
theorem dX11_land_1 : decode cX11_land 1 = .ok (.iconst 0, 1) := by decide +kernel
theorem dX11_land_2 : decode cX11_land 2 = .ok (.putfield 68, 3) := by decide +kernel
theorem dX11_land_5 : decode cX11_land 5 = .ok (.aload_n 0, 1) := by decide +kernel
theorem dX11_land_6 : decode cX11_land 6 = .ok (.iconst 0, 1) := by decide +kernel
theorem dX11_land_7 : decode cX11_land 7 = .ok (.putfield 80, 3) := by decide +kernel
theorem dX11_land_10 : decode cX11_land 10 = .ok (.aload_n 0, 1) := by decide +kernel
theorem dX11_land_11 : decode cX11_land 11 = .ok (.iconst 0, 1) := by decide +kernel
theorem dX11_land_12 : decode cX11_land 12 = .ok (.putfield 123, 3) := by decide +kernel
theorem dX11_land_15 : decode cX11_land 15 = .ok (.aload_n 0, 1) := by decide +kernel
theorem dX11_land_16 : decode cX11_land 16 = .ok (.iconst 0, 1) := by decide +kernel
theorem dX11_land_17 : decode cX11_land 17 = .ok (.putfield 116, 3) := by decide +kernel
theorem dX11_land_20 : decode cX11_land 20 = .ok (.iconst 0, 1) := by decide +kernel
theorem dX11_land_21 : decode cX11_land 21 = .ok (.istore_n 1, 1) := by decide +kernel
theorem dX11_land_22 : decode cX11_land 22 = .ok (.iconst 0, 1) := by decide +kernel
theorem dX11_land_23 : decode cX11_land 23 = .ok (.istore_n 2, 1) := by decide +kernel
theorem dX11_land_24 : decode cX11_land 24 = .ok (.iload_n 2, 1) := by decide +kernel
theorem dX11_land_25 : decode cX11_land 25 = .ok (.bipush 22, 2) := by decide +kernel
theorem dX11_land_27 : decode cX11_land 27 = .ok (.if_icmp .ge 16, 3) := by decide +kernel
theorem dX11_land_30 : decode cX11_land 30 = .ok (.aload_n 0, 1) := by decide +kernel
theorem dX11_land_31 : decode cX11_land 31 = .ok (.getfield 13, 3) := by decide +kernel
theorem dX11_land_34 : decode cX11_land 34 = .ok (.iload_n 2, 1) := by decide +kernel
theorem dX11_land_35 : decode cX11_land 35 = .ok (.iconst 0, 1) := by decide +kernel
theorem dX11_land_36 : decode cX11_land 36 = .ok (.iastore, 1) := by decide +kernel
theorem dX11_land_37 : decode cX11_land 37 = .ok (.iinc 2 1, 3) := by decide +kernel
theorem dX11_land_40 : decode cX11_land 40 = .ok (.goto (-16), 3) := by decide +kernel
theorem dX11_land_43 : decode cX11_land 43 = .ok (.aload_n 0, 1) := by decide +kernel
theorem dX11_land_44 : decode cX11_land 44 = .ok (.getfield 13, 3) := by decide +kernel
theorem dX11_land_47 : decode cX11_land 47 = .ok (.bipush 21, 2) := by decide +kernel
theorem dX11_land_49 : decode cX11_land 49 = .ok (.iconst 3, 1) := by decide +kernel
theorem dX11_land_50 : decode cX11_land 50 = .ok (.iastore, 1) := by decide +kernel
theorem dX11_land_51 : decode cX11_land 51 = .ok (.aload_n 0, 1) := by decide +kernel
theorem dX11_land_52 : decode cX11_land 52 = .ok (.invokevirtual 106, 3) := by decide +kernel
theorem dX11_land_55 : decode cX11_land 55 = .ok (.aload_n 0, 1) := by decide +kernel
theorem dX11_land_56 : decode cX11_land 56 = .ok (.getfield 68, 3) := by decide +kernel
theorem dX11_land_59 : decode cX11_land 59 = .ok (.ifCond .ne 20, 3) := by decide +kernel
theorem dX11_land_62 : decode cX11_land 62 = .ok (.aload_n 0, 1) := by decide +kernel
theorem dX11_land_63 : decode cX11_land 63 = .ok (.getfield 77, 3) := by decide +kernel
theorem dX11_land_66 : decode cX11_land 66 = .ok (.ifCond .eq 13, 3) := by decide +kernel
theorem dX11_land_69 : decode cX11_land 69 = .ok (.aload_n 0, 1) := by decide +kernel
theorem dX11_land_70 : decode cX11_land 70 = .ok (.invokevirtual 129, 3) := by decide +kernel
theorem dX11_land_73 : decode cX11_land 73 = .ok (.iinc 1 1, 3) := by decide +kernel
theorem dX11_land_76 : decode cX11_land 76 = .ok (.goto (-21), 3) := by decide +kernel
theorem dX11_land_79 : decode cX11_land 79 = .ok (.aload_n 0, 1) := by decide +kernel
theorem dX11_land_80 : decode cX11_land 80 = .ok (.getfield 68, 3) := by decide +kernel
theorem dX11_land_83 : decode cX11_land 83 = .ok (.ifCond .ne 22, 3) := by decide +kernel
theorem dX11_land_86 : decode cX11_land 86 = .ok (.aload_n 0, 1) := by decide +kernel
theorem dX11_land_87 : decode cX11_land 87 = .ok (.getfield 116, 3) := by decide +kernel
theorem dX11_land_90 : decode cX11_land 90 = .ok (.aload_n 0, 1) := by decide +kernel
theorem dX11_land_91 : decode cX11_land 91 = .ok (.getfield 13, 3) := by decide +kernel
theorem dX11_land_94 : decode cX11_land 94 = .ok (.bipush 21, 2) := by decide +kernel
theorem dX11_land_96 : decode cX11_land 96 = .ok (.iaload, 1) := by decide +kernel
theorem dX11_land_97 : decode cX11_land 97 = .ok (.if_icmp .lt 8, 3) := by decide +kernel
theorem dX11_land_100 : decode cX11_land 100 = .ok (.aload_n 0, 1) := by decide +kernel
theorem dX11_land_101 : decode cX11_land 101 = .ok (.iconst 5, 1) := by decide +kernel
theorem dX11_land_102 : decode cX11_land 102 = .ok (.invokevirtual 98, 3) := by decide +kernel
theorem dX11_land_105 : decode cX11_land 105 = .ok (.aload_n 0, 1) := by decide +kernel
theorem dX11_land_106 : decode cX11_land 106 = .ok (.iconst 0, 1) := by decide +kernel
theorem dX11_land_107 : decode cX11_land 107 = .ok (.putfield 60, 3) := by decide +kernel
theorem dX11_land_110 : decode cX11_land 110 = .ok (.aload_n 0, 1) := by decide +kernel
theorem dX11_land_111 : decode cX11_land 111 = .ok (.aload_n 0, 1) := by decide +kernel
theorem dX11_land_112 : decode cX11_land 112 = .ok (.getfield 68, 3) := by decide +kernel
theorem dX11_land_115 : decode cX11_land 115 = .ok (.putfield 132, 3) := by decide +kernel
theorem dX11_land_118 : decode cX11_land 118 = .ok (.aload_n 0, 1) := by decide +kernel
theorem dX11_land_119 : decode cX11_land 119 = .ok (.getfield 68, 3) := by decide +kernel
theorem dX11_land_122 : decode cX11_land 122 = .ok (.ifCond .le 11, 3) := by decide +kernel
theorem dX11_land_125 : decode cX11_land 125 = .ok (.bipush (-10), 2) := by decide +kernel
theorem dX11_land_127 : decode cX11_land 127 = .ok (.aload_n 0, 1) := by decide +kernel
theorem dX11_land_128 : decode cX11_land 128 = .ok (.getfield 74, 3) := by decide +kernel
theorem dX11_land_131 : decode cX11_land 131 = .ok (.isub, 1) := by decide +kernel
theorem dX11_land_132 : decode cX11_land 132 = .ok (.ireturn, 1) := by decide +kernel
theorem dX11_land_133 : decode cX11_land 133 = .ok (.iconst 0, 1) := by decide +kernel
theorem dX11_land_134 : decode cX11_land 134 = .ok (.istore_n 2, 1) := by decide +kernel
theorem dX11_land_135 : decode cX11_land 135 = .ok (.iload_n 2, 1) := by decide +kernel
theorem dX11_land_136 : decode cX11_land 136 = .ok (.bipush 22, 2) := by decide +kernel
theorem dX11_land_138 : decode cX11_land 138 = .ok (.if_icmp .ge 21, 3) := by decide +kernel
theorem dX11_land_141 : decode cX11_land 141 = .ok (.aload_n 0, 1) := by decide +kernel
theorem dX11_land_142 : decode cX11_land 142 = .ok (.getfield 7, 3) := by decide +kernel
theorem dX11_land_145 : decode cX11_land 145 = .ok (.iload_n 2, 1) := by decide +kernel
theorem dX11_land_146 : decode cX11_land 146 = .ok (.aload_n 0, 1) := by decide +kernel
theorem dX11_land_147 : decode cX11_land 147 = .ok (.getfield 13, 3) := by decide +kernel
theorem dX11_land_150 : decode cX11_land 150 = .ok (.iload_n 2, 1) := by decide +kernel
theorem dX11_land_151 : decode cX11_land 151 = .ok (.iaload, 1) := by decide +kernel
theorem dX11_land_152 : decode cX11_land 152 = .ok (.iastore, 1) := by decide +kernel
theorem dX11_land_153 : decode cX11_land 153 = .ok (.iinc 2 1, 3) := by decide +kernel
theorem dX11_land_156 : decode cX11_land 156 = .ok (.goto (-21), 3) := by decide +kernel
theorem dX11_land_159 : decode cX11_land 159 = .ok (.aload_n 0, 1) := by decide +kernel
theorem dX11_land_160 : decode cX11_land 160 = .ok (.getfield 7, 3) := by decide +kernel
theorem dX11_land_163 : decode cX11_land 163 = .ok (.bipush 30, 2) := by decide +kernel
theorem dX11_land_165 : decode cX11_land 165 = .ok (.iconst 0, 1) := by decide +kernel
theorem dX11_land_166 : decode cX11_land 166 = .ok (.iastore, 1) := by decide +kernel
theorem dX11_land_167 : decode cX11_land 167 = .ok (.aload_n 0, 1) := by decide +kernel
theorem dX11_land_168 : decode cX11_land 168 = .ok (.iconst 1, 1) := by decide +kernel
theorem dX11_land_169 : decode cX11_land 169 = .ok (.putfield 56, 3) := by decide +kernel
theorem dX11_land_172 : decode cX11_land 172 = .ok (.aload_n 0, 1) := by decide +kernel
theorem dX11_land_173 : decode cX11_land 173 = .ok (.getfield 40, 3) := by decide +kernel
theorem dX11_land_176 : decode cX11_land 176 = .ok (.iconst 0, 1) := by decide +kernel
theorem dX11_land_177 : decode cX11_land 177 = .ok (.iconst 0, 1) := by decide +kernel
theorem dX11_land_178 : decode cX11_land 178 = .ok (.bastore, 1) := by decide +kernel
theorem dX11_land_179 : decode cX11_land 179 = .ok (.aload_n 0, 1) := by decide +kernel
theorem dX11_land_180 : decode cX11_land 180 = .ok (.getfield 40, 3) := by decide +kernel
theorem dX11_land_183 : decode cX11_land 183 = .ok (.iconst 1, 1) := by decide +kernel
theorem dX11_land_184 : decode cX11_land 184 = .ok (.iconst 0, 1) := by decide +kernel
theorem dX11_land_185 : decode cX11_land 185 = .ok (.bastore, 1) := by decide +kernel
theorem dX11_land_186 : decode cX11_land 186 = .ok (.iload_n 1, 1) := by decide +kernel
theorem dX11_land_187 : decode cX11_land 187 = .ok (.ireturn, 1) := by decide +kernel
theorem dX11_fault_0 : decode cX11_fault 0 = .ok (.aload_n 0, 1) := by decide +kernel
theorem dX11_fault_1 : decode cX11_fault 1 = .ok (.getfield 132, 3) := by decide +kernel
theorem dX11_fault_4 : decode cX11_fault 4 = .ok (.ireturn, 1) := by decide +kernel
theorem dX11_isPlace_0 : decode cX11_isPlace 0 = .ok (.aload_n 0, 1) := by decide +kernel
theorem dX11_isPlace_1 : decode cX11_isPlace 1 = .ok (.invokevirtual 135, 3) := by decide +kernel
theorem dX11_isPlace_4 : decode cX11_isPlace 4 = .ok (.iload_n 1, 1) := by decide +kernel
theorem dX11_isPlace_5 : decode cX11_isPlace 5 = .ok (.i2l, 1) := by decide +kernel
theorem dX11_isPlace_6 : decode cX11_isPlace 6 = .ok (.lconst 0, 1) := by decide +kernel
theorem dX11_isPlace_7 : decode cX11_isPlace 7 = .ok (.aload_n 0, 1) := by decide +kernel
theorem dX11_isPlace_8 : decode cX11_isPlace 8 = .ok (.getfield 7, 3) := by decide +kernel
theorem dX11_isPlace_11 : decode cX11_isPlace 11 = .ok (.bipush 21, 2) := by decide +kernel
theorem dX11_isPlace_13 : decode cX11_isPlace 13 = .ok (.iaload, 1) := by decide +kernel
theorem dX11_isPlace_14 : decode cX11_isPlace 14 = .ok (.iconst 1, 1) := by decide +kernel
theorem dX11_isPlace_15 : decode cX11_isPlace 15 = .ok (.isub, 1) := by decide +kernel
theorem dX11_isPlace_16 : decode cX11_isPlace 16 = .ok (.i2l, 1) := by decide +kernel
theorem dX11_isPlace_17 : decode cX11_isPlace 17 = .ok (.invokestatic 64, 3) := by decide +kernel
theorem dX11_isPlace_20 : decode cX11_isPlace 20 = .ok (.ireturn, 1) := by decide +kernel
theorem dX11_areTwo_0 : decode cX11_areTwo 0 = .ok (.aload_n 0, 1) := by decide +kernel
theorem dX11_areTwo_1 : decode cX11_areTwo 1 = .ok (.iload_n 1, 1) := by decide +kernel
theorem dX11_areTwo_2 : decode cX11_areTwo 2 = .ok (.invokevirtual 138, 3) := by decide +kernel
theorem dX11_areTwo_5 : decode cX11_areTwo 5 = .ok (.ifCond .eq 20, 3) := by decide +kernel
theorem dX11_areTwo_8 : decode cX11_areTwo 8 = .ok (.aload_n 0, 1) := by decide +kernel
theorem dX11_areTwo_9 : decode cX11_areTwo 9 = .ok (.iload_n 2, 1) := by decide +kernel
theorem dX11_areTwo_10 : decode cX11_areTwo 10 = .ok (.invokevirtual 138, 3) := by decide +kernel
theorem dX11_areTwo_13 : decode cX11_areTwo 13 = .ok (.ifCond .eq 12, 3) := by decide +kernel
theorem dX11_areTwo_16 : decode cX11_areTwo 16 = .ok (.iload_n 1, 1) := by decide +kernel
theorem dX11_areTwo_17 : decode cX11_areTwo 17 = .ok (.iload_n 2, 1) := by decide +kernel
theorem dX11_areTwo_18 : decode cX11_areTwo 18 = .ok (.if_icmp .eq 7, 3) := by decide +kernel
theorem dX11_areTwo_21 : decode cX11_areTwo 21 = .ok (.iconst 1, 1) := by decide +kernel
theorem dX11_areTwo_22 : decode cX11_areTwo 22 = .ok (.goto 4, 3) := by decide +kernel
theorem dX11_areTwo_25 : decode cX11_areTwo 25 = .ok (.iconst 0, 1) := by decide +kernel
theorem dX11_areTwo_26 : decode cX11_areTwo 26 = .ok (.ireturn, 1) := by decide +kernel
theorem dX11_areThree_0 : decode cX11_areThree 0 = .ok (.aload_n 0, 1) := by decide +kernel
theorem dX11_areThree_1 : decode cX11_areThree 1 = .ok (.iload_n 1, 1) := by decide +kernel
theorem dX11_areThree_2 : decode cX11_areThree 2 = .ok (.iload_n 2, 1) := by decide +kernel
theorem dX11_areThree_3 : decode cX11_areThree 3 = .ok (.invokevirtual 142, 3) := by decide +kernel
theorem dX11_areThree_6 : decode cX11_areThree 6 = .ok (.ifCond .eq 21, 3) := by decide +kernel
theorem dX11_areThree_9 : decode cX11_areThree 9 = .ok (.aload_n 0, 1) := by decide +kernel
theorem dX11_areThree_10 : decode cX11_areThree 10 = .ok (.iload_n 1, 1) := by decide +kernel
theorem dX11_areThree_11 : decode cX11_areThree 11 = .ok (.iload_n 3, 1) := by decide +kernel
theorem dX11_areThree_12 : decode cX11_areThree 12 = .ok (.invokevirtual 142, 3) := by decide +kernel
theorem dX11_areThree_15 : decode cX11_areThree 15 = .ok (.ifCond .eq 12, 3) := by decide +kernel
theorem dX11_areThree_18 : decode cX11_areThree 18 = .ok (.iload_n 2, 1) := by decide +kernel
theorem dX11_areThree_19 : decode cX11_areThree 19 = .ok (.iload_n 3, 1) := by decide +kernel
theorem dX11_areThree_20 : decode cX11_areThree 20 = .ok (.if_icmp .eq 7, 3) := by decide +kernel
theorem dX11_areThree_23 : decode cX11_areThree 23 = .ok (.iconst 1, 1) := by decide +kernel
theorem dX11_areThree_24 : decode cX11_areThree 24 = .ok (.goto 4, 3) := by decide +kernel
theorem dX11_areThree_27 : decode cX11_areThree 27 = .ok (.iconst 0, 1) := by decide +kernel
theorem dX11_areThree_28 : decode cX11_areThree 28 = .ok (.ireturn, 1) := by decide +kernel
theorem dX11_areFour_0 : decode cX11_areFour 0 = .ok (.aload_n 0, 1) := by decide +kernel
theorem dX11_areFour_1 : decode cX11_areFour 1 = .ok (.iload_n 1, 1) := by decide +kernel
theorem dX11_areFour_2 : decode cX11_areFour 2 = .ok (.iload_n 2, 1) := by decide +kernel
theorem dX11_areFour_3 : decode cX11_areFour 3 = .ok (.iload_n 3, 1) := by decide +kernel
theorem dX11_areFour_4 : decode cX11_areFour 4 = .ok (.invokevirtual 145, 3) := by decide +kernel
theorem dX11_areFour_7 : decode cX11_areFour 7 = .ok (.ifCond .eq 24, 3) := by decide +kernel
theorem dX11_areFour_10 : decode cX11_areFour 10 = .ok (.aload_n 0, 1) := by decide +kernel
theorem dX11_areFour_11 : decode cX11_areFour 11 = .ok (.iload_n 1, 1) := by decide +kernel
theorem dX11_areFour_12 : decode cX11_areFour 12 = .ok (.iload_n 2, 1) := by decide +kernel
theorem dX11_areFour_13 : decode cX11_areFour 13 = .ok (.iload 4, 2) := by decide +kernel
theorem dX11_areFour_15 : decode cX11_areFour 15 = .ok (.invokevirtual 145, 3) := by decide +kernel
theorem dX11_areFour_18 : decode cX11_areFour 18 = .ok (.ifCond .eq 13, 3) := by decide +kernel
theorem dX11_areFour_21 : decode cX11_areFour 21 = .ok (.iload_n 3, 1) := by decide +kernel
theorem dX11_areFour_22 : decode cX11_areFour 22 = .ok (.iload 4, 2) := by decide +kernel
theorem dX11_areFour_24 : decode cX11_areFour 24 = .ok (.if_icmp .eq 7, 3) := by decide +kernel
theorem dX11_areFour_27 : decode cX11_areFour 27 = .ok (.iconst 1, 1) := by decide +kernel
theorem dX11_areFour_28 : decode cX11_areFour 28 = .ok (.goto 4, 3) := by decide +kernel
theorem dX11_areFour_31 : decode cX11_areFour 31 = .ok (.iconst 0, 1) := by decide +kernel
theorem dX11_areFour_32 : decode cX11_areFour 32 = .ok (.ireturn, 1) := by decide +kernel
theorem dX11_sq_0 : decode cX11_sq 0 = .ok (.iload_n 1, 1) := by decide +kernel
theorem dX11_sq_1 : decode cX11_sq 1 = .ok (.iload_n 2, 1) := by decide +kernel
theorem dX11_sq_2 : decode cX11_sq 2 = .ok (.if_icmp .ne 7, 3) := by decide +kernel
theorem dX11_sq_5 : decode cX11_sq 5 = .ok (.lconst 0, 1) := by decide +kernel
theorem dX11_sq_6 : decode cX11_sq 6 = .ok (.goto 14, 3) := by decide +kernel
theorem dX11_sq_9 : decode cX11_sq 9 = .ok (.aload_n 0, 1) := by decide +kernel
theorem dX11_sq_10 : decode cX11_sq 10 = .ok (.getfield 7, 3) := by decide +kernel
theorem dX11_sq_13 : decode cX11_sq 13 = .ok (.iload_n 1, 1) := by decide +kernel
theorem dX11_sq_14 : decode cX11_sq 14 = .ok (.iload_n 2, 1) := by decide +kernel
theorem dX11_sq_15 : decode cX11_sq 15 = .ok (.invokestatic 113, 3) := by decide +kernel
theorem dX11_sq_18 : decode cX11_sq 18 = .ok (.iaload, 1) := by decide +kernel
theorem dX11_sq_19 : decode cX11_sq 19 = .ok (.i2l, 1) := by decide +kernel
