theorem dX11_layGroups_29 : decode cX11_layGroups 29 = .ok (.getfield 7, 3) := by decide +kernel
theorem dX11_layGroups_32 : decode cX11_layGroups 32 = .ok (.bipush 21, 2) := by decide +kernel
theorem dX11_layGroups_34 : decode cX11_layGroups 34 = .ok (.iaload, 1) := by decide +kernel
theorem dX11_layGroups_35 : decode cX11_layGroups 35 = .ok (.if_icmp .ge 142, 3) := by decide +kernel
theorem dX11_layGroups_38 : decode cX11_layGroups 38 = .ok (.iload 4, 2) := by decide +kernel
theorem dX11_layGroups_40 : decode cX11_layGroups 40 = .ok (.iload 5, 2) := by decide +kernel
theorem dX11_layGroups_42 : decode cX11_layGroups 42 = .ok (.if_icmp .eq 44, 3) := by decide +kernel
theorem dX11_layGroups_45 : decode cX11_layGroups 45 = .ok (.aload_n 0, 1) := by decide +kernel
theorem dX11_layGroups_46 : decode cX11_layGroups 46 = .ok (.getfield 28, 3) := by decide +kernel
theorem dX11_layGroups_49 : decode cX11_layGroups 49 = .ok (.iload 4, 2) := by decide +kernel
theorem dX11_layGroups_51 : decode cX11_layGroups 51 = .ok (.iaload, 1) := by decide +kernel
theorem dX11_layGroups_52 : decode cX11_layGroups 52 = .ok (.bipush (-4), 2) := by decide +kernel
theorem dX11_layGroups_54 : decode cX11_layGroups 54 = .ok (.if_icmp .eq 32, 3) := by decide +kernel
theorem dX11_layGroups_57 : decode cX11_layGroups 57 = .ok (.aload_n 0, 1) := by decide +kernel
theorem dX11_layGroups_58 : decode cX11_layGroups 58 = .ok (.getfield 28, 3) := by decide +kernel
theorem dX11_layGroups_61 : decode cX11_layGroups 61 = .ok (.iload 5, 2) := by decide +kernel
theorem dX11_layGroups_63 : decode cX11_layGroups 63 = .ok (.iaload, 1) := by decide +kernel
theorem dX11_layGroups_64 : decode cX11_layGroups 64 = .ok (.bipush (-4), 2) := by decide +kernel
theorem dX11_layGroups_66 : decode cX11_layGroups 66 = .ok (.if_icmp .eq 20, 3) := by decide +kernel
theorem dX11_layGroups_69 : decode cX11_layGroups 69 = .ok (.aload_n 0, 1) := by decide +kernel
theorem dX11_layGroups_70 : decode cX11_layGroups 70 = .ok (.iload 4, 2) := by decide +kernel
theorem dX11_layGroups_72 : decode cX11_layGroups 72 = .ok (.iload 5, 2) := by decide +kernel
theorem dX11_layGroups_74 : decode cX11_layGroups 74 = .ok (.invokevirtual 149, 3) := by decide +kernel
theorem dX11_layGroups_77 : decode cX11_layGroups 77 = .ok (.lconst 0, 1) := by decide +kernel
theorem dX11_layGroups_78 : decode cX11_layGroups 78 = .ok (.lcmp, 1) := by decide +kernel
theorem dX11_layGroups_79 : decode cX11_layGroups 79 = .ok (.ifCond .le 7, 3) := by decide +kernel
theorem dX11_layGroups_82 : decode cX11_layGroups 82 = .ok (.iconst 1, 1) := by decide +kernel
theorem dX11_layGroups_83 : decode cX11_layGroups 83 = .ok (.goto 4, 3) := by decide +kernel
theorem dX11_layGroups_86 : decode cX11_layGroups 86 = .ok (.iconst 0, 1) := by decide +kernel
theorem dX11_layGroups_87 : decode cX11_layGroups 87 = .ok (.istore 6, 2) := by decide +kernel
theorem dX11_layGroups_89 : decode cX11_layGroups 89 = .ok (.iload 6, 2) := by decide +kernel
theorem dX11_layGroups_91 : decode cX11_layGroups 91 = .ok (.ifCond .eq 80, 3) := by decide +kernel
theorem dX11_layGroups_94 : decode cX11_layGroups 94 = .ok (.aload_n 0, 1) := by decide +kernel
theorem dX11_layGroups_95 : decode cX11_layGroups 95 = .ok (.getfield 28, 3) := by decide +kernel
theorem dX11_layGroups_98 : decode cX11_layGroups 98 = .ok (.iload 5, 2) := by decide +kernel
theorem dX11_layGroups_100 : decode cX11_layGroups 100 = .ok (.iaload, 1) := by decide +kernel
theorem dX11_layGroups_101 : decode cX11_layGroups 101 = .ok (.aload_n 0, 1) := by decide +kernel
theorem dX11_layGroups_102 : decode cX11_layGroups 102 = .ok (.getfield 28, 3) := by decide +kernel
theorem dX11_layGroups_105 : decode cX11_layGroups 105 = .ok (.iload 4, 2) := by decide +kernel
theorem dX11_layGroups_107 : decode cX11_layGroups 107 = .ok (.iaload, 1) := by decide +kernel
theorem dX11_layGroups_108 : decode cX11_layGroups 108 = .ok (.if_icmp .le 63, 3) := by decide +kernel
theorem dX11_layGroups_111 : decode cX11_layGroups 111 = .ok (.aload_n 0, 1) := by decide +kernel
theorem dX11_layGroups_112 : decode cX11_layGroups 112 = .ok (.iload_n 1, 1) := by decide +kernel
theorem dX11_layGroups_113 : decode cX11_layGroups 113 = .ok (.iload_n 2, 1) := by decide +kernel
theorem dX11_layGroups_114 : decode cX11_layGroups 114 = .ok (.iload 4, 2) := by decide +kernel
theorem dX11_layGroups_116 : decode cX11_layGroups 116 = .ok (.iload 5, 2) := by decide +kernel
theorem dX11_layGroups_118 : decode cX11_layGroups 118 = .ok (.invokevirtual 250, 3) := by decide +kernel
theorem dX11_layGroups_121 : decode cX11_layGroups 121 = .ok (.istore 7, 2) := by decide +kernel
theorem dX11_layGroups_123 : decode cX11_layGroups 123 = .ok (.aload_n 0, 1) := by decide +kernel
theorem dX11_layGroups_124 : decode cX11_layGroups 124 = .ok (.getfield 28, 3) := by decide +kernel
theorem dX11_layGroups_127 : decode cX11_layGroups 127 = .ok (.iload 5, 2) := by decide +kernel
theorem dX11_layGroups_129 : decode cX11_layGroups 129 = .ok (.aload_n 0, 1) := by decide +kernel
theorem dX11_layGroups_130 : decode cX11_layGroups 130 = .ok (.getfield 28, 3) := by decide +kernel
theorem dX11_layGroups_133 : decode cX11_layGroups 133 = .ok (.iload 4, 2) := by decide +kernel
theorem dX11_layGroups_135 : decode cX11_layGroups 135 = .ok (.iaload, 1) := by decide +kernel
theorem dX11_layGroups_136 : decode cX11_layGroups 136 = .ok (.iastore, 1) := by decide +kernel
theorem dX11_layGroups_137 : decode cX11_layGroups 137 = .ok (.aload_n 0, 1) := by decide +kernel
theorem dX11_layGroups_138 : decode cX11_layGroups 138 = .ok (.getfield 31, 3) := by decide +kernel
theorem dX11_layGroups_141 : decode cX11_layGroups 141 = .ok (.iload 5, 2) := by decide +kernel
theorem dX11_layGroups_143 : decode cX11_layGroups 143 = .ok (.iload 7, 2) := by decide +kernel
theorem dX11_layGroups_145 : decode cX11_layGroups 145 = .ok (.iconst (-1), 1) := by decide +kernel
theorem dX11_layGroups_146 : decode cX11_layGroups 146 = .ok (.if_icmp .ne 15, 3) := by decide +kernel
theorem dX11_layGroups_149 : decode cX11_layGroups 149 = .ok (.iconst 3, 1) := by decide +kernel
theorem dX11_layGroups_150 : decode cX11_layGroups 150 = .ok (.aload_n 0, 1) := by decide +kernel
theorem dX11_layGroups_151 : decode cX11_layGroups 151 = .ok (.getfield 31, 3) := by decide +kernel
theorem dX11_layGroups_154 : decode cX11_layGroups 154 = .ok (.iload 4, 2) := by decide +kernel
theorem dX11_layGroups_156 : decode cX11_layGroups 156 = .ok (.iaload, 1) := by decide +kernel
theorem dX11_layGroups_157 : decode cX11_layGroups 157 = .ok (.isub, 1) := by decide +kernel
theorem dX11_layGroups_158 : decode cX11_layGroups 158 = .ok (.goto 10, 3) := by decide +kernel
theorem dX11_layGroups_161 : decode cX11_layGroups 161 = .ok (.aload_n 0, 1) := by decide +kernel
theorem dX11_layGroups_162 : decode cX11_layGroups 162 = .ok (.getfield 31, 3) := by decide +kernel
theorem dX11_layGroups_165 : decode cX11_layGroups 165 = .ok (.iload 4, 2) := by decide +kernel
theorem dX11_layGroups_167 : decode cX11_layGroups 167 = .ok (.iaload, 1) := by decide +kernel
theorem dX11_layGroups_168 : decode cX11_layGroups 168 = .ok (.iastore, 1) := by decide +kernel
theorem dX11_layGroups_169 : decode cX11_layGroups 169 = .ok (.iconst 1, 1) := by decide +kernel
theorem dX11_layGroups_170 : decode cX11_layGroups 170 = .ok (.istore_n 3, 1) := by decide +kernel
theorem dX11_layGroups_171 : decode cX11_layGroups 171 = .ok (.iinc 5 1, 3) := by decide +kernel
theorem dX11_layGroups_174 : decode cX11_layGroups 174 = .ok (.goto (-148), 3) := by decide +kernel
theorem dX11_layGroups_177 : decode cX11_layGroups 177 = .ok (.iinc 4 1, 3) := by decide +kernel
theorem dX11_layGroups_180 : decode cX11_layGroups 180 = .ok (.goto (-169), 3) := by decide +kernel
theorem dX11_layGroups_183 : decode cX11_layGroups 183 = .ok (.goto (-181), 3) := by decide +kernel
theorem dX11_layGroups_186 : decode cX11_layGroups 186 = .ok (.return_, 1) := by decide +kernel
theorem dX11_layDrawings_0 : decode cX11_layDrawings 0 = .ok (.aload_n 0, 1) := by decide +kernel
theorem dX11_layDrawings_1 : decode cX11_layDrawings 1 = .ok (.iconst 0, 1) := by decide +kernel
theorem dX11_layDrawings_2 : decode cX11_layDrawings 2 = .ok (.putfield 247, 3) := by decide +kernel
theorem dX11_layDrawings_5 : decode cX11_layDrawings 5 = .ok (.aload_n 0, 1) := by decide +kernel
theorem dX11_layDrawings_6 : decode cX11_layDrawings 6 = .ok (.iconst 1, 1) := by decide +kernel
theorem dX11_layDrawings_7 : decode cX11_layDrawings 7 = .ok (.putfield 253, 3) := by decide +kernel
theorem dX11_layDrawings_10 : decode cX11_layDrawings 10 = .ok (.aload_n 0, 1) := by decide +kernel
theorem dX11_layDrawings_11 : decode cX11_layDrawings 11 = .ok (.iconst 0, 1) := by decide +kernel
theorem dX11_layDrawings_12 : decode cX11_layDrawings 12 = .ok (.putfield 256, 3) := by decide +kernel
theorem dX11_layDrawings_15 : decode cX11_layDrawings 15 = .ok (.aload_n 0, 1) := by decide +kernel
theorem dX11_layDrawings_16 : decode cX11_layDrawings 16 = .ok (.getfield 7, 3) := by decide +kernel
theorem dX11_layDrawings_19 : decode cX11_layDrawings 19 = .ok (.bipush 21, 2) := by decide +kernel
theorem dX11_layDrawings_21 : decode cX11_layDrawings 21 = .ok (.iaload, 1) := by decide +kernel
theorem dX11_layDrawings_22 : decode cX11_layDrawings 22 = .ok (.istore_n 3, 1) := by decide +kernel
theorem dX11_layDrawings_23 : decode cX11_layDrawings 23 = .ok (.iconst 0, 1) := by decide +kernel
theorem dX11_layDrawings_24 : decode cX11_layDrawings 24 = .ok (.istore 4, 2) := by decide +kernel
theorem dX11_layDrawings_26 : decode cX11_layDrawings 26 = .ok (.iload 4, 2) := by decide +kernel
theorem dX11_layDrawings_28 : decode cX11_layDrawings 28 = .ok (.iload_n 3, 1) := by decide +kernel
theorem dX11_layDrawings_29 : decode cX11_layDrawings 29 = .ok (.if_icmp .ge 128, 3) := by decide +kernel
theorem dX11_layDrawings_32 : decode cX11_layDrawings 32 = .ok (.iload 4, 2) := by decide +kernel
theorem dX11_layDrawings_34 : decode cX11_layDrawings 34 = .ok (.iload_n 1, 1) := by decide +kernel
theorem dX11_layDrawings_35 : decode cX11_layDrawings 35 = .ok (.if_icmp .eq 35, 3) := by decide +kernel
theorem dX11_layDrawings_38 : decode cX11_layDrawings 38 = .ok (.iload 4, 2) := by decide +kernel
theorem dX11_layDrawings_40 : decode cX11_layDrawings 40 = .ok (.iload_n 2, 1) := by decide +kernel
theorem dX11_layDrawings_41 : decode cX11_layDrawings 41 = .ok (.if_icmp .eq 29, 3) := by decide +kernel
theorem dX11_layDrawings_44 : decode cX11_layDrawings 44 = .ok (.aload_n 0, 1) := by decide +kernel
theorem dX11_layDrawings_45 : decode cX11_layDrawings 45 = .ok (.iload_n 1, 1) := by decide +kernel
theorem dX11_layDrawings_46 : decode cX11_layDrawings 46 = .ok (.iload_n 2, 1) := by decide +kernel
theorem dX11_layDrawings_47 : decode cX11_layDrawings 47 = .ok (.iload 4, 2) := by decide +kernel
theorem dX11_layDrawings_49 : decode cX11_layDrawings 49 = .ok (.invokevirtual 153, 3) := by decide +kernel
theorem dX11_layDrawings_52 : decode cX11_layDrawings 52 = .ok (.ifCond .eq 18, 3) := by decide +kernel
theorem dX11_layDrawings_55 : decode cX11_layDrawings 55 = .ok (.aload_n 0, 1) := by decide +kernel
theorem dX11_layDrawings_56 : decode cX11_layDrawings 56 = .ok (.iload_n 1, 1) := by decide +kernel
theorem dX11_layDrawings_57 : decode cX11_layDrawings 57 = .ok (.iload_n 2, 1) := by decide +kernel
theorem dX11_layDrawings_58 : decode cX11_layDrawings 58 = .ok (.iload 4, 2) := by decide +kernel
theorem dX11_layDrawings_60 : decode cX11_layDrawings 60 = .ok (.invokevirtual 176, 3) := by decide +kernel
theorem dX11_layDrawings_63 : decode cX11_layDrawings 63 = .ok (.ifCond .eq 7, 3) := by decide +kernel
theorem dX11_layDrawings_66 : decode cX11_layDrawings 66 = .ok (.iconst 1, 1) := by decide +kernel
theorem dX11_layDrawings_67 : decode cX11_layDrawings 67 = .ok (.goto 4, 3) := by decide +kernel
theorem dX11_layDrawings_70 : decode cX11_layDrawings 70 = .ok (.iconst 0, 1) := by decide +kernel
theorem dX11_layDrawings_71 : decode cX11_layDrawings 71 = .ok (.istore 5, 2) := by decide +kernel
theorem dX11_layDrawings_73 : decode cX11_layDrawings 73 = .ok (.aload_n 0, 1) := by decide +kernel
theorem dX11_layDrawings_74 : decode cX11_layDrawings 74 = .ok (.dup, 1) := by decide +kernel
theorem dX11_layDrawings_75 : decode cX11_layDrawings 75 = .ok (.getfield 247, 3) := by decide +kernel
theorem dX11_layDrawings_78 : decode cX11_layDrawings 78 = .ok (.iload 5, 2) := by decide +kernel
theorem dX11_layDrawings_80 : decode cX11_layDrawings 80 = .ok (.ifCond .eq 10, 3) := by decide +kernel
theorem dX11_layDrawings_83 : decode cX11_layDrawings 83 = .ok (.iconst 1, 1) := by decide +kernel
theorem dX11_layDrawings_84 : decode cX11_layDrawings 84 = .ok (.iload 4, 2) := by decide +kernel
theorem dX11_layDrawings_86 : decode cX11_layDrawings 86 = .ok (.ishl, 1) := by decide +kernel
theorem dX11_layDrawings_87 : decode cX11_layDrawings 87 = .ok (.goto 4, 3) := by decide +kernel
theorem dX11_layDrawings_90 : decode cX11_layDrawings 90 = .ok (.iconst 0, 1) := by decide +kernel
theorem dX11_layDrawings_91 : decode cX11_layDrawings 91 = .ok (.ior, 1) := by decide +kernel
theorem dX11_layDrawings_92 : decode cX11_layDrawings 92 = .ok (.putfield 247, 3) := by decide +kernel
theorem dX11_layDrawings_95 : decode cX11_layDrawings 95 = .ok (.aload_n 0, 1) := by decide +kernel
theorem dX11_layDrawings_96 : decode cX11_layDrawings 96 = .ok (.getfield 28, 3) := by decide +kernel
theorem dX11_layDrawings_99 : decode cX11_layDrawings 99 = .ok (.iload 4, 2) := by decide +kernel
theorem dX11_layDrawings_101 : decode cX11_layDrawings 101 = .ok (.iload 5, 2) := by decide +kernel
theorem dX11_layDrawings_103 : decode cX11_layDrawings 103 = .ok (.ifCond .eq 21, 3) := by decide +kernel
theorem dX11_layDrawings_106 : decode cX11_layDrawings 106 = .ok (.aload_n 0, 1) := by decide +kernel
theorem dX11_layDrawings_107 : decode cX11_layDrawings 107 = .ok (.iload_n 1, 1) := by decide +kernel
theorem dX11_layDrawings_108 : decode cX11_layDrawings 108 = .ok (.iload_n 2, 1) := by decide +kernel
theorem dX11_layDrawings_109 : decode cX11_layDrawings 109 = .ok (.iload 4, 2) := by decide +kernel
theorem dX11_layDrawings_111 : decode cX11_layDrawings 111 = .ok (.invokevirtual 168, 3) := by decide +kernel
theorem dX11_layDrawings_114 : decode cX11_layDrawings 114 = .ok (.lconst 0, 1) := by decide +kernel
theorem dX11_layDrawings_115 : decode cX11_layDrawings 115 = .ok (.lcmp, 1) := by decide +kernel
theorem dX11_layDrawings_116 : decode cX11_layDrawings 116 = .ok (.ifCond .le 8, 3) := by decide +kernel
theorem dX11_layDrawings_119 : decode cX11_layDrawings 119 = .ok (.iload 4, 2) := by decide +kernel
theorem dX11_layDrawings_121 : decode cX11_layDrawings 121 = .ok (.goto 5, 3) := by decide +kernel
theorem dX11_layDrawings_124 : decode cX11_layDrawings 124 = .ok (.bipush (-4), 2) := by decide +kernel
theorem dX11_layDrawings_126 : decode cX11_layDrawings 126 = .ok (.iastore, 1) := by decide +kernel
theorem dX11_layDrawings_127 : decode cX11_layDrawings 127 = .ok (.aload_n 0, 1) := by decide +kernel
theorem dX11_layDrawings_128 : decode cX11_layDrawings 128 = .ok (.getfield 31, 3) := by decide +kernel
theorem dX11_layDrawings_131 : decode cX11_layDrawings 131 = .ok (.iload 4, 2) := by decide +kernel
theorem dX11_layDrawings_133 : decode cX11_layDrawings 133 = .ok (.aload_n 0, 1) := by decide +kernel
theorem dX11_layDrawings_134 : decode cX11_layDrawings 134 = .ok (.getfield 28, 3) := by decide +kernel
theorem dX11_layDrawings_137 : decode cX11_layDrawings 137 = .ok (.iload 4, 2) := by decide +kernel
theorem dX11_layDrawings_139 : decode cX11_layDrawings 139 = .ok (.iaload, 1) := by decide +kernel
theorem dX11_layDrawings_140 : decode cX11_layDrawings 140 = .ok (.bipush (-4), 2) := by decide +kernel
theorem dX11_layDrawings_142 : decode cX11_layDrawings 142 = .ok (.if_icmp .ne 7, 3) := by decide +kernel
theorem dX11_layDrawings_145 : decode cX11_layDrawings 145 = .ok (.iconst 0, 1) := by decide +kernel
theorem dX11_layDrawings_146 : decode cX11_layDrawings 146 = .ok (.goto 4, 3) := by decide +kernel
theorem dX11_layDrawings_149 : decode cX11_layDrawings 149 = .ok (.iconst 1, 1) := by decide +kernel
theorem dX11_layDrawings_150 : decode cX11_layDrawings 150 = .ok (.iastore, 1) := by decide +kernel
theorem dX11_layDrawings_151 : decode cX11_layDrawings 151 = .ok (.iinc 4 1, 3) := by decide +kernel
theorem dX11_layDrawings_154 : decode cX11_layDrawings 154 = .ok (.goto (-128), 3) := by decide +kernel
theorem dX11_layDrawings_157 : decode cX11_layDrawings 157 = .ok (.aload_n 0, 1) := by decide +kernel
theorem dX11_layDrawings_158 : decode cX11_layDrawings 158 = .ok (.iload_n 1, 1) := by decide +kernel
theorem dX11_layDrawings_159 : decode cX11_layDrawings 159 = .ok (.iload_n 2, 1) := by decide +kernel
theorem dX11_layDrawings_160 : decode cX11_layDrawings 160 = .ok (.invokevirtual 259, 3) := by decide +kernel
theorem dX11_layDrawings_163 : decode cX11_layDrawings 163 = .ok (.iconst 0, 1) := by decide +kernel
theorem dX11_layDrawings_164 : decode cX11_layDrawings 164 = .ok (.istore 4, 2) := by decide +kernel
theorem dX11_layDrawings_166 : decode cX11_layDrawings 166 = .ok (.iload 4, 2) := by decide +kernel
theorem dX11_layDrawings_168 : decode cX11_layDrawings 168 = .ok (.iload_n 3, 1) := by decide +kernel
theorem dX11_layDrawings_169 : decode cX11_layDrawings 169 = .ok (.if_icmp .ge 161, 3) := by decide +kernel
theorem dX11_layDrawings_172 : decode cX11_layDrawings 172 = .ok (.aload_n 0, 1) := by decide +kernel
theorem dX11_layDrawings_173 : decode cX11_layDrawings 173 = .ok (.dup, 1) := by decide +kernel
theorem dX11_layDrawings_174 : decode cX11_layDrawings 174 = .ok (.getfield 256, 3) := by decide +kernel
theorem dX11_layDrawings_177 : decode cX11_layDrawings 177 = .ok (.aload_n 0, 1) := by decide +kernel
theorem dX11_layDrawings_178 : decode cX11_layDrawings 178 = .ok (.getfield 28, 3) := by decide +kernel
theorem dX11_layDrawings_181 : decode cX11_layDrawings 181 = .ok (.iload 4, 2) := by decide +kernel
theorem dX11_layDrawings_183 : decode cX11_layDrawings 183 = .ok (.iaload, 1) := by decide +kernel
theorem dX11_layDrawings_184 : decode cX11_layDrawings 184 = .ok (.iload 4, 2) := by decide +kernel
theorem dX11_layDrawings_186 : decode cX11_layDrawings 186 = .ok (.if_icmp .ne 7, 3) := by decide +kernel
theorem dX11_layDrawings_189 : decode cX11_layDrawings 189 = .ok (.iconst 1, 1) := by decide +kernel
theorem dX11_layDrawings_190 : decode cX11_layDrawings 190 = .ok (.goto 4, 3) := by decide +kernel
theorem dX11_layDrawings_193 : decode cX11_layDrawings 193 = .ok (.iconst 0, 1) := by decide +kernel
theorem dX11_layDrawings_194 : decode cX11_layDrawings 194 = .ok (.iadd, 1) := by decide +kernel
theorem dX11_layDrawings_195 : decode cX11_layDrawings 195 = .ok (.putfield 256, 3) := by decide +kernel
theorem dX11_layDrawings_198 : decode cX11_layDrawings 198 = .ok (.iconst 0, 1) := by decide +kernel
theorem dX11_layDrawings_199 : decode cX11_layDrawings 199 = .ok (.istore 5, 2) := by decide +kernel
theorem dX11_layDrawings_201 : decode cX11_layDrawings 201 = .ok (.iload 5, 2) := by decide +kernel
theorem dX11_layDrawings_203 : decode cX11_layDrawings 203 = .ok (.iload 4, 2) := by decide +kernel
theorem dX11_layDrawings_205 : decode cX11_layDrawings 205 = .ok (.if_icmp .ge 119, 3) := by decide +kernel
theorem dX11_layDrawings_208 : decode cX11_layDrawings 208 = .ok (.aload_n 0, 1) := by decide +kernel
theorem dX11_layDrawings_209 : decode cX11_layDrawings 209 = .ok (.iload 4, 2) := by decide +kernel
theorem dX11_layDrawings_211 : decode cX11_layDrawings 211 = .ok (.invokevirtual 262, 3) := by decide +kernel
theorem dX11_layDrawings_214 : decode cX11_layDrawings 214 = .ok (.ifCond .eq 104, 3) := by decide +kernel
theorem dX11_layDrawings_217 : decode cX11_layDrawings 217 = .ok (.aload_n 0, 1) := by decide +kernel
theorem dX11_layDrawings_218 : decode cX11_layDrawings 218 = .ok (.iload 5, 2) := by decide +kernel
theorem dX11_layDrawings_220 : decode cX11_layDrawings 220 = .ok (.invokevirtual 262, 3) := by decide +kernel
theorem dX11_layDrawings_223 : decode cX11_layDrawings 223 = .ok (.ifCond .eq 95, 3) := by decide +kernel
theorem dX11_layDrawings_226 : decode cX11_layDrawings 226 = .ok (.aload_n 0, 1) := by decide +kernel
theorem dX11_layDrawings_227 : decode cX11_layDrawings 227 = .ok (.iload 4, 2) := by decide +kernel
theorem dX11_layDrawings_229 : decode cX11_layDrawings 229 = .ok (.iload 5, 2) := by decide +kernel
theorem dX11_layDrawings_231 : decode cX11_layDrawings 231 = .ok (.invokevirtual 149, 3) := by decide +kernel
theorem dX11_layDrawings_234 : decode cX11_layDrawings 234 = .ok (.lconst 0, 1) := by decide +kernel
theorem dX11_layDrawings_235 : decode cX11_layDrawings 235 = .ok (.lcmp, 1) := by decide +kernel
theorem dX11_layDrawings_236 : decode cX11_layDrawings 236 = .ok (.ifCond .le 82, 3) := by decide +kernel
theorem dX11_layDrawings_239 : decode cX11_layDrawings 239 = .ok (.aload_n 0, 1) := by decide +kernel
theorem dX11_layDrawings_240 : decode cX11_layDrawings 240 = .ok (.iload_n 1, 1) := by decide +kernel
theorem dX11_layDrawings_241 : decode cX11_layDrawings 241 = .ok (.iload_n 2, 1) := by decide +kernel
theorem dX11_layDrawings_242 : decode cX11_layDrawings 242 = .ok (.iload 4, 2) := by decide +kernel
theorem dX11_layDrawings_244 : decode cX11_layDrawings 244 = .ok (.iload 5, 2) := by decide +kernel
theorem dX11_layDrawings_246 : decode cX11_layDrawings 246 = .ok (.invokevirtual 250, 3) := by decide +kernel
theorem dX11_layDrawings_249 : decode cX11_layDrawings 249 = .ok (.istore 6, 2) := by decide +kernel
theorem dX11_layDrawings_251 : decode cX11_layDrawings 251 = .ok (.aload_n 0, 1) := by decide +kernel
theorem dX11_layDrawings_252 : decode cX11_layDrawings 252 = .ok (.getfield 31, 3) := by decide +kernel
theorem dX11_layDrawings_255 : decode cX11_layDrawings 255 = .ok (.iload 4, 2) := by decide +kernel
theorem dX11_layDrawings_257 : decode cX11_layDrawings 257 = .ok (.iaload, 1) := by decide +kernel
theorem dX11_layDrawings_258 : decode cX11_layDrawings 258 = .ok (.aload_n 0, 1) := by decide +kernel
theorem dX11_layDrawings_259 : decode cX11_layDrawings 259 = .ok (.getfield 31, 3) := by decide +kernel
theorem dX11_layDrawings_262 : decode cX11_layDrawings 262 = .ok (.iload 5, 2) := by decide +kernel
theorem dX11_layDrawings_264 : decode cX11_layDrawings 264 = .ok (.iaload, 1) := by decide +kernel
theorem dX11_layDrawings_265 : decode cX11_layDrawings 265 = .ok (.if_icmp .ne 7, 3) := by decide +kernel
theorem dX11_layDrawings_268 : decode cX11_layDrawings 268 = .ok (.iconst 1, 1) := by decide +kernel
theorem dX11_layDrawings_269 : decode cX11_layDrawings 269 = .ok (.goto 4, 3) := by decide +kernel
theorem dX11_layDrawings_272 : decode cX11_layDrawings 272 = .ok (.iconst 0, 1) := by decide +kernel
theorem dX11_layDrawings_273 : decode cX11_layDrawings 273 = .ok (.istore 7, 2) := by decide +kernel
theorem dX11_layDrawings_275 : decode cX11_layDrawings 275 = .ok (.aload_n 0, 1) := by decide +kernel
theorem dX11_layDrawings_276 : decode cX11_layDrawings 276 = .ok (.aload_n 0, 1) := by decide +kernel
theorem dX11_layDrawings_277 : decode cX11_layDrawings 277 = .ok (.getfield 253, 3) := by decide +kernel
theorem dX11_layDrawings_280 : decode cX11_layDrawings 280 = .ok (.ifCond .eq 34, 3) := by decide +kernel
theorem dX11_layDrawings_283 : decode cX11_layDrawings 283 = .ok (.iload 6, 2) := by decide +kernel
theorem dX11_layDrawings_285 : decode cX11_layDrawings 285 = .ok (.iconst 2, 1) := by decide +kernel
theorem dX11_layDrawings_286 : decode cX11_layDrawings 286 = .ok (.if_icmp .eq 28, 3) := by decide +kernel
theorem dX11_layDrawings_289 : decode cX11_layDrawings 289 = .ok (.iload 6, 2) := by decide +kernel
theorem dX11_layDrawings_291 : decode cX11_layDrawings 291 = .ok (.ifCond .eq 19, 3) := by decide +kernel
theorem dX11_layDrawings_294 : decode cX11_layDrawings 294 = .ok (.iload 7, 2) := by decide +kernel
theorem dX11_layDrawings_296 : decode cX11_layDrawings 296 = .ok (.iload 6, 2) := by decide +kernel
theorem dX11_layDrawings_298 : decode cX11_layDrawings 298 = .ok (.iconst 1, 1) := by decide +kernel
theorem dX11_layDrawings_299 : decode cX11_layDrawings 299 = .ok (.if_icmp .ne 7, 3) := by decide +kernel
theorem dX11_layDrawings_302 : decode cX11_layDrawings 302 = .ok (.iconst 1, 1) := by decide +kernel
theorem dX11_layDrawings_303 : decode cX11_layDrawings 303 = .ok (.goto 4, 3) := by decide +kernel
theorem dX11_layDrawings_306 : decode cX11_layDrawings 306 = .ok (.iconst 0, 1) := by decide +kernel
theorem dX11_layDrawings_307 : decode cX11_layDrawings 307 = .ok (.if_icmp .ne 7, 3) := by decide +kernel
theorem dX11_layDrawings_310 : decode cX11_layDrawings 310 = .ok (.iconst 1, 1) := by decide +kernel
theorem dX11_layDrawings_311 : decode cX11_layDrawings 311 = .ok (.goto 4, 3) := by decide +kernel
theorem dX11_layDrawings_314 : decode cX11_layDrawings 314 = .ok (.iconst 0, 1) := by decide +kernel
theorem dX11_layDrawings_315 : decode cX11_layDrawings 315 = .ok (.putfield 253, 3) := by decide +kernel
theorem dX11_layDrawings_318 : decode cX11_layDrawings 318 = .ok (.iinc 5 1, 3) := by decide +kernel
theorem dX11_layDrawings_321 : decode cX11_layDrawings 321 = .ok (.goto (-120), 3) := by decide +kernel
theorem dX11_layDrawings_324 : decode cX11_layDrawings 324 = .ok (.iinc 4 1, 3) := by decide +kernel
theorem dX11_layDrawings_327 : decode cX11_layDrawings 327 = .ok (.goto (-161), 3) := by decide +kernel
theorem dX11_layDrawings_330 : decode cX11_layDrawings 330 = .ok (.return_, 1) := by decide +kernel
theorem dX11_drawingMany_0 : decode cX11_drawingMany 0 = .ok (.aload_n 0, 1) := by decide +kernel
theorem dX11_drawingMany_1 : decode cX11_drawingMany 1 = .ok (.getfield 253, 3) := by decide +kernel
theorem dX11_drawingMany_4 : decode cX11_drawingMany 4 = .ok (.ifCond .ne 7, 3) := by decide +kernel
theorem dX11_drawingMany_7 : decode cX11_drawingMany 7 = .ok (.iconst 0, 1) := by decide +kernel
theorem dX11_drawingMany_8 : decode cX11_drawingMany 8 = .ok (.goto 22, 3) := by decide +kernel
theorem dX11_drawingMany_11 : decode cX11_drawingMany 11 = .ok (.aload_n 0, 1) := by decide +kernel
theorem dX11_drawingMany_12 : decode cX11_drawingMany 12 = .ok (.getfield 256, 3) := by decide +kernel
theorem dX11_drawingMany_15 : decode cX11_drawingMany 15 = .ok (.ifCond .ne 7, 3) := by decide +kernel
theorem dX11_drawingMany_18 : decode cX11_drawingMany 18 = .ok (.iconst 1, 1) := by decide +kernel
theorem dX11_drawingMany_19 : decode cX11_drawingMany 19 = .ok (.goto 11, 3) := by decide +kernel
theorem dX11_drawingMany_22 : decode cX11_drawingMany 22 = .ok (.iconst 1, 1) := by decide +kernel
theorem dX11_drawingMany_23 : decode cX11_drawingMany 23 = .ok (.aload_n 0, 1) := by decide +kernel
theorem dX11_drawingMany_24 : decode cX11_drawingMany 24 = .ok (.getfield 256, 3) := by decide +kernel
theorem dX11_drawingMany_27 : decode cX11_drawingMany 27 = .ok (.iconst 1, 1) := by decide +kernel
theorem dX11_drawingMany_28 : decode cX11_drawingMany 28 = .ok (.isub, 1) := by decide +kernel
theorem dX11_drawingMany_29 : decode cX11_drawingMany 29 = .ok (.ishl, 1) := by decide +kernel
theorem dX11_drawingMany_30 : decode cX11_drawingMany 30 = .ok (.ireturn, 1) := by decide +kernel
theorem dX11_drawings_0 : decode cX11_drawings 0 = .ok (.aload_n 0, 1) := by decide +kernel
theorem dX11_drawings_1 : decode cX11_drawings 1 = .ok (.iload_n 1, 1) := by decide +kernel
theorem dX11_drawings_2 : decode cX11_drawings 2 = .ok (.iload_n 2, 1) := by decide +kernel
theorem dX11_drawings_3 : decode cX11_drawings 3 = .ok (.invokevirtual 142, 3) := by decide +kernel
theorem dX11_drawings_6 : decode cX11_drawings 6 = .ok (.ifCond .eq 37, 3) := by decide +kernel
theorem dX11_drawings_9 : decode cX11_drawings 9 = .ok (.iload_n 3, 1) := by decide +kernel
theorem dX11_drawings_10 : decode cX11_drawings 10 = .ok (.i2l, 1) := by decide +kernel
theorem dX11_drawings_11 : decode cX11_drawings 11 = .ok (.lconst 0, 1) := by decide +kernel
theorem dX11_drawings_12 : decode cX11_drawings 12 = .ok (.ldc2_w 194, 3) := by decide +kernel
theorem dX11_drawings_15 : decode cX11_drawings 15 = .ok (.invokestatic 64, 3) := by decide +kernel
theorem dX11_drawings_18 : decode cX11_drawings 18 = .ok (.ifCond .ne 27, 3) := by decide +kernel
theorem dX11_drawings_21 : decode cX11_drawings 21 = .ok (.iload_n 3, 1) := by decide +kernel
theorem dX11_drawings_22 : decode cX11_drawings 22 = .ok (.i2l, 1) := by decide +kernel
theorem dX11_drawings_23 : decode cX11_drawings 23 = .ok (.ldc2_w 265, 3) := by decide +kernel
theorem dX11_drawings_26 : decode cX11_drawings 26 = .ok (.bipush 9, 2) := by decide +kernel
theorem dX11_drawings_28 : decode cX11_drawings 28 = .ok (.aload_n 0, 1) := by decide +kernel
theorem dX11_drawings_29 : decode cX11_drawings 29 = .ok (.getfield 7, 3) := by decide +kernel
theorem dX11_drawings_32 : decode cX11_drawings 32 = .ok (.bipush 21, 2) := by decide +kernel
theorem dX11_drawings_34 : decode cX11_drawings 34 = .ok (.iaload, 1) := by decide +kernel
theorem dX11_drawings_35 : decode cX11_drawings 35 = .ok (.iadd, 1) := by decide +kernel
theorem dX11_drawings_36 : decode cX11_drawings 36 = .ok (.i2l, 1) := by decide +kernel
theorem dX11_drawings_37 : decode cX11_drawings 37 = .ok (.invokestatic 64, 3) := by decide +kernel
theorem dX11_drawings_40 : decode cX11_drawings 40 = .ok (.ifCond .ne 5, 3) := by decide +kernel
theorem dX11_drawings_43 : decode cX11_drawings 43 = .ok (.iconst (-1), 1) := by decide +kernel
theorem dX11_drawings_44 : decode cX11_drawings 44 = .ok (.ireturn, 1) := by decide +kernel
theorem dX11_drawings_45 : decode cX11_drawings 45 = .ok (.aload_n 0, 1) := by decide +kernel
theorem dX11_drawings_46 : decode cX11_drawings 46 = .ok (.iload_n 1, 1) := by decide +kernel
theorem dX11_drawings_47 : decode cX11_drawings 47 = .ok (.iload_n 2, 1) := by decide +kernel
theorem dX11_drawings_48 : decode cX11_drawings 48 = .ok (.invokevirtual 149, 3) := by decide +kernel
theorem dX11_drawings_51 : decode cX11_drawings 51 = .ok (.lconst 0, 1) := by decide +kernel
theorem dX11_drawings_52 : decode cX11_drawings 52 = .ok (.lcmp, 1) := by decide +kernel
theorem dX11_drawings_53 : decode cX11_drawings 53 = .ok (.ifCond .ne 6, 3) := by decide +kernel
theorem dX11_drawings_56 : decode cX11_drawings 56 = .ok (.bipush (-2), 2) := by decide +kernel
theorem dX11_drawings_58 : decode cX11_drawings 58 = .ok (.ireturn, 1) := by decide +kernel
theorem dX11_drawings_59 : decode cX11_drawings 59 = .ok (.aload_n 0, 1) := by decide +kernel
theorem dX11_drawings_60 : decode cX11_drawings 60 = .ok (.iload_n 1, 1) := by decide +kernel
theorem dX11_drawings_61 : decode cX11_drawings 61 = .ok (.iload_n 2, 1) := by decide +kernel
theorem dX11_drawings_62 : decode cX11_drawings 62 = .ok (.invokevirtual 267, 3) := by decide +kernel
theorem dX11_drawings_65 : decode cX11_drawings 65 = .ok (.iload_n 3, 1) := by decide +kernel
theorem dX11_drawings_66 : decode cX11_drawings 66 = .ok (.tableswitch 75 0 3 #[30, 35, 40, 45], 30) := by decide +kernel
theorem dX11_drawings_96 : decode cX11_drawings 96 = .ok (.aload_n 0, 1) := by decide +kernel
theorem dX11_drawings_97 : decode cX11_drawings 97 = .ok (.invokevirtual 270, 3) := by decide +kernel
theorem dX11_drawings_100 : decode cX11_drawings 100 = .ok (.ireturn, 1) := by decide +kernel
theorem dX11_drawings_101 : decode cX11_drawings 101 = .ok (.aload_n 0, 1) := by decide +kernel
theorem dX11_drawings_102 : decode cX11_drawings 102 = .ok (.getfield 247, 3) := by decide +kernel
theorem dX11_drawings_105 : decode cX11_drawings 105 = .ok (.ireturn, 1) := by decide +kernel
theorem dX11_drawings_106 : decode cX11_drawings 106 = .ok (.aload_n 0, 1) := by decide +kernel
theorem dX11_drawings_107 : decode cX11_drawings 107 = .ok (.getfield 256, 3) := by decide +kernel
theorem dX11_drawings_110 : decode cX11_drawings 110 = .ok (.ireturn, 1) := by decide +kernel
theorem dX11_drawings_111 : decode cX11_drawings 111 = .ok (.aload_n 0, 1) := by decide +kernel
theorem dX11_drawings_112 : decode cX11_drawings 112 = .ok (.getfield 253, 3) := by decide +kernel
theorem dX11_drawings_115 : decode cX11_drawings 115 = .ok (.ifCond .ne 8, 3) := by decide +kernel
theorem dX11_drawings_118 : decode cX11_drawings 118 = .ok (.bipush (-4), 2) := by decide +kernel
theorem dX11_drawings_120 : decode cX11_drawings 120 = .ok (.goto 20, 3) := by decide +kernel
theorem dX11_drawings_123 : decode cX11_drawings 123 = .ok (.aload_n 0, 1) := by decide +kernel
theorem dX11_drawings_124 : decode cX11_drawings 124 = .ok (.getfield 256, 3) := by decide +kernel
theorem dX11_drawings_127 : decode cX11_drawings 127 = .ok (.ifCond .ne 7, 3) := by decide +kernel
theorem dX11_drawings_130 : decode cX11_drawings 130 = .ok (.iconst 0, 1) := by decide +kernel
theorem dX11_drawings_131 : decode cX11_drawings 131 = .ok (.goto 9, 3) := by decide +kernel
theorem dX11_drawings_134 : decode cX11_drawings 134 = .ok (.aload_n 0, 1) := by decide +kernel
theorem dX11_drawings_135 : decode cX11_drawings 135 = .ok (.getfield 256, 3) := by decide +kernel
theorem dX11_drawings_138 : decode cX11_drawings 138 = .ok (.iconst 1, 1) := by decide +kernel
theorem dX11_drawings_139 : decode cX11_drawings 139 = .ok (.isub, 1) := by decide +kernel
theorem dX11_drawings_140 : decode cX11_drawings 140 = .ok (.ireturn, 1) := by decide +kernel
theorem dX11_drawings_141 : decode cX11_drawings 141 = .ok (.aload_n 0, 1) := by decide +kernel
theorem dX11_drawings_142 : decode cX11_drawings 142 = .ok (.getfield 253, 3) := by decide +kernel
theorem dX11_drawings_145 : decode cX11_drawings 145 = .ok (.ifCond .eq 26, 3) := by decide +kernel
theorem dX11_drawings_148 : decode cX11_drawings 148 = .ok (.aload_n 0, 1) := by decide +kernel
theorem dX11_drawings_149 : decode cX11_drawings 149 = .ok (.iload_n 3, 1) := by decide +kernel
theorem dX11_drawings_150 : decode cX11_drawings 150 = .ok (.bipush 10, 2) := by decide +kernel
theorem dX11_drawings_152 : decode cX11_drawings 152 = .ok (.isub, 1) := by decide +kernel
theorem dX11_drawings_153 : decode cX11_drawings 153 = .ok (.invokevirtual 262, 3) := by decide +kernel
theorem dX11_drawings_156 : decode cX11_drawings 156 = .ok (.ifCond .eq 15, 3) := by decide +kernel
theorem dX11_drawings_159 : decode cX11_drawings 159 = .ok (.aload_n 0, 1) := by decide +kernel
theorem dX11_drawings_160 : decode cX11_drawings 160 = .ok (.getfield 31, 3) := by decide +kernel
theorem dX11_drawings_163 : decode cX11_drawings 163 = .ok (.iload_n 3, 1) := by decide +kernel
theorem dX11_drawings_164 : decode cX11_drawings 164 = .ok (.bipush 10, 2) := by decide +kernel
theorem dX11_drawings_166 : decode cX11_drawings 166 = .ok (.isub, 1) := by decide +kernel
theorem dX11_drawings_167 : decode cX11_drawings 167 = .ok (.iaload, 1) := by decide +kernel
theorem dX11_drawings_168 : decode cX11_drawings 168 = .ok (.goto 5, 3) := by decide +kernel
theorem dX11_drawings_171 : decode cX11_drawings 171 = .ok (.bipush (-4), 2) := by decide +kernel
theorem dX11_drawings_173 : decode cX11_drawings 173 = .ok (.ireturn, 1) := by decide +kernel
theorem dX11_spare_0 : decode cX11_spare 0 = .ok (.aload_n 0, 1) := by decide +kernel
theorem dX11_spare_1 : decode cX11_spare 1 = .ok (.iload_n 1, 1) := by decide +kernel
theorem dX11_spare_2 : decode cX11_spare 2 = .ok (.iload_n 2, 1) := by decide +kernel
theorem dX11_spare_3 : decode cX11_spare 3 = .ok (.invokevirtual 142, 3) := by decide +kernel
theorem dX11_spare_6 : decode cX11_spare 6 = .ok (.ifCond .eq 13, 3) := by decide +kernel
theorem dX11_spare_9 : decode cX11_spare 9 = .ok (.aload_n 0, 1) := by decide +kernel
theorem dX11_spare_10 : decode cX11_spare 10 = .ok (.iload_n 3, 1) := by decide +kernel
theorem dX11_spare_11 : decode cX11_spare 11 = .ok (.iload 4, 2) := by decide +kernel
theorem dX11_spare_13 : decode cX11_spare 13 = .ok (.invokevirtual 142, 3) := by decide +kernel
theorem dX11_spare_16 : decode cX11_spare 16 = .ok (.ifCond .ne 5, 3) := by decide +kernel
theorem dX11_spare_19 : decode cX11_spare 19 = .ok (.iconst (-1), 1) := by decide +kernel
theorem dX11_spare_20 : decode cX11_spare 20 = .ok (.ireturn, 1) := by decide +kernel
theorem dX11_spare_21 : decode cX11_spare 21 = .ok (.aload_n 0, 1) := by decide +kernel
theorem dX11_spare_22 : decode cX11_spare 22 = .ok (.iload_n 1, 1) := by decide +kernel
theorem dX11_spare_23 : decode cX11_spare 23 = .ok (.iload_n 2, 1) := by decide +kernel
theorem dX11_spare_24 : decode cX11_spare 24 = .ok (.invokevirtual 149, 3) := by decide +kernel
theorem dX11_spare_27 : decode cX11_spare 27 = .ok (.lconst 0, 1) := by decide +kernel
theorem dX11_spare_28 : decode cX11_spare 28 = .ok (.lcmp, 1) := by decide +kernel
theorem dX11_spare_29 : decode cX11_spare 29 = .ok (.ifCond .ne 6, 3) := by decide +kernel
theorem dX11_spare_32 : decode cX11_spare 32 = .ok (.bipush (-2), 2) := by decide +kernel
theorem dX11_spare_34 : decode cX11_spare 34 = .ok (.ireturn, 1) := by decide +kernel
theorem dX11_spare_35 : decode cX11_spare 35 = .ok (.aload_n 0, 1) := by decide +kernel
theorem dX11_spare_36 : decode cX11_spare 36 = .ok (.iload_n 1, 1) := by decide +kernel
theorem dX11_spare_37 : decode cX11_spare 37 = .ok (.iload_n 2, 1) := by decide +kernel
theorem dX11_spare_38 : decode cX11_spare 38 = .ok (.invokevirtual 267, 3) := by decide +kernel
theorem dX11_spare_41 : decode cX11_spare 41 = .ok (.aload_n 0, 1) := by decide +kernel
theorem dX11_spare_42 : decode cX11_spare 42 = .ok (.iload_n 3, 1) := by decide +kernel
theorem dX11_spare_43 : decode cX11_spare 43 = .ok (.invokevirtual 262, 3) := by decide +kernel
theorem dX11_spare_46 : decode cX11_spare 46 = .ok (.ifCond .eq 24, 3) := by decide +kernel
theorem dX11_spare_49 : decode cX11_spare 49 = .ok (.aload_n 0, 1) := by decide +kernel
theorem dX11_spare_50 : decode cX11_spare 50 = .ok (.iload 4, 2) := by decide +kernel
theorem dX11_spare_52 : decode cX11_spare 52 = .ok (.invokevirtual 262, 3) := by decide +kernel
theorem dX11_spare_55 : decode cX11_spare 55 = .ok (.ifCond .eq 15, 3) := by decide +kernel
theorem dX11_spare_58 : decode cX11_spare 58 = .ok (.aload_n 0, 1) := by decide +kernel
theorem dX11_spare_59 : decode cX11_spare 59 = .ok (.iload_n 3, 1) := by decide +kernel
theorem dX11_spare_60 : decode cX11_spare 60 = .ok (.iload 4, 2) := by decide +kernel
theorem dX11_spare_62 : decode cX11_spare 62 = .ok (.invokevirtual 149, 3) := by decide +kernel
theorem dX11_spare_65 : decode cX11_spare 65 = .ok (.lconst 0, 1) := by decide +kernel
theorem dX11_spare_66 : decode cX11_spare 66 = .ok (.lcmp, 1) := by decide +kernel
theorem dX11_spare_67 : decode cX11_spare 67 = .ok (.ifCond .ne 6, 3) := by decide +kernel
theorem dX11_spare_70 : decode cX11_spare 70 = .ok (.bipush (-4), 2) := by decide +kernel
theorem dX11_spare_72 : decode cX11_spare 72 = .ok (.ireturn, 1) := by decide +kernel
theorem dX11_spare_73 : decode cX11_spare 73 = .ok (.aload_n 0, 1) := by decide +kernel
theorem dX11_spare_74 : decode cX11_spare 74 = .ok (.invokevirtual 270, 3) := by decide +kernel
theorem dX11_spare_77 : decode cX11_spare 77 = .ok (.istore 5, 2) := by decide +kernel
theorem dX11_spare_79 : decode cX11_spare 79 = .ok (.aload_n 0, 1) := by decide +kernel
theorem dX11_spare_80 : decode cX11_spare 80 = .ok (.getfield 7, 3) := by decide +kernel
theorem dX11_spare_83 : decode cX11_spare 83 = .ok (.iload_n 3, 1) := by decide +kernel
theorem dX11_spare_84 : decode cX11_spare 84 = .ok (.iload 4, 2) := by decide +kernel
theorem dX11_spare_86 : decode cX11_spare 86 = .ok (.invokestatic 113, 3) := by decide +kernel
theorem dX11_spare_89 : decode cX11_spare 89 = .ok (.iaload, 1) := by decide +kernel
theorem dX11_spare_90 : decode cX11_spare 90 = .ok (.istore 6, 2) := by decide +kernel
theorem dX11_spare_92 : decode cX11_spare 92 = .ok (.aload_n 0, 1) := by decide +kernel
theorem dX11_spare_93 : decode cX11_spare 93 = .ok (.getfield 7, 3) := by decide +kernel
theorem dX11_spare_96 : decode cX11_spare 96 = .ok (.iload_n 3, 1) := by decide +kernel
theorem dX11_spare_97 : decode cX11_spare 97 = .ok (.iload 4, 2) := by decide +kernel
theorem dX11_spare_99 : decode cX11_spare 99 = .ok (.invokestatic 113, 3) := by decide +kernel
theorem dX11_spare_102 : decode cX11_spare 102 = .ok (.iconst 0, 1) := by decide +kernel
theorem dX11_spare_103 : decode cX11_spare 103 = .ok (.iastore, 1) := by decide +kernel
theorem dX11_spare_104 : decode cX11_spare 104 = .ok (.aload_n 0, 1) := by decide +kernel
theorem dX11_spare_105 : decode cX11_spare 105 = .ok (.iload_n 1, 1) := by decide +kernel
theorem dX11_spare_106 : decode cX11_spare 106 = .ok (.iload_n 2, 1) := by decide +kernel
theorem dX11_spare_107 : decode cX11_spare 107 = .ok (.invokevirtual 267, 3) := by decide +kernel
theorem dX11_spare_110 : decode cX11_spare 110 = .ok (.aload_n 0, 1) := by decide +kernel
theorem dX11_spare_111 : decode cX11_spare 111 = .ok (.getfield 7, 3) := by decide +kernel
theorem dX11_spare_114 : decode cX11_spare 114 = .ok (.iload_n 3, 1) := by decide +kernel
theorem dX11_spare_115 : decode cX11_spare 115 = .ok (.iload 4, 2) := by decide +kernel
theorem dX11_spare_117 : decode cX11_spare 117 = .ok (.invokestatic 113, 3) := by decide +kernel
theorem dX11_spare_120 : decode cX11_spare 120 = .ok (.iload 6, 2) := by decide +kernel
theorem dX11_spare_122 : decode cX11_spare 122 = .ok (.iastore, 1) := by decide +kernel
theorem dX11_spare_123 : decode cX11_spare 123 = .ok (.aload_n 0, 1) := by decide +kernel
theorem dX11_spare_124 : decode cX11_spare 124 = .ok (.invokevirtual 270, 3) := by decide +kernel
theorem dX11_spare_127 : decode cX11_spare 127 = .ok (.iload 5, 2) := by decide +kernel
theorem dX11_spare_129 : decode cX11_spare 129 = .ok (.if_icmp .ne 7, 3) := by decide +kernel
theorem dX11_spare_132 : decode cX11_spare 132 = .ok (.iconst 1, 1) := by decide +kernel
theorem dX11_spare_133 : decode cX11_spare 133 = .ok (.goto 4, 3) := by decide +kernel
theorem dX11_spare_136 : decode cX11_spare 136 = .ok (.iconst 0, 1) := by decide +kernel
theorem dX11_spare_137 : decode cX11_spare 137 = .ok (.ireturn, 1) := by decide +kernel
theorem dX11_bitsOf_0 : decode cX11_bitsOf 0 = .ok (.iconst 0, 1) := by decide +kernel
theorem dX11_bitsOf_1 : decode cX11_bitsOf 1 = .ok (.istore_n 1, 1) := by decide +kernel
theorem dX11_bitsOf_2 : decode cX11_bitsOf 2 = .ok (.iconst 0, 1) := by decide +kernel
theorem dX11_bitsOf_3 : decode cX11_bitsOf 3 = .ok (.istore_n 2, 1) := by decide +kernel
theorem dX11_bitsOf_4 : decode cX11_bitsOf 4 = .ok (.iload_n 2, 1) := by decide +kernel
theorem dX11_bitsOf_5 : decode cX11_bitsOf 5 = .ok (.bipush 7, 2) := by decide +kernel
theorem dX11_bitsOf_7 : decode cX11_bitsOf 7 = .ok (.if_icmp .ge 17, 3) := by decide +kernel
theorem dX11_bitsOf_10 : decode cX11_bitsOf 10 = .ok (.iload_n 1, 1) := by decide +kernel
theorem dX11_bitsOf_11 : decode cX11_bitsOf 11 = .ok (.iload_n 0, 1) := by decide +kernel
theorem dX11_bitsOf_12 : decode cX11_bitsOf 12 = .ok (.iload_n 2, 1) := by decide +kernel
theorem dX11_bitsOf_13 : decode cX11_bitsOf 13 = .ok (.ishr, 1) := by decide +kernel
theorem dX11_bitsOf_14 : decode cX11_bitsOf 14 = .ok (.iconst 1, 1) := by decide +kernel
theorem dX11_bitsOf_15 : decode cX11_bitsOf 15 = .ok (.iand, 1) := by decide +kernel
theorem dX11_bitsOf_16 : decode cX11_bitsOf 16 = .ok (.iadd, 1) := by decide +kernel
theorem dX11_bitsOf_17 : decode cX11_bitsOf 17 = .ok (.istore_n 1, 1) := by decide +kernel
theorem dX11_bitsOf_18 : decode cX11_bitsOf 18 = .ok (.iinc 2 1, 3) := by decide +kernel
theorem dX11_bitsOf_21 : decode cX11_bitsOf 21 = .ok (.goto (-17), 3) := by decide +kernel
theorem dX11_bitsOf_24 : decode cX11_bitsOf 24 = .ok (.iload_n 1, 1) := by decide +kernel
theorem dX11_bitsOf_25 : decode cX11_bitsOf 25 = .ok (.ireturn, 1) := by decide +kernel
theorem dX11_base_0 : decode cX11_base 0 = .ok (.aload_n 0, 1) := by decide +kernel
theorem dX11_base_1 : decode cX11_base 1 = .ok (.invokevirtual 135, 3) := by decide +kernel
theorem dX11_base_4 : decode cX11_base 4 = .ok (.bipush (-4), 2) := by decide +kernel
theorem dX11_base_6 : decode cX11_base 6 = .ok (.istore_n 1, 1) := by decide +kernel
theorem dX11_base_7 : decode cX11_base 7 = .ok (.iconst 0, 1) := by decide +kernel
theorem dX11_base_8 : decode cX11_base 8 = .ok (.istore_n 2, 1) := by decide +kernel
theorem dX11_base_9 : decode cX11_base 9 = .ok (.iconst 0, 1) := by decide +kernel
theorem dX11_base_10 : decode cX11_base 10 = .ok (.istore_n 3, 1) := by decide +kernel
theorem dX11_base_11 : decode cX11_base 11 = .ok (.iconst 1, 1) := by decide +kernel
theorem dX11_base_12 : decode cX11_base 12 = .ok (.istore 4, 2) := by decide +kernel
theorem dX11_base_14 : decode cX11_base 14 = .ok (.iload 4, 2) := by decide +kernel
theorem dX11_base_16 : decode cX11_base 16 = .ok (.aload_n 0, 1) := by decide +kernel
theorem dX11_base_17 : decode cX11_base 17 = .ok (.getfield 7, 3) := by decide +kernel
theorem dX11_base_20 : decode cX11_base 20 = .ok (.bipush 21, 2) := by decide +kernel
theorem dX11_base_22 : decode cX11_base 22 = .ok (.iaload, 1) := by decide +kernel
theorem dX11_base_23 : decode cX11_base 23 = .ok (.if_icmp .ge 104, 3) := by decide +kernel
theorem dX11_base_26 : decode cX11_base 26 = .ok (.iconst 0, 1) := by decide +kernel
theorem dX11_base_27 : decode cX11_base 27 = .ok (.istore 5, 2) := by decide +kernel
theorem dX11_base_29 : decode cX11_base 29 = .ok (.iload 5, 2) := by decide +kernel
theorem dX11_base_31 : decode cX11_base 31 = .ok (.iload 4, 2) := by decide +kernel
theorem dX11_base_33 : decode cX11_base 33 = .ok (.if_icmp .ge 88, 3) := by decide +kernel
theorem dX11_base_36 : decode cX11_base 36 = .ok (.aload_n 0, 1) := by decide +kernel
theorem dX11_base_37 : decode cX11_base 37 = .ok (.iload 5, 2) := by decide +kernel
theorem dX11_base_39 : decode cX11_base 39 = .ok (.iload 4, 2) := by decide +kernel
theorem dX11_base_41 : decode cX11_base 41 = .ok (.invokevirtual 149, 3) := by decide +kernel
theorem dX11_base_44 : decode cX11_base 44 = .ok (.lconst 0, 1) := by decide +kernel
theorem dX11_base_45 : decode cX11_base 45 = .ok (.lcmp, 1) := by decide +kernel
theorem dX11_base_46 : decode cX11_base 46 = .ok (.ifCond .le 69, 3) := by decide +kernel
theorem dX11_base_49 : decode cX11_base 49 = .ok (.aload_n 0, 1) := by decide +kernel
theorem dX11_base_50 : decode cX11_base 50 = .ok (.iload 5, 2) := by decide +kernel
theorem dX11_base_52 : decode cX11_base 52 = .ok (.iload 4, 2) := by decide +kernel
theorem dX11_base_54 : decode cX11_base 54 = .ok (.invokevirtual 267, 3) := by decide +kernel
theorem dX11_base_57 : decode cX11_base 57 = .ok (.aload_n 0, 1) := by decide +kernel
theorem dX11_base_58 : decode cX11_base 58 = .ok (.getfield 247, 3) := by decide +kernel
theorem dX11_base_61 : decode cX11_base 61 = .ok (.invokestatic 274, 3) := by decide +kernel
theorem dX11_base_64 : decode cX11_base 64 = .ok (.istore 6, 2) := by decide +kernel
theorem dX11_base_66 : decode cX11_base 66 = .ok (.aload_n 0, 1) := by decide +kernel
theorem dX11_base_67 : decode cX11_base 67 = .ok (.invokevirtual 270, 3) := by decide +kernel
theorem dX11_base_70 : decode cX11_base 70 = .ok (.istore 7, 2) := by decide +kernel
theorem dX11_base_72 : decode cX11_base 72 = .ok (.iload 7, 2) := by decide +kernel
theorem dX11_base_74 : decode cX11_base 74 = .ok (.ifCond .le 41, 3) := by decide +kernel
theorem dX11_base_77 : decode cX11_base 77 = .ok (.iload_n 1, 1) := by decide +kernel
theorem dX11_base_78 : decode cX11_base 78 = .ok (.bipush (-4), 2) := by decide +kernel
theorem dX11_base_80 : decode cX11_base 80 = .ok (.if_icmp .eq 21, 3) := by decide +kernel
theorem dX11_base_83 : decode cX11_base 83 = .ok (.iload 6, 2) := by decide +kernel
theorem dX11_base_85 : decode cX11_base 85 = .ok (.iload_n 2, 1) := by decide +kernel
theorem dX11_base_86 : decode cX11_base 86 = .ok (.if_icmp .gt 15, 3) := by decide +kernel
theorem dX11_base_89 : decode cX11_base 89 = .ok (.iload 6, 2) := by decide +kernel
theorem dX11_base_91 : decode cX11_base 91 = .ok (.iload_n 2, 1) := by decide +kernel
theorem dX11_base_92 : decode cX11_base 92 = .ok (.if_icmp .ne 23, 3) := by decide +kernel
theorem dX11_base_95 : decode cX11_base 95 = .ok (.iload 7, 2) := by decide +kernel
theorem dX11_base_97 : decode cX11_base 97 = .ok (.iload_n 3, 1) := by decide +kernel
theorem dX11_base_98 : decode cX11_base 98 = .ok (.if_icmp .ge 17, 3) := by decide +kernel
theorem dX11_base_101 : decode cX11_base 101 = .ok (.iload 5, 2) := by decide +kernel
theorem dX11_base_103 : decode cX11_base 103 = .ok (.iload 4, 2) := by decide +kernel
theorem dX11_base_105 : decode cX11_base 105 = .ok (.invokestatic 113, 3) := by decide +kernel
theorem dX11_base_108 : decode cX11_base 108 = .ok (.istore_n 1, 1) := by decide +kernel
theorem dX11_base_109 : decode cX11_base 109 = .ok (.iload 6, 2) := by decide +kernel
theorem dX11_base_111 : decode cX11_base 111 = .ok (.istore_n 2, 1) := by decide +kernel
theorem dX11_base_112 : decode cX11_base 112 = .ok (.iload 7, 2) := by decide +kernel
theorem dX11_base_114 : decode cX11_base 114 = .ok (.istore_n 3, 1) := by decide +kernel
theorem dX11_base_115 : decode cX11_base 115 = .ok (.iinc 5 1, 3) := by decide +kernel
theorem dX11_base_118 : decode cX11_base 118 = .ok (.goto (-89), 3) := by decide +kernel
theorem dX11_base_121 : decode cX11_base 121 = .ok (.iinc 4 1, 3) := by decide +kernel
theorem dX11_base_124 : decode cX11_base 124 = .ok (.goto (-110), 3) := by decide +kernel
theorem dX11_base_127 : decode cX11_base 127 = .ok (.iload_n 1, 1) := by decide +kernel
theorem dX11_base_128 : decode cX11_base 128 = .ok (.ireturn, 1) := by decide +kernel
theorem dX11_isTold_0 : decode cX11_isTold 0 = .ok (.iconst 0, 1) := by decide +kernel
theorem dX11_isTold_1 : decode cX11_isTold 1 = .ok (.istore_n 3, 1) := by decide +kernel
theorem dX11_isTold_2 : decode cX11_isTold 2 = .ok (.iload_n 3, 1) := by decide +kernel
theorem dX11_isTold_3 : decode cX11_isTold 3 = .ok (.aload_n 0, 1) := by decide +kernel
theorem dX11_isTold_4 : decode cX11_isTold 4 = .ok (.getfield 7, 3) := by decide +kernel
theorem dX11_isTold_7 : decode cX11_isTold 7 = .ok (.bipush 21, 2) := by decide +kernel
theorem dX11_isTold_9 : decode cX11_isTold 9 = .ok (.iaload, 1) := by decide +kernel
theorem dX11_isTold_10 : decode cX11_isTold 10 = .ok (.if_icmp .ge 31, 3) := by decide +kernel
theorem dX11_isTold_13 : decode cX11_isTold 13 = .ok (.iload_n 2, 1) := by decide +kernel
theorem dX11_isTold_14 : decode cX11_isTold 14 = .ok (.iload_n 3, 1) := by decide +kernel
theorem dX11_isTold_15 : decode cX11_isTold 15 = .ok (.ishr, 1) := by decide +kernel
theorem dX11_isTold_16 : decode cX11_isTold 16 = .ok (.iconst 1, 1) := by decide +kernel
theorem dX11_isTold_17 : decode cX11_isTold 17 = .ok (.iand, 1) := by decide +kernel
theorem dX11_isTold_18 : decode cX11_isTold 18 = .ok (.iconst 1, 1) := by decide +kernel
theorem dX11_isTold_19 : decode cX11_isTold 19 = .ok (.if_icmp .ne 16, 3) := by decide +kernel
theorem dX11_isTold_22 : decode cX11_isTold 22 = .ok (.aload_n 0, 1) := by decide +kernel
theorem dX11_isTold_23 : decode cX11_isTold 23 = .ok (.iload_n 1, 1) := by decide +kernel
theorem dX11_isTold_24 : decode cX11_isTold 24 = .ok (.iload_n 3, 1) := by decide +kernel
theorem dX11_isTold_25 : decode cX11_isTold 25 = .ok (.invokevirtual 149, 3) := by decide +kernel
theorem dX11_isTold_28 : decode cX11_isTold 28 = .ok (.lconst 0, 1) := by decide +kernel
theorem dX11_isTold_29 : decode cX11_isTold 29 = .ok (.lcmp, 1) := by decide +kernel
theorem dX11_isTold_30 : decode cX11_isTold 30 = .ok (.ifCond .ne 5, 3) := by decide +kernel
theorem dX11_isTold_33 : decode cX11_isTold 33 = .ok (.iconst 0, 1) := by decide +kernel
theorem dX11_isTold_34 : decode cX11_isTold 34 = .ok (.ireturn, 1) := by decide +kernel
theorem dX11_isTold_35 : decode cX11_isTold 35 = .ok (.iinc 3 1, 3) := by decide +kernel
theorem dX11_isTold_38 : decode cX11_isTold 38 = .ok (.goto (-36), 3) := by decide +kernel
theorem dX11_isTold_41 : decode cX11_isTold 41 = .ok (.iconst 0, 1) := by decide +kernel
theorem dX11_isTold_42 : decode cX11_isTold 42 = .ok (.istore_n 3, 1) := by decide +kernel
theorem dX11_isTold_43 : decode cX11_isTold 43 = .ok (.iload_n 3, 1) := by decide +kernel
theorem dX11_isTold_44 : decode cX11_isTold 44 = .ok (.aload_n 0, 1) := by decide +kernel
theorem dX11_isTold_45 : decode cX11_isTold 45 = .ok (.getfield 7, 3) := by decide +kernel
theorem dX11_isTold_48 : decode cX11_isTold 48 = .ok (.bipush 21, 2) := by decide +kernel
theorem dX11_isTold_50 : decode cX11_isTold 50 = .ok (.iaload, 1) := by decide +kernel
theorem dX11_isTold_51 : decode cX11_isTold 51 = .ok (.if_icmp .ge 88, 3) := by decide +kernel
theorem dX11_isTold_54 : decode cX11_isTold 54 = .ok (.iload_n 3, 1) := by decide +kernel
theorem dX11_isTold_55 : decode cX11_isTold 55 = .ok (.iload_n 1, 1) := by decide +kernel
theorem dX11_isTold_56 : decode cX11_isTold 56 = .ok (.if_icmp .eq 7, 3) := by decide +kernel
theorem dX11_isTold_59 : decode cX11_isTold 59 = .ok (.iconst 1, 1) := by decide +kernel
theorem dX11_isTold_60 : decode cX11_isTold 60 = .ok (.goto 4, 3) := by decide +kernel
theorem dX11_isTold_63 : decode cX11_isTold 63 = .ok (.iconst 0, 1) := by decide +kernel
theorem dX11_isTold_64 : decode cX11_isTold 64 = .ok (.istore 4, 2) := by decide +kernel
theorem dX11_isTold_66 : decode cX11_isTold 66 = .ok (.iconst 0, 1) := by decide +kernel
theorem dX11_isTold_67 : decode cX11_isTold 67 = .ok (.istore 5, 2) := by decide +kernel
theorem dX11_isTold_69 : decode cX11_isTold 69 = .ok (.iload 5, 2) := by decide +kernel
theorem dX11_isTold_71 : decode cX11_isTold 71 = .ok (.aload_n 0, 1) := by decide +kernel
theorem dX11_isTold_72 : decode cX11_isTold 72 = .ok (.getfield 7, 3) := by decide +kernel
theorem dX11_isTold_75 : decode cX11_isTold 75 = .ok (.bipush 21, 2) := by decide +kernel
theorem dX11_isTold_77 : decode cX11_isTold 77 = .ok (.iaload, 1) := by decide +kernel
theorem dX11_isTold_78 : decode cX11_isTold 78 = .ok (.if_icmp .ge 48, 3) := by decide +kernel
theorem dX11_isTold_81 : decode cX11_isTold 81 = .ok (.iload 4, 2) := by decide +kernel
theorem dX11_isTold_83 : decode cX11_isTold 83 = .ok (.ifCond .eq 43, 3) := by decide +kernel
theorem dX11_isTold_86 : decode cX11_isTold 86 = .ok (.iload_n 2, 1) := by decide +kernel
theorem dX11_isTold_87 : decode cX11_isTold 87 = .ok (.iload 5, 2) := by decide +kernel
theorem dX11_isTold_89 : decode cX11_isTold 89 = .ok (.ishr, 1) := by decide +kernel
theorem dX11_isTold_90 : decode cX11_isTold 90 = .ok (.iconst 1, 1) := by decide +kernel
theorem dX11_isTold_91 : decode cX11_isTold 91 = .ok (.iand, 1) := by decide +kernel
theorem dX11_isTold_92 : decode cX11_isTold 92 = .ok (.ifCond .eq 21, 3) := by decide +kernel
theorem dX11_isTold_95 : decode cX11_isTold 95 = .ok (.aload_n 0, 1) := by decide +kernel
theorem dX11_isTold_96 : decode cX11_isTold 96 = .ok (.iload_n 3, 1) := by decide +kernel
theorem dX11_isTold_97 : decode cX11_isTold 97 = .ok (.iload 5, 2) := by decide +kernel
theorem dX11_isTold_99 : decode cX11_isTold 99 = .ok (.invokevirtual 149, 3) := by decide +kernel
theorem dX11_isTold_102 : decode cX11_isTold 102 = .ok (.aload_n 0, 1) := by decide +kernel
theorem dX11_isTold_103 : decode cX11_isTold 103 = .ok (.iload_n 1, 1) := by decide +kernel
theorem dX11_isTold_104 : decode cX11_isTold 104 = .ok (.iload 5, 2) := by decide +kernel
theorem dX11_isTold_106 : decode cX11_isTold 106 = .ok (.invokevirtual 149, 3) := by decide +kernel
theorem dX11_isTold_109 : decode cX11_isTold 109 = .ok (.lcmp, 1) := by decide +kernel
theorem dX11_isTold_110 : decode cX11_isTold 110 = .ok (.ifCond .ne 7, 3) := by decide +kernel
theorem dX11_isTold_113 : decode cX11_isTold 113 = .ok (.iconst 1, 1) := by decide +kernel
theorem dX11_isTold_114 : decode cX11_isTold 114 = .ok (.goto 4, 3) := by decide +kernel
theorem dX11_isTold_117 : decode cX11_isTold 117 = .ok (.iconst 0, 1) := by decide +kernel
theorem dX11_isTold_118 : decode cX11_isTold 118 = .ok (.istore 4, 2) := by decide +kernel
theorem dX11_isTold_120 : decode cX11_isTold 120 = .ok (.iinc 5 1, 3) := by decide +kernel
theorem dX11_isTold_123 : decode cX11_isTold 123 = .ok (.goto (-54), 3) := by decide +kernel
theorem dX11_isTold_126 : decode cX11_isTold 126 = .ok (.iload 4, 2) := by decide +kernel
theorem dX11_isTold_128 : decode cX11_isTold 128 = .ok (.ifCond .eq 5, 3) := by decide +kernel
theorem dX11_isTold_131 : decode cX11_isTold 131 = .ok (.iconst 0, 1) := by decide +kernel
theorem dX11_isTold_132 : decode cX11_isTold 132 = .ok (.ireturn, 1) := by decide +kernel
theorem dX11_isTold_133 : decode cX11_isTold 133 = .ok (.iinc 3 1, 3) := by decide +kernel
theorem dX11_isTold_136 : decode cX11_isTold 136 = .ok (.goto (-93), 3) := by decide +kernel
theorem dX11_isTold_139 : decode cX11_isTold 139 = .ok (.iconst 1, 1) := by decide +kernel
theorem dX11_isTold_140 : decode cX11_isTold 140 = .ok (.ireturn, 1) := by decide +kernel
theorem dX11_areSome_0 : decode cX11_areSome 0 = .ok (.iload_n 2, 1) := by decide +kernel
theorem dX11_areSome_1 : decode cX11_areSome 1 = .ok (.i2l, 1) := by decide +kernel
theorem dX11_areSome_2 : decode cX11_areSome 2 = .ok (.lconst 1, 1) := by decide +kernel
theorem dX11_areSome_3 : decode cX11_areSome 3 = .ok (.iconst 1, 1) := by decide +kernel
theorem dX11_areSome_4 : decode cX11_areSome 4 = .ok (.aload_n 0, 1) := by decide +kernel
theorem dX11_areSome_5 : decode cX11_areSome 5 = .ok (.getfield 7, 3) := by decide +kernel
theorem dX11_areSome_8 : decode cX11_areSome 8 = .ok (.bipush 21, 2) := by decide +kernel
theorem dX11_areSome_10 : decode cX11_areSome 10 = .ok (.iaload, 1) := by decide +kernel
theorem dX11_areSome_11 : decode cX11_areSome 11 = .ok (.ishl, 1) := by decide +kernel
theorem dX11_areSome_12 : decode cX11_areSome 12 = .ok (.iconst 1, 1) := by decide +kernel
theorem dX11_areSome_13 : decode cX11_areSome 13 = .ok (.isub, 1) := by decide +kernel
theorem dX11_areSome_14 : decode cX11_areSome 14 = .ok (.i2l, 1) := by decide +kernel
theorem dX11_areSome_15 : decode cX11_areSome 15 = .ok (.invokestatic 64, 3) := by decide +kernel
theorem dX11_areSome_18 : decode cX11_areSome 18 = .ok (.ifCond .eq 15, 3) := by decide +kernel
theorem dX11_areSome_21 : decode cX11_areSome 21 = .ok (.iload_n 2, 1) := by decide +kernel
theorem dX11_areSome_22 : decode cX11_areSome 22 = .ok (.iload_n 1, 1) := by decide +kernel
theorem dX11_areSome_23 : decode cX11_areSome 23 = .ok (.ishr, 1) := by decide +kernel
theorem dX11_areSome_24 : decode cX11_areSome 24 = .ok (.iconst 1, 1) := by decide +kernel
theorem dX11_areSome_25 : decode cX11_areSome 25 = .ok (.iand, 1) := by decide +kernel
theorem dX11_areSome_26 : decode cX11_areSome 26 = .ok (.ifCond .ne 7, 3) := by decide +kernel
theorem dX11_areSome_29 : decode cX11_areSome 29 = .ok (.iconst 1, 1) := by decide +kernel
theorem dX11_areSome_30 : decode cX11_areSome 30 = .ok (.goto 4, 3) := by decide +kernel
theorem dX11_areSome_33 : decode cX11_areSome 33 = .ok (.iconst 0, 1) := by decide +kernel
theorem dX11_areSome_34 : decode cX11_areSome 34 = .ok (.ireturn, 1) := by decide +kernel
theorem dX11_tells_0 : decode cX11_tells 0 = .ok (.aload_n 0, 1) := by decide +kernel
theorem dX11_tells_1 : decode cX11_tells 1 = .ok (.iload_n 1, 1) := by decide +kernel
theorem dX11_tells_2 : decode cX11_tells 2 = .ok (.invokevirtual 138, 3) := by decide +kernel
theorem dX11_tells_5 : decode cX11_tells 5 = .ok (.ifCond .eq 29, 3) := by decide +kernel
theorem dX11_tells_8 : decode cX11_tells 8 = .ok (.aload_n 0, 1) := by decide +kernel
theorem dX11_tells_9 : decode cX11_tells 9 = .ok (.iload_n 1, 1) := by decide +kernel
theorem dX11_tells_10 : decode cX11_tells 10 = .ok (.iload_n 2, 1) := by decide +kernel
theorem dX11_tells_11 : decode cX11_tells 11 = .ok (.invokevirtual 277, 3) := by decide +kernel
theorem dX11_tells_14 : decode cX11_tells 14 = .ok (.ifCond .eq 20, 3) := by decide +kernel
theorem dX11_tells_17 : decode cX11_tells 17 = .ok (.aload_n 0, 1) := by decide +kernel
theorem dX11_tells_18 : decode cX11_tells 18 = .ok (.iload_n 1, 1) := by decide +kernel
theorem dX11_tells_19 : decode cX11_tells 19 = .ok (.iload_n 2, 1) := by decide +kernel
theorem dX11_tells_20 : decode cX11_tells 20 = .ok (.invokevirtual 280, 3) := by decide +kernel
theorem dX11_tells_23 : decode cX11_tells 23 = .ok (.ifCond .eq 7, 3) := by decide +kernel
theorem dX11_tells_26 : decode cX11_tells 26 = .ok (.iconst 1, 1) := by decide +kernel
theorem dX11_tells_27 : decode cX11_tells 27 = .ok (.goto 8, 3) := by decide +kernel
theorem dX11_tells_30 : decode cX11_tells 30 = .ok (.iconst 0, 1) := by decide +kernel
theorem dX11_tells_31 : decode cX11_tells 31 = .ok (.goto 4, 3) := by decide +kernel
theorem dX11_tells_34 : decode cX11_tells 34 = .ok (.iconst (-1), 1) := by decide +kernel
theorem dX11_tells_35 : decode cX11_tells 35 = .ok (.ireturn, 1) := by decide +kernel
theorem dX11_words_0 : decode cX11_words 0 = .ok (.aload_n 0, 1) := by decide +kernel
theorem dX11_words_1 : decode cX11_words 1 = .ok (.iload_n 1, 1) := by decide +kernel
theorem dX11_words_2 : decode cX11_words 2 = .ok (.invokevirtual 138, 3) := by decide +kernel
theorem dX11_words_5 : decode cX11_words 5 = .ok (.ifCond .eq 13, 3) := by decide +kernel
theorem dX11_words_8 : decode cX11_words 8 = .ok (.iload_n 2, 1) := by decide +kernel
theorem dX11_words_9 : decode cX11_words 9 = .ok (.i2l, 1) := by decide +kernel
theorem dX11_words_10 : decode cX11_words 10 = .ok (.lconst 0, 1) := by decide +kernel
theorem dX11_words_11 : decode cX11_words 11 = .ok (.lconst 1, 1) := by decide +kernel
theorem dX11_words_12 : decode cX11_words 12 = .ok (.invokestatic 64, 3) := by decide +kernel
theorem dX11_words_15 : decode cX11_words 15 = .ok (.ifCond .ne 5, 3) := by decide +kernel
theorem dX11_words_18 : decode cX11_words 18 = .ok (.iconst (-1), 1) := by decide +kernel
theorem dX11_words_19 : decode cX11_words 19 = .ok (.ireturn, 1) := by decide +kernel
theorem dX11_words_20 : decode cX11_words 20 = .ok (.bipush (-4), 2) := by decide +kernel
theorem dX11_words_22 : decode cX11_words 22 = .ok (.istore_n 3, 1) := by decide +kernel
theorem dX11_words_23 : decode cX11_words 23 = .ok (.iconst 1, 1) := by decide +kernel
theorem dX11_words_24 : decode cX11_words 24 = .ok (.istore 4, 2) := by decide +kernel
theorem dX11_words_26 : decode cX11_words 26 = .ok (.iload 4, 2) := by decide +kernel
theorem dX11_words_28 : decode cX11_words 28 = .ok (.iconst 1, 1) := by decide +kernel
theorem dX11_words_29 : decode cX11_words 29 = .ok (.aload_n 0, 1) := by decide +kernel
theorem dX11_words_30 : decode cX11_words 30 = .ok (.getfield 7, 3) := by decide +kernel
theorem dX11_words_33 : decode cX11_words 33 = .ok (.bipush 21, 2) := by decide +kernel
theorem dX11_words_35 : decode cX11_words 35 = .ok (.iaload, 1) := by decide +kernel
theorem dX11_words_36 : decode cX11_words 36 = .ok (.ishl, 1) := by decide +kernel
theorem dX11_words_37 : decode cX11_words 37 = .ok (.if_icmp .ge 65, 3) := by decide +kernel
theorem dX11_words_40 : decode cX11_words 40 = .ok (.iload 4, 2) := by decide +kernel
theorem dX11_words_42 : decode cX11_words 42 = .ok (.iload_n 1, 1) := by decide +kernel
theorem dX11_words_43 : decode cX11_words 43 = .ok (.ishr, 1) := by decide +kernel
theorem dX11_words_44 : decode cX11_words 44 = .ok (.iconst 1, 1) := by decide +kernel
theorem dX11_words_45 : decode cX11_words 45 = .ok (.iand, 1) := by decide +kernel
theorem dX11_words_46 : decode cX11_words 46 = .ok (.ifCond .ne 17, 3) := by decide +kernel
theorem dX11_words_49 : decode cX11_words 49 = .ok (.aload_n 0, 1) := by decide +kernel
theorem dX11_words_50 : decode cX11_words 50 = .ok (.iload_n 1, 1) := by decide +kernel
theorem dX11_words_51 : decode cX11_words 51 = .ok (.iload 4, 2) := by decide +kernel
theorem dX11_words_53 : decode cX11_words 53 = .ok (.invokevirtual 280, 3) := by decide +kernel
theorem dX11_words_56 : decode cX11_words 56 = .ok (.ifCond .eq 7, 3) := by decide +kernel
theorem dX11_words_59 : decode cX11_words 59 = .ok (.iconst 1, 1) := by decide +kernel
theorem dX11_words_60 : decode cX11_words 60 = .ok (.goto 4, 3) := by decide +kernel
theorem dX11_words_63 : decode cX11_words 63 = .ok (.iconst 0, 1) := by decide +kernel
theorem dX11_words_64 : decode cX11_words 64 = .ok (.istore 5, 2) := by decide +kernel
theorem dX11_words_66 : decode cX11_words 66 = .ok (.iload 5, 2) := by decide +kernel
theorem dX11_words_68 : decode cX11_words 68 = .ok (.ifCond .eq 26, 3) := by decide +kernel
theorem dX11_words_71 : decode cX11_words 71 = .ok (.iload_n 3, 1) := by decide +kernel
theorem dX11_words_72 : decode cX11_words 72 = .ok (.bipush (-4), 2) := by decide +kernel
theorem dX11_words_74 : decode cX11_words 74 = .ok (.if_icmp .eq 15, 3) := by decide +kernel
theorem dX11_words_77 : decode cX11_words 77 = .ok (.iload 4, 2) := by decide +kernel
theorem dX11_words_79 : decode cX11_words 79 = .ok (.invokestatic 274, 3) := by decide +kernel
theorem dX11_words_82 : decode cX11_words 82 = .ok (.iload_n 3, 1) := by decide +kernel
theorem dX11_words_83 : decode cX11_words 83 = .ok (.invokestatic 274, 3) := by decide +kernel
theorem dX11_words_86 : decode cX11_words 86 = .ok (.if_icmp .ge 8, 3) := by decide +kernel
theorem dX11_words_89 : decode cX11_words 89 = .ok (.iload 4, 2) := by decide +kernel
theorem dX11_words_91 : decode cX11_words 91 = .ok (.goto 4, 3) := by decide +kernel
theorem dX11_words_94 : decode cX11_words 94 = .ok (.iload_n 3, 1) := by decide +kernel
theorem dX11_words_95 : decode cX11_words 95 = .ok (.istore_n 3, 1) := by decide +kernel
theorem dX11_words_96 : decode cX11_words 96 = .ok (.iinc 4 1, 3) := by decide +kernel
theorem dX11_words_99 : decode cX11_words 99 = .ok (.goto (-73), 3) := by decide +kernel
theorem dX11_words_102 : decode cX11_words 102 = .ok (.iload_n 3, 1) := by decide +kernel
theorem dX11_words_103 : decode cX11_words 103 = .ok (.bipush (-4), 2) := by decide +kernel
theorem dX11_words_105 : decode cX11_words 105 = .ok (.if_icmp .eq 8, 3) := by decide +kernel
theorem dX11_words_108 : decode cX11_words 108 = .ok (.iload_n 2, 1) := by decide +kernel
theorem dX11_words_109 : decode cX11_words 109 = .ok (.iconst 1, 1) := by decide +kernel
theorem dX11_words_110 : decode cX11_words 110 = .ok (.if_icmp .ne 7, 3) := by decide +kernel
theorem dX11_words_113 : decode cX11_words 113 = .ok (.iload_n 3, 1) := by decide +kernel
theorem dX11_words_114 : decode cX11_words 114 = .ok (.goto 7, 3) := by decide +kernel
theorem dX11_words_117 : decode cX11_words 117 = .ok (.iload_n 3, 1) := by decide +kernel
theorem dX11_words_118 : decode cX11_words 118 = .ok (.invokestatic 274, 3) := by decide +kernel
theorem dX11_words_121 : decode cX11_words 121 = .ok (.ireturn, 1) := by decide +kernel
theorem dX11_isAt_0 : decode cX11_isAt 0 = .ok (.aload_n 0, 1) := by decide +kernel
theorem dX11_isAt_1 : decode cX11_isAt 1 = .ok (.iload_n 1, 1) := by decide +kernel
theorem dX11_isAt_2 : decode cX11_isAt 2 = .ok (.iload_n 3, 1) := by decide +kernel
theorem dX11_isAt_3 : decode cX11_isAt 3 = .ok (.invokevirtual 142, 3) := by decide +kernel
theorem dX11_isAt_6 : decode cX11_isAt 6 = .ok (.ifCond .eq 32, 3) := by decide +kernel
theorem dX11_isAt_9 : decode cX11_isAt 9 = .ok (.iload_n 2, 1) := by decide +kernel
theorem dX11_isAt_10 : decode cX11_isAt 10 = .ok (.i2l, 1) := by decide +kernel
theorem dX11_isAt_11 : decode cX11_isAt 11 = .ok (.lconst 1, 1) := by decide +kernel
theorem dX11_isAt_12 : decode cX11_isAt 12 = .ok (.ldc2_w 156, 3) := by decide +kernel
theorem dX11_isAt_15 : decode cX11_isAt 15 = .ok (.invokestatic 64, 3) := by decide +kernel
theorem dX11_isAt_18 : decode cX11_isAt 18 = .ok (.ifCond .eq 20, 3) := by decide +kernel
theorem dX11_isAt_21 : decode cX11_isAt 21 = .ok (.iload 4, 2) := by decide +kernel
theorem dX11_isAt_23 : decode cX11_isAt 23 = .ok (.i2l, 1) := by decide +kernel
theorem dX11_isAt_24 : decode cX11_isAt 24 = .ok (.lconst 1, 1) := by decide +kernel
theorem dX11_isAt_25 : decode cX11_isAt 25 = .ok (.ldc2_w 156, 3) := by decide +kernel
theorem dX11_isAt_28 : decode cX11_isAt 28 = .ok (.invokestatic 64, 3) := by decide +kernel
theorem dX11_isAt_31 : decode cX11_isAt 31 = .ok (.ifCond .eq 7, 3) := by decide +kernel
theorem dX11_isAt_34 : decode cX11_isAt 34 = .ok (.iconst 1, 1) := by decide +kernel
theorem dX11_isAt_35 : decode cX11_isAt 35 = .ok (.goto 4, 3) := by decide +kernel
theorem dX11_isAt_38 : decode cX11_isAt 38 = .ok (.iconst 0, 1) := by decide +kernel
theorem dX11_isAt_39 : decode cX11_isAt 39 = .ok (.ireturn, 1) := by decide +kernel
theorem dX11_at_0 : decode cX11_at 0 = .ok (.aload_n 0, 1) := by decide +kernel
theorem dX11_at_1 : decode cX11_at 1 = .ok (.iload_n 1, 1) := by decide +kernel
theorem dX11_at_2 : decode cX11_at 2 = .ok (.iload_n 2, 1) := by decide +kernel
theorem dX11_at_3 : decode cX11_at 3 = .ok (.iload_n 3, 1) := by decide +kernel
theorem dX11_at_4 : decode cX11_at 4 = .ok (.iload 4, 2) := by decide +kernel
theorem dX11_at_6 : decode cX11_at 6 = .ok (.invokevirtual 283, 3) := by decide +kernel
theorem dX11_at_9 : decode cX11_at 9 = .ok (.ifCond .ne 5, 3) := by decide +kernel
theorem dX11_at_12 : decode cX11_at 12 = .ok (.iconst (-1), 1) := by decide +kernel
theorem dX11_at_13 : decode cX11_at 13 = .ok (.ireturn, 1) := by decide +kernel
theorem dX11_at_14 : decode cX11_at 14 = .ok (.iconst 0, 1) := by decide +kernel
theorem dX11_at_15 : decode cX11_at 15 = .ok (.istore 5, 2) := by decide +kernel
theorem dX11_at_17 : decode cX11_at 17 = .ok (.iconst 0, 1) := by decide +kernel
theorem dX11_at_18 : decode cX11_at 18 = .ok (.istore 6, 2) := by decide +kernel
theorem dX11_at_20 : decode cX11_at 20 = .ok (.iload 6, 2) := by decide +kernel
theorem dX11_at_22 : decode cX11_at 22 = .ok (.aload_n 0, 1) := by decide +kernel
theorem dX11_at_23 : decode cX11_at 23 = .ok (.getfield 7, 3) := by decide +kernel
theorem dX11_at_26 : decode cX11_at 26 = .ok (.bipush 21, 2) := by decide +kernel
theorem dX11_at_28 : decode cX11_at 28 = .ok (.iaload, 1) := by decide +kernel
theorem dX11_at_29 : decode cX11_at 29 = .ok (.if_icmp .ge 49, 3) := by decide +kernel
theorem dX11_at_32 : decode cX11_at 32 = .ok (.iload 5, 2) := by decide +kernel
theorem dX11_at_34 : decode cX11_at 34 = .ok (.aload_n 0, 1) := by decide +kernel
theorem dX11_at_35 : decode cX11_at 35 = .ok (.iload 6, 2) := by decide +kernel
theorem dX11_at_37 : decode cX11_at 37 = .ok (.iload_n 1, 1) := by decide +kernel
theorem dX11_at_38 : decode cX11_at 38 = .ok (.invokevirtual 149, 3) := by decide +kernel
theorem dX11_at_41 : decode cX11_at 41 = .ok (.iload_n 2, 1) := by decide +kernel
theorem dX11_at_42 : decode cX11_at 42 = .ok (.i2l, 1) := by decide +kernel
theorem dX11_at_43 : decode cX11_at 43 = .ok (.lcmp, 1) := by decide +kernel
theorem dX11_at_44 : decode cX11_at 44 = .ok (.ifCond .ne 24, 3) := by decide +kernel
theorem dX11_at_47 : decode cX11_at 47 = .ok (.aload_n 0, 1) := by decide +kernel
theorem dX11_at_48 : decode cX11_at 48 = .ok (.iload 6, 2) := by decide +kernel
theorem dX11_at_50 : decode cX11_at 50 = .ok (.iload_n 3, 1) := by decide +kernel
theorem dX11_at_51 : decode cX11_at 51 = .ok (.invokevirtual 149, 3) := by decide +kernel
theorem dX11_at_54 : decode cX11_at 54 = .ok (.iload 4, 2) := by decide +kernel
theorem dX11_at_56 : decode cX11_at 56 = .ok (.i2l, 1) := by decide +kernel
theorem dX11_at_57 : decode cX11_at 57 = .ok (.lcmp, 1) := by decide +kernel
theorem dX11_at_58 : decode cX11_at 58 = .ok (.ifCond .ne 10, 3) := by decide +kernel
theorem dX11_at_61 : decode cX11_at 61 = .ok (.iconst 1, 1) := by decide +kernel
theorem dX11_at_62 : decode cX11_at 62 = .ok (.iload 6, 2) := by decide +kernel
theorem dX11_at_64 : decode cX11_at 64 = .ok (.ishl, 1) := by decide +kernel
theorem dX11_at_65 : decode cX11_at 65 = .ok (.goto 4, 3) := by decide +kernel
theorem dX11_at_68 : decode cX11_at 68 = .ok (.iconst 0, 1) := by decide +kernel
theorem dX11_at_69 : decode cX11_at 69 = .ok (.ior, 1) := by decide +kernel
theorem dX11_at_70 : decode cX11_at 70 = .ok (.istore 5, 2) := by decide +kernel
theorem dX11_at_72 : decode cX11_at 72 = .ok (.iinc 6 1, 3) := by decide +kernel
theorem dX11_at_75 : decode cX11_at 75 = .ok (.goto (-55), 3) := by decide +kernel
theorem dX11_at_78 : decode cX11_at 78 = .ok (.iload 5, 2) := by decide +kernel
theorem dX11_at_80 : decode cX11_at 80 = .ok (.ireturn, 1) := by decide +kernel
theorem dX11_spots_0 : decode cX11_spots 0 = .ok (.aload_n 0, 1) := by decide +kernel
theorem dX11_spots_1 : decode cX11_spots 1 = .ok (.iload_n 1, 1) := by decide +kernel
theorem dX11_spots_2 : decode cX11_spots 2 = .ok (.iload_n 2, 1) := by decide +kernel
theorem dX11_spots_3 : decode cX11_spots 3 = .ok (.iload_n 3, 1) := by decide +kernel
theorem dX11_spots_4 : decode cX11_spots 4 = .ok (.iload 4, 2) := by decide +kernel
theorem dX11_spots_6 : decode cX11_spots 6 = .ok (.invokevirtual 283, 3) := by decide +kernel
theorem dX11_spots_9 : decode cX11_spots 9 = .ok (.ifCond .ne 5, 3) := by decide +kernel
theorem dX11_spots_12 : decode cX11_spots 12 = .ok (.iconst (-1), 1) := by decide +kernel
theorem dX11_spots_13 : decode cX11_spots 13 = .ok (.ireturn, 1) := by decide +kernel
theorem dX11_spots_14 : decode cX11_spots 14 = .ok (.aload_n 0, 1) := by decide +kernel
theorem dX11_spots_15 : decode cX11_spots 15 = .ok (.iload_n 1, 1) := by decide +kernel
theorem dX11_spots_16 : decode cX11_spots 16 = .ok (.iload_n 3, 1) := by decide +kernel
theorem dX11_spots_17 : decode cX11_spots 17 = .ok (.invokevirtual 149, 3) := by decide +kernel
theorem dX11_spots_20 : decode cX11_spots 20 = .ok (.lconst 0, 1) := by decide +kernel
theorem dX11_spots_21 : decode cX11_spots 21 = .ok (.lcmp, 1) := by decide +kernel
theorem dX11_spots_22 : decode cX11_spots 22 = .ok (.ifCond .ne 8, 3) := by decide +kernel
theorem dX11_spots_25 : decode cX11_spots 25 = .ok (.bipush (-2), 2) := by decide +kernel
theorem dX11_spots_27 : decode cX11_spots 27 = .ok (.goto 22, 3) := by decide +kernel
theorem dX11_spots_30 : decode cX11_spots 30 = .ok (.iconst 1, 1) := by decide +kernel
theorem dX11_spots_31 : decode cX11_spots 31 = .ok (.aload_n 0, 1) := by decide +kernel
theorem dX11_spots_32 : decode cX11_spots 32 = .ok (.iload_n 1, 1) := by decide +kernel
theorem dX11_spots_33 : decode cX11_spots 33 = .ok (.iload_n 3, 1) := by decide +kernel
theorem dX11_spots_34 : decode cX11_spots 34 = .ok (.invokevirtual 149, 3) := by decide +kernel
theorem dX11_spots_37 : decode cX11_spots 37 = .ok (.iload_n 2, 1) := by decide +kernel
theorem dX11_spots_38 : decode cX11_spots 38 = .ok (.i2l, 1) := by decide +kernel
theorem dX11_spots_39 : decode cX11_spots 39 = .ok (.iload 4, 2) := by decide +kernel
theorem dX11_spots_41 : decode cX11_spots 41 = .ok (.i2l, 1) := by decide +kernel
theorem dX11_spots_42 : decode cX11_spots 42 = .ok (.invokestatic 164, 3) := by decide +kernel
theorem dX11_spots_45 : decode cX11_spots 45 = .ok (.invokestatic 212, 3) := by decide +kernel
theorem dX11_spots_48 : decode cX11_spots 48 = .ok (.iadd, 1) := by decide +kernel
theorem dX11_spots_49 : decode cX11_spots 49 = .ok (.ireturn, 1) := by decide +kernel
theorem dX11_isLike_0 : decode cX11_isLike 0 = .ok (.iconst 0, 1) := by decide +kernel
theorem dX11_isLike_1 : decode cX11_isLike 1 = .ok (.istore_n 3, 1) := by decide +kernel
theorem dX11_isLike_2 : decode cX11_isLike 2 = .ok (.iload_n 3, 1) := by decide +kernel
theorem dX11_isLike_3 : decode cX11_isLike 3 = .ok (.iload_n 2, 1) := by decide +kernel
theorem dX11_isLike_4 : decode cX11_isLike 4 = .ok (.if_icmp .ge 61, 3) := by decide +kernel
theorem dX11_isLike_7 : decode cX11_isLike 7 = .ok (.aload_n 0, 1) := by decide +kernel
theorem dX11_isLike_8 : decode cX11_isLike 8 = .ok (.getfield 34, 3) := by decide +kernel
theorem dX11_isLike_11 : decode cX11_isLike 11 = .ok (.iload_n 3, 1) := by decide +kernel
theorem dX11_isLike_12 : decode cX11_isLike 12 = .ok (.iaload, 1) := by decide +kernel
theorem dX11_isLike_13 : decode cX11_isLike 13 = .ok (.aload_n 0, 1) := by decide +kernel
theorem dX11_isLike_14 : decode cX11_isLike 14 = .ok (.getfield 34, 3) := by decide +kernel
theorem dX11_isLike_17 : decode cX11_isLike 17 = .ok (.iload_n 2, 1) := by decide +kernel
theorem dX11_isLike_18 : decode cX11_isLike 18 = .ok (.iaload, 1) := by decide +kernel
theorem dX11_isLike_19 : decode cX11_isLike 19 = .ok (.if_icmp .eq 38, 3) := by decide +kernel
theorem dX11_isLike_22 : decode cX11_isLike 22 = .ok (.aload_n 0, 1) := by decide +kernel
theorem dX11_isLike_23 : decode cX11_isLike 23 = .ok (.getfield 7, 3) := by decide +kernel
theorem dX11_isLike_26 : decode cX11_isLike 26 = .ok (.iload_n 1, 1) := by decide +kernel
theorem dX11_isLike_27 : decode cX11_isLike 27 = .ok (.aload_n 0, 1) := by decide +kernel
theorem dX11_isLike_28 : decode cX11_isLike 28 = .ok (.getfield 34, 3) := by decide +kernel
theorem dX11_isLike_31 : decode cX11_isLike 31 = .ok (.iload_n 3, 1) := by decide +kernel
theorem dX11_isLike_32 : decode cX11_isLike 32 = .ok (.iaload, 1) := by decide +kernel
theorem dX11_isLike_33 : decode cX11_isLike 33 = .ok (.aload_n 0, 1) := by decide +kernel
theorem dX11_isLike_34 : decode cX11_isLike 34 = .ok (.getfield 34, 3) := by decide +kernel
theorem dX11_isLike_37 : decode cX11_isLike 37 = .ok (.iload_n 2, 1) := by decide +kernel
theorem dX11_isLike_38 : decode cX11_isLike 38 = .ok (.iaload, 1) := by decide +kernel
theorem dX11_isLike_39 : decode cX11_isLike 39 = .ok (.invokestatic 113, 3) := by decide +kernel
theorem dX11_isLike_42 : decode cX11_isLike 42 = .ok (.iadd, 1) := by decide +kernel
theorem dX11_isLike_43 : decode cX11_isLike 43 = .ok (.iaload, 1) := by decide +kernel
theorem dX11_isLike_44 : decode cX11_isLike 44 = .ok (.aload_n 0, 1) := by decide +kernel
theorem dX11_isLike_45 : decode cX11_isLike 45 = .ok (.getfield 7, 3) := by decide +kernel
theorem dX11_isLike_48 : decode cX11_isLike 48 = .ok (.iload_n 3, 1) := by decide +kernel
theorem dX11_isLike_49 : decode cX11_isLike 49 = .ok (.iload_n 2, 1) := by decide +kernel
theorem dX11_isLike_50 : decode cX11_isLike 50 = .ok (.invokestatic 113, 3) := by decide +kernel
theorem dX11_isLike_53 : decode cX11_isLike 53 = .ok (.iaload, 1) := by decide +kernel
theorem dX11_isLike_54 : decode cX11_isLike 54 = .ok (.if_icmp .eq 5, 3) := by decide +kernel
theorem dX11_isLike_57 : decode cX11_isLike 57 = .ok (.iconst 0, 1) := by decide +kernel
theorem dX11_isLike_58 : decode cX11_isLike 58 = .ok (.ireturn, 1) := by decide +kernel
theorem dX11_isLike_59 : decode cX11_isLike 59 = .ok (.iinc 3 1, 3) := by decide +kernel
theorem dX11_isLike_62 : decode cX11_isLike 62 = .ok (.goto (-60), 3) := by decide +kernel
theorem dX11_isLike_65 : decode cX11_isLike 65 = .ok (.iconst 1, 1) := by decide +kernel
theorem dX11_isLike_66 : decode cX11_isLike 66 = .ok (.ireturn, 1) := by decide +kernel
theorem dX11_layMaps_0 : decode cX11_layMaps 0 = .ok (.aload_n 0, 1) := by decide +kernel
theorem dX11_layMaps_1 : decode cX11_layMaps 1 = .ok (.getfield 7, 3) := by decide +kernel
theorem dX11_layMaps_4 : decode cX11_layMaps 4 = .ok (.bipush 21, 2) := by decide +kernel
theorem dX11_layMaps_6 : decode cX11_layMaps 6 = .ok (.iaload, 1) := by decide +kernel
theorem dX11_layMaps_7 : decode cX11_layMaps 7 = .ok (.istore_n 2, 1) := by decide +kernel
theorem dX11_layMaps_8 : decode cX11_layMaps 8 = .ok (.iconst 0, 1) := by decide +kernel
theorem dX11_layMaps_9 : decode cX11_layMaps 9 = .ok (.istore_n 3, 1) := by decide +kernel
theorem dX11_layMaps_10 : decode cX11_layMaps 10 = .ok (.iconst 0, 1) := by decide +kernel
theorem dX11_layMaps_11 : decode cX11_layMaps 11 = .ok (.istore 4, 2) := by decide +kernel
theorem dX11_layMaps_13 : decode cX11_layMaps 13 = .ok (.aload_n 0, 1) := by decide +kernel
theorem dX11_layMaps_14 : decode cX11_layMaps 14 = .ok (.getfield 7, 3) := by decide +kernel
theorem dX11_layMaps_17 : decode cX11_layMaps 17 = .ok (.iload_n 1, 1) := by decide +kernel
theorem dX11_layMaps_18 : decode cX11_layMaps 18 = .ok (.bipush 21, 2) := by decide +kernel
theorem dX11_layMaps_20 : decode cX11_layMaps 20 = .ok (.iadd, 1) := by decide +kernel
theorem dX11_layMaps_21 : decode cX11_layMaps 21 = .ok (.iaload, 1) := by decide +kernel
theorem dX11_layMaps_22 : decode cX11_layMaps 22 = .ok (.iload_n 2, 1) := by decide +kernel
theorem dX11_layMaps_23 : decode cX11_layMaps 23 = .ok (.if_icmp .eq 5, 3) := by decide +kernel
theorem dX11_layMaps_26 : decode cX11_layMaps 26 = .ok (.iconst 0, 1) := by decide +kernel
theorem dX11_layMaps_27 : decode cX11_layMaps 27 = .ok (.ireturn, 1) := by decide +kernel
theorem dX11_layMaps_28 : decode cX11_layMaps 28 = .ok (.aload_n 0, 1) := by decide +kernel
theorem dX11_layMaps_29 : decode cX11_layMaps 29 = .ok (.getfield 34, 3) := by decide +kernel
theorem dX11_layMaps_32 : decode cX11_layMaps 32 = .ok (.iconst 0, 1) := by decide +kernel
theorem dX11_layMaps_33 : decode cX11_layMaps 33 = .ok (.iconst (-1), 1) := by decide +kernel
theorem dX11_layMaps_34 : decode cX11_layMaps 34 = .ok (.iastore, 1) := by decide +kernel
theorem dX11_layMaps_35 : decode cX11_layMaps 35 = .ok (.iload 4, 2) := by decide +kernel
theorem dX11_layMaps_37 : decode cX11_layMaps 37 = .ok (.ifCond .lt 102, 3) := by decide +kernel
theorem dX11_layMaps_40 : decode cX11_layMaps 40 = .ok (.aload_n 0, 1) := by decide +kernel
theorem dX11_layMaps_41 : decode cX11_layMaps 41 = .ok (.getfield 34, 3) := by decide +kernel
theorem dX11_layMaps_44 : decode cX11_layMaps 44 = .ok (.iload 4, 2) := by decide +kernel
theorem dX11_layMaps_46 : decode cX11_layMaps 46 = .ok (.dup2, 1) := by decide +kernel
theorem dX11_layMaps_47 : decode cX11_layMaps 47 = .ok (.iaload, 1) := by decide +kernel
theorem dX11_layMaps_48 : decode cX11_layMaps 48 = .ok (.iconst 1, 1) := by decide +kernel
theorem dX11_layMaps_49 : decode cX11_layMaps 49 = .ok (.iadd, 1) := by decide +kernel
theorem dX11_layMaps_50 : decode cX11_layMaps 50 = .ok (.iastore, 1) := by decide +kernel
theorem dX11_layMaps_51 : decode cX11_layMaps 51 = .ok (.aload_n 0, 1) := by decide +kernel
theorem dX11_layMaps_52 : decode cX11_layMaps 52 = .ok (.getfield 34, 3) := by decide +kernel
theorem dX11_layMaps_55 : decode cX11_layMaps 55 = .ok (.iload 4, 2) := by decide +kernel
theorem dX11_layMaps_57 : decode cX11_layMaps 57 = .ok (.iaload, 1) := by decide +kernel
theorem dX11_layMaps_58 : decode cX11_layMaps 58 = .ok (.iload_n 2, 1) := by decide +kernel
theorem dX11_layMaps_59 : decode cX11_layMaps 59 = .ok (.if_icmp .ne 9, 3) := by decide +kernel
theorem dX11_layMaps_62 : decode cX11_layMaps 62 = .ok (.iinc 4 (-1), 3) := by decide +kernel
theorem dX11_layMaps_65 : decode cX11_layMaps 65 = .ok (.goto (-30), 3) := by decide +kernel
theorem dX11_layMaps_68 : decode cX11_layMaps 68 = .ok (.aload_n 0, 1) := by decide +kernel
theorem dX11_layMaps_69 : decode cX11_layMaps 69 = .ok (.iload_n 1, 1) := by decide +kernel
theorem dX11_layMaps_70 : decode cX11_layMaps 70 = .ok (.iload 4, 2) := by decide +kernel
theorem dX11_layMaps_72 : decode cX11_layMaps 72 = .ok (.invokevirtual 286, 3) := by decide +kernel
theorem dX11_layMaps_75 : decode cX11_layMaps 75 = .ok (.ifCond .eq (-40), 3) := by decide +kernel
theorem dX11_layMaps_78 : decode cX11_layMaps 78 = .ok (.iload 4, 2) := by decide +kernel
theorem dX11_layMaps_80 : decode cX11_layMaps 80 = .ok (.iload_n 2, 1) := by decide +kernel
theorem dX11_layMaps_81 : decode cX11_layMaps 81 = .ok (.iconst 1, 1) := by decide +kernel
theorem dX11_layMaps_82 : decode cX11_layMaps 82 = .ok (.isub, 1) := by decide +kernel
theorem dX11_layMaps_83 : decode cX11_layMaps 83 = .ok (.if_icmp .ne 42, 3) := by decide +kernel
theorem dX11_layMaps_86 : decode cX11_layMaps 86 = .ok (.iconst 0, 1) := by decide +kernel
theorem dX11_layMaps_87 : decode cX11_layMaps 87 = .ok (.istore 5, 2) := by decide +kernel
theorem dX11_layMaps_89 : decode cX11_layMaps 89 = .ok (.iload 5, 2) := by decide +kernel
theorem dX11_layMaps_91 : decode cX11_layMaps 91 = .ok (.iload_n 2, 1) := by decide +kernel
theorem dX11_layMaps_92 : decode cX11_layMaps 92 = .ok (.if_icmp .ge 27, 3) := by decide +kernel
theorem dX11_layMaps_95 : decode cX11_layMaps 95 = .ok (.iload_n 3, 1) := by decide +kernel
theorem dX11_layMaps_96 : decode cX11_layMaps 96 = .ok (.ifCond .ne 23, 3) := by decide +kernel
theorem dX11_layMaps_99 : decode cX11_layMaps 99 = .ok (.aload_n 0, 1) := by decide +kernel
theorem dX11_layMaps_100 : decode cX11_layMaps 100 = .ok (.getfield 37, 3) := by decide +kernel
theorem dX11_layMaps_103 : decode cX11_layMaps 103 = .ok (.iload 5, 2) := by decide +kernel
theorem dX11_layMaps_105 : decode cX11_layMaps 105 = .ok (.aload_n 0, 1) := by decide +kernel
theorem dX11_layMaps_106 : decode cX11_layMaps 106 = .ok (.getfield 34, 3) := by decide +kernel
theorem dX11_layMaps_109 : decode cX11_layMaps 109 = .ok (.iload 5, 2) := by decide +kernel
theorem dX11_layMaps_111 : decode cX11_layMaps 111 = .ok (.iaload, 1) := by decide +kernel
theorem dX11_layMaps_112 : decode cX11_layMaps 112 = .ok (.iastore, 1) := by decide +kernel
theorem dX11_layMaps_113 : decode cX11_layMaps 113 = .ok (.iinc 5 1, 3) := by decide +kernel
theorem dX11_layMaps_116 : decode cX11_layMaps 116 = .ok (.goto (-27), 3) := by decide +kernel
theorem dX11_layMaps_119 : decode cX11_layMaps 119 = .ok (.iinc 3 1, 3) := by decide +kernel
theorem dX11_layMaps_122 : decode cX11_layMaps 122 = .ok (.goto (-87), 3) := by decide +kernel
theorem dX11_layMaps_125 : decode cX11_layMaps 125 = .ok (.iinc 4 1, 3) := by decide +kernel
theorem dX11_layMaps_128 : decode cX11_layMaps 128 = .ok (.aload_n 0, 1) := by decide +kernel
theorem dX11_layMaps_129 : decode cX11_layMaps 129 = .ok (.getfield 34, 3) := by decide +kernel
theorem dX11_layMaps_132 : decode cX11_layMaps 132 = .ok (.iload 4, 2) := by decide +kernel
theorem dX11_layMaps_134 : decode cX11_layMaps 134 = .ok (.iconst (-1), 1) := by decide +kernel
theorem dX11_layMaps_135 : decode cX11_layMaps 135 = .ok (.iastore, 1) := by decide +kernel
theorem dX11_layMaps_136 : decode cX11_layMaps 136 = .ok (.goto (-101), 3) := by decide +kernel
theorem dX11_layMaps_139 : decode cX11_layMaps 139 = .ok (.iload_n 3, 1) := by decide +kernel
theorem dX11_layMaps_140 : decode cX11_layMaps 140 = .ok (.ireturn, 1) := by decide +kernel
theorem dX11_maps_0 : decode cX11_maps 0 = .ok (.aload_n 0, 1) := by decide +kernel
theorem dX11_maps_1 : decode cX11_maps 1 = .ok (.invokevirtual 135, 3) := by decide +kernel
theorem dX11_maps_4 : decode cX11_maps 4 = .ok (.iload_n 1, 1) := by decide +kernel
theorem dX11_maps_5 : decode cX11_maps 5 = .ok (.i2l, 1) := by decide +kernel
theorem dX11_maps_6 : decode cX11_maps 6 = .ok (.lconst 0, 1) := by decide +kernel
theorem dX11_maps_7 : decode cX11_maps 7 = .ok (.lconst 1, 1) := by decide +kernel
theorem dX11_maps_8 : decode cX11_maps 8 = .ok (.invokestatic 64, 3) := by decide +kernel
theorem dX11_maps_11 : decode cX11_maps 11 = .ok (.ifCond .eq 29, 3) := by decide +kernel
theorem dX11_maps_14 : decode cX11_maps 14 = .ok (.iload_n 2, 1) := by decide +kernel
theorem dX11_maps_15 : decode cX11_maps 15 = .ok (.ifCond .eq 27, 3) := by decide +kernel
theorem dX11_maps_18 : decode cX11_maps 18 = .ok (.iload_n 2, 1) := by decide +kernel
theorem dX11_maps_19 : decode cX11_maps 19 = .ok (.i2l, 1) := by decide +kernel
theorem dX11_maps_20 : decode cX11_maps 20 = .ok (.ldc2_w 265, 3) := by decide +kernel
theorem dX11_maps_23 : decode cX11_maps 23 = .ok (.bipush 9, 2) := by decide +kernel
theorem dX11_maps_25 : decode cX11_maps 25 = .ok (.aload_n 0, 1) := by decide +kernel
theorem dX11_maps_26 : decode cX11_maps 26 = .ok (.getfield 7, 3) := by decide +kernel
theorem dX11_maps_29 : decode cX11_maps 29 = .ok (.bipush 21, 2) := by decide +kernel
theorem dX11_maps_31 : decode cX11_maps 31 = .ok (.iaload, 1) := by decide +kernel
theorem dX11_maps_32 : decode cX11_maps 32 = .ok (.iadd, 1) := by decide +kernel
theorem dX11_maps_33 : decode cX11_maps 33 = .ok (.i2l, 1) := by decide +kernel
theorem dX11_maps_34 : decode cX11_maps 34 = .ok (.invokestatic 64, 3) := by decide +kernel
theorem dX11_maps_37 : decode cX11_maps 37 = .ok (.ifCond .ne 5, 3) := by decide +kernel
theorem dX11_maps_40 : decode cX11_maps 40 = .ok (.iconst (-1), 1) := by decide +kernel
theorem dX11_maps_41 : decode cX11_maps 41 = .ok (.ireturn, 1) := by decide +kernel
theorem dX11_maps_42 : decode cX11_maps 42 = .ok (.aload_n 0, 1) := by decide +kernel
theorem dX11_maps_43 : decode cX11_maps 43 = .ok (.getfield 40, 3) := by decide +kernel
theorem dX11_maps_46 : decode cX11_maps 46 = .ok (.iload_n 1, 1) := by decide +kernel
theorem dX11_maps_47 : decode cX11_maps 47 = .ok (.baload, 1) := by decide +kernel
theorem dX11_maps_48 : decode cX11_maps 48 = .ok (.ifCond .ne 6, 3) := by decide +kernel
theorem dX11_maps_51 : decode cX11_maps 51 = .ok (.bipush (-2), 2) := by decide +kernel
theorem dX11_maps_53 : decode cX11_maps 53 = .ok (.ireturn, 1) := by decide +kernel
theorem dX11_maps_54 : decode cX11_maps 54 = .ok (.aload_n 0, 1) := by decide +kernel
theorem dX11_maps_55 : decode cX11_maps 55 = .ok (.bipush 32, 2) := by decide +kernel
theorem dX11_maps_57 : decode cX11_maps 57 = .ok (.iload_n 1, 1) := by decide +kernel
theorem dX11_maps_58 : decode cX11_maps 58 = .ok (.iconst 1, 1) := by decide +kernel
theorem dX11_maps_59 : decode cX11_maps 59 = .ok (.iadd, 1) := by decide +kernel
theorem dX11_maps_60 : decode cX11_maps 60 = .ok (.imul, 1) := by decide +kernel
theorem dX11_maps_61 : decode cX11_maps 61 = .ok (.invokevirtual 289, 3) := by decide +kernel
theorem dX11_maps_64 : decode cX11_maps 64 = .ok (.istore_n 3, 1) := by decide +kernel
theorem dX11_maps_65 : decode cX11_maps 65 = .ok (.iload_n 2, 1) := by decide +kernel
theorem dX11_maps_66 : decode cX11_maps 66 = .ok (.ifCond .ne 7, 3) := by decide +kernel
theorem dX11_maps_69 : decode cX11_maps 69 = .ok (.iload_n 3, 1) := by decide +kernel
theorem dX11_maps_70 : decode cX11_maps 70 = .ok (.goto 21, 3) := by decide +kernel
theorem dX11_maps_73 : decode cX11_maps 73 = .ok (.iload_n 3, 1) := by decide +kernel
theorem dX11_maps_74 : decode cX11_maps 74 = .ok (.ifCond .ne 8, 3) := by decide +kernel
theorem dX11_maps_77 : decode cX11_maps 77 = .ok (.bipush (-4), 2) := by decide +kernel
theorem dX11_maps_79 : decode cX11_maps 79 = .ok (.goto 12, 3) := by decide +kernel
theorem dX11_maps_82 : decode cX11_maps 82 = .ok (.aload_n 0, 1) := by decide +kernel
theorem dX11_maps_83 : decode cX11_maps 83 = .ok (.getfield 37, 3) := by decide +kernel
theorem dX11_maps_86 : decode cX11_maps 86 = .ok (.iload_n 2, 1) := by decide +kernel
theorem dX11_maps_87 : decode cX11_maps 87 = .ok (.bipush 10, 2) := by decide +kernel
theorem dX11_maps_89 : decode cX11_maps 89 = .ok (.isub, 1) := by decide +kernel
theorem dX11_maps_90 : decode cX11_maps 90 = .ok (.iaload, 1) := by decide +kernel
theorem dX11_maps_91 : decode cX11_maps 91 = .ok (.ireturn, 1) := by decide +kernel
theorem dX11_part_0 : decode cX11_part 0 = .ok (.iload_n 1, 1) := by decide +kernel
theorem dX11_part_1 : decode cX11_part 1 = .ok (.i2l, 1) := by decide +kernel
theorem dX11_part_2 : decode cX11_part 2 = .ok (.lconst 1, 1) := by decide +kernel
theorem dX11_part_3 : decode cX11_part 3 = .ok (.ldc2_w 292, 3) := by decide +kernel
theorem dX11_part_6 : decode cX11_part 6 = .ok (.invokestatic 64, 3) := by decide +kernel
theorem dX11_part_9 : decode cX11_part 9 = .ok (.ifCond .ne 5, 3) := by decide +kernel
theorem dX11_part_12 : decode cX11_part 12 = .ok (.iconst (-1), 1) := by decide +kernel
theorem dX11_part_13 : decode cX11_part 13 = .ok (.ireturn, 1) := by decide +kernel
theorem dX11_part_14 : decode cX11_part 14 = .ok (.aload_n 0, 1) := by decide +kernel
theorem dX11_part_15 : decode cX11_part 15 = .ok (.getfield 7, 3) := by decide +kernel
theorem dX11_part_18 : decode cX11_part 18 = .ok (.bipush 30, 2) := by decide +kernel
theorem dX11_part_20 : decode cX11_part 20 = .ok (.iaload, 1) := by decide +kernel
theorem dX11_part_21 : decode cX11_part 21 = .ok (.bipush 8, 2) := by decide +kernel
theorem dX11_part_23 : decode cX11_part 23 = .ok (.if_icmp .ne 6, 3) := by decide +kernel
theorem dX11_part_26 : decode cX11_part 26 = .ok (.bipush (-3), 2) := by decide +kernel
theorem dX11_part_28 : decode cX11_part 28 = .ok (.ireturn, 1) := by decide +kernel
theorem dX11_part_29 : decode cX11_part 29 = .ok (.aload_n 0, 1) := by decide +kernel
theorem dX11_part_30 : decode cX11_part 30 = .ok (.getfield 7, 3) := by decide +kernel
theorem dX11_part_33 : decode cX11_part 33 = .ok (.bipush 22, 2) := by decide +kernel
theorem dX11_part_35 : decode cX11_part 35 = .ok (.aload_n 0, 1) := by decide +kernel
theorem dX11_part_36 : decode cX11_part 36 = .ok (.getfield 7, 3) := by decide +kernel
theorem dX11_part_39 : decode cX11_part 39 = .ok (.bipush 30, 2) := by decide +kernel
theorem dX11_part_41 : decode cX11_part 41 = .ok (.iaload, 1) := by decide +kernel
theorem dX11_part_42 : decode cX11_part 42 = .ok (.iadd, 1) := by decide +kernel
theorem dX11_part_43 : decode cX11_part 43 = .ok (.iload_n 1, 1) := by decide +kernel
theorem dX11_part_44 : decode cX11_part 44 = .ok (.iastore, 1) := by decide +kernel
theorem dX11_part_45 : decode cX11_part 45 = .ok (.aload_n 0, 1) := by decide +kernel
theorem dX11_part_46 : decode cX11_part 46 = .ok (.getfield 7, 3) := by decide +kernel
theorem dX11_part_49 : decode cX11_part 49 = .ok (.bipush 30, 2) := by decide +kernel
theorem dX11_part_51 : decode cX11_part 51 = .ok (.dup2, 1) := by decide +kernel
theorem dX11_part_52 : decode cX11_part 52 = .ok (.iaload, 1) := by decide +kernel
theorem dX11_part_53 : decode cX11_part 53 = .ok (.iconst 1, 1) := by decide +kernel
theorem dX11_part_54 : decode cX11_part 54 = .ok (.iadd, 1) := by decide +kernel
theorem dX11_part_55 : decode cX11_part 55 = .ok (.iastore, 1) := by decide +kernel
theorem dX11_part_56 : decode cX11_part 56 = .ok (.aload_n 0, 1) := by decide +kernel
theorem dX11_part_57 : decode cX11_part 57 = .ok (.getfield 7, 3) := by decide +kernel
theorem dX11_part_60 : decode cX11_part 60 = .ok (.bipush 30, 2) := by decide +kernel
theorem dX11_part_62 : decode cX11_part 62 = .ok (.iaload, 1) := by decide +kernel
theorem dX11_part_63 : decode cX11_part 63 = .ok (.ireturn, 1) := by decide +kernel
theorem dX11_clear_0 : decode cX11_clear 0 = .ok (.aload_n 0, 1) := by decide +kernel
theorem dX11_clear_1 : decode cX11_clear 1 = .ok (.getfield 7, 3) := by decide +kernel
theorem dX11_clear_4 : decode cX11_clear 4 = .ok (.bipush 30, 2) := by decide +kernel
theorem dX11_clear_6 : decode cX11_clear 6 = .ok (.iaload, 1) := by decide +kernel
theorem dX11_clear_7 : decode cX11_clear 7 = .ok (.istore_n 1, 1) := by decide +kernel
theorem dX11_clear_8 : decode cX11_clear 8 = .ok (.aload_n 0, 1) := by decide +kernel
theorem dX11_clear_9 : decode cX11_clear 9 = .ok (.getfield 7, 3) := by decide +kernel
theorem dX11_clear_12 : decode cX11_clear 12 = .ok (.bipush 30, 2) := by decide +kernel
theorem dX11_clear_14 : decode cX11_clear 14 = .ok (.iconst 0, 1) := by decide +kernel
theorem dX11_clear_15 : decode cX11_clear 15 = .ok (.iastore, 1) := by decide +kernel
theorem dX11_clear_16 : decode cX11_clear 16 = .ok (.iload_n 1, 1) := by decide +kernel
theorem dX11_clear_17 : decode cX11_clear 17 = .ok (.ireturn, 1) := by decide +kernel
theorem dX11_nearest_0 : decode cX11_nearest 0 = .ok (.iconst 0, 1) := by decide +kernel
theorem dX11_nearest_1 : decode cX11_nearest 1 = .ok (.istore_n 1, 1) := by decide +kernel
theorem dX11_nearest_2 : decode cX11_nearest 2 = .ok (.iconst 0, 1) := by decide +kernel
theorem dX11_nearest_3 : decode cX11_nearest 3 = .ok (.istore_n 2, 1) := by decide +kernel
theorem dX11_nearest_4 : decode cX11_nearest 4 = .ok (.iload_n 2, 1) := by decide +kernel
theorem dX11_nearest_5 : decode cX11_nearest 5 = .ok (.aload_n 0, 1) := by decide +kernel
theorem dX11_nearest_6 : decode cX11_nearest 6 = .ok (.getfield 7, 3) := by decide +kernel
theorem dX11_nearest_9 : decode cX11_nearest 9 = .ok (.bipush 30, 2) := by decide +kernel
theorem dX11_nearest_11 : decode cX11_nearest 11 = .ok (.iaload, 1) := by decide +kernel
theorem dX11_nearest_12 : decode cX11_nearest 12 = .ok (.if_icmp .ge 36, 3) := by decide +kernel
theorem dX11_nearest_15 : decode cX11_nearest 15 = .ok (.aload_n 0, 1) := by decide +kernel
theorem dX11_nearest_16 : decode cX11_nearest 16 = .ok (.getfield 7, 3) := by decide +kernel
theorem dX11_nearest_19 : decode cX11_nearest 19 = .ok (.bipush 22, 2) := by decide +kernel
theorem dX11_nearest_21 : decode cX11_nearest 21 = .ok (.iload_n 2, 1) := by decide +kernel
theorem dX11_nearest_22 : decode cX11_nearest 22 = .ok (.iadd, 1) := by decide +kernel
theorem dX11_nearest_23 : decode cX11_nearest 23 = .ok (.iaload, 1) := by decide +kernel
theorem dX11_nearest_24 : decode cX11_nearest 24 = .ok (.iload_n 1, 1) := by decide +kernel
theorem dX11_nearest_25 : decode cX11_nearest 25 = .ok (.if_icmp .le 15, 3) := by decide +kernel
theorem dX11_nearest_28 : decode cX11_nearest 28 = .ok (.aload_n 0, 1) := by decide +kernel
theorem dX11_nearest_29 : decode cX11_nearest 29 = .ok (.getfield 7, 3) := by decide +kernel
theorem dX11_nearest_32 : decode cX11_nearest 32 = .ok (.bipush 22, 2) := by decide +kernel
theorem dX11_nearest_34 : decode cX11_nearest 34 = .ok (.iload_n 2, 1) := by decide +kernel
theorem dX11_nearest_35 : decode cX11_nearest 35 = .ok (.iadd, 1) := by decide +kernel
theorem dX11_nearest_36 : decode cX11_nearest 36 = .ok (.iaload, 1) := by decide +kernel
theorem dX11_nearest_37 : decode cX11_nearest 37 = .ok (.goto 4, 3) := by decide +kernel
theorem dX11_nearest_40 : decode cX11_nearest 40 = .ok (.iload_n 1, 1) := by decide +kernel
theorem dX11_nearest_41 : decode cX11_nearest 41 = .ok (.istore_n 1, 1) := by decide +kernel
theorem dX11_nearest_42 : decode cX11_nearest 42 = .ok (.iinc 2 1, 3) := by decide +kernel
theorem dX11_nearest_45 : decode cX11_nearest 45 = .ok (.goto (-41), 3) := by decide +kernel
theorem dX11_nearest_48 : decode cX11_nearest 48 = .ok (.iconst 2, 1) := by decide +kernel
theorem dX11_nearest_49 : decode cX11_nearest 49 = .ok (.iload_n 1, 1) := by decide +kernel
theorem dX11_nearest_50 : decode cX11_nearest 50 = .ok (.imul, 1) := by decide +kernel
theorem dX11_nearest_51 : decode cX11_nearest 51 = .ok (.aload_n 0, 1) := by decide +kernel
theorem dX11_nearest_52 : decode cX11_nearest 52 = .ok (.invokevirtual 294, 3) := by decide +kernel
theorem dX11_nearest_55 : decode cX11_nearest 55 = .ok (.if_icmp .le 14, 3) := by decide +kernel
theorem dX11_nearest_58 : decode cX11_nearest 58 = .ok (.iconst 2, 1) := by decide +kernel
theorem dX11_nearest_59 : decode cX11_nearest 59 = .ok (.iload_n 1, 1) := by decide +kernel
theorem dX11_nearest_60 : decode cX11_nearest 60 = .ok (.imul, 1) := by decide +kernel
theorem dX11_nearest_61 : decode cX11_nearest 61 = .ok (.aload_n 0, 1) := by decide +kernel
theorem dX11_nearest_62 : decode cX11_nearest 62 = .ok (.invokevirtual 294, 3) := by decide +kernel
theorem dX11_nearest_65 : decode cX11_nearest 65 = .ok (.isub, 1) := by decide +kernel
theorem dX11_nearest_66 : decode cX11_nearest 66 = .ok (.goto 4, 3) := by decide +kernel
theorem dX11_nearest_69 : decode cX11_nearest 69 = .ok (.iconst 0, 1) := by decide +kernel
theorem dX11_nearest_70 : decode cX11_nearest 70 = .ok (.ireturn, 1) := by decide +kernel
theorem dX11_farthest_0 : decode cX11_farthest 0 = .ok (.iconst 0, 1) := by decide +kernel
theorem dX11_farthest_1 : decode cX11_farthest 1 = .ok (.istore_n 1, 1) := by decide +kernel
theorem dX11_farthest_2 : decode cX11_farthest 2 = .ok (.iconst 0, 1) := by decide +kernel
theorem dX11_farthest_3 : decode cX11_farthest 3 = .ok (.istore_n 2, 1) := by decide +kernel
theorem dX11_farthest_4 : decode cX11_farthest 4 = .ok (.iload_n 2, 1) := by decide +kernel
theorem dX11_farthest_5 : decode cX11_farthest 5 = .ok (.aload_n 0, 1) := by decide +kernel
theorem dX11_farthest_6 : decode cX11_farthest 6 = .ok (.getfield 7, 3) := by decide +kernel
theorem dX11_farthest_9 : decode cX11_farthest 9 = .ok (.bipush 30, 2) := by decide +kernel
theorem dX11_farthest_11 : decode cX11_farthest 11 = .ok (.iaload, 1) := by decide +kernel
theorem dX11_farthest_12 : decode cX11_farthest 12 = .ok (.if_icmp .ge 21, 3) := by decide +kernel
theorem dX11_farthest_15 : decode cX11_farthest 15 = .ok (.iload_n 1, 1) := by decide +kernel
theorem dX11_farthest_16 : decode cX11_farthest 16 = .ok (.aload_n 0, 1) := by decide +kernel
theorem dX11_farthest_17 : decode cX11_farthest 17 = .ok (.getfield 7, 3) := by decide +kernel
theorem dX11_farthest_20 : decode cX11_farthest 20 = .ok (.bipush 22, 2) := by decide +kernel
theorem dX11_farthest_22 : decode cX11_farthest 22 = .ok (.iload_n 2, 1) := by decide +kernel
theorem dX11_farthest_23 : decode cX11_farthest 23 = .ok (.iadd, 1) := by decide +kernel
theorem dX11_farthest_24 : decode cX11_farthest 24 = .ok (.iaload, 1) := by decide +kernel
theorem dX11_farthest_25 : decode cX11_farthest 25 = .ok (.iadd, 1) := by decide +kernel
theorem dX11_farthest_26 : decode cX11_farthest 26 = .ok (.istore_n 1, 1) := by decide +kernel
theorem dX11_farthest_27 : decode cX11_farthest 27 = .ok (.iinc 2 1, 3) := by decide +kernel
theorem dX11_farthest_30 : decode cX11_farthest 30 = .ok (.goto (-26), 3) := by decide +kernel
theorem dX11_farthest_33 : decode cX11_farthest 33 = .ok (.iload_n 1, 1) := by decide +kernel
theorem dX11_farthest_34 : decode cX11_farthest 34 = .ok (.ireturn, 1) := by decide +kernel
theorem dX11_road_0 : decode cX11_road 0 = .ok (.iload_n 1, 1) := by decide +kernel
theorem dX11_road_1 : decode cX11_road 1 = .ok (.i2l, 1) := by decide +kernel
theorem dX11_road_2 : decode cX11_road 2 = .ok (.lconst 0, 1) := by decide +kernel
theorem dX11_road_3 : decode cX11_road 3 = .ok (.lconst 1, 1) := by decide +kernel
theorem dX11_road_4 : decode cX11_road 4 = .ok (.invokestatic 64, 3) := by decide +kernel
theorem dX11_road_7 : decode cX11_road 7 = .ok (.ifCond .ne 5, 3) := by decide +kernel
theorem dX11_road_10 : decode cX11_road 10 = .ok (.iconst (-1), 1) := by decide +kernel
theorem dX11_road_11 : decode cX11_road 11 = .ok (.ireturn, 1) := by decide +kernel
theorem dX11_road_12 : decode cX11_road 12 = .ok (.aload_n 0, 1) := by decide +kernel
theorem dX11_road_13 : decode cX11_road 13 = .ok (.getfield 7, 3) := by decide +kernel
theorem dX11_road_16 : decode cX11_road 16 = .ok (.bipush 30, 2) := by decide +kernel
theorem dX11_road_18 : decode cX11_road 18 = .ok (.iaload, 1) := by decide +kernel
theorem dX11_road_19 : decode cX11_road 19 = .ok (.ifCond .ne 8, 3) := by decide +kernel
theorem dX11_road_22 : decode cX11_road 22 = .ok (.bipush (-2), 2) := by decide +kernel
theorem dX11_road_24 : decode cX11_road 24 = .ok (.goto 18, 3) := by decide +kernel
theorem dX11_road_27 : decode cX11_road 27 = .ok (.iload_n 1, 1) := by decide +kernel
theorem dX11_road_28 : decode cX11_road 28 = .ok (.ifCond .ne 10, 3) := by decide +kernel
theorem dX11_road_31 : decode cX11_road 31 = .ok (.aload_n 0, 1) := by decide +kernel
theorem dX11_road_32 : decode cX11_road 32 = .ok (.invokevirtual 297, 3) := by decide +kernel
theorem dX11_road_35 : decode cX11_road 35 = .ok (.goto 7, 3) := by decide +kernel
theorem dX11_road_38 : decode cX11_road 38 = .ok (.aload_n 0, 1) := by decide +kernel
theorem dX11_road_39 : decode cX11_road 39 = .ok (.invokevirtual 294, 3) := by decide +kernel
theorem dX11_road_42 : decode cX11_road 42 = .ok (.ireturn, 1) := by decide +kernel
theorem dX11_reaches_0 : decode cX11_reaches 0 = .ok (.aload_n 0, 1) := by decide +kernel
theorem dX11_reaches_1 : decode cX11_reaches 1 = .ok (.iload_n 1, 1) := by decide +kernel
theorem dX11_reaches_2 : decode cX11_reaches 2 = .ok (.iload_n 2, 1) := by decide +kernel
theorem dX11_reaches_3 : decode cX11_reaches 3 = .ok (.invokevirtual 142, 3) := by decide +kernel
theorem dX11_reaches_6 : decode cX11_reaches 6 = .ok (.ifCond .ne 5, 3) := by decide +kernel
theorem dX11_reaches_9 : decode cX11_reaches 9 = .ok (.iconst (-1), 1) := by decide +kernel
theorem dX11_reaches_10 : decode cX11_reaches 10 = .ok (.ireturn, 1) := by decide +kernel
theorem dX11_reaches_11 : decode cX11_reaches 11 = .ok (.aload_n 0, 1) := by decide +kernel
theorem dX11_reaches_12 : decode cX11_reaches 12 = .ok (.getfield 7, 3) := by decide +kernel
theorem dX11_reaches_15 : decode cX11_reaches 15 = .ok (.bipush 30, 2) := by decide +kernel
theorem dX11_reaches_17 : decode cX11_reaches 17 = .ok (.iaload, 1) := by decide +kernel
theorem dX11_reaches_18 : decode cX11_reaches 18 = .ok (.ifCond .ne 6, 3) := by decide +kernel
theorem dX11_reaches_21 : decode cX11_reaches 21 = .ok (.bipush (-2), 2) := by decide +kernel
theorem dX11_reaches_23 : decode cX11_reaches 23 = .ok (.ireturn, 1) := by decide +kernel
theorem dX11_reaches_24 : decode cX11_reaches 24 = .ok (.aload_n 0, 1) := by decide +kernel
theorem dX11_reaches_25 : decode cX11_reaches 25 = .ok (.iload_n 1, 1) := by decide +kernel
theorem dX11_reaches_26 : decode cX11_reaches 26 = .ok (.iload_n 2, 1) := by decide +kernel
theorem dX11_reaches_27 : decode cX11_reaches 27 = .ok (.invokevirtual 149, 3) := by decide +kernel
theorem dX11_reaches_30 : decode cX11_reaches 30 = .ok (.lconst 0, 1) := by decide +kernel
theorem dX11_reaches_31 : decode cX11_reaches 31 = .ok (.lcmp, 1) := by decide +kernel
theorem dX11_reaches_32 : decode cX11_reaches 32 = .ok (.ifCond .ne 8, 3) := by decide +kernel
theorem dX11_reaches_35 : decode cX11_reaches 35 = .ok (.bipush (-4), 2) := by decide +kernel
theorem dX11_reaches_37 : decode cX11_reaches 37 = .ok (.goto 40, 3) := by decide +kernel
theorem dX11_reaches_40 : decode cX11_reaches 40 = .ok (.aload_n 0, 1) := by decide +kernel
theorem dX11_reaches_41 : decode cX11_reaches 41 = .ok (.iload_n 1, 1) := by decide +kernel
theorem dX11_reaches_42 : decode cX11_reaches 42 = .ok (.iload_n 2, 1) := by decide +kernel
theorem dX11_reaches_43 : decode cX11_reaches 43 = .ok (.invokevirtual 149, 3) := by decide +kernel
theorem dX11_reaches_46 : decode cX11_reaches 46 = .ok (.aload_n 0, 1) := by decide +kernel
theorem dX11_reaches_47 : decode cX11_reaches 47 = .ok (.invokevirtual 297, 3) := by decide +kernel
theorem dX11_reaches_50 : decode cX11_reaches 50 = .ok (.aload_n 0, 1) := by decide +kernel
theorem dX11_reaches_51 : decode cX11_reaches 51 = .ok (.invokevirtual 297, 3) := by decide +kernel
theorem dX11_reaches_54 : decode cX11_reaches 54 = .ok (.imul, 1) := by decide +kernel
theorem dX11_reaches_55 : decode cX11_reaches 55 = .ok (.i2l, 1) := by decide +kernel
theorem dX11_reaches_56 : decode cX11_reaches 56 = .ok (.aload_n 0, 1) := by decide +kernel
theorem dX11_reaches_57 : decode cX11_reaches 57 = .ok (.invokevirtual 294, 3) := by decide +kernel
theorem dX11_reaches_60 : decode cX11_reaches 60 = .ok (.aload_n 0, 1) := by decide +kernel
theorem dX11_reaches_61 : decode cX11_reaches 61 = .ok (.invokevirtual 294, 3) := by decide +kernel
theorem dX11_reaches_64 : decode cX11_reaches 64 = .ok (.imul, 1) := by decide +kernel
theorem dX11_reaches_65 : decode cX11_reaches 65 = .ok (.i2l, 1) := by decide +kernel
theorem dX11_reaches_66 : decode cX11_reaches 66 = .ok (.invokestatic 64, 3) := by decide +kernel
theorem dX11_reaches_69 : decode cX11_reaches 69 = .ok (.ifCond .eq 7, 3) := by decide +kernel
theorem dX11_reaches_72 : decode cX11_reaches 72 = .ok (.iconst 1, 1) := by decide +kernel
theorem dX11_reaches_73 : decode cX11_reaches 73 = .ok (.goto 4, 3) := by decide +kernel
theorem dX11_reaches_76 : decode cX11_reaches 76 = .ok (.iconst 0, 1) := by decide +kernel
theorem dX11_reaches_77 : decode cX11_reaches 77 = .ok (.ireturn, 1) := by decide +kernel
theorem dX11_lengthMany_0 : decode cX11_lengthMany 0 = .ok (.iconst 0, 1) := by decide +kernel
theorem dX11_lengthMany_1 : decode cX11_lengthMany 1 = .ok (.istore_n 1, 1) := by decide +kernel
theorem dX11_lengthMany_2 : decode cX11_lengthMany 2 = .ok (.iconst 0, 1) := by decide +kernel
theorem dX11_lengthMany_3 : decode cX11_lengthMany 3 = .ok (.istore_n 2, 1) := by decide +kernel
theorem dX11_lengthMany_4 : decode cX11_lengthMany 4 = .ok (.iload_n 2, 1) := by decide +kernel
theorem dX11_lengthMany_5 : decode cX11_lengthMany 5 = .ok (.bipush 21, 2) := by decide +kernel
theorem dX11_lengthMany_7 : decode cX11_lengthMany 7 = .ok (.if_icmp .ge 26, 3) := by decide +kernel
theorem dX11_lengthMany_10 : decode cX11_lengthMany 10 = .ok (.iload_n 1, 1) := by decide +kernel
theorem dX11_lengthMany_11 : decode cX11_lengthMany 11 = .ok (.aload_n 0, 1) := by decide +kernel
theorem dX11_lengthMany_12 : decode cX11_lengthMany 12 = .ok (.getfield 7, 3) := by decide +kernel
theorem dX11_lengthMany_15 : decode cX11_lengthMany 15 = .ok (.iload_n 2, 1) := by decide +kernel
theorem dX11_lengthMany_16 : decode cX11_lengthMany 16 = .ok (.iaload, 1) := by decide +kernel
theorem dX11_lengthMany_17 : decode cX11_lengthMany 17 = .ok (.ifCond .le 7, 3) := by decide +kernel
theorem dX11_lengthMany_20 : decode cX11_lengthMany 20 = .ok (.iconst 1, 1) := by decide +kernel
theorem dX11_lengthMany_21 : decode cX11_lengthMany 21 = .ok (.goto 4, 3) := by decide +kernel
theorem dX11_lengthMany_24 : decode cX11_lengthMany 24 = .ok (.iconst 0, 1) := by decide +kernel
theorem dX11_lengthMany_25 : decode cX11_lengthMany 25 = .ok (.iadd, 1) := by decide +kernel
theorem dX11_lengthMany_26 : decode cX11_lengthMany 26 = .ok (.istore_n 1, 1) := by decide +kernel
theorem dX11_lengthMany_27 : decode cX11_lengthMany 27 = .ok (.iinc 2 1, 3) := by decide +kernel
theorem dX11_lengthMany_30 : decode cX11_lengthMany 30 = .ok (.goto (-26), 3) := by decide +kernel
theorem dX11_lengthMany_33 : decode cX11_lengthMany 33 = .ok (.iload_n 1, 1) := by decide +kernel
theorem dX11_lengthMany_34 : decode cX11_lengthMany 34 = .ok (.ireturn, 1) := by decide +kernel
theorem dX11_keep_0 : decode cX11_keep 0 = .ok (.aload_n 0, 1) := by decide +kernel
theorem dX11_keep_1 : decode cX11_keep 1 = .ok (.invokevirtual 135, 3) := by decide +kernel
theorem dX11_keep_4 : decode cX11_keep 4 = .ok (.iload_n 1, 1) := by decide +kernel
theorem dX11_keep_5 : decode cX11_keep 5 = .ok (.i2l, 1) := by decide +kernel
theorem dX11_keep_6 : decode cX11_keep 6 = .ok (.lconst 0, 1) := by decide +kernel
theorem dX11_keep_7 : decode cX11_keep 7 = .ok (.lconst 1, 1) := by decide +kernel
theorem dX11_keep_8 : decode cX11_keep 8 = .ok (.invokestatic 64, 3) := by decide +kernel
theorem dX11_keep_11 : decode cX11_keep 11 = .ok (.ifCond .ne 5, 3) := by decide +kernel
theorem dX11_keep_14 : decode cX11_keep 14 = .ok (.iconst (-1), 1) := by decide +kernel
theorem dX11_keep_15 : decode cX11_keep 15 = .ok (.ireturn, 1) := by decide +kernel
theorem dX11_keep_16 : decode cX11_keep 16 = .ok (.iconst 0, 1) := by decide +kernel
theorem dX11_keep_17 : decode cX11_keep 17 = .ok (.istore_n 2, 1) := by decide +kernel
theorem dX11_keep_18 : decode cX11_keep 18 = .ok (.iload_n 2, 1) := by decide +kernel
theorem dX11_keep_19 : decode cX11_keep 19 = .ok (.bipush 32, 2) := by decide +kernel
theorem dX11_keep_21 : decode cX11_keep 21 = .ok (.if_icmp .ge 28, 3) := by decide +kernel
theorem dX11_keep_24 : decode cX11_keep 24 = .ok (.aload_n 0, 1) := by decide +kernel
theorem dX11_keep_25 : decode cX11_keep 25 = .ok (.getfield 7, 3) := by decide +kernel
theorem dX11_keep_28 : decode cX11_keep 28 = .ok (.bipush 32, 2) := by decide +kernel
theorem dX11_keep_30 : decode cX11_keep 30 = .ok (.iload_n 1, 1) := by decide +kernel
theorem dX11_keep_31 : decode cX11_keep 31 = .ok (.iconst 1, 1) := by decide +kernel
theorem dX11_keep_32 : decode cX11_keep 32 = .ok (.iadd, 1) := by decide +kernel
theorem dX11_keep_33 : decode cX11_keep 33 = .ok (.imul, 1) := by decide +kernel
theorem dX11_keep_34 : decode cX11_keep 34 = .ok (.iload_n 2, 1) := by decide +kernel
theorem dX11_keep_35 : decode cX11_keep 35 = .ok (.iadd, 1) := by decide +kernel
theorem dX11_keep_36 : decode cX11_keep 36 = .ok (.aload_n 0, 1) := by decide +kernel
theorem dX11_keep_37 : decode cX11_keep 37 = .ok (.getfield 7, 3) := by decide +kernel
theorem dX11_keep_40 : decode cX11_keep 40 = .ok (.iload_n 2, 1) := by decide +kernel
theorem dX11_keep_41 : decode cX11_keep 41 = .ok (.iaload, 1) := by decide +kernel
theorem dX11_keep_42 : decode cX11_keep 42 = .ok (.iastore, 1) := by decide +kernel
theorem dX11_keep_43 : decode cX11_keep 43 = .ok (.iinc 2 1, 3) := by decide +kernel
theorem dX11_keep_46 : decode cX11_keep 46 = .ok (.goto (-28), 3) := by decide +kernel
theorem dX11_keep_49 : decode cX11_keep 49 = .ok (.aload_n 0, 1) := by decide +kernel
theorem dX11_keep_50 : decode cX11_keep 50 = .ok (.getfield 40, 3) := by decide +kernel
theorem dX11_keep_53 : decode cX11_keep 53 = .ok (.iload_n 1, 1) := by decide +kernel
theorem dX11_keep_54 : decode cX11_keep 54 = .ok (.baload, 1) := by decide +kernel
theorem dX11_keep_55 : decode cX11_keep 55 = .ok (.ifCond .eq 7, 3) := by decide +kernel
theorem dX11_keep_58 : decode cX11_keep 58 = .ok (.iconst 1, 1) := by decide +kernel
theorem dX11_keep_59 : decode cX11_keep 59 = .ok (.goto 4, 3) := by decide +kernel
theorem dX11_keep_62 : decode cX11_keep 62 = .ok (.iconst 0, 1) := by decide +kernel
theorem dX11_keep_63 : decode cX11_keep 63 = .ok (.istore_n 2, 1) := by decide +kernel
theorem dX11_keep_64 : decode cX11_keep 64 = .ok (.aload_n 0, 1) := by decide +kernel
theorem dX11_keep_65 : decode cX11_keep 65 = .ok (.getfield 40, 3) := by decide +kernel
theorem dX11_keep_68 : decode cX11_keep 68 = .ok (.iload_n 1, 1) := by decide +kernel
theorem dX11_keep_69 : decode cX11_keep 69 = .ok (.iconst 1, 1) := by decide +kernel
theorem dX11_keep_70 : decode cX11_keep 70 = .ok (.bastore, 1) := by decide +kernel
theorem dX11_keep_71 : decode cX11_keep 71 = .ok (.iload_n 2, 1) := by decide +kernel
theorem dX11_keep_72 : decode cX11_keep 72 = .ok (.ireturn, 1) := by decide +kernel
theorem dX11_back_0 : decode cX11_back 0 = .ok (.iload_n 1, 1) := by decide +kernel
theorem dX11_back_1 : decode cX11_back 1 = .ok (.i2l, 1) := by decide +kernel
theorem dX11_back_2 : decode cX11_back 2 = .ok (.lconst 0, 1) := by decide +kernel
theorem dX11_back_3 : decode cX11_back 3 = .ok (.lconst 1, 1) := by decide +kernel
theorem dX11_back_4 : decode cX11_back 4 = .ok (.invokestatic 64, 3) := by decide +kernel
theorem dX11_back_7 : decode cX11_back 7 = .ok (.ifCond .ne 5, 3) := by decide +kernel
theorem dX11_back_10 : decode cX11_back 10 = .ok (.iconst (-1), 1) := by decide +kernel
theorem dX11_back_11 : decode cX11_back 11 = .ok (.ireturn, 1) := by decide +kernel
theorem dX11_back_12 : decode cX11_back 12 = .ok (.aload_n 0, 1) := by decide +kernel
theorem dX11_back_13 : decode cX11_back 13 = .ok (.getfield 40, 3) := by decide +kernel
theorem dX11_back_16 : decode cX11_back 16 = .ok (.iload_n 1, 1) := by decide +kernel
theorem dX11_back_17 : decode cX11_back 17 = .ok (.baload, 1) := by decide +kernel
theorem dX11_back_18 : decode cX11_back 18 = .ok (.ifCond .ne 6, 3) := by decide +kernel
theorem dX11_back_21 : decode cX11_back 21 = .ok (.bipush (-2), 2) := by decide +kernel
theorem dX11_back_23 : decode cX11_back 23 = .ok (.ireturn, 1) := by decide +kernel
theorem dX11_back_24 : decode cX11_back 24 = .ok (.iconst 0, 1) := by decide +kernel
theorem dX11_back_25 : decode cX11_back 25 = .ok (.istore_n 2, 1) := by decide +kernel
theorem dX11_back_26 : decode cX11_back 26 = .ok (.iload_n 2, 1) := by decide +kernel
theorem dX11_back_27 : decode cX11_back 27 = .ok (.bipush 32, 2) := by decide +kernel
theorem dX11_back_29 : decode cX11_back 29 = .ok (.if_icmp .ge 28, 3) := by decide +kernel
theorem dX11_back_32 : decode cX11_back 32 = .ok (.aload_n 0, 1) := by decide +kernel
theorem dX11_back_33 : decode cX11_back 33 = .ok (.getfield 7, 3) := by decide +kernel
theorem dX11_back_36 : decode cX11_back 36 = .ok (.iload_n 2, 1) := by decide +kernel
theorem dX11_back_37 : decode cX11_back 37 = .ok (.aload_n 0, 1) := by decide +kernel
theorem dX11_back_38 : decode cX11_back 38 = .ok (.getfield 7, 3) := by decide +kernel
theorem dX11_back_41 : decode cX11_back 41 = .ok (.bipush 32, 2) := by decide +kernel
theorem dX11_back_43 : decode cX11_back 43 = .ok (.iload_n 1, 1) := by decide +kernel
theorem dX11_back_44 : decode cX11_back 44 = .ok (.iconst 1, 1) := by decide +kernel
theorem dX11_back_45 : decode cX11_back 45 = .ok (.iadd, 1) := by decide +kernel
theorem dX11_back_46 : decode cX11_back 46 = .ok (.imul, 1) := by decide +kernel
theorem dX11_back_47 : decode cX11_back 47 = .ok (.iload_n 2, 1) := by decide +kernel
theorem dX11_back_48 : decode cX11_back 48 = .ok (.iadd, 1) := by decide +kernel
theorem dX11_back_49 : decode cX11_back 49 = .ok (.iaload, 1) := by decide +kernel
theorem dX11_back_50 : decode cX11_back 50 = .ok (.iastore, 1) := by decide +kernel
theorem dX11_back_51 : decode cX11_back 51 = .ok (.iinc 2 1, 3) := by decide +kernel
theorem dX11_back_54 : decode cX11_back 54 = .ok (.goto (-28), 3) := by decide +kernel
theorem dX11_back_57 : decode cX11_back 57 = .ok (.aload_n 0, 1) := by decide +kernel
theorem dX11_back_58 : decode cX11_back 58 = .ok (.invokevirtual 300, 3) := by decide +kernel
theorem dX11_back_61 : decode cX11_back 61 = .ok (.ireturn, 1) := by decide +kernel
theorem dX11_sheet_0 : decode cX11_sheet 0 = .ok (.iload_n 1, 1) := by decide +kernel
theorem dX11_sheet_1 : decode cX11_sheet 1 = .ok (.i2l, 1) := by decide +kernel
theorem dX11_sheet_2 : decode cX11_sheet 2 = .ok (.lconst 0, 1) := by decide +kernel
theorem dX11_sheet_3 : decode cX11_sheet 3 = .ok (.ldc2_w 194, 3) := by decide +kernel
theorem dX11_sheet_6 : decode cX11_sheet 6 = .ok (.invokestatic 64, 3) := by decide +kernel
theorem dX11_sheet_9 : decode cX11_sheet 9 = .ok (.ifCond .eq 21, 3) := by decide +kernel
theorem dX11_sheet_12 : decode cX11_sheet 12 = .ok (.iload_n 2, 1) := by decide +kernel
theorem dX11_sheet_13 : decode cX11_sheet 13 = .ok (.i2l, 1) := by decide +kernel
theorem dX11_sheet_14 : decode cX11_sheet 14 = .ok (.lconst 0, 1) := by decide +kernel
theorem dX11_sheet_15 : decode cX11_sheet 15 = .ok (.ldc2_w 179, 3) := by decide +kernel
theorem dX11_sheet_18 : decode cX11_sheet 18 = .ok (.invokestatic 64, 3) := by decide +kernel
theorem dX11_sheet_21 : decode cX11_sheet 21 = .ok (.ifCond .eq 9, 3) := by decide +kernel
theorem dX11_sheet_24 : decode cX11_sheet 24 = .ok (.iload_n 3, 1) := by decide +kernel
theorem dX11_sheet_25 : decode cX11_sheet 25 = .ok (.bipush 40, 2) := by decide +kernel
theorem dX11_sheet_27 : decode cX11_sheet 27 = .ok (.if_icmp .le 5, 3) := by decide +kernel
theorem dX11_sheet_30 : decode cX11_sheet 30 = .ok (.iconst (-1), 1) := by decide +kernel
theorem dX11_sheet_31 : decode cX11_sheet 31 = .ok (.ireturn, 1) := by decide +kernel
theorem dX11_sheet_32 : decode cX11_sheet 32 = .ok (.iload_n 3, 1) := by decide +kernel
theorem dX11_sheet_33 : decode cX11_sheet 33 = .ok (.ifCond .ge 6, 3) := by decide +kernel
theorem dX11_sheet_36 : decode cX11_sheet 36 = .ok (.bipush (-14), 2) := by decide +kernel
theorem dX11_sheet_38 : decode cX11_sheet 38 = .ok (.ireturn, 1) := by decide +kernel
theorem dX11_sheet_39 : decode cX11_sheet 39 = .ok (.aload_n 0, 1) := by decide +kernel
theorem dX11_sheet_40 : decode cX11_sheet 40 = .ok (.getfield 44, 3) := by decide +kernel
theorem dX11_sheet_43 : decode cX11_sheet 43 = .ok (.iload_n 1, 1) := by decide +kernel
theorem dX11_sheet_44 : decode cX11_sheet 44 = .ok (.iload_n 2, 1) := by decide +kernel
theorem dX11_sheet_45 : decode cX11_sheet 45 = .ok (.iastore, 1) := by decide +kernel
theorem dX11_sheet_46 : decode cX11_sheet 46 = .ok (.aload_n 0, 1) := by decide +kernel
theorem dX11_sheet_47 : decode cX11_sheet 47 = .ok (.getfield 47, 3) := by decide +kernel
theorem dX11_sheet_50 : decode cX11_sheet 50 = .ok (.iload_n 1, 1) := by decide +kernel
theorem dX11_sheet_51 : decode cX11_sheet 51 = .ok (.iload_n 3, 1) := by decide +kernel
theorem dX11_sheet_52 : decode cX11_sheet 52 = .ok (.iastore, 1) := by decide +kernel
theorem dX11_sheet_53 : decode cX11_sheet 53 = .ok (.iconst 0, 1) := by decide +kernel
theorem dX11_sheet_54 : decode cX11_sheet 54 = .ok (.istore 4, 2) := by decide +kernel
theorem dX11_sheet_56 : decode cX11_sheet 56 = .ok (.iload 4, 2) := by decide +kernel
theorem dX11_sheet_58 : decode cX11_sheet 58 = .ok (.bipush 40, 2) := by decide +kernel
theorem dX11_sheet_60 : decode cX11_sheet 60 = .ok (.if_icmp .ge 22, 3) := by decide +kernel
theorem dX11_sheet_63 : decode cX11_sheet 63 = .ok (.aload_n 0, 1) := by decide +kernel
theorem dX11_sheet_64 : decode cX11_sheet 64 = .ok (.getfield 50, 3) := by decide +kernel
theorem dX11_sheet_67 : decode cX11_sheet 67 = .ok (.bipush 40, 2) := by decide +kernel
theorem dX11_sheet_69 : decode cX11_sheet 69 = .ok (.iload_n 1, 1) := by decide +kernel
theorem dX11_sheet_70 : decode cX11_sheet 70 = .ok (.imul, 1) := by decide +kernel
theorem dX11_sheet_71 : decode cX11_sheet 71 = .ok (.iload 4, 2) := by decide +kernel
theorem dX11_sheet_73 : decode cX11_sheet 73 = .ok (.iadd, 1) := by decide +kernel
theorem dX11_sheet_74 : decode cX11_sheet 74 = .ok (.iconst 0, 1) := by decide +kernel
theorem dX11_sheet_75 : decode cX11_sheet 75 = .ok (.iastore, 1) := by decide +kernel
theorem dX11_sheet_76 : decode cX11_sheet 76 = .ok (.iinc 4 1, 3) := by decide +kernel
theorem dX11_sheet_79 : decode cX11_sheet 79 = .ok (.goto (-23), 3) := by decide +kernel
theorem dX11_sheet_82 : decode cX11_sheet 82 = .ok (.iconst 1, 1) := by decide +kernel
theorem dX11_sheet_83 : decode cX11_sheet 83 = .ok (.ireturn, 1) := by decide +kernel
theorem dX11_lay_0 : decode cX11_lay 0 = .ok (.iload_n 1, 1) := by decide +kernel
theorem dX11_lay_1 : decode cX11_lay 1 = .ok (.i2l, 1) := by decide +kernel
theorem dX11_lay_2 : decode cX11_lay 2 = .ok (.lconst 0, 1) := by decide +kernel
theorem dX11_lay_3 : decode cX11_lay 3 = .ok (.ldc2_w 194, 3) := by decide +kernel
theorem dX11_lay_6 : decode cX11_lay 6 = .ok (.invokestatic 64, 3) := by decide +kernel
theorem dX11_lay_9 : decode cX11_lay 9 = .ok (.ifCond .ne 5, 3) := by decide +kernel
theorem dX11_lay_12 : decode cX11_lay 12 = .ok (.iconst (-1), 1) := by decide +kernel
theorem dX11_lay_13 : decode cX11_lay 13 = .ok (.ireturn, 1) := by decide +kernel
theorem dX11_lay_14 : decode cX11_lay 14 = .ok (.aload_n 0, 1) := by decide +kernel
theorem dX11_lay_15 : decode cX11_lay 15 = .ok (.getfield 44, 3) := by decide +kernel
theorem dX11_lay_18 : decode cX11_lay 18 = .ok (.iload_n 1, 1) := by decide +kernel
theorem dX11_lay_19 : decode cX11_lay 19 = .ok (.iaload, 1) := by decide +kernel
theorem dX11_lay_20 : decode cX11_lay 20 = .ok (.bipush (-4), 2) := by decide +kernel
theorem dX11_lay_22 : decode cX11_lay 22 = .ok (.if_icmp .ne 6, 3) := by decide +kernel
theorem dX11_lay_25 : decode cX11_lay 25 = .ok (.bipush (-11), 2) := by decide +kernel
theorem dX11_lay_27 : decode cX11_lay 27 = .ok (.ireturn, 1) := by decide +kernel
theorem dX11_lay_28 : decode cX11_lay 28 = .ok (.iload_n 2, 1) := by decide +kernel
theorem dX11_lay_29 : decode cX11_lay 29 = .ok (.i2l, 1) := by decide +kernel
theorem dX11_lay_30 : decode cX11_lay 30 = .ok (.lconst 0, 1) := by decide +kernel
theorem dX11_lay_31 : decode cX11_lay 31 = .ok (.aload_n 0, 1) := by decide +kernel
theorem dX11_lay_32 : decode cX11_lay 32 = .ok (.getfield 47, 3) := by decide +kernel
theorem dX11_lay_35 : decode cX11_lay 35 = .ok (.iload_n 1, 1) := by decide +kernel
theorem dX11_lay_36 : decode cX11_lay 36 = .ok (.iaload, 1) := by decide +kernel
theorem dX11_lay_37 : decode cX11_lay 37 = .ok (.iconst 1, 1) := by decide +kernel
theorem dX11_lay_38 : decode cX11_lay 38 = .ok (.isub, 1) := by decide +kernel
theorem dX11_lay_39 : decode cX11_lay 39 = .ok (.i2l, 1) := by decide +kernel
theorem dX11_lay_40 : decode cX11_lay 40 = .ok (.invokestatic 64, 3) := by decide +kernel
theorem dX11_lay_43 : decode cX11_lay 43 = .ok (.ifCond .ne 6, 3) := by decide +kernel
theorem dX11_lay_46 : decode cX11_lay 46 = .ok (.bipush (-12), 2) := by decide +kernel
theorem dX11_lay_48 : decode cX11_lay 48 = .ok (.ireturn, 1) := by decide +kernel
theorem dX11_lay_49 : decode cX11_lay 49 = .ok (.aload_n 0, 1) := by decide +kernel
theorem dX11_lay_50 : decode cX11_lay 50 = .ok (.getfield 50, 3) := by decide +kernel
theorem dX11_lay_53 : decode cX11_lay 53 = .ok (.bipush 40, 2) := by decide +kernel
theorem dX11_lay_55 : decode cX11_lay 55 = .ok (.iload_n 1, 1) := by decide +kernel
theorem dX11_lay_56 : decode cX11_lay 56 = .ok (.imul, 1) := by decide +kernel
theorem dX11_lay_57 : decode cX11_lay 57 = .ok (.iload_n 2, 1) := by decide +kernel
theorem dX11_lay_58 : decode cX11_lay 58 = .ok (.iadd, 1) := by decide +kernel
theorem dX11_lay_59 : decode cX11_lay 59 = .ok (.aload_n 0, 1) := by decide +kernel
theorem dX11_lay_60 : decode cX11_lay 60 = .ok (.getfield 44, 3) := by decide +kernel
theorem dX11_lay_63 : decode cX11_lay 63 = .ok (.iload_n 1, 1) := by decide +kernel
theorem dX11_lay_64 : decode cX11_lay 64 = .ok (.iaload, 1) := by decide +kernel
theorem dX11_lay_65 : decode cX11_lay 65 = .ok (.ifCond .ne 13, 3) := by decide +kernel
theorem dX11_lay_68 : decode cX11_lay 68 = .ok (.iload_n 3, 1) := by decide +kernel
theorem dX11_lay_69 : decode cX11_lay 69 = .ok (.bipush 24, 2) := by decide +kernel
theorem dX11_lay_71 : decode cX11_lay 71 = .ok (.ishl, 1) := by decide +kernel
theorem dX11_lay_72 : decode cX11_lay 72 = .ok (.bipush 24, 2) := by decide +kernel
theorem dX11_lay_74 : decode cX11_lay 74 = .ok (.ishr, 1) := by decide +kernel
theorem dX11_lay_75 : decode cX11_lay 75 = .ok (.goto 24, 3) := by decide +kernel
theorem dX11_lay_78 : decode cX11_lay 78 = .ok (.aload_n 0, 1) := by decide +kernel
theorem dX11_lay_79 : decode cX11_lay 79 = .ok (.getfield 44, 3) := by decide +kernel
theorem dX11_lay_82 : decode cX11_lay 82 = .ok (.iload_n 1, 1) := by decide +kernel
theorem dX11_lay_83 : decode cX11_lay 83 = .ok (.iaload, 1) := by decide +kernel
theorem dX11_lay_84 : decode cX11_lay 84 = .ok (.iconst 1, 1) := by decide +kernel
theorem dX11_lay_85 : decode cX11_lay 85 = .ok (.if_icmp .ne 13, 3) := by decide +kernel
theorem dX11_lay_88 : decode cX11_lay 88 = .ok (.iload_n 3, 1) := by decide +kernel
theorem dX11_lay_89 : decode cX11_lay 89 = .ok (.bipush 16, 2) := by decide +kernel
theorem dX11_lay_91 : decode cX11_lay 91 = .ok (.ishl, 1) := by decide +kernel
theorem dX11_lay_92 : decode cX11_lay 92 = .ok (.bipush 16, 2) := by decide +kernel
theorem dX11_lay_94 : decode cX11_lay 94 = .ok (.ishr, 1) := by decide +kernel
theorem dX11_lay_95 : decode cX11_lay 95 = .ok (.goto 4, 3) := by decide +kernel
theorem dX11_lay_98 : decode cX11_lay 98 = .ok (.iload_n 3, 1) := by decide +kernel
theorem dX11_lay_99 : decode cX11_lay 99 = .ok (.iastore, 1) := by decide +kernel
theorem dX11_lay_100 : decode cX11_lay 100 = .ok (.iconst 1, 1) := by decide +kernel
theorem dX11_lay_101 : decode cX11_lay 101 = .ok (.ireturn, 1) := by decide +kernel
theorem dX11_read_0 : decode cX11_read 0 = .ok (.aload_n 0, 1) := by decide +kernel
theorem dX11_read_1 : decode cX11_read 1 = .ok (.invokevirtual 135, 3) := by decide +kernel
theorem dX11_read_4 : decode cX11_read 4 = .ok (.iload_n 1, 1) := by decide +kernel
theorem dX11_read_5 : decode cX11_read 5 = .ok (.i2l, 1) := by decide +kernel
theorem dX11_read_6 : decode cX11_read 6 = .ok (.lconst 0, 1) := by decide +kernel
theorem dX11_read_7 : decode cX11_read 7 = .ok (.ldc2_w 194, 3) := by decide +kernel
theorem dX11_read_10 : decode cX11_read 10 = .ok (.invokestatic 64, 3) := by decide +kernel
theorem dX11_read_13 : decode cX11_read 13 = .ok (.ifCond .eq 28, 3) := by decide +kernel
theorem dX11_read_16 : decode cX11_read 16 = .ok (.iload_n 2, 1) := by decide +kernel
theorem dX11_read_17 : decode cX11_read 17 = .ok (.i2l, 1) := by decide +kernel
theorem dX11_read_18 : decode cX11_read 18 = .ok (.lconst 0, 1) := by decide +kernel
theorem dX11_read_19 : decode cX11_read 19 = .ok (.ldc2_w 179, 3) := by decide +kernel
theorem dX11_read_22 : decode cX11_read 22 = .ok (.invokestatic 64, 3) := by decide +kernel
theorem dX11_read_25 : decode cX11_read 25 = .ok (.ifCond .eq 16, 3) := by decide +kernel
theorem dX11_read_28 : decode cX11_read 28 = .ok (.iload 4, 2) := by decide +kernel
theorem dX11_read_30 : decode cX11_read 30 = .ok (.i2l, 1) := by decide +kernel
theorem dX11_read_31 : decode cX11_read 31 = .ok (.lconst 0, 1) := by decide +kernel
theorem dX11_read_32 : decode cX11_read 32 = .ok (.ldc2_w 303, 3) := by decide +kernel
theorem dX11_read_35 : decode cX11_read 35 = .ok (.invokestatic 64, 3) := by decide +kernel
theorem dX11_read_38 : decode cX11_read 38 = .ok (.ifCond .ne 5, 3) := by decide +kernel
theorem dX11_read_41 : decode cX11_read 41 = .ok (.iconst (-1), 1) := by decide +kernel
theorem dX11_read_42 : decode cX11_read 42 = .ok (.ireturn, 1) := by decide +kernel
theorem dX11_read_43 : decode cX11_read 43 = .ok (.iconst 0, 1) := by decide +kernel
theorem dX11_read_44 : decode cX11_read 44 = .ok (.istore 5, 2) := by decide +kernel
theorem dX11_read_46 : decode cX11_read 46 = .ok (.iconst 0, 1) := by decide +kernel
theorem dX11_read_47 : decode cX11_read 47 = .ok (.istore 6, 2) := by decide +kernel
theorem dX11_read_49 : decode cX11_read 49 = .ok (.iconst 0, 1) := by decide +kernel
theorem dX11_read_50 : decode cX11_read 50 = .ok (.istore 7, 2) := by decide +kernel
theorem dX11_read_52 : decode cX11_read 52 = .ok (.iconst 0, 1) := by decide +kernel
theorem dX11_read_53 : decode cX11_read 53 = .ok (.istore 8, 2) := by decide +kernel
theorem dX11_read_55 : decode cX11_read 55 = .ok (.iload 8, 2) := by decide +kernel
theorem dX11_read_57 : decode cX11_read 57 = .ok (.bipush 21, 2) := by decide +kernel
theorem dX11_read_59 : decode cX11_read 59 = .ok (.if_icmp .ge 23, 3) := by decide +kernel
theorem dX11_read_62 : decode cX11_read 62 = .ok (.aload_n 0, 1) := by decide +kernel
theorem dX11_read_63 : decode cX11_read 63 = .ok (.getfield 53, 3) := by decide +kernel
theorem dX11_read_66 : decode cX11_read 66 = .ok (.iload 8, 2) := by decide +kernel
theorem dX11_read_68 : decode cX11_read 68 = .ok (.aload_n 0, 1) := by decide +kernel
theorem dX11_read_69 : decode cX11_read 69 = .ok (.getfield 7, 3) := by decide +kernel
theorem dX11_read_72 : decode cX11_read 72 = .ok (.iload 8, 2) := by decide +kernel
theorem dX11_read_74 : decode cX11_read 74 = .ok (.iaload, 1) := by decide +kernel
theorem dX11_read_75 : decode cX11_read 75 = .ok (.iastore, 1) := by decide +kernel
theorem dX11_read_76 : decode cX11_read 76 = .ok (.iinc 8 1, 3) := by decide +kernel
theorem dX11_read_79 : decode cX11_read 79 = .ok (.goto (-24), 3) := by decide +kernel
theorem dX11_read_82 : decode cX11_read 82 = .ok (.iconst 0, 1) := by decide +kernel
theorem dX11_read_83 : decode cX11_read 83 = .ok (.istore 8, 2) := by decide +kernel
theorem dX11_read_85 : decode cX11_read 85 = .ok (.iload 8, 2) := by decide +kernel
theorem dX11_read_87 : decode cX11_read 87 = .ok (.iconst 3, 1) := by decide +kernel
theorem dX11_read_88 : decode cX11_read 88 = .ok (.iload 4, 2) := by decide +kernel
theorem dX11_read_90 : decode cX11_read 90 = .ok (.imul, 1) := by decide +kernel
theorem dX11_read_91 : decode cX11_read 91 = .ok (.if_icmp .ge 168, 3) := by decide +kernel
theorem dX11_read_94 : decode cX11_read 94 = .ok (.iload 5, 2) := by decide +kernel
theorem dX11_read_96 : decode cX11_read 96 = .ok (.ifCond .ne 163, 3) := by decide +kernel
theorem dX11_read_99 : decode cX11_read 99 = .ok (.iload 7, 2) := by decide +kernel
theorem dX11_read_101 : decode cX11_read 101 = .ok (.ifCond .ne 158, 3) := by decide +kernel
theorem dX11_read_104 : decode cX11_read 104 = .ok (.aload_n 0, 1) := by decide +kernel
theorem dX11_read_105 : decode cX11_read 105 = .ok (.getfield 44, 3) := by decide +kernel
theorem dX11_read_108 : decode cX11_read 108 = .ok (.iload_n 1, 1) := by decide +kernel
theorem dX11_read_109 : decode cX11_read 109 = .ok (.iaload, 1) := by decide +kernel
theorem dX11_read_110 : decode cX11_read 110 = .ok (.bipush (-4), 2) := by decide +kernel
theorem dX11_read_112 : decode cX11_read 112 = .ok (.if_icmp .ne 7, 3) := by decide +kernel
theorem dX11_read_115 : decode cX11_read 115 = .ok (.iconst 1, 1) := by decide +kernel
theorem dX11_read_116 : decode cX11_read 116 = .ok (.goto 44, 3) := by decide +kernel
theorem dX11_read_119 : decode cX11_read 119 = .ok (.aload_n 0, 1) := by decide +kernel
theorem dX11_read_120 : decode cX11_read 120 = .ok (.getfield 44, 3) := by decide +kernel
theorem dX11_read_123 : decode cX11_read 123 = .ok (.iload_n 1, 1) := by decide +kernel
theorem dX11_read_124 : decode cX11_read 124 = .ok (.iaload, 1) := by decide +kernel
theorem dX11_read_125 : decode cX11_read 125 = .ok (.iload_n 2, 1) := by decide +kernel
theorem dX11_read_126 : decode cX11_read 126 = .ok (.if_icmp .eq 7, 3) := by decide +kernel
theorem dX11_read_129 : decode cX11_read 129 = .ok (.iconst 3, 1) := by decide +kernel
theorem dX11_read_130 : decode cX11_read 130 = .ok (.goto 30, 3) := by decide +kernel
theorem dX11_read_133 : decode cX11_read 133 = .ok (.iload_n 3, 1) := by decide +kernel
theorem dX11_read_134 : decode cX11_read 134 = .ok (.i2l, 1) := by decide +kernel
theorem dX11_read_135 : decode cX11_read 135 = .ok (.iload 8, 2) := by decide +kernel
theorem dX11_read_137 : decode cX11_read 137 = .ok (.i2l, 1) := by decide +kernel
theorem dX11_read_138 : decode cX11_read 138 = .ok (.ladd, 1) := by decide +kernel
theorem dX11_read_139 : decode cX11_read 139 = .ok (.lconst 0, 1) := by decide +kernel
theorem dX11_read_140 : decode cX11_read 140 = .ok (.aload_n 0, 1) := by decide +kernel
theorem dX11_read_141 : decode cX11_read 141 = .ok (.getfield 47, 3) := by decide +kernel
theorem dX11_read_144 : decode cX11_read 144 = .ok (.iload_n 1, 1) := by decide +kernel
theorem dX11_read_145 : decode cX11_read 145 = .ok (.iaload, 1) := by decide +kernel
theorem dX11_read_146 : decode cX11_read 146 = .ok (.iconst 1, 1) := by decide +kernel
theorem dX11_read_147 : decode cX11_read 147 = .ok (.isub, 1) := by decide +kernel
theorem dX11_read_148 : decode cX11_read 148 = .ok (.i2l, 1) := by decide +kernel
theorem dX11_read_149 : decode cX11_read 149 = .ok (.invokestatic 64, 3) := by decide +kernel
theorem dX11_read_152 : decode cX11_read 152 = .ok (.ifCond .ne 7, 3) := by decide +kernel
theorem dX11_read_155 : decode cX11_read 155 = .ok (.iconst 2, 1) := by decide +kernel
theorem dX11_read_156 : decode cX11_read 156 = .ok (.goto 4, 3) := by decide +kernel
theorem dX11_read_159 : decode cX11_read 159 = .ok (.iconst 0, 1) := by decide +kernel
theorem dX11_read_160 : decode cX11_read 160 = .ok (.istore 5, 2) := by decide +kernel
theorem dX11_read_162 : decode cX11_read 162 = .ok (.iload 5, 2) := by decide +kernel
theorem dX11_read_164 : decode cX11_read 164 = .ok (.ifCond .ne 89, 3) := by decide +kernel
theorem dX11_read_167 : decode cX11_read 167 = .ok (.iload 8, 2) := by decide +kernel
theorem dX11_read_169 : decode cX11_read 169 = .ok (.iconst 3, 1) := by decide +kernel
theorem dX11_read_170 : decode cX11_read 170 = .ok (.irem, 1) := by decide +kernel
theorem dX11_read_171 : decode cX11_read 171 = .ok (.iconst 2, 1) := by decide +kernel
theorem dX11_read_172 : decode cX11_read 172 = .ok (.if_icmp .ne 81, 3) := by decide +kernel
theorem dX11_read_175 : decode cX11_read 175 = .ok (.bipush 40, 2) := by decide +kernel
theorem dX11_read_177 : decode cX11_read 177 = .ok (.iload_n 1, 1) := by decide +kernel
theorem dX11_read_178 : decode cX11_read 178 = .ok (.imul, 1) := by decide +kernel
theorem dX11_read_179 : decode cX11_read 179 = .ok (.iload_n 3, 1) := by decide +kernel
theorem dX11_read_180 : decode cX11_read 180 = .ok (.iadd, 1) := by decide +kernel
theorem dX11_read_181 : decode cX11_read 181 = .ok (.iload 8, 2) := by decide +kernel
theorem dX11_read_183 : decode cX11_read 183 = .ok (.iadd, 1) := by decide +kernel
theorem dX11_read_184 : decode cX11_read 184 = .ok (.istore 9, 2) := by decide +kernel
theorem dX11_read_186 : decode cX11_read 186 = .ok (.aload_n 0, 1) := by decide +kernel
theorem dX11_read_187 : decode cX11_read 187 = .ok (.getfield 50, 3) := by decide +kernel
theorem dX11_read_190 : decode cX11_read 190 = .ok (.iload 9, 2) := by decide +kernel
theorem dX11_read_192 : decode cX11_read 192 = .ok (.iaload, 1) := by decide +kernel
theorem dX11_read_193 : decode cX11_read 193 = .ok (.bipush (-4), 2) := by decide +kernel
theorem dX11_read_195 : decode cX11_read 195 = .ok (.if_icmp .eq 36, 3) := by decide +kernel
theorem dX11_read_198 : decode cX11_read 198 = .ok (.aload_n 0, 1) := by decide +kernel
theorem dX11_read_199 : decode cX11_read 199 = .ok (.aload_n 0, 1) := by decide +kernel
theorem dX11_read_200 : decode cX11_read 200 = .ok (.getfield 50, 3) := by decide +kernel
theorem dX11_read_203 : decode cX11_read 203 = .ok (.iload 9, 2) := by decide +kernel
theorem dX11_read_205 : decode cX11_read 205 = .ok (.iconst 2, 1) := by decide +kernel
theorem dX11_read_206 : decode cX11_read 206 = .ok (.isub, 1) := by decide +kernel
theorem dX11_read_207 : decode cX11_read 207 = .ok (.iaload, 1) := by decide +kernel
theorem dX11_read_208 : decode cX11_read 208 = .ok (.aload_n 0, 1) := by decide +kernel
theorem dX11_read_209 : decode cX11_read 209 = .ok (.getfield 50, 3) := by decide +kernel
theorem dX11_read_212 : decode cX11_read 212 = .ok (.iload 9, 2) := by decide +kernel
theorem dX11_read_214 : decode cX11_read 214 = .ok (.iconst 1, 1) := by decide +kernel
theorem dX11_read_215 : decode cX11_read 215 = .ok (.isub, 1) := by decide +kernel
theorem dX11_read_216 : decode cX11_read 216 = .ok (.iaload, 1) := by decide +kernel
theorem dX11_read_217 : decode cX11_read 217 = .ok (.aload_n 0, 1) := by decide +kernel
theorem dX11_read_218 : decode cX11_read 218 = .ok (.getfield 50, 3) := by decide +kernel
theorem dX11_read_221 : decode cX11_read 221 = .ok (.iload 9, 2) := by decide +kernel
theorem dX11_read_223 : decode cX11_read 223 = .ok (.iaload, 1) := by decide +kernel
theorem dX11_read_224 : decode cX11_read 224 = .ok (.invokevirtual 158, 3) := by decide +kernel
theorem dX11_read_227 : decode cX11_read 227 = .ok (.iconst (-1), 1) := by decide +kernel
theorem dX11_read_228 : decode cX11_read 228 = .ok (.if_icmp .ne 7, 3) := by decide +kernel
theorem dX11_read_231 : decode cX11_read 231 = .ok (.iconst 1, 1) := by decide +kernel
theorem dX11_read_232 : decode cX11_read 232 = .ok (.goto 4, 3) := by decide +kernel
theorem dX11_read_235 : decode cX11_read 235 = .ok (.iconst 0, 1) := by decide +kernel
theorem dX11_read_236 : decode cX11_read 236 = .ok (.istore 7, 2) := by decide +kernel
theorem dX11_read_238 : decode cX11_read 238 = .ok (.iload 6, 2) := by decide +kernel
theorem dX11_read_240 : decode cX11_read 240 = .ok (.iload 7, 2) := by decide +kernel
theorem dX11_read_242 : decode cX11_read 242 = .ok (.ifCond .eq 7, 3) := by decide +kernel
theorem dX11_read_245 : decode cX11_read 245 = .ok (.iconst 0, 1) := by decide +kernel
theorem dX11_read_246 : decode cX11_read 246 = .ok (.goto 4, 3) := by decide +kernel
theorem dX11_read_249 : decode cX11_read 249 = .ok (.iconst 1, 1) := by decide +kernel
theorem dX11_read_250 : decode cX11_read 250 = .ok (.iadd, 1) := by decide +kernel
theorem dX11_read_251 : decode cX11_read 251 = .ok (.istore 6, 2) := by decide +kernel
theorem dX11_read_253 : decode cX11_read 253 = .ok (.iinc 8 1, 3) := by decide +kernel
theorem dX11_read_256 : decode cX11_read 256 = .ok (.goto (-171), 3) := by decide +kernel
theorem dX11_read_259 : decode cX11_read 259 = .ok (.iload 7, 2) := by decide +kernel
theorem dX11_read_261 : decode cX11_read 261 = .ok (.ifCond .eq 39, 3) := by decide +kernel
theorem dX11_read_264 : decode cX11_read 264 = .ok (.iconst 0, 1) := by decide +kernel
theorem dX11_read_265 : decode cX11_read 265 = .ok (.istore 8, 2) := by decide +kernel
theorem dX11_read_267 : decode cX11_read 267 = .ok (.iload 8, 2) := by decide +kernel
theorem dX11_read_269 : decode cX11_read 269 = .ok (.bipush 21, 2) := by decide +kernel
theorem dX11_read_271 : decode cX11_read 271 = .ok (.if_icmp .ge 23, 3) := by decide +kernel
theorem dX11_read_274 : decode cX11_read 274 = .ok (.aload_n 0, 1) := by decide +kernel
theorem dX11_read_275 : decode cX11_read 275 = .ok (.getfield 7, 3) := by decide +kernel
theorem dX11_read_278 : decode cX11_read 278 = .ok (.iload 8, 2) := by decide +kernel
theorem dX11_read_280 : decode cX11_read 280 = .ok (.aload_n 0, 1) := by decide +kernel
theorem dX11_read_281 : decode cX11_read 281 = .ok (.getfield 53, 3) := by decide +kernel
theorem dX11_read_284 : decode cX11_read 284 = .ok (.iload 8, 2) := by decide +kernel
theorem dX11_read_286 : decode cX11_read 286 = .ok (.iaload, 1) := by decide +kernel
theorem dX11_read_287 : decode cX11_read 287 = .ok (.iastore, 1) := by decide +kernel
theorem dX11_read_288 : decode cX11_read 288 = .ok (.iinc 8 1, 3) := by decide +kernel
theorem dX11_read_291 : decode cX11_read 291 = .ok (.goto (-24), 3) := by decide +kernel
theorem dX11_read_294 : decode cX11_read 294 = .ok (.bipush (-20), 2) := by decide +kernel
theorem dX11_read_296 : decode cX11_read 296 = .ok (.iload 6, 2) := by decide +kernel
theorem dX11_read_298 : decode cX11_read 298 = .ok (.isub, 1) := by decide +kernel
theorem dX11_read_299 : decode cX11_read 299 = .ok (.ireturn, 1) := by decide +kernel
theorem dX11_read_300 : decode cX11_read 300 = .ok (.aload_n 0, 1) := by decide +kernel
theorem dX11_read_301 : decode cX11_read 301 = .ok (.iload 5, 2) := by decide +kernel
theorem dX11_read_303 : decode cX11_read 303 = .ok (.putfield 305, 3) := by decide +kernel
theorem dX11_read_306 : decode cX11_read 306 = .ok (.iload 6, 2) := by decide +kernel
theorem dX11_read_308 : decode cX11_read 308 = .ok (.ireturn, 1) := by decide +kernel
theorem dX11_torn_0 : decode cX11_torn 0 = .ok (.aload_n 0, 1) := by decide +kernel
theorem dX11_torn_1 : decode cX11_torn 1 = .ok (.getfield 305, 3) := by decide +kernel
theorem dX11_torn_4 : decode cX11_torn 4 = .ok (.ireturn, 1) := by decide +kernel
theorem dX11_count_0 : decode cX11_count 0 = .ok (.aload_n 0, 1) := by decide +kernel
theorem dX11_count_1 : decode cX11_count 1 = .ok (.invokevirtual 135, 3) := by decide +kernel
theorem dX11_count_4 : decode cX11_count 4 = .ok (.iload_n 1, 1) := by decide +kernel
theorem dX11_count_5 : decode cX11_count 5 = .ok (.tableswitch 118 0 5 #[39, 47, 52, 60, 90, 95], 39) := by decide +kernel
theorem dX11_count_44 : decode cX11_count 44 = .ok (.aload_n 0, 1) := by decide +kernel
theorem dX11_count_45 : decode cX11_count 45 = .ok (.getfield 7, 3) := by decide +kernel
theorem dX11_count_48 : decode cX11_count 48 = .ok (.bipush 21, 2) := by decide +kernel
theorem dX11_count_50 : decode cX11_count 50 = .ok (.iaload, 1) := by decide +kernel
theorem dX11_count_51 : decode cX11_count 51 = .ok (.ireturn, 1) := by decide +kernel
theorem dX11_count_52 : decode cX11_count 52 = .ok (.aload_n 0, 1) := by decide +kernel
theorem dX11_count_53 : decode cX11_count 53 = .ok (.invokevirtual 300, 3) := by decide +kernel
theorem dX11_count_56 : decode cX11_count 56 = .ok (.ireturn, 1) := by decide +kernel
theorem dX11_count_57 : decode cX11_count 57 = .ok (.aload_n 0, 1) := by decide +kernel
theorem dX11_count_58 : decode cX11_count 58 = .ok (.getfield 7, 3) := by decide +kernel
theorem dX11_count_61 : decode cX11_count 61 = .ok (.bipush 30, 2) := by decide +kernel
theorem dX11_count_63 : decode cX11_count 63 = .ok (.iaload, 1) := by decide +kernel
theorem dX11_count_64 : decode cX11_count 64 = .ok (.ireturn, 1) := by decide +kernel
theorem dX11_count_65 : decode cX11_count 65 = .ok (.aload_n 0, 1) := by decide +kernel
theorem dX11_count_66 : decode cX11_count 66 = .ok (.getfield 40, 3) := by decide +kernel
theorem dX11_count_69 : decode cX11_count 69 = .ok (.iconst 0, 1) := by decide +kernel
theorem dX11_count_70 : decode cX11_count 70 = .ok (.baload, 1) := by decide +kernel
theorem dX11_count_71 : decode cX11_count 71 = .ok (.ifCond .eq 7, 3) := by decide +kernel
theorem dX11_count_74 : decode cX11_count 74 = .ok (.iconst 1, 1) := by decide +kernel
theorem dX11_count_75 : decode cX11_count 75 = .ok (.goto 4, 3) := by decide +kernel
theorem dX11_count_78 : decode cX11_count 78 = .ok (.iconst 0, 1) := by decide +kernel
theorem dX11_count_79 : decode cX11_count 79 = .ok (.aload_n 0, 1) := by decide +kernel
theorem dX11_count_80 : decode cX11_count 80 = .ok (.getfield 40, 3) := by decide +kernel
theorem dX11_count_83 : decode cX11_count 83 = .ok (.iconst 1, 1) := by decide +kernel
theorem dX11_count_84 : decode cX11_count 84 = .ok (.baload, 1) := by decide +kernel
theorem dX11_count_85 : decode cX11_count 85 = .ok (.ifCond .eq 7, 3) := by decide +kernel
theorem dX11_count_88 : decode cX11_count 88 = .ok (.iconst 1, 1) := by decide +kernel
theorem dX11_count_89 : decode cX11_count 89 = .ok (.goto 4, 3) := by decide +kernel
theorem dX11_count_92 : decode cX11_count 92 = .ok (.iconst 0, 1) := by decide +kernel
theorem dX11_count_93 : decode cX11_count 93 = .ok (.iadd, 1) := by decide +kernel
theorem dX11_count_94 : decode cX11_count 94 = .ok (.ireturn, 1) := by decide +kernel
theorem dX11_count_95 : decode cX11_count 95 = .ok (.aload_n 0, 1) := by decide +kernel
