set_option maxRecDepth 20000 in
theorem ggX10_addAt_X10_add : GoodIn wsX10_addAt wsX10_add := goodIn_r _ [11, 12, 13, 14, 15, 16, 17, 18, 19, 10, 20, 21, 22, 23, 24, 25, 26, 27, 28, 29, 30, 31, 32, 33, 34, 35, 36, 37, 38, 39, 40, 41, 42, 43, 44, 45, 46, 47, 48, 49, 50, 51, 52, 53, 54, 55, 56, 57, 58, 59, 60, 61, 62, 63, 64, 65, 66, 67, 68, 69, 70, 71, 72, 73, 74, 75] (by decide +kernel) (by decide +kernel)
set_option maxRecDepth 20000 in
theorem gX10_addAt_X10_add : GoodIn wsX10_addAt (wsV RX10 171 RX10 yX10_add wsX10_add) := goodIn_app (goodIn_of _ (by decide +kernel)) ggX10_addAt_X10_add
theorem dX10_addAt_0 : decode cX10_addAt 0 = .ok (.iconst 0, 1) := by decide +kernel
theorem dX10_addAt_1 : decode cX10_addAt 1 = .ok (.istore 4, 2) := by decide +kernel
theorem dX10_addAt_3 : decode cX10_addAt 3 = .ok (.iload 4, 2) := by decide +kernel
theorem dX10_addAt_5 : decode cX10_addAt 5 = .ok (.aload_n 0, 1) := by decide +kernel
theorem dX10_addAt_6 : decode cX10_addAt 6 = .ok (.getfield 47, 3) := by decide +kernel
theorem dX10_addAt_9 : decode cX10_addAt 9 = .ok (.iload_n 1, 1) := by decide +kernel
theorem dX10_addAt_10 : decode cX10_addAt 10 = .ok (.iaload, 1) := by decide +kernel
theorem dX10_addAt_11 : decode cX10_addAt 11 = .ok (.if_icmp .ge 217, 3) := by decide +kernel
theorem dX10_addAt_14 : decode cX10_addAt 14 = .ok (.bipush 6, 2) := by decide +kernel
theorem dX10_addAt_16 : decode cX10_addAt 16 = .ok (.iload_n 1, 1) := by decide +kernel
theorem dX10_addAt_17 : decode cX10_addAt 17 = .ok (.imul, 1) := by decide +kernel
theorem dX10_addAt_18 : decode cX10_addAt 18 = .ok (.iload 4, 2) := by decide +kernel
theorem dX10_addAt_20 : decode cX10_addAt 20 = .ok (.iadd, 1) := by decide +kernel
theorem dX10_addAt_21 : decode cX10_addAt 21 = .ok (.istore 5, 2) := by decide +kernel
theorem dX10_addAt_23 : decode cX10_addAt 23 = .ok (.aload_n 0, 1) := by decide +kernel
theorem dX10_addAt_24 : decode cX10_addAt 24 = .ok (.getfield 50, 3) := by decide +kernel
theorem dX10_addAt_27 : decode cX10_addAt 27 = .ok (.iload 5, 2) := by decide +kernel
theorem dX10_addAt_29 : decode cX10_addAt 29 = .ok (.iaload, 1) := by decide +kernel
theorem dX10_addAt_30 : decode cX10_addAt 30 = .ok (.iload_n 2, 1) := by decide +kernel
theorem dX10_addAt_31 : decode cX10_addAt 31 = .ok (.if_icmp .ne 37, 3) := by decide +kernel
theorem dX10_addAt_34 : decode cX10_addAt 34 = .ok (.aload_n 0, 1) := by decide +kernel
theorem dX10_addAt_35 : decode cX10_addAt 35 = .ok (.aload_n 0, 1) := by decide +kernel
theorem dX10_addAt_36 : decode cX10_addAt 36 = .ok (.getfield 165, 3) := by decide +kernel
theorem dX10_addAt_39 : decode cX10_addAt 39 = .ok (.aload_n 0, 1) := by decide +kernel
theorem dX10_addAt_40 : decode cX10_addAt 40 = .ok (.getfield 56, 3) := by decide +kernel
theorem dX10_addAt_43 : decode cX10_addAt 43 = .ok (.iload 5, 2) := by decide +kernel
theorem dX10_addAt_45 : decode cX10_addAt 45 = .ok (.iaload, 1) := by decide +kernel
theorem dX10_addAt_46 : decode cX10_addAt 46 = .ok (.i2l, 1) := by decide +kernel
theorem dX10_addAt_47 : decode cX10_addAt 47 = .ok (.ldiv, 1) := by decide +kernel
theorem dX10_addAt_48 : decode cX10_addAt 48 = .ok (.iload_n 3, 1) := by decide +kernel
theorem dX10_addAt_49 : decode cX10_addAt 49 = .ok (.i2l, 1) := by decide +kernel
theorem dX10_addAt_50 : decode cX10_addAt 50 = .ok (.aload_n 0, 1) := by decide +kernel
theorem dX10_addAt_51 : decode cX10_addAt 51 = .ok (.getfield 53, 3) := by decide +kernel
theorem dX10_addAt_54 : decode cX10_addAt 54 = .ok (.iload 5, 2) := by decide +kernel
theorem dX10_addAt_56 : decode cX10_addAt 56 = .ok (.iaload, 1) := by decide +kernel
theorem dX10_addAt_57 : decode cX10_addAt 57 = .ok (.i2l, 1) := by decide +kernel
theorem dX10_addAt_58 : decode cX10_addAt 58 = .ok (.lmul, 1) := by decide +kernel
theorem dX10_addAt_59 : decode cX10_addAt 59 = .ok (.aload_n 0, 1) := by decide +kernel
theorem dX10_addAt_60 : decode cX10_addAt 60 = .ok (.getfield 168, 3) := by decide +kernel
theorem dX10_addAt_63 : decode cX10_addAt 63 = .ok (.lmul, 1) := by decide +kernel
theorem dX10_addAt_64 : decode cX10_addAt 64 = .ok (.invokevirtual 171, 3) := by decide +kernel
theorem dX10_addAt_67 : decode cX10_addAt 67 = .ok (.return_, 1) := by decide +kernel
theorem dX10_addAt_68 : decode cX10_addAt 68 = .ok (.iload 4, 2) := by decide +kernel
theorem dX10_addAt_70 : decode cX10_addAt 70 = .ok (.iconst 1, 1) := by decide +kernel
theorem dX10_addAt_71 : decode cX10_addAt 71 = .ok (.iadd, 1) := by decide +kernel
theorem dX10_addAt_72 : decode cX10_addAt 72 = .ok (.aload_n 0, 1) := by decide +kernel
theorem dX10_addAt_73 : decode cX10_addAt 73 = .ok (.getfield 47, 3) := by decide +kernel
theorem dX10_addAt_76 : decode cX10_addAt 76 = .ok (.iload_n 1, 1) := by decide +kernel
theorem dX10_addAt_77 : decode cX10_addAt 77 = .ok (.iaload, 1) := by decide +kernel
theorem dX10_addAt_78 : decode cX10_addAt 78 = .ok (.if_icmp .ge 144, 3) := by decide +kernel
theorem dX10_addAt_81 : decode cX10_addAt 81 = .ok (.aload_n 0, 1) := by decide +kernel
theorem dX10_addAt_82 : decode cX10_addAt 82 = .ok (.getfield 50, 3) := by decide +kernel
theorem dX10_addAt_85 : decode cX10_addAt 85 = .ok (.iload 5, 2) := by decide +kernel
theorem dX10_addAt_87 : decode cX10_addAt 87 = .ok (.iaload, 1) := by decide +kernel
theorem dX10_addAt_88 : decode cX10_addAt 88 = .ok (.iload_n 2, 1) := by decide +kernel
theorem dX10_addAt_89 : decode cX10_addAt 89 = .ok (.if_icmp .ge 133, 3) := by decide +kernel
theorem dX10_addAt_92 : decode cX10_addAt 92 = .ok (.iload_n 2, 1) := by decide +kernel
theorem dX10_addAt_93 : decode cX10_addAt 93 = .ok (.aload_n 0, 1) := by decide +kernel
theorem dX10_addAt_94 : decode cX10_addAt 94 = .ok (.getfield 50, 3) := by decide +kernel
theorem dX10_addAt_97 : decode cX10_addAt 97 = .ok (.iload 5, 2) := by decide +kernel
theorem dX10_addAt_99 : decode cX10_addAt 99 = .ok (.iconst 1, 1) := by decide +kernel
theorem dX10_addAt_100 : decode cX10_addAt 100 = .ok (.iadd, 1) := by decide +kernel
theorem dX10_addAt_101 : decode cX10_addAt 101 = .ok (.iaload, 1) := by decide +kernel
theorem dX10_addAt_102 : decode cX10_addAt 102 = .ok (.if_icmp .ge 120, 3) := by decide +kernel
theorem dX10_addAt_105 : decode cX10_addAt 105 = .ok (.aload_n 0, 1) := by decide +kernel
theorem dX10_addAt_106 : decode cX10_addAt 106 = .ok (.getfield 50, 3) := by decide +kernel
theorem dX10_addAt_109 : decode cX10_addAt 109 = .ok (.iload 5, 2) := by decide +kernel
theorem dX10_addAt_111 : decode cX10_addAt 111 = .ok (.iconst 1, 1) := by decide +kernel
theorem dX10_addAt_112 : decode cX10_addAt 112 = .ok (.iadd, 1) := by decide +kernel
theorem dX10_addAt_113 : decode cX10_addAt 113 = .ok (.iaload, 1) := by decide +kernel
theorem dX10_addAt_114 : decode cX10_addAt 114 = .ok (.aload_n 0, 1) := by decide +kernel
theorem dX10_addAt_115 : decode cX10_addAt 115 = .ok (.getfield 50, 3) := by decide +kernel
theorem dX10_addAt_118 : decode cX10_addAt 118 = .ok (.iload 5, 2) := by decide +kernel
theorem dX10_addAt_120 : decode cX10_addAt 120 = .ok (.iaload, 1) := by decide +kernel
theorem dX10_addAt_121 : decode cX10_addAt 121 = .ok (.isub, 1) := by decide +kernel
theorem dX10_addAt_122 : decode cX10_addAt 122 = .ok (.i2l, 1) := by decide +kernel
theorem dX10_addAt_123 : decode cX10_addAt 123 = .ok (.lstore 6, 2) := by decide +kernel
theorem dX10_addAt_125 : decode cX10_addAt 125 = .ok (.iload_n 3, 1) := by decide +kernel
theorem dX10_addAt_126 : decode cX10_addAt 126 = .ok (.i2l, 1) := by decide +kernel
theorem dX10_addAt_127 : decode cX10_addAt 127 = .ok (.aload_n 0, 1) := by decide +kernel
theorem dX10_addAt_128 : decode cX10_addAt 128 = .ok (.getfield 168, 3) := by decide +kernel
theorem dX10_addAt_131 : decode cX10_addAt 131 = .ok (.lload 6, 2) := by decide +kernel
theorem dX10_addAt_133 : decode cX10_addAt 133 = .ok (.ldiv, 1) := by decide +kernel
theorem dX10_addAt_134 : decode cX10_addAt 134 = .ok (.lmul, 1) := by decide +kernel
theorem dX10_addAt_135 : decode cX10_addAt 135 = .ok (.lstore 8, 2) := by decide +kernel
theorem dX10_addAt_137 : decode cX10_addAt 137 = .ok (.aload_n 0, 1) := by decide +kernel
theorem dX10_addAt_138 : decode cX10_addAt 138 = .ok (.aload_n 0, 1) := by decide +kernel
theorem dX10_addAt_139 : decode cX10_addAt 139 = .ok (.getfield 165, 3) := by decide +kernel
theorem dX10_addAt_142 : decode cX10_addAt 142 = .ok (.aload_n 0, 1) := by decide +kernel
theorem dX10_addAt_143 : decode cX10_addAt 143 = .ok (.getfield 56, 3) := by decide +kernel
theorem dX10_addAt_146 : decode cX10_addAt 146 = .ok (.iload 5, 2) := by decide +kernel
theorem dX10_addAt_148 : decode cX10_addAt 148 = .ok (.iaload, 1) := by decide +kernel
theorem dX10_addAt_149 : decode cX10_addAt 149 = .ok (.i2l, 1) := by decide +kernel
theorem dX10_addAt_150 : decode cX10_addAt 150 = .ok (.ldiv, 1) := by decide +kernel
theorem dX10_addAt_151 : decode cX10_addAt 151 = .ok (.lload 8, 2) := by decide +kernel
theorem dX10_addAt_153 : decode cX10_addAt 153 = .ok (.aload_n 0, 1) := by decide +kernel
theorem dX10_addAt_154 : decode cX10_addAt 154 = .ok (.getfield 53, 3) := by decide +kernel
theorem dX10_addAt_157 : decode cX10_addAt 157 = .ok (.iload 5, 2) := by decide +kernel
theorem dX10_addAt_159 : decode cX10_addAt 159 = .ok (.iaload, 1) := by decide +kernel
theorem dX10_addAt_160 : decode cX10_addAt 160 = .ok (.i2l, 1) := by decide +kernel
theorem dX10_addAt_161 : decode cX10_addAt 161 = .ok (.lmul, 1) := by decide +kernel
theorem dX10_addAt_162 : decode cX10_addAt 162 = .ok (.aload_n 0, 1) := by decide +kernel
theorem dX10_addAt_163 : decode cX10_addAt 163 = .ok (.getfield 50, 3) := by decide +kernel
theorem dX10_addAt_166 : decode cX10_addAt 166 = .ok (.iload 5, 2) := by decide +kernel
theorem dX10_addAt_168 : decode cX10_addAt 168 = .ok (.iconst 1, 1) := by decide +kernel
theorem dX10_addAt_169 : decode cX10_addAt 169 = .ok (.iadd, 1) := by decide +kernel
theorem dX10_addAt_170 : decode cX10_addAt 170 = .ok (.iaload, 1) := by decide +kernel
theorem dX10_addAt_171 : decode cX10_addAt 171 = .ok (.iload_n 2, 1) := by decide +kernel
theorem dX10_addAt_172 : decode cX10_addAt 172 = .ok (.isub, 1) := by decide +kernel
theorem dX10_addAt_173 : decode cX10_addAt 173 = .ok (.i2l, 1) := by decide +kernel
theorem dX10_addAt_174 : decode cX10_addAt 174 = .ok (.lmul, 1) := by decide +kernel
theorem dX10_addAt_175 : decode cX10_addAt 175 = .ok (.invokevirtual 171, 3) := by decide +kernel
theorem dX10_addAt_178 : decode cX10_addAt 178 = .ok (.aload_n 0, 1) := by decide +kernel
theorem dX10_addAt_179 : decode cX10_addAt 179 = .ok (.aload_n 0, 1) := by decide +kernel
theorem dX10_addAt_180 : decode cX10_addAt 180 = .ok (.getfield 165, 3) := by decide +kernel
theorem dX10_addAt_183 : decode cX10_addAt 183 = .ok (.aload_n 0, 1) := by decide +kernel
theorem dX10_addAt_184 : decode cX10_addAt 184 = .ok (.getfield 56, 3) := by decide +kernel
theorem dX10_addAt_187 : decode cX10_addAt 187 = .ok (.iload 5, 2) := by decide +kernel
theorem dX10_addAt_189 : decode cX10_addAt 189 = .ok (.iconst 1, 1) := by decide +kernel
theorem dX10_addAt_190 : decode cX10_addAt 190 = .ok (.iadd, 1) := by decide +kernel
theorem dX10_addAt_191 : decode cX10_addAt 191 = .ok (.iaload, 1) := by decide +kernel
theorem dX10_addAt_192 : decode cX10_addAt 192 = .ok (.i2l, 1) := by decide +kernel
theorem dX10_addAt_193 : decode cX10_addAt 193 = .ok (.ldiv, 1) := by decide +kernel
theorem dX10_addAt_194 : decode cX10_addAt 194 = .ok (.lload 8, 2) := by decide +kernel
theorem dX10_addAt_196 : decode cX10_addAt 196 = .ok (.aload_n 0, 1) := by decide +kernel
theorem dX10_addAt_197 : decode cX10_addAt 197 = .ok (.getfield 53, 3) := by decide +kernel
theorem dX10_addAt_200 : decode cX10_addAt 200 = .ok (.iload 5, 2) := by decide +kernel
theorem dX10_addAt_202 : decode cX10_addAt 202 = .ok (.iconst 1, 1) := by decide +kernel
theorem dX10_addAt_203 : decode cX10_addAt 203 = .ok (.iadd, 1) := by decide +kernel
theorem dX10_addAt_204 : decode cX10_addAt 204 = .ok (.iaload, 1) := by decide +kernel
theorem dX10_addAt_205 : decode cX10_addAt 205 = .ok (.i2l, 1) := by decide +kernel
theorem dX10_addAt_206 : decode cX10_addAt 206 = .ok (.lmul, 1) := by decide +kernel
theorem dX10_addAt_207 : decode cX10_addAt 207 = .ok (.iload_n 2, 1) := by decide +kernel
theorem dX10_addAt_208 : decode cX10_addAt 208 = .ok (.aload_n 0, 1) := by decide +kernel
theorem dX10_addAt_209 : decode cX10_addAt 209 = .ok (.getfield 50, 3) := by decide +kernel
theorem dX10_addAt_212 : decode cX10_addAt 212 = .ok (.iload 5, 2) := by decide +kernel
theorem dX10_addAt_214 : decode cX10_addAt 214 = .ok (.iaload, 1) := by decide +kernel
theorem dX10_addAt_215 : decode cX10_addAt 215 = .ok (.isub, 1) := by decide +kernel
theorem dX10_addAt_216 : decode cX10_addAt 216 = .ok (.i2l, 1) := by decide +kernel
theorem dX10_addAt_217 : decode cX10_addAt 217 = .ok (.lmul, 1) := by decide +kernel
theorem dX10_addAt_218 : decode cX10_addAt 218 = .ok (.invokevirtual 171, 3) := by decide +kernel
theorem dX10_addAt_221 : decode cX10_addAt 221 = .ok (.return_, 1) := by decide +kernel
theorem dX10_addAt_222 : decode cX10_addAt 222 = .ok (.iinc 4 1, 3) := by decide +kernel
theorem dX10_addAt_225 : decode cX10_addAt 225 = .ok (.goto (-222), 3) := by decide +kernel
theorem dX10_addAt_228 : decode cX10_addAt 228 = .ok (.return_, 1) := by decide +kernel
set_option maxRecDepth 20000 in
theorem ggX10_effect_X10_addAt : GoodIn wsX10_effect wsX10_addAt := goodIn_r _ [12, 13, 14, 15, 16, 17, 18, 19, 20, 21, 11, 22, 1, 23, 2, 24, 25, 26, 27, 28, 29, 30, 31, 32, 33, 34, 35, 36, 37, 38, 39, 40, 41, 42, 43, 44, 45, 46, 47, 48, 49, 50, 51, 52, 53, 54, 55, 56, 57, 58, 59, 60, 61, 62, 63, 64, 65, 66, 67, 68, 69, 70, 71, 72, 73, 74, 75, 76, 77, 78, 79, 80, 81, 82, 83, 84] (by decide +kernel) (by decide +kernel)
set_option maxRecDepth 20000 in
theorem gX10_effect_X10_addAt : GoodIn wsX10_effect (wsV RX10 174 RX10 yX10_addAt wsX10_addAt) := goodIn_app (goodIn_of _ (by decide +kernel)) ggX10_effect_X10_addAt
theorem dX10_effect_0 : decode cX10_effect 0 = .ok (.aload_n 0, 1) := by decide +kernel
theorem dX10_effect_1 : decode cX10_effect 1 = .ok (.lconst 0, 1) := by decide +kernel
theorem dX10_effect_2 : decode cX10_effect 2 = .ok (.putfield 159, 3) := by decide +kernel
theorem dX10_effect_5 : decode cX10_effect 5 = .ok (.aload_n 0, 1) := by decide +kernel
theorem dX10_effect_6 : decode cX10_effect 6 = .ok (.lconst 0, 1) := by decide +kernel
theorem dX10_effect_7 : decode cX10_effect 7 = .ok (.putfield 162, 3) := by decide +kernel
theorem dX10_effect_10 : decode cX10_effect 10 = .ok (.iconst 0, 1) := by decide +kernel
theorem dX10_effect_11 : decode cX10_effect 11 = .ok (.istore 4, 2) := by decide +kernel
theorem dX10_effect_13 : decode cX10_effect 13 = .ok (.iload 4, 2) := by decide +kernel
theorem dX10_effect_15 : decode cX10_effect 15 = .ok (.aload_n 0, 1) := by decide +kernel
theorem dX10_effect_16 : decode cX10_effect 16 = .ok (.getfield 135, 3) := by decide +kernel
theorem dX10_effect_19 : decode cX10_effect 19 = .ok (.if_icmp .ge 32, 3) := by decide +kernel
theorem dX10_effect_22 : decode cX10_effect 22 = .ok (.aload_n 0, 1) := by decide +kernel
theorem dX10_effect_23 : decode cX10_effect 23 = .ok (.iload_n 1, 1) := by decide +kernel
theorem dX10_effect_24 : decode cX10_effect 24 = .ok (.iload_n 2, 1) := by decide +kernel
theorem dX10_effect_25 : decode cX10_effect 25 = .ok (.iload_n 3, 1) := by decide +kernel
theorem dX10_effect_26 : decode cX10_effect 26 = .ok (.aload_n 0, 1) := by decide +kernel
theorem dX10_effect_27 : decode cX10_effect 27 = .ok (.getfield 59, 3) := by decide +kernel
theorem dX10_effect_30 : decode cX10_effect 30 = .ok (.iload 4, 2) := by decide +kernel
theorem dX10_effect_32 : decode cX10_effect 32 = .ok (.iaload, 1) := by decide +kernel
theorem dX10_effect_33 : decode cX10_effect 33 = .ok (.imul, 1) := by decide +kernel
theorem dX10_effect_34 : decode cX10_effect 34 = .ok (.isub, 1) := by decide +kernel
theorem dX10_effect_35 : decode cX10_effect 35 = .ok (.aload_n 0, 1) := by decide +kernel
theorem dX10_effect_36 : decode cX10_effect 36 = .ok (.getfield 62, 3) := by decide +kernel
theorem dX10_effect_39 : decode cX10_effect 39 = .ok (.iload 4, 2) := by decide +kernel
theorem dX10_effect_41 : decode cX10_effect 41 = .ok (.iaload, 1) := by decide +kernel
theorem dX10_effect_42 : decode cX10_effect 42 = .ok (.invokevirtual 174, 3) := by decide +kernel
theorem dX10_effect_45 : decode cX10_effect 45 = .ok (.iinc 4 1, 3) := by decide +kernel
theorem dX10_effect_48 : decode cX10_effect 48 = .ok (.goto (-35), 3) := by decide +kernel
theorem dX10_effect_51 : decode cX10_effect 51 = .ok (.aload_n 0, 1) := by decide +kernel
theorem dX10_effect_52 : decode cX10_effect 52 = .ok (.getfield 159, 3) := by decide +kernel
theorem dX10_effect_55 : decode cX10_effect 55 = .ok (.aload_n 0, 1) := by decide +kernel
theorem dX10_effect_56 : decode cX10_effect 56 = .ok (.getfield 178, 3) := by decide +kernel
theorem dX10_effect_59 : decode cX10_effect 59 = .ok (.lcmp, 1) := by decide +kernel
theorem dX10_effect_60 : decode cX10_effect 60 = .ok (.ifCond .gt 27, 3) := by decide +kernel
theorem dX10_effect_63 : decode cX10_effect 63 = .ok (.aload_n 0, 1) := by decide +kernel
theorem dX10_effect_64 : decode cX10_effect 64 = .ok (.getfield 159, 3) := by decide +kernel
theorem dX10_effect_67 : decode cX10_effect 67 = .ok (.aload_n 0, 1) := by decide +kernel
theorem dX10_effect_68 : decode cX10_effect 68 = .ok (.getfield 178, 3) := by decide +kernel
theorem dX10_effect_71 : decode cX10_effect 71 = .ok (.lcmp, 1) := by decide +kernel
theorem dX10_effect_72 : decode cX10_effect 72 = .ok (.ifCond .ne 19, 3) := by decide +kernel
theorem dX10_effect_75 : decode cX10_effect 75 = .ok (.aload_n 0, 1) := by decide +kernel
theorem dX10_effect_76 : decode cX10_effect 76 = .ok (.getfield 162, 3) := by decide +kernel
theorem dX10_effect_79 : decode cX10_effect 79 = .ok (.aload_n 0, 1) := by decide +kernel
theorem dX10_effect_80 : decode cX10_effect 80 = .ok (.getfield 181, 3) := by decide +kernel
theorem dX10_effect_83 : decode cX10_effect 83 = .ok (.lcmp, 1) := by decide +kernel
theorem dX10_effect_84 : decode cX10_effect 84 = .ok (.ifCond .le 7, 3) := by decide +kernel
theorem dX10_effect_87 : decode cX10_effect 87 = .ok (.iconst 1, 1) := by decide +kernel
theorem dX10_effect_88 : decode cX10_effect 88 = .ok (.goto 4, 3) := by decide +kernel
theorem dX10_effect_91 : decode cX10_effect 91 = .ok (.iconst 0, 1) := by decide +kernel
theorem dX10_effect_92 : decode cX10_effect 92 = .ok (.istore 4, 2) := by decide +kernel
theorem dX10_effect_94 : decode cX10_effect 94 = .ok (.aload_n 0, 1) := by decide +kernel
theorem dX10_effect_95 : decode cX10_effect 95 = .ok (.iload 4, 2) := by decide +kernel
theorem dX10_effect_97 : decode cX10_effect 97 = .ok (.ifCond .eq 10, 3) := by decide +kernel
theorem dX10_effect_100 : decode cX10_effect 100 = .ok (.aload_n 0, 1) := by decide +kernel
theorem dX10_effect_101 : decode cX10_effect 101 = .ok (.getfield 159, 3) := by decide +kernel
theorem dX10_effect_104 : decode cX10_effect 104 = .ok (.goto 7, 3) := by decide +kernel
theorem dX10_effect_107 : decode cX10_effect 107 = .ok (.aload_n 0, 1) := by decide +kernel
theorem dX10_effect_108 : decode cX10_effect 108 = .ok (.getfield 178, 3) := by decide +kernel
theorem dX10_effect_111 : decode cX10_effect 111 = .ok (.putfield 178, 3) := by decide +kernel
theorem dX10_effect_114 : decode cX10_effect 114 = .ok (.aload_n 0, 1) := by decide +kernel
theorem dX10_effect_115 : decode cX10_effect 115 = .ok (.iload 4, 2) := by decide +kernel
theorem dX10_effect_117 : decode cX10_effect 117 = .ok (.ifCond .eq 10, 3) := by decide +kernel
theorem dX10_effect_120 : decode cX10_effect 120 = .ok (.aload_n 0, 1) := by decide +kernel
theorem dX10_effect_121 : decode cX10_effect 121 = .ok (.getfield 162, 3) := by decide +kernel
theorem dX10_effect_124 : decode cX10_effect 124 = .ok (.goto 7, 3) := by decide +kernel
theorem dX10_effect_127 : decode cX10_effect 127 = .ok (.aload_n 0, 1) := by decide +kernel
theorem dX10_effect_128 : decode cX10_effect 128 = .ok (.getfield 181, 3) := by decide +kernel
theorem dX10_effect_131 : decode cX10_effect 131 = .ok (.putfield 181, 3) := by decide +kernel
theorem dX10_effect_134 : decode cX10_effect 134 = .ok (.return_, 1) := by decide +kernel
set_option maxRecDepth 20000 in
theorem ggX10_rate_X10_common : GoodIn wsX10_rate wsX10_common := goodIn_r _ [17] (by decide +kernel) (by decide +kernel)
set_option maxRecDepth 20000 in
theorem gX10_rate_X10_common : GoodIn wsX10_rate (va_wsS RX10 184 yX10_common wsX10_common) := goodIn_app (goodIn_of _ (by decide +kernel)) ggX10_rate_X10_common
set_option maxRecDepth 20000 in
theorem ggX10_rate_X10_effect : GoodIn wsX10_rate wsX10_effect := goodIn_r _ [21, 22, 23, 8, 9, 24, 6, 7, 25, 26, 27, 16, 28, 3, 5, 1, 4, 29, 2, 30, 31, 32, 33, 10, 12, 34, 35, 36, 37, 38, 39, 40, 41, 42, 43, 44, 45, 46, 47, 48, 49, 50, 51, 52, 53, 54, 55, 56, 57, 58, 59, 60, 61, 62, 63, 64, 65, 66, 67, 68, 69, 70, 71, 72, 73, 74, 75, 76, 77, 78, 79, 80, 81, 82, 83, 84, 85, 86, 87, 88, 89, 90, 91, 92, 93] (by decide +kernel) (by decide +kernel)
set_option maxRecDepth 20000 in
theorem gX10_rate_X10_effect : GoodIn wsX10_rate (wsV RX10 188 RX10 yX10_effect wsX10_effect) := goodIn_app (goodIn_of _ (by decide +kernel)) ggX10_rate_X10_effect
set_option maxRecDepth 20000 in
theorem ggX10_rate_X10_product : GoodIn wsX10_rate wsX10_product := goodIn_r _ [38, 39, 12, 34, 10, 40, 41, 42, 43, 44, 45, 46, 47, 48, 49, 50, 51, 52, 53, 54, 55, 56, 57, 58, 59, 60, 61, 62, 63, 64, 65, 66, 67, 68, 69, 70, 71, 72, 73, 74, 75, 76, 77, 78, 79, 80, 81, 82, 83, 84, 85, 86, 87, 88, 89, 90, 91, 92, 93] (by decide +kernel) (by decide +kernel)
set_option maxRecDepth 20000 in
theorem gX10_rate_X10_product : GoodIn wsX10_rate (wsV RX10 155 RX10 yX10_product wsX10_product) := goodIn_app (goodIn_of _ (by decide +kernel)) ggX10_rate_X10_product
theorem dX10_rate_0 : decode cX10_rate 0 = .ok (.aload_n 0, 1) := by decide +kernel
theorem dX10_rate_1 : decode cX10_rate 1 = .ok (.lconst 1, 1) := by decide +kernel
theorem dX10_rate_2 : decode cX10_rate 2 = .ok (.putfield 165, 3) := by decide +kernel
theorem dX10_rate_5 : decode cX10_rate 5 = .ok (.aload_n 0, 1) := by decide +kernel
theorem dX10_rate_6 : decode cX10_rate 6 = .ok (.lconst 1, 1) := by decide +kernel
theorem dX10_rate_7 : decode cX10_rate 7 = .ok (.putfield 168, 3) := by decide +kernel
theorem dX10_rate_10 : decode cX10_rate 10 = .ok (.iconst 0, 1) := by decide +kernel
theorem dX10_rate_11 : decode cX10_rate 11 = .ok (.istore_n 2, 1) := by decide +kernel
theorem dX10_rate_12 : decode cX10_rate 12 = .ok (.iload_n 2, 1) := by decide +kernel
theorem dX10_rate_13 : decode cX10_rate 13 = .ok (.aload_n 0, 1) := by decide +kernel
theorem dX10_rate_14 : decode cX10_rate 14 = .ok (.getfield 47, 3) := by decide +kernel
theorem dX10_rate_17 : decode cX10_rate 17 = .ok (.iload_n 1, 1) := by decide +kernel
theorem dX10_rate_18 : decode cX10_rate 18 = .ok (.iaload, 1) := by decide +kernel
theorem dX10_rate_19 : decode cX10_rate 19 = .ok (.if_icmp .ge 90, 3) := by decide +kernel
theorem dX10_rate_22 : decode cX10_rate 22 = .ok (.bipush 6, 2) := by decide +kernel
theorem dX10_rate_24 : decode cX10_rate 24 = .ok (.iload_n 1, 1) := by decide +kernel
theorem dX10_rate_25 : decode cX10_rate 25 = .ok (.imul, 1) := by decide +kernel
theorem dX10_rate_26 : decode cX10_rate 26 = .ok (.iload_n 2, 1) := by decide +kernel
theorem dX10_rate_27 : decode cX10_rate 27 = .ok (.iadd, 1) := by decide +kernel
theorem dX10_rate_28 : decode cX10_rate 28 = .ok (.istore_n 3, 1) := by decide +kernel
theorem dX10_rate_29 : decode cX10_rate 29 = .ok (.aload_n 0, 1) := by decide +kernel
theorem dX10_rate_30 : decode cX10_rate 30 = .ok (.aload_n 0, 1) := by decide +kernel
theorem dX10_rate_31 : decode cX10_rate 31 = .ok (.getfield 165, 3) := by decide +kernel
theorem dX10_rate_34 : decode cX10_rate 34 = .ok (.aload_n 0, 1) := by decide +kernel
theorem dX10_rate_35 : decode cX10_rate 35 = .ok (.getfield 165, 3) := by decide +kernel
theorem dX10_rate_38 : decode cX10_rate 38 = .ok (.aload_n 0, 1) := by decide +kernel
theorem dX10_rate_39 : decode cX10_rate 39 = .ok (.getfield 56, 3) := by decide +kernel
theorem dX10_rate_42 : decode cX10_rate 42 = .ok (.iload_n 3, 1) := by decide +kernel
theorem dX10_rate_43 : decode cX10_rate 43 = .ok (.iaload, 1) := by decide +kernel
theorem dX10_rate_44 : decode cX10_rate 44 = .ok (.i2l, 1) := by decide +kernel
theorem dX10_rate_45 : decode cX10_rate 45 = .ok (.invokestatic 184, 3) := by decide +kernel
theorem dX10_rate_48 : decode cX10_rate 48 = .ok (.ldiv, 1) := by decide +kernel
theorem dX10_rate_49 : decode cX10_rate 49 = .ok (.aload_n 0, 1) := by decide +kernel
theorem dX10_rate_50 : decode cX10_rate 50 = .ok (.getfield 56, 3) := by decide +kernel
theorem dX10_rate_53 : decode cX10_rate 53 = .ok (.iload_n 3, 1) := by decide +kernel
theorem dX10_rate_54 : decode cX10_rate 54 = .ok (.iaload, 1) := by decide +kernel
theorem dX10_rate_55 : decode cX10_rate 55 = .ok (.i2l, 1) := by decide +kernel
theorem dX10_rate_56 : decode cX10_rate 56 = .ok (.lmul, 1) := by decide +kernel
theorem dX10_rate_57 : decode cX10_rate 57 = .ok (.putfield 165, 3) := by decide +kernel
theorem dX10_rate_60 : decode cX10_rate 60 = .ok (.iload_n 2, 1) := by decide +kernel
theorem dX10_rate_61 : decode cX10_rate 61 = .ok (.ifCond .le 42, 3) := by decide +kernel
theorem dX10_rate_64 : decode cX10_rate 64 = .ok (.aload_n 0, 1) := by decide +kernel
theorem dX10_rate_65 : decode cX10_rate 65 = .ok (.getfield 50, 3) := by decide +kernel
theorem dX10_rate_68 : decode cX10_rate 68 = .ok (.iload_n 3, 1) := by decide +kernel
theorem dX10_rate_69 : decode cX10_rate 69 = .ok (.iaload, 1) := by decide +kernel
theorem dX10_rate_70 : decode cX10_rate 70 = .ok (.aload_n 0, 1) := by decide +kernel
theorem dX10_rate_71 : decode cX10_rate 71 = .ok (.getfield 50, 3) := by decide +kernel
theorem dX10_rate_74 : decode cX10_rate 74 = .ok (.iload_n 3, 1) := by decide +kernel
theorem dX10_rate_75 : decode cX10_rate 75 = .ok (.iconst 1, 1) := by decide +kernel
theorem dX10_rate_76 : decode cX10_rate 76 = .ok (.isub, 1) := by decide +kernel
theorem dX10_rate_77 : decode cX10_rate 77 = .ok (.iaload, 1) := by decide +kernel
theorem dX10_rate_78 : decode cX10_rate 78 = .ok (.isub, 1) := by decide +kernel
theorem dX10_rate_79 : decode cX10_rate 79 = .ok (.i2l, 1) := by decide +kernel
theorem dX10_rate_80 : decode cX10_rate 80 = .ok (.lstore 4, 2) := by decide +kernel
theorem dX10_rate_82 : decode cX10_rate 82 = .ok (.aload_n 0, 1) := by decide +kernel
theorem dX10_rate_83 : decode cX10_rate 83 = .ok (.aload_n 0, 1) := by decide +kernel
theorem dX10_rate_84 : decode cX10_rate 84 = .ok (.getfield 168, 3) := by decide +kernel
theorem dX10_rate_87 : decode cX10_rate 87 = .ok (.aload_n 0, 1) := by decide +kernel
theorem dX10_rate_88 : decode cX10_rate 88 = .ok (.getfield 168, 3) := by decide +kernel
theorem dX10_rate_91 : decode cX10_rate 91 = .ok (.lload 4, 2) := by decide +kernel
theorem dX10_rate_93 : decode cX10_rate 93 = .ok (.invokestatic 184, 3) := by decide +kernel
theorem dX10_rate_96 : decode cX10_rate 96 = .ok (.ldiv, 1) := by decide +kernel
theorem dX10_rate_97 : decode cX10_rate 97 = .ok (.lload 4, 2) := by decide +kernel
theorem dX10_rate_99 : decode cX10_rate 99 = .ok (.lmul, 1) := by decide +kernel
theorem dX10_rate_100 : decode cX10_rate 100 = .ok (.putfield 168, 3) := by decide +kernel
theorem dX10_rate_103 : decode cX10_rate 103 = .ok (.iinc 2 1, 3) := by decide +kernel
theorem dX10_rate_106 : decode cX10_rate 106 = .ok (.goto (-94), 3) := by decide +kernel
theorem dX10_rate_109 : decode cX10_rate 109 = .ok (.aload_n 0, 1) := by decide +kernel
theorem dX10_rate_110 : decode cX10_rate 110 = .ok (.lconst 0, 1) := by decide +kernel
theorem dX10_rate_111 : decode cX10_rate 111 = .ok (.putfield 178, 3) := by decide +kernel
theorem dX10_rate_114 : decode cX10_rate 114 = .ok (.aload_n 0, 1) := by decide +kernel
theorem dX10_rate_115 : decode cX10_rate 115 = .ok (.lconst 0, 1) := by decide +kernel
theorem dX10_rate_116 : decode cX10_rate 116 = .ok (.putfield 181, 3) := by decide +kernel
theorem dX10_rate_119 : decode cX10_rate 119 = .ok (.iconst 0, 1) := by decide +kernel
theorem dX10_rate_120 : decode cX10_rate 120 = .ok (.istore_n 2, 1) := by decide +kernel
theorem dX10_rate_121 : decode cX10_rate 121 = .ok (.iload_n 2, 1) := by decide +kernel
theorem dX10_rate_122 : decode cX10_rate 122 = .ok (.aload_n 0, 1) := by decide +kernel
theorem dX10_rate_123 : decode cX10_rate 123 = .ok (.getfield 47, 3) := by decide +kernel
theorem dX10_rate_126 : decode cX10_rate 126 = .ok (.iload_n 1, 1) := by decide +kernel
theorem dX10_rate_127 : decode cX10_rate 127 = .ok (.iaload, 1) := by decide +kernel
theorem dX10_rate_128 : decode cX10_rate 128 = .ok (.if_icmp .ge 73, 3) := by decide +kernel
theorem dX10_rate_131 : decode cX10_rate 131 = .ok (.iconst 0, 1) := by decide +kernel
theorem dX10_rate_132 : decode cX10_rate 132 = .ok (.istore_n 3, 1) := by decide +kernel
theorem dX10_rate_133 : decode cX10_rate 133 = .ok (.iload_n 3, 1) := by decide +kernel
theorem dX10_rate_134 : decode cX10_rate 134 = .ok (.aload_n 0, 1) := by decide +kernel
theorem dX10_rate_135 : decode cX10_rate 135 = .ok (.getfield 135, 3) := by decide +kernel
theorem dX10_rate_138 : decode cX10_rate 138 = .ok (.if_icmp .ge 57, 3) := by decide +kernel
theorem dX10_rate_141 : decode cX10_rate 141 = .ok (.aload_n 0, 1) := by decide +kernel
theorem dX10_rate_142 : decode cX10_rate 142 = .ok (.iload_n 1, 1) := by decide +kernel
theorem dX10_rate_143 : decode cX10_rate 143 = .ok (.aload_n 0, 1) := by decide +kernel
theorem dX10_rate_144 : decode cX10_rate 144 = .ok (.getfield 50, 3) := by decide +kernel
theorem dX10_rate_147 : decode cX10_rate 147 = .ok (.bipush 6, 2) := by decide +kernel
theorem dX10_rate_149 : decode cX10_rate 149 = .ok (.iload_n 1, 1) := by decide +kernel
theorem dX10_rate_150 : decode cX10_rate 150 = .ok (.imul, 1) := by decide +kernel
theorem dX10_rate_151 : decode cX10_rate 151 = .ok (.iload_n 2, 1) := by decide +kernel
theorem dX10_rate_152 : decode cX10_rate 152 = .ok (.iadd, 1) := by decide +kernel
theorem dX10_rate_153 : decode cX10_rate 153 = .ok (.iaload, 1) := by decide +kernel
theorem dX10_rate_154 : decode cX10_rate 154 = .ok (.aload_n 0, 1) := by decide +kernel
theorem dX10_rate_155 : decode cX10_rate 155 = .ok (.getfield 59, 3) := by decide +kernel
theorem dX10_rate_158 : decode cX10_rate 158 = .ok (.iload_n 3, 1) := by decide +kernel
theorem dX10_rate_159 : decode cX10_rate 159 = .ok (.iaload, 1) := by decide +kernel
theorem dX10_rate_160 : decode cX10_rate 160 = .ok (.iadd, 1) := by decide +kernel
theorem dX10_rate_161 : decode cX10_rate 161 = .ok (.iconst 1, 1) := by decide +kernel
theorem dX10_rate_162 : decode cX10_rate 162 = .ok (.invokevirtual 188, 3) := by decide +kernel
theorem dX10_rate_165 : decode cX10_rate 165 = .ok (.aload_n 0, 1) := by decide +kernel
theorem dX10_rate_166 : decode cX10_rate 166 = .ok (.iload_n 1, 1) := by decide +kernel
theorem dX10_rate_167 : decode cX10_rate 167 = .ok (.aload_n 0, 1) := by decide +kernel
theorem dX10_rate_168 : decode cX10_rate 168 = .ok (.getfield 50, 3) := by decide +kernel
theorem dX10_rate_171 : decode cX10_rate 171 = .ok (.bipush 6, 2) := by decide +kernel
theorem dX10_rate_173 : decode cX10_rate 173 = .ok (.iload_n 1, 1) := by decide +kernel
theorem dX10_rate_174 : decode cX10_rate 174 = .ok (.imul, 1) := by decide +kernel
theorem dX10_rate_175 : decode cX10_rate 175 = .ok (.iload_n 2, 1) := by decide +kernel
theorem dX10_rate_176 : decode cX10_rate 176 = .ok (.iadd, 1) := by decide +kernel
theorem dX10_rate_177 : decode cX10_rate 177 = .ok (.iaload, 1) := by decide +kernel
theorem dX10_rate_178 : decode cX10_rate 178 = .ok (.aload_n 0, 1) := by decide +kernel
theorem dX10_rate_179 : decode cX10_rate 179 = .ok (.getfield 59, 3) := by decide +kernel
theorem dX10_rate_182 : decode cX10_rate 182 = .ok (.iload_n 3, 1) := by decide +kernel
theorem dX10_rate_183 : decode cX10_rate 183 = .ok (.iaload, 1) := by decide +kernel
theorem dX10_rate_184 : decode cX10_rate 184 = .ok (.isub, 1) := by decide +kernel
theorem dX10_rate_185 : decode cX10_rate 185 = .ok (.iconst (-1), 1) := by decide +kernel
theorem dX10_rate_186 : decode cX10_rate 186 = .ok (.invokevirtual 188, 3) := by decide +kernel
theorem dX10_rate_189 : decode cX10_rate 189 = .ok (.iinc 3 1, 3) := by decide +kernel
theorem dX10_rate_192 : decode cX10_rate 192 = .ok (.goto (-59), 3) := by decide +kernel
theorem dX10_rate_195 : decode cX10_rate 195 = .ok (.iinc 2 1, 3) := by decide +kernel
theorem dX10_rate_198 : decode cX10_rate 198 = .ok (.goto (-77), 3) := by decide +kernel
theorem dX10_rate_201 : decode cX10_rate 201 = .ok (.aload_n 0, 1) := by decide +kernel
theorem dX10_rate_202 : decode cX10_rate 202 = .ok (.aload_n 0, 1) := by decide +kernel
theorem dX10_rate_203 : decode cX10_rate 203 = .ok (.getfield 165, 3) := by decide +kernel
theorem dX10_rate_206 : decode cX10_rate 206 = .ok (.aload_n 0, 1) := by decide +kernel
theorem dX10_rate_207 : decode cX10_rate 207 = .ok (.getfield 168, 3) := by decide +kernel
theorem dX10_rate_210 : decode cX10_rate 210 = .ok (.invokevirtual 155, 3) := by decide +kernel
theorem dX10_rate_213 : decode cX10_rate 213 = .ok (.aload_n 0, 1) := by decide +kernel
theorem dX10_rate_214 : decode cX10_rate 214 = .ok (.aload_n 0, 1) := by decide +kernel
theorem dX10_rate_215 : decode cX10_rate 215 = .ok (.getfield 152, 3) := by decide +kernel
theorem dX10_rate_218 : decode cX10_rate 218 = .ok (.putfield 191, 3) := by decide +kernel
theorem dX10_rate_221 : decode cX10_rate 221 = .ok (.aload_n 0, 1) := by decide +kernel
theorem dX10_rate_222 : decode cX10_rate 222 = .ok (.aload_n 0, 1) := by decide +kernel
theorem dX10_rate_223 : decode cX10_rate 223 = .ok (.getfield 146, 3) := by decide +kernel
theorem dX10_rate_226 : decode cX10_rate 226 = .ok (.putfield 194, 3) := by decide +kernel
theorem dX10_rate_229 : decode cX10_rate 229 = .ok (.return_, 1) := by decide +kernel
theorem dX10_isAbove_0 : decode cX10_isAbove 0 = .ok (.aload_n 0, 1) := by decide +kernel
theorem dX10_isAbove_1 : decode cX10_isAbove 1 = .ok (.getfield 181, 3) := by decide +kernel
theorem dX10_isAbove_4 : decode cX10_isAbove 4 = .ok (.iload_n 1, 1) := by decide +kernel
theorem dX10_isAbove_5 : decode cX10_isAbove 5 = .ok (.i2l, 1) := by decide +kernel
theorem dX10_isAbove_6 : decode cX10_isAbove 6 = .ok (.lmul, 1) := by decide +kernel
theorem dX10_isAbove_7 : decode cX10_isAbove 7 = .ok (.lstore_n 3, 1) := by decide +kernel
theorem dX10_isAbove_8 : decode cX10_isAbove 8 = .ok (.aload_n 0, 1) := by decide +kernel
theorem dX10_isAbove_9 : decode cX10_isAbove 9 = .ok (.getfield 178, 3) := by decide +kernel
theorem dX10_isAbove_12 : decode cX10_isAbove 12 = .ok (.iload_n 1, 1) := by decide +kernel
theorem dX10_isAbove_13 : decode cX10_isAbove 13 = .ok (.i2l, 1) := by decide +kernel
theorem dX10_isAbove_14 : decode cX10_isAbove 14 = .ok (.lmul, 1) := by decide +kernel
theorem dX10_isAbove_15 : decode cX10_isAbove 15 = .ok (.lload_n 3, 1) := by decide +kernel
theorem dX10_isAbove_16 : decode cX10_isAbove 16 = .ok (.ldc2_w 150, 3) := by decide +kernel
theorem dX10_isAbove_19 : decode cX10_isAbove 19 = .ok (.ldiv, 1) := by decide +kernel
theorem dX10_isAbove_20 : decode cX10_isAbove 20 = .ok (.ladd, 1) := by decide +kernel
theorem dX10_isAbove_21 : decode cX10_isAbove 21 = .ok (.lstore 5, 2) := by decide +kernel
theorem dX10_isAbove_23 : decode cX10_isAbove 23 = .ok (.aload_n 0, 1) := by decide +kernel
theorem dX10_isAbove_24 : decode cX10_isAbove 24 = .ok (.getfield 194, 3) := by decide +kernel
theorem dX10_isAbove_27 : decode cX10_isAbove 27 = .ok (.iload_n 2, 1) := by decide +kernel
theorem dX10_isAbove_28 : decode cX10_isAbove 28 = .ok (.i2l, 1) := by decide +kernel
theorem dX10_isAbove_29 : decode cX10_isAbove 29 = .ok (.lmul, 1) := by decide +kernel
theorem dX10_isAbove_30 : decode cX10_isAbove 30 = .ok (.lstore 7, 2) := by decide +kernel
theorem dX10_isAbove_32 : decode cX10_isAbove 32 = .ok (.aload_n 0, 1) := by decide +kernel
theorem dX10_isAbove_33 : decode cX10_isAbove 33 = .ok (.getfield 191, 3) := by decide +kernel
theorem dX10_isAbove_36 : decode cX10_isAbove 36 = .ok (.iload_n 2, 1) := by decide +kernel
theorem dX10_isAbove_37 : decode cX10_isAbove 37 = .ok (.i2l, 1) := by decide +kernel
theorem dX10_isAbove_38 : decode cX10_isAbove 38 = .ok (.lmul, 1) := by decide +kernel
theorem dX10_isAbove_39 : decode cX10_isAbove 39 = .ok (.lload 7, 2) := by decide +kernel
theorem dX10_isAbove_41 : decode cX10_isAbove 41 = .ok (.ldc2_w 150, 3) := by decide +kernel
theorem dX10_isAbove_44 : decode cX10_isAbove 44 = .ok (.ldiv, 1) := by decide +kernel
theorem dX10_isAbove_45 : decode cX10_isAbove 45 = .ok (.ladd, 1) := by decide +kernel
theorem dX10_isAbove_46 : decode cX10_isAbove 46 = .ok (.lstore 9, 2) := by decide +kernel
theorem dX10_isAbove_48 : decode cX10_isAbove 48 = .ok (.lload 5, 2) := by decide +kernel
theorem dX10_isAbove_50 : decode cX10_isAbove 50 = .ok (.lload 9, 2) := by decide +kernel
theorem dX10_isAbove_52 : decode cX10_isAbove 52 = .ok (.lcmp, 1) := by decide +kernel
theorem dX10_isAbove_53 : decode cX10_isAbove 53 = .ok (.ifCond .gt 26, 3) := by decide +kernel
theorem dX10_isAbove_56 : decode cX10_isAbove 56 = .ok (.lload 5, 2) := by decide +kernel
theorem dX10_isAbove_58 : decode cX10_isAbove 58 = .ok (.lload 9, 2) := by decide +kernel
theorem dX10_isAbove_60 : decode cX10_isAbove 60 = .ok (.lcmp, 1) := by decide +kernel
theorem dX10_isAbove_61 : decode cX10_isAbove 61 = .ok (.ifCond .ne 22, 3) := by decide +kernel
theorem dX10_isAbove_64 : decode cX10_isAbove 64 = .ok (.lload_n 3, 1) := by decide +kernel
theorem dX10_isAbove_65 : decode cX10_isAbove 65 = .ok (.ldc2_w 150, 3) := by decide +kernel
theorem dX10_isAbove_68 : decode cX10_isAbove 68 = .ok (.lrem, 1) := by decide +kernel
theorem dX10_isAbove_69 : decode cX10_isAbove 69 = .ok (.lload 7, 2) := by decide +kernel
theorem dX10_isAbove_71 : decode cX10_isAbove 71 = .ok (.ldc2_w 150, 3) := by decide +kernel
theorem dX10_isAbove_74 : decode cX10_isAbove 74 = .ok (.lrem, 1) := by decide +kernel
theorem dX10_isAbove_75 : decode cX10_isAbove 75 = .ok (.lcmp, 1) := by decide +kernel
theorem dX10_isAbove_76 : decode cX10_isAbove 76 = .ok (.ifCond .le 7, 3) := by decide +kernel
theorem dX10_isAbove_79 : decode cX10_isAbove 79 = .ok (.iconst 1, 1) := by decide +kernel
theorem dX10_isAbove_80 : decode cX10_isAbove 80 = .ok (.goto 4, 3) := by decide +kernel
theorem dX10_isAbove_83 : decode cX10_isAbove 83 = .ok (.iconst 0, 1) := by decide +kernel
theorem dX10_isAbove_84 : decode cX10_isAbove 84 = .ok (.ireturn, 1) := by decide +kernel
theorem dX10_restOf_0 : decode cX10_restOf 0 = .ok (.lload_n 0, 1) := by decide +kernel
theorem dX10_restOf_1 : decode cX10_restOf 1 = .ok (.lload 4, 2) := by decide +kernel
theorem dX10_restOf_3 : decode cX10_restOf 3 = .ok (.lrem, 1) := by decide +kernel
theorem dX10_restOf_4 : decode cX10_restOf 4 = .ok (.lstore 6, 2) := by decide +kernel
theorem dX10_restOf_6 : decode cX10_restOf 6 = .ok (.lload 6, 2) := by decide +kernel
theorem dX10_restOf_8 : decode cX10_restOf 8 = .ok (.ldc2_w 144, 3) := by decide +kernel
theorem dX10_restOf_11 : decode cX10_restOf 11 = .ok (.lmul, 1) := by decide +kernel
theorem dX10_restOf_12 : decode cX10_restOf 12 = .ok (.lload_n 2, 1) := by decide +kernel
theorem dX10_restOf_13 : decode cX10_restOf 13 = .ok (.ldc2_w 144, 3) := by decide +kernel
theorem dX10_restOf_16 : decode cX10_restOf 16 = .ok (.ldiv, 1) := by decide +kernel
theorem dX10_restOf_17 : decode cX10_restOf 17 = .ok (.ladd, 1) := by decide +kernel
theorem dX10_restOf_18 : decode cX10_restOf 18 = .ok (.lload 4, 2) := by decide +kernel
theorem dX10_restOf_20 : decode cX10_restOf 20 = .ok (.lrem, 1) := by decide +kernel
theorem dX10_restOf_21 : decode cX10_restOf 21 = .ok (.lstore 6, 2) := by decide +kernel
theorem dX10_restOf_23 : decode cX10_restOf 23 = .ok (.lload 6, 2) := by decide +kernel
theorem dX10_restOf_25 : decode cX10_restOf 25 = .ok (.ldc2_w 144, 3) := by decide +kernel
theorem dX10_restOf_28 : decode cX10_restOf 28 = .ok (.lmul, 1) := by decide +kernel
theorem dX10_restOf_29 : decode cX10_restOf 29 = .ok (.lload_n 2, 1) := by decide +kernel
theorem dX10_restOf_30 : decode cX10_restOf 30 = .ok (.ldc2_w 144, 3) := by decide +kernel
theorem dX10_restOf_33 : decode cX10_restOf 33 = .ok (.lrem, 1) := by decide +kernel
theorem dX10_restOf_34 : decode cX10_restOf 34 = .ok (.ladd, 1) := by decide +kernel
theorem dX10_restOf_35 : decode cX10_restOf 35 = .ok (.lload 4, 2) := by decide +kernel
theorem dX10_restOf_37 : decode cX10_restOf 37 = .ok (.lrem, 1) := by decide +kernel
theorem dX10_restOf_38 : decode cX10_restOf 38 = .ok (.lreturn, 1) := by decide +kernel
theorem dX10_divide_0 : decode cX10_divide 0 = .ok (.aload_n 0, 1) := by decide +kernel
theorem dX10_divide_1 : decode cX10_divide 1 = .ok (.lload_n 1, 1) := by decide +kernel
theorem dX10_divide_2 : decode cX10_divide 2 = .ok (.lload 5, 2) := by decide +kernel
theorem dX10_divide_4 : decode cX10_divide 4 = .ok (.ldiv, 1) := by decide +kernel
theorem dX10_divide_5 : decode cX10_divide 5 = .ok (.putfield 152, 3) := by decide +kernel
theorem dX10_divide_8 : decode cX10_divide 8 = .ok (.lload_n 1, 1) := by decide +kernel
theorem dX10_divide_9 : decode cX10_divide 9 = .ok (.lload 5, 2) := by decide +kernel
theorem dX10_divide_11 : decode cX10_divide 11 = .ok (.lrem, 1) := by decide +kernel
theorem dX10_divide_12 : decode cX10_divide 12 = .ok (.ldc2_w 144, 3) := by decide +kernel
theorem dX10_divide_15 : decode cX10_divide 15 = .ok (.lmul, 1) := by decide +kernel
theorem dX10_divide_16 : decode cX10_divide 16 = .ok (.lload_n 3, 1) := by decide +kernel
theorem dX10_divide_17 : decode cX10_divide 17 = .ok (.ldc2_w 144, 3) := by decide +kernel
theorem dX10_divide_20 : decode cX10_divide 20 = .ok (.ldiv, 1) := by decide +kernel
theorem dX10_divide_21 : decode cX10_divide 21 = .ok (.ladd, 1) := by decide +kernel
theorem dX10_divide_22 : decode cX10_divide 22 = .ok (.lstore 7, 2) := by decide +kernel
theorem dX10_divide_24 : decode cX10_divide 24 = .ok (.lload 7, 2) := by decide +kernel
theorem dX10_divide_26 : decode cX10_divide 26 = .ok (.lload 5, 2) := by decide +kernel
theorem dX10_divide_28 : decode cX10_divide 28 = .ok (.ldiv, 1) := by decide +kernel
theorem dX10_divide_29 : decode cX10_divide 29 = .ok (.lstore 9, 2) := by decide +kernel
theorem dX10_divide_31 : decode cX10_divide 31 = .ok (.lload 7, 2) := by decide +kernel
theorem dX10_divide_33 : decode cX10_divide 33 = .ok (.lload 5, 2) := by decide +kernel
theorem dX10_divide_35 : decode cX10_divide 35 = .ok (.lrem, 1) := by decide +kernel
theorem dX10_divide_36 : decode cX10_divide 36 = .ok (.ldc2_w 144, 3) := by decide +kernel
theorem dX10_divide_39 : decode cX10_divide 39 = .ok (.lmul, 1) := by decide +kernel
theorem dX10_divide_40 : decode cX10_divide 40 = .ok (.lload_n 3, 1) := by decide +kernel
theorem dX10_divide_41 : decode cX10_divide 41 = .ok (.ldc2_w 144, 3) := by decide +kernel
theorem dX10_divide_44 : decode cX10_divide 44 = .ok (.lrem, 1) := by decide +kernel
theorem dX10_divide_45 : decode cX10_divide 45 = .ok (.ladd, 1) := by decide +kernel
theorem dX10_divide_46 : decode cX10_divide 46 = .ok (.lstore 7, 2) := by decide +kernel
theorem dX10_divide_48 : decode cX10_divide 48 = .ok (.aload_n 0, 1) := by decide +kernel
theorem dX10_divide_49 : decode cX10_divide 49 = .ok (.lload 9, 2) := by decide +kernel
theorem dX10_divide_51 : decode cX10_divide 51 = .ok (.ldc2_w 144, 3) := by decide +kernel
theorem dX10_divide_54 : decode cX10_divide 54 = .ok (.lmul, 1) := by decide +kernel
theorem dX10_divide_55 : decode cX10_divide 55 = .ok (.lload 7, 2) := by decide +kernel
theorem dX10_divide_57 : decode cX10_divide 57 = .ok (.lload 5, 2) := by decide +kernel
theorem dX10_divide_59 : decode cX10_divide 59 = .ok (.ldiv, 1) := by decide +kernel
theorem dX10_divide_60 : decode cX10_divide 60 = .ok (.ladd, 1) := by decide +kernel
theorem dX10_divide_61 : decode cX10_divide 61 = .ok (.putfield 146, 3) := by decide +kernel
theorem dX10_divide_64 : decode cX10_divide 64 = .ok (.return_, 1) := by decide +kernel
set_option maxRecDepth 20000 in
theorem ggX10_rating_X10_isBridge : GoodIn wsX10_rating wsX10_isBridge := goodIn_r _ [14, 15, 16, 17, 13, 18, 62, 63, 64, 65, 66, 67, 68, 69, 70, 71, 72, 73, 74, 75, 76, 77, 78, 79, 80, 81, 82, 83, 84, 85, 86, 87, 88, 89, 90, 91, 92, 93, 94, 95, 96, 97, 98, 99, 100, 101, 102, 103, 104, 105, 106, 107, 108, 109, 110, 111, 112, 113, 114, 115] (by decide +kernel) (by decide +kernel)
set_option maxRecDepth 20000 in
theorem gX10_rating_X10_isBridge : GoodIn wsX10_rating (wsV RX10 126 RX10 yX10_isBridge wsX10_isBridge) := goodIn_app (goodIn_of _ (by decide +kernel)) ggX10_rating_X10_isBridge
set_option maxRecDepth 20000 in
theorem ggX10_rating_X10_rate : GoodIn wsX10_rating wsX10_rate := goodIn_r _ [22, 23, 24, 25, 26, 27, 2, 3, 28, 29, 8, 6, 9, 7, 30, 31, 13, 32, 33, 34, 35, 36, 37, 38, 39, 40, 41, 42, 43, 44, 45, 46, 47, 48, 49, 50, 51, 52, 53, 54, 62, 63, 64, 65, 66, 67, 68, 69, 70, 71, 72, 73, 74, 75, 76, 77, 78, 79, 80, 81, 82, 83, 84, 85, 86, 87, 88, 89, 90, 91, 92, 93, 94, 95, 96, 97, 98, 99, 100, 101, 102, 103, 104, 105, 106, 107, 108, 109, 110, 111, 112, 113, 114, 115] (by decide +kernel) (by decide +kernel)
set_option maxRecDepth 20000 in
theorem gX10_rating_X10_rate : GoodIn wsX10_rating (wsV RX10 199 RX10 yX10_rate wsX10_rate) := goodIn_app (goodIn_of _ (by decide +kernel)) ggX10_rating_X10_rate
set_option maxRecDepth 20000 in
theorem ggX10_rating_X10_restOf : GoodIn wsX10_rating wsX10_restOf := goodIn_r _ [57, 54] (by decide +kernel) (by decide +kernel)
set_option maxRecDepth 20000 in
theorem gX10_rating_X10_restOf : GoodIn wsX10_rating (va_wsS RX10 205 yX10_restOf wsX10_restOf) := goodIn_app (goodIn_of _ (by decide +kernel)) ggX10_rating_X10_restOf
set_option maxRecDepth 20000 in
theorem ggX10_rating_X10_divide : GoodIn wsX10_rating wsX10_divide := goodIn_r _ [61, 8, 54, 9, 62, 63, 64, 65, 66, 67, 68, 69, 70, 71, 72, 73, 74, 75, 76, 77, 78, 79, 80, 81, 82, 83, 84, 85, 86, 87, 88, 89, 90, 91, 92, 93, 94, 95, 96, 97, 98, 99, 100, 101, 102, 103, 104, 105, 106, 107, 108, 109, 110, 111, 112, 113, 114, 115] (by decide +kernel) (by decide +kernel)
set_option maxRecDepth 20000 in
theorem gX10_rating_X10_divide : GoodIn wsX10_rating (wsV RX10 209 RX10 yX10_divide wsX10_divide) := goodIn_app (goodIn_of _ (by decide +kernel)) ggX10_rating_X10_divide
theorem dX10_rating_0 : decode cX10_rating 0 = .ok (.aload_n 0, 1) := by decide +kernel
theorem dX10_rating_1 : decode cX10_rating 1 = .ok (.iload_n 1, 1) := by decide +kernel
theorem dX10_rating_2 : decode cX10_rating 2 = .ok (.invokevirtual 126, 3) := by decide +kernel
theorem dX10_rating_5 : decode cX10_rating 5 = .ok (.ifCond .eq 12, 3) := by decide +kernel
theorem dX10_rating_8 : decode cX10_rating 8 = .ok (.iload_n 2, 1) := by decide +kernel
theorem dX10_rating_9 : decode cX10_rating 9 = .ok (.ifCond .lt 8, 3) := by decide +kernel
theorem dX10_rating_12 : decode cX10_rating 12 = .ok (.iload_n 2, 1) := by decide +kernel
theorem dX10_rating_13 : decode cX10_rating 13 = .ok (.iconst 1, 1) := by decide +kernel
theorem dX10_rating_14 : decode cX10_rating 14 = .ok (.if_icmp .le 7, 3) := by decide +kernel
theorem dX10_rating_17 : decode cX10_rating 17 = .ok (.ldc2_w 197, 3) := by decide +kernel
theorem dX10_rating_20 : decode cX10_rating 20 = .ok (.lreturn, 1) := by decide +kernel
theorem dX10_rating_21 : decode cX10_rating 21 = .ok (.aload_n 0, 1) := by decide +kernel
theorem dX10_rating_22 : decode cX10_rating 22 = .ok (.iload_n 1, 1) := by decide +kernel
theorem dX10_rating_23 : decode cX10_rating 23 = .ok (.invokevirtual 199, 3) := by decide +kernel
theorem dX10_rating_26 : decode cX10_rating 26 = .ok (.aload_n 0, 1) := by decide +kernel
theorem dX10_rating_27 : decode cX10_rating 27 = .ok (.getfield 178, 3) := by decide +kernel
theorem dX10_rating_30 : decode cX10_rating 30 = .ok (.lconst 0, 1) := by decide +kernel
theorem dX10_rating_31 : decode cX10_rating 31 = .ok (.lcmp, 1) := by decide +kernel
theorem dX10_rating_32 : decode cX10_rating 32 = .ok (.ifCond .ne 15, 3) := by decide +kernel
theorem dX10_rating_35 : decode cX10_rating 35 = .ok (.aload_n 0, 1) := by decide +kernel
theorem dX10_rating_36 : decode cX10_rating 36 = .ok (.getfield 181, 3) := by decide +kernel
theorem dX10_rating_39 : decode cX10_rating 39 = .ok (.lconst 0, 1) := by decide +kernel
theorem dX10_rating_40 : decode cX10_rating 40 = .ok (.lcmp, 1) := by decide +kernel
theorem dX10_rating_41 : decode cX10_rating 41 = .ok (.ifCond .ne 6, 3) := by decide +kernel
theorem dX10_rating_44 : decode cX10_rating 44 = .ok (.iload_n 2, 1) := by decide +kernel
theorem dX10_rating_45 : decode cX10_rating 45 = .ok (.i2l, 1) := by decide +kernel
theorem dX10_rating_46 : decode cX10_rating 46 = .ok (.lreturn, 1) := by decide +kernel
theorem dX10_rating_47 : decode cX10_rating 47 = .ok (.ldc2_w 203, 3) := by decide +kernel
theorem dX10_rating_50 : decode cX10_rating 50 = .ok (.lstore_n 3, 1) := by decide +kernel
theorem dX10_rating_51 : decode cX10_rating 51 = .ok (.lload_n 3, 1) := by decide +kernel
theorem dX10_rating_52 : decode cX10_rating 52 = .ok (.ldc2_w 133, 3) := by decide +kernel
theorem dX10_rating_55 : decode cX10_rating 55 = .ok (.lcmp, 1) := by decide +kernel
theorem dX10_rating_56 : decode cX10_rating 56 = .ok (.ifCond .gt 105, 3) := by decide +kernel
theorem dX10_rating_59 : decode cX10_rating 59 = .ok (.aload_n 0, 1) := by decide +kernel
theorem dX10_rating_60 : decode cX10_rating 60 = .ok (.getfield 178, 3) := by decide +kernel
theorem dX10_rating_63 : decode cX10_rating 63 = .ok (.aload_n 0, 1) := by decide +kernel
theorem dX10_rating_64 : decode cX10_rating 64 = .ok (.getfield 181, 3) := by decide +kernel
theorem dX10_rating_67 : decode cX10_rating 67 = .ok (.lload_n 3, 1) := by decide +kernel
theorem dX10_rating_68 : decode cX10_rating 68 = .ok (.invokestatic 205, 3) := by decide +kernel
theorem dX10_rating_71 : decode cX10_rating 71 = .ok (.lconst 0, 1) := by decide +kernel
theorem dX10_rating_72 : decode cX10_rating 72 = .ok (.lcmp, 1) := by decide +kernel
theorem dX10_rating_73 : decode cX10_rating 73 = .ok (.ifCond .ne 81, 3) := by decide +kernel
theorem dX10_rating_76 : decode cX10_rating 76 = .ok (.aload_n 0, 1) := by decide +kernel
theorem dX10_rating_77 : decode cX10_rating 77 = .ok (.getfield 191, 3) := by decide +kernel
theorem dX10_rating_80 : decode cX10_rating 80 = .ok (.aload_n 0, 1) := by decide +kernel
theorem dX10_rating_81 : decode cX10_rating 81 = .ok (.getfield 194, 3) := by decide +kernel
theorem dX10_rating_84 : decode cX10_rating 84 = .ok (.lload_n 3, 1) := by decide +kernel
theorem dX10_rating_85 : decode cX10_rating 85 = .ok (.invokestatic 205, 3) := by decide +kernel
theorem dX10_rating_88 : decode cX10_rating 88 = .ok (.lconst 0, 1) := by decide +kernel
theorem dX10_rating_89 : decode cX10_rating 89 = .ok (.lcmp, 1) := by decide +kernel
theorem dX10_rating_90 : decode cX10_rating 90 = .ok (.ifCond .ne 64, 3) := by decide +kernel
theorem dX10_rating_93 : decode cX10_rating 93 = .ok (.aload_n 0, 1) := by decide +kernel
theorem dX10_rating_94 : decode cX10_rating 94 = .ok (.aload_n 0, 1) := by decide +kernel
theorem dX10_rating_95 : decode cX10_rating 95 = .ok (.getfield 178, 3) := by decide +kernel
theorem dX10_rating_98 : decode cX10_rating 98 = .ok (.aload_n 0, 1) := by decide +kernel
theorem dX10_rating_99 : decode cX10_rating 99 = .ok (.getfield 181, 3) := by decide +kernel
theorem dX10_rating_102 : decode cX10_rating 102 = .ok (.lload_n 3, 1) := by decide +kernel
theorem dX10_rating_103 : decode cX10_rating 103 = .ok (.invokevirtual 209, 3) := by decide +kernel
theorem dX10_rating_106 : decode cX10_rating 106 = .ok (.aload_n 0, 1) := by decide +kernel
theorem dX10_rating_107 : decode cX10_rating 107 = .ok (.aload_n 0, 1) := by decide +kernel
theorem dX10_rating_108 : decode cX10_rating 108 = .ok (.getfield 152, 3) := by decide +kernel
theorem dX10_rating_111 : decode cX10_rating 111 = .ok (.putfield 178, 3) := by decide +kernel
theorem dX10_rating_114 : decode cX10_rating 114 = .ok (.aload_n 0, 1) := by decide +kernel
theorem dX10_rating_115 : decode cX10_rating 115 = .ok (.aload_n 0, 1) := by decide +kernel
theorem dX10_rating_116 : decode cX10_rating 116 = .ok (.getfield 146, 3) := by decide +kernel
theorem dX10_rating_119 : decode cX10_rating 119 = .ok (.putfield 181, 3) := by decide +kernel
theorem dX10_rating_122 : decode cX10_rating 122 = .ok (.aload_n 0, 1) := by decide +kernel
theorem dX10_rating_123 : decode cX10_rating 123 = .ok (.aload_n 0, 1) := by decide +kernel
theorem dX10_rating_124 : decode cX10_rating 124 = .ok (.getfield 191, 3) := by decide +kernel
theorem dX10_rating_127 : decode cX10_rating 127 = .ok (.aload_n 0, 1) := by decide +kernel
theorem dX10_rating_128 : decode cX10_rating 128 = .ok (.getfield 194, 3) := by decide +kernel
theorem dX10_rating_131 : decode cX10_rating 131 = .ok (.lload_n 3, 1) := by decide +kernel
theorem dX10_rating_132 : decode cX10_rating 132 = .ok (.invokevirtual 209, 3) := by decide +kernel
theorem dX10_rating_135 : decode cX10_rating 135 = .ok (.aload_n 0, 1) := by decide +kernel
theorem dX10_rating_136 : decode cX10_rating 136 = .ok (.aload_n 0, 1) := by decide +kernel
theorem dX10_rating_137 : decode cX10_rating 137 = .ok (.getfield 152, 3) := by decide +kernel
theorem dX10_rating_140 : decode cX10_rating 140 = .ok (.putfield 191, 3) := by decide +kernel
theorem dX10_rating_143 : decode cX10_rating 143 = .ok (.aload_n 0, 1) := by decide +kernel
theorem dX10_rating_144 : decode cX10_rating 144 = .ok (.aload_n 0, 1) := by decide +kernel
theorem dX10_rating_145 : decode cX10_rating 145 = .ok (.getfield 146, 3) := by decide +kernel
theorem dX10_rating_148 : decode cX10_rating 148 = .ok (.putfield 194, 3) := by decide +kernel
theorem dX10_rating_151 : decode cX10_rating 151 = .ok (.goto (-92), 3) := by decide +kernel
theorem dX10_rating_154 : decode cX10_rating 154 = .ok (.lload_n 3, 1) := by decide +kernel
theorem dX10_rating_155 : decode cX10_rating 155 = .ok (.lconst 1, 1) := by decide +kernel
theorem dX10_rating_156 : decode cX10_rating 156 = .ok (.ladd, 1) := by decide +kernel
theorem dX10_rating_157 : decode cX10_rating 157 = .ok (.lstore_n 3, 1) := by decide +kernel
theorem dX10_rating_158 : decode cX10_rating 158 = .ok (.goto (-107), 3) := by decide +kernel
theorem dX10_rating_161 : decode cX10_rating 161 = .ok (.iload_n 2, 1) := by decide +kernel
theorem dX10_rating_162 : decode cX10_rating 162 = .ok (.ifCond .ne 10, 3) := by decide +kernel
theorem dX10_rating_165 : decode cX10_rating 165 = .ok (.aload_n 0, 1) := by decide +kernel
theorem dX10_rating_166 : decode cX10_rating 166 = .ok (.getfield 181, 3) := by decide +kernel
theorem dX10_rating_169 : decode cX10_rating 169 = .ok (.goto 7, 3) := by decide +kernel
theorem dX10_rating_172 : decode cX10_rating 172 = .ok (.aload_n 0, 1) := by decide +kernel
theorem dX10_rating_173 : decode cX10_rating 173 = .ok (.getfield 194, 3) := by decide +kernel
theorem dX10_rating_176 : decode cX10_rating 176 = .ok (.lreturn, 1) := by decide +kernel
set_option maxRecDepth 20000 in
theorem ggX10_kept_X10_isBridge : GoodIn wsX10_kept wsX10_isBridge := goodIn_r _ [5, 6, 7, 8, 4, 9, 10, 11, 12, 13, 14, 15, 16, 17, 18, 19, 20, 21, 22, 23, 24, 25, 26, 27, 28, 29, 30, 31, 32, 33, 34, 35, 36, 37, 38, 39, 40, 41, 42, 43, 44, 45, 46, 47, 48, 49, 50, 51, 52, 53, 54, 55, 56, 57, 58, 59, 60, 61, 62, 63] (by decide +kernel) (by decide +kernel)
set_option maxRecDepth 20000 in
theorem gX10_kept_X10_isBridge : GoodIn wsX10_kept (wsV RX10 126 RX10 yX10_isBridge wsX10_isBridge) := goodIn_app (goodIn_of _ (by decide +kernel)) ggX10_kept_X10_isBridge
theorem dX10_kept_0 : decode cX10_kept 0 = .ok (.aload_n 0, 1) := by decide +kernel
theorem dX10_kept_1 : decode cX10_kept 1 = .ok (.iload_n 1, 1) := by decide +kernel
theorem dX10_kept_2 : decode cX10_kept 2 = .ok (.invokevirtual 126, 3) := by decide +kernel
theorem dX10_kept_5 : decode cX10_kept 5 = .ok (.ireturn, 1) := by decide +kernel
set_option maxRecDepth 20000 in
theorem ggX10_why_X10_rate : GoodIn wsX10_why wsX10_rate := goodIn_r _ [11, 12, 13, 14, 15, 16, 17, 18, 19, 20, 21, 22, 23, 24, 25, 26, 10, 27, 28, 29, 30, 31, 32, 33, 34, 35, 36, 37, 38, 39, 40, 41, 42, 43, 44, 45, 46, 47, 48, 49, 54, 55, 56, 57, 58, 59, 60, 61, 62, 63, 64, 65, 66, 67, 68, 69, 70, 71, 72, 73, 74, 75, 76, 77, 78, 79, 80, 81, 82, 83, 84, 85, 86, 87, 88, 89, 90, 91, 92, 93, 94, 95, 96, 97, 98, 99, 100, 101, 102, 103, 104, 105, 106, 107] (by decide +kernel) (by decide +kernel)
set_option maxRecDepth 20000 in
theorem gX10_why_X10_rate : GoodIn wsX10_why (wsV RX10 199 RX10 yX10_rate wsX10_rate) := goodIn_app (goodIn_of _ (by decide +kernel)) ggX10_why_X10_rate
set_option maxRecDepth 20000 in
theorem ggX10_why_X10_isAbove : GoodIn wsX10_why wsX10_isAbove := goodIn_r _ [53, 18, 17, 44, 24, 22, 54, 55, 56, 57, 58, 59, 60, 61, 62, 63, 64, 65, 66, 67, 68, 69, 70, 71, 72, 73, 74, 75, 76, 77, 78, 79, 80, 81, 82, 83, 84, 85, 86, 87, 88, 89, 90, 91, 92, 93, 94, 95, 96, 97, 98, 99, 100, 101, 102, 103, 104, 105, 106, 107] (by decide +kernel) (by decide +kernel)
set_option maxRecDepth 20000 in
theorem gX10_why_X10_isAbove : GoodIn wsX10_why (wsV RX10 213 RX10 yX10_isAbove wsX10_isAbove) := goodIn_app (goodIn_of _ (by decide +kernel)) ggX10_why_X10_isAbove
theorem dX10_why_0 : decode cX10_why 0 = .ok (.aload_n 0, 1) := by decide +kernel
theorem dX10_why_1 : decode cX10_why 1 = .ok (.getfield 25, 3) := by decide +kernel
theorem dX10_why_4 : decode cX10_why 4 = .ok (.iload_n 1, 1) := by decide +kernel
theorem dX10_why_5 : decode cX10_why 5 = .ok (.baload, 1) := by decide +kernel
theorem dX10_why_6 : decode cX10_why 6 = .ok (.ifCond .ne 5, 3) := by decide +kernel
theorem dX10_why_9 : decode cX10_why 9 = .ok (.iconst 1, 1) := by decide +kernel
theorem dX10_why_10 : decode cX10_why 10 = .ok (.ireturn, 1) := by decide +kernel
theorem dX10_why_11 : decode cX10_why 11 = .ok (.aload_n 0, 1) := by decide +kernel
theorem dX10_why_12 : decode cX10_why 12 = .ok (.getfield 19, 3) := by decide +kernel
theorem dX10_why_15 : decode cX10_why 15 = .ok (.iload_n 1, 1) := by decide +kernel
theorem dX10_why_16 : decode cX10_why 16 = .ok (.iaload, 1) := by decide +kernel
theorem dX10_why_17 : decode cX10_why 17 = .ok (.aload_n 0, 1) := by decide +kernel
theorem dX10_why_18 : decode cX10_why 18 = .ok (.getfield 65, 3) := by decide +kernel
theorem dX10_why_21 : decode cX10_why 21 = .ok (.if_icmp .ge 5, 3) := by decide +kernel
theorem dX10_why_24 : decode cX10_why 24 = .ok (.iconst 2, 1) := by decide +kernel
theorem dX10_why_25 : decode cX10_why 25 = .ok (.ireturn, 1) := by decide +kernel
theorem dX10_why_26 : decode cX10_why 26 = .ok (.aload_n 0, 1) := by decide +kernel
theorem dX10_why_27 : decode cX10_why 27 = .ok (.getfield 22, 3) := by decide +kernel
theorem dX10_why_30 : decode cX10_why 30 = .ok (.iload_n 1, 1) := by decide +kernel
theorem dX10_why_31 : decode cX10_why 31 = .ok (.iaload, 1) := by decide +kernel
theorem dX10_why_32 : decode cX10_why 32 = .ok (.aload_n 0, 1) := by decide +kernel
theorem dX10_why_33 : decode cX10_why 33 = .ok (.getfield 69, 3) := by decide +kernel
theorem dX10_why_36 : decode cX10_why 36 = .ok (.if_icmp .ge 5, 3) := by decide +kernel
theorem dX10_why_39 : decode cX10_why 39 = .ok (.iconst 3, 1) := by decide +kernel
theorem dX10_why_40 : decode cX10_why 40 = .ok (.ireturn, 1) := by decide +kernel
theorem dX10_why_41 : decode cX10_why 41 = .ok (.aload_n 0, 1) := by decide +kernel
theorem dX10_why_42 : decode cX10_why 42 = .ok (.getfield 29, 3) := by decide +kernel
theorem dX10_why_45 : decode cX10_why 45 = .ok (.iload_n 1, 1) := by decide +kernel
theorem dX10_why_46 : decode cX10_why 46 = .ok (.iaload, 1) := by decide +kernel
theorem dX10_why_47 : decode cX10_why 47 = .ok (.ifCond .lt 28, 3) := by decide +kernel
theorem dX10_why_50 : decode cX10_why 50 = .ok (.aload_n 0, 1) := by decide +kernel
theorem dX10_why_51 : decode cX10_why 51 = .ok (.aload_n 0, 1) := by decide +kernel
theorem dX10_why_52 : decode cX10_why 52 = .ok (.getfield 29, 3) := by decide +kernel
theorem dX10_why_55 : decode cX10_why 55 = .ok (.iload_n 1, 1) := by decide +kernel
theorem dX10_why_56 : decode cX10_why 56 = .ok (.iaload, 1) := by decide +kernel
theorem dX10_why_57 : decode cX10_why 57 = .ok (.invokevirtual 199, 3) := by decide +kernel
theorem dX10_why_60 : decode cX10_why 60 = .ok (.aload_n 0, 1) := by decide +kernel
theorem dX10_why_61 : decode cX10_why 61 = .ok (.iconst 1, 1) := by decide +kernel
theorem dX10_why_62 : decode cX10_why 62 = .ok (.iconst 1, 1) := by decide +kernel
theorem dX10_why_63 : decode cX10_why 63 = .ok (.invokevirtual 213, 3) := by decide +kernel
theorem dX10_why_66 : decode cX10_why 66 = .ok (.ifCond .eq 7, 3) := by decide +kernel
theorem dX10_why_69 : decode cX10_why 69 = .ok (.iconst 4, 1) := by decide +kernel
theorem dX10_why_70 : decode cX10_why 70 = .ok (.goto 4, 3) := by decide +kernel
theorem dX10_why_73 : decode cX10_why 73 = .ok (.iconst 0, 1) := by decide +kernel
theorem dX10_why_74 : decode cX10_why 74 = .ok (.ireturn, 1) := by decide +kernel
theorem dX10_why_75 : decode cX10_why 75 = .ok (.iconst 0, 1) := by decide +kernel
theorem dX10_why_76 : decode cX10_why 76 = .ok (.ireturn, 1) := by decide +kernel
theorem dX10_isBarred_0 : decode cX10_isBarred 0 = .ok (.iload_n 2, 1) := by decide +kernel
theorem dX10_isBarred_1 : decode cX10_isBarred 1 = .ok (.sipush 1440, 3) := by decide +kernel
theorem dX10_isBarred_4 : decode cX10_isBarred 4 = .ok (.irem, 1) := by decide +kernel
theorem dX10_isBarred_5 : decode cX10_isBarred 5 = .ok (.istore_n 3, 1) := by decide +kernel
theorem dX10_isBarred_6 : decode cX10_isBarred 6 = .ok (.iconst 0, 1) := by decide +kernel
theorem dX10_isBarred_7 : decode cX10_isBarred 7 = .ok (.istore 4, 2) := by decide +kernel
theorem dX10_isBarred_9 : decode cX10_isBarred 9 = .ok (.iconst 3, 1) := by decide +kernel
theorem dX10_isBarred_10 : decode cX10_isBarred 10 = .ok (.iload_n 1, 1) := by decide +kernel
theorem dX10_isBarred_11 : decode cX10_isBarred 11 = .ok (.imul, 1) := by decide +kernel
theorem dX10_isBarred_12 : decode cX10_isBarred 12 = .ok (.istore 5, 2) := by decide +kernel
theorem dX10_isBarred_14 : decode cX10_isBarred 14 = .ok (.iload 5, 2) := by decide +kernel
theorem dX10_isBarred_16 : decode cX10_isBarred 16 = .ok (.iconst 3, 1) := by decide +kernel
theorem dX10_isBarred_17 : decode cX10_isBarred 17 = .ok (.iload_n 1, 1) := by decide +kernel
theorem dX10_isBarred_18 : decode cX10_isBarred 18 = .ok (.imul, 1) := by decide +kernel
theorem dX10_isBarred_19 : decode cX10_isBarred 19 = .ok (.aload_n 0, 1) := by decide +kernel
theorem dX10_isBarred_20 : decode cX10_isBarred 20 = .ok (.getfield 32, 3) := by decide +kernel
theorem dX10_isBarred_23 : decode cX10_isBarred 23 = .ok (.iload_n 1, 1) := by decide +kernel
theorem dX10_isBarred_24 : decode cX10_isBarred 24 = .ok (.iaload, 1) := by decide +kernel
theorem dX10_isBarred_25 : decode cX10_isBarred 25 = .ok (.iadd, 1) := by decide +kernel
theorem dX10_isBarred_26 : decode cX10_isBarred 26 = .ok (.if_icmp .ge 97, 3) := by decide +kernel
theorem dX10_isBarred_29 : decode cX10_isBarred 29 = .ok (.aload_n 0, 1) := by decide +kernel
theorem dX10_isBarred_30 : decode cX10_isBarred 30 = .ok (.getfield 35, 3) := by decide +kernel
theorem dX10_isBarred_33 : decode cX10_isBarred 33 = .ok (.iload 5, 2) := by decide +kernel
theorem dX10_isBarred_35 : decode cX10_isBarred 35 = .ok (.iaload, 1) := by decide +kernel
theorem dX10_isBarred_36 : decode cX10_isBarred 36 = .ok (.aload_n 0, 1) := by decide +kernel
theorem dX10_isBarred_37 : decode cX10_isBarred 37 = .ok (.getfield 38, 3) := by decide +kernel
theorem dX10_isBarred_40 : decode cX10_isBarred 40 = .ok (.iload 5, 2) := by decide +kernel
theorem dX10_isBarred_42 : decode cX10_isBarred 42 = .ok (.iaload, 1) := by decide +kernel
theorem dX10_isBarred_43 : decode cX10_isBarred 43 = .ok (.if_icmp .le 7, 3) := by decide +kernel
theorem dX10_isBarred_46 : decode cX10_isBarred 46 = .ok (.iconst 1, 1) := by decide +kernel
theorem dX10_isBarred_47 : decode cX10_isBarred 47 = .ok (.goto 4, 3) := by decide +kernel
theorem dX10_isBarred_50 : decode cX10_isBarred 50 = .ok (.iconst 0, 1) := by decide +kernel
theorem dX10_isBarred_51 : decode cX10_isBarred 51 = .ok (.istore 6, 2) := by decide +kernel
theorem dX10_isBarred_53 : decode cX10_isBarred 53 = .ok (.iload 4, 2) := by decide +kernel
theorem dX10_isBarred_55 : decode cX10_isBarred 55 = .ok (.ifCond .ne 55, 3) := by decide +kernel
theorem dX10_isBarred_58 : decode cX10_isBarred 58 = .ok (.iload 6, 2) := by decide +kernel
theorem dX10_isBarred_60 : decode cX10_isBarred 60 = .ok (.ifCond .eq 28, 3) := by decide +kernel
theorem dX10_isBarred_63 : decode cX10_isBarred 63 = .ok (.iload_n 3, 1) := by decide +kernel
theorem dX10_isBarred_64 : decode cX10_isBarred 64 = .ok (.aload_n 0, 1) := by decide +kernel
theorem dX10_isBarred_65 : decode cX10_isBarred 65 = .ok (.getfield 35, 3) := by decide +kernel
theorem dX10_isBarred_68 : decode cX10_isBarred 68 = .ok (.iload 5, 2) := by decide +kernel
theorem dX10_isBarred_70 : decode cX10_isBarred 70 = .ok (.iaload, 1) := by decide +kernel
theorem dX10_isBarred_71 : decode cX10_isBarred 71 = .ok (.if_icmp .ge 39, 3) := by decide +kernel
theorem dX10_isBarred_74 : decode cX10_isBarred 74 = .ok (.iload_n 3, 1) := by decide +kernel
theorem dX10_isBarred_75 : decode cX10_isBarred 75 = .ok (.aload_n 0, 1) := by decide +kernel
theorem dX10_isBarred_76 : decode cX10_isBarred 76 = .ok (.getfield 38, 3) := by decide +kernel
theorem dX10_isBarred_79 : decode cX10_isBarred 79 = .ok (.iload 5, 2) := by decide +kernel
theorem dX10_isBarred_81 : decode cX10_isBarred 81 = .ok (.iaload, 1) := by decide +kernel
theorem dX10_isBarred_82 : decode cX10_isBarred 82 = .ok (.if_icmp .gt 32, 3) := by decide +kernel
theorem dX10_isBarred_85 : decode cX10_isBarred 85 = .ok (.goto 25, 3) := by decide +kernel
theorem dX10_isBarred_88 : decode cX10_isBarred 88 = .ok (.iload_n 3, 1) := by decide +kernel
theorem dX10_isBarred_89 : decode cX10_isBarred 89 = .ok (.aload_n 0, 1) := by decide +kernel
theorem dX10_isBarred_90 : decode cX10_isBarred 90 = .ok (.getfield 35, 3) := by decide +kernel
theorem dX10_isBarred_93 : decode cX10_isBarred 93 = .ok (.iload 5, 2) := by decide +kernel
theorem dX10_isBarred_95 : decode cX10_isBarred 95 = .ok (.iaload, 1) := by decide +kernel
theorem dX10_isBarred_96 : decode cX10_isBarred 96 = .ok (.if_icmp .lt 18, 3) := by decide +kernel
theorem dX10_isBarred_99 : decode cX10_isBarred 99 = .ok (.iload_n 3, 1) := by decide +kernel
theorem dX10_isBarred_100 : decode cX10_isBarred 100 = .ok (.aload_n 0, 1) := by decide +kernel
theorem dX10_isBarred_101 : decode cX10_isBarred 101 = .ok (.getfield 38, 3) := by decide +kernel
theorem dX10_isBarred_104 : decode cX10_isBarred 104 = .ok (.iload 5, 2) := by decide +kernel
theorem dX10_isBarred_106 : decode cX10_isBarred 106 = .ok (.iaload, 1) := by decide +kernel
theorem dX10_isBarred_107 : decode cX10_isBarred 107 = .ok (.if_icmp .gt 7, 3) := by decide +kernel
theorem dX10_isBarred_110 : decode cX10_isBarred 110 = .ok (.iconst 1, 1) := by decide +kernel
theorem dX10_isBarred_111 : decode cX10_isBarred 111 = .ok (.goto 4, 3) := by decide +kernel
theorem dX10_isBarred_114 : decode cX10_isBarred 114 = .ok (.iconst 0, 1) := by decide +kernel
theorem dX10_isBarred_115 : decode cX10_isBarred 115 = .ok (.istore 4, 2) := by decide +kernel
theorem dX10_isBarred_117 : decode cX10_isBarred 117 = .ok (.iinc 5 1, 3) := by decide +kernel
theorem dX10_isBarred_120 : decode cX10_isBarred 120 = .ok (.goto (-106), 3) := by decide +kernel
theorem dX10_isBarred_123 : decode cX10_isBarred 123 = .ok (.iload 4, 2) := by decide +kernel
theorem dX10_isBarred_125 : decode cX10_isBarred 125 = .ok (.ireturn, 1) := by decide +kernel
set_option maxRecDepth 20000 in
theorem ggX10_earliest_X10_isBarred : GoodIn wsX10_earliest wsX10_isBarred := goodIn_r _ [5, 6, 7, 8, 9, 10, 11, 12, 13, 14, 15, 16, 17, 18, 19, 20, 21, 22, 23, 24, 25, 26, 27, 28, 29, 30, 31, 32, 33, 34, 35, 36, 37, 38, 39, 40, 41, 42, 43, 44, 45, 46, 47, 48, 49, 50, 51, 52, 53, 54, 55, 56, 57, 58, 59, 60, 61, 62] (by decide +kernel) (by decide +kernel)
set_option maxRecDepth 20000 in
theorem gX10_earliest_X10_isBarred : GoodIn wsX10_earliest (wsV RX10 217 RX10 yX10_isBarred wsX10_isBarred) := goodIn_app (goodIn_of _ (by decide +kernel)) ggX10_earliest_X10_isBarred
theorem dX10_earliest_0 : decode cX10_earliest 0 = .ok (.iconst 0, 1) := by decide +kernel
theorem dX10_earliest_1 : decode cX10_earliest 1 = .ok (.istore_n 3, 1) := by decide +kernel
theorem dX10_earliest_2 : decode cX10_earliest 2 = .ok (.iload_n 3, 1) := by decide +kernel
theorem dX10_earliest_3 : decode cX10_earliest 3 = .ok (.sipush 1440, 3) := by decide +kernel
theorem dX10_earliest_6 : decode cX10_earliest 6 = .ok (.if_icmp .ge 24, 3) := by decide +kernel
theorem dX10_earliest_9 : decode cX10_earliest 9 = .ok (.aload_n 0, 1) := by decide +kernel
theorem dX10_earliest_10 : decode cX10_earliest 10 = .ok (.iload_n 1, 1) := by decide +kernel
theorem dX10_earliest_11 : decode cX10_earliest 11 = .ok (.iload_n 2, 1) := by decide +kernel
theorem dX10_earliest_12 : decode cX10_earliest 12 = .ok (.iload_n 3, 1) := by decide +kernel
theorem dX10_earliest_13 : decode cX10_earliest 13 = .ok (.iadd, 1) := by decide +kernel
theorem dX10_earliest_14 : decode cX10_earliest 14 = .ok (.invokevirtual 217, 3) := by decide +kernel
theorem dX10_earliest_17 : decode cX10_earliest 17 = .ok (.ifCond .ne 7, 3) := by decide +kernel
theorem dX10_earliest_20 : decode cX10_earliest 20 = .ok (.iload_n 2, 1) := by decide +kernel
theorem dX10_earliest_21 : decode cX10_earliest 21 = .ok (.iload_n 3, 1) := by decide +kernel
theorem dX10_earliest_22 : decode cX10_earliest 22 = .ok (.iadd, 1) := by decide +kernel
theorem dX10_earliest_23 : decode cX10_earliest 23 = .ok (.ireturn, 1) := by decide +kernel
theorem dX10_earliest_24 : decode cX10_earliest 24 = .ok (.iinc 3 1, 3) := by decide +kernel
theorem dX10_earliest_27 : decode cX10_earliest 27 = .ok (.goto (-25), 3) := by decide +kernel
theorem dX10_earliest_30 : decode cX10_earliest 30 = .ok (.bipush (-2), 2) := by decide +kernel
theorem dX10_earliest_32 : decode cX10_earliest 32 = .ok (.ireturn, 1) := by decide +kernel
theorem dX10_takes_0 : decode cX10_takes 0 = .ok (.aload_n 0, 1) := by decide +kernel
theorem dX10_takes_1 : decode cX10_takes 1 = .ok (.getfield 16, 3) := by decide +kernel
theorem dX10_takes_4 : decode cX10_takes 4 = .ok (.iload_n 1, 1) := by decide +kernel
theorem dX10_takes_5 : decode cX10_takes 5 = .ok (.iaload, 1) := by decide +kernel
theorem dX10_takes_6 : decode cX10_takes 6 = .ok (.aload_n 0, 1) := by decide +kernel
theorem dX10_takes_7 : decode cX10_takes 7 = .ok (.getfield 29, 3) := by decide +kernel
theorem dX10_takes_10 : decode cX10_takes 10 = .ok (.iload_n 1, 1) := by decide +kernel
theorem dX10_takes_11 : decode cX10_takes 11 = .ok (.iaload, 1) := by decide +kernel
theorem dX10_takes_12 : decode cX10_takes 12 = .ok (.ifCond .lt 21, 3) := by decide +kernel
theorem dX10_takes_15 : decode cX10_takes 15 = .ok (.aload_n 0, 1) := by decide +kernel
theorem dX10_takes_16 : decode cX10_takes 16 = .ok (.getfield 44, 3) := by decide +kernel
theorem dX10_takes_19 : decode cX10_takes 19 = .ok (.aload_n 0, 1) := by decide +kernel
theorem dX10_takes_20 : decode cX10_takes 20 = .ok (.getfield 29, 3) := by decide +kernel
theorem dX10_takes_23 : decode cX10_takes 23 = .ok (.iload_n 1, 1) := by decide +kernel
theorem dX10_takes_24 : decode cX10_takes 24 = .ok (.iaload, 1) := by decide +kernel
theorem dX10_takes_25 : decode cX10_takes 25 = .ok (.baload, 1) := by decide +kernel
theorem dX10_takes_26 : decode cX10_takes 26 = .ok (.ifCond .eq 7, 3) := by decide +kernel
theorem dX10_takes_29 : decode cX10_takes 29 = .ok (.iconst 2, 1) := by decide +kernel
theorem dX10_takes_30 : decode cX10_takes 30 = .ok (.goto 4, 3) := by decide +kernel
theorem dX10_takes_33 : decode cX10_takes 33 = .ok (.iconst 1, 1) := by decide +kernel
theorem dX10_takes_34 : decode cX10_takes 34 = .ok (.imul, 1) := by decide +kernel
theorem dX10_takes_35 : decode cX10_takes 35 = .ok (.ireturn, 1) := by decide +kernel
set_option maxRecDepth 20000 in
theorem ggX10_findBearing_X10_why : GoodIn wsX10_findBearing wsX10_why := goodIn_r _ [7, 8, 9, 10, 11, 12, 13, 14, 15, 16, 6, 17, 18, 19, 20, 21, 22, 23, 24, 25, 26, 27, 28, 29, 30, 31, 32, 33, 34, 35, 36, 37, 38, 39, 40, 41, 42, 43, 44, 45, 46, 47, 48, 49, 50, 51, 52, 53, 54, 55, 56, 57, 58, 59, 71, 72, 73, 74, 75, 76, 77, 78, 79, 80, 81, 82, 83, 84, 85, 86, 87, 88, 89, 90, 91, 92, 93, 94, 95, 96, 97, 98, 99, 100, 101, 102, 103, 104, 105, 106, 107, 108, 109, 110, 111, 112, 113, 114, 115, 116, 117, 118, 119, 120, 121, 122, 123, 124] (by decide +kernel) (by decide +kernel)
set_option maxRecDepth 20000 in
theorem gX10_findBearing_X10_why : GoodIn wsX10_findBearing (wsV RX10 220 RX10 yX10_why wsX10_why) := goodIn_app (goodIn_of _ (by decide +kernel)) ggX10_findBearing_X10_why
set_option maxRecDepth 20000 in
theorem ggX10_findBearing_X10_earliest : GoodIn wsX10_findBearing wsX10_earliest := goodIn_r _ [63, 64, 65, 66, 6, 67, 68, 69, 70, 71, 72, 73, 74, 75, 76, 77, 78, 79, 80, 81, 82, 83, 84, 85, 86, 87, 88, 89, 90, 91, 92, 93, 94, 95, 96, 97, 98, 99, 100, 101, 102, 103, 104, 105, 106, 107, 108, 109, 110, 111, 112, 113, 114, 115, 116, 117, 118, 119, 120, 121, 122, 123, 124] (by decide +kernel) (by decide +kernel)
set_option maxRecDepth 20000 in
theorem gX10_findBearing_X10_earliest : GoodIn wsX10_findBearing (wsV RX10 224 RX10 yX10_earliest wsX10_earliest) := goodIn_app (goodIn_of _ (by decide +kernel)) ggX10_findBearing_X10_earliest
theorem dX10_findBearing_0 : decode cX10_findBearing 0 = .ok (.iconst 0, 1) := by decide +kernel
theorem dX10_findBearing_1 : decode cX10_findBearing 1 = .ok (.istore_n 1, 1) := by decide +kernel
theorem dX10_findBearing_2 : decode cX10_findBearing 2 = .ok (.iload_n 1, 1) := by decide +kernel
theorem dX10_findBearing_3 : decode cX10_findBearing 3 = .ok (.aload_n 0, 1) := by decide +kernel
theorem dX10_findBearing_4 : decode cX10_findBearing 4 = .ok (.getfield 99, 3) := by decide +kernel
theorem dX10_findBearing_7 : decode cX10_findBearing 7 = .ok (.if_icmp .ge 39, 3) := by decide +kernel
theorem dX10_findBearing_10 : decode cX10_findBearing 10 = .ok (.aload_n 0, 1) := by decide +kernel
theorem dX10_findBearing_11 : decode cX10_findBearing 11 = .ok (.getfield 90, 3) := by decide +kernel
theorem dX10_findBearing_14 : decode cX10_findBearing 14 = .ok (.iload_n 1, 1) := by decide +kernel
theorem dX10_findBearing_15 : decode cX10_findBearing 15 = .ok (.aload_n 0, 1) := by decide +kernel
theorem dX10_findBearing_16 : decode cX10_findBearing 16 = .ok (.iload_n 1, 1) := by decide +kernel
theorem dX10_findBearing_17 : decode cX10_findBearing 17 = .ok (.invokevirtual 220, 3) := by decide +kernel
theorem dX10_findBearing_20 : decode cX10_findBearing 20 = .ok (.ifCond .ne 18, 3) := by decide +kernel
theorem dX10_findBearing_23 : decode cX10_findBearing 23 = .ok (.aload_n 0, 1) := by decide +kernel
theorem dX10_findBearing_24 : decode cX10_findBearing 24 = .ok (.iload_n 1, 1) := by decide +kernel
theorem dX10_findBearing_25 : decode cX10_findBearing 25 = .ok (.iconst 0, 1) := by decide +kernel
theorem dX10_findBearing_26 : decode cX10_findBearing 26 = .ok (.invokevirtual 224, 3) := by decide +kernel
theorem dX10_findBearing_29 : decode cX10_findBearing 29 = .ok (.bipush (-2), 2) := by decide +kernel
theorem dX10_findBearing_31 : decode cX10_findBearing 31 = .ok (.if_icmp .eq 7, 3) := by decide +kernel
theorem dX10_findBearing_34 : decode cX10_findBearing 34 = .ok (.iconst 1, 1) := by decide +kernel
theorem dX10_findBearing_35 : decode cX10_findBearing 35 = .ok (.goto 4, 3) := by decide +kernel
theorem dX10_findBearing_38 : decode cX10_findBearing 38 = .ok (.iconst 0, 1) := by decide +kernel
theorem dX10_findBearing_39 : decode cX10_findBearing 39 = .ok (.bastore, 1) := by decide +kernel
theorem dX10_findBearing_40 : decode cX10_findBearing 40 = .ok (.iinc 1 1, 3) := by decide +kernel
theorem dX10_findBearing_43 : decode cX10_findBearing 43 = .ok (.goto (-41), 3) := by decide +kernel
theorem dX10_findBearing_46 : decode cX10_findBearing 46 = .ok (.return_, 1) := by decide +kernel
set_option maxRecDepth 20000 in
theorem ggX10_endOf_X10_earliest : GoodIn wsX10_endOf wsX10_earliest := goodIn_r _ [5, 6, 7, 8, 4, 9, 10, 11, 12, 20, 21, 22, 23, 24, 25, 26, 27, 28, 29, 30, 31, 32, 33, 34, 35, 36, 37, 38, 39, 40, 41, 42, 43, 44, 45, 46, 47, 48, 49, 50, 51, 52, 53, 54, 55, 56, 57, 58, 59, 60, 61, 62, 63, 64, 65, 66, 67, 68, 69, 70, 71, 72, 73] (by decide +kernel) (by decide +kernel)
set_option maxRecDepth 20000 in
theorem gX10_endOf_X10_earliest : GoodIn wsX10_endOf (wsV RX10 224 RX10 yX10_earliest wsX10_earliest) := goodIn_app (goodIn_of _ (by decide +kernel)) ggX10_endOf_X10_earliest
set_option maxRecDepth 20000 in
theorem ggX10_endOf_X10_takes : GoodIn wsX10_endOf wsX10_takes := goodIn_r _ [16, 17, 18, 19, 20, 21, 22, 23, 24, 25, 26, 27, 28, 29, 30, 31, 32, 33, 34, 35, 36, 37, 38, 39, 40, 41, 42, 43, 44, 45, 46, 47, 48, 49, 50, 51, 52, 53, 54, 55, 56, 57, 58, 59, 60, 61, 62, 63, 64, 65, 66, 67, 68, 69, 70, 71, 72, 73] (by decide +kernel) (by decide +kernel)
set_option maxRecDepth 20000 in
theorem gX10_endOf_X10_takes : GoodIn wsX10_endOf (wsV RX10 228 RX10 yX10_takes wsX10_takes) := goodIn_app (goodIn_of _ (by decide +kernel)) ggX10_endOf_X10_takes
theorem dX10_endOf_0 : decode cX10_endOf 0 = .ok (.iload 4, 2) := by decide +kernel
theorem dX10_endOf_2 : decode cX10_endOf 2 = .ok (.istore 5, 2) := by decide +kernel
theorem dX10_endOf_4 : decode cX10_endOf 4 = .ok (.iconst 0, 1) := by decide +kernel
theorem dX10_endOf_5 : decode cX10_endOf 5 = .ok (.istore 6, 2) := by decide +kernel
theorem dX10_endOf_7 : decode cX10_endOf 7 = .ok (.iload 6, 2) := by decide +kernel
theorem dX10_endOf_9 : decode cX10_endOf 9 = .ok (.iload_n 3, 1) := by decide +kernel
theorem dX10_endOf_10 : decode cX10_endOf 10 = .ok (.if_icmp .ge 34, 3) := by decide +kernel
theorem dX10_endOf_13 : decode cX10_endOf 13 = .ok (.aload_n 0, 1) := by decide +kernel
theorem dX10_endOf_14 : decode cX10_endOf 14 = .ok (.aload_n 1, 1) := by decide +kernel
theorem dX10_endOf_15 : decode cX10_endOf 15 = .ok (.iload_n 2, 1) := by decide +kernel
theorem dX10_endOf_16 : decode cX10_endOf 16 = .ok (.iload 6, 2) := by decide +kernel
theorem dX10_endOf_18 : decode cX10_endOf 18 = .ok (.iadd, 1) := by decide +kernel
theorem dX10_endOf_19 : decode cX10_endOf 19 = .ok (.iaload, 1) := by decide +kernel
theorem dX10_endOf_20 : decode cX10_endOf 20 = .ok (.iload 5, 2) := by decide +kernel
theorem dX10_endOf_22 : decode cX10_endOf 22 = .ok (.invokevirtual 224, 3) := by decide +kernel
theorem dX10_endOf_25 : decode cX10_endOf 25 = .ok (.aload_n 0, 1) := by decide +kernel
theorem dX10_endOf_26 : decode cX10_endOf 26 = .ok (.aload_n 1, 1) := by decide +kernel
theorem dX10_endOf_27 : decode cX10_endOf 27 = .ok (.iload_n 2, 1) := by decide +kernel
theorem dX10_endOf_28 : decode cX10_endOf 28 = .ok (.iload 6, 2) := by decide +kernel
theorem dX10_endOf_30 : decode cX10_endOf 30 = .ok (.iadd, 1) := by decide +kernel
theorem dX10_endOf_31 : decode cX10_endOf 31 = .ok (.iaload, 1) := by decide +kernel
theorem dX10_endOf_32 : decode cX10_endOf 32 = .ok (.invokevirtual 228, 3) := by decide +kernel
theorem dX10_endOf_35 : decode cX10_endOf 35 = .ok (.iadd, 1) := by decide +kernel
theorem dX10_endOf_36 : decode cX10_endOf 36 = .ok (.istore 5, 2) := by decide +kernel
theorem dX10_endOf_38 : decode cX10_endOf 38 = .ok (.iinc 6 1, 3) := by decide +kernel
theorem dX10_endOf_41 : decode cX10_endOf 41 = .ok (.goto (-34), 3) := by decide +kernel
theorem dX10_endOf_44 : decode cX10_endOf 44 = .ok (.iload 5, 2) := by decide +kernel
theorem dX10_endOf_46 : decode cX10_endOf 46 = .ok (.ireturn, 1) := by decide +kernel
theorem dX10_bridgesOf_0 : decode cX10_bridgesOf 0 = .ok (.iconst 0, 1) := by decide +kernel
theorem dX10_bridgesOf_1 : decode cX10_bridgesOf 1 = .ok (.istore_n 3, 1) := by decide +kernel
theorem dX10_bridgesOf_2 : decode cX10_bridgesOf 2 = .ok (.iconst 0, 1) := by decide +kernel
theorem dX10_bridgesOf_3 : decode cX10_bridgesOf 3 = .ok (.istore 4, 2) := by decide +kernel
theorem dX10_bridgesOf_5 : decode cX10_bridgesOf 5 = .ok (.iload 4, 2) := by decide +kernel
theorem dX10_bridgesOf_7 : decode cX10_bridgesOf 7 = .ok (.iload_n 2, 1) := by decide +kernel
theorem dX10_bridgesOf_8 : decode cX10_bridgesOf 8 = .ok (.if_icmp .ge 29, 3) := by decide +kernel
theorem dX10_bridgesOf_11 : decode cX10_bridgesOf 11 = .ok (.iload_n 3, 1) := by decide +kernel
theorem dX10_bridgesOf_12 : decode cX10_bridgesOf 12 = .ok (.aload_n 0, 1) := by decide +kernel
theorem dX10_bridgesOf_13 : decode cX10_bridgesOf 13 = .ok (.getfield 29, 3) := by decide +kernel
theorem dX10_bridgesOf_16 : decode cX10_bridgesOf 16 = .ok (.aload_n 1, 1) := by decide +kernel
theorem dX10_bridgesOf_17 : decode cX10_bridgesOf 17 = .ok (.iload 4, 2) := by decide +kernel
theorem dX10_bridgesOf_19 : decode cX10_bridgesOf 19 = .ok (.iaload, 1) := by decide +kernel
theorem dX10_bridgesOf_20 : decode cX10_bridgesOf 20 = .ok (.iaload, 1) := by decide +kernel
theorem dX10_bridgesOf_21 : decode cX10_bridgesOf 21 = .ok (.ifCond .lt 7, 3) := by decide +kernel
theorem dX10_bridgesOf_24 : decode cX10_bridgesOf 24 = .ok (.iconst 1, 1) := by decide +kernel
theorem dX10_bridgesOf_25 : decode cX10_bridgesOf 25 = .ok (.goto 4, 3) := by decide +kernel
theorem dX10_bridgesOf_28 : decode cX10_bridgesOf 28 = .ok (.iconst 0, 1) := by decide +kernel
theorem dX10_bridgesOf_29 : decode cX10_bridgesOf 29 = .ok (.iadd, 1) := by decide +kernel
theorem dX10_bridgesOf_30 : decode cX10_bridgesOf 30 = .ok (.istore_n 3, 1) := by decide +kernel
theorem dX10_bridgesOf_31 : decode cX10_bridgesOf 31 = .ok (.iinc 4 1, 3) := by decide +kernel
theorem dX10_bridgesOf_34 : decode cX10_bridgesOf 34 = .ok (.goto (-29), 3) := by decide +kernel
theorem dX10_bridgesOf_37 : decode cX10_bridgesOf 37 = .ok (.iload_n 3, 1) := by decide +kernel
theorem dX10_bridgesOf_38 : decode cX10_bridgesOf 38 = .ok (.ireturn, 1) := by decide +kernel
set_option maxRecDepth 20000 in
theorem ggX10_isBetter_X10_bridgesOf : GoodIn wsX10_isBetter wsX10_bridgesOf := goodIn_r _ [10, 11, 12, 13, 14, 15, 16, 17, 18, 19, 20, 21, 22, 23, 24, 25, 26, 27, 28, 29, 30, 31, 32, 33, 34, 35, 36, 37, 38, 39, 40, 41, 42, 43, 44, 45, 46, 47, 48, 49, 50, 51, 52, 53, 54, 55, 56, 57, 58, 59, 60, 61, 62, 63, 64, 65] (by decide +kernel) (by decide +kernel)
set_option maxRecDepth 20000 in
theorem gX10_isBetter_X10_bridgesOf : GoodIn wsX10_isBetter (wsV RX10 240 RX10 yX10_bridgesOf wsX10_bridgesOf) := goodIn_app (goodIn_of _ (by decide +kernel)) ggX10_isBetter_X10_bridgesOf
theorem dX10_isBetter_0 : decode cX10_isBetter 0 = .ok (.aload_n 0, 1) := by decide +kernel
theorem dX10_isBetter_1 : decode cX10_isBetter 1 = .ok (.getfield 231, 3) := by decide +kernel
theorem dX10_isBetter_4 : decode cX10_isBetter 4 = .ok (.ifCond .eq 11, 3) := by decide +kernel
theorem dX10_isBetter_7 : decode cX10_isBetter 7 = .ok (.iload_n 1, 1) := by decide +kernel
theorem dX10_isBetter_8 : decode cX10_isBetter 8 = .ok (.aload_n 0, 1) := by decide +kernel
theorem dX10_isBetter_9 : decode cX10_isBetter 9 = .ok (.getfield 234, 3) := by decide +kernel
theorem dX10_isBetter_12 : decode cX10_isBetter 12 = .ok (.if_icmp .eq 24, 3) := by decide +kernel
theorem dX10_isBetter_15 : decode cX10_isBetter 15 = .ok (.aload_n 0, 1) := by decide +kernel
theorem dX10_isBetter_16 : decode cX10_isBetter 16 = .ok (.getfield 231, 3) := by decide +kernel
theorem dX10_isBetter_19 : decode cX10_isBetter 19 = .ok (.ifCond .eq 11, 3) := by decide +kernel
theorem dX10_isBetter_22 : decode cX10_isBetter 22 = .ok (.iload_n 1, 1) := by decide +kernel
theorem dX10_isBetter_23 : decode cX10_isBetter 23 = .ok (.aload_n 0, 1) := by decide +kernel
theorem dX10_isBetter_24 : decode cX10_isBetter 24 = .ok (.getfield 234, 3) := by decide +kernel
theorem dX10_isBetter_27 : decode cX10_isBetter 27 = .ok (.if_icmp .ge 7, 3) := by decide +kernel
theorem dX10_isBetter_30 : decode cX10_isBetter 30 = .ok (.iconst 1, 1) := by decide +kernel
theorem dX10_isBetter_31 : decode cX10_isBetter 31 = .ok (.goto 4, 3) := by decide +kernel
theorem dX10_isBetter_34 : decode cX10_isBetter 34 = .ok (.iconst 0, 1) := by decide +kernel
theorem dX10_isBetter_35 : decode cX10_isBetter 35 = .ok (.ireturn, 1) := by decide +kernel
theorem dX10_isBetter_36 : decode cX10_isBetter 36 = .ok (.aload_n 0, 1) := by decide +kernel
theorem dX10_isBetter_37 : decode cX10_isBetter 37 = .ok (.aload_n 0, 1) := by decide +kernel
theorem dX10_isBetter_38 : decode cX10_isBetter 38 = .ok (.getfield 81, 3) := by decide +kernel
theorem dX10_isBetter_41 : decode cX10_isBetter 41 = .ok (.aload_n 0, 1) := by decide +kernel
theorem dX10_isBetter_42 : decode cX10_isBetter 42 = .ok (.getfield 237, 3) := by decide +kernel
theorem dX10_isBetter_45 : decode cX10_isBetter 45 = .ok (.invokevirtual 240, 3) := by decide +kernel
theorem dX10_isBetter_48 : decode cX10_isBetter 48 = .ok (.istore_n 2, 1) := by decide +kernel
theorem dX10_isBetter_49 : decode cX10_isBetter 49 = .ok (.aload_n 0, 1) := by decide +kernel
theorem dX10_isBetter_50 : decode cX10_isBetter 50 = .ok (.aload_n 0, 1) := by decide +kernel
theorem dX10_isBetter_51 : decode cX10_isBetter 51 = .ok (.getfield 87, 3) := by decide +kernel
theorem dX10_isBetter_54 : decode cX10_isBetter 54 = .ok (.aload_n 0, 1) := by decide +kernel
theorem dX10_isBetter_55 : decode cX10_isBetter 55 = .ok (.getfield 231, 3) := by decide +kernel
theorem dX10_isBetter_58 : decode cX10_isBetter 58 = .ok (.invokevirtual 240, 3) := by decide +kernel
theorem dX10_isBetter_61 : decode cX10_isBetter 61 = .ok (.istore_n 3, 1) := by decide +kernel
theorem dX10_isBetter_62 : decode cX10_isBetter 62 = .ok (.iload_n 2, 1) := by decide +kernel
theorem dX10_isBetter_63 : decode cX10_isBetter 63 = .ok (.iload_n 3, 1) := by decide +kernel
theorem dX10_isBetter_64 : decode cX10_isBetter 64 = .ok (.if_icmp .ne 14, 3) := by decide +kernel
theorem dX10_isBetter_67 : decode cX10_isBetter 67 = .ok (.aload_n 0, 1) := by decide +kernel
theorem dX10_isBetter_68 : decode cX10_isBetter 68 = .ok (.getfield 237, 3) := by decide +kernel
theorem dX10_isBetter_71 : decode cX10_isBetter 71 = .ok (.aload_n 0, 1) := by decide +kernel
theorem dX10_isBetter_72 : decode cX10_isBetter 72 = .ok (.getfield 231, 3) := by decide +kernel
theorem dX10_isBetter_75 : decode cX10_isBetter 75 = .ok (.if_icmp .eq 38, 3) := by decide +kernel
theorem dX10_isBetter_78 : decode cX10_isBetter 78 = .ok (.iload_n 2, 1) := by decide +kernel
theorem dX10_isBetter_79 : decode cX10_isBetter 79 = .ok (.iload_n 3, 1) := by decide +kernel
theorem dX10_isBetter_80 : decode cX10_isBetter 80 = .ok (.if_icmp .eq 16, 3) := by decide +kernel
theorem dX10_isBetter_83 : decode cX10_isBetter 83 = .ok (.iload_n 2, 1) := by decide +kernel
theorem dX10_isBetter_84 : decode cX10_isBetter 84 = .ok (.iload_n 3, 1) := by decide +kernel
theorem dX10_isBetter_85 : decode cX10_isBetter 85 = .ok (.if_icmp .ge 7, 3) := by decide +kernel
theorem dX10_isBetter_88 : decode cX10_isBetter 88 = .ok (.iconst 1, 1) := by decide +kernel
theorem dX10_isBetter_89 : decode cX10_isBetter 89 = .ok (.goto 23, 3) := by decide +kernel
theorem dX10_isBetter_92 : decode cX10_isBetter 92 = .ok (.iconst 0, 1) := by decide +kernel
theorem dX10_isBetter_93 : decode cX10_isBetter 93 = .ok (.goto 19, 3) := by decide +kernel
theorem dX10_isBetter_96 : decode cX10_isBetter 96 = .ok (.aload_n 0, 1) := by decide +kernel
theorem dX10_isBetter_97 : decode cX10_isBetter 97 = .ok (.getfield 237, 3) := by decide +kernel
theorem dX10_isBetter_100 : decode cX10_isBetter 100 = .ok (.aload_n 0, 1) := by decide +kernel
theorem dX10_isBetter_101 : decode cX10_isBetter 101 = .ok (.getfield 231, 3) := by decide +kernel
theorem dX10_isBetter_104 : decode cX10_isBetter 104 = .ok (.if_icmp .ge 7, 3) := by decide +kernel
theorem dX10_isBetter_107 : decode cX10_isBetter 107 = .ok (.iconst 1, 1) := by decide +kernel
theorem dX10_isBetter_108 : decode cX10_isBetter 108 = .ok (.goto 4, 3) := by decide +kernel
theorem dX10_isBetter_111 : decode cX10_isBetter 111 = .ok (.iconst 0, 1) := by decide +kernel
theorem dX10_isBetter_112 : decode cX10_isBetter 112 = .ok (.ireturn, 1) := by decide +kernel
theorem dX10_isBetter_113 : decode cX10_isBetter 113 = .ok (.iconst 0, 1) := by decide +kernel
theorem dX10_isBetter_114 : decode cX10_isBetter 114 = .ok (.istore 4, 2) := by decide +kernel
theorem dX10_isBetter_116 : decode cX10_isBetter 116 = .ok (.iload 4, 2) := by decide +kernel
theorem dX10_isBetter_118 : decode cX10_isBetter 118 = .ok (.aload_n 0, 1) := by decide +kernel
theorem dX10_isBetter_119 : decode cX10_isBetter 119 = .ok (.getfield 237, 3) := by decide +kernel
theorem dX10_isBetter_122 : decode cX10_isBetter 122 = .ok (.if_icmp .ge 26, 3) := by decide +kernel
theorem dX10_isBetter_125 : decode cX10_isBetter 125 = .ok (.aload_n 0, 1) := by decide +kernel
theorem dX10_isBetter_126 : decode cX10_isBetter 126 = .ok (.getfield 81, 3) := by decide +kernel
theorem dX10_isBetter_129 : decode cX10_isBetter 129 = .ok (.iload 4, 2) := by decide +kernel
theorem dX10_isBetter_131 : decode cX10_isBetter 131 = .ok (.iaload, 1) := by decide +kernel
theorem dX10_isBetter_132 : decode cX10_isBetter 132 = .ok (.aload_n 0, 1) := by decide +kernel
theorem dX10_isBetter_133 : decode cX10_isBetter 133 = .ok (.getfield 87, 3) := by decide +kernel
theorem dX10_isBetter_136 : decode cX10_isBetter 136 = .ok (.iload 4, 2) := by decide +kernel
theorem dX10_isBetter_138 : decode cX10_isBetter 138 = .ok (.iaload, 1) := by decide +kernel
theorem dX10_isBetter_139 : decode cX10_isBetter 139 = .ok (.if_icmp .ne 9, 3) := by decide +kernel
theorem dX10_isBetter_142 : decode cX10_isBetter 142 = .ok (.iinc 4 1, 3) := by decide +kernel
theorem dX10_isBetter_145 : decode cX10_isBetter 145 = .ok (.goto (-29), 3) := by decide +kernel
theorem dX10_isBetter_148 : decode cX10_isBetter 148 = .ok (.iload 4, 2) := by decide +kernel
theorem dX10_isBetter_150 : decode cX10_isBetter 150 = .ok (.aload_n 0, 1) := by decide +kernel
theorem dX10_isBetter_151 : decode cX10_isBetter 151 = .ok (.getfield 237, 3) := by decide +kernel
theorem dX10_isBetter_154 : decode cX10_isBetter 154 = .ok (.if_icmp .ge 24, 3) := by decide +kernel
theorem dX10_isBetter_157 : decode cX10_isBetter 157 = .ok (.aload_n 0, 1) := by decide +kernel
theorem dX10_isBetter_158 : decode cX10_isBetter 158 = .ok (.getfield 81, 3) := by decide +kernel
theorem dX10_isBetter_161 : decode cX10_isBetter 161 = .ok (.iload 4, 2) := by decide +kernel
theorem dX10_isBetter_163 : decode cX10_isBetter 163 = .ok (.iaload, 1) := by decide +kernel
theorem dX10_isBetter_164 : decode cX10_isBetter 164 = .ok (.aload_n 0, 1) := by decide +kernel
theorem dX10_isBetter_165 : decode cX10_isBetter 165 = .ok (.getfield 87, 3) := by decide +kernel
theorem dX10_isBetter_168 : decode cX10_isBetter 168 = .ok (.iload 4, 2) := by decide +kernel
theorem dX10_isBetter_170 : decode cX10_isBetter 170 = .ok (.iaload, 1) := by decide +kernel
theorem dX10_isBetter_171 : decode cX10_isBetter 171 = .ok (.if_icmp .ge 7, 3) := by decide +kernel
theorem dX10_isBetter_174 : decode cX10_isBetter 174 = .ok (.iconst 1, 1) := by decide +kernel
theorem dX10_isBetter_175 : decode cX10_isBetter 175 = .ok (.goto 4, 3) := by decide +kernel
theorem dX10_isBetter_178 : decode cX10_isBetter 178 = .ok (.iconst 0, 1) := by decide +kernel
theorem dX10_isBetter_179 : decode cX10_isBetter 179 = .ok (.ireturn, 1) := by decide +kernel
