theorem dX10_init_0 : decode cX10_init 0 = .ok (.aload_n 0, 1) := by decide +kernel
theorem dX10_init_1 : decode cX10_init 1 = .ok (.invokespecial 1, 3) := by decide +kernel
theorem dX10_init_4 : decode cX10_init 4 = .ok (.aload_n 0, 1) := by decide +kernel
theorem dX10_init_5 : decode cX10_init 5 = .ok (.bipush 12, 2) := by decide +kernel
theorem dX10_init_7 : decode cX10_init 7 = .ok (.newarray .int, 2) := by decide +kernel
theorem dX10_init_9 : decode cX10_init 9 = .ok (.putfield 7, 3) := by decide +kernel
theorem dX10_init_12 : decode cX10_init 12 = .ok (.aload_n 0, 1) := by decide +kernel
theorem dX10_init_13 : decode cX10_init 13 = .ok (.bipush 12, 2) := by decide +kernel
theorem dX10_init_15 : decode cX10_init 15 = .ok (.newarray .int, 2) := by decide +kernel
theorem dX10_init_17 : decode cX10_init 17 = .ok (.putfield 13, 3) := by decide +kernel
theorem dX10_init_20 : decode cX10_init 20 = .ok (.aload_n 0, 1) := by decide +kernel
theorem dX10_init_21 : decode cX10_init 21 = .ok (.bipush 12, 2) := by decide +kernel
theorem dX10_init_23 : decode cX10_init 23 = .ok (.newarray .int, 2) := by decide +kernel
theorem dX10_init_25 : decode cX10_init 25 = .ok (.putfield 16, 3) := by decide +kernel
theorem dX10_init_28 : decode cX10_init 28 = .ok (.aload_n 0, 1) := by decide +kernel
theorem dX10_init_29 : decode cX10_init 29 = .ok (.bipush 12, 2) := by decide +kernel
theorem dX10_init_31 : decode cX10_init 31 = .ok (.newarray .int, 2) := by decide +kernel
theorem dX10_init_33 : decode cX10_init 33 = .ok (.putfield 19, 3) := by decide +kernel
theorem dX10_init_36 : decode cX10_init 36 = .ok (.aload_n 0, 1) := by decide +kernel
theorem dX10_init_37 : decode cX10_init 37 = .ok (.bipush 12, 2) := by decide +kernel
theorem dX10_init_39 : decode cX10_init 39 = .ok (.newarray .int, 2) := by decide +kernel
theorem dX10_init_41 : decode cX10_init 41 = .ok (.putfield 22, 3) := by decide +kernel
theorem dX10_init_44 : decode cX10_init 44 = .ok (.aload_n 0, 1) := by decide +kernel
theorem dX10_init_45 : decode cX10_init 45 = .ok (.bipush 12, 2) := by decide +kernel
theorem dX10_init_47 : decode cX10_init 47 = .ok (.newarray .boolean, 2) := by decide +kernel
theorem dX10_init_49 : decode cX10_init 49 = .ok (.putfield 25, 3) := by decide +kernel
theorem dX10_init_52 : decode cX10_init 52 = .ok (.aload_n 0, 1) := by decide +kernel
theorem dX10_init_53 : decode cX10_init 53 = .ok (.bipush 12, 2) := by decide +kernel
theorem dX10_init_55 : decode cX10_init 55 = .ok (.newarray .int, 2) := by decide +kernel
theorem dX10_init_57 : decode cX10_init 57 = .ok (.putfield 29, 3) := by decide +kernel
theorem dX10_init_60 : decode cX10_init 60 = .ok (.aload_n 0, 1) := by decide +kernel
theorem dX10_init_61 : decode cX10_init 61 = .ok (.bipush 12, 2) := by decide +kernel
theorem dX10_init_63 : decode cX10_init 63 = .ok (.newarray .int, 2) := by decide +kernel
theorem dX10_init_65 : decode cX10_init 65 = .ok (.putfield 32, 3) := by decide +kernel
theorem dX10_init_68 : decode cX10_init 68 = .ok (.aload_n 0, 1) := by decide +kernel
theorem dX10_init_69 : decode cX10_init 69 = .ok (.bipush 36, 2) := by decide +kernel
theorem dX10_init_71 : decode cX10_init 71 = .ok (.newarray .int, 2) := by decide +kernel
theorem dX10_init_73 : decode cX10_init 73 = .ok (.putfield 35, 3) := by decide +kernel
theorem dX10_init_76 : decode cX10_init 76 = .ok (.aload_n 0, 1) := by decide +kernel
theorem dX10_init_77 : decode cX10_init 77 = .ok (.bipush 36, 2) := by decide +kernel
theorem dX10_init_79 : decode cX10_init 79 = .ok (.newarray .int, 2) := by decide +kernel
theorem dX10_init_81 : decode cX10_init 81 = .ok (.putfield 38, 3) := by decide +kernel
theorem dX10_init_84 : decode cX10_init 84 = .ok (.aload_n 0, 1) := by decide +kernel
theorem dX10_init_85 : decode cX10_init 85 = .ok (.sipush 144, 3) := by decide +kernel
theorem dX10_init_88 : decode cX10_init 88 = .ok (.newarray .boolean, 2) := by decide +kernel
theorem dX10_init_90 : decode cX10_init 90 = .ok (.putfield 41, 3) := by decide +kernel
theorem dX10_init_93 : decode cX10_init 93 = .ok (.aload_n 0, 1) := by decide +kernel
theorem dX10_init_94 : decode cX10_init 94 = .ok (.bipush 6, 2) := by decide +kernel
theorem dX10_init_96 : decode cX10_init 96 = .ok (.newarray .boolean, 2) := by decide +kernel
theorem dX10_init_98 : decode cX10_init 98 = .ok (.putfield 44, 3) := by decide +kernel
theorem dX10_init_101 : decode cX10_init 101 = .ok (.aload_n 0, 1) := by decide +kernel
theorem dX10_init_102 : decode cX10_init 102 = .ok (.bipush 6, 2) := by decide +kernel
theorem dX10_init_104 : decode cX10_init 104 = .ok (.newarray .int, 2) := by decide +kernel
theorem dX10_init_106 : decode cX10_init 106 = .ok (.putfield 47, 3) := by decide +kernel
theorem dX10_init_109 : decode cX10_init 109 = .ok (.aload_n 0, 1) := by decide +kernel
theorem dX10_init_110 : decode cX10_init 110 = .ok (.bipush 36, 2) := by decide +kernel
theorem dX10_init_112 : decode cX10_init 112 = .ok (.newarray .int, 2) := by decide +kernel
theorem dX10_init_114 : decode cX10_init 114 = .ok (.putfield 50, 3) := by decide +kernel
theorem dX10_init_117 : decode cX10_init 117 = .ok (.aload_n 0, 1) := by decide +kernel
theorem dX10_init_118 : decode cX10_init 118 = .ok (.bipush 36, 2) := by decide +kernel
theorem dX10_init_120 : decode cX10_init 120 = .ok (.newarray .int, 2) := by decide +kernel
theorem dX10_init_122 : decode cX10_init 122 = .ok (.putfield 53, 3) := by decide +kernel
theorem dX10_init_125 : decode cX10_init 125 = .ok (.aload_n 0, 1) := by decide +kernel
theorem dX10_init_126 : decode cX10_init 126 = .ok (.bipush 36, 2) := by decide +kernel
theorem dX10_init_128 : decode cX10_init 128 = .ok (.newarray .int, 2) := by decide +kernel
theorem dX10_init_130 : decode cX10_init 130 = .ok (.putfield 56, 3) := by decide +kernel
theorem dX10_init_133 : decode cX10_init 133 = .ok (.aload_n 0, 1) := by decide +kernel
theorem dX10_init_134 : decode cX10_init 134 = .ok (.iconst 5, 1) := by decide +kernel
theorem dX10_init_135 : decode cX10_init 135 = .ok (.newarray .int, 2) := by decide +kernel
theorem dX10_init_137 : decode cX10_init 137 = .ok (.putfield 59, 3) := by decide +kernel
theorem dX10_init_140 : decode cX10_init 140 = .ok (.aload_n 0, 1) := by decide +kernel
theorem dX10_init_141 : decode cX10_init 141 = .ok (.iconst 5, 1) := by decide +kernel
theorem dX10_init_142 : decode cX10_init 142 = .ok (.newarray .int, 2) := by decide +kernel
theorem dX10_init_144 : decode cX10_init 144 = .ok (.putfield 62, 3) := by decide +kernel
theorem dX10_init_147 : decode cX10_init 147 = .ok (.aload_n 0, 1) := by decide +kernel
theorem dX10_init_148 : decode cX10_init 148 = .ok (.iconst 1, 1) := by decide +kernel
theorem dX10_init_149 : decode cX10_init 149 = .ok (.putfield 65, 3) := by decide +kernel
theorem dX10_init_152 : decode cX10_init 152 = .ok (.aload_n 0, 1) := by decide +kernel
theorem dX10_init_153 : decode cX10_init 153 = .ok (.iconst 1, 1) := by decide +kernel
theorem dX10_init_154 : decode cX10_init 154 = .ok (.putfield 69, 3) := by decide +kernel
theorem dX10_init_157 : decode cX10_init 157 = .ok (.aload_n 0, 1) := by decide +kernel
theorem dX10_init_158 : decode cX10_init 158 = .ok (.bipush 60, 2) := by decide +kernel
theorem dX10_init_160 : decode cX10_init 160 = .ok (.newarray .int, 2) := by decide +kernel
theorem dX10_init_162 : decode cX10_init 162 = .ok (.putfield 72, 3) := by decide +kernel
theorem dX10_init_165 : decode cX10_init 165 = .ok (.aload_n 0, 1) := by decide +kernel
theorem dX10_init_166 : decode cX10_init 166 = .ok (.iconst 5, 1) := by decide +kernel
theorem dX10_init_167 : decode cX10_init 167 = .ok (.newarray .int, 2) := by decide +kernel
theorem dX10_init_169 : decode cX10_init 169 = .ok (.putfield 75, 3) := by decide +kernel
theorem dX10_init_172 : decode cX10_init 172 = .ok (.aload_n 0, 1) := by decide +kernel
theorem dX10_init_173 : decode cX10_init 173 = .ok (.bipush 50, 2) := by decide +kernel
theorem dX10_init_175 : decode cX10_init 175 = .ok (.newarray .int, 2) := by decide +kernel
theorem dX10_init_177 : decode cX10_init 177 = .ok (.putfield 78, 3) := by decide +kernel
theorem dX10_init_180 : decode cX10_init 180 = .ok (.aload_n 0, 1) := by decide +kernel
theorem dX10_init_181 : decode cX10_init 181 = .ok (.bipush 12, 2) := by decide +kernel
theorem dX10_init_183 : decode cX10_init 183 = .ok (.newarray .int, 2) := by decide +kernel
theorem dX10_init_185 : decode cX10_init 185 = .ok (.putfield 81, 3) := by decide +kernel
theorem dX10_init_188 : decode cX10_init 188 = .ok (.aload_n 0, 1) := by decide +kernel
theorem dX10_init_189 : decode cX10_init 189 = .ok (.bipush 7, 2) := by decide +kernel
theorem dX10_init_191 : decode cX10_init 191 = .ok (.newarray .boolean, 2) := by decide +kernel
theorem dX10_init_193 : decode cX10_init 193 = .ok (.putfield 84, 3) := by decide +kernel
theorem dX10_init_196 : decode cX10_init 196 = .ok (.aload_n 0, 1) := by decide +kernel
theorem dX10_init_197 : decode cX10_init 197 = .ok (.bipush 12, 2) := by decide +kernel
theorem dX10_init_199 : decode cX10_init 199 = .ok (.newarray .int, 2) := by decide +kernel
theorem dX10_init_201 : decode cX10_init 201 = .ok (.putfield 87, 3) := by decide +kernel
theorem dX10_init_204 : decode cX10_init 204 = .ok (.aload_n 0, 1) := by decide +kernel
theorem dX10_init_205 : decode cX10_init 205 = .ok (.bipush 12, 2) := by decide +kernel
theorem dX10_init_207 : decode cX10_init 207 = .ok (.newarray .boolean, 2) := by decide +kernel
theorem dX10_init_209 : decode cX10_init 209 = .ok (.putfield 90, 3) := by decide +kernel
theorem dX10_init_212 : decode cX10_init 212 = .ok (.aload_n 0, 1) := by decide +kernel
theorem dX10_init_213 : decode cX10_init 213 = .ok (.bipush 13, 2) := by decide +kernel
theorem dX10_init_215 : decode cX10_init 215 = .ok (.newarray .int, 2) := by decide +kernel
theorem dX10_init_217 : decode cX10_init 217 = .ok (.putfield 93, 3) := by decide +kernel
theorem dX10_init_220 : decode cX10_init 220 = .ok (.aload_n 0, 1) := by decide +kernel
theorem dX10_init_221 : decode cX10_init 221 = .ok (.bipush 13, 2) := by decide +kernel
theorem dX10_init_223 : decode cX10_init 223 = .ok (.newarray .int, 2) := by decide +kernel
theorem dX10_init_225 : decode cX10_init 225 = .ok (.putfield 96, 3) := by decide +kernel
theorem dX10_init_228 : decode cX10_init 228 = .ok (.return_, 1) := by decide +kernel
theorem dX10_in_0 : decode cX10_in 0 = .ok (.lload_n 0, 1) := by decide +kernel
theorem dX10_in_1 : decode cX10_in 1 = .ok (.lload_n 2, 1) := by decide +kernel
theorem dX10_in_2 : decode cX10_in 2 = .ok (.lcmp, 1) := by decide +kernel
theorem dX10_in_3 : decode cX10_in 3 = .ok (.ifCond .lt 14, 3) := by decide +kernel
theorem dX10_in_6 : decode cX10_in 6 = .ok (.lload_n 0, 1) := by decide +kernel
theorem dX10_in_7 : decode cX10_in 7 = .ok (.lload 4, 2) := by decide +kernel
theorem dX10_in_9 : decode cX10_in 9 = .ok (.lcmp, 1) := by decide +kernel
theorem dX10_in_10 : decode cX10_in 10 = .ok (.ifCond .gt 7, 3) := by decide +kernel
theorem dX10_in_13 : decode cX10_in 13 = .ok (.iconst 1, 1) := by decide +kernel
theorem dX10_in_14 : decode cX10_in 14 = .ok (.goto 4, 3) := by decide +kernel
theorem dX10_in_17 : decode cX10_in 17 = .ok (.iconst 0, 1) := by decide +kernel
theorem dX10_in_18 : decode cX10_in 18 = .ok (.ireturn, 1) := by decide +kernel
set_option maxRecDepth 20000 in
theorem ggX10_isRoad_X10_in : GoodIn wsX10_isRoad wsX10_in := goodIn_r _ [5] (by decide +kernel) (by decide +kernel)
set_option maxRecDepth 20000 in
theorem gX10_isRoad_X10_in : GoodIn wsX10_isRoad (va_wsS RX10 102 yX10_in wsX10_in) := goodIn_app (goodIn_of _ (by decide +kernel)) ggX10_isRoad_X10_in
theorem dX10_isRoad_0 : decode cX10_isRoad 0 = .ok (.iload_n 1, 1) := by decide +kernel
theorem dX10_isRoad_1 : decode cX10_isRoad 1 = .ok (.i2l, 1) := by decide +kernel
theorem dX10_isRoad_2 : decode cX10_isRoad 2 = .ok (.lconst 0, 1) := by decide +kernel
theorem dX10_isRoad_3 : decode cX10_isRoad 3 = .ok (.aload_n 0, 1) := by decide +kernel
theorem dX10_isRoad_4 : decode cX10_isRoad 4 = .ok (.getfield 99, 3) := by decide +kernel
theorem dX10_isRoad_7 : decode cX10_isRoad 7 = .ok (.iconst 1, 1) := by decide +kernel
theorem dX10_isRoad_8 : decode cX10_isRoad 8 = .ok (.isub, 1) := by decide +kernel
theorem dX10_isRoad_9 : decode cX10_isRoad 9 = .ok (.i2l, 1) := by decide +kernel
theorem dX10_isRoad_10 : decode cX10_isRoad 10 = .ok (.invokestatic 102, 3) := by decide +kernel
theorem dX10_isRoad_13 : decode cX10_isRoad 13 = .ok (.ireturn, 1) := by decide +kernel
set_option maxRecDepth 20000 in
theorem ggX10_isBridge_X10_in : GoodIn wsX10_isBridge wsX10_in := goodIn_r _ [5] (by decide +kernel) (by decide +kernel)
set_option maxRecDepth 20000 in
theorem gX10_isBridge_X10_in : GoodIn wsX10_isBridge (va_wsS RX10 102 yX10_in wsX10_in) := goodIn_app (goodIn_of _ (by decide +kernel)) ggX10_isBridge_X10_in
theorem dX10_isBridge_0 : decode cX10_isBridge 0 = .ok (.iload_n 1, 1) := by decide +kernel
theorem dX10_isBridge_1 : decode cX10_isBridge 1 = .ok (.i2l, 1) := by decide +kernel
theorem dX10_isBridge_2 : decode cX10_isBridge 2 = .ok (.lconst 0, 1) := by decide +kernel
theorem dX10_isBridge_3 : decode cX10_isBridge 3 = .ok (.aload_n 0, 1) := by decide +kernel
theorem dX10_isBridge_4 : decode cX10_isBridge 4 = .ok (.getfield 106, 3) := by decide +kernel
theorem dX10_isBridge_7 : decode cX10_isBridge 7 = .ok (.iconst 1, 1) := by decide +kernel
theorem dX10_isBridge_8 : decode cX10_isBridge 8 = .ok (.isub, 1) := by decide +kernel
theorem dX10_isBridge_9 : decode cX10_isBridge 9 = .ok (.i2l, 1) := by decide +kernel
theorem dX10_isBridge_10 : decode cX10_isBridge 10 = .ok (.invokestatic 102, 3) := by decide +kernel
theorem dX10_isBridge_13 : decode cX10_isBridge 13 = .ok (.ireturn, 1) := by decide +kernel
theorem dX10_forget_0 : decode cX10_forget 0 = .ok (.aload_n 0, 1) := by decide +kernel
theorem dX10_forget_1 : decode cX10_forget 1 = .ok (.iconst 0, 1) := by decide +kernel
theorem dX10_forget_2 : decode cX10_forget 2 = .ok (.putfield 109, 3) := by decide +kernel
theorem dX10_forget_5 : decode cX10_forget 5 = .ok (.return_, 1) := by decide +kernel
theorem dX10_node_0 : decode cX10_node 0 = .ok (.aload_n 0, 1) := by decide +kernel
theorem dX10_node_1 : decode cX10_node 1 = .ok (.getfield 112, 3) := by decide +kernel
theorem dX10_node_4 : decode cX10_node 4 = .ok (.bipush 7, 2) := by decide +kernel
theorem dX10_node_6 : decode cX10_node 6 = .ok (.if_icmp .ne 5, 3) := by decide +kernel
theorem dX10_node_9 : decode cX10_node 9 = .ok (.iconst (-1), 1) := by decide +kernel
theorem dX10_node_10 : decode cX10_node 10 = .ok (.ireturn, 1) := by decide +kernel
theorem dX10_node_11 : decode cX10_node 11 = .ok (.aload_n 0, 1) := by decide +kernel
theorem dX10_node_12 : decode cX10_node 12 = .ok (.dup, 1) := by decide +kernel
theorem dX10_node_13 : decode cX10_node 13 = .ok (.getfield 112, 3) := by decide +kernel
theorem dX10_node_16 : decode cX10_node 16 = .ok (.iconst 1, 1) := by decide +kernel
theorem dX10_node_17 : decode cX10_node 17 = .ok (.iadd, 1) := by decide +kernel
theorem dX10_node_18 : decode cX10_node 18 = .ok (.putfield 112, 3) := by decide +kernel
theorem dX10_node_21 : decode cX10_node 21 = .ok (.aload_n 0, 1) := by decide +kernel
theorem dX10_node_22 : decode cX10_node 22 = .ok (.getfield 112, 3) := by decide +kernel
theorem dX10_node_25 : decode cX10_node 25 = .ok (.iconst 1, 1) := by decide +kernel
theorem dX10_node_26 : decode cX10_node 26 = .ok (.isub, 1) := by decide +kernel
theorem dX10_node_27 : decode cX10_node 27 = .ok (.ireturn, 1) := by decide +kernel
set_option maxRecDepth 20000 in
theorem ggX10_road_X10_in : GoodIn wsX10_road wsX10_in := goodIn_r _ [15] (by decide +kernel) (by decide +kernel)
set_option maxRecDepth 20000 in
theorem gX10_road_X10_in : GoodIn wsX10_road (va_wsS RX10 102 yX10_in wsX10_in) := goodIn_app (goodIn_of _ (by decide +kernel)) ggX10_road_X10_in
set_option maxRecDepth 20000 in
theorem ggX10_road_X10_forget : GoodIn wsX10_road wsX10_forget := goodIn_r _ [19, 20, 21, 22, 23, 24, 25, 26, 27, 28, 29, 30, 31, 32, 33, 34, 35, 36, 37, 38, 39, 40, 41, 42, 43, 44, 45, 46, 47, 48, 49, 50, 51, 52, 53, 54, 55, 56, 57, 58, 59, 60, 61, 62, 63, 64, 65, 66, 67, 68, 69, 70, 71, 72, 73, 74] (by decide +kernel) (by decide +kernel)
set_option maxRecDepth 20000 in
theorem gX10_road_X10_forget : GoodIn wsX10_road (wsV RX10 119 RX10 yX10_forget wsX10_forget) := goodIn_app (goodIn_of _ (by decide +kernel)) ggX10_road_X10_forget
theorem dX10_road_0 : decode cX10_road 0 = .ok (.iload_n 1, 1) := by decide +kernel
theorem dX10_road_1 : decode cX10_road 1 = .ok (.i2l, 1) := by decide +kernel
theorem dX10_road_2 : decode cX10_road 2 = .ok (.lconst 0, 1) := by decide +kernel
theorem dX10_road_3 : decode cX10_road 3 = .ok (.aload_n 0, 1) := by decide +kernel
theorem dX10_road_4 : decode cX10_road 4 = .ok (.getfield 112, 3) := by decide +kernel
theorem dX10_road_7 : decode cX10_road 7 = .ok (.iconst 1, 1) := by decide +kernel
theorem dX10_road_8 : decode cX10_road 8 = .ok (.isub, 1) := by decide +kernel
theorem dX10_road_9 : decode cX10_road 9 = .ok (.i2l, 1) := by decide +kernel
theorem dX10_road_10 : decode cX10_road 10 = .ok (.invokestatic 102, 3) := by decide +kernel
theorem dX10_road_13 : decode cX10_road 13 = .ok (.ifCond .eq 71, 3) := by decide +kernel
theorem dX10_road_16 : decode cX10_road 16 = .ok (.iload_n 2, 1) := by decide +kernel
theorem dX10_road_17 : decode cX10_road 17 = .ok (.i2l, 1) := by decide +kernel
theorem dX10_road_18 : decode cX10_road 18 = .ok (.lconst 0, 1) := by decide +kernel
theorem dX10_road_19 : decode cX10_road 19 = .ok (.aload_n 0, 1) := by decide +kernel
theorem dX10_road_20 : decode cX10_road 20 = .ok (.getfield 112, 3) := by decide +kernel
theorem dX10_road_23 : decode cX10_road 23 = .ok (.iconst 1, 1) := by decide +kernel
theorem dX10_road_24 : decode cX10_road 24 = .ok (.isub, 1) := by decide +kernel
theorem dX10_road_25 : decode cX10_road 25 = .ok (.i2l, 1) := by decide +kernel
theorem dX10_road_26 : decode cX10_road 26 = .ok (.invokestatic 102, 3) := by decide +kernel
theorem dX10_road_29 : decode cX10_road 29 = .ok (.ifCond .eq 55, 3) := by decide +kernel
theorem dX10_road_32 : decode cX10_road 32 = .ok (.iload_n 1, 1) := by decide +kernel
theorem dX10_road_33 : decode cX10_road 33 = .ok (.iload_n 2, 1) := by decide +kernel
theorem dX10_road_34 : decode cX10_road 34 = .ok (.if_icmp .eq 50, 3) := by decide +kernel
theorem dX10_road_37 : decode cX10_road 37 = .ok (.iload_n 3, 1) := by decide +kernel
theorem dX10_road_38 : decode cX10_road 38 = .ok (.i2l, 1) := by decide +kernel
theorem dX10_road_39 : decode cX10_road 39 = .ok (.lconst 1, 1) := by decide +kernel
theorem dX10_road_40 : decode cX10_road 40 = .ok (.ldc2_w 115, 3) := by decide +kernel
theorem dX10_road_43 : decode cX10_road 43 = .ok (.invokestatic 102, 3) := by decide +kernel
theorem dX10_road_46 : decode cX10_road 46 = .ok (.ifCond .eq 38, 3) := by decide +kernel
theorem dX10_road_49 : decode cX10_road 49 = .ok (.iload 4, 2) := by decide +kernel
theorem dX10_road_51 : decode cX10_road 51 = .ok (.i2l, 1) := by decide +kernel
theorem dX10_road_52 : decode cX10_road 52 = .ok (.lconst 1, 1) := by decide +kernel
theorem dX10_road_53 : decode cX10_road 53 = .ok (.ldc2_w 117, 3) := by decide +kernel
theorem dX10_road_56 : decode cX10_road 56 = .ok (.invokestatic 102, 3) := by decide +kernel
theorem dX10_road_59 : decode cX10_road 59 = .ok (.ifCond .eq 25, 3) := by decide +kernel
theorem dX10_road_62 : decode cX10_road 62 = .ok (.iload 5, 2) := by decide +kernel
theorem dX10_road_64 : decode cX10_road 64 = .ok (.i2l, 1) := by decide +kernel
theorem dX10_road_65 : decode cX10_road 65 = .ok (.lconst 1, 1) := by decide +kernel
theorem dX10_road_66 : decode cX10_road 66 = .ok (.ldc2_w 117, 3) := by decide +kernel
theorem dX10_road_69 : decode cX10_road 69 = .ok (.invokestatic 102, 3) := by decide +kernel
theorem dX10_road_72 : decode cX10_road 72 = .ok (.ifCond .eq 12, 3) := by decide +kernel
theorem dX10_road_75 : decode cX10_road 75 = .ok (.aload_n 0, 1) := by decide +kernel
theorem dX10_road_76 : decode cX10_road 76 = .ok (.getfield 99, 3) := by decide +kernel
theorem dX10_road_79 : decode cX10_road 79 = .ok (.bipush 12, 2) := by decide +kernel
theorem dX10_road_81 : decode cX10_road 81 = .ok (.if_icmp .ne 5, 3) := by decide +kernel
theorem dX10_road_84 : decode cX10_road 84 = .ok (.iconst (-1), 1) := by decide +kernel
theorem dX10_road_85 : decode cX10_road 85 = .ok (.ireturn, 1) := by decide +kernel
theorem dX10_road_86 : decode cX10_road 86 = .ok (.aload_n 0, 1) := by decide +kernel
theorem dX10_road_87 : decode cX10_road 87 = .ok (.getfield 7, 3) := by decide +kernel
theorem dX10_road_90 : decode cX10_road 90 = .ok (.aload_n 0, 1) := by decide +kernel
theorem dX10_road_91 : decode cX10_road 91 = .ok (.getfield 99, 3) := by decide +kernel
theorem dX10_road_94 : decode cX10_road 94 = .ok (.iload_n 1, 1) := by decide +kernel
theorem dX10_road_95 : decode cX10_road 95 = .ok (.iastore, 1) := by decide +kernel
theorem dX10_road_96 : decode cX10_road 96 = .ok (.aload_n 0, 1) := by decide +kernel
theorem dX10_road_97 : decode cX10_road 97 = .ok (.getfield 13, 3) := by decide +kernel
theorem dX10_road_100 : decode cX10_road 100 = .ok (.aload_n 0, 1) := by decide +kernel
theorem dX10_road_101 : decode cX10_road 101 = .ok (.getfield 99, 3) := by decide +kernel
theorem dX10_road_104 : decode cX10_road 104 = .ok (.iload_n 2, 1) := by decide +kernel
theorem dX10_road_105 : decode cX10_road 105 = .ok (.iastore, 1) := by decide +kernel
theorem dX10_road_106 : decode cX10_road 106 = .ok (.aload_n 0, 1) := by decide +kernel
theorem dX10_road_107 : decode cX10_road 107 = .ok (.getfield 16, 3) := by decide +kernel
theorem dX10_road_110 : decode cX10_road 110 = .ok (.aload_n 0, 1) := by decide +kernel
theorem dX10_road_111 : decode cX10_road 111 = .ok (.getfield 99, 3) := by decide +kernel
theorem dX10_road_114 : decode cX10_road 114 = .ok (.iload_n 3, 1) := by decide +kernel
theorem dX10_road_115 : decode cX10_road 115 = .ok (.iastore, 1) := by decide +kernel
theorem dX10_road_116 : decode cX10_road 116 = .ok (.aload_n 0, 1) := by decide +kernel
theorem dX10_road_117 : decode cX10_road 117 = .ok (.getfield 19, 3) := by decide +kernel
theorem dX10_road_120 : decode cX10_road 120 = .ok (.aload_n 0, 1) := by decide +kernel
theorem dX10_road_121 : decode cX10_road 121 = .ok (.getfield 99, 3) := by decide +kernel
theorem dX10_road_124 : decode cX10_road 124 = .ok (.iload 4, 2) := by decide +kernel
theorem dX10_road_126 : decode cX10_road 126 = .ok (.iastore, 1) := by decide +kernel
theorem dX10_road_127 : decode cX10_road 127 = .ok (.aload_n 0, 1) := by decide +kernel
theorem dX10_road_128 : decode cX10_road 128 = .ok (.getfield 22, 3) := by decide +kernel
theorem dX10_road_131 : decode cX10_road 131 = .ok (.aload_n 0, 1) := by decide +kernel
theorem dX10_road_132 : decode cX10_road 132 = .ok (.getfield 99, 3) := by decide +kernel
theorem dX10_road_135 : decode cX10_road 135 = .ok (.iload 5, 2) := by decide +kernel
theorem dX10_road_137 : decode cX10_road 137 = .ok (.iastore, 1) := by decide +kernel
theorem dX10_road_138 : decode cX10_road 138 = .ok (.aload_n 0, 1) := by decide +kernel
theorem dX10_road_139 : decode cX10_road 139 = .ok (.getfield 25, 3) := by decide +kernel
theorem dX10_road_142 : decode cX10_road 142 = .ok (.aload_n 0, 1) := by decide +kernel
theorem dX10_road_143 : decode cX10_road 143 = .ok (.getfield 99, 3) := by decide +kernel
theorem dX10_road_146 : decode cX10_road 146 = .ok (.iconst 1, 1) := by decide +kernel
theorem dX10_road_147 : decode cX10_road 147 = .ok (.bastore, 1) := by decide +kernel
theorem dX10_road_148 : decode cX10_road 148 = .ok (.aload_n 0, 1) := by decide +kernel
theorem dX10_road_149 : decode cX10_road 149 = .ok (.getfield 29, 3) := by decide +kernel
theorem dX10_road_152 : decode cX10_road 152 = .ok (.aload_n 0, 1) := by decide +kernel
theorem dX10_road_153 : decode cX10_road 153 = .ok (.getfield 99, 3) := by decide +kernel
theorem dX10_road_156 : decode cX10_road 156 = .ok (.bipush (-2), 2) := by decide +kernel
theorem dX10_road_158 : decode cX10_road 158 = .ok (.iastore, 1) := by decide +kernel
theorem dX10_road_159 : decode cX10_road 159 = .ok (.aload_n 0, 1) := by decide +kernel
theorem dX10_road_160 : decode cX10_road 160 = .ok (.dup, 1) := by decide +kernel
theorem dX10_road_161 : decode cX10_road 161 = .ok (.getfield 99, 3) := by decide +kernel
theorem dX10_road_164 : decode cX10_road 164 = .ok (.iconst 1, 1) := by decide +kernel
theorem dX10_road_165 : decode cX10_road 165 = .ok (.iadd, 1) := by decide +kernel
theorem dX10_road_166 : decode cX10_road 166 = .ok (.putfield 99, 3) := by decide +kernel
theorem dX10_road_169 : decode cX10_road 169 = .ok (.aload_n 0, 1) := by decide +kernel
theorem dX10_road_170 : decode cX10_road 170 = .ok (.invokevirtual 119, 3) := by decide +kernel
theorem dX10_road_173 : decode cX10_road 173 = .ok (.aload_n 0, 1) := by decide +kernel
theorem dX10_road_174 : decode cX10_road 174 = .ok (.getfield 99, 3) := by decide +kernel
theorem dX10_road_177 : decode cX10_road 177 = .ok (.iconst 1, 1) := by decide +kernel
theorem dX10_road_178 : decode cX10_road 178 = .ok (.isub, 1) := by decide +kernel
theorem dX10_road_179 : decode cX10_road 179 = .ok (.ireturn, 1) := by decide +kernel
set_option maxRecDepth 20000 in
theorem ggX10_bridge_X10_isRoad : GoodIn wsX10_bridge wsX10_isRoad := goodIn_r _ [7, 8, 9, 10, 6, 11, 17, 18, 19, 20, 21, 22, 23, 24, 25, 26, 27, 28, 29, 30, 31, 32, 33, 34, 35, 36, 37, 38, 39, 40, 41, 42, 43, 44, 45, 46, 47, 48, 49, 50, 51, 52, 53, 54, 55, 56, 57, 58, 59, 60, 61, 62, 63, 64, 65, 66, 67, 68, 69, 70] (by decide +kernel) (by decide +kernel)
set_option maxRecDepth 20000 in
theorem gX10_bridge_X10_isRoad : GoodIn wsX10_bridge (wsV RX10 122 RX10 yX10_isRoad wsX10_isRoad) := goodIn_app (goodIn_of _ (by decide +kernel)) ggX10_bridge_X10_isRoad
set_option maxRecDepth 20000 in
theorem ggX10_bridge_X10_forget : GoodIn wsX10_bridge wsX10_forget := goodIn_r _ [15, 16, 17, 18, 19, 20, 21, 22, 23, 24, 25, 26, 27, 28, 29, 30, 31, 32, 33, 34, 35, 36, 37, 38, 39, 40, 41, 42, 43, 44, 45, 46, 47, 48, 49, 50, 51, 52, 53, 54, 55, 56, 57, 58, 59, 60, 61, 62, 63, 64, 65, 66, 67, 68, 69, 70] (by decide +kernel) (by decide +kernel)
set_option maxRecDepth 20000 in
theorem gX10_bridge_X10_forget : GoodIn wsX10_bridge (wsV RX10 119 RX10 yX10_forget wsX10_forget) := goodIn_app (goodIn_of _ (by decide +kernel)) ggX10_bridge_X10_forget
theorem dX10_bridge_0 : decode cX10_bridge 0 = .ok (.aload_n 0, 1) := by decide +kernel
theorem dX10_bridge_1 : decode cX10_bridge 1 = .ok (.iload_n 1, 1) := by decide +kernel
theorem dX10_bridge_2 : decode cX10_bridge 2 = .ok (.invokevirtual 122, 3) := by decide +kernel
theorem dX10_bridge_5 : decode cX10_bridge 5 = .ok (.ifCond .eq 21, 3) := by decide +kernel
theorem dX10_bridge_8 : decode cX10_bridge 8 = .ok (.aload_n 0, 1) := by decide +kernel
theorem dX10_bridge_9 : decode cX10_bridge 9 = .ok (.getfield 29, 3) := by decide +kernel
theorem dX10_bridge_12 : decode cX10_bridge 12 = .ok (.iload_n 1, 1) := by decide +kernel
theorem dX10_bridge_13 : decode cX10_bridge 13 = .ok (.iaload, 1) := by decide +kernel
theorem dX10_bridge_14 : decode cX10_bridge 14 = .ok (.ifCond .ge 12, 3) := by decide +kernel
theorem dX10_bridge_17 : decode cX10_bridge 17 = .ok (.aload_n 0, 1) := by decide +kernel
theorem dX10_bridge_18 : decode cX10_bridge 18 = .ok (.getfield 106, 3) := by decide +kernel
theorem dX10_bridge_21 : decode cX10_bridge 21 = .ok (.bipush 6, 2) := by decide +kernel
theorem dX10_bridge_23 : decode cX10_bridge 23 = .ok (.if_icmp .ne 5, 3) := by decide +kernel
theorem dX10_bridge_26 : decode cX10_bridge 26 = .ok (.iconst (-1), 1) := by decide +kernel
theorem dX10_bridge_27 : decode cX10_bridge 27 = .ok (.ireturn, 1) := by decide +kernel
theorem dX10_bridge_28 : decode cX10_bridge 28 = .ok (.aload_n 0, 1) := by decide +kernel
theorem dX10_bridge_29 : decode cX10_bridge 29 = .ok (.getfield 29, 3) := by decide +kernel
theorem dX10_bridge_32 : decode cX10_bridge 32 = .ok (.iload_n 1, 1) := by decide +kernel
theorem dX10_bridge_33 : decode cX10_bridge 33 = .ok (.aload_n 0, 1) := by decide +kernel
theorem dX10_bridge_34 : decode cX10_bridge 34 = .ok (.getfield 106, 3) := by decide +kernel
theorem dX10_bridge_37 : decode cX10_bridge 37 = .ok (.iastore, 1) := by decide +kernel
theorem dX10_bridge_38 : decode cX10_bridge 38 = .ok (.aload_n 0, 1) := by decide +kernel
theorem dX10_bridge_39 : decode cX10_bridge 39 = .ok (.dup, 1) := by decide +kernel
theorem dX10_bridge_40 : decode cX10_bridge 40 = .ok (.getfield 106, 3) := by decide +kernel
theorem dX10_bridge_43 : decode cX10_bridge 43 = .ok (.iconst 1, 1) := by decide +kernel
theorem dX10_bridge_44 : decode cX10_bridge 44 = .ok (.iadd, 1) := by decide +kernel
theorem dX10_bridge_45 : decode cX10_bridge 45 = .ok (.putfield 106, 3) := by decide +kernel
theorem dX10_bridge_48 : decode cX10_bridge 48 = .ok (.aload_n 0, 1) := by decide +kernel
theorem dX10_bridge_49 : decode cX10_bridge 49 = .ok (.invokevirtual 119, 3) := by decide +kernel
theorem dX10_bridge_52 : decode cX10_bridge 52 = .ok (.aload_n 0, 1) := by decide +kernel
theorem dX10_bridge_53 : decode cX10_bridge 53 = .ok (.getfield 106, 3) := by decide +kernel
theorem dX10_bridge_56 : decode cX10_bridge 56 = .ok (.iconst 1, 1) := by decide +kernel
theorem dX10_bridge_57 : decode cX10_bridge 57 = .ok (.isub, 1) := by decide +kernel
theorem dX10_bridge_58 : decode cX10_bridge 58 = .ok (.ireturn, 1) := by decide +kernel
set_option maxRecDepth 20000 in
theorem ggX10_row_X10_isBridge : GoodIn wsX10_row wsX10_isBridge := goodIn_r _ [12, 13, 14, 15, 11, 16, 22, 23, 24, 25, 26, 27, 28, 29, 30, 31, 32, 33, 34, 35, 36, 37, 38, 39, 40, 41, 42, 43, 44, 45, 46, 47, 48, 49, 50, 51, 52, 53, 54, 55, 56, 57, 58, 59, 60, 61, 62, 63, 64, 65, 66, 67, 68, 69, 70, 71, 72, 73, 74, 75] (by decide +kernel) (by decide +kernel)
set_option maxRecDepth 20000 in
theorem gX10_row_X10_isBridge : GoodIn wsX10_row (wsV RX10 126 RX10 yX10_isBridge wsX10_isBridge) := goodIn_app (goodIn_of _ (by decide +kernel)) ggX10_row_X10_isBridge
set_option maxRecDepth 20000 in
theorem ggX10_row_X10_in : GoodIn wsX10_row wsX10_in := goodIn_r _ [16] (by decide +kernel) (by decide +kernel)
set_option maxRecDepth 20000 in
theorem gX10_row_X10_in : GoodIn wsX10_row (va_wsS RX10 102 yX10_in wsX10_in) := goodIn_app (goodIn_of _ (by decide +kernel)) ggX10_row_X10_in
set_option maxRecDepth 20000 in
theorem ggX10_row_X10_forget : GoodIn wsX10_row wsX10_forget := goodIn_r _ [20, 21, 22, 23, 24, 25, 26, 27, 28, 29, 30, 31, 32, 33, 34, 35, 36, 37, 38, 39, 40, 41, 42, 43, 44, 45, 46, 47, 48, 49, 50, 51, 52, 53, 54, 55, 56, 57, 58, 59, 60, 61, 62, 63, 64, 65, 66, 67, 68, 69, 70, 71, 72, 73, 74, 75] (by decide +kernel) (by decide +kernel)
set_option maxRecDepth 20000 in
theorem gX10_row_X10_forget : GoodIn wsX10_row (wsV RX10 119 RX10 yX10_forget wsX10_forget) := goodIn_app (goodIn_of _ (by decide +kernel)) ggX10_row_X10_forget
theorem dX10_row_0 : decode cX10_row 0 = .ok (.aload_n 0, 1) := by decide +kernel
theorem dX10_row_1 : decode cX10_row 1 = .ok (.iload_n 1, 1) := by decide +kernel
theorem dX10_row_2 : decode cX10_row 2 = .ok (.invokevirtual 126, 3) := by decide +kernel
theorem dX10_row_5 : decode cX10_row 5 = .ok (.ifCond .eq 51, 3) := by decide +kernel
theorem dX10_row_8 : decode cX10_row 8 = .ok (.lload_n 2, 1) := by decide +kernel
theorem dX10_row_9 : decode cX10_row 9 = .ok (.lconst 0, 1) := by decide +kernel
theorem dX10_row_10 : decode cX10_row 10 = .ok (.ldc2_w 129, 3) := by decide +kernel
theorem dX10_row_13 : decode cX10_row 13 = .ok (.invokestatic 102, 3) := by decide +kernel
theorem dX10_row_16 : decode cX10_row 16 = .ok (.ifCond .eq 40, 3) := by decide +kernel
theorem dX10_row_19 : decode cX10_row 19 = .ok (.lload 4, 2) := by decide +kernel
theorem dX10_row_21 : decode cX10_row 21 = .ok (.ldc2_w 131, 3) := by decide +kernel
theorem dX10_row_24 : decode cX10_row 24 = .ok (.ldc2_w 133, 3) := by decide +kernel
theorem dX10_row_27 : decode cX10_row 27 = .ok (.invokestatic 102, 3) := by decide +kernel
theorem dX10_row_30 : decode cX10_row 30 = .ok (.ifCond .eq 26, 3) := by decide +kernel
theorem dX10_row_33 : decode cX10_row 33 = .ok (.lload 6, 2) := by decide +kernel
theorem dX10_row_35 : decode cX10_row 35 = .ok (.lconst 1, 1) := by decide +kernel
theorem dX10_row_36 : decode cX10_row 36 = .ok (.ldc2_w 133, 3) := by decide +kernel
theorem dX10_row_39 : decode cX10_row 39 = .ok (.invokestatic 102, 3) := by decide +kernel
theorem dX10_row_42 : decode cX10_row 42 = .ok (.ifCond .eq 14, 3) := by decide +kernel
theorem dX10_row_45 : decode cX10_row 45 = .ok (.aload_n 0, 1) := by decide +kernel
theorem dX10_row_46 : decode cX10_row 46 = .ok (.getfield 47, 3) := by decide +kernel
theorem dX10_row_49 : decode cX10_row 49 = .ok (.iload_n 1, 1) := by decide +kernel
theorem dX10_row_50 : decode cX10_row 50 = .ok (.iaload, 1) := by decide +kernel
theorem dX10_row_51 : decode cX10_row 51 = .ok (.bipush 6, 2) := by decide +kernel
theorem dX10_row_53 : decode cX10_row 53 = .ok (.if_icmp .ne 5, 3) := by decide +kernel
theorem dX10_row_56 : decode cX10_row 56 = .ok (.iconst 0, 1) := by decide +kernel
theorem dX10_row_57 : decode cX10_row 57 = .ok (.ireturn, 1) := by decide +kernel
theorem dX10_row_58 : decode cX10_row 58 = .ok (.bipush 6, 2) := by decide +kernel
theorem dX10_row_60 : decode cX10_row 60 = .ok (.iload_n 1, 1) := by decide +kernel
theorem dX10_row_61 : decode cX10_row 61 = .ok (.imul, 1) := by decide +kernel
theorem dX10_row_62 : decode cX10_row 62 = .ok (.aload_n 0, 1) := by decide +kernel
theorem dX10_row_63 : decode cX10_row 63 = .ok (.getfield 47, 3) := by decide +kernel
theorem dX10_row_66 : decode cX10_row 66 = .ok (.iload_n 1, 1) := by decide +kernel
theorem dX10_row_67 : decode cX10_row 67 = .ok (.iaload, 1) := by decide +kernel
theorem dX10_row_68 : decode cX10_row 68 = .ok (.iadd, 1) := by decide +kernel
theorem dX10_row_69 : decode cX10_row 69 = .ok (.istore 8, 2) := by decide +kernel
theorem dX10_row_71 : decode cX10_row 71 = .ok (.aload_n 0, 1) := by decide +kernel
theorem dX10_row_72 : decode cX10_row 72 = .ok (.getfield 47, 3) := by decide +kernel
theorem dX10_row_75 : decode cX10_row 75 = .ok (.iload_n 1, 1) := by decide +kernel
theorem dX10_row_76 : decode cX10_row 76 = .ok (.iaload, 1) := by decide +kernel
theorem dX10_row_77 : decode cX10_row 77 = .ok (.ifCond .le 20, 3) := by decide +kernel
theorem dX10_row_80 : decode cX10_row 80 = .ok (.lload_n 2, 1) := by decide +kernel
theorem dX10_row_81 : decode cX10_row 81 = .ok (.aload_n 0, 1) := by decide +kernel
theorem dX10_row_82 : decode cX10_row 82 = .ok (.getfield 50, 3) := by decide +kernel
theorem dX10_row_85 : decode cX10_row 85 = .ok (.iload 8, 2) := by decide +kernel
theorem dX10_row_87 : decode cX10_row 87 = .ok (.iconst 1, 1) := by decide +kernel
theorem dX10_row_88 : decode cX10_row 88 = .ok (.isub, 1) := by decide +kernel
theorem dX10_row_89 : decode cX10_row 89 = .ok (.iaload, 1) := by decide +kernel
theorem dX10_row_90 : decode cX10_row 90 = .ok (.i2l, 1) := by decide +kernel
theorem dX10_row_91 : decode cX10_row 91 = .ok (.lcmp, 1) := by decide +kernel
theorem dX10_row_92 : decode cX10_row 92 = .ok (.ifCond .gt 5, 3) := by decide +kernel
theorem dX10_row_95 : decode cX10_row 95 = .ok (.iconst 0, 1) := by decide +kernel
theorem dX10_row_96 : decode cX10_row 96 = .ok (.ireturn, 1) := by decide +kernel
theorem dX10_row_97 : decode cX10_row 97 = .ok (.aload_n 0, 1) := by decide +kernel
theorem dX10_row_98 : decode cX10_row 98 = .ok (.getfield 50, 3) := by decide +kernel
theorem dX10_row_101 : decode cX10_row 101 = .ok (.iload 8, 2) := by decide +kernel
theorem dX10_row_103 : decode cX10_row 103 = .ok (.lload_n 2, 1) := by decide +kernel
theorem dX10_row_104 : decode cX10_row 104 = .ok (.l2i, 1) := by decide +kernel
theorem dX10_row_105 : decode cX10_row 105 = .ok (.iastore, 1) := by decide +kernel
theorem dX10_row_106 : decode cX10_row 106 = .ok (.aload_n 0, 1) := by decide +kernel
theorem dX10_row_107 : decode cX10_row 107 = .ok (.getfield 53, 3) := by decide +kernel
theorem dX10_row_110 : decode cX10_row 110 = .ok (.iload 8, 2) := by decide +kernel
theorem dX10_row_112 : decode cX10_row 112 = .ok (.lload 4, 2) := by decide +kernel
theorem dX10_row_114 : decode cX10_row 114 = .ok (.l2i, 1) := by decide +kernel
theorem dX10_row_115 : decode cX10_row 115 = .ok (.iastore, 1) := by decide +kernel
theorem dX10_row_116 : decode cX10_row 116 = .ok (.aload_n 0, 1) := by decide +kernel
theorem dX10_row_117 : decode cX10_row 117 = .ok (.getfield 56, 3) := by decide +kernel
theorem dX10_row_120 : decode cX10_row 120 = .ok (.iload 8, 2) := by decide +kernel
theorem dX10_row_122 : decode cX10_row 122 = .ok (.lload 6, 2) := by decide +kernel
theorem dX10_row_124 : decode cX10_row 124 = .ok (.l2i, 1) := by decide +kernel
theorem dX10_row_125 : decode cX10_row 125 = .ok (.iastore, 1) := by decide +kernel
theorem dX10_row_126 : decode cX10_row 126 = .ok (.aload_n 0, 1) := by decide +kernel
theorem dX10_row_127 : decode cX10_row 127 = .ok (.getfield 47, 3) := by decide +kernel
theorem dX10_row_130 : decode cX10_row 130 = .ok (.iload_n 1, 1) := by decide +kernel
theorem dX10_row_131 : decode cX10_row 131 = .ok (.dup2, 1) := by decide +kernel
theorem dX10_row_132 : decode cX10_row 132 = .ok (.iaload, 1) := by decide +kernel
theorem dX10_row_133 : decode cX10_row 133 = .ok (.iconst 1, 1) := by decide +kernel
theorem dX10_row_134 : decode cX10_row 134 = .ok (.iadd, 1) := by decide +kernel
theorem dX10_row_135 : decode cX10_row 135 = .ok (.iastore, 1) := by decide +kernel
theorem dX10_row_136 : decode cX10_row 136 = .ok (.aload_n 0, 1) := by decide +kernel
theorem dX10_row_137 : decode cX10_row 137 = .ok (.invokevirtual 119, 3) := by decide +kernel
theorem dX10_row_140 : decode cX10_row 140 = .ok (.iconst 1, 1) := by decide +kernel
theorem dX10_row_141 : decode cX10_row 141 = .ok (.ireturn, 1) := by decide +kernel
set_option maxRecDepth 20000 in
theorem ggX10_axle_X10_in : GoodIn wsX10_axle wsX10_in := goodIn_r _ [9] (by decide +kernel) (by decide +kernel)
set_option maxRecDepth 20000 in
theorem gX10_axle_X10_in : GoodIn wsX10_axle (va_wsS RX10 102 yX10_in wsX10_in) := goodIn_app (goodIn_of _ (by decide +kernel)) ggX10_axle_X10_in
set_option maxRecDepth 20000 in
theorem ggX10_axle_X10_forget : GoodIn wsX10_axle wsX10_forget := goodIn_r _ [13, 14, 15, 16, 17, 18, 19, 20, 21, 22, 23, 24, 25, 26, 27, 28, 29, 30, 31, 32, 33, 34, 35, 36, 37, 38, 39, 40, 41, 42, 43, 44, 45, 46, 47, 48, 49, 50, 51, 52, 53, 54, 55, 56, 57, 58, 59, 60, 61, 62, 63, 64, 65, 66, 67, 68] (by decide +kernel) (by decide +kernel)
set_option maxRecDepth 20000 in
theorem gX10_axle_X10_forget : GoodIn wsX10_axle (wsV RX10 119 RX10 yX10_forget wsX10_forget) := goodIn_app (goodIn_of _ (by decide +kernel)) ggX10_axle_X10_forget
theorem dX10_axle_0 : decode cX10_axle 0 = .ok (.aload_n 0, 1) := by decide +kernel
theorem dX10_axle_1 : decode cX10_axle 1 = .ok (.getfield 135, 3) := by decide +kernel
theorem dX10_axle_4 : decode cX10_axle 4 = .ok (.iconst 5, 1) := by decide +kernel
theorem dX10_axle_5 : decode cX10_axle 5 = .ok (.if_icmp .eq 41, 3) := by decide +kernel
theorem dX10_axle_8 : decode cX10_axle 8 = .ok (.lload_n 3, 1) := by decide +kernel
theorem dX10_axle_9 : decode cX10_axle 9 = .ok (.lconst 0, 1) := by decide +kernel
theorem dX10_axle_10 : decode cX10_axle 10 = .ok (.ldc2_w 133, 3) := by decide +kernel
theorem dX10_axle_13 : decode cX10_axle 13 = .ok (.invokestatic 102, 3) := by decide +kernel
theorem dX10_axle_16 : decode cX10_axle 16 = .ok (.ifCond .eq 30, 3) := by decide +kernel
theorem dX10_axle_19 : decode cX10_axle 19 = .ok (.aload_n 0, 1) := by decide +kernel
theorem dX10_axle_20 : decode cX10_axle 20 = .ok (.getfield 135, 3) := by decide +kernel
theorem dX10_axle_23 : decode cX10_axle 23 = .ok (.ifCond .ne 12, 3) := by decide +kernel
theorem dX10_axle_26 : decode cX10_axle 26 = .ok (.lload_n 1, 1) := by decide +kernel
theorem dX10_axle_27 : decode cX10_axle 27 = .ok (.lconst 0, 1) := by decide +kernel
theorem dX10_axle_28 : decode cX10_axle 28 = .ok (.lcmp, 1) := by decide +kernel
theorem dX10_axle_29 : decode cX10_axle 29 = .ok (.ifCond .ne 17, 3) := by decide +kernel
theorem dX10_axle_32 : decode cX10_axle 32 = .ok (.goto 16, 3) := by decide +kernel
theorem dX10_axle_35 : decode cX10_axle 35 = .ok (.lload_n 1, 1) := by decide +kernel
theorem dX10_axle_36 : decode cX10_axle 36 = .ok (.lconst 1, 1) := by decide +kernel
theorem dX10_axle_37 : decode cX10_axle 37 = .ok (.ldc2_w 138, 3) := by decide +kernel
theorem dX10_axle_40 : decode cX10_axle 40 = .ok (.invokestatic 102, 3) := by decide +kernel
theorem dX10_axle_43 : decode cX10_axle 43 = .ok (.ifCond .ne 5, 3) := by decide +kernel
theorem dX10_axle_46 : decode cX10_axle 46 = .ok (.iconst 0, 1) := by decide +kernel
theorem dX10_axle_47 : decode cX10_axle 47 = .ok (.ireturn, 1) := by decide +kernel
theorem dX10_axle_48 : decode cX10_axle 48 = .ok (.aload_n 0, 1) := by decide +kernel
theorem dX10_axle_49 : decode cX10_axle 49 = .ok (.getfield 59, 3) := by decide +kernel
theorem dX10_axle_52 : decode cX10_axle 52 = .ok (.aload_n 0, 1) := by decide +kernel
theorem dX10_axle_53 : decode cX10_axle 53 = .ok (.getfield 135, 3) := by decide +kernel
theorem dX10_axle_56 : decode cX10_axle 56 = .ok (.lload_n 1, 1) := by decide +kernel
theorem dX10_axle_57 : decode cX10_axle 57 = .ok (.l2i, 1) := by decide +kernel
theorem dX10_axle_58 : decode cX10_axle 58 = .ok (.aload_n 0, 1) := by decide +kernel
theorem dX10_axle_59 : decode cX10_axle 59 = .ok (.getfield 135, 3) := by decide +kernel
theorem dX10_axle_62 : decode cX10_axle 62 = .ok (.ifCond .ne 7, 3) := by decide +kernel
theorem dX10_axle_65 : decode cX10_axle 65 = .ok (.iconst 0, 1) := by decide +kernel
theorem dX10_axle_66 : decode cX10_axle 66 = .ok (.goto 14, 3) := by decide +kernel
theorem dX10_axle_69 : decode cX10_axle 69 = .ok (.aload_n 0, 1) := by decide +kernel
theorem dX10_axle_70 : decode cX10_axle 70 = .ok (.getfield 59, 3) := by decide +kernel
theorem dX10_axle_73 : decode cX10_axle 73 = .ok (.aload_n 0, 1) := by decide +kernel
theorem dX10_axle_74 : decode cX10_axle 74 = .ok (.getfield 135, 3) := by decide +kernel
theorem dX10_axle_77 : decode cX10_axle 77 = .ok (.iconst 1, 1) := by decide +kernel
theorem dX10_axle_78 : decode cX10_axle 78 = .ok (.isub, 1) := by decide +kernel
theorem dX10_axle_79 : decode cX10_axle 79 = .ok (.iaload, 1) := by decide +kernel
theorem dX10_axle_80 : decode cX10_axle 80 = .ok (.iadd, 1) := by decide +kernel
theorem dX10_axle_81 : decode cX10_axle 81 = .ok (.iastore, 1) := by decide +kernel
theorem dX10_axle_82 : decode cX10_axle 82 = .ok (.aload_n 0, 1) := by decide +kernel
theorem dX10_axle_83 : decode cX10_axle 83 = .ok (.getfield 62, 3) := by decide +kernel
theorem dX10_axle_86 : decode cX10_axle 86 = .ok (.aload_n 0, 1) := by decide +kernel
theorem dX10_axle_87 : decode cX10_axle 87 = .ok (.getfield 135, 3) := by decide +kernel
theorem dX10_axle_90 : decode cX10_axle 90 = .ok (.lload_n 3, 1) := by decide +kernel
theorem dX10_axle_91 : decode cX10_axle 91 = .ok (.l2i, 1) := by decide +kernel
theorem dX10_axle_92 : decode cX10_axle 92 = .ok (.iastore, 1) := by decide +kernel
theorem dX10_axle_93 : decode cX10_axle 93 = .ok (.aload_n 0, 1) := by decide +kernel
theorem dX10_axle_94 : decode cX10_axle 94 = .ok (.dup, 1) := by decide +kernel
theorem dX10_axle_95 : decode cX10_axle 95 = .ok (.getfield 135, 3) := by decide +kernel
theorem dX10_axle_98 : decode cX10_axle 98 = .ok (.iconst 1, 1) := by decide +kernel
theorem dX10_axle_99 : decode cX10_axle 99 = .ok (.iadd, 1) := by decide +kernel
theorem dX10_axle_100 : decode cX10_axle 100 = .ok (.putfield 135, 3) := by decide +kernel
theorem dX10_axle_103 : decode cX10_axle 103 = .ok (.aload_n 0, 1) := by decide +kernel
theorem dX10_axle_104 : decode cX10_axle 104 = .ok (.invokevirtual 119, 3) := by decide +kernel
theorem dX10_axle_107 : decode cX10_axle 107 = .ok (.iconst 1, 1) := by decide +kernel
theorem dX10_axle_108 : decode cX10_axle 108 = .ok (.ireturn, 1) := by decide +kernel
set_option maxRecDepth 20000 in
theorem ggX10_size_X10_in : GoodIn wsX10_size wsX10_in := goodIn_r _ [8] (by decide +kernel) (by decide +kernel)
set_option maxRecDepth 20000 in
theorem gX10_size_X10_in : GoodIn wsX10_size (va_wsS RX10 102 yX10_in wsX10_in) := goodIn_app (goodIn_of _ (by decide +kernel)) ggX10_size_X10_in
set_option maxRecDepth 20000 in
theorem ggX10_size_X10_forget : GoodIn wsX10_size wsX10_forget := goodIn_r _ [12, 13, 14, 15, 16, 17, 18, 19, 20, 21, 22, 23, 24, 25, 26, 27, 28, 29, 30, 31, 32, 33, 34, 35, 36, 37, 38, 39, 40, 41, 42, 43, 44, 45, 46, 47, 48, 49, 50, 51, 52, 53, 54, 55, 56, 57, 58, 59, 60, 61, 62, 63, 64, 65, 66, 67] (by decide +kernel) (by decide +kernel)
set_option maxRecDepth 20000 in
theorem gX10_size_X10_forget : GoodIn wsX10_size (wsV RX10 119 RX10 yX10_forget wsX10_forget) := goodIn_app (goodIn_of _ (by decide +kernel)) ggX10_size_X10_forget
theorem dX10_size_0 : decode cX10_size 0 = .ok (.iload_n 1, 1) := by decide +kernel
theorem dX10_size_1 : decode cX10_size 1 = .ok (.i2l, 1) := by decide +kernel
theorem dX10_size_2 : decode cX10_size 2 = .ok (.lconst 1, 1) := by decide +kernel
theorem dX10_size_3 : decode cX10_size 3 = .ok (.ldc2_w 117, 3) := by decide +kernel
theorem dX10_size_6 : decode cX10_size 6 = .ok (.invokestatic 102, 3) := by decide +kernel
theorem dX10_size_9 : decode cX10_size 9 = .ok (.ifCond .eq 27, 3) := by decide +kernel
theorem dX10_size_12 : decode cX10_size 12 = .ok (.iload_n 2, 1) := by decide +kernel
theorem dX10_size_13 : decode cX10_size 13 = .ok (.i2l, 1) := by decide +kernel
theorem dX10_size_14 : decode cX10_size 14 = .ok (.lconst 1, 1) := by decide +kernel
theorem dX10_size_15 : decode cX10_size 15 = .ok (.ldc2_w 117, 3) := by decide +kernel
theorem dX10_size_18 : decode cX10_size 18 = .ok (.invokestatic 102, 3) := by decide +kernel
theorem dX10_size_21 : decode cX10_size 21 = .ok (.ifCond .eq 15, 3) := by decide +kernel
theorem dX10_size_24 : decode cX10_size 24 = .ok (.iload_n 3, 1) := by decide +kernel
theorem dX10_size_25 : decode cX10_size 25 = .ok (.i2l, 1) := by decide +kernel
theorem dX10_size_26 : decode cX10_size 26 = .ok (.lconst 1, 1) := by decide +kernel
theorem dX10_size_27 : decode cX10_size 27 = .ok (.ldc2_w 140, 3) := by decide +kernel
theorem dX10_size_30 : decode cX10_size 30 = .ok (.invokestatic 102, 3) := by decide +kernel
theorem dX10_size_33 : decode cX10_size 33 = .ok (.ifCond .ne 5, 3) := by decide +kernel
theorem dX10_size_36 : decode cX10_size 36 = .ok (.iconst 0, 1) := by decide +kernel
theorem dX10_size_37 : decode cX10_size 37 = .ok (.ireturn, 1) := by decide +kernel
theorem dX10_size_38 : decode cX10_size 38 = .ok (.aload_n 0, 1) := by decide +kernel
theorem dX10_size_39 : decode cX10_size 39 = .ok (.iload_n 1, 1) := by decide +kernel
theorem dX10_size_40 : decode cX10_size 40 = .ok (.putfield 65, 3) := by decide +kernel
theorem dX10_size_43 : decode cX10_size 43 = .ok (.aload_n 0, 1) := by decide +kernel
theorem dX10_size_44 : decode cX10_size 44 = .ok (.iload_n 2, 1) := by decide +kernel
theorem dX10_size_45 : decode cX10_size 45 = .ok (.putfield 69, 3) := by decide +kernel
theorem dX10_size_48 : decode cX10_size 48 = .ok (.aload_n 0, 1) := by decide +kernel
theorem dX10_size_49 : decode cX10_size 49 = .ok (.invokevirtual 119, 3) := by decide +kernel
theorem dX10_size_52 : decode cX10_size 52 = .ok (.iconst 1, 1) := by decide +kernel
theorem dX10_size_53 : decode cX10_size 53 = .ok (.ireturn, 1) := by decide +kernel
set_option maxRecDepth 20000 in
theorem ggX10_turn_X10_isRoad : GoodIn wsX10_turn wsX10_isRoad := goodIn_r _ [8, 9, 10, 11, 7, 12, 18, 19, 20, 21, 22, 23, 24, 25, 26, 27, 28, 29, 30, 31, 32, 33, 34, 35, 36, 37, 38, 39, 40, 41, 42, 43, 44, 45, 46, 47, 48, 49, 50, 51, 52, 53, 54, 55, 56, 57, 58, 59, 60, 61, 62, 63, 64, 65, 66, 67, 68, 69, 70, 71] (by decide +kernel) (by decide +kernel)
set_option maxRecDepth 20000 in
theorem gX10_turn_X10_isRoad : GoodIn wsX10_turn (wsV RX10 122 RX10 yX10_isRoad wsX10_isRoad) := goodIn_app (goodIn_of _ (by decide +kernel)) ggX10_turn_X10_isRoad
set_option maxRecDepth 20000 in
theorem ggX10_turn_X10_forget : GoodIn wsX10_turn wsX10_forget := goodIn_r _ [16, 17, 18, 19, 20, 21, 22, 23, 24, 25, 26, 27, 28, 29, 30, 31, 32, 33, 34, 35, 36, 37, 38, 39, 40, 41, 42, 43, 44, 45, 46, 47, 48, 49, 50, 51, 52, 53, 54, 55, 56, 57, 58, 59, 60, 61, 62, 63, 64, 65, 66, 67, 68, 69, 70, 71] (by decide +kernel) (by decide +kernel)
set_option maxRecDepth 20000 in
theorem gX10_turn_X10_forget : GoodIn wsX10_turn (wsV RX10 119 RX10 yX10_forget wsX10_forget) := goodIn_app (goodIn_of _ (by decide +kernel)) ggX10_turn_X10_forget
theorem dX10_turn_0 : decode cX10_turn 0 = .ok (.aload_n 0, 1) := by decide +kernel
theorem dX10_turn_1 : decode cX10_turn 1 = .ok (.iload_n 1, 1) := by decide +kernel
theorem dX10_turn_2 : decode cX10_turn 2 = .ok (.invokevirtual 122, 3) := by decide +kernel
theorem dX10_turn_5 : decode cX10_turn 5 = .ok (.ifCond .eq 16, 3) := by decide +kernel
theorem dX10_turn_8 : decode cX10_turn 8 = .ok (.aload_n 0, 1) := by decide +kernel
theorem dX10_turn_9 : decode cX10_turn 9 = .ok (.iload_n 2, 1) := by decide +kernel
theorem dX10_turn_10 : decode cX10_turn 10 = .ok (.invokevirtual 122, 3) := by decide +kernel
theorem dX10_turn_13 : decode cX10_turn 13 = .ok (.ifCond .eq 8, 3) := by decide +kernel
theorem dX10_turn_16 : decode cX10_turn 16 = .ok (.iload_n 1, 1) := by decide +kernel
theorem dX10_turn_17 : decode cX10_turn 17 = .ok (.iload_n 2, 1) := by decide +kernel
theorem dX10_turn_18 : decode cX10_turn 18 = .ok (.if_icmp .ne 5, 3) := by decide +kernel
theorem dX10_turn_21 : decode cX10_turn 21 = .ok (.iconst 0, 1) := by decide +kernel
theorem dX10_turn_22 : decode cX10_turn 22 = .ok (.ireturn, 1) := by decide +kernel
theorem dX10_turn_23 : decode cX10_turn 23 = .ok (.aload_n 0, 1) := by decide +kernel
theorem dX10_turn_24 : decode cX10_turn 24 = .ok (.getfield 7, 3) := by decide +kernel
theorem dX10_turn_27 : decode cX10_turn 27 = .ok (.iload_n 1, 1) := by decide +kernel
theorem dX10_turn_28 : decode cX10_turn 28 = .ok (.iaload, 1) := by decide +kernel
theorem dX10_turn_29 : decode cX10_turn 29 = .ok (.aload_n 0, 1) := by decide +kernel
theorem dX10_turn_30 : decode cX10_turn 30 = .ok (.getfield 7, 3) := by decide +kernel
theorem dX10_turn_33 : decode cX10_turn 33 = .ok (.iload_n 2, 1) := by decide +kernel
theorem dX10_turn_34 : decode cX10_turn 34 = .ok (.iaload, 1) := by decide +kernel
theorem dX10_turn_35 : decode cX10_turn 35 = .ok (.if_icmp .eq 50, 3) := by decide +kernel
theorem dX10_turn_38 : decode cX10_turn 38 = .ok (.aload_n 0, 1) := by decide +kernel
theorem dX10_turn_39 : decode cX10_turn 39 = .ok (.getfield 7, 3) := by decide +kernel
theorem dX10_turn_42 : decode cX10_turn 42 = .ok (.iload_n 1, 1) := by decide +kernel
theorem dX10_turn_43 : decode cX10_turn 43 = .ok (.iaload, 1) := by decide +kernel
theorem dX10_turn_44 : decode cX10_turn 44 = .ok (.aload_n 0, 1) := by decide +kernel
theorem dX10_turn_45 : decode cX10_turn 45 = .ok (.getfield 13, 3) := by decide +kernel
theorem dX10_turn_48 : decode cX10_turn 48 = .ok (.iload_n 2, 1) := by decide +kernel
theorem dX10_turn_49 : decode cX10_turn 49 = .ok (.iaload, 1) := by decide +kernel
theorem dX10_turn_50 : decode cX10_turn 50 = .ok (.if_icmp .eq 35, 3) := by decide +kernel
theorem dX10_turn_53 : decode cX10_turn 53 = .ok (.aload_n 0, 1) := by decide +kernel
theorem dX10_turn_54 : decode cX10_turn 54 = .ok (.getfield 13, 3) := by decide +kernel
theorem dX10_turn_57 : decode cX10_turn 57 = .ok (.iload_n 1, 1) := by decide +kernel
theorem dX10_turn_58 : decode cX10_turn 58 = .ok (.iaload, 1) := by decide +kernel
theorem dX10_turn_59 : decode cX10_turn 59 = .ok (.aload_n 0, 1) := by decide +kernel
theorem dX10_turn_60 : decode cX10_turn 60 = .ok (.getfield 7, 3) := by decide +kernel
theorem dX10_turn_63 : decode cX10_turn 63 = .ok (.iload_n 2, 1) := by decide +kernel
theorem dX10_turn_64 : decode cX10_turn 64 = .ok (.iaload, 1) := by decide +kernel
theorem dX10_turn_65 : decode cX10_turn 65 = .ok (.if_icmp .eq 20, 3) := by decide +kernel
theorem dX10_turn_68 : decode cX10_turn 68 = .ok (.aload_n 0, 1) := by decide +kernel
theorem dX10_turn_69 : decode cX10_turn 69 = .ok (.getfield 13, 3) := by decide +kernel
theorem dX10_turn_72 : decode cX10_turn 72 = .ok (.iload_n 1, 1) := by decide +kernel
theorem dX10_turn_73 : decode cX10_turn 73 = .ok (.iaload, 1) := by decide +kernel
theorem dX10_turn_74 : decode cX10_turn 74 = .ok (.aload_n 0, 1) := by decide +kernel
theorem dX10_turn_75 : decode cX10_turn 75 = .ok (.getfield 13, 3) := by decide +kernel
theorem dX10_turn_78 : decode cX10_turn 78 = .ok (.iload_n 2, 1) := by decide +kernel
theorem dX10_turn_79 : decode cX10_turn 79 = .ok (.iaload, 1) := by decide +kernel
theorem dX10_turn_80 : decode cX10_turn 80 = .ok (.if_icmp .eq 5, 3) := by decide +kernel
theorem dX10_turn_83 : decode cX10_turn 83 = .ok (.iconst 0, 1) := by decide +kernel
theorem dX10_turn_84 : decode cX10_turn 84 = .ok (.ireturn, 1) := by decide +kernel
theorem dX10_turn_85 : decode cX10_turn 85 = .ok (.aload_n 0, 1) := by decide +kernel
theorem dX10_turn_86 : decode cX10_turn 86 = .ok (.getfield 41, 3) := by decide +kernel
theorem dX10_turn_89 : decode cX10_turn 89 = .ok (.bipush 12, 2) := by decide +kernel
theorem dX10_turn_91 : decode cX10_turn 91 = .ok (.iload_n 1, 1) := by decide +kernel
theorem dX10_turn_92 : decode cX10_turn 92 = .ok (.imul, 1) := by decide +kernel
theorem dX10_turn_93 : decode cX10_turn 93 = .ok (.iload_n 2, 1) := by decide +kernel
theorem dX10_turn_94 : decode cX10_turn 94 = .ok (.iadd, 1) := by decide +kernel
theorem dX10_turn_95 : decode cX10_turn 95 = .ok (.iload_n 3, 1) := by decide +kernel
theorem dX10_turn_96 : decode cX10_turn 96 = .ok (.ifCond .ne 7, 3) := by decide +kernel
theorem dX10_turn_99 : decode cX10_turn 99 = .ok (.iconst 1, 1) := by decide +kernel
theorem dX10_turn_100 : decode cX10_turn 100 = .ok (.goto 4, 3) := by decide +kernel
theorem dX10_turn_103 : decode cX10_turn 103 = .ok (.iconst 0, 1) := by decide +kernel
theorem dX10_turn_104 : decode cX10_turn 104 = .ok (.bastore, 1) := by decide +kernel
theorem dX10_turn_105 : decode cX10_turn 105 = .ok (.aload_n 0, 1) := by decide +kernel
theorem dX10_turn_106 : decode cX10_turn 106 = .ok (.invokevirtual 119, 3) := by decide +kernel
theorem dX10_turn_109 : decode cX10_turn 109 = .ok (.iconst 1, 1) := by decide +kernel
theorem dX10_turn_110 : decode cX10_turn 110 = .ok (.ireturn, 1) := by decide +kernel
set_option maxRecDepth 20000 in
theorem ggX10_hours_X10_isRoad : GoodIn wsX10_hours wsX10_isRoad := goodIn_r _ [9, 10, 11, 12, 8, 13, 19, 20, 21, 22, 23, 24, 25, 26, 27, 28, 29, 30, 31, 32, 33, 34, 35, 36, 37, 38, 39, 40, 41, 42, 43, 44, 45, 46, 47, 48, 49, 50, 51, 52, 53, 54, 55, 56, 57, 58, 59, 60, 61, 62, 63, 64, 65, 66, 67, 68, 69, 70, 71, 72] (by decide +kernel) (by decide +kernel)
set_option maxRecDepth 20000 in
theorem gX10_hours_X10_isRoad : GoodIn wsX10_hours (wsV RX10 122 RX10 yX10_isRoad wsX10_isRoad) := goodIn_app (goodIn_of _ (by decide +kernel)) ggX10_hours_X10_isRoad
set_option maxRecDepth 20000 in
theorem ggX10_hours_X10_in : GoodIn wsX10_hours wsX10_in := goodIn_r _ [13] (by decide +kernel) (by decide +kernel)
set_option maxRecDepth 20000 in
theorem gX10_hours_X10_in : GoodIn wsX10_hours (va_wsS RX10 102 yX10_in wsX10_in) := goodIn_app (goodIn_of _ (by decide +kernel)) ggX10_hours_X10_in
set_option maxRecDepth 20000 in
theorem ggX10_hours_X10_forget : GoodIn wsX10_hours wsX10_forget := goodIn_r _ [17, 18, 19, 20, 21, 22, 23, 24, 25, 26, 27, 28, 29, 30, 31, 32, 33, 34, 35, 36, 37, 38, 39, 40, 41, 42, 43, 44, 45, 46, 47, 48, 49, 50, 51, 52, 53, 54, 55, 56, 57, 58, 59, 60, 61, 62, 63, 64, 65, 66, 67, 68, 69, 70, 71, 72] (by decide +kernel) (by decide +kernel)
set_option maxRecDepth 20000 in
theorem gX10_hours_X10_forget : GoodIn wsX10_hours (wsV RX10 119 RX10 yX10_forget wsX10_forget) := goodIn_app (goodIn_of _ (by decide +kernel)) ggX10_hours_X10_forget
theorem dX10_hours_0 : decode cX10_hours 0 = .ok (.aload_n 0, 1) := by decide +kernel
theorem dX10_hours_1 : decode cX10_hours 1 = .ok (.iload_n 1, 1) := by decide +kernel
theorem dX10_hours_2 : decode cX10_hours 2 = .ok (.invokevirtual 122, 3) := by decide +kernel
theorem dX10_hours_5 : decode cX10_hours 5 = .ok (.ifCond .eq 37, 3) := by decide +kernel
theorem dX10_hours_8 : decode cX10_hours 8 = .ok (.iload_n 2, 1) := by decide +kernel
theorem dX10_hours_9 : decode cX10_hours 9 = .ok (.i2l, 1) := by decide +kernel
theorem dX10_hours_10 : decode cX10_hours 10 = .ok (.lconst 0, 1) := by decide +kernel
theorem dX10_hours_11 : decode cX10_hours 11 = .ok (.ldc2_w 142, 3) := by decide +kernel
theorem dX10_hours_14 : decode cX10_hours 14 = .ok (.invokestatic 102, 3) := by decide +kernel
theorem dX10_hours_17 : decode cX10_hours 17 = .ok (.ifCond .eq 25, 3) := by decide +kernel
theorem dX10_hours_20 : decode cX10_hours 20 = .ok (.iload_n 3, 1) := by decide +kernel
theorem dX10_hours_21 : decode cX10_hours 21 = .ok (.i2l, 1) := by decide +kernel
theorem dX10_hours_22 : decode cX10_hours 22 = .ok (.lconst 0, 1) := by decide +kernel
theorem dX10_hours_23 : decode cX10_hours 23 = .ok (.ldc2_w 142, 3) := by decide +kernel
theorem dX10_hours_26 : decode cX10_hours 26 = .ok (.invokestatic 102, 3) := by decide +kernel
theorem dX10_hours_29 : decode cX10_hours 29 = .ok (.ifCond .eq 13, 3) := by decide +kernel
theorem dX10_hours_32 : decode cX10_hours 32 = .ok (.aload_n 0, 1) := by decide +kernel
theorem dX10_hours_33 : decode cX10_hours 33 = .ok (.getfield 32, 3) := by decide +kernel
theorem dX10_hours_36 : decode cX10_hours 36 = .ok (.iload_n 1, 1) := by decide +kernel
theorem dX10_hours_37 : decode cX10_hours 37 = .ok (.iaload, 1) := by decide +kernel
theorem dX10_hours_38 : decode cX10_hours 38 = .ok (.iconst 3, 1) := by decide +kernel
theorem dX10_hours_39 : decode cX10_hours 39 = .ok (.if_icmp .ne 5, 3) := by decide +kernel
theorem dX10_hours_42 : decode cX10_hours 42 = .ok (.iconst 0, 1) := by decide +kernel
theorem dX10_hours_43 : decode cX10_hours 43 = .ok (.ireturn, 1) := by decide +kernel
theorem dX10_hours_44 : decode cX10_hours 44 = .ok (.aload_n 0, 1) := by decide +kernel
theorem dX10_hours_45 : decode cX10_hours 45 = .ok (.getfield 35, 3) := by decide +kernel
theorem dX10_hours_48 : decode cX10_hours 48 = .ok (.iconst 3, 1) := by decide +kernel
theorem dX10_hours_49 : decode cX10_hours 49 = .ok (.iload_n 1, 1) := by decide +kernel
theorem dX10_hours_50 : decode cX10_hours 50 = .ok (.imul, 1) := by decide +kernel
theorem dX10_hours_51 : decode cX10_hours 51 = .ok (.aload_n 0, 1) := by decide +kernel
theorem dX10_hours_52 : decode cX10_hours 52 = .ok (.getfield 32, 3) := by decide +kernel
theorem dX10_hours_55 : decode cX10_hours 55 = .ok (.iload_n 1, 1) := by decide +kernel
theorem dX10_hours_56 : decode cX10_hours 56 = .ok (.iaload, 1) := by decide +kernel
theorem dX10_hours_57 : decode cX10_hours 57 = .ok (.iadd, 1) := by decide +kernel
theorem dX10_hours_58 : decode cX10_hours 58 = .ok (.iload_n 2, 1) := by decide +kernel
theorem dX10_hours_59 : decode cX10_hours 59 = .ok (.iastore, 1) := by decide +kernel
theorem dX10_hours_60 : decode cX10_hours 60 = .ok (.aload_n 0, 1) := by decide +kernel
theorem dX10_hours_61 : decode cX10_hours 61 = .ok (.getfield 38, 3) := by decide +kernel
theorem dX10_hours_64 : decode cX10_hours 64 = .ok (.iconst 3, 1) := by decide +kernel
theorem dX10_hours_65 : decode cX10_hours 65 = .ok (.iload_n 1, 1) := by decide +kernel
theorem dX10_hours_66 : decode cX10_hours 66 = .ok (.imul, 1) := by decide +kernel
theorem dX10_hours_67 : decode cX10_hours 67 = .ok (.aload_n 0, 1) := by decide +kernel
theorem dX10_hours_68 : decode cX10_hours 68 = .ok (.getfield 32, 3) := by decide +kernel
theorem dX10_hours_71 : decode cX10_hours 71 = .ok (.iload_n 1, 1) := by decide +kernel
theorem dX10_hours_72 : decode cX10_hours 72 = .ok (.iaload, 1) := by decide +kernel
theorem dX10_hours_73 : decode cX10_hours 73 = .ok (.iadd, 1) := by decide +kernel
theorem dX10_hours_74 : decode cX10_hours 74 = .ok (.iload_n 3, 1) := by decide +kernel
theorem dX10_hours_75 : decode cX10_hours 75 = .ok (.iastore, 1) := by decide +kernel
theorem dX10_hours_76 : decode cX10_hours 76 = .ok (.aload_n 0, 1) := by decide +kernel
theorem dX10_hours_77 : decode cX10_hours 77 = .ok (.getfield 32, 3) := by decide +kernel
theorem dX10_hours_80 : decode cX10_hours 80 = .ok (.iload_n 1, 1) := by decide +kernel
theorem dX10_hours_81 : decode cX10_hours 81 = .ok (.dup2, 1) := by decide +kernel
theorem dX10_hours_82 : decode cX10_hours 82 = .ok (.iaload, 1) := by decide +kernel
theorem dX10_hours_83 : decode cX10_hours 83 = .ok (.iconst 1, 1) := by decide +kernel
theorem dX10_hours_84 : decode cX10_hours 84 = .ok (.iadd, 1) := by decide +kernel
theorem dX10_hours_85 : decode cX10_hours 85 = .ok (.iastore, 1) := by decide +kernel
theorem dX10_hours_86 : decode cX10_hours 86 = .ok (.aload_n 0, 1) := by decide +kernel
theorem dX10_hours_87 : decode cX10_hours 87 = .ok (.invokevirtual 119, 3) := by decide +kernel
theorem dX10_hours_90 : decode cX10_hours 90 = .ok (.iconst 1, 1) := by decide +kernel
theorem dX10_hours_91 : decode cX10_hours 91 = .ok (.ireturn, 1) := by decide +kernel
set_option maxRecDepth 20000 in
theorem ggX10_slow_X10_isBridge : GoodIn wsX10_slow wsX10_isBridge := goodIn_r _ [6, 7, 8, 9, 5, 10, 16, 17, 18, 19, 20, 21, 22, 23, 24, 25, 26, 27, 28, 29, 30, 31, 32, 33, 34, 35, 36, 37, 38, 39, 40, 41, 42, 43, 44, 45, 46, 47, 48, 49, 50, 51, 52, 53, 54, 55, 56, 57, 58, 59, 60, 61, 62, 63, 64, 65, 66, 67, 68, 69] (by decide +kernel) (by decide +kernel)
set_option maxRecDepth 20000 in
theorem gX10_slow_X10_isBridge : GoodIn wsX10_slow (wsV RX10 126 RX10 yX10_isBridge wsX10_isBridge) := goodIn_app (goodIn_of _ (by decide +kernel)) ggX10_slow_X10_isBridge
set_option maxRecDepth 20000 in
theorem ggX10_slow_X10_forget : GoodIn wsX10_slow wsX10_forget := goodIn_r _ [14, 15, 16, 17, 18, 19, 20, 21, 22, 23, 24, 25, 26, 27, 28, 29, 30, 31, 32, 33, 34, 35, 36, 37, 38, 39, 40, 41, 42, 43, 44, 45, 46, 47, 48, 49, 50, 51, 52, 53, 54, 55, 56, 57, 58, 59, 60, 61, 62, 63, 64, 65, 66, 67, 68, 69] (by decide +kernel) (by decide +kernel)
set_option maxRecDepth 20000 in
theorem gX10_slow_X10_forget : GoodIn wsX10_slow (wsV RX10 119 RX10 yX10_forget wsX10_forget) := goodIn_app (goodIn_of _ (by decide +kernel)) ggX10_slow_X10_forget
theorem dX10_slow_0 : decode cX10_slow 0 = .ok (.aload_n 0, 1) := by decide +kernel
theorem dX10_slow_1 : decode cX10_slow 1 = .ok (.iload_n 1, 1) := by decide +kernel
theorem dX10_slow_2 : decode cX10_slow 2 = .ok (.invokevirtual 126, 3) := by decide +kernel
theorem dX10_slow_5 : decode cX10_slow 5 = .ok (.ifCond .ne 5, 3) := by decide +kernel
theorem dX10_slow_8 : decode cX10_slow 8 = .ok (.iconst (-1), 1) := by decide +kernel
theorem dX10_slow_9 : decode cX10_slow 9 = .ok (.ireturn, 1) := by decide +kernel
theorem dX10_slow_10 : decode cX10_slow 10 = .ok (.aload_n 0, 1) := by decide +kernel
theorem dX10_slow_11 : decode cX10_slow 11 = .ok (.getfield 44, 3) := by decide +kernel
theorem dX10_slow_14 : decode cX10_slow 14 = .ok (.iload_n 1, 1) := by decide +kernel
theorem dX10_slow_15 : decode cX10_slow 15 = .ok (.baload, 1) := by decide +kernel
theorem dX10_slow_16 : decode cX10_slow 16 = .ok (.ifCond .eq 7, 3) := by decide +kernel
theorem dX10_slow_19 : decode cX10_slow 19 = .ok (.iconst 1, 1) := by decide +kernel
theorem dX10_slow_20 : decode cX10_slow 20 = .ok (.goto 4, 3) := by decide +kernel
theorem dX10_slow_23 : decode cX10_slow 23 = .ok (.iconst 0, 1) := by decide +kernel
theorem dX10_slow_24 : decode cX10_slow 24 = .ok (.istore_n 3, 1) := by decide +kernel
theorem dX10_slow_25 : decode cX10_slow 25 = .ok (.aload_n 0, 1) := by decide +kernel
theorem dX10_slow_26 : decode cX10_slow 26 = .ok (.getfield 44, 3) := by decide +kernel
theorem dX10_slow_29 : decode cX10_slow 29 = .ok (.iload_n 1, 1) := by decide +kernel
theorem dX10_slow_30 : decode cX10_slow 30 = .ok (.iload_n 2, 1) := by decide +kernel
theorem dX10_slow_31 : decode cX10_slow 31 = .ok (.bastore, 1) := by decide +kernel
theorem dX10_slow_32 : decode cX10_slow 32 = .ok (.aload_n 0, 1) := by decide +kernel
theorem dX10_slow_33 : decode cX10_slow 33 = .ok (.invokevirtual 119, 3) := by decide +kernel
theorem dX10_slow_36 : decode cX10_slow 36 = .ok (.iload_n 3, 1) := by decide +kernel
theorem dX10_slow_37 : decode cX10_slow 37 = .ok (.ireturn, 1) := by decide +kernel
set_option maxRecDepth 20000 in
theorem ggX10_change_X10_isRoad : GoodIn wsX10_change wsX10_isRoad := goodIn_r _ [6, 7, 8, 9, 5, 10, 16, 17, 18, 19, 20, 21, 22, 23, 24, 25, 26, 27, 28, 29, 30, 31, 32, 33, 34, 35, 36, 37, 38, 39, 40, 41, 42, 43, 44, 45, 46, 47, 48, 49, 50, 51, 52, 53, 54, 55, 56, 57, 58, 59, 60, 61, 62, 63, 64, 65, 66, 67, 68, 69] (by decide +kernel) (by decide +kernel)
set_option maxRecDepth 20000 in
theorem gX10_change_X10_isRoad : GoodIn wsX10_change (wsV RX10 122 RX10 yX10_isRoad wsX10_isRoad) := goodIn_app (goodIn_of _ (by decide +kernel)) ggX10_change_X10_isRoad
set_option maxRecDepth 20000 in
theorem ggX10_change_X10_forget : GoodIn wsX10_change wsX10_forget := goodIn_r _ [14, 15, 16, 17, 18, 19, 20, 21, 22, 23, 24, 25, 26, 27, 28, 29, 30, 31, 32, 33, 34, 35, 36, 37, 38, 39, 40, 41, 42, 43, 44, 45, 46, 47, 48, 49, 50, 51, 52, 53, 54, 55, 56, 57, 58, 59, 60, 61, 62, 63, 64, 65, 66, 67, 68, 69] (by decide +kernel) (by decide +kernel)
set_option maxRecDepth 20000 in
theorem gX10_change_X10_forget : GoodIn wsX10_change (wsV RX10 119 RX10 yX10_forget wsX10_forget) := goodIn_app (goodIn_of _ (by decide +kernel)) ggX10_change_X10_forget
theorem dX10_change_0 : decode cX10_change 0 = .ok (.aload_n 0, 1) := by decide +kernel
theorem dX10_change_1 : decode cX10_change 1 = .ok (.iload_n 1, 1) := by decide +kernel
theorem dX10_change_2 : decode cX10_change 2 = .ok (.invokevirtual 122, 3) := by decide +kernel
theorem dX10_change_5 : decode cX10_change 5 = .ok (.ifCond .ne 5, 3) := by decide +kernel
theorem dX10_change_8 : decode cX10_change 8 = .ok (.iconst (-1), 1) := by decide +kernel
theorem dX10_change_9 : decode cX10_change 9 = .ok (.ireturn, 1) := by decide +kernel
theorem dX10_change_10 : decode cX10_change 10 = .ok (.aload_n 0, 1) := by decide +kernel
theorem dX10_change_11 : decode cX10_change 11 = .ok (.getfield 25, 3) := by decide +kernel
theorem dX10_change_14 : decode cX10_change 14 = .ok (.iload_n 1, 1) := by decide +kernel
theorem dX10_change_15 : decode cX10_change 15 = .ok (.baload, 1) := by decide +kernel
theorem dX10_change_16 : decode cX10_change 16 = .ok (.ifCond .eq 7, 3) := by decide +kernel
theorem dX10_change_19 : decode cX10_change 19 = .ok (.iconst 1, 1) := by decide +kernel
theorem dX10_change_20 : decode cX10_change 20 = .ok (.goto 4, 3) := by decide +kernel
theorem dX10_change_23 : decode cX10_change 23 = .ok (.iconst 0, 1) := by decide +kernel
theorem dX10_change_24 : decode cX10_change 24 = .ok (.istore_n 3, 1) := by decide +kernel
theorem dX10_change_25 : decode cX10_change 25 = .ok (.aload_n 0, 1) := by decide +kernel
theorem dX10_change_26 : decode cX10_change 26 = .ok (.getfield 25, 3) := by decide +kernel
theorem dX10_change_29 : decode cX10_change 29 = .ok (.iload_n 1, 1) := by decide +kernel
theorem dX10_change_30 : decode cX10_change 30 = .ok (.iload_n 2, 1) := by decide +kernel
theorem dX10_change_31 : decode cX10_change 31 = .ok (.bastore, 1) := by decide +kernel
theorem dX10_change_32 : decode cX10_change 32 = .ok (.aload_n 0, 1) := by decide +kernel
theorem dX10_change_33 : decode cX10_change 33 = .ok (.invokevirtual 119, 3) := by decide +kernel
theorem dX10_change_36 : decode cX10_change 36 = .ok (.iload_n 3, 1) := by decide +kernel
theorem dX10_change_37 : decode cX10_change 37 = .ok (.ireturn, 1) := by decide +kernel
theorem dX10_common_0 : decode cX10_common 0 = .ok (.lload_n 0, 1) := by decide +kernel
theorem dX10_common_1 : decode cX10_common 1 = .ok (.lstore 4, 2) := by decide +kernel
theorem dX10_common_3 : decode cX10_common 3 = .ok (.lload_n 2, 1) := by decide +kernel
theorem dX10_common_4 : decode cX10_common 4 = .ok (.lstore 6, 2) := by decide +kernel
theorem dX10_common_6 : decode cX10_common 6 = .ok (.lload 6, 2) := by decide +kernel
theorem dX10_common_8 : decode cX10_common 8 = .ok (.lconst 0, 1) := by decide +kernel
theorem dX10_common_9 : decode cX10_common 9 = .ok (.lcmp, 1) := by decide +kernel
theorem dX10_common_10 : decode cX10_common 10 = .ok (.ifCond .eq 21, 3) := by decide +kernel
theorem dX10_common_13 : decode cX10_common 13 = .ok (.lload 4, 2) := by decide +kernel
theorem dX10_common_15 : decode cX10_common 15 = .ok (.lload 6, 2) := by decide +kernel
theorem dX10_common_17 : decode cX10_common 17 = .ok (.lrem, 1) := by decide +kernel
theorem dX10_common_18 : decode cX10_common 18 = .ok (.lstore 8, 2) := by decide +kernel
theorem dX10_common_20 : decode cX10_common 20 = .ok (.lload 6, 2) := by decide +kernel
theorem dX10_common_22 : decode cX10_common 22 = .ok (.lstore 4, 2) := by decide +kernel
theorem dX10_common_24 : decode cX10_common 24 = .ok (.lload 8, 2) := by decide +kernel
theorem dX10_common_26 : decode cX10_common 26 = .ok (.lstore 6, 2) := by decide +kernel
theorem dX10_common_28 : decode cX10_common 28 = .ok (.goto (-22), 3) := by decide +kernel
theorem dX10_common_31 : decode cX10_common 31 = .ok (.lload 4, 2) := by decide +kernel
theorem dX10_common_33 : decode cX10_common 33 = .ok (.lreturn, 1) := by decide +kernel
theorem dX10_product_0 : decode cX10_product 0 = .ok (.lload_n 1, 1) := by decide +kernel
theorem dX10_product_1 : decode cX10_product 1 = .ok (.ldc2_w 144, 3) := by decide +kernel
theorem dX10_product_4 : decode cX10_product 4 = .ok (.ldiv, 1) := by decide +kernel
theorem dX10_product_5 : decode cX10_product 5 = .ok (.lstore 5, 2) := by decide +kernel
theorem dX10_product_7 : decode cX10_product 7 = .ok (.lload_n 1, 1) := by decide +kernel
theorem dX10_product_8 : decode cX10_product 8 = .ok (.ldc2_w 144, 3) := by decide +kernel
theorem dX10_product_11 : decode cX10_product 11 = .ok (.lrem, 1) := by decide +kernel
theorem dX10_product_12 : decode cX10_product 12 = .ok (.lstore 7, 2) := by decide +kernel
theorem dX10_product_14 : decode cX10_product 14 = .ok (.lload_n 3, 1) := by decide +kernel
theorem dX10_product_15 : decode cX10_product 15 = .ok (.ldc2_w 144, 3) := by decide +kernel
theorem dX10_product_18 : decode cX10_product 18 = .ok (.ldiv, 1) := by decide +kernel
theorem dX10_product_19 : decode cX10_product 19 = .ok (.lstore 9, 2) := by decide +kernel
theorem dX10_product_21 : decode cX10_product 21 = .ok (.lload_n 3, 1) := by decide +kernel
theorem dX10_product_22 : decode cX10_product 22 = .ok (.ldc2_w 144, 3) := by decide +kernel
theorem dX10_product_25 : decode cX10_product 25 = .ok (.lrem, 1) := by decide +kernel
theorem dX10_product_26 : decode cX10_product 26 = .ok (.lstore 11, 2) := by decide +kernel
theorem dX10_product_28 : decode cX10_product 28 = .ok (.lload 7, 2) := by decide +kernel
theorem dX10_product_30 : decode cX10_product 30 = .ok (.lload 9, 2) := by decide +kernel
theorem dX10_product_32 : decode cX10_product 32 = .ok (.lmul, 1) := by decide +kernel
theorem dX10_product_33 : decode cX10_product 33 = .ok (.lload 5, 2) := by decide +kernel
theorem dX10_product_35 : decode cX10_product 35 = .ok (.lload 11, 2) := by decide +kernel
theorem dX10_product_37 : decode cX10_product 37 = .ok (.lmul, 1) := by decide +kernel
theorem dX10_product_38 : decode cX10_product 38 = .ok (.ladd, 1) := by decide +kernel
theorem dX10_product_39 : decode cX10_product 39 = .ok (.lstore 13, 2) := by decide +kernel
theorem dX10_product_41 : decode cX10_product 41 = .ok (.aload_n 0, 1) := by decide +kernel
theorem dX10_product_42 : decode cX10_product 42 = .ok (.lload 7, 2) := by decide +kernel
theorem dX10_product_44 : decode cX10_product 44 = .ok (.lload 11, 2) := by decide +kernel
theorem dX10_product_46 : decode cX10_product 46 = .ok (.lmul, 1) := by decide +kernel
theorem dX10_product_47 : decode cX10_product 47 = .ok (.lload 13, 2) := by decide +kernel
theorem dX10_product_49 : decode cX10_product 49 = .ok (.ldc2_w 144, 3) := by decide +kernel
theorem dX10_product_52 : decode cX10_product 52 = .ok (.lrem, 1) := by decide +kernel
theorem dX10_product_53 : decode cX10_product 53 = .ok (.ldc2_w 144, 3) := by decide +kernel
theorem dX10_product_56 : decode cX10_product 56 = .ok (.lmul, 1) := by decide +kernel
theorem dX10_product_57 : decode cX10_product 57 = .ok (.ladd, 1) := by decide +kernel
theorem dX10_product_58 : decode cX10_product 58 = .ok (.putfield 146, 3) := by decide +kernel
theorem dX10_product_61 : decode cX10_product 61 = .ok (.aload_n 0, 1) := by decide +kernel
theorem dX10_product_62 : decode cX10_product 62 = .ok (.lload 5, 2) := by decide +kernel
theorem dX10_product_64 : decode cX10_product 64 = .ok (.lload 9, 2) := by decide +kernel
theorem dX10_product_66 : decode cX10_product 66 = .ok (.lmul, 1) := by decide +kernel
theorem dX10_product_67 : decode cX10_product 67 = .ok (.lload 13, 2) := by decide +kernel
theorem dX10_product_69 : decode cX10_product 69 = .ok (.ldc2_w 144, 3) := by decide +kernel
theorem dX10_product_72 : decode cX10_product 72 = .ok (.ldiv, 1) := by decide +kernel
theorem dX10_product_73 : decode cX10_product 73 = .ok (.ladd, 1) := by decide +kernel
theorem dX10_product_74 : decode cX10_product 74 = .ok (.aload_n 0, 1) := by decide +kernel
theorem dX10_product_75 : decode cX10_product 75 = .ok (.getfield 146, 3) := by decide +kernel
theorem dX10_product_78 : decode cX10_product 78 = .ok (.ldc2_w 150, 3) := by decide +kernel
theorem dX10_product_81 : decode cX10_product 81 = .ok (.ldiv, 1) := by decide +kernel
theorem dX10_product_82 : decode cX10_product 82 = .ok (.ladd, 1) := by decide +kernel
theorem dX10_product_83 : decode cX10_product 83 = .ok (.putfield 152, 3) := by decide +kernel
theorem dX10_product_86 : decode cX10_product 86 = .ok (.aload_n 0, 1) := by decide +kernel
theorem dX10_product_87 : decode cX10_product 87 = .ok (.aload_n 0, 1) := by decide +kernel
theorem dX10_product_88 : decode cX10_product 88 = .ok (.getfield 146, 3) := by decide +kernel
theorem dX10_product_91 : decode cX10_product 91 = .ok (.ldc2_w 150, 3) := by decide +kernel
theorem dX10_product_94 : decode cX10_product 94 = .ok (.lrem, 1) := by decide +kernel
theorem dX10_product_95 : decode cX10_product 95 = .ok (.putfield 146, 3) := by decide +kernel
theorem dX10_product_98 : decode cX10_product 98 = .ok (.return_, 1) := by decide +kernel
set_option maxRecDepth 20000 in
theorem ggX10_add_X10_product : GoodIn wsX10_add wsX10_product := goodIn_r _ [10, 11, 4, 5, 2, 12, 13, 14, 15, 16, 17, 18, 19, 20, 21, 22, 23, 24, 25, 26, 27, 28, 29, 30, 31, 32, 33, 34, 35, 36, 37, 38, 39, 40, 41, 42, 43, 44, 45, 46, 47, 48, 49, 50, 51, 52, 53, 54, 55, 56, 57, 58, 59, 60, 61, 62, 63, 64, 65] (by decide +kernel) (by decide +kernel)
set_option maxRecDepth 20000 in
theorem gX10_add_X10_product : GoodIn wsX10_add (wsV RX10 155 RX10 yX10_product wsX10_product) := goodIn_app (goodIn_of _ (by decide +kernel)) ggX10_add_X10_product
theorem dX10_add_0 : decode cX10_add 0 = .ok (.aload_n 0, 1) := by decide +kernel
theorem dX10_add_1 : decode cX10_add 1 = .ok (.lload_n 1, 1) := by decide +kernel
theorem dX10_add_2 : decode cX10_add 2 = .ok (.lload_n 3, 1) := by decide +kernel
theorem dX10_add_3 : decode cX10_add 3 = .ok (.lconst 0, 1) := by decide +kernel
theorem dX10_add_4 : decode cX10_add 4 = .ok (.lcmp, 1) := by decide +kernel
theorem dX10_add_5 : decode cX10_add 5 = .ok (.ifCond .ge 8, 3) := by decide +kernel
theorem dX10_add_8 : decode cX10_add 8 = .ok (.lload_n 3, 1) := by decide +kernel
theorem dX10_add_9 : decode cX10_add 9 = .ok (.lneg, 1) := by decide +kernel
theorem dX10_add_10 : decode cX10_add 10 = .ok (.goto 4, 3) := by decide +kernel
theorem dX10_add_13 : decode cX10_add 13 = .ok (.lload_n 3, 1) := by decide +kernel
theorem dX10_add_14 : decode cX10_add 14 = .ok (.invokevirtual 155, 3) := by decide +kernel
theorem dX10_add_17 : decode cX10_add 17 = .ok (.lload_n 3, 1) := by decide +kernel
theorem dX10_add_18 : decode cX10_add 18 = .ok (.lconst 0, 1) := by decide +kernel
theorem dX10_add_19 : decode cX10_add 19 = .ok (.lcmp, 1) := by decide +kernel
theorem dX10_add_20 : decode cX10_add 20 = .ok (.ifCond .ge 32, 3) := by decide +kernel
theorem dX10_add_23 : decode cX10_add 23 = .ok (.aload_n 0, 1) := by decide +kernel
theorem dX10_add_24 : decode cX10_add 24 = .ok (.dup, 1) := by decide +kernel
theorem dX10_add_25 : decode cX10_add 25 = .ok (.getfield 159, 3) := by decide +kernel
theorem dX10_add_28 : decode cX10_add 28 = .ok (.aload_n 0, 1) := by decide +kernel
theorem dX10_add_29 : decode cX10_add 29 = .ok (.getfield 152, 3) := by decide +kernel
theorem dX10_add_32 : decode cX10_add 32 = .ok (.lsub, 1) := by decide +kernel
theorem dX10_add_33 : decode cX10_add 33 = .ok (.putfield 159, 3) := by decide +kernel
theorem dX10_add_36 : decode cX10_add 36 = .ok (.aload_n 0, 1) := by decide +kernel
theorem dX10_add_37 : decode cX10_add 37 = .ok (.dup, 1) := by decide +kernel
theorem dX10_add_38 : decode cX10_add 38 = .ok (.getfield 162, 3) := by decide +kernel
theorem dX10_add_41 : decode cX10_add 41 = .ok (.aload_n 0, 1) := by decide +kernel
theorem dX10_add_42 : decode cX10_add 42 = .ok (.getfield 146, 3) := by decide +kernel
theorem dX10_add_45 : decode cX10_add 45 = .ok (.lsub, 1) := by decide +kernel
theorem dX10_add_46 : decode cX10_add 46 = .ok (.putfield 162, 3) := by decide +kernel
theorem dX10_add_49 : decode cX10_add 49 = .ok (.goto 29, 3) := by decide +kernel
theorem dX10_add_52 : decode cX10_add 52 = .ok (.aload_n 0, 1) := by decide +kernel
theorem dX10_add_53 : decode cX10_add 53 = .ok (.dup, 1) := by decide +kernel
theorem dX10_add_54 : decode cX10_add 54 = .ok (.getfield 159, 3) := by decide +kernel
theorem dX10_add_57 : decode cX10_add 57 = .ok (.aload_n 0, 1) := by decide +kernel
theorem dX10_add_58 : decode cX10_add 58 = .ok (.getfield 152, 3) := by decide +kernel
theorem dX10_add_61 : decode cX10_add 61 = .ok (.ladd, 1) := by decide +kernel
theorem dX10_add_62 : decode cX10_add 62 = .ok (.putfield 159, 3) := by decide +kernel
theorem dX10_add_65 : decode cX10_add 65 = .ok (.aload_n 0, 1) := by decide +kernel
theorem dX10_add_66 : decode cX10_add 66 = .ok (.dup, 1) := by decide +kernel
theorem dX10_add_67 : decode cX10_add 67 = .ok (.getfield 162, 3) := by decide +kernel
theorem dX10_add_70 : decode cX10_add 70 = .ok (.aload_n 0, 1) := by decide +kernel
theorem dX10_add_71 : decode cX10_add 71 = .ok (.getfield 146, 3) := by decide +kernel
theorem dX10_add_74 : decode cX10_add 74 = .ok (.ladd, 1) := by decide +kernel
theorem dX10_add_75 : decode cX10_add 75 = .ok (.putfield 162, 3) := by decide +kernel
theorem dX10_add_78 : decode cX10_add 78 = .ok (.aload_n 0, 1) := by decide +kernel
theorem dX10_add_79 : decode cX10_add 79 = .ok (.getfield 162, 3) := by decide +kernel
theorem dX10_add_82 : decode cX10_add 82 = .ok (.lconst 0, 1) := by decide +kernel
theorem dX10_add_83 : decode cX10_add 83 = .ok (.lcmp, 1) := by decide +kernel
theorem dX10_add_84 : decode cX10_add 84 = .ok (.ifCond .ge 25, 3) := by decide +kernel
theorem dX10_add_87 : decode cX10_add 87 = .ok (.aload_n 0, 1) := by decide +kernel
theorem dX10_add_88 : decode cX10_add 88 = .ok (.dup, 1) := by decide +kernel
theorem dX10_add_89 : decode cX10_add 89 = .ok (.getfield 162, 3) := by decide +kernel
theorem dX10_add_92 : decode cX10_add 92 = .ok (.ldc2_w 150, 3) := by decide +kernel
theorem dX10_add_95 : decode cX10_add 95 = .ok (.ladd, 1) := by decide +kernel
theorem dX10_add_96 : decode cX10_add 96 = .ok (.putfield 162, 3) := by decide +kernel
theorem dX10_add_99 : decode cX10_add 99 = .ok (.aload_n 0, 1) := by decide +kernel
theorem dX10_add_100 : decode cX10_add 100 = .ok (.dup, 1) := by decide +kernel
theorem dX10_add_101 : decode cX10_add 101 = .ok (.getfield 159, 3) := by decide +kernel
theorem dX10_add_104 : decode cX10_add 104 = .ok (.lconst 1, 1) := by decide +kernel
theorem dX10_add_105 : decode cX10_add 105 = .ok (.lsub, 1) := by decide +kernel
theorem dX10_add_106 : decode cX10_add 106 = .ok (.putfield 159, 3) := by decide +kernel
theorem dX10_add_109 : decode cX10_add 109 = .ok (.aload_n 0, 1) := by decide +kernel
theorem dX10_add_110 : decode cX10_add 110 = .ok (.getfield 162, 3) := by decide +kernel
theorem dX10_add_113 : decode cX10_add 113 = .ok (.ldc2_w 150, 3) := by decide +kernel
theorem dX10_add_116 : decode cX10_add 116 = .ok (.lcmp, 1) := by decide +kernel
theorem dX10_add_117 : decode cX10_add 117 = .ok (.ifCond .lt 25, 3) := by decide +kernel
theorem dX10_add_120 : decode cX10_add 120 = .ok (.aload_n 0, 1) := by decide +kernel
theorem dX10_add_121 : decode cX10_add 121 = .ok (.dup, 1) := by decide +kernel
theorem dX10_add_122 : decode cX10_add 122 = .ok (.getfield 162, 3) := by decide +kernel
theorem dX10_add_125 : decode cX10_add 125 = .ok (.ldc2_w 150, 3) := by decide +kernel
theorem dX10_add_128 : decode cX10_add 128 = .ok (.lsub, 1) := by decide +kernel
theorem dX10_add_129 : decode cX10_add 129 = .ok (.putfield 162, 3) := by decide +kernel
theorem dX10_add_132 : decode cX10_add 132 = .ok (.aload_n 0, 1) := by decide +kernel
theorem dX10_add_133 : decode cX10_add 133 = .ok (.dup, 1) := by decide +kernel
theorem dX10_add_134 : decode cX10_add 134 = .ok (.getfield 159, 3) := by decide +kernel
theorem dX10_add_137 : decode cX10_add 137 = .ok (.lconst 1, 1) := by decide +kernel
theorem dX10_add_138 : decode cX10_add 138 = .ok (.ladd, 1) := by decide +kernel
theorem dX10_add_139 : decode cX10_add 139 = .ok (.putfield 159, 3) := by decide +kernel
theorem dX10_add_142 : decode cX10_add 142 = .ok (.return_, 1) := by decide +kernel
