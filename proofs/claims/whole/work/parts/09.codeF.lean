theorem dX10_mayBe_0 : decode cX10_mayBe 0 = .ok (.iconst 0, 1) := by decide +kernel
theorem dX10_mayBe_1 : decode cX10_mayBe 1 = .ok (.istore_n 1, 1) := by decide +kernel
theorem dX10_mayBe_2 : decode cX10_mayBe 2 = .ok (.iload_n 1, 1) := by decide +kernel
theorem dX10_mayBe_3 : decode cX10_mayBe 3 = .ok (.aload_n 0, 1) := by decide +kernel
theorem dX10_mayBe_4 : decode cX10_mayBe 4 = .ok (.getfield 109, 3) := by decide +kernel
theorem dX10_mayBe_7 : decode cX10_mayBe 7 = .ok (.if_icmp .ge 80, 3) := by decide +kernel
theorem dX10_mayBe_10 : decode cX10_mayBe 10 = .ok (.aload_n 0, 1) := by decide +kernel
theorem dX10_mayBe_11 : decode cX10_mayBe 11 = .ok (.getfield 75, 3) := by decide +kernel
theorem dX10_mayBe_14 : decode cX10_mayBe 14 = .ok (.iload_n 1, 1) := by decide +kernel
theorem dX10_mayBe_15 : decode cX10_mayBe 15 = .ok (.iaload, 1) := by decide +kernel
theorem dX10_mayBe_16 : decode cX10_mayBe 16 = .ok (.aload_n 0, 1) := by decide +kernel
theorem dX10_mayBe_17 : decode cX10_mayBe 17 = .ok (.getfield 237, 3) := by decide +kernel
theorem dX10_mayBe_20 : decode cX10_mayBe 20 = .ok (.if_icmp .ne 7, 3) := by decide +kernel
theorem dX10_mayBe_23 : decode cX10_mayBe 23 = .ok (.iconst 1, 1) := by decide +kernel
theorem dX10_mayBe_24 : decode cX10_mayBe 24 = .ok (.goto 4, 3) := by decide +kernel
theorem dX10_mayBe_27 : decode cX10_mayBe 27 = .ok (.iconst 0, 1) := by decide +kernel
theorem dX10_mayBe_28 : decode cX10_mayBe 28 = .ok (.istore_n 2, 1) := by decide +kernel
theorem dX10_mayBe_29 : decode cX10_mayBe 29 = .ok (.iconst 0, 1) := by decide +kernel
theorem dX10_mayBe_30 : decode cX10_mayBe 30 = .ok (.istore_n 3, 1) := by decide +kernel
theorem dX10_mayBe_31 : decode cX10_mayBe 31 = .ok (.iload_n 3, 1) := by decide +kernel
theorem dX10_mayBe_32 : decode cX10_mayBe 32 = .ok (.aload_n 0, 1) := by decide +kernel
theorem dX10_mayBe_33 : decode cX10_mayBe 33 = .ok (.getfield 237, 3) := by decide +kernel
theorem dX10_mayBe_36 : decode cX10_mayBe 36 = .ok (.if_icmp .ge 39, 3) := by decide +kernel
theorem dX10_mayBe_39 : decode cX10_mayBe 39 = .ok (.iload_n 2, 1) := by decide +kernel
theorem dX10_mayBe_40 : decode cX10_mayBe 40 = .ok (.ifCond .eq 35, 3) := by decide +kernel
theorem dX10_mayBe_43 : decode cX10_mayBe 43 = .ok (.aload_n 0, 1) := by decide +kernel
theorem dX10_mayBe_44 : decode cX10_mayBe 44 = .ok (.getfield 72, 3) := by decide +kernel
theorem dX10_mayBe_47 : decode cX10_mayBe 47 = .ok (.bipush 12, 2) := by decide +kernel
theorem dX10_mayBe_49 : decode cX10_mayBe 49 = .ok (.iload_n 1, 1) := by decide +kernel
theorem dX10_mayBe_50 : decode cX10_mayBe 50 = .ok (.imul, 1) := by decide +kernel
theorem dX10_mayBe_51 : decode cX10_mayBe 51 = .ok (.iload_n 3, 1) := by decide +kernel
theorem dX10_mayBe_52 : decode cX10_mayBe 52 = .ok (.iadd, 1) := by decide +kernel
theorem dX10_mayBe_53 : decode cX10_mayBe 53 = .ok (.iaload, 1) := by decide +kernel
theorem dX10_mayBe_54 : decode cX10_mayBe 54 = .ok (.aload_n 0, 1) := by decide +kernel
theorem dX10_mayBe_55 : decode cX10_mayBe 55 = .ok (.getfield 81, 3) := by decide +kernel
theorem dX10_mayBe_58 : decode cX10_mayBe 58 = .ok (.iload_n 3, 1) := by decide +kernel
theorem dX10_mayBe_59 : decode cX10_mayBe 59 = .ok (.iaload, 1) := by decide +kernel
theorem dX10_mayBe_60 : decode cX10_mayBe 60 = .ok (.if_icmp .ne 7, 3) := by decide +kernel
theorem dX10_mayBe_63 : decode cX10_mayBe 63 = .ok (.iconst 1, 1) := by decide +kernel
theorem dX10_mayBe_64 : decode cX10_mayBe 64 = .ok (.goto 4, 3) := by decide +kernel
theorem dX10_mayBe_67 : decode cX10_mayBe 67 = .ok (.iconst 0, 1) := by decide +kernel
theorem dX10_mayBe_68 : decode cX10_mayBe 68 = .ok (.istore_n 2, 1) := by decide +kernel
theorem dX10_mayBe_69 : decode cX10_mayBe 69 = .ok (.iinc 3 1, 3) := by decide +kernel
theorem dX10_mayBe_72 : decode cX10_mayBe 72 = .ok (.goto (-41), 3) := by decide +kernel
theorem dX10_mayBe_75 : decode cX10_mayBe 75 = .ok (.iload_n 2, 1) := by decide +kernel
theorem dX10_mayBe_76 : decode cX10_mayBe 76 = .ok (.ifCond .eq 5, 3) := by decide +kernel
theorem dX10_mayBe_79 : decode cX10_mayBe 79 = .ok (.iconst 0, 1) := by decide +kernel
theorem dX10_mayBe_80 : decode cX10_mayBe 80 = .ok (.ireturn, 1) := by decide +kernel
theorem dX10_mayBe_81 : decode cX10_mayBe 81 = .ok (.iinc 1 1, 3) := by decide +kernel
theorem dX10_mayBe_84 : decode cX10_mayBe 84 = .ok (.goto (-82), 3) := by decide +kernel
theorem dX10_mayBe_87 : decode cX10_mayBe 87 = .ok (.iconst 0, 1) := by decide +kernel
theorem dX10_mayBe_88 : decode cX10_mayBe 88 = .ok (.istore_n 1, 1) := by decide +kernel
theorem dX10_mayBe_89 : decode cX10_mayBe 89 = .ok (.iconst 0, 1) := by decide +kernel
theorem dX10_mayBe_90 : decode cX10_mayBe 90 = .ok (.istore_n 2, 1) := by decide +kernel
theorem dX10_mayBe_91 : decode cX10_mayBe 91 = .ok (.iload_n 2, 1) := by decide +kernel
theorem dX10_mayBe_92 : decode cX10_mayBe 92 = .ok (.aload_n 0, 1) := by decide +kernel
theorem dX10_mayBe_93 : decode cX10_mayBe 93 = .ok (.getfield 237, 3) := by decide +kernel
theorem dX10_mayBe_96 : decode cX10_mayBe 96 = .ok (.if_icmp .ge 57, 3) := by decide +kernel
theorem dX10_mayBe_99 : decode cX10_mayBe 99 = .ok (.aload_n 0, 1) := by decide +kernel
theorem dX10_mayBe_100 : decode cX10_mayBe 100 = .ok (.getfield 109, 3) := by decide +kernel
theorem dX10_mayBe_103 : decode cX10_mayBe 103 = .ok (.ifCond .le 50, 3) := by decide +kernel
theorem dX10_mayBe_106 : decode cX10_mayBe 106 = .ok (.iconst 0, 1) := by decide +kernel
theorem dX10_mayBe_107 : decode cX10_mayBe 107 = .ok (.istore_n 3, 1) := by decide +kernel
theorem dX10_mayBe_108 : decode cX10_mayBe 108 = .ok (.iload_n 3, 1) := by decide +kernel
theorem dX10_mayBe_109 : decode cX10_mayBe 109 = .ok (.aload_n 0, 1) := by decide +kernel
theorem dX10_mayBe_110 : decode cX10_mayBe 110 = .ok (.getfield 75, 3) := by decide +kernel
theorem dX10_mayBe_113 : decode cX10_mayBe 113 = .ok (.iconst 0, 1) := by decide +kernel
theorem dX10_mayBe_114 : decode cX10_mayBe 114 = .ok (.iaload, 1) := by decide +kernel
theorem dX10_mayBe_115 : decode cX10_mayBe 115 = .ok (.if_icmp .ge 32, 3) := by decide +kernel
theorem dX10_mayBe_118 : decode cX10_mayBe 118 = .ok (.iload_n 1, 1) := by decide +kernel
theorem dX10_mayBe_119 : decode cX10_mayBe 119 = .ok (.aload_n 0, 1) := by decide +kernel
theorem dX10_mayBe_120 : decode cX10_mayBe 120 = .ok (.getfield 72, 3) := by decide +kernel
theorem dX10_mayBe_123 : decode cX10_mayBe 123 = .ok (.iload_n 3, 1) := by decide +kernel
theorem dX10_mayBe_124 : decode cX10_mayBe 124 = .ok (.iaload, 1) := by decide +kernel
theorem dX10_mayBe_125 : decode cX10_mayBe 125 = .ok (.aload_n 0, 1) := by decide +kernel
theorem dX10_mayBe_126 : decode cX10_mayBe 126 = .ok (.getfield 81, 3) := by decide +kernel
theorem dX10_mayBe_129 : decode cX10_mayBe 129 = .ok (.iload_n 2, 1) := by decide +kernel
theorem dX10_mayBe_130 : decode cX10_mayBe 130 = .ok (.iaload, 1) := by decide +kernel
theorem dX10_mayBe_131 : decode cX10_mayBe 131 = .ok (.if_icmp .ne 7, 3) := by decide +kernel
theorem dX10_mayBe_134 : decode cX10_mayBe 134 = .ok (.iconst 1, 1) := by decide +kernel
theorem dX10_mayBe_135 : decode cX10_mayBe 135 = .ok (.goto 4, 3) := by decide +kernel
theorem dX10_mayBe_138 : decode cX10_mayBe 138 = .ok (.iconst 0, 1) := by decide +kernel
theorem dX10_mayBe_139 : decode cX10_mayBe 139 = .ok (.iadd, 1) := by decide +kernel
theorem dX10_mayBe_140 : decode cX10_mayBe 140 = .ok (.istore_n 1, 1) := by decide +kernel
theorem dX10_mayBe_141 : decode cX10_mayBe 141 = .ok (.iinc 3 1, 3) := by decide +kernel
theorem dX10_mayBe_144 : decode cX10_mayBe 144 = .ok (.goto (-36), 3) := by decide +kernel
theorem dX10_mayBe_147 : decode cX10_mayBe 147 = .ok (.iinc 2 1, 3) := by decide +kernel
theorem dX10_mayBe_150 : decode cX10_mayBe 150 = .ok (.goto (-59), 3) := by decide +kernel
theorem dX10_mayBe_153 : decode cX10_mayBe 153 = .ok (.iload_n 1, 1) := by decide +kernel
theorem dX10_mayBe_154 : decode cX10_mayBe 154 = .ok (.aload_n 0, 1) := by decide +kernel
theorem dX10_mayBe_155 : decode cX10_mayBe 155 = .ok (.getfield 244, 3) := by decide +kernel
theorem dX10_mayBe_158 : decode cX10_mayBe 158 = .ok (.if_icmp .gt 7, 3) := by decide +kernel
theorem dX10_mayBe_161 : decode cX10_mayBe 161 = .ok (.iconst 1, 1) := by decide +kernel
theorem dX10_mayBe_162 : decode cX10_mayBe 162 = .ok (.goto 4, 3) := by decide +kernel
theorem dX10_mayBe_165 : decode cX10_mayBe 165 = .ok (.iconst 0, 1) := by decide +kernel
theorem dX10_mayBe_166 : decode cX10_mayBe 166 = .ok (.ireturn, 1) := by decide +kernel
set_option maxRecDepth 20000 in
theorem ggX10_judge_X10_endOf : GoodIn wsX10_judge wsX10_endOf := goodIn_r _ [12, 13, 14, 15, 11, 16, 17, 18, 19, 20, 21, 22, 23, 24, 25, 26, 27, 28, 29, 30, 47, 48, 49, 50, 51, 52, 53, 54, 55, 56, 57, 58, 59, 60, 61, 62, 63, 64, 65, 66, 67, 68, 69, 70, 71, 72, 73, 74, 75, 76, 77, 78, 79, 80, 81, 82, 83, 84, 85, 86, 87, 88, 89, 90, 91, 92, 93, 94, 95, 96, 97, 98, 99, 100] (by decide +kernel) (by decide +kernel)
set_option maxRecDepth 20000 in
theorem gX10_judge_X10_endOf : GoodIn wsX10_judge (wsV RX10 253 RX10 yX10_endOf wsX10_endOf) := goodIn_app (goodIn_of _ (by decide +kernel)) ggX10_judge_X10_endOf
set_option maxRecDepth 20000 in
theorem ggX10_judge_X10_mayBe : GoodIn wsX10_judge wsX10_mayBe := goodIn_r _ [34, 35, 36, 3, 37, 2, 38, 47, 48, 49, 50, 51, 52, 53, 54, 55, 56, 57, 58, 59, 60, 61, 62, 63, 64, 65, 66, 67, 68, 69, 70, 71, 72, 73, 74, 75, 76, 77, 78, 79, 80, 81, 82, 83, 84, 85, 86, 87, 88, 89, 90, 91, 92, 93, 94, 95, 96, 97, 98, 99, 100] (by decide +kernel) (by decide +kernel)
set_option maxRecDepth 20000 in
theorem gX10_judge_X10_mayBe : GoodIn wsX10_judge (wsV RX10 257 RX10 yX10_mayBe wsX10_mayBe) := goodIn_app (goodIn_of _ (by decide +kernel)) ggX10_judge_X10_mayBe
set_option maxRecDepth 20000 in
theorem ggX10_judge_X10_isBetter : GoodIn wsX10_judge wsX10_isBetter := goodIn_r _ [42, 6, 5, 2, 3, 7, 43, 44, 45, 11, 46, 29, 47, 48, 49, 50, 51, 52, 53, 54, 55, 56, 57, 58, 59, 60, 61, 62, 63, 64, 65, 66, 67, 68, 69, 70, 71, 72, 73, 74, 75, 76, 77, 78, 79, 80, 81, 82, 83, 84, 85, 86, 87, 88, 89, 90, 91, 92, 93, 94, 95, 96, 97, 98, 99, 100] (by decide +kernel) (by decide +kernel)
set_option maxRecDepth 20000 in
theorem gX10_judge_X10_isBetter : GoodIn wsX10_judge (wsV RX10 261 RX10 yX10_isBetter wsX10_isBetter) := goodIn_app (goodIn_of _ (by decide +kernel)) ggX10_judge_X10_isBetter
theorem dX10_judge_0 : decode cX10_judge 0 = .ok (.aload_n 0, 1) := by decide +kernel
theorem dX10_judge_1 : decode cX10_judge 1 = .ok (.dup, 1) := by decide +kernel
theorem dX10_judge_2 : decode cX10_judge 2 = .ok (.getfield 247, 3) := by decide +kernel
theorem dX10_judge_5 : decode cX10_judge 5 = .ok (.iconst 1, 1) := by decide +kernel
theorem dX10_judge_6 : decode cX10_judge 6 = .ok (.iadd, 1) := by decide +kernel
theorem dX10_judge_7 : decode cX10_judge 7 = .ok (.putfield 247, 3) := by decide +kernel
theorem dX10_judge_10 : decode cX10_judge 10 = .ok (.aload_n 0, 1) := by decide +kernel
theorem dX10_judge_11 : decode cX10_judge 11 = .ok (.aload_n 0, 1) := by decide +kernel
theorem dX10_judge_12 : decode cX10_judge 12 = .ok (.getfield 81, 3) := by decide +kernel
theorem dX10_judge_15 : decode cX10_judge 15 = .ok (.iconst 0, 1) := by decide +kernel
theorem dX10_judge_16 : decode cX10_judge 16 = .ok (.aload_n 0, 1) := by decide +kernel
theorem dX10_judge_17 : decode cX10_judge 17 = .ok (.getfield 237, 3) := by decide +kernel
theorem dX10_judge_20 : decode cX10_judge 20 = .ok (.aload_n 0, 1) := by decide +kernel
theorem dX10_judge_21 : decode cX10_judge 21 = .ok (.getfield 250, 3) := by decide +kernel
theorem dX10_judge_24 : decode cX10_judge 24 = .ok (.invokevirtual 253, 3) := by decide +kernel
theorem dX10_judge_27 : decode cX10_judge 27 = .ok (.istore_n 1, 1) := by decide +kernel
theorem dX10_judge_28 : decode cX10_judge 28 = .ok (.aload_n 0, 1) := by decide +kernel
theorem dX10_judge_29 : decode cX10_judge 29 = .ok (.invokevirtual 257, 3) := by decide +kernel
theorem dX10_judge_32 : decode cX10_judge 32 = .ok (.ifCond .eq 52, 3) := by decide +kernel
theorem dX10_judge_35 : decode cX10_judge 35 = .ok (.aload_n 0, 1) := by decide +kernel
theorem dX10_judge_36 : decode cX10_judge 36 = .ok (.iload_n 1, 1) := by decide +kernel
theorem dX10_judge_37 : decode cX10_judge 37 = .ok (.invokevirtual 261, 3) := by decide +kernel
theorem dX10_judge_40 : decode cX10_judge 40 = .ok (.ifCond .eq 44, 3) := by decide +kernel
theorem dX10_judge_43 : decode cX10_judge 43 = .ok (.aload_n 0, 1) := by decide +kernel
theorem dX10_judge_44 : decode cX10_judge 44 = .ok (.iload_n 1, 1) := by decide +kernel
theorem dX10_judge_45 : decode cX10_judge 45 = .ok (.putfield 234, 3) := by decide +kernel
theorem dX10_judge_48 : decode cX10_judge 48 = .ok (.aload_n 0, 1) := by decide +kernel
theorem dX10_judge_49 : decode cX10_judge 49 = .ok (.aload_n 0, 1) := by decide +kernel
theorem dX10_judge_50 : decode cX10_judge 50 = .ok (.getfield 237, 3) := by decide +kernel
theorem dX10_judge_53 : decode cX10_judge 53 = .ok (.putfield 231, 3) := by decide +kernel
theorem dX10_judge_56 : decode cX10_judge 56 = .ok (.iconst 0, 1) := by decide +kernel
theorem dX10_judge_57 : decode cX10_judge 57 = .ok (.istore_n 2, 1) := by decide +kernel
theorem dX10_judge_58 : decode cX10_judge 58 = .ok (.iload_n 2, 1) := by decide +kernel
theorem dX10_judge_59 : decode cX10_judge 59 = .ok (.aload_n 0, 1) := by decide +kernel
theorem dX10_judge_60 : decode cX10_judge 60 = .ok (.getfield 237, 3) := by decide +kernel
theorem dX10_judge_63 : decode cX10_judge 63 = .ok (.if_icmp .ge 21, 3) := by decide +kernel
theorem dX10_judge_66 : decode cX10_judge 66 = .ok (.aload_n 0, 1) := by decide +kernel
theorem dX10_judge_67 : decode cX10_judge 67 = .ok (.getfield 87, 3) := by decide +kernel
theorem dX10_judge_70 : decode cX10_judge 70 = .ok (.iload_n 2, 1) := by decide +kernel
theorem dX10_judge_71 : decode cX10_judge 71 = .ok (.aload_n 0, 1) := by decide +kernel
theorem dX10_judge_72 : decode cX10_judge 72 = .ok (.getfield 81, 3) := by decide +kernel
theorem dX10_judge_75 : decode cX10_judge 75 = .ok (.iload_n 2, 1) := by decide +kernel
theorem dX10_judge_76 : decode cX10_judge 76 = .ok (.iaload, 1) := by decide +kernel
theorem dX10_judge_77 : decode cX10_judge 77 = .ok (.iastore, 1) := by decide +kernel
theorem dX10_judge_78 : decode cX10_judge 78 = .ok (.iinc 2 1, 3) := by decide +kernel
theorem dX10_judge_81 : decode cX10_judge 81 = .ok (.goto (-23), 3) := by decide +kernel
theorem dX10_judge_84 : decode cX10_judge 84 = .ok (.return_, 1) := by decide +kernel
theorem dX10_otherEnd_0 : decode cX10_otherEnd 0 = .ok (.aload_n 0, 1) := by decide +kernel
theorem dX10_otherEnd_1 : decode cX10_otherEnd 1 = .ok (.getfield 7, 3) := by decide +kernel
theorem dX10_otherEnd_4 : decode cX10_otherEnd 4 = .ok (.iload_n 1, 1) := by decide +kernel
theorem dX10_otherEnd_5 : decode cX10_otherEnd 5 = .ok (.iaload, 1) := by decide +kernel
theorem dX10_otherEnd_6 : decode cX10_otherEnd 6 = .ok (.iload_n 2, 1) := by decide +kernel
theorem dX10_otherEnd_7 : decode cX10_otherEnd 7 = .ok (.if_icmp .ne 12, 3) := by decide +kernel
theorem dX10_otherEnd_10 : decode cX10_otherEnd 10 = .ok (.aload_n 0, 1) := by decide +kernel
theorem dX10_otherEnd_11 : decode cX10_otherEnd 11 = .ok (.getfield 13, 3) := by decide +kernel
theorem dX10_otherEnd_14 : decode cX10_otherEnd 14 = .ok (.iload_n 1, 1) := by decide +kernel
theorem dX10_otherEnd_15 : decode cX10_otherEnd 15 = .ok (.iaload, 1) := by decide +kernel
theorem dX10_otherEnd_16 : decode cX10_otherEnd 16 = .ok (.goto 24, 3) := by decide +kernel
theorem dX10_otherEnd_19 : decode cX10_otherEnd 19 = .ok (.aload_n 0, 1) := by decide +kernel
theorem dX10_otherEnd_20 : decode cX10_otherEnd 20 = .ok (.getfield 13, 3) := by decide +kernel
theorem dX10_otherEnd_23 : decode cX10_otherEnd 23 = .ok (.iload_n 1, 1) := by decide +kernel
theorem dX10_otherEnd_24 : decode cX10_otherEnd 24 = .ok (.iaload, 1) := by decide +kernel
theorem dX10_otherEnd_25 : decode cX10_otherEnd 25 = .ok (.iload_n 2, 1) := by decide +kernel
theorem dX10_otherEnd_26 : decode cX10_otherEnd 26 = .ok (.if_icmp .ne 12, 3) := by decide +kernel
theorem dX10_otherEnd_29 : decode cX10_otherEnd 29 = .ok (.aload_n 0, 1) := by decide +kernel
theorem dX10_otherEnd_30 : decode cX10_otherEnd 30 = .ok (.getfield 7, 3) := by decide +kernel
theorem dX10_otherEnd_33 : decode cX10_otherEnd 33 = .ok (.iload_n 1, 1) := by decide +kernel
theorem dX10_otherEnd_34 : decode cX10_otherEnd 34 = .ok (.iaload, 1) := by decide +kernel
theorem dX10_otherEnd_35 : decode cX10_otherEnd 35 = .ok (.goto 5, 3) := by decide +kernel
theorem dX10_otherEnd_38 : decode cX10_otherEnd 38 = .ok (.bipush (-2), 2) := by decide +kernel
theorem dX10_otherEnd_40 : decode cX10_otherEnd 40 = .ok (.ireturn, 1) := by decide +kernel
set_option maxRecDepth 20000 in
theorem ggX10_mayGo_X10_otherEnd : GoodIn wsX10_mayGo wsX10_otherEnd := goodIn_r _ [10, 11, 12, 13, 14, 15, 16, 17, 18, 19, 20, 21, 22, 23, 24, 25, 26, 27, 28, 29, 30, 31, 32, 33, 34, 35, 36, 37, 38, 39, 40, 41, 42, 43, 44, 45, 46, 47, 48, 49, 50, 51, 52, 53, 54, 55, 56, 57, 58, 59, 60, 61, 62, 63, 64, 65, 66] (by decide +kernel) (by decide +kernel)
set_option maxRecDepth 20000 in
theorem gX10_mayGo_X10_otherEnd : GoodIn wsX10_mayGo (wsV RX10 264 RX10 yX10_otherEnd wsX10_otherEnd) := goodIn_app (goodIn_of _ (by decide +kernel)) ggX10_mayGo_X10_otherEnd
theorem dX10_mayGo_0 : decode cX10_mayGo 0 = .ok (.aload_n 0, 1) := by decide +kernel
theorem dX10_mayGo_1 : decode cX10_mayGo 1 = .ok (.iload_n 1, 1) := by decide +kernel
theorem dX10_mayGo_2 : decode cX10_mayGo 2 = .ok (.iload_n 2, 1) := by decide +kernel
theorem dX10_mayGo_3 : decode cX10_mayGo 3 = .ok (.invokevirtual 264, 3) := by decide +kernel
theorem dX10_mayGo_6 : decode cX10_mayGo 6 = .ok (.istore_n 3, 1) := by decide +kernel
theorem dX10_mayGo_7 : decode cX10_mayGo 7 = .ok (.iload_n 3, 1) := by decide +kernel
theorem dX10_mayGo_8 : decode cX10_mayGo 8 = .ok (.bipush (-2), 2) := by decide +kernel
theorem dX10_mayGo_10 : decode cX10_mayGo 10 = .ok (.if_icmp .eq 56, 3) := by decide +kernel
theorem dX10_mayGo_13 : decode cX10_mayGo 13 = .ok (.aload_n 0, 1) := by decide +kernel
theorem dX10_mayGo_14 : decode cX10_mayGo 14 = .ok (.getfield 90, 3) := by decide +kernel
theorem dX10_mayGo_17 : decode cX10_mayGo 17 = .ok (.iload_n 1, 1) := by decide +kernel
theorem dX10_mayGo_18 : decode cX10_mayGo 18 = .ok (.baload, 1) := by decide +kernel
theorem dX10_mayGo_19 : decode cX10_mayGo 19 = .ok (.ifCond .eq 47, 3) := by decide +kernel
theorem dX10_mayGo_22 : decode cX10_mayGo 22 = .ok (.aload_n 0, 1) := by decide +kernel
theorem dX10_mayGo_23 : decode cX10_mayGo 23 = .ok (.getfield 84, 3) := by decide +kernel
theorem dX10_mayGo_26 : decode cX10_mayGo 26 = .ok (.iload_n 3, 1) := by decide +kernel
theorem dX10_mayGo_27 : decode cX10_mayGo 27 = .ok (.baload, 1) := by decide +kernel
theorem dX10_mayGo_28 : decode cX10_mayGo 28 = .ok (.ifCond .ne 38, 3) := by decide +kernel
theorem dX10_mayGo_31 : decode cX10_mayGo 31 = .ok (.aload_n 0, 1) := by decide +kernel
theorem dX10_mayGo_32 : decode cX10_mayGo 32 = .ok (.getfield 237, 3) := by decide +kernel
theorem dX10_mayGo_35 : decode cX10_mayGo 35 = .ok (.ifCond .eq 27, 3) := by decide +kernel
theorem dX10_mayGo_38 : decode cX10_mayGo 38 = .ok (.aload_n 0, 1) := by decide +kernel
theorem dX10_mayGo_39 : decode cX10_mayGo 39 = .ok (.getfield 41, 3) := by decide +kernel
theorem dX10_mayGo_42 : decode cX10_mayGo 42 = .ok (.bipush 12, 2) := by decide +kernel
theorem dX10_mayGo_44 : decode cX10_mayGo 44 = .ok (.aload_n 0, 1) := by decide +kernel
theorem dX10_mayGo_45 : decode cX10_mayGo 45 = .ok (.getfield 81, 3) := by decide +kernel
theorem dX10_mayGo_48 : decode cX10_mayGo 48 = .ok (.aload_n 0, 1) := by decide +kernel
theorem dX10_mayGo_49 : decode cX10_mayGo 49 = .ok (.getfield 237, 3) := by decide +kernel
theorem dX10_mayGo_52 : decode cX10_mayGo 52 = .ok (.iconst 1, 1) := by decide +kernel
theorem dX10_mayGo_53 : decode cX10_mayGo 53 = .ok (.isub, 1) := by decide +kernel
theorem dX10_mayGo_54 : decode cX10_mayGo 54 = .ok (.iaload, 1) := by decide +kernel
theorem dX10_mayGo_55 : decode cX10_mayGo 55 = .ok (.imul, 1) := by decide +kernel
theorem dX10_mayGo_56 : decode cX10_mayGo 56 = .ok (.iload_n 1, 1) := by decide +kernel
theorem dX10_mayGo_57 : decode cX10_mayGo 57 = .ok (.iadd, 1) := by decide +kernel
theorem dX10_mayGo_58 : decode cX10_mayGo 58 = .ok (.baload, 1) := by decide +kernel
theorem dX10_mayGo_59 : decode cX10_mayGo 59 = .ok (.ifCond .ne 7, 3) := by decide +kernel
theorem dX10_mayGo_62 : decode cX10_mayGo 62 = .ok (.iconst 1, 1) := by decide +kernel
theorem dX10_mayGo_63 : decode cX10_mayGo 63 = .ok (.goto 4, 3) := by decide +kernel
theorem dX10_mayGo_66 : decode cX10_mayGo 66 = .ok (.iconst 0, 1) := by decide +kernel
theorem dX10_mayGo_67 : decode cX10_mayGo 67 = .ok (.ireturn, 1) := by decide +kernel
set_option maxRecDepth 20000 in
theorem ggX10_goThrough_X10_judge : GoodIn wsX10_goThrough wsX10_judge := goodIn_r _ [13, 14, 7, 4, 15, 16, 17, 18, 19, 20, 21, 12, 22, 23, 24, 25, 26, 27, 28, 29, 30, 31, 32, 33, 34, 35, 36, 37, 38, 39, 40, 41, 42, 43, 44, 45, 46, 47, 48, 49, 50, 51, 52, 53, 54, 55, 56, 69, 70, 71, 72, 73, 74, 75, 76, 77, 78, 79, 80, 81, 82, 83, 84, 85, 86, 87, 88, 89, 90, 91, 92, 93, 94, 95, 96, 97, 98, 99, 100, 101, 102, 103, 104, 105, 106, 107, 108, 109, 110, 111, 112, 113, 114, 115, 116, 117, 118, 119, 120, 121, 122] (by decide +kernel) (by decide +kernel)
set_option maxRecDepth 20000 in
theorem gX10_goThrough_X10_judge : GoodIn wsX10_goThrough (wsV RX10 273 RX10 yX10_judge wsX10_judge) := goodIn_app (goodIn_of _ (by decide +kernel)) ggX10_goThrough_X10_judge
set_option maxRecDepth 20000 in
theorem ggX10_goThrough_X10_mayGo : GoodIn wsX10_goThrough wsX10_mayGo := goodIn_r _ [60, 61, 8, 4, 62, 7, 63, 64, 65, 12, 66, 67, 68, 69, 70, 71, 72, 73, 74, 75, 76, 77, 78, 79, 80, 81, 82, 83, 84, 85, 86, 87, 88, 89, 90, 91, 92, 93, 94, 95, 96, 97, 98, 99, 100, 101, 102, 103, 104, 105, 106, 107, 108, 109, 110, 111, 112, 113, 114, 115, 116, 117, 118, 119, 120, 121, 122] (by decide +kernel) (by decide +kernel)
set_option maxRecDepth 20000 in
theorem gX10_goThrough_X10_mayGo : GoodIn wsX10_goThrough (wsV RX10 276 RX10 yX10_mayGo wsX10_mayGo) := goodIn_app (goodIn_of _ (by decide +kernel)) ggX10_goThrough_X10_mayGo
set_option maxRecDepth 20000 in
theorem ggX10_goThrough_X10_otherEnd : GoodIn wsX10_goThrough wsX10_otherEnd := goodIn_r _ [66, 67, 68, 69, 70, 71, 72, 73, 74, 75, 76, 77, 78, 79, 80, 81, 82, 83, 84, 85, 86, 87, 88, 89, 90, 91, 92, 93, 94, 95, 96, 97, 98, 99, 100, 101, 102, 103, 104, 105, 106, 107, 108, 109, 110, 111, 112, 113, 114, 115, 116, 117, 118, 119, 120, 121, 122] (by decide +kernel) (by decide +kernel)
set_option maxRecDepth 20000 in
theorem gX10_goThrough_X10_otherEnd : GoodIn wsX10_goThrough (wsV RX10 264 RX10 yX10_otherEnd wsX10_otherEnd) := goodIn_app (goodIn_of _ (by decide +kernel)) ggX10_goThrough_X10_otherEnd
theorem dX10_goThrough_0 : decode cX10_goThrough 0 = .ok (.aload_n 0, 1) := by decide +kernel
theorem dX10_goThrough_1 : decode cX10_goThrough 1 = .ok (.getfield 93, 3) := by decide +kernel
theorem dX10_goThrough_4 : decode cX10_goThrough 4 = .ok (.iconst 0, 1) := by decide +kernel
theorem dX10_goThrough_5 : decode cX10_goThrough 5 = .ok (.aload_n 0, 1) := by decide +kernel
theorem dX10_goThrough_6 : decode cX10_goThrough 6 = .ok (.getfield 267, 3) := by decide +kernel
theorem dX10_goThrough_9 : decode cX10_goThrough 9 = .ok (.iastore, 1) := by decide +kernel
theorem dX10_goThrough_10 : decode cX10_goThrough 10 = .ok (.aload_n 0, 1) := by decide +kernel
theorem dX10_goThrough_11 : decode cX10_goThrough 11 = .ok (.getfield 96, 3) := by decide +kernel
theorem dX10_goThrough_14 : decode cX10_goThrough 14 = .ok (.iconst 0, 1) := by decide +kernel
theorem dX10_goThrough_15 : decode cX10_goThrough 15 = .ok (.iconst 0, 1) := by decide +kernel
theorem dX10_goThrough_16 : decode cX10_goThrough 16 = .ok (.iastore, 1) := by decide +kernel
theorem dX10_goThrough_17 : decode cX10_goThrough 17 = .ok (.iconst 1, 1) := by decide +kernel
theorem dX10_goThrough_18 : decode cX10_goThrough 18 = .ok (.istore_n 1, 1) := by decide +kernel
theorem dX10_goThrough_19 : decode cX10_goThrough 19 = .ok (.iload_n 1, 1) := by decide +kernel
theorem dX10_goThrough_20 : decode cX10_goThrough 20 = .ok (.ifCond .eq 187, 3) := by decide +kernel
theorem dX10_goThrough_23 : decode cX10_goThrough 23 = .ok (.aload_n 0, 1) := by decide +kernel
theorem dX10_goThrough_24 : decode cX10_goThrough 24 = .ok (.getfield 93, 3) := by decide +kernel
theorem dX10_goThrough_27 : decode cX10_goThrough 27 = .ok (.aload_n 0, 1) := by decide +kernel
theorem dX10_goThrough_28 : decode cX10_goThrough 28 = .ok (.getfield 237, 3) := by decide +kernel
theorem dX10_goThrough_31 : decode cX10_goThrough 31 = .ok (.iaload, 1) := by decide +kernel
theorem dX10_goThrough_32 : decode cX10_goThrough 32 = .ok (.istore_n 2, 1) := by decide +kernel
theorem dX10_goThrough_33 : decode cX10_goThrough 33 = .ok (.aload_n 0, 1) := by decide +kernel
theorem dX10_goThrough_34 : decode cX10_goThrough 34 = .ok (.getfield 96, 3) := by decide +kernel
theorem dX10_goThrough_37 : decode cX10_goThrough 37 = .ok (.aload_n 0, 1) := by decide +kernel
theorem dX10_goThrough_38 : decode cX10_goThrough 38 = .ok (.getfield 237, 3) := by decide +kernel
theorem dX10_goThrough_41 : decode cX10_goThrough 41 = .ok (.iaload, 1) := by decide +kernel
theorem dX10_goThrough_42 : decode cX10_goThrough 42 = .ok (.istore_n 3, 1) := by decide +kernel
theorem dX10_goThrough_43 : decode cX10_goThrough 43 = .ok (.iload_n 2, 1) := by decide +kernel
theorem dX10_goThrough_44 : decode cX10_goThrough 44 = .ok (.aload_n 0, 1) := by decide +kernel
theorem dX10_goThrough_45 : decode cX10_goThrough 45 = .ok (.getfield 270, 3) := by decide +kernel
theorem dX10_goThrough_48 : decode cX10_goThrough 48 = .ok (.if_icmp .ne 12, 3) := by decide +kernel
theorem dX10_goThrough_51 : decode cX10_goThrough 51 = .ok (.aload_n 0, 1) := by decide +kernel
theorem dX10_goThrough_52 : decode cX10_goThrough 52 = .ok (.invokevirtual 273, 3) := by decide +kernel
theorem dX10_goThrough_55 : decode cX10_goThrough 55 = .ok (.aload_n 0, 1) := by decide +kernel
theorem dX10_goThrough_56 : decode cX10_goThrough 56 = .ok (.getfield 99, 3) := by decide +kernel
theorem dX10_goThrough_59 : decode cX10_goThrough 59 = .ok (.istore_n 3, 1) := by decide +kernel
theorem dX10_goThrough_60 : decode cX10_goThrough 60 = .ok (.iload_n 3, 1) := by decide +kernel
theorem dX10_goThrough_61 : decode cX10_goThrough 61 = .ok (.aload_n 0, 1) := by decide +kernel
theorem dX10_goThrough_62 : decode cX10_goThrough 62 = .ok (.getfield 99, 3) := by decide +kernel
theorem dX10_goThrough_65 : decode cX10_goThrough 65 = .ok (.if_icmp .ge 18, 3) := by decide +kernel
theorem dX10_goThrough_68 : decode cX10_goThrough 68 = .ok (.aload_n 0, 1) := by decide +kernel
theorem dX10_goThrough_69 : decode cX10_goThrough 69 = .ok (.iload_n 3, 1) := by decide +kernel
theorem dX10_goThrough_70 : decode cX10_goThrough 70 = .ok (.iload_n 2, 1) := by decide +kernel
theorem dX10_goThrough_71 : decode cX10_goThrough 71 = .ok (.invokevirtual 276, 3) := by decide +kernel
theorem dX10_goThrough_74 : decode cX10_goThrough 74 = .ok (.ifCond .ne 9, 3) := by decide +kernel
theorem dX10_goThrough_77 : decode cX10_goThrough 77 = .ok (.iinc 3 1, 3) := by decide +kernel
theorem dX10_goThrough_80 : decode cX10_goThrough 80 = .ok (.goto (-20), 3) := by decide +kernel
theorem dX10_goThrough_83 : decode cX10_goThrough 83 = .ok (.iload_n 3, 1) := by decide +kernel
theorem dX10_goThrough_84 : decode cX10_goThrough 84 = .ok (.aload_n 0, 1) := by decide +kernel
theorem dX10_goThrough_85 : decode cX10_goThrough 85 = .ok (.getfield 99, 3) := by decide +kernel
theorem dX10_goThrough_88 : decode cX10_goThrough 88 = .ok (.if_icmp .ge 78, 3) := by decide +kernel
theorem dX10_goThrough_91 : decode cX10_goThrough 91 = .ok (.aload_n 0, 1) := by decide +kernel
theorem dX10_goThrough_92 : decode cX10_goThrough 92 = .ok (.getfield 96, 3) := by decide +kernel
theorem dX10_goThrough_95 : decode cX10_goThrough 95 = .ok (.aload_n 0, 1) := by decide +kernel
theorem dX10_goThrough_96 : decode cX10_goThrough 96 = .ok (.getfield 237, 3) := by decide +kernel
theorem dX10_goThrough_99 : decode cX10_goThrough 99 = .ok (.iload_n 3, 1) := by decide +kernel
theorem dX10_goThrough_100 : decode cX10_goThrough 100 = .ok (.iconst 1, 1) := by decide +kernel
theorem dX10_goThrough_101 : decode cX10_goThrough 101 = .ok (.iadd, 1) := by decide +kernel
theorem dX10_goThrough_102 : decode cX10_goThrough 102 = .ok (.iastore, 1) := by decide +kernel
theorem dX10_goThrough_103 : decode cX10_goThrough 103 = .ok (.aload_n 0, 1) := by decide +kernel
theorem dX10_goThrough_104 : decode cX10_goThrough 104 = .ok (.getfield 81, 3) := by decide +kernel
theorem dX10_goThrough_107 : decode cX10_goThrough 107 = .ok (.aload_n 0, 1) := by decide +kernel
theorem dX10_goThrough_108 : decode cX10_goThrough 108 = .ok (.getfield 237, 3) := by decide +kernel
theorem dX10_goThrough_111 : decode cX10_goThrough 111 = .ok (.iload_n 3, 1) := by decide +kernel
theorem dX10_goThrough_112 : decode cX10_goThrough 112 = .ok (.iastore, 1) := by decide +kernel
theorem dX10_goThrough_113 : decode cX10_goThrough 113 = .ok (.aload_n 0, 1) := by decide +kernel
theorem dX10_goThrough_114 : decode cX10_goThrough 114 = .ok (.dup, 1) := by decide +kernel
theorem dX10_goThrough_115 : decode cX10_goThrough 115 = .ok (.getfield 237, 3) := by decide +kernel
theorem dX10_goThrough_118 : decode cX10_goThrough 118 = .ok (.iconst 1, 1) := by decide +kernel
theorem dX10_goThrough_119 : decode cX10_goThrough 119 = .ok (.iadd, 1) := by decide +kernel
theorem dX10_goThrough_120 : decode cX10_goThrough 120 = .ok (.putfield 237, 3) := by decide +kernel
theorem dX10_goThrough_123 : decode cX10_goThrough 123 = .ok (.aload_n 0, 1) := by decide +kernel
theorem dX10_goThrough_124 : decode cX10_goThrough 124 = .ok (.getfield 93, 3) := by decide +kernel
theorem dX10_goThrough_127 : decode cX10_goThrough 127 = .ok (.aload_n 0, 1) := by decide +kernel
theorem dX10_goThrough_128 : decode cX10_goThrough 128 = .ok (.getfield 237, 3) := by decide +kernel
theorem dX10_goThrough_131 : decode cX10_goThrough 131 = .ok (.aload_n 0, 1) := by decide +kernel
theorem dX10_goThrough_132 : decode cX10_goThrough 132 = .ok (.iload_n 3, 1) := by decide +kernel
theorem dX10_goThrough_133 : decode cX10_goThrough 133 = .ok (.iload_n 2, 1) := by decide +kernel
theorem dX10_goThrough_134 : decode cX10_goThrough 134 = .ok (.invokevirtual 264, 3) := by decide +kernel
theorem dX10_goThrough_137 : decode cX10_goThrough 137 = .ok (.iastore, 1) := by decide +kernel
theorem dX10_goThrough_138 : decode cX10_goThrough 138 = .ok (.aload_n 0, 1) := by decide +kernel
theorem dX10_goThrough_139 : decode cX10_goThrough 139 = .ok (.getfield 96, 3) := by decide +kernel
theorem dX10_goThrough_142 : decode cX10_goThrough 142 = .ok (.aload_n 0, 1) := by decide +kernel
theorem dX10_goThrough_143 : decode cX10_goThrough 143 = .ok (.getfield 237, 3) := by decide +kernel
theorem dX10_goThrough_146 : decode cX10_goThrough 146 = .ok (.iconst 0, 1) := by decide +kernel
theorem dX10_goThrough_147 : decode cX10_goThrough 147 = .ok (.iastore, 1) := by decide +kernel
theorem dX10_goThrough_148 : decode cX10_goThrough 148 = .ok (.aload_n 0, 1) := by decide +kernel
theorem dX10_goThrough_149 : decode cX10_goThrough 149 = .ok (.getfield 84, 3) := by decide +kernel
theorem dX10_goThrough_152 : decode cX10_goThrough 152 = .ok (.aload_n 0, 1) := by decide +kernel
theorem dX10_goThrough_153 : decode cX10_goThrough 153 = .ok (.getfield 93, 3) := by decide +kernel
theorem dX10_goThrough_156 : decode cX10_goThrough 156 = .ok (.aload_n 0, 1) := by decide +kernel
theorem dX10_goThrough_157 : decode cX10_goThrough 157 = .ok (.getfield 237, 3) := by decide +kernel
theorem dX10_goThrough_160 : decode cX10_goThrough 160 = .ok (.iaload, 1) := by decide +kernel
theorem dX10_goThrough_161 : decode cX10_goThrough 161 = .ok (.iconst 1, 1) := by decide +kernel
theorem dX10_goThrough_162 : decode cX10_goThrough 162 = .ok (.bastore, 1) := by decide +kernel
theorem dX10_goThrough_163 : decode cX10_goThrough 163 = .ok (.goto 41, 3) := by decide +kernel
theorem dX10_goThrough_166 : decode cX10_goThrough 166 = .ok (.aload_n 0, 1) := by decide +kernel
theorem dX10_goThrough_167 : decode cX10_goThrough 167 = .ok (.getfield 84, 3) := by decide +kernel
theorem dX10_goThrough_170 : decode cX10_goThrough 170 = .ok (.iload_n 2, 1) := by decide +kernel
theorem dX10_goThrough_171 : decode cX10_goThrough 171 = .ok (.iconst 0, 1) := by decide +kernel
theorem dX10_goThrough_172 : decode cX10_goThrough 172 = .ok (.bastore, 1) := by decide +kernel
theorem dX10_goThrough_173 : decode cX10_goThrough 173 = .ok (.aload_n 0, 1) := by decide +kernel
theorem dX10_goThrough_174 : decode cX10_goThrough 174 = .ok (.getfield 237, 3) := by decide +kernel
theorem dX10_goThrough_177 : decode cX10_goThrough 177 = .ok (.ifCond .le 7, 3) := by decide +kernel
theorem dX10_goThrough_180 : decode cX10_goThrough 180 = .ok (.iconst 1, 1) := by decide +kernel
theorem dX10_goThrough_181 : decode cX10_goThrough 181 = .ok (.goto 4, 3) := by decide +kernel
theorem dX10_goThrough_184 : decode cX10_goThrough 184 = .ok (.iconst 0, 1) := by decide +kernel
theorem dX10_goThrough_185 : decode cX10_goThrough 185 = .ok (.istore_n 1, 1) := by decide +kernel
theorem dX10_goThrough_186 : decode cX10_goThrough 186 = .ok (.aload_n 0, 1) := by decide +kernel
theorem dX10_goThrough_187 : decode cX10_goThrough 187 = .ok (.dup, 1) := by decide +kernel
theorem dX10_goThrough_188 : decode cX10_goThrough 188 = .ok (.getfield 237, 3) := by decide +kernel
theorem dX10_goThrough_191 : decode cX10_goThrough 191 = .ok (.iload_n 1, 1) := by decide +kernel
theorem dX10_goThrough_192 : decode cX10_goThrough 192 = .ok (.ifCond .eq 7, 3) := by decide +kernel
theorem dX10_goThrough_195 : decode cX10_goThrough 195 = .ok (.iconst 1, 1) := by decide +kernel
theorem dX10_goThrough_196 : decode cX10_goThrough 196 = .ok (.goto 4, 3) := by decide +kernel
theorem dX10_goThrough_199 : decode cX10_goThrough 199 = .ok (.iconst 0, 1) := by decide +kernel
theorem dX10_goThrough_200 : decode cX10_goThrough 200 = .ok (.isub, 1) := by decide +kernel
theorem dX10_goThrough_201 : decode cX10_goThrough 201 = .ok (.putfield 237, 3) := by decide +kernel
theorem dX10_goThrough_204 : decode cX10_goThrough 204 = .ok (.goto (-185), 3) := by decide +kernel
theorem dX10_goThrough_207 : decode cX10_goThrough 207 = .ok (.return_, 1) := by decide +kernel
set_option maxRecDepth 20000 in
theorem ggX10_search_X10_findBearing : GoodIn wsX10_search wsX10_findBearing := goodIn_r _ [11, 12, 13, 14, 15, 16, 10, 17, 18, 19, 20, 21, 22, 23, 24, 25, 26, 27, 28, 29, 30, 31, 32, 33, 34, 35, 36, 37, 38, 39, 40, 41, 42, 43, 44, 45, 46, 47, 48, 49, 50, 51, 52, 53, 54, 55, 56, 57, 58, 59, 60, 61, 62, 63, 64, 65, 66, 67, 68, 69, 70, 71, 72, 73, 74, 75, 76, 77, 78, 79, 80, 132, 133, 134, 135, 136, 137, 138, 139, 140, 141, 142, 143, 144, 145, 146, 147, 148, 149, 150, 151, 152, 153, 154, 155, 156, 157, 158, 159, 160, 161, 162, 163, 164, 165, 166, 167, 168, 169, 170, 171, 172, 173, 174, 175, 176, 177, 178, 179, 180, 181, 182, 183, 184, 185] (by decide +kernel) (by decide +kernel)
set_option maxRecDepth 20000 in
theorem gX10_search_X10_findBearing : GoodIn wsX10_search (wsV RX10 279 RX10 yX10_findBearing wsX10_findBearing) := goodIn_app (goodIn_of _ (by decide +kernel)) ggX10_search_X10_findBearing
set_option maxRecDepth 20000 in
theorem ggX10_search_X10_goThrough : GoodIn wsX10_search wsX10_goThrough := goodIn_r _ [84, 85, 6, 86, 3, 87, 12, 88, 5, 89, 90, 91, 10, 92, 4, 93, 94, 2, 95, 96, 97, 98, 99, 70, 71, 72, 73, 74, 75, 76, 77, 78, 79, 80, 100, 101, 102, 103, 104, 23, 105, 106, 107, 108, 109, 110, 111, 112, 1, 113, 114, 115, 116, 117, 118, 119, 120, 121, 122, 123, 124, 13, 125, 126, 127, 128, 129, 130, 131, 132, 133, 134, 135, 136, 137, 138, 139, 140, 141, 142, 143, 144, 145, 146, 147, 148, 149, 150, 151, 152, 153, 154, 155, 156, 157, 158, 159, 160, 161, 162, 163, 164, 165, 166, 167, 168, 169, 170, 171, 172, 173, 174, 175, 176, 177, 178, 179, 180, 181, 182, 183, 184, 185] (by decide +kernel) (by decide +kernel)
set_option maxRecDepth 20000 in
theorem gX10_search_X10_goThrough : GoodIn wsX10_search (wsV RX10 282 RX10 yX10_goThrough wsX10_goThrough) := goodIn_app (goodIn_of _ (by decide +kernel)) ggX10_search_X10_goThrough
theorem dX10_search_0 : decode cX10_search 0 = .ok (.aload_n 0, 1) := by decide +kernel
theorem dX10_search_1 : decode cX10_search 1 = .ok (.invokevirtual 279, 3) := by decide +kernel
theorem dX10_search_4 : decode cX10_search 4 = .ok (.aload_n 0, 1) := by decide +kernel
theorem dX10_search_5 : decode cX10_search 5 = .ok (.iload_n 1, 1) := by decide +kernel
theorem dX10_search_6 : decode cX10_search 6 = .ok (.putfield 244, 3) := by decide +kernel
theorem dX10_search_9 : decode cX10_search 9 = .ok (.aload_n 0, 1) := by decide +kernel
theorem dX10_search_10 : decode cX10_search 10 = .ok (.iconst 0, 1) := by decide +kernel
theorem dX10_search_11 : decode cX10_search 11 = .ok (.putfield 231, 3) := by decide +kernel
theorem dX10_search_14 : decode cX10_search 14 = .ok (.aload_n 0, 1) := by decide +kernel
theorem dX10_search_15 : decode cX10_search 15 = .ok (.iconst 0, 1) := by decide +kernel
theorem dX10_search_16 : decode cX10_search 16 = .ok (.putfield 237, 3) := by decide +kernel
theorem dX10_search_19 : decode cX10_search 19 = .ok (.aload_n 0, 1) := by decide +kernel
theorem dX10_search_20 : decode cX10_search 20 = .ok (.iconst 0, 1) := by decide +kernel
theorem dX10_search_21 : decode cX10_search 21 = .ok (.putfield 247, 3) := by decide +kernel
theorem dX10_search_24 : decode cX10_search 24 = .ok (.iconst 0, 1) := by decide +kernel
theorem dX10_search_25 : decode cX10_search 25 = .ok (.istore_n 2, 1) := by decide +kernel
theorem dX10_search_26 : decode cX10_search 26 = .ok (.iload_n 2, 1) := by decide +kernel
theorem dX10_search_27 : decode cX10_search 27 = .ok (.bipush 7, 2) := by decide +kernel
theorem dX10_search_29 : decode cX10_search 29 = .ok (.if_icmp .ge 28, 3) := by decide +kernel
theorem dX10_search_32 : decode cX10_search 32 = .ok (.aload_n 0, 1) := by decide +kernel
theorem dX10_search_33 : decode cX10_search 33 = .ok (.getfield 84, 3) := by decide +kernel
theorem dX10_search_36 : decode cX10_search 36 = .ok (.iload_n 2, 1) := by decide +kernel
theorem dX10_search_37 : decode cX10_search 37 = .ok (.iload_n 2, 1) := by decide +kernel
theorem dX10_search_38 : decode cX10_search 38 = .ok (.aload_n 0, 1) := by decide +kernel
theorem dX10_search_39 : decode cX10_search 39 = .ok (.getfield 267, 3) := by decide +kernel
theorem dX10_search_42 : decode cX10_search 42 = .ok (.if_icmp .ne 7, 3) := by decide +kernel
theorem dX10_search_45 : decode cX10_search 45 = .ok (.iconst 1, 1) := by decide +kernel
theorem dX10_search_46 : decode cX10_search 46 = .ok (.goto 4, 3) := by decide +kernel
theorem dX10_search_49 : decode cX10_search 49 = .ok (.iconst 0, 1) := by decide +kernel
theorem dX10_search_50 : decode cX10_search 50 = .ok (.bastore, 1) := by decide +kernel
theorem dX10_search_51 : decode cX10_search 51 = .ok (.iinc 2 1, 3) := by decide +kernel
theorem dX10_search_54 : decode cX10_search 54 = .ok (.goto (-28), 3) := by decide +kernel
theorem dX10_search_57 : decode cX10_search 57 = .ok (.aload_n 0, 1) := by decide +kernel
theorem dX10_search_58 : decode cX10_search 58 = .ok (.invokevirtual 282, 3) := by decide +kernel
theorem dX10_search_61 : decode cX10_search 61 = .ok (.return_, 1) := by decide +kernel
theorem dX10_keep_0 : decode cX10_keep 0 = .ok (.iconst 0, 1) := by decide +kernel
theorem dX10_keep_1 : decode cX10_keep 1 = .ok (.istore_n 1, 1) := by decide +kernel
theorem dX10_keep_2 : decode cX10_keep 2 = .ok (.iload_n 1, 1) := by decide +kernel
theorem dX10_keep_3 : decode cX10_keep 3 = .ok (.aload_n 0, 1) := by decide +kernel
theorem dX10_keep_4 : decode cX10_keep 4 = .ok (.getfield 231, 3) := by decide +kernel
theorem dX10_keep_7 : decode cX10_keep 7 = .ok (.if_icmp .ge 29, 3) := by decide +kernel
theorem dX10_keep_10 : decode cX10_keep 10 = .ok (.aload_n 0, 1) := by decide +kernel
theorem dX10_keep_11 : decode cX10_keep 11 = .ok (.getfield 72, 3) := by decide +kernel
theorem dX10_keep_14 : decode cX10_keep 14 = .ok (.bipush 12, 2) := by decide +kernel
theorem dX10_keep_16 : decode cX10_keep 16 = .ok (.aload_n 0, 1) := by decide +kernel
theorem dX10_keep_17 : decode cX10_keep 17 = .ok (.getfield 109, 3) := by decide +kernel
theorem dX10_keep_20 : decode cX10_keep 20 = .ok (.imul, 1) := by decide +kernel
theorem dX10_keep_21 : decode cX10_keep 21 = .ok (.iload_n 1, 1) := by decide +kernel
theorem dX10_keep_22 : decode cX10_keep 22 = .ok (.iadd, 1) := by decide +kernel
theorem dX10_keep_23 : decode cX10_keep 23 = .ok (.aload_n 0, 1) := by decide +kernel
theorem dX10_keep_24 : decode cX10_keep 24 = .ok (.getfield 87, 3) := by decide +kernel
theorem dX10_keep_27 : decode cX10_keep 27 = .ok (.iload_n 1, 1) := by decide +kernel
theorem dX10_keep_28 : decode cX10_keep 28 = .ok (.iaload, 1) := by decide +kernel
theorem dX10_keep_29 : decode cX10_keep 29 = .ok (.iastore, 1) := by decide +kernel
theorem dX10_keep_30 : decode cX10_keep 30 = .ok (.iinc 1 1, 3) := by decide +kernel
theorem dX10_keep_33 : decode cX10_keep 33 = .ok (.goto (-31), 3) := by decide +kernel
theorem dX10_keep_36 : decode cX10_keep 36 = .ok (.aload_n 0, 1) := by decide +kernel
theorem dX10_keep_37 : decode cX10_keep 37 = .ok (.getfield 75, 3) := by decide +kernel
theorem dX10_keep_40 : decode cX10_keep 40 = .ok (.aload_n 0, 1) := by decide +kernel
theorem dX10_keep_41 : decode cX10_keep 41 = .ok (.getfield 109, 3) := by decide +kernel
theorem dX10_keep_44 : decode cX10_keep 44 = .ok (.aload_n 0, 1) := by decide +kernel
theorem dX10_keep_45 : decode cX10_keep 45 = .ok (.getfield 231, 3) := by decide +kernel
theorem dX10_keep_48 : decode cX10_keep 48 = .ok (.iastore, 1) := by decide +kernel
theorem dX10_keep_49 : decode cX10_keep 49 = .ok (.aload_n 0, 1) := by decide +kernel
theorem dX10_keep_50 : decode cX10_keep 50 = .ok (.dup, 1) := by decide +kernel
theorem dX10_keep_51 : decode cX10_keep 51 = .ok (.getfield 109, 3) := by decide +kernel
theorem dX10_keep_54 : decode cX10_keep 54 = .ok (.iconst 1, 1) := by decide +kernel
theorem dX10_keep_55 : decode cX10_keep 55 = .ok (.iadd, 1) := by decide +kernel
theorem dX10_keep_56 : decode cX10_keep 56 = .ok (.putfield 109, 3) := by decide +kernel
theorem dX10_keep_59 : decode cX10_keep 59 = .ok (.return_, 1) := by decide +kernel
set_option maxRecDepth 20000 in
theorem ggX10_run_X10_in : GoodIn wsX10_run wsX10_in := goodIn_r _ [16] (by decide +kernel) (by decide +kernel)
set_option maxRecDepth 20000 in
theorem gX10_run_X10_in : GoodIn wsX10_run (va_wsS RX10 102 yX10_in wsX10_in) := goodIn_app (goodIn_of _ (by decide +kernel)) ggX10_run_X10_in
set_option maxRecDepth 20000 in
theorem ggX10_run_X10_search : GoodIn wsX10_run wsX10_search := goodIn_r _ [20, 21, 9, 22, 23, 24, 4, 25, 26, 27, 15, 28, 29, 30, 31, 32, 33, 34, 35, 36, 37, 38, 39, 40, 41, 42, 43, 44, 45, 46, 47, 48, 49, 50, 51, 52, 53, 54, 55, 56, 57, 58, 59, 60, 61, 62, 63, 64, 65, 66, 67, 68, 69, 70, 71, 72, 73, 74, 75, 76, 77, 78, 79, 80, 81, 82, 83, 84, 85, 86, 87, 88, 89, 90, 91, 92, 93, 94, 95, 96, 97, 98, 99, 100, 101, 102, 103, 5, 104, 105, 106, 107, 108, 6, 10, 109, 110, 111, 112, 113, 114, 115, 116, 117, 118, 119, 120, 121, 122, 123, 7, 124, 125, 126, 127, 128, 129, 130, 131, 132, 133, 134, 135, 136, 137, 138, 139, 140, 141, 142, 143, 144, 149, 150, 151, 152, 153, 154, 155, 156, 157, 158, 159, 160, 161, 162, 163, 164, 165, 166, 167, 168, 169, 170, 171, 172, 173, 174, 175, 176, 177, 178, 179, 180, 181, 182, 183, 184, 185, 186, 187, 188, 189, 190, 191, 192, 193, 194, 195, 196, 197, 198, 199, 200, 201, 202] (by decide +kernel) (by decide +kernel)
set_option maxRecDepth 20000 in
theorem gX10_run_X10_search : GoodIn wsX10_run (wsV RX10 292 RX10 yX10_search wsX10_search) := goodIn_app (goodIn_of _ (by decide +kernel)) ggX10_run_X10_search
set_option maxRecDepth 20000 in
theorem ggX10_run_X10_keep : GoodIn wsX10_run wsX10_keep := goodIn_r _ [148, 9, 125, 7, 109, 124, 149, 150, 151, 152, 153, 154, 155, 156, 157, 158, 159, 160, 161, 162, 163, 164, 165, 166, 167, 168, 169, 170, 171, 172, 173, 174, 175, 176, 177, 178, 179, 180, 181, 182, 183, 184, 185, 186, 187, 188, 189, 190, 191, 192, 193, 194, 195, 196, 197, 198, 199, 200, 201, 202] (by decide +kernel) (by decide +kernel)
set_option maxRecDepth 20000 in
theorem gX10_run_X10_keep : GoodIn wsX10_run (wsV RX10 295 RX10 yX10_keep wsX10_keep) := goodIn_app (goodIn_of _ (by decide +kernel)) ggX10_run_X10_keep
theorem dX10_run_0 : decode cX10_run 0 = .ok (.iload_n 1, 1) := by decide +kernel
theorem dX10_run_1 : decode cX10_run 1 = .ok (.i2l, 1) := by decide +kernel
theorem dX10_run_2 : decode cX10_run 2 = .ok (.lconst 0, 1) := by decide +kernel
theorem dX10_run_3 : decode cX10_run 3 = .ok (.aload_n 0, 1) := by decide +kernel
theorem dX10_run_4 : decode cX10_run 4 = .ok (.getfield 112, 3) := by decide +kernel
theorem dX10_run_7 : decode cX10_run 7 = .ok (.iconst 1, 1) := by decide +kernel
theorem dX10_run_8 : decode cX10_run 8 = .ok (.isub, 1) := by decide +kernel
theorem dX10_run_9 : decode cX10_run 9 = .ok (.i2l, 1) := by decide +kernel
theorem dX10_run_10 : decode cX10_run 10 = .ok (.invokestatic 102, 3) := by decide +kernel
theorem dX10_run_13 : decode cX10_run 13 = .ok (.ifCond .eq 36, 3) := by decide +kernel
theorem dX10_run_16 : decode cX10_run 16 = .ok (.iload_n 2, 1) := by decide +kernel
theorem dX10_run_17 : decode cX10_run 17 = .ok (.i2l, 1) := by decide +kernel
theorem dX10_run_18 : decode cX10_run 18 = .ok (.lconst 0, 1) := by decide +kernel
theorem dX10_run_19 : decode cX10_run 19 = .ok (.aload_n 0, 1) := by decide +kernel
theorem dX10_run_20 : decode cX10_run 20 = .ok (.getfield 112, 3) := by decide +kernel
theorem dX10_run_23 : decode cX10_run 23 = .ok (.iconst 1, 1) := by decide +kernel
theorem dX10_run_24 : decode cX10_run 24 = .ok (.isub, 1) := by decide +kernel
theorem dX10_run_25 : decode cX10_run 25 = .ok (.i2l, 1) := by decide +kernel
theorem dX10_run_26 : decode cX10_run 26 = .ok (.invokestatic 102, 3) := by decide +kernel
theorem dX10_run_29 : decode cX10_run 29 = .ok (.ifCond .eq 20, 3) := by decide +kernel
theorem dX10_run_32 : decode cX10_run 32 = .ok (.iload_n 1, 1) := by decide +kernel
theorem dX10_run_33 : decode cX10_run 33 = .ok (.iload_n 2, 1) := by decide +kernel
theorem dX10_run_34 : decode cX10_run 34 = .ok (.if_icmp .eq 15, 3) := by decide +kernel
theorem dX10_run_37 : decode cX10_run 37 = .ok (.iload_n 3, 1) := by decide +kernel
theorem dX10_run_38 : decode cX10_run 38 = .ok (.i2l, 1) := by decide +kernel
theorem dX10_run_39 : decode cX10_run 39 = .ok (.lconst 0, 1) := by decide +kernel
theorem dX10_run_40 : decode cX10_run 40 = .ok (.ldc2_w 285, 3) := by decide +kernel
theorem dX10_run_43 : decode cX10_run 43 = .ok (.invokestatic 102, 3) := by decide +kernel
theorem dX10_run_46 : decode cX10_run 46 = .ok (.ifCond .ne 6, 3) := by decide +kernel
theorem dX10_run_49 : decode cX10_run 49 = .ok (.bipush (-2), 2) := by decide +kernel
theorem dX10_run_51 : decode cX10_run 51 = .ok (.ireturn, 1) := by decide +kernel
theorem dX10_run_52 : decode cX10_run 52 = .ok (.aload_n 0, 1) := by decide +kernel
theorem dX10_run_53 : decode cX10_run 53 = .ok (.iconst 1, 1) := by decide +kernel
theorem dX10_run_54 : decode cX10_run 54 = .ok (.putfield 287, 3) := by decide +kernel
theorem dX10_run_57 : decode cX10_run 57 = .ok (.aload_n 0, 1) := by decide +kernel
theorem dX10_run_58 : decode cX10_run 58 = .ok (.iload_n 1, 1) := by decide +kernel
theorem dX10_run_59 : decode cX10_run 59 = .ok (.putfield 267, 3) := by decide +kernel
theorem dX10_run_62 : decode cX10_run 62 = .ok (.aload_n 0, 1) := by decide +kernel
theorem dX10_run_63 : decode cX10_run 63 = .ok (.iload_n 2, 1) := by decide +kernel
theorem dX10_run_64 : decode cX10_run 64 = .ok (.putfield 270, 3) := by decide +kernel
theorem dX10_run_67 : decode cX10_run 67 = .ok (.aload_n 0, 1) := by decide +kernel
theorem dX10_run_68 : decode cX10_run 68 = .ok (.iload_n 3, 1) := by decide +kernel
theorem dX10_run_69 : decode cX10_run 69 = .ok (.putfield 250, 3) := by decide +kernel
theorem dX10_run_72 : decode cX10_run 72 = .ok (.aload_n 0, 1) := by decide +kernel
theorem dX10_run_73 : decode cX10_run 73 = .ok (.iconst 0, 1) := by decide +kernel
theorem dX10_run_74 : decode cX10_run 74 = .ok (.putfield 109, 3) := by decide +kernel
theorem dX10_run_77 : decode cX10_run 77 = .ok (.aload_n 0, 1) := by decide +kernel
theorem dX10_run_78 : decode cX10_run 78 = .ok (.ldc_w 291, 3) := by decide +kernel
theorem dX10_run_81 : decode cX10_run 81 = .ok (.invokevirtual 292, 3) := by decide +kernel
theorem dX10_run_84 : decode cX10_run 84 = .ok (.iconst (-1), 1) := by decide +kernel
theorem dX10_run_85 : decode cX10_run 85 = .ok (.istore 4, 2) := by decide +kernel
theorem dX10_run_87 : decode cX10_run 87 = .ok (.aload_n 0, 1) := by decide +kernel
theorem dX10_run_88 : decode cX10_run 88 = .ok (.getfield 231, 3) := by decide +kernel
theorem dX10_run_91 : decode cX10_run 91 = .ok (.ifCond .le 15, 3) := by decide +kernel
theorem dX10_run_94 : decode cX10_run 94 = .ok (.aload_n 0, 1) := by decide +kernel
theorem dX10_run_95 : decode cX10_run 95 = .ok (.invokevirtual 295, 3) := by decide +kernel
theorem dX10_run_98 : decode cX10_run 98 = .ok (.aload_n 0, 1) := by decide +kernel
theorem dX10_run_99 : decode cX10_run 99 = .ok (.getfield 234, 3) := by decide +kernel
theorem dX10_run_102 : decode cX10_run 102 = .ok (.iload_n 3, 1) := by decide +kernel
theorem dX10_run_103 : decode cX10_run 103 = .ok (.isub, 1) := by decide +kernel
theorem dX10_run_104 : decode cX10_run 104 = .ok (.istore 4, 2) := by decide +kernel
theorem dX10_run_106 : decode cX10_run 106 = .ok (.aload_n 0, 1) := by decide +kernel
theorem dX10_run_107 : decode cX10_run 107 = .ok (.getfield 298, 3) := by decide +kernel
theorem dX10_run_110 : decode cX10_run 110 = .ok (.bipush 50, 2) := by decide +kernel
theorem dX10_run_112 : decode cX10_run 112 = .ok (.if_icmp .ge 24, 3) := by decide +kernel
theorem dX10_run_115 : decode cX10_run 115 = .ok (.aload_n 0, 1) := by decide +kernel
theorem dX10_run_116 : decode cX10_run 116 = .ok (.getfield 78, 3) := by decide +kernel
theorem dX10_run_119 : decode cX10_run 119 = .ok (.aload_n 0, 1) := by decide +kernel
theorem dX10_run_120 : decode cX10_run 120 = .ok (.getfield 298, 3) := by decide +kernel
theorem dX10_run_123 : decode cX10_run 123 = .ok (.iload 4, 2) := by decide +kernel
theorem dX10_run_125 : decode cX10_run 125 = .ok (.iastore, 1) := by decide +kernel
theorem dX10_run_126 : decode cX10_run 126 = .ok (.aload_n 0, 1) := by decide +kernel
theorem dX10_run_127 : decode cX10_run 127 = .ok (.dup, 1) := by decide +kernel
theorem dX10_run_128 : decode cX10_run 128 = .ok (.getfield 298, 3) := by decide +kernel
theorem dX10_run_131 : decode cX10_run 131 = .ok (.iconst 1, 1) := by decide +kernel
theorem dX10_run_132 : decode cX10_run 132 = .ok (.iadd, 1) := by decide +kernel
theorem dX10_run_133 : decode cX10_run 133 = .ok (.putfield 298, 3) := by decide +kernel
theorem dX10_run_136 : decode cX10_run 136 = .ok (.iload 4, 2) := by decide +kernel
theorem dX10_run_138 : decode cX10_run 138 = .ok (.ireturn, 1) := by decide +kernel
set_option maxRecDepth 20000 in
theorem ggX10_alternate_X10_in : GoodIn wsX10_alternate wsX10_in := goodIn_r _ [10] (by decide +kernel) (by decide +kernel)
set_option maxRecDepth 20000 in
theorem gX10_alternate_X10_in : GoodIn wsX10_alternate (va_wsS RX10 102 yX10_in wsX10_in) := goodIn_app (goodIn_of _ (by decide +kernel)) ggX10_alternate_X10_in
set_option maxRecDepth 20000 in
theorem ggX10_alternate_X10_search : GoodIn wsX10_alternate wsX10_search := goodIn_r _ [14, 15, 4, 16, 17, 18, 19, 20, 21, 22, 9, 23, 24, 25, 26, 27, 28, 29, 30, 31, 32, 33, 34, 35, 36, 37, 38, 39, 40, 41, 42, 43, 44, 45, 46, 47, 48, 49, 50, 51, 52, 53, 54, 55, 56, 57, 58, 59, 60, 61, 62, 63, 64, 65, 66, 67, 68, 69, 70, 71, 72, 73, 74, 75, 76, 77, 78, 79, 80, 81, 82, 83, 84, 85, 86, 87, 88, 89, 90, 91, 92, 93, 94, 95, 96, 97, 98, 99, 100, 101, 102, 103, 104, 6, 5, 105, 106, 107, 108, 109, 110, 111, 112, 113, 114, 115, 116, 117, 118, 119, 2, 3, 120, 121, 122, 123, 124, 125, 126, 127, 128, 129, 130, 131, 132, 133, 134, 135, 136, 137, 138, 139, 144, 145, 146, 147, 148, 149, 150, 151, 152, 153, 154, 155, 156, 157, 158, 159, 160, 161, 162, 163, 164, 165, 166, 167, 168, 169, 170, 171, 172, 173, 174, 175, 176, 177, 178, 179, 180, 181, 182, 183, 184, 185, 186, 187, 188, 189, 190, 191, 192, 193, 194, 195, 196, 197] (by decide +kernel) (by decide +kernel)
set_option maxRecDepth 20000 in
theorem gX10_alternate_X10_search : GoodIn wsX10_alternate (wsV RX10 292 RX10 yX10_search wsX10_search) := goodIn_app (goodIn_of _ (by decide +kernel)) ggX10_alternate_X10_search
set_option maxRecDepth 20000 in
theorem ggX10_alternate_X10_keep : GoodIn wsX10_alternate wsX10_keep := goodIn_r _ [143, 4, 120, 2, 105, 3, 144, 145, 146, 147, 148, 149, 150, 151, 152, 153, 154, 155, 156, 157, 158, 159, 160, 161, 162, 163, 164, 165, 166, 167, 168, 169, 170, 171, 172, 173, 174, 175, 176, 177, 178, 179, 180, 181, 182, 183, 184, 185, 186, 187, 188, 189, 190, 191, 192, 193, 194, 195, 196, 197] (by decide +kernel) (by decide +kernel)
set_option maxRecDepth 20000 in
theorem gX10_alternate_X10_keep : GoodIn wsX10_alternate (wsV RX10 295 RX10 yX10_keep wsX10_keep) := goodIn_app (goodIn_of _ (by decide +kernel)) ggX10_alternate_X10_keep
theorem dX10_alternate_0 : decode cX10_alternate 0 = .ok (.lload_n 1, 1) := by decide +kernel
theorem dX10_alternate_1 : decode cX10_alternate 1 = .ok (.lconst 0, 1) := by decide +kernel
theorem dX10_alternate_2 : decode cX10_alternate 2 = .ok (.lload_n 3, 1) := by decide +kernel
theorem dX10_alternate_3 : decode cX10_alternate 3 = .ok (.invokestatic 102, 3) := by decide +kernel
theorem dX10_alternate_6 : decode cX10_alternate 6 = .ok (.ifCond .eq 29, 3) := by decide +kernel
theorem dX10_alternate_9 : decode cX10_alternate 9 = .ok (.lload_n 3, 1) := by decide +kernel
theorem dX10_alternate_10 : decode cX10_alternate 10 = .ok (.lconst 1, 1) := by decide +kernel
theorem dX10_alternate_11 : decode cX10_alternate 11 = .ok (.ldc2_w 301, 3) := by decide +kernel
theorem dX10_alternate_14 : decode cX10_alternate 14 = .ok (.invokestatic 102, 3) := by decide +kernel
theorem dX10_alternate_17 : decode cX10_alternate 17 = .ok (.ifCond .eq 18, 3) := by decide +kernel
theorem dX10_alternate_20 : decode cX10_alternate 20 = .ok (.aload_n 0, 1) := by decide +kernel
theorem dX10_alternate_21 : decode cX10_alternate 21 = .ok (.getfield 109, 3) := by decide +kernel
theorem dX10_alternate_24 : decode cX10_alternate 24 = .ok (.ifCond .eq 11, 3) := by decide +kernel
theorem dX10_alternate_27 : decode cX10_alternate 27 = .ok (.aload_n 0, 1) := by decide +kernel
theorem dX10_alternate_28 : decode cX10_alternate 28 = .ok (.getfield 109, 3) := by decide +kernel
theorem dX10_alternate_31 : decode cX10_alternate 31 = .ok (.iconst 5, 1) := by decide +kernel
theorem dX10_alternate_32 : decode cX10_alternate 32 = .ok (.if_icmp .ne 6, 3) := by decide +kernel
theorem dX10_alternate_35 : decode cX10_alternate 35 = .ok (.bipush (-2), 2) := by decide +kernel
theorem dX10_alternate_37 : decode cX10_alternate 37 = .ok (.ireturn, 1) := by decide +kernel
theorem dX10_alternate_38 : decode cX10_alternate 38 = .ok (.aload_n 0, 1) := by decide +kernel
theorem dX10_alternate_39 : decode cX10_alternate 39 = .ok (.aload_n 0, 1) := by decide +kernel
theorem dX10_alternate_40 : decode cX10_alternate 40 = .ok (.getfield 75, 3) := by decide +kernel
theorem dX10_alternate_43 : decode cX10_alternate 43 = .ok (.iconst 0, 1) := by decide +kernel
theorem dX10_alternate_44 : decode cX10_alternate 44 = .ok (.iaload, 1) := by decide +kernel
theorem dX10_alternate_45 : decode cX10_alternate 45 = .ok (.i2l, 1) := by decide +kernel
theorem dX10_alternate_46 : decode cX10_alternate 46 = .ok (.lload_n 1, 1) := by decide +kernel
theorem dX10_alternate_47 : decode cX10_alternate 47 = .ok (.lmul, 1) := by decide +kernel
theorem dX10_alternate_48 : decode cX10_alternate 48 = .ok (.lload_n 3, 1) := by decide +kernel
theorem dX10_alternate_49 : decode cX10_alternate 49 = .ok (.ldiv, 1) := by decide +kernel
theorem dX10_alternate_50 : decode cX10_alternate 50 = .ok (.l2i, 1) := by decide +kernel
theorem dX10_alternate_51 : decode cX10_alternate 51 = .ok (.invokevirtual 292, 3) := by decide +kernel
theorem dX10_alternate_54 : decode cX10_alternate 54 = .ok (.aload_n 0, 1) := by decide +kernel
theorem dX10_alternate_55 : decode cX10_alternate 55 = .ok (.getfield 231, 3) := by decide +kernel
theorem dX10_alternate_58 : decode cX10_alternate 58 = .ok (.ifCond .ne 5, 3) := by decide +kernel
theorem dX10_alternate_61 : decode cX10_alternate 61 = .ok (.iconst (-1), 1) := by decide +kernel
theorem dX10_alternate_62 : decode cX10_alternate 62 = .ok (.ireturn, 1) := by decide +kernel
theorem dX10_alternate_63 : decode cX10_alternate 63 = .ok (.aload_n 0, 1) := by decide +kernel
theorem dX10_alternate_64 : decode cX10_alternate 64 = .ok (.invokevirtual 295, 3) := by decide +kernel
theorem dX10_alternate_67 : decode cX10_alternate 67 = .ok (.aload_n 0, 1) := by decide +kernel
theorem dX10_alternate_68 : decode cX10_alternate 68 = .ok (.getfield 234, 3) := by decide +kernel
theorem dX10_alternate_71 : decode cX10_alternate 71 = .ok (.aload_n 0, 1) := by decide +kernel
theorem dX10_alternate_72 : decode cX10_alternate 72 = .ok (.getfield 250, 3) := by decide +kernel
theorem dX10_alternate_75 : decode cX10_alternate 75 = .ok (.isub, 1) := by decide +kernel
theorem dX10_alternate_76 : decode cX10_alternate 76 = .ok (.ireturn, 1) := by decide +kernel
theorem dX10_handSize_0 : decode cX10_handSize 0 = .ok (.aload_n 0, 1) := by decide +kernel
theorem dX10_handSize_1 : decode cX10_handSize 1 = .ok (.getfield 109, 3) := by decide +kernel
theorem dX10_handSize_4 : decode cX10_handSize 4 = .ok (.ifCond .ne 7, 3) := by decide +kernel
theorem dX10_handSize_7 : decode cX10_handSize 7 = .ok (.iconst 0, 1) := by decide +kernel
theorem dX10_handSize_8 : decode cX10_handSize 8 = .ok (.goto 14, 3) := by decide +kernel
theorem dX10_handSize_11 : decode cX10_handSize 11 = .ok (.aload_n 0, 1) := by decide +kernel
theorem dX10_handSize_12 : decode cX10_handSize 12 = .ok (.getfield 75, 3) := by decide +kernel
theorem dX10_handSize_15 : decode cX10_handSize 15 = .ok (.aload_n 0, 1) := by decide +kernel
theorem dX10_handSize_16 : decode cX10_handSize 16 = .ok (.getfield 109, 3) := by decide +kernel
theorem dX10_handSize_19 : decode cX10_handSize 19 = .ok (.iconst 1, 1) := by decide +kernel
theorem dX10_handSize_20 : decode cX10_handSize 20 = .ok (.isub, 1) := by decide +kernel
theorem dX10_handSize_21 : decode cX10_handSize 21 = .ok (.iaload, 1) := by decide +kernel
theorem dX10_handSize_22 : decode cX10_handSize 22 = .ok (.ireturn, 1) := by decide +kernel
theorem dX10_hand_0 : decode cX10_hand 0 = .ok (.aload_n 0, 1) := by decide +kernel
theorem dX10_hand_1 : decode cX10_hand 1 = .ok (.getfield 72, 3) := by decide +kernel
theorem dX10_hand_4 : decode cX10_hand 4 = .ok (.bipush 12, 2) := by decide +kernel
theorem dX10_hand_6 : decode cX10_hand 6 = .ok (.aload_n 0, 1) := by decide +kernel
theorem dX10_hand_7 : decode cX10_hand 7 = .ok (.getfield 109, 3) := by decide +kernel
theorem dX10_hand_10 : decode cX10_hand 10 = .ok (.iconst 1, 1) := by decide +kernel
theorem dX10_hand_11 : decode cX10_hand 11 = .ok (.isub, 1) := by decide +kernel
theorem dX10_hand_12 : decode cX10_hand 12 = .ok (.imul, 1) := by decide +kernel
theorem dX10_hand_13 : decode cX10_hand 13 = .ok (.iload_n 1, 1) := by decide +kernel
theorem dX10_hand_14 : decode cX10_hand 14 = .ok (.iadd, 1) := by decide +kernel
theorem dX10_hand_15 : decode cX10_hand 15 = .ok (.iaload, 1) := by decide +kernel
theorem dX10_hand_16 : decode cX10_hand 16 = .ok (.ireturn, 1) := by decide +kernel
set_option maxRecDepth 20000 in
theorem ggX10_road2_X10_handSize : GoodIn wsX10_road2 wsX10_handSize := goodIn_r _ [5, 6, 7, 16, 17, 18, 19, 20, 21, 22, 23, 24, 25, 26, 27, 28, 29, 30, 31, 32, 33, 34, 35, 36, 37, 38, 39, 40, 41, 42, 43, 44, 45, 46, 47, 48, 49, 50, 51, 52, 53, 54, 55, 56, 57, 58, 59, 60, 61, 62, 63, 64, 65, 66, 67, 68, 69] (by decide +kernel) (by decide +kernel)
set_option maxRecDepth 20000 in
theorem gX10_road2_X10_handSize : GoodIn wsX10_road2 (wsV RX10 303 RX10 yX10_handSize wsX10_handSize) := goodIn_app (goodIn_of _ (by decide +kernel)) ggX10_road2_X10_handSize
set_option maxRecDepth 20000 in
theorem ggX10_road2_X10_in : GoodIn wsX10_road2 wsX10_in := goodIn_r _ [10] (by decide +kernel) (by decide +kernel)
set_option maxRecDepth 20000 in
theorem gX10_road2_X10_in : GoodIn wsX10_road2 (va_wsS RX10 102 yX10_in wsX10_in) := goodIn_app (goodIn_of _ (by decide +kernel)) ggX10_road2_X10_in
set_option maxRecDepth 20000 in
theorem ggX10_road2_X10_hand : GoodIn wsX10_road2 wsX10_hand := goodIn_r _ [14, 15, 6, 16, 17, 18, 19, 20, 21, 22, 23, 24, 25, 26, 27, 28, 29, 30, 31, 32, 33, 34, 35, 36, 37, 38, 39, 40, 41, 42, 43, 44, 45, 46, 47, 48, 49, 50, 51, 52, 53, 54, 55, 56, 57, 58, 59, 60, 61, 62, 63, 64, 65, 66, 67, 68, 69] (by decide +kernel) (by decide +kernel)
set_option maxRecDepth 20000 in
theorem gX10_road2_X10_hand : GoodIn wsX10_road2 (wsV RX10 307 RX10 yX10_hand wsX10_hand) := goodIn_app (goodIn_of _ (by decide +kernel)) ggX10_road2_X10_hand
theorem dX10_road2_0 : decode cX10_road2 0 = .ok (.iload_n 1, 1) := by decide +kernel
theorem dX10_road2_1 : decode cX10_road2 1 = .ok (.i2l, 1) := by decide +kernel
theorem dX10_road2_2 : decode cX10_road2 2 = .ok (.lconst 0, 1) := by decide +kernel
theorem dX10_road2_3 : decode cX10_road2 3 = .ok (.aload_n 0, 1) := by decide +kernel
theorem dX10_road2_4 : decode cX10_road2 4 = .ok (.invokevirtual 303, 3) := by decide +kernel
theorem dX10_road2_7 : decode cX10_road2 7 = .ok (.iconst 1, 1) := by decide +kernel
theorem dX10_road2_8 : decode cX10_road2 8 = .ok (.isub, 1) := by decide +kernel
theorem dX10_road2_9 : decode cX10_road2 9 = .ok (.i2l, 1) := by decide +kernel
theorem dX10_road2_10 : decode cX10_road2 10 = .ok (.invokestatic 102, 3) := by decide +kernel
theorem dX10_road2_13 : decode cX10_road2 13 = .ok (.ifCond .eq 11, 3) := by decide +kernel
theorem dX10_road2_16 : decode cX10_road2 16 = .ok (.aload_n 0, 1) := by decide +kernel
theorem dX10_road2_17 : decode cX10_road2 17 = .ok (.iload_n 1, 1) := by decide +kernel
theorem dX10_road2_18 : decode cX10_road2 18 = .ok (.invokevirtual 307, 3) := by decide +kernel
theorem dX10_road2_21 : decode cX10_road2 21 = .ok (.goto 4, 3) := by decide +kernel
theorem dX10_road2_24 : decode cX10_road2 24 = .ok (.iconst (-1), 1) := by decide +kernel
theorem dX10_road2_25 : decode cX10_road2 25 = .ok (.ireturn, 1) := by decide +kernel
set_option maxRecDepth 20000 in
theorem ggX10_begun_X10_handSize : GoodIn wsX10_begun wsX10_handSize := goodIn_r _ [8, 2, 9, 39, 40, 41, 42, 43, 44, 45, 46, 47, 48, 49, 50, 51, 52, 53, 54, 55, 56, 57, 58, 59, 60, 61, 62, 63, 64, 65, 66, 67, 68, 69, 70, 71, 72, 73, 74, 75, 76, 77, 78, 79, 80, 81, 82, 83, 84, 85, 86, 87, 88, 89, 90, 91, 92] (by decide +kernel) (by decide +kernel)
set_option maxRecDepth 20000 in
theorem gX10_begun_X10_handSize : GoodIn wsX10_begun (wsV RX10 303 RX10 yX10_handSize wsX10_handSize) := goodIn_app (goodIn_of _ (by decide +kernel)) ggX10_begun_X10_handSize
set_option maxRecDepth 20000 in
theorem ggX10_begun_X10_in : GoodIn wsX10_begun wsX10_in := goodIn_r _ [12] (by decide +kernel) (by decide +kernel)
set_option maxRecDepth 20000 in
theorem gX10_begun_X10_in : GoodIn wsX10_begun (va_wsS RX10 102 yX10_in wsX10_in) := goodIn_app (goodIn_of _ (by decide +kernel)) ggX10_begun_X10_in
set_option maxRecDepth 20000 in
theorem ggX10_begun_X10_hand : GoodIn wsX10_begun wsX10_hand := goodIn_r _ [16, 1, 2, 39, 40, 41, 42, 43, 44, 45, 46, 47, 48, 49, 50, 51, 52, 53, 54, 55, 56, 57, 58, 59, 60, 61, 62, 63, 64, 65, 66, 67, 68, 69, 70, 71, 72, 73, 74, 75, 76, 77, 78, 79, 80, 81, 82, 83, 84, 85, 86, 87, 88, 89, 90, 91, 92] (by decide +kernel) (by decide +kernel)
set_option maxRecDepth 20000 in
theorem gX10_begun_X10_hand : GoodIn wsX10_begun (wsV RX10 307 RX10 yX10_hand wsX10_hand) := goodIn_app (goodIn_of _ (by decide +kernel)) ggX10_begun_X10_hand
set_option maxRecDepth 20000 in
theorem ggX10_begun_X10_endOf : GoodIn wsX10_begun wsX10_endOf := goodIn_r _ [20, 21, 22, 23, 7, 24, 25, 26, 27, 28, 29, 30, 31, 32, 33, 34, 35, 36, 37, 38, 39, 40, 41, 42, 43, 44, 45, 46, 47, 48, 49, 50, 51, 52, 53, 54, 55, 56, 57, 58, 59, 60, 61, 62, 63, 64, 65, 66, 67, 68, 69, 70, 71, 72, 73, 74, 75, 76, 77, 78, 79, 80, 81, 82, 83, 84, 85, 86, 87, 88, 89, 90, 91, 92] (by decide +kernel) (by decide +kernel)
set_option maxRecDepth 20000 in
theorem gX10_begun_X10_endOf : GoodIn wsX10_begun (wsV RX10 253 RX10 yX10_endOf wsX10_endOf) := goodIn_app (goodIn_of _ (by decide +kernel)) ggX10_begun_X10_endOf
set_option maxRecDepth 20000 in
theorem ggX10_begun_X10_earliest : GoodIn wsX10_begun wsX10_earliest := goodIn_r _ [24, 25, 26, 27, 7, 28, 29, 30, 31, 39, 40, 41, 42, 43, 44, 45, 46, 47, 48, 49, 50, 51, 52, 53, 54, 55, 56, 57, 58, 59, 60, 61, 62, 63, 64, 65, 66, 67, 68, 69, 70, 71, 72, 73, 74, 75, 76, 77, 78, 79, 80, 81, 82, 83, 84, 85, 86, 87, 88, 89, 90, 91, 92] (by decide +kernel) (by decide +kernel)
set_option maxRecDepth 20000 in
theorem gX10_begun_X10_earliest : GoodIn wsX10_begun (wsV RX10 224 RX10 yX10_earliest wsX10_earliest) := goodIn_app (goodIn_of _ (by decide +kernel)) ggX10_begun_X10_earliest
theorem dX10_begun_0 : decode cX10_begun 0 = .ok (.iload_n 1, 1) := by decide +kernel
theorem dX10_begun_1 : decode cX10_begun 1 = .ok (.i2l, 1) := by decide +kernel
theorem dX10_begun_2 : decode cX10_begun 2 = .ok (.lconst 0, 1) := by decide +kernel
theorem dX10_begun_3 : decode cX10_begun 3 = .ok (.aload_n 0, 1) := by decide +kernel
theorem dX10_begun_4 : decode cX10_begun 4 = .ok (.invokevirtual 303, 3) := by decide +kernel
theorem dX10_begun_7 : decode cX10_begun 7 = .ok (.iconst 1, 1) := by decide +kernel
theorem dX10_begun_8 : decode cX10_begun 8 = .ok (.isub, 1) := by decide +kernel
theorem dX10_begun_9 : decode cX10_begun 9 = .ok (.i2l, 1) := by decide +kernel
theorem dX10_begun_10 : decode cX10_begun 10 = .ok (.invokestatic 102, 3) := by decide +kernel
theorem dX10_begun_13 : decode cX10_begun 13 = .ok (.ifCond .ne 5, 3) := by decide +kernel
theorem dX10_begun_16 : decode cX10_begun 16 = .ok (.iconst (-1), 1) := by decide +kernel
theorem dX10_begun_17 : decode cX10_begun 17 = .ok (.ireturn, 1) := by decide +kernel
theorem dX10_begun_18 : decode cX10_begun 18 = .ok (.aload_n 0, 1) := by decide +kernel
theorem dX10_begun_19 : decode cX10_begun 19 = .ok (.aload_n 0, 1) := by decide +kernel
theorem dX10_begun_20 : decode cX10_begun 20 = .ok (.iload_n 1, 1) := by decide +kernel
theorem dX10_begun_21 : decode cX10_begun 21 = .ok (.invokevirtual 307, 3) := by decide +kernel
theorem dX10_begun_24 : decode cX10_begun 24 = .ok (.aload_n 0, 1) := by decide +kernel
theorem dX10_begun_25 : decode cX10_begun 25 = .ok (.aload_n 0, 1) := by decide +kernel
theorem dX10_begun_26 : decode cX10_begun 26 = .ok (.getfield 72, 3) := by decide +kernel
theorem dX10_begun_29 : decode cX10_begun 29 = .ok (.bipush 12, 2) := by decide +kernel
theorem dX10_begun_31 : decode cX10_begun 31 = .ok (.aload_n 0, 1) := by decide +kernel
theorem dX10_begun_32 : decode cX10_begun 32 = .ok (.getfield 109, 3) := by decide +kernel
theorem dX10_begun_35 : decode cX10_begun 35 = .ok (.iconst 1, 1) := by decide +kernel
theorem dX10_begun_36 : decode cX10_begun 36 = .ok (.isub, 1) := by decide +kernel
theorem dX10_begun_37 : decode cX10_begun 37 = .ok (.imul, 1) := by decide +kernel
theorem dX10_begun_38 : decode cX10_begun 38 = .ok (.iload_n 1, 1) := by decide +kernel
theorem dX10_begun_39 : decode cX10_begun 39 = .ok (.aload_n 0, 1) := by decide +kernel
theorem dX10_begun_40 : decode cX10_begun 40 = .ok (.getfield 250, 3) := by decide +kernel
theorem dX10_begun_43 : decode cX10_begun 43 = .ok (.invokevirtual 253, 3) := by decide +kernel
theorem dX10_begun_46 : decode cX10_begun 46 = .ok (.invokevirtual 224, 3) := by decide +kernel
theorem dX10_begun_49 : decode cX10_begun 49 = .ok (.ireturn, 1) := by decide +kernel
set_option maxRecDepth 20000 in
theorem ggX10_bars_X10_why : GoodIn wsX10_bars wsX10_why := goodIn_r _ [6, 7, 8, 9, 10, 11, 12, 13, 14, 15, 5, 16, 17, 18, 19, 20, 21, 22, 23, 24, 25, 26, 27, 28, 29, 30, 31, 32, 33, 34, 35, 36, 37, 38, 39, 40, 41, 42, 43, 44, 45, 46, 47, 48, 49, 50, 51, 52, 53, 54, 55, 56, 57, 58, 59, 60, 61, 62, 63, 64, 65, 66, 67, 68, 69, 70, 71, 72, 73, 74, 75, 76, 77, 78, 79, 80, 81, 82, 83, 84, 85, 86, 87, 88, 89, 90, 91, 92, 93, 94, 95, 96, 97, 98, 99, 100, 101, 102, 103, 104, 105, 106, 107, 108, 109, 110, 111, 112] (by decide +kernel) (by decide +kernel)
set_option maxRecDepth 20000 in
theorem gX10_bars_X10_why : GoodIn wsX10_bars (wsV RX10 220 RX10 yX10_why wsX10_why) := goodIn_app (goodIn_of _ (by decide +kernel)) ggX10_bars_X10_why
theorem dX10_bars_0 : decode cX10_bars 0 = .ok (.iload_n 2, 1) := by decide +kernel
theorem dX10_bars_1 : decode cX10_bars 1 = .ok (.ifCond .lt 8, 3) := by decide +kernel
theorem dX10_bars_4 : decode cX10_bars 4 = .ok (.iload_n 2, 1) := by decide +kernel
theorem dX10_bars_5 : decode cX10_bars 5 = .ok (.iconst 1, 1) := by decide +kernel
theorem dX10_bars_6 : decode cX10_bars 6 = .ok (.if_icmp .le 5, 3) := by decide +kernel
theorem dX10_bars_9 : decode cX10_bars 9 = .ok (.iconst (-1), 1) := by decide +kernel
theorem dX10_bars_10 : decode cX10_bars 10 = .ok (.ireturn, 1) := by decide +kernel
theorem dX10_bars_11 : decode cX10_bars 11 = .ok (.iconst 0, 1) := by decide +kernel
theorem dX10_bars_12 : decode cX10_bars 12 = .ok (.istore_n 3, 1) := by decide +kernel
theorem dX10_bars_13 : decode cX10_bars 13 = .ok (.iconst 0, 1) := by decide +kernel
theorem dX10_bars_14 : decode cX10_bars 14 = .ok (.istore 4, 2) := by decide +kernel
theorem dX10_bars_16 : decode cX10_bars 16 = .ok (.iload 4, 2) := by decide +kernel
theorem dX10_bars_18 : decode cX10_bars 18 = .ok (.aload_n 0, 1) := by decide +kernel
theorem dX10_bars_19 : decode cX10_bars 19 = .ok (.getfield 99, 3) := by decide +kernel
theorem dX10_bars_22 : decode cX10_bars 22 = .ok (.if_icmp .ge 42, 3) := by decide +kernel
theorem dX10_bars_25 : decode cX10_bars 25 = .ok (.aload_n 0, 1) := by decide +kernel
theorem dX10_bars_26 : decode cX10_bars 26 = .ok (.iload 4, 2) := by decide +kernel
theorem dX10_bars_28 : decode cX10_bars 28 = .ok (.invokevirtual 220, 3) := by decide +kernel
theorem dX10_bars_31 : decode cX10_bars 31 = .ok (.istore 5, 2) := by decide +kernel
theorem dX10_bars_33 : decode cX10_bars 33 = .ok (.iload 5, 2) := by decide +kernel
theorem dX10_bars_35 : decode cX10_bars 35 = .ok (.ifCond .le 23, 3) := by decide +kernel
theorem dX10_bars_38 : decode cX10_bars 38 = .ok (.iload_n 3, 1) := by decide +kernel
theorem dX10_bars_39 : decode cX10_bars 39 = .ok (.iload_n 1, 1) := by decide +kernel
theorem dX10_bars_40 : decode cX10_bars 40 = .ok (.if_icmp .ne 15, 3) := by decide +kernel
theorem dX10_bars_43 : decode cX10_bars 43 = .ok (.iload_n 2, 1) := by decide +kernel
theorem dX10_bars_44 : decode cX10_bars 44 = .ok (.ifCond .ne 8, 3) := by decide +kernel
theorem dX10_bars_47 : decode cX10_bars 47 = .ok (.iload 4, 2) := by decide +kernel
theorem dX10_bars_49 : decode cX10_bars 49 = .ok (.goto 5, 3) := by decide +kernel
theorem dX10_bars_52 : decode cX10_bars 52 = .ok (.iload 5, 2) := by decide +kernel
theorem dX10_bars_54 : decode cX10_bars 54 = .ok (.ireturn, 1) := by decide +kernel
theorem dX10_bars_55 : decode cX10_bars 55 = .ok (.iinc 3 1, 3) := by decide +kernel
theorem dX10_bars_58 : decode cX10_bars 58 = .ok (.iinc 4 1, 3) := by decide +kernel
theorem dX10_bars_61 : decode cX10_bars 61 = .ok (.goto (-45), 3) := by decide +kernel
theorem dX10_bars_64 : decode cX10_bars 64 = .ok (.iconst (-1), 1) := by decide +kernel
theorem dX10_bars_65 : decode cX10_bars 65 = .ok (.ireturn, 1) := by decide +kernel
set_option maxRecDepth 20000 in
theorem ggX10_convoy_X10_in : GoodIn wsX10_convoy wsX10_in := goodIn_r _ [9] (by decide +kernel) (by decide +kernel)
set_option maxRecDepth 20000 in
theorem gX10_convoy_X10_in : GoodIn wsX10_convoy (va_wsS RX10 102 yX10_in wsX10_in) := goodIn_app (goodIn_of _ (by decide +kernel)) ggX10_convoy_X10_in
set_option maxRecDepth 20000 in
theorem ggX10_convoy_X10_handSize : GoodIn wsX10_convoy wsX10_handSize := goodIn_r _ [13, 4, 14, 37, 38, 39, 40, 41, 42, 43, 44, 45, 46, 47, 48, 49, 50, 51, 52, 53, 54, 55, 56, 57, 58, 59, 60, 61, 62, 63, 64, 65, 66, 67, 68, 69, 70, 71, 72, 73, 74, 75, 76, 77, 78, 79, 80, 81, 82, 83, 84, 85, 86, 87, 88, 89, 90] (by decide +kernel) (by decide +kernel)
set_option maxRecDepth 20000 in
theorem gX10_convoy_X10_handSize : GoodIn wsX10_convoy (wsV RX10 303 RX10 yX10_handSize wsX10_handSize) := goodIn_app (goodIn_of _ (by decide +kernel)) ggX10_convoy_X10_handSize
set_option maxRecDepth 20000 in
theorem ggX10_convoy_X10_endOf : GoodIn wsX10_convoy wsX10_endOf := goodIn_r _ [18, 19, 20, 21, 8, 22, 23, 24, 25, 26, 27, 28, 29, 30, 31, 32, 33, 34, 35, 36, 37, 38, 39, 40, 41, 42, 43, 44, 45, 46, 47, 48, 49, 50, 51, 52, 53, 54, 55, 56, 57, 58, 59, 60, 61, 62, 63, 64, 65, 66, 67, 68, 69, 70, 71, 72, 73, 74, 75, 76, 77, 78, 79, 80, 81, 82, 83, 84, 85, 86, 87, 88, 89, 90] (by decide +kernel) (by decide +kernel)
set_option maxRecDepth 20000 in
theorem gX10_convoy_X10_endOf : GoodIn wsX10_convoy (wsV RX10 253 RX10 yX10_endOf wsX10_endOf) := goodIn_app (goodIn_of _ (by decide +kernel)) ggX10_convoy_X10_endOf
theorem dX10_convoy_0 : decode cX10_convoy 0 = .ok (.iload_n 1, 1) := by decide +kernel
theorem dX10_convoy_1 : decode cX10_convoy 1 = .ok (.i2l, 1) := by decide +kernel
theorem dX10_convoy_2 : decode cX10_convoy 2 = .ok (.lconst 1, 1) := by decide +kernel
theorem dX10_convoy_3 : decode cX10_convoy 3 = .ok (.ldc2_w 310, 3) := by decide +kernel
theorem dX10_convoy_6 : decode cX10_convoy 6 = .ok (.invokestatic 102, 3) := by decide +kernel
theorem dX10_convoy_9 : decode cX10_convoy 9 = .ok (.ifCond .eq 22, 3) := by decide +kernel
theorem dX10_convoy_12 : decode cX10_convoy 12 = .ok (.iload_n 2, 1) := by decide +kernel
theorem dX10_convoy_13 : decode cX10_convoy 13 = .ok (.i2l, 1) := by decide +kernel
theorem dX10_convoy_14 : decode cX10_convoy 14 = .ok (.lconst 0, 1) := by decide +kernel
theorem dX10_convoy_15 : decode cX10_convoy 15 = .ok (.ldc2_w 115, 3) := by decide +kernel
theorem dX10_convoy_18 : decode cX10_convoy 18 = .ok (.invokestatic 102, 3) := by decide +kernel
theorem dX10_convoy_21 : decode cX10_convoy 21 = .ok (.ifCond .eq 10, 3) := by decide +kernel
theorem dX10_convoy_24 : decode cX10_convoy 24 = .ok (.aload_n 0, 1) := by decide +kernel
theorem dX10_convoy_25 : decode cX10_convoy 25 = .ok (.invokevirtual 303, 3) := by decide +kernel
theorem dX10_convoy_28 : decode cX10_convoy 28 = .ok (.ifCond .ne 5, 3) := by decide +kernel
theorem dX10_convoy_31 : decode cX10_convoy 31 = .ok (.iconst (-1), 1) := by decide +kernel
theorem dX10_convoy_32 : decode cX10_convoy 32 = .ok (.ireturn, 1) := by decide +kernel
theorem dX10_convoy_33 : decode cX10_convoy 33 = .ok (.iconst 0, 1) := by decide +kernel
theorem dX10_convoy_34 : decode cX10_convoy 34 = .ok (.istore_n 3, 1) := by decide +kernel
theorem dX10_convoy_35 : decode cX10_convoy 35 = .ok (.iconst 0, 1) := by decide +kernel
theorem dX10_convoy_36 : decode cX10_convoy 36 = .ok (.istore 4, 2) := by decide +kernel
theorem dX10_convoy_38 : decode cX10_convoy 38 = .ok (.iload 4, 2) := by decide +kernel
theorem dX10_convoy_40 : decode cX10_convoy 40 = .ok (.iload_n 1, 1) := by decide +kernel
theorem dX10_convoy_41 : decode cX10_convoy 41 = .ok (.if_icmp .ge 54, 3) := by decide +kernel
theorem dX10_convoy_44 : decode cX10_convoy 44 = .ok (.aload_n 0, 1) := by decide +kernel
theorem dX10_convoy_45 : decode cX10_convoy 45 = .ok (.aload_n 0, 1) := by decide +kernel
theorem dX10_convoy_46 : decode cX10_convoy 46 = .ok (.getfield 72, 3) := by decide +kernel
theorem dX10_convoy_49 : decode cX10_convoy 49 = .ok (.bipush 12, 2) := by decide +kernel
theorem dX10_convoy_51 : decode cX10_convoy 51 = .ok (.aload_n 0, 1) := by decide +kernel
theorem dX10_convoy_52 : decode cX10_convoy 52 = .ok (.getfield 109, 3) := by decide +kernel
theorem dX10_convoy_55 : decode cX10_convoy 55 = .ok (.iconst 1, 1) := by decide +kernel
theorem dX10_convoy_56 : decode cX10_convoy 56 = .ok (.isub, 1) := by decide +kernel
theorem dX10_convoy_57 : decode cX10_convoy 57 = .ok (.imul, 1) := by decide +kernel
theorem dX10_convoy_58 : decode cX10_convoy 58 = .ok (.aload_n 0, 1) := by decide +kernel
theorem dX10_convoy_59 : decode cX10_convoy 59 = .ok (.invokevirtual 303, 3) := by decide +kernel
theorem dX10_convoy_62 : decode cX10_convoy 62 = .ok (.aload_n 0, 1) := by decide +kernel
theorem dX10_convoy_63 : decode cX10_convoy 63 = .ok (.getfield 250, 3) := by decide +kernel
theorem dX10_convoy_66 : decode cX10_convoy 66 = .ok (.iload 4, 2) := by decide +kernel
theorem dX10_convoy_68 : decode cX10_convoy 68 = .ok (.iload_n 2, 1) := by decide +kernel
theorem dX10_convoy_69 : decode cX10_convoy 69 = .ok (.imul, 1) := by decide +kernel
theorem dX10_convoy_70 : decode cX10_convoy 70 = .ok (.iadd, 1) := by decide +kernel
theorem dX10_convoy_71 : decode cX10_convoy 71 = .ok (.invokevirtual 253, 3) := by decide +kernel
theorem dX10_convoy_74 : decode cX10_convoy 74 = .ok (.istore 5, 2) := by decide +kernel
theorem dX10_convoy_76 : decode cX10_convoy 76 = .ok (.iload 5, 2) := by decide +kernel
theorem dX10_convoy_78 : decode cX10_convoy 78 = .ok (.iload_n 3, 1) := by decide +kernel
theorem dX10_convoy_79 : decode cX10_convoy 79 = .ok (.if_icmp .le 8, 3) := by decide +kernel
theorem dX10_convoy_82 : decode cX10_convoy 82 = .ok (.iload 5, 2) := by decide +kernel
theorem dX10_convoy_84 : decode cX10_convoy 84 = .ok (.goto 4, 3) := by decide +kernel
theorem dX10_convoy_87 : decode cX10_convoy 87 = .ok (.iload_n 3, 1) := by decide +kernel
theorem dX10_convoy_88 : decode cX10_convoy 88 = .ok (.istore_n 3, 1) := by decide +kernel
theorem dX10_convoy_89 : decode cX10_convoy 89 = .ok (.iinc 4 1, 3) := by decide +kernel
theorem dX10_convoy_92 : decode cX10_convoy 92 = .ok (.goto (-54), 3) := by decide +kernel
theorem dX10_convoy_95 : decode cX10_convoy 95 = .ok (.iload_n 3, 1) := by decide +kernel
theorem dX10_convoy_96 : decode cX10_convoy 96 = .ok (.aload_n 0, 1) := by decide +kernel
theorem dX10_convoy_97 : decode cX10_convoy 97 = .ok (.getfield 250, 3) := by decide +kernel
theorem dX10_convoy_100 : decode cX10_convoy 100 = .ok (.isub, 1) := by decide +kernel
theorem dX10_convoy_101 : decode cX10_convoy 101 = .ok (.ireturn, 1) := by decide +kernel
set_option maxRecDepth 20000 in
theorem ggX10_wantsEscort_X10_rate : GoodIn wsX10_wantsEscort wsX10_rate := goodIn_r _ [10, 11, 12, 13, 14, 15, 16, 17, 18, 19, 20, 21, 22, 23, 24, 25, 9, 26, 27, 28, 29, 30, 31, 32, 33, 34, 35, 36, 37, 38, 39, 40, 41, 42, 43, 44, 45, 46, 47, 48, 53, 54, 55, 56, 57, 58, 59, 60, 61, 62, 63, 64, 65, 66, 67, 68, 69, 70, 71, 72, 73, 74, 75, 76, 77, 78, 79, 80, 81, 82, 83, 84, 85, 86, 87, 88, 89, 90, 91, 92, 93, 94, 95, 96, 97, 98, 99, 100, 101, 102, 103, 104, 105, 106] (by decide +kernel) (by decide +kernel)
set_option maxRecDepth 20000 in
theorem gX10_wantsEscort_X10_rate : GoodIn wsX10_wantsEscort (wsV RX10 199 RX10 yX10_rate wsX10_rate) := goodIn_app (goodIn_of _ (by decide +kernel)) ggX10_wantsEscort_X10_rate
set_option maxRecDepth 20000 in
theorem ggX10_wantsEscort_X10_isAbove : GoodIn wsX10_wantsEscort wsX10_isAbove := goodIn_r _ [52, 17, 16, 43, 23, 21, 53, 54, 55, 56, 57, 58, 59, 60, 61, 62, 63, 64, 65, 66, 67, 68, 69, 70, 71, 72, 73, 74, 75, 76, 77, 78, 79, 80, 81, 82, 83, 84, 85, 86, 87, 88, 89, 90, 91, 92, 93, 94, 95, 96, 97, 98, 99, 100, 101, 102, 103, 104, 105, 106] (by decide +kernel) (by decide +kernel)
set_option maxRecDepth 20000 in
theorem gX10_wantsEscort_X10_isAbove : GoodIn wsX10_wantsEscort (wsV RX10 213 RX10 yX10_isAbove wsX10_isAbove) := goodIn_app (goodIn_of _ (by decide +kernel)) ggX10_wantsEscort_X10_isAbove
theorem dX10_wantsEscort_0 : decode cX10_wantsEscort 0 = .ok (.aload_n 0, 1) := by decide +kernel
theorem dX10_wantsEscort_1 : decode cX10_wantsEscort 1 = .ok (.getfield 19, 3) := by decide +kernel
theorem dX10_wantsEscort_4 : decode cX10_wantsEscort 4 = .ok (.iload_n 1, 1) := by decide +kernel
theorem dX10_wantsEscort_5 : decode cX10_wantsEscort 5 = .ok (.iaload, 1) := by decide +kernel
theorem dX10_wantsEscort_6 : decode cX10_wantsEscort 6 = .ok (.aload_n 0, 1) := by decide +kernel
theorem dX10_wantsEscort_7 : decode cX10_wantsEscort 7 = .ok (.getfield 65, 3) := by decide +kernel
theorem dX10_wantsEscort_10 : decode cX10_wantsEscort 10 = .ok (.isub, 1) := by decide +kernel
theorem dX10_wantsEscort_11 : decode cX10_wantsEscort 11 = .ok (.bipush 50, 2) := by decide +kernel
theorem dX10_wantsEscort_13 : decode cX10_wantsEscort 13 = .ok (.if_icmp .lt 19, 3) := by decide +kernel
theorem dX10_wantsEscort_16 : decode cX10_wantsEscort 16 = .ok (.aload_n 0, 1) := by decide +kernel
theorem dX10_wantsEscort_17 : decode cX10_wantsEscort 17 = .ok (.getfield 22, 3) := by decide +kernel
theorem dX10_wantsEscort_20 : decode cX10_wantsEscort 20 = .ok (.iload_n 1, 1) := by decide +kernel
theorem dX10_wantsEscort_21 : decode cX10_wantsEscort 21 = .ok (.iaload, 1) := by decide +kernel
theorem dX10_wantsEscort_22 : decode cX10_wantsEscort 22 = .ok (.aload_n 0, 1) := by decide +kernel
theorem dX10_wantsEscort_23 : decode cX10_wantsEscort 23 = .ok (.getfield 69, 3) := by decide +kernel
theorem dX10_wantsEscort_26 : decode cX10_wantsEscort 26 = .ok (.isub, 1) := by decide +kernel
theorem dX10_wantsEscort_27 : decode cX10_wantsEscort 27 = .ok (.bipush 50, 2) := by decide +kernel
theorem dX10_wantsEscort_29 : decode cX10_wantsEscort 29 = .ok (.if_icmp .ge 5, 3) := by decide +kernel
theorem dX10_wantsEscort_32 : decode cX10_wantsEscort 32 = .ok (.iconst 1, 1) := by decide +kernel
theorem dX10_wantsEscort_33 : decode cX10_wantsEscort 33 = .ok (.ireturn, 1) := by decide +kernel
theorem dX10_wantsEscort_34 : decode cX10_wantsEscort 34 = .ok (.aload_n 0, 1) := by decide +kernel
theorem dX10_wantsEscort_35 : decode cX10_wantsEscort 35 = .ok (.getfield 29, 3) := by decide +kernel
theorem dX10_wantsEscort_38 : decode cX10_wantsEscort 38 = .ok (.iload_n 1, 1) := by decide +kernel
theorem dX10_wantsEscort_39 : decode cX10_wantsEscort 39 = .ok (.iaload, 1) := by decide +kernel
theorem dX10_wantsEscort_40 : decode cX10_wantsEscort 40 = .ok (.ifCond .ge 5, 3) := by decide +kernel
theorem dX10_wantsEscort_43 : decode cX10_wantsEscort 43 = .ok (.iconst 0, 1) := by decide +kernel
theorem dX10_wantsEscort_44 : decode cX10_wantsEscort 44 = .ok (.ireturn, 1) := by decide +kernel
theorem dX10_wantsEscort_45 : decode cX10_wantsEscort 45 = .ok (.aload_n 0, 1) := by decide +kernel
theorem dX10_wantsEscort_46 : decode cX10_wantsEscort 46 = .ok (.aload_n 0, 1) := by decide +kernel
theorem dX10_wantsEscort_47 : decode cX10_wantsEscort 47 = .ok (.getfield 29, 3) := by decide +kernel
theorem dX10_wantsEscort_50 : decode cX10_wantsEscort 50 = .ok (.iload_n 1, 1) := by decide +kernel
theorem dX10_wantsEscort_51 : decode cX10_wantsEscort 51 = .ok (.iaload, 1) := by decide +kernel
theorem dX10_wantsEscort_52 : decode cX10_wantsEscort 52 = .ok (.invokevirtual 199, 3) := by decide +kernel
theorem dX10_wantsEscort_55 : decode cX10_wantsEscort 55 = .ok (.aload_n 0, 1) := by decide +kernel
theorem dX10_wantsEscort_56 : decode cX10_wantsEscort 56 = .ok (.iconst 4, 1) := by decide +kernel
theorem dX10_wantsEscort_57 : decode cX10_wantsEscort 57 = .ok (.iconst 3, 1) := by decide +kernel
theorem dX10_wantsEscort_58 : decode cX10_wantsEscort 58 = .ok (.invokevirtual 213, 3) := by decide +kernel
theorem dX10_wantsEscort_61 : decode cX10_wantsEscort 61 = .ok (.ireturn, 1) := by decide +kernel
set_option maxRecDepth 20000 in
theorem ggX10_escort_X10_handSize : GoodIn wsX10_escort wsX10_handSize := goodIn_r _ [5, 6, 7, 68, 69, 70, 71, 72, 73, 74, 75, 76, 77, 78, 79, 80, 81, 82, 83, 84, 85, 86, 87, 88, 89, 90, 91, 92, 93, 94, 95, 96, 97, 98, 99, 100, 101, 102, 103, 104, 105, 106, 107, 108, 109, 110, 111, 112, 113, 114, 115, 116, 117, 118, 119, 120, 121] (by decide +kernel) (by decide +kernel)
set_option maxRecDepth 20000 in
theorem gX10_escort_X10_handSize : GoodIn wsX10_escort (wsV RX10 303 RX10 yX10_handSize wsX10_handSize) := goodIn_app (goodIn_of _ (by decide +kernel)) ggX10_escort_X10_handSize
set_option maxRecDepth 20000 in
theorem ggX10_escort_X10_hand : GoodIn wsX10_escort wsX10_hand := goodIn_r _ [11, 12, 6, 68, 69, 70, 71, 72, 73, 74, 75, 76, 77, 78, 79, 80, 81, 82, 83, 84, 85, 86, 87, 88, 89, 90, 91, 92, 93, 94, 95, 96, 97, 98, 99, 100, 101, 102, 103, 104, 105, 106, 107, 108, 109, 110, 111, 112, 113, 114, 115, 116, 117, 118, 119, 120, 121] (by decide +kernel) (by decide +kernel)
set_option maxRecDepth 20000 in
theorem gX10_escort_X10_hand : GoodIn wsX10_escort (wsV RX10 307 RX10 yX10_hand wsX10_hand) := goodIn_app (goodIn_of _ (by decide +kernel)) ggX10_escort_X10_hand
set_option maxRecDepth 20000 in
theorem ggX10_escort_X10_wantsEscort : GoodIn wsX10_escort wsX10_wantsEscort := goodIn_r _ [16, 17, 18, 19, 20, 21, 22, 23, 24, 4, 25, 26, 27, 28, 29, 30, 31, 32, 33, 34, 35, 36, 37, 38, 39, 40, 41, 42, 43, 44, 45, 46, 47, 48, 49, 50, 51, 52, 53, 54, 55, 56, 57, 58, 59, 60, 61, 62, 63, 64, 65, 66, 67, 68, 69, 70, 71, 72, 73, 74, 75, 76, 77, 78, 79, 80, 81, 82, 83, 84, 85, 86, 87, 88, 89, 90, 91, 92, 93, 94, 95, 96, 97, 98, 99, 100, 101, 102, 103, 104, 105, 106, 107, 108, 109, 110, 111, 112, 113, 114, 115, 116, 117, 118, 119, 120, 121] (by decide +kernel) (by decide +kernel)
set_option maxRecDepth 20000 in
theorem gX10_escort_X10_wantsEscort : GoodIn wsX10_escort (wsV RX10 312 RX10 yX10_wantsEscort wsX10_wantsEscort) := goodIn_app (goodIn_of _ (by decide +kernel)) ggX10_escort_X10_wantsEscort
theorem dX10_escort_0 : decode cX10_escort 0 = .ok (.iconst 0, 1) := by decide +kernel
theorem dX10_escort_1 : decode cX10_escort 1 = .ok (.istore_n 2, 1) := by decide +kernel
theorem dX10_escort_2 : decode cX10_escort 2 = .ok (.iconst 0, 1) := by decide +kernel
theorem dX10_escort_3 : decode cX10_escort 3 = .ok (.istore_n 3, 1) := by decide +kernel
theorem dX10_escort_4 : decode cX10_escort 4 = .ok (.iload_n 3, 1) := by decide +kernel
theorem dX10_escort_5 : decode cX10_escort 5 = .ok (.aload_n 0, 1) := by decide +kernel
theorem dX10_escort_6 : decode cX10_escort 6 = .ok (.invokevirtual 303, 3) := by decide +kernel
theorem dX10_escort_9 : decode cX10_escort 9 = .ok (.if_icmp .ge 35, 3) := by decide +kernel
theorem dX10_escort_12 : decode cX10_escort 12 = .ok (.aload_n 0, 1) := by decide +kernel
theorem dX10_escort_13 : decode cX10_escort 13 = .ok (.aload_n 0, 1) := by decide +kernel
theorem dX10_escort_14 : decode cX10_escort 14 = .ok (.iload_n 3, 1) := by decide +kernel
theorem dX10_escort_15 : decode cX10_escort 15 = .ok (.invokevirtual 307, 3) := by decide +kernel
theorem dX10_escort_18 : decode cX10_escort 18 = .ok (.invokevirtual 312, 3) := by decide +kernel
theorem dX10_escort_21 : decode cX10_escort 21 = .ok (.ifCond .eq 17, 3) := by decide +kernel
theorem dX10_escort_24 : decode cX10_escort 24 = .ok (.iload_n 2, 1) := by decide +kernel
theorem dX10_escort_25 : decode cX10_escort 25 = .ok (.iload_n 1, 1) := by decide +kernel
theorem dX10_escort_26 : decode cX10_escort 26 = .ok (.if_icmp .ne 9, 3) := by decide +kernel
theorem dX10_escort_29 : decode cX10_escort 29 = .ok (.aload_n 0, 1) := by decide +kernel
theorem dX10_escort_30 : decode cX10_escort 30 = .ok (.iload_n 3, 1) := by decide +kernel
theorem dX10_escort_31 : decode cX10_escort 31 = .ok (.invokevirtual 307, 3) := by decide +kernel
theorem dX10_escort_34 : decode cX10_escort 34 = .ok (.ireturn, 1) := by decide +kernel
theorem dX10_escort_35 : decode cX10_escort 35 = .ok (.iinc 2 1, 3) := by decide +kernel
theorem dX10_escort_38 : decode cX10_escort 38 = .ok (.iinc 3 1, 3) := by decide +kernel
theorem dX10_escort_41 : decode cX10_escort 41 = .ok (.goto (-37), 3) := by decide +kernel
theorem dX10_escort_44 : decode cX10_escort 44 = .ok (.iconst (-1), 1) := by decide +kernel
theorem dX10_escort_45 : decode cX10_escort 45 = .ok (.ireturn, 1) := by decide +kernel
set_option maxRecDepth 20000 in
theorem ggX10_notice_X10_handSize : GoodIn wsX10_notice wsX10_handSize := goodIn_r _ [6, 7, 8, 14, 15, 16, 17, 18, 19, 20, 21, 22, 23, 24, 25, 26, 27, 28, 29, 30, 31, 32, 33, 34, 35, 36, 37, 38, 39, 40, 41, 42, 43, 44, 45, 46, 47, 48, 49, 50, 51, 52, 53, 54, 55, 56, 57, 58, 59, 60, 61, 62, 63, 64, 65, 66, 67] (by decide +kernel) (by decide +kernel)
set_option maxRecDepth 20000 in
theorem gX10_notice_X10_handSize : GoodIn wsX10_notice (wsV RX10 303 RX10 yX10_handSize wsX10_handSize) := goodIn_app (goodIn_of _ (by decide +kernel)) ggX10_notice_X10_handSize
set_option maxRecDepth 20000 in
theorem ggX10_notice_X10_hand : GoodIn wsX10_notice wsX10_hand := goodIn_r _ [12, 13, 7, 14, 15, 16, 17, 18, 19, 20, 21, 22, 23, 24, 25, 26, 27, 28, 29, 30, 31, 32, 33, 34, 35, 36, 37, 38, 39, 40, 41, 42, 43, 44, 45, 46, 47, 48, 49, 50, 51, 52, 53, 54, 55, 56, 57, 58, 59, 60, 61, 62, 63, 64, 65, 66, 67] (by decide +kernel) (by decide +kernel)
set_option maxRecDepth 20000 in
theorem gX10_notice_X10_hand : GoodIn wsX10_notice (wsV RX10 307 RX10 yX10_hand wsX10_hand) := goodIn_app (goodIn_of _ (by decide +kernel)) ggX10_notice_X10_hand
theorem dX10_notice_0 : decode cX10_notice 0 = .ok (.iconst 0, 1) := by decide +kernel
theorem dX10_notice_1 : decode cX10_notice 1 = .ok (.istore_n 2, 1) := by decide +kernel
theorem dX10_notice_2 : decode cX10_notice 2 = .ok (.iconst 0, 1) := by decide +kernel
theorem dX10_notice_3 : decode cX10_notice 3 = .ok (.istore_n 3, 1) := by decide +kernel
theorem dX10_notice_4 : decode cX10_notice 4 = .ok (.iload_n 3, 1) := by decide +kernel
theorem dX10_notice_5 : decode cX10_notice 5 = .ok (.aload_n 0, 1) := by decide +kernel
theorem dX10_notice_6 : decode cX10_notice 6 = .ok (.invokevirtual 303, 3) := by decide +kernel
theorem dX10_notice_9 : decode cX10_notice 9 = .ok (.if_icmp .ge 41, 3) := by decide +kernel
theorem dX10_notice_12 : decode cX10_notice 12 = .ok (.aload_n 0, 1) := by decide +kernel
theorem dX10_notice_13 : decode cX10_notice 13 = .ok (.getfield 29, 3) := by decide +kernel
theorem dX10_notice_16 : decode cX10_notice 16 = .ok (.aload_n 0, 1) := by decide +kernel
theorem dX10_notice_17 : decode cX10_notice 17 = .ok (.iload_n 3, 1) := by decide +kernel
theorem dX10_notice_18 : decode cX10_notice 18 = .ok (.invokevirtual 307, 3) := by decide +kernel
theorem dX10_notice_21 : decode cX10_notice 21 = .ok (.iaload, 1) := by decide +kernel
theorem dX10_notice_22 : decode cX10_notice 22 = .ok (.ifCond .lt 22, 3) := by decide +kernel
theorem dX10_notice_25 : decode cX10_notice 25 = .ok (.iload_n 2, 1) := by decide +kernel
theorem dX10_notice_26 : decode cX10_notice 26 = .ok (.iload_n 1, 1) := by decide +kernel
theorem dX10_notice_27 : decode cX10_notice 27 = .ok (.if_icmp .ne 14, 3) := by decide +kernel
theorem dX10_notice_30 : decode cX10_notice 30 = .ok (.aload_n 0, 1) := by decide +kernel
theorem dX10_notice_31 : decode cX10_notice 31 = .ok (.getfield 29, 3) := by decide +kernel
theorem dX10_notice_34 : decode cX10_notice 34 = .ok (.aload_n 0, 1) := by decide +kernel
theorem dX10_notice_35 : decode cX10_notice 35 = .ok (.iload_n 3, 1) := by decide +kernel
theorem dX10_notice_36 : decode cX10_notice 36 = .ok (.invokevirtual 307, 3) := by decide +kernel
theorem dX10_notice_39 : decode cX10_notice 39 = .ok (.iaload, 1) := by decide +kernel
theorem dX10_notice_40 : decode cX10_notice 40 = .ok (.ireturn, 1) := by decide +kernel
theorem dX10_notice_41 : decode cX10_notice 41 = .ok (.iinc 2 1, 3) := by decide +kernel
theorem dX10_notice_44 : decode cX10_notice 44 = .ok (.iinc 3 1, 3) := by decide +kernel
theorem dX10_notice_47 : decode cX10_notice 47 = .ok (.goto (-43), 3) := by decide +kernel
theorem dX10_notice_50 : decode cX10_notice 50 = .ok (.iconst (-1), 1) := by decide +kernel
theorem dX10_notice_51 : decode cX10_notice 51 = .ok (.ireturn, 1) := by decide +kernel
set_option maxRecDepth 20000 in
theorem ggX10_record_X10_in : GoodIn wsX10_record wsX10_in := goodIn_r _ [6] (by decide +kernel) (by decide +kernel)
set_option maxRecDepth 20000 in
theorem gX10_record_X10_in : GoodIn wsX10_record (va_wsS RX10 102 yX10_in wsX10_in) := goodIn_app (goodIn_of _ (by decide +kernel)) ggX10_record_X10_in
theorem dX10_record_0 : decode cX10_record 0 = .ok (.iload_n 1, 1) := by decide +kernel
theorem dX10_record_1 : decode cX10_record 1 = .ok (.i2l, 1) := by decide +kernel
theorem dX10_record_2 : decode cX10_record 2 = .ok (.lconst 0, 1) := by decide +kernel
theorem dX10_record_3 : decode cX10_record 3 = .ok (.aload_n 0, 1) := by decide +kernel
theorem dX10_record_4 : decode cX10_record 4 = .ok (.getfield 298, 3) := by decide +kernel
theorem dX10_record_7 : decode cX10_record 7 = .ok (.iconst 1, 1) := by decide +kernel
theorem dX10_record_8 : decode cX10_record 8 = .ok (.isub, 1) := by decide +kernel
theorem dX10_record_9 : decode cX10_record 9 = .ok (.i2l, 1) := by decide +kernel
theorem dX10_record_10 : decode cX10_record 10 = .ok (.invokestatic 102, 3) := by decide +kernel
theorem dX10_record_13 : decode cX10_record 13 = .ok (.ifCond .eq 12, 3) := by decide +kernel
theorem dX10_record_16 : decode cX10_record 16 = .ok (.aload_n 0, 1) := by decide +kernel
theorem dX10_record_17 : decode cX10_record 17 = .ok (.getfield 78, 3) := by decide +kernel
theorem dX10_record_20 : decode cX10_record 20 = .ok (.iload_n 1, 1) := by decide +kernel
theorem dX10_record_21 : decode cX10_record 21 = .ok (.iaload, 1) := by decide +kernel
theorem dX10_record_22 : decode cX10_record 22 = .ok (.goto 5, 3) := by decide +kernel
theorem dX10_record_25 : decode cX10_record 25 = .ok (.bipush (-2), 2) := by decide +kernel
theorem dX10_record_27 : decode cX10_record 27 = .ok (.ireturn, 1) := by decide +kernel
set_option maxRecDepth 20000 in
theorem ggX10_count_X10_handSize : GoodIn wsX10_count wsX10_handSize := goodIn_r _ [13, 5, 14, 144, 145, 146, 147, 148, 149, 150, 151, 152, 153, 154, 155, 156, 157, 158, 159, 160, 161, 162, 163, 164, 165, 166, 167, 168, 169, 170, 171, 172, 173, 174, 175, 176, 177, 178, 179, 180, 181, 182, 183, 184, 185, 186, 187, 188, 189, 190, 191, 192, 193, 194, 195, 196, 197] (by decide +kernel) (by decide +kernel)
set_option maxRecDepth 20000 in
theorem gX10_count_X10_handSize : GoodIn wsX10_count (wsV RX10 303 RX10 yX10_handSize wsX10_handSize) := goodIn_app (goodIn_of _ (by decide +kernel)) ggX10_count_X10_handSize
set_option maxRecDepth 20000 in
theorem ggX10_count_X10_search : GoodIn wsX10_count wsX10_search := goodIn_r _ [18, 19, 20, 21, 8, 22, 23, 24, 25, 26, 12, 27, 2, 28, 29, 30, 31, 32, 33, 34, 35, 36, 37, 38, 39, 40, 41, 42, 43, 44, 45, 46, 47, 48, 49, 4, 50, 51, 52, 53, 54, 55, 56, 57, 58, 59, 60, 61, 62, 63, 64, 65, 66, 67, 68, 69, 70, 71, 72, 73, 74, 75, 76, 77, 78, 79, 80, 81, 82, 83, 84, 85, 86, 87, 88, 89, 90, 91, 92, 93, 94, 95, 96, 97, 98, 99, 100, 101, 102, 103, 104, 105, 106, 107, 108, 109, 110, 111, 112, 113, 114, 115, 116, 117, 118, 119, 120, 121, 122, 123, 5, 14, 124, 125, 126, 127, 128, 129, 130, 131, 132, 133, 134, 135, 136, 137, 138, 139, 140, 141, 142, 143, 144, 145, 146, 147, 148, 149, 150, 151, 152, 153, 154, 155, 156, 157, 158, 159, 160, 161, 162, 163, 164, 165, 166, 167, 168, 169, 170, 171, 172, 173, 174, 175, 176, 177, 178, 179, 180, 181, 182, 183, 184, 185, 186, 187, 188, 189, 190, 191, 192, 193, 194, 195, 196, 197] (by decide +kernel) (by decide +kernel)
set_option maxRecDepth 20000 in
theorem gX10_count_X10_search : GoodIn wsX10_count (wsV RX10 292 RX10 yX10_search wsX10_search) := goodIn_app (goodIn_of _ (by decide +kernel)) ggX10_count_X10_search
theorem dX10_count_0 : decode cX10_count 0 = .ok (.iload_n 1, 1) := by decide +kernel
theorem dX10_count_1 : decode cX10_count 1 = .ok (.tableswitch 94 0 6 #[43, 48, 53, 58, 63, 68, 73], 43) := by decide +kernel
theorem dX10_count_44 : decode cX10_count 44 = .ok (.aload_n 0, 1) := by decide +kernel
theorem dX10_count_45 : decode cX10_count 45 = .ok (.getfield 112, 3) := by decide +kernel
theorem dX10_count_48 : decode cX10_count 48 = .ok (.ireturn, 1) := by decide +kernel
theorem dX10_count_49 : decode cX10_count 49 = .ok (.aload_n 0, 1) := by decide +kernel
theorem dX10_count_50 : decode cX10_count 50 = .ok (.getfield 99, 3) := by decide +kernel
theorem dX10_count_53 : decode cX10_count 53 = .ok (.ireturn, 1) := by decide +kernel
theorem dX10_count_54 : decode cX10_count 54 = .ok (.aload_n 0, 1) := by decide +kernel
theorem dX10_count_55 : decode cX10_count 55 = .ok (.getfield 106, 3) := by decide +kernel
theorem dX10_count_58 : decode cX10_count 58 = .ok (.ireturn, 1) := by decide +kernel
theorem dX10_count_59 : decode cX10_count 59 = .ok (.aload_n 0, 1) := by decide +kernel
theorem dX10_count_60 : decode cX10_count 60 = .ok (.getfield 135, 3) := by decide +kernel
theorem dX10_count_63 : decode cX10_count 63 = .ok (.ireturn, 1) := by decide +kernel
theorem dX10_count_64 : decode cX10_count 64 = .ok (.aload_n 0, 1) := by decide +kernel
theorem dX10_count_65 : decode cX10_count 65 = .ok (.invokevirtual 303, 3) := by decide +kernel
theorem dX10_count_68 : decode cX10_count 68 = .ok (.ireturn, 1) := by decide +kernel
theorem dX10_count_69 : decode cX10_count 69 = .ok (.aload_n 0, 1) := by decide +kernel
theorem dX10_count_70 : decode cX10_count 70 = .ok (.getfield 109, 3) := by decide +kernel
theorem dX10_count_73 : decode cX10_count 73 = .ok (.ireturn, 1) := by decide +kernel
theorem dX10_count_74 : decode cX10_count 74 = .ok (.aload_n 0, 1) := by decide +kernel
theorem dX10_count_75 : decode cX10_count 75 = .ok (.getfield 287, 3) := by decide +kernel
theorem dX10_count_78 : decode cX10_count 78 = .ok (.ifCond .ne 5, 3) := by decide +kernel
theorem dX10_count_81 : decode cX10_count 81 = .ok (.iconst 0, 1) := by decide +kernel
theorem dX10_count_82 : decode cX10_count 82 = .ok (.ireturn, 1) := by decide +kernel
theorem dX10_count_83 : decode cX10_count 83 = .ok (.aload_n 0, 1) := by decide +kernel
theorem dX10_count_84 : decode cX10_count 84 = .ok (.ldc_w 291, 3) := by decide +kernel
theorem dX10_count_87 : decode cX10_count 87 = .ok (.invokevirtual 292, 3) := by decide +kernel
theorem dX10_count_90 : decode cX10_count 90 = .ok (.aload_n 0, 1) := by decide +kernel
theorem dX10_count_91 : decode cX10_count 91 = .ok (.getfield 247, 3) := by decide +kernel
theorem dX10_count_94 : decode cX10_count 94 = .ok (.ireturn, 1) := by decide +kernel
theorem dX10_count_95 : decode cX10_count 95 = .ok (.iconst (-1), 1) := by decide +kernel
theorem dX10_count_96 : decode cX10_count 96 = .ok (.ireturn, 1) := by decide +kernel
