set_option maxRecDepth 20000 in
theorem ggX9_init_X3_init : GoodIn wsX9_init wsX3_init := goodIn_r _ [16, 17, 2, 3, 18, 19, 20, 21, 22, 23, 24, 25, 26, 27, 28, 29, 30, 31, 32, 33, 34, 35, 36, 37, 38, 39, 40, 41, 42, 43, 44, 45, 46, 47, 48, 49, 50, 51, 52, 53, 54, 55, 56, 57, 58, 59, 60, 61, 62, 63, 64, 65, 66, 67, 68, 69, 70, 71, 72, 73, 74, 75, 12, 76, 77, 78, 79, 80, 81, 82, 83, 84, 85, 86, 104, 105, 106, 107, 108, 109, 110, 130, 131, 132, 133, 134, 135, 136, 137, 138, 139, 140, 141, 142, 143, 144, 145, 146, 147, 148, 149, 150, 151, 152, 153, 154, 155, 156, 157, 158, 159, 160, 161, 162, 163, 164] (by decide +kernel) (by decide +kernel)
set_option maxRecDepth 20000 in
theorem gX9_init_X3_init : GoodIn wsX9_init (wsX3_init) := ggX9_init_X3_init
set_option maxRecDepth 20000 in
theorem ggX9_init_X1_init : GoodIn wsX9_init wsX1_init := goodIn_r _ [89, 90, 2, 3, 91, 92, 93, 94, 95, 96, 97, 98, 99, 100, 101, 12, 102, 103, 115, 116, 117, 118, 119, 120, 121, 122, 123, 124, 125, 126, 127, 128, 129, 165, 166, 167, 168, 169, 170] (by decide +kernel) (by decide +kernel)
set_option maxRecDepth 20000 in
theorem gX9_init_X1_init : GoodIn wsX9_init (wsX1_init) := ggX9_init_X1_init
theorem dX9_init_0 : decode cX9_init 0 = .ok (.aload_n 0, 1) := by decide +kernel
theorem dX9_init_1 : decode cX9_init 1 = .ok (.invokespecial 3, 3) := by decide +kernel
theorem dX9_init_4 : decode cX9_init 4 = .ok (.aload_n 0, 1) := by decide +kernel
theorem dX9_init_5 : decode cX9_init 5 = .ok (.new 9, 3) := by decide +kernel
theorem dX9_init_8 : decode cX9_init 8 = .ok (.dup, 1) := by decide +kernel
theorem dX9_init_9 : decode cX9_init 9 = .ok (.invokespecial 11, 3) := by decide +kernel
theorem dX9_init_12 : decode cX9_init 12 = .ok (.putfield 12, 3) := by decide +kernel
theorem dX9_init_15 : decode cX9_init 15 = .ok (.aload_n 0, 1) := by decide +kernel
theorem dX9_init_16 : decode cX9_init 16 = .ok (.new 16, 3) := by decide +kernel
theorem dX9_init_19 : decode cX9_init 19 = .ok (.dup, 1) := by decide +kernel
theorem dX9_init_20 : decode cX9_init 20 = .ok (.aload_n 0, 1) := by decide +kernel
theorem dX9_init_21 : decode cX9_init 21 = .ok (.getfield 12, 3) := by decide +kernel
theorem dX9_init_24 : decode cX9_init 24 = .ok (.invokespecial 18, 3) := by decide +kernel
theorem dX9_init_27 : decode cX9_init 27 = .ok (.putfield 21, 3) := by decide +kernel
theorem dX9_init_30 : decode cX9_init 30 = .ok (.aload_n 0, 1) := by decide +kernel
theorem dX9_init_31 : decode cX9_init 31 = .ok (.bipush 50, 2) := by decide +kernel
theorem dX9_init_33 : decode cX9_init 33 = .ok (.newarray .int, 2) := by decide +kernel
theorem dX9_init_35 : decode cX9_init 35 = .ok (.putfield 25, 3) := by decide +kernel
theorem dX9_init_38 : decode cX9_init 38 = .ok (.return_, 1) := by decide +kernel
theorem dX9_node_0 : decode cX9_node 0 = .ok (.aload_n 0, 1) := by decide +kernel
theorem dX9_node_1 : decode cX9_node 1 = .ok (.getfield 12, 3) := by decide +kernel
theorem dX9_node_4 : decode cX9_node 4 = .ok (.getfield 29, 3) := by decide +kernel
theorem dX9_node_7 : decode cX9_node 7 = .ok (.bipush 7, 2) := by decide +kernel
theorem dX9_node_9 : decode cX9_node 9 = .ok (.if_icmp .lt 5, 3) := by decide +kernel
theorem dX9_node_12 : decode cX9_node 12 = .ok (.iconst (-1), 1) := by decide +kernel
theorem dX9_node_13 : decode cX9_node 13 = .ok (.ireturn, 1) := by decide +kernel
theorem dX9_node_14 : decode cX9_node 14 = .ok (.aload_n 0, 1) := by decide +kernel
theorem dX9_node_15 : decode cX9_node 15 = .ok (.getfield 12, 3) := by decide +kernel
theorem dX9_node_18 : decode cX9_node 18 = .ok (.dup, 1) := by decide +kernel
theorem dX9_node_19 : decode cX9_node 19 = .ok (.getfield 29, 3) := by decide +kernel
theorem dX9_node_22 : decode cX9_node 22 = .ok (.dup_x1, 1) := by decide +kernel
theorem dX9_node_23 : decode cX9_node 23 = .ok (.iconst 1, 1) := by decide +kernel
theorem dX9_node_24 : decode cX9_node 24 = .ok (.iadd, 1) := by decide +kernel
theorem dX9_node_25 : decode cX9_node 25 = .ok (.putfield 29, 3) := by decide +kernel
theorem dX9_node_28 : decode cX9_node 28 = .ok (.ireturn, 1) := by decide +kernel
set_option maxRecDepth 20000 in
theorem ggX9_road_X3_hasNode : GoodIn wsX9_road wsX3_hasNode := goodIn_r _ [8, 9, 39, 40, 41, 42, 43, 44, 45] (by decide +kernel) (by decide +kernel)
set_option maxRecDepth 20000 in
theorem gX9_road_X3_hasNode : GoodIn wsX9_road (wsV RX9 36 RX3 yX3_hasNode wsX3_hasNode) := goodIn_app (goodIn_of _ (by decide +kernel)) ggX9_road_X3_hasNode
set_option maxRecDepth 20000 in
theorem ggX9_road_X9_isWithin : GoodIn wsX9_road wsX9_isWithin := goodIn_r _ [13] (by decide +kernel) (by decide +kernel)
set_option maxRecDepth 20000 in
theorem gX9_road_X9_isWithin : GoodIn wsX9_road (va_wsS RX9 42 yX9_isWithin wsX9_isWithin) := goodIn_app (goodIn_of _ (by decide +kernel)) ggX9_road_X9_isWithin
set_option maxRecDepth 20000 in
theorem ggX9_road_X9_isSize : GoodIn wsX9_road wsX9_isSize := goodIn_r _ [16, 17, 10, 11, 12, 13] (by decide +kernel) (by decide +kernel)
set_option maxRecDepth 20000 in
theorem gX9_road_X9_isSize : GoodIn wsX9_road (va_wsS RX9 46 yX9_isSize wsX9_isSize) := goodIn_app (goodIn_of _ (by decide +kernel)) ggX9_road_X9_isSize
set_option maxRecDepth 20000 in
theorem ggX9_road_X1_forget : GoodIn wsX9_road wsX1_forget := goodIn_r _ [22, 23, 46, 47, 48, 49, 50, 51, 52, 53, 54, 55, 56, 57, 58, 59, 60] (by decide +kernel) (by decide +kernel)
set_option maxRecDepth 20000 in
theorem gX9_road_X1_forget : GoodIn wsX9_road (wsV RX9 49 RX1 yX1_forget wsX1_forget) := goodIn_app (goodIn_of _ (by decide +kernel)) ggX9_road_X1_forget
set_option maxRecDepth 20000 in
theorem ggX9_road_X6_lay : GoodIn wsX9_road wsX6_lay := goodIn_r _ [28, 29, 30, 31, 32, 33, 34, 61, 62, 63, 64, 65, 66, 67, 68, 69, 70, 71] (by decide +kernel) (by decide +kernel)
set_option maxRecDepth 20000 in
theorem gX9_road_X6_lay : GoodIn wsX9_road (wsV RX9 56 RX6 yX6_lay wsX6_lay) := goodIn_app (goodIn_of _ (by decide +kernel)) ggX9_road_X6_lay
theorem dX9_road_0 : decode cX9_road 0 = .ok (.aload_n 0, 1) := by decide +kernel
theorem dX9_road_1 : decode cX9_road 1 = .ok (.getfield 12, 3) := by decide +kernel
theorem dX9_road_4 : decode cX9_road 4 = .ok (.getfield 33, 3) := by decide +kernel
theorem dX9_road_7 : decode cX9_road 7 = .ok (.bipush 12, 2) := by decide +kernel
theorem dX9_road_9 : decode cX9_road 9 = .ok (.if_icmp .ge 30, 3) := by decide +kernel
theorem dX9_road_12 : decode cX9_road 12 = .ok (.aload_n 0, 1) := by decide +kernel
theorem dX9_road_13 : decode cX9_road 13 = .ok (.getfield 12, 3) := by decide +kernel
theorem dX9_road_16 : decode cX9_road 16 = .ok (.iload_n 1, 1) := by decide +kernel
theorem dX9_road_17 : decode cX9_road 17 = .ok (.invokevirtual 36, 3) := by decide +kernel
theorem dX9_road_20 : decode cX9_road 20 = .ok (.ifCond .eq 19, 3) := by decide +kernel
theorem dX9_road_23 : decode cX9_road 23 = .ok (.aload_n 0, 1) := by decide +kernel
theorem dX9_road_24 : decode cX9_road 24 = .ok (.getfield 12, 3) := by decide +kernel
theorem dX9_road_27 : decode cX9_road 27 = .ok (.iload_n 2, 1) := by decide +kernel
theorem dX9_road_28 : decode cX9_road 28 = .ok (.invokevirtual 36, 3) := by decide +kernel
theorem dX9_road_31 : decode cX9_road 31 = .ok (.ifCond .eq 8, 3) := by decide +kernel
theorem dX9_road_34 : decode cX9_road 34 = .ok (.iload_n 1, 1) := by decide +kernel
theorem dX9_road_35 : decode cX9_road 35 = .ok (.iload_n 2, 1) := by decide +kernel
theorem dX9_road_36 : decode cX9_road 36 = .ok (.if_icmp .ne 5, 3) := by decide +kernel
theorem dX9_road_39 : decode cX9_road 39 = .ok (.iconst (-1), 1) := by decide +kernel
theorem dX9_road_40 : decode cX9_road 40 = .ok (.ireturn, 1) := by decide +kernel
theorem dX9_road_41 : decode cX9_road 41 = .ok (.iload_n 3, 1) := by decide +kernel
theorem dX9_road_42 : decode cX9_road 42 = .ok (.i2l, 1) := by decide +kernel
theorem dX9_road_43 : decode cX9_road 43 = .ok (.lconst 1, 1) := by decide +kernel
theorem dX9_road_44 : decode cX9_road 44 = .ok (.ldc2_w 40, 3) := by decide +kernel
theorem dX9_road_47 : decode cX9_road 47 = .ok (.invokestatic 42, 3) := by decide +kernel
theorem dX9_road_50 : decode cX9_road 50 = .ok (.ifCond .eq 19, 3) := by decide +kernel
theorem dX9_road_53 : decode cX9_road 53 = .ok (.iload 4, 2) := by decide +kernel
theorem dX9_road_55 : decode cX9_road 55 = .ok (.invokestatic 46, 3) := by decide +kernel
theorem dX9_road_58 : decode cX9_road 58 = .ok (.ifCond .eq 11, 3) := by decide +kernel
theorem dX9_road_61 : decode cX9_road 61 = .ok (.iload 5, 2) := by decide +kernel
theorem dX9_road_63 : decode cX9_road 63 = .ok (.invokestatic 46, 3) := by decide +kernel
theorem dX9_road_66 : decode cX9_road 66 = .ok (.ifCond .ne 5, 3) := by decide +kernel
theorem dX9_road_69 : decode cX9_road 69 = .ok (.iconst (-1), 1) := by decide +kernel
theorem dX9_road_70 : decode cX9_road 70 = .ok (.ireturn, 1) := by decide +kernel
theorem dX9_road_71 : decode cX9_road 71 = .ok (.aload_n 0, 1) := by decide +kernel
theorem dX9_road_72 : decode cX9_road 72 = .ok (.getfield 21, 3) := by decide +kernel
theorem dX9_road_75 : decode cX9_road 75 = .ok (.invokevirtual 49, 3) := by decide +kernel
theorem dX9_road_78 : decode cX9_road 78 = .ok (.aload_n 0, 1) := by decide +kernel
theorem dX9_road_79 : decode cX9_road 79 = .ok (.getfield 12, 3) := by decide +kernel
theorem dX9_road_82 : decode cX9_road 82 = .ok (.getfield 52, 3) := by decide +kernel
theorem dX9_road_85 : decode cX9_road 85 = .ok (.aload_n 0, 1) := by decide +kernel
theorem dX9_road_86 : decode cX9_road 86 = .ok (.getfield 12, 3) := by decide +kernel
theorem dX9_road_89 : decode cX9_road 89 = .ok (.getfield 33, 3) := by decide +kernel
theorem dX9_road_92 : decode cX9_road 92 = .ok (.aaload, 1) := by decide +kernel
theorem dX9_road_93 : decode cX9_road 93 = .ok (.iload_n 1, 1) := by decide +kernel
theorem dX9_road_94 : decode cX9_road 94 = .ok (.iload_n 2, 1) := by decide +kernel
theorem dX9_road_95 : decode cX9_road 95 = .ok (.iload_n 3, 1) := by decide +kernel
theorem dX9_road_96 : decode cX9_road 96 = .ok (.iload 4, 2) := by decide +kernel
theorem dX9_road_98 : decode cX9_road 98 = .ok (.iload 5, 2) := by decide +kernel
theorem dX9_road_100 : decode cX9_road 100 = .ok (.invokevirtual 56, 3) := by decide +kernel
theorem dX9_road_103 : decode cX9_road 103 = .ok (.aload_n 0, 1) := by decide +kernel
theorem dX9_road_104 : decode cX9_road 104 = .ok (.getfield 12, 3) := by decide +kernel
theorem dX9_road_107 : decode cX9_road 107 = .ok (.dup, 1) := by decide +kernel
theorem dX9_road_108 : decode cX9_road 108 = .ok (.getfield 33, 3) := by decide +kernel
theorem dX9_road_111 : decode cX9_road 111 = .ok (.dup_x1, 1) := by decide +kernel
theorem dX9_road_112 : decode cX9_road 112 = .ok (.iconst 1, 1) := by decide +kernel
theorem dX9_road_113 : decode cX9_road 113 = .ok (.iadd, 1) := by decide +kernel
theorem dX9_road_114 : decode cX9_road 114 = .ok (.putfield 33, 3) := by decide +kernel
theorem dX9_road_117 : decode cX9_road 117 = .ok (.ireturn, 1) := by decide +kernel
set_option maxRecDepth 20000 in
theorem ggX9_bridge_X3_hasRoad : GoodIn wsX9_bridge wsX3_hasRoad := goodIn_r _ [7, 8, 19, 20, 21, 22, 23, 24, 25] (by decide +kernel) (by decide +kernel)
set_option maxRecDepth 20000 in
theorem gX9_bridge_X3_hasRoad : GoodIn wsX9_bridge (wsV RX9 62 RX3 yX3_hasRoad wsX3_hasRoad) := goodIn_app (goodIn_of _ (by decide +kernel)) ggX9_bridge_X3_hasRoad
set_option maxRecDepth 20000 in
theorem ggX9_bridge_X1_forget : GoodIn wsX9_bridge wsX1_forget := goodIn_r _ [13, 14, 37, 38, 39, 40, 41, 42, 43, 44, 45, 46, 47, 48, 49, 50, 51] (by decide +kernel) (by decide +kernel)
set_option maxRecDepth 20000 in
theorem gX9_bridge_X1_forget : GoodIn wsX9_bridge (wsV RX9 49 RX1 yX1_forget wsX1_forget) := goodIn_app (goodIn_of _ (by decide +kernel)) ggX9_bridge_X1_forget
theorem dX9_bridge_0 : decode cX9_bridge 0 = .ok (.aload_n 0, 1) := by decide +kernel
theorem dX9_bridge_1 : decode cX9_bridge 1 = .ok (.getfield 12, 3) := by decide +kernel
theorem dX9_bridge_4 : decode cX9_bridge 4 = .ok (.iload_n 1, 1) := by decide +kernel
theorem dX9_bridge_5 : decode cX9_bridge 5 = .ok (.invokevirtual 62, 3) := by decide +kernel
theorem dX9_bridge_8 : decode cX9_bridge 8 = .ok (.ifCond .eq 31, 3) := by decide +kernel
theorem dX9_bridge_11 : decode cX9_bridge 11 = .ok (.aload_n 0, 1) := by decide +kernel
theorem dX9_bridge_12 : decode cX9_bridge 12 = .ok (.getfield 12, 3) := by decide +kernel
theorem dX9_bridge_15 : decode cX9_bridge 15 = .ok (.getfield 65, 3) := by decide +kernel
theorem dX9_bridge_18 : decode cX9_bridge 18 = .ok (.bipush 6, 2) := by decide +kernel
theorem dX9_bridge_20 : decode cX9_bridge 20 = .ok (.if_icmp .ge 19, 3) := by decide +kernel
theorem dX9_bridge_23 : decode cX9_bridge 23 = .ok (.aload_n 0, 1) := by decide +kernel
theorem dX9_bridge_24 : decode cX9_bridge 24 = .ok (.getfield 12, 3) := by decide +kernel
theorem dX9_bridge_27 : decode cX9_bridge 27 = .ok (.getfield 52, 3) := by decide +kernel
theorem dX9_bridge_30 : decode cX9_bridge 30 = .ok (.iload_n 1, 1) := by decide +kernel
theorem dX9_bridge_31 : decode cX9_bridge 31 = .ok (.aaload, 1) := by decide +kernel
theorem dX9_bridge_32 : decode cX9_bridge 32 = .ok (.getfield 68, 3) := by decide +kernel
theorem dX9_bridge_35 : decode cX9_bridge 35 = .ok (.iconst (-1), 1) := by decide +kernel
theorem dX9_bridge_36 : decode cX9_bridge 36 = .ok (.if_icmp .eq 5, 3) := by decide +kernel
theorem dX9_bridge_39 : decode cX9_bridge 39 = .ok (.iconst (-1), 1) := by decide +kernel
theorem dX9_bridge_40 : decode cX9_bridge 40 = .ok (.ireturn, 1) := by decide +kernel
theorem dX9_bridge_41 : decode cX9_bridge 41 = .ok (.aload_n 0, 1) := by decide +kernel
theorem dX9_bridge_42 : decode cX9_bridge 42 = .ok (.getfield 21, 3) := by decide +kernel
theorem dX9_bridge_45 : decode cX9_bridge 45 = .ok (.invokevirtual 49, 3) := by decide +kernel
theorem dX9_bridge_48 : decode cX9_bridge 48 = .ok (.aload_n 0, 1) := by decide +kernel
theorem dX9_bridge_49 : decode cX9_bridge 49 = .ok (.getfield 12, 3) := by decide +kernel
theorem dX9_bridge_52 : decode cX9_bridge 52 = .ok (.getfield 52, 3) := by decide +kernel
theorem dX9_bridge_55 : decode cX9_bridge 55 = .ok (.iload_n 1, 1) := by decide +kernel
theorem dX9_bridge_56 : decode cX9_bridge 56 = .ok (.aaload, 1) := by decide +kernel
theorem dX9_bridge_57 : decode cX9_bridge 57 = .ok (.aload_n 0, 1) := by decide +kernel
theorem dX9_bridge_58 : decode cX9_bridge 58 = .ok (.getfield 12, 3) := by decide +kernel
theorem dX9_bridge_61 : decode cX9_bridge 61 = .ok (.getfield 65, 3) := by decide +kernel
theorem dX9_bridge_64 : decode cX9_bridge 64 = .ok (.putfield 68, 3) := by decide +kernel
theorem dX9_bridge_67 : decode cX9_bridge 67 = .ok (.aload_n 0, 1) := by decide +kernel
theorem dX9_bridge_68 : decode cX9_bridge 68 = .ok (.getfield 12, 3) := by decide +kernel
theorem dX9_bridge_71 : decode cX9_bridge 71 = .ok (.dup, 1) := by decide +kernel
theorem dX9_bridge_72 : decode cX9_bridge 72 = .ok (.getfield 65, 3) := by decide +kernel
theorem dX9_bridge_75 : decode cX9_bridge 75 = .ok (.dup_x1, 1) := by decide +kernel
theorem dX9_bridge_76 : decode cX9_bridge 76 = .ok (.iconst 1, 1) := by decide +kernel
theorem dX9_bridge_77 : decode cX9_bridge 77 = .ok (.iadd, 1) := by decide +kernel
theorem dX9_bridge_78 : decode cX9_bridge 78 = .ok (.putfield 65, 3) := by decide +kernel
theorem dX9_bridge_81 : decode cX9_bridge 81 = .ok (.ireturn, 1) := by decide +kernel
set_option maxRecDepth 20000 in
theorem ggX9_row_X3_hasBridge : GoodIn wsX9_row wsX3_hasBridge := goodIn_r _ [9, 10, 135, 136, 137, 138, 139, 140, 141] (by decide +kernel) (by decide +kernel)
set_option maxRecDepth 20000 in
theorem gX9_row_X3_hasBridge : GoodIn wsX9_row (wsV RX9 71 RX3 yX3_hasBridge wsX3_hasBridge) := goodIn_app (goodIn_of _ (by decide +kernel)) ggX9_row_X3_hasBridge
set_option maxRecDepth 20000 in
theorem ggX9_row_X0_canTakeCorner : GoodIn wsX9_row wsX0_canTakeCorner := goodIn_r _ [15, 16, 17, 18, 19, 20, 21, 142, 143, 144, 145, 146, 147, 148, 149] (by decide +kernel) (by decide +kernel)
set_option maxRecDepth 20000 in
theorem gX9_row_X0_canTakeCorner : GoodIn wsX9_row (wsV RX9 78 RX0 yX0_canTakeCorner wsX0_canTakeCorner) := goodIn_app (goodIn_of _ (by decide +kernel)) ggX9_row_X0_canTakeCorner
set_option maxRecDepth 20000 in
theorem ggX9_row_X9_isWithin : GoodIn wsX9_row wsX9_isWithin := goodIn_r _ [21] (by decide +kernel) (by decide +kernel)
set_option maxRecDepth 20000 in
theorem gX9_row_X9_isWithin : GoodIn wsX9_row (va_wsS RX9 42 yX9_isWithin wsX9_isWithin) := goodIn_app (goodIn_of _ (by decide +kernel)) ggX9_row_X9_isWithin
set_option maxRecDepth 20000 in
theorem ggX9_row_X1_forget : GoodIn wsX9_row wsX1_forget := goodIn_r _ [27, 28, 150, 151, 152, 153, 154, 155, 156, 157, 158, 159, 160, 161, 162, 163, 164] (by decide +kernel) (by decide +kernel)
set_option maxRecDepth 20000 in
theorem gX9_row_X1_forget : GoodIn wsX9_row (wsV RX9 49 RX1 yX1_forget wsX1_forget) := goodIn_app (goodIn_of _ (by decide +kernel)) ggX9_row_X1_forget
set_option maxRecDepth 20000 in
theorem ggX9_row_X0_addCorner : GoodIn wsX9_row wsX0_addCorner := goodIn_r _ [32, 16, 18, 33, 34, 142, 143, 144, 145, 146, 147, 148, 149] (by decide +kernel) (by decide +kernel)
set_option maxRecDepth 20000 in
theorem gX9_row_X0_addCorner : GoodIn wsX9_row (wsV RX9 88 RX0 yX0_addCorner wsX0_addCorner) := goodIn_app (goodIn_of _ (by decide +kernel)) ggX9_row_X0_addCorner
set_option maxRecDepth 20000 in
theorem ggX9_row_X3_rateBridge : GoodIn wsX9_row wsX3_rateBridge := goodIn_r _ [38, 39, 40, 41, 42, 43, 44, 45, 46, 47, 48, 49, 50, 51, 52, 53, 54, 55, 56, 57, 58, 59, 60, 61, 62, 63, 64, 65, 66, 67, 68, 69, 70, 71, 72, 73, 74, 75, 14, 76, 16, 18, 77, 78, 79, 80, 81, 82, 83, 84, 85, 86, 87, 88, 89, 90, 91, 92, 93, 94, 95, 96, 97, 98, 99, 100, 101, 102, 103, 104, 105, 106, 107, 108, 109, 110, 111, 112, 113, 114, 115, 116, 117, 118, 119, 120, 121, 122, 123, 124, 125, 126, 127, 128, 129, 130, 135, 136, 137, 138, 139, 140, 141, 142, 143, 144, 145, 146, 147, 148, 149, 165, 166, 167, 168, 169, 170, 171, 172, 173, 174, 175, 176, 177, 178, 179, 180] (by decide +kernel) (by decide +kernel)
set_option maxRecDepth 20000 in
theorem gX9_row_X3_rateBridge : GoodIn wsX9_row (wsV RX9 92 RX3 yX3_rateBridge wsX3_rateBridge) := goodIn_app (goodIn_of _ (by decide +kernel)) ggX9_row_X3_rateBridge
theorem dX9_row_0 : decode cX9_row 0 = .ok (.aload_n 0, 1) := by decide +kernel
theorem dX9_row_1 : decode cX9_row 1 = .ok (.getfield 12, 3) := by decide +kernel
theorem dX9_row_4 : decode cX9_row 4 = .ok (.iload_n 1, 1) := by decide +kernel
theorem dX9_row_5 : decode cX9_row 5 = .ok (.invokevirtual 71, 3) := by decide +kernel
theorem dX9_row_8 : decode cX9_row 8 = .ok (.ifCond .eq 19, 3) := by decide +kernel
theorem dX9_row_11 : decode cX9_row 11 = .ok (.aload_n 0, 1) := by decide +kernel
theorem dX9_row_12 : decode cX9_row 12 = .ok (.getfield 12, 3) := by decide +kernel
theorem dX9_row_15 : decode cX9_row 15 = .ok (.getfield 74, 3) := by decide +kernel
theorem dX9_row_18 : decode cX9_row 18 = .ok (.iload_n 1, 1) := by decide +kernel
theorem dX9_row_19 : decode cX9_row 19 = .ok (.aaload, 1) := by decide +kernel
theorem dX9_row_20 : decode cX9_row 20 = .ok (.lload_n 2, 1) := by decide +kernel
theorem dX9_row_21 : decode cX9_row 21 = .ok (.invokevirtual 78, 3) := by decide +kernel
theorem dX9_row_24 : decode cX9_row 24 = .ok (.ifCond .ne 5, 3) := by decide +kernel
theorem dX9_row_27 : decode cX9_row 27 = .ok (.iconst 0, 1) := by decide +kernel
theorem dX9_row_28 : decode cX9_row 28 = .ok (.ireturn, 1) := by decide +kernel
theorem dX9_row_29 : decode cX9_row 29 = .ok (.lload 4, 2) := by decide +kernel
theorem dX9_row_31 : decode cX9_row 31 = .ok (.ldc2_w 84, 3) := by decide +kernel
theorem dX9_row_34 : decode cX9_row 34 = .ok (.ldc2_w 86, 3) := by decide +kernel
theorem dX9_row_37 : decode cX9_row 37 = .ok (.invokestatic 42, 3) := by decide +kernel
theorem dX9_row_40 : decode cX9_row 40 = .ok (.ifCond .eq 15, 3) := by decide +kernel
theorem dX9_row_43 : decode cX9_row 43 = .ok (.lload 6, 2) := by decide +kernel
theorem dX9_row_45 : decode cX9_row 45 = .ok (.lconst 1, 1) := by decide +kernel
theorem dX9_row_46 : decode cX9_row 46 = .ok (.ldc2_w 86, 3) := by decide +kernel
theorem dX9_row_49 : decode cX9_row 49 = .ok (.invokestatic 42, 3) := by decide +kernel
theorem dX9_row_52 : decode cX9_row 52 = .ok (.ifCond .ne 5, 3) := by decide +kernel
theorem dX9_row_55 : decode cX9_row 55 = .ok (.iconst 0, 1) := by decide +kernel
theorem dX9_row_56 : decode cX9_row 56 = .ok (.ireturn, 1) := by decide +kernel
theorem dX9_row_57 : decode cX9_row 57 = .ok (.aload_n 0, 1) := by decide +kernel
theorem dX9_row_58 : decode cX9_row 58 = .ok (.getfield 21, 3) := by decide +kernel
theorem dX9_row_61 : decode cX9_row 61 = .ok (.invokevirtual 49, 3) := by decide +kernel
theorem dX9_row_64 : decode cX9_row 64 = .ok (.aload_n 0, 1) := by decide +kernel
theorem dX9_row_65 : decode cX9_row 65 = .ok (.getfield 12, 3) := by decide +kernel
theorem dX9_row_68 : decode cX9_row 68 = .ok (.getfield 74, 3) := by decide +kernel
theorem dX9_row_71 : decode cX9_row 71 = .ok (.iload_n 1, 1) := by decide +kernel
theorem dX9_row_72 : decode cX9_row 72 = .ok (.aaload, 1) := by decide +kernel
theorem dX9_row_73 : decode cX9_row 73 = .ok (.lload_n 2, 1) := by decide +kernel
theorem dX9_row_74 : decode cX9_row 74 = .ok (.lload 4, 2) := by decide +kernel
theorem dX9_row_76 : decode cX9_row 76 = .ok (.lload 6, 2) := by decide +kernel
theorem dX9_row_78 : decode cX9_row 78 = .ok (.invokevirtual 88, 3) := by decide +kernel
theorem dX9_row_81 : decode cX9_row 81 = .ok (.aload_n 0, 1) := by decide +kernel
theorem dX9_row_82 : decode cX9_row 82 = .ok (.getfield 12, 3) := by decide +kernel
theorem dX9_row_85 : decode cX9_row 85 = .ok (.iload_n 1, 1) := by decide +kernel
theorem dX9_row_86 : decode cX9_row 86 = .ok (.invokevirtual 92, 3) := by decide +kernel
theorem dX9_row_89 : decode cX9_row 89 = .ok (.iconst 1, 1) := by decide +kernel
theorem dX9_row_90 : decode cX9_row 90 = .ok (.ireturn, 1) := by decide +kernel
set_option maxRecDepth 20000 in
theorem ggX9_axle_X2_canTakeAxle : GoodIn wsX9_axle wsX2_canTakeAxle := goodIn_r _ [8, 9, 10, 11, 12, 13, 143, 144, 145, 146, 147] (by decide +kernel) (by decide +kernel)
set_option maxRecDepth 20000 in
theorem gX9_axle_X2_canTakeAxle : GoodIn wsX9_axle (wsV RX9 100 RX2 yX2_canTakeAxle wsX2_canTakeAxle) := goodIn_app (goodIn_of _ (by decide +kernel)) ggX9_axle_X2_canTakeAxle
set_option maxRecDepth 20000 in
theorem ggX9_axle_X9_isWithin : GoodIn wsX9_axle wsX9_isWithin := goodIn_r _ [13] (by decide +kernel) (by decide +kernel)
set_option maxRecDepth 20000 in
theorem gX9_axle_X9_isWithin : GoodIn wsX9_axle (va_wsS RX9 42 yX9_isWithin wsX9_isWithin) := goodIn_app (goodIn_of _ (by decide +kernel)) ggX9_axle_X9_isWithin
set_option maxRecDepth 20000 in
theorem ggX9_axle_X1_forget : GoodIn wsX9_axle wsX1_forget := goodIn_r _ [19, 20, 148, 149, 150, 151, 152, 153, 154, 155, 156, 157, 158, 159, 160, 161, 162] (by decide +kernel) (by decide +kernel)
set_option maxRecDepth 20000 in
theorem gX9_axle_X1_forget : GoodIn wsX9_axle (wsV RX9 49 RX1 yX1_forget wsX1_forget) := goodIn_app (goodIn_of _ (by decide +kernel)) ggX9_axle_X1_forget
set_option maxRecDepth 20000 in
theorem ggX9_axle_X2_addAxle : GoodIn wsX9_axle wsX2_addAxle := goodIn_r _ [24, 9, 25, 26, 143, 144, 145, 146, 147] (by decide +kernel) (by decide +kernel)
set_option maxRecDepth 20000 in
theorem gX9_axle_X2_addAxle : GoodIn wsX9_axle (wsV RX9 105 RX2 yX2_addAxle wsX2_addAxle) := goodIn_app (goodIn_of _ (by decide +kernel)) ggX9_axle_X2_addAxle
set_option maxRecDepth 20000 in
theorem ggX9_axle_X3_rateAllBridges : GoodIn wsX9_axle wsX3_rateAllBridges := goodIn_r _ [31, 32, 33, 34, 35, 30, 36, 37, 38, 39, 40, 41, 42, 43, 44, 45, 46, 47, 48, 49, 50, 51, 52, 53, 54, 55, 56, 57, 58, 59, 60, 61, 62, 63, 64, 65, 66, 67, 68, 69, 70, 71, 72, 73, 74, 75, 76, 77, 78, 79, 80, 81, 82, 83, 84, 85, 86, 87, 88, 89, 90, 91, 92, 93, 94, 95, 96, 97, 98, 99, 100, 101, 102, 103, 104, 105, 106, 107, 108, 109, 110, 111, 112, 113, 114, 115, 116, 117, 118, 119, 120, 121, 122, 123, 124, 125, 126, 127, 128, 129, 130, 131, 136, 137, 138, 139, 140, 141, 142, 163, 164, 165, 166, 167, 168, 169, 170, 171, 172, 143, 144, 145, 146, 147, 173, 174, 175, 176, 177, 178, 179, 180, 181] (by decide +kernel) (by decide +kernel)
set_option maxRecDepth 20000 in
theorem gX9_axle_X3_rateAllBridges : GoodIn wsX9_axle (wsV RX9 109 RX3 yX3_rateAllBridges wsX3_rateAllBridges) := goodIn_app (goodIn_of _ (by decide +kernel)) ggX9_axle_X3_rateAllBridges
theorem dX9_axle_0 : decode cX9_axle 0 = .ok (.aload_n 0, 1) := by decide +kernel
theorem dX9_axle_1 : decode cX9_axle 1 = .ok (.getfield 12, 3) := by decide +kernel
theorem dX9_axle_4 : decode cX9_axle 4 = .ok (.getfield 96, 3) := by decide +kernel
theorem dX9_axle_7 : decode cX9_axle 7 = .ok (.lload_n 1, 1) := by decide +kernel
theorem dX9_axle_8 : decode cX9_axle 8 = .ok (.invokevirtual 100, 3) := by decide +kernel
theorem dX9_axle_11 : decode cX9_axle 11 = .ok (.ifCond .eq 14, 3) := by decide +kernel
theorem dX9_axle_14 : decode cX9_axle 14 = .ok (.lload_n 3, 1) := by decide +kernel
theorem dX9_axle_15 : decode cX9_axle 15 = .ok (.lconst 0, 1) := by decide +kernel
theorem dX9_axle_16 : decode cX9_axle 16 = .ok (.ldc2_w 86, 3) := by decide +kernel
theorem dX9_axle_19 : decode cX9_axle 19 = .ok (.invokestatic 42, 3) := by decide +kernel
theorem dX9_axle_22 : decode cX9_axle 22 = .ok (.ifCond .ne 5, 3) := by decide +kernel
theorem dX9_axle_25 : decode cX9_axle 25 = .ok (.iconst 0, 1) := by decide +kernel
theorem dX9_axle_26 : decode cX9_axle 26 = .ok (.ireturn, 1) := by decide +kernel
theorem dX9_axle_27 : decode cX9_axle 27 = .ok (.aload_n 0, 1) := by decide +kernel
theorem dX9_axle_28 : decode cX9_axle 28 = .ok (.getfield 21, 3) := by decide +kernel
theorem dX9_axle_31 : decode cX9_axle 31 = .ok (.invokevirtual 49, 3) := by decide +kernel
theorem dX9_axle_34 : decode cX9_axle 34 = .ok (.aload_n 0, 1) := by decide +kernel
theorem dX9_axle_35 : decode cX9_axle 35 = .ok (.getfield 12, 3) := by decide +kernel
theorem dX9_axle_38 : decode cX9_axle 38 = .ok (.getfield 96, 3) := by decide +kernel
theorem dX9_axle_41 : decode cX9_axle 41 = .ok (.lload_n 1, 1) := by decide +kernel
theorem dX9_axle_42 : decode cX9_axle 42 = .ok (.lload_n 3, 1) := by decide +kernel
theorem dX9_axle_43 : decode cX9_axle 43 = .ok (.invokevirtual 105, 3) := by decide +kernel
theorem dX9_axle_46 : decode cX9_axle 46 = .ok (.aload_n 0, 1) := by decide +kernel
theorem dX9_axle_47 : decode cX9_axle 47 = .ok (.getfield 12, 3) := by decide +kernel
theorem dX9_axle_50 : decode cX9_axle 50 = .ok (.invokevirtual 109, 3) := by decide +kernel
theorem dX9_axle_53 : decode cX9_axle 53 = .ok (.iconst 1, 1) := by decide +kernel
theorem dX9_axle_54 : decode cX9_axle 54 = .ok (.ireturn, 1) := by decide +kernel
set_option maxRecDepth 20000 in
theorem ggX9_size_X9_isSize : GoodIn wsX9_size wsX9_isSize := goodIn_r _ [7, 8, 9, 10, 6, 11] (by decide +kernel) (by decide +kernel)
set_option maxRecDepth 20000 in
theorem gX9_size_X9_isSize : GoodIn wsX9_size (va_wsS RX9 46 yX9_isSize wsX9_isSize) := goodIn_app (goodIn_of _ (by decide +kernel)) ggX9_size_X9_isSize
set_option maxRecDepth 20000 in
theorem ggX9_size_X9_isWithin : GoodIn wsX9_size wsX9_isWithin := goodIn_r _ [11] (by decide +kernel) (by decide +kernel)
set_option maxRecDepth 20000 in
theorem gX9_size_X9_isWithin : GoodIn wsX9_size (va_wsS RX9 42 yX9_isWithin wsX9_isWithin) := goodIn_app (goodIn_of _ (by decide +kernel)) ggX9_size_X9_isWithin
set_option maxRecDepth 20000 in
theorem ggX9_size_X1_forget : GoodIn wsX9_size wsX1_forget := goodIn_r _ [16, 17, 34, 35, 36, 37, 38, 39, 40, 41, 42, 43, 44, 45, 46, 47, 48] (by decide +kernel) (by decide +kernel)
set_option maxRecDepth 20000 in
theorem gX9_size_X1_forget : GoodIn wsX9_size (wsV RX9 49 RX1 yX1_forget wsX1_forget) := goodIn_app (goodIn_of _ (by decide +kernel)) ggX9_size_X1_forget
theorem dX9_size_0 : decode cX9_size 0 = .ok (.iload_n 1, 1) := by decide +kernel
theorem dX9_size_1 : decode cX9_size 1 = .ok (.invokestatic 46, 3) := by decide +kernel
theorem dX9_size_4 : decode cX9_size 4 = .ok (.ifCond .eq 22, 3) := by decide +kernel
theorem dX9_size_7 : decode cX9_size 7 = .ok (.iload_n 2, 1) := by decide +kernel
theorem dX9_size_8 : decode cX9_size 8 = .ok (.invokestatic 46, 3) := by decide +kernel
theorem dX9_size_11 : decode cX9_size 11 = .ok (.ifCond .eq 15, 3) := by decide +kernel
theorem dX9_size_14 : decode cX9_size 14 = .ok (.iload_n 3, 1) := by decide +kernel
theorem dX9_size_15 : decode cX9_size 15 = .ok (.i2l, 1) := by decide +kernel
theorem dX9_size_16 : decode cX9_size 16 = .ok (.lconst 1, 1) := by decide +kernel
theorem dX9_size_17 : decode cX9_size 17 = .ok (.ldc2_w 112, 3) := by decide +kernel
theorem dX9_size_20 : decode cX9_size 20 = .ok (.invokestatic 42, 3) := by decide +kernel
theorem dX9_size_23 : decode cX9_size 23 = .ok (.ifCond .ne 5, 3) := by decide +kernel
theorem dX9_size_26 : decode cX9_size 26 = .ok (.iconst 0, 1) := by decide +kernel
theorem dX9_size_27 : decode cX9_size 27 = .ok (.ireturn, 1) := by decide +kernel
theorem dX9_size_28 : decode cX9_size 28 = .ok (.aload_n 0, 1) := by decide +kernel
theorem dX9_size_29 : decode cX9_size 29 = .ok (.getfield 21, 3) := by decide +kernel
theorem dX9_size_32 : decode cX9_size 32 = .ok (.invokevirtual 49, 3) := by decide +kernel
theorem dX9_size_35 : decode cX9_size 35 = .ok (.aload_n 0, 1) := by decide +kernel
theorem dX9_size_36 : decode cX9_size 36 = .ok (.getfield 12, 3) := by decide +kernel
theorem dX9_size_39 : decode cX9_size 39 = .ok (.getfield 96, 3) := by decide +kernel
theorem dX9_size_42 : decode cX9_size 42 = .ok (.iload_n 1, 1) := by decide +kernel
theorem dX9_size_43 : decode cX9_size 43 = .ok (.putfield 114, 3) := by decide +kernel
theorem dX9_size_46 : decode cX9_size 46 = .ok (.aload_n 0, 1) := by decide +kernel
theorem dX9_size_47 : decode cX9_size 47 = .ok (.getfield 12, 3) := by decide +kernel
theorem dX9_size_50 : decode cX9_size 50 = .ok (.getfield 96, 3) := by decide +kernel
theorem dX9_size_53 : decode cX9_size 53 = .ok (.iload_n 2, 1) := by decide +kernel
theorem dX9_size_54 : decode cX9_size 54 = .ok (.putfield 117, 3) := by decide +kernel
theorem dX9_size_57 : decode cX9_size 57 = .ok (.iconst 1, 1) := by decide +kernel
theorem dX9_size_58 : decode cX9_size 58 = .ok (.ireturn, 1) := by decide +kernel
set_option maxRecDepth 20000 in
theorem ggX9_turn_X3_hasRoad : GoodIn wsX9_turn wsX3_hasRoad := goodIn_r _ [7, 8, 35, 36, 37, 38, 39, 40, 41] (by decide +kernel) (by decide +kernel)
set_option maxRecDepth 20000 in
theorem gX9_turn_X3_hasRoad : GoodIn wsX9_turn (wsV RX9 62 RX3 yX3_hasRoad wsX3_hasRoad) := goodIn_app (goodIn_of _ (by decide +kernel)) ggX9_turn_X3_hasRoad
set_option maxRecDepth 20000 in
theorem ggX9_turn_X6_meets : GoodIn wsX9_turn wsX6_meets := goodIn_r _ [13, 14, 15, 16, 17, 18, 12, 19, 42, 43, 44, 45, 46, 47, 48, 49, 50, 51, 52] (by decide +kernel) (by decide +kernel)
set_option maxRecDepth 20000 in
theorem gX9_turn_X6_meets : GoodIn wsX9_turn (wsV RX9 120 RX6 yX6_meets wsX6_meets) := goodIn_app (goodIn_of _ (by decide +kernel)) ggX9_turn_X6_meets
set_option maxRecDepth 20000 in
theorem ggX9_turn_X1_forget : GoodIn wsX9_turn wsX1_forget := goodIn_r _ [24, 25, 53, 54, 55, 56, 57, 58, 59, 60, 61, 62, 63, 64, 65, 66, 67] (by decide +kernel) (by decide +kernel)
set_option maxRecDepth 20000 in
theorem gX9_turn_X1_forget : GoodIn wsX9_turn (wsV RX9 49 RX1 yX1_forget wsX1_forget) := goodIn_app (goodIn_of _ (by decide +kernel)) ggX9_turn_X1_forget
set_option maxRecDepth 20000 in
theorem ggX9_turn_X6_setTurn : GoodIn wsX9_turn wsX6_setTurn := goodIn_r _ [29, 30, 42, 43, 44, 45, 46, 47, 48, 49, 50, 51, 52] (by decide +kernel) (by decide +kernel)
set_option maxRecDepth 20000 in
theorem gX9_turn_X6_setTurn : GoodIn wsX9_turn (wsV RX9 124 RX6 yX6_setTurn wsX6_setTurn) := goodIn_app (goodIn_of _ (by decide +kernel)) ggX9_turn_X6_setTurn
theorem dX9_turn_0 : decode cX9_turn 0 = .ok (.aload_n 0, 1) := by decide +kernel
theorem dX9_turn_1 : decode cX9_turn 1 = .ok (.getfield 12, 3) := by decide +kernel
theorem dX9_turn_4 : decode cX9_turn 4 = .ok (.iload_n 1, 1) := by decide +kernel
theorem dX9_turn_5 : decode cX9_turn 5 = .ok (.invokevirtual 62, 3) := by decide +kernel
theorem dX9_turn_8 : decode cX9_turn 8 = .ok (.ifCond .eq 19, 3) := by decide +kernel
theorem dX9_turn_11 : decode cX9_turn 11 = .ok (.aload_n 0, 1) := by decide +kernel
theorem dX9_turn_12 : decode cX9_turn 12 = .ok (.getfield 12, 3) := by decide +kernel
theorem dX9_turn_15 : decode cX9_turn 15 = .ok (.iload_n 2, 1) := by decide +kernel
theorem dX9_turn_16 : decode cX9_turn 16 = .ok (.invokevirtual 62, 3) := by decide +kernel
theorem dX9_turn_19 : decode cX9_turn 19 = .ok (.ifCond .eq 8, 3) := by decide +kernel
theorem dX9_turn_22 : decode cX9_turn 22 = .ok (.iload_n 1, 1) := by decide +kernel
theorem dX9_turn_23 : decode cX9_turn 23 = .ok (.iload_n 2, 1) := by decide +kernel
theorem dX9_turn_24 : decode cX9_turn 24 = .ok (.if_icmp .ne 5, 3) := by decide +kernel
theorem dX9_turn_27 : decode cX9_turn 27 = .ok (.iconst 0, 1) := by decide +kernel
theorem dX9_turn_28 : decode cX9_turn 28 = .ok (.ireturn, 1) := by decide +kernel
theorem dX9_turn_29 : decode cX9_turn 29 = .ok (.aload_n 0, 1) := by decide +kernel
theorem dX9_turn_30 : decode cX9_turn 30 = .ok (.getfield 12, 3) := by decide +kernel
theorem dX9_turn_33 : decode cX9_turn 33 = .ok (.getfield 52, 3) := by decide +kernel
theorem dX9_turn_36 : decode cX9_turn 36 = .ok (.iload_n 1, 1) := by decide +kernel
theorem dX9_turn_37 : decode cX9_turn 37 = .ok (.aaload, 1) := by decide +kernel
theorem dX9_turn_38 : decode cX9_turn 38 = .ok (.aload_n 0, 1) := by decide +kernel
theorem dX9_turn_39 : decode cX9_turn 39 = .ok (.getfield 12, 3) := by decide +kernel
theorem dX9_turn_42 : decode cX9_turn 42 = .ok (.getfield 52, 3) := by decide +kernel
theorem dX9_turn_45 : decode cX9_turn 45 = .ok (.iload_n 2, 1) := by decide +kernel
theorem dX9_turn_46 : decode cX9_turn 46 = .ok (.aaload, 1) := by decide +kernel
theorem dX9_turn_47 : decode cX9_turn 47 = .ok (.invokevirtual 120, 3) := by decide +kernel
theorem dX9_turn_50 : decode cX9_turn 50 = .ok (.ifCond .ne 5, 3) := by decide +kernel
theorem dX9_turn_53 : decode cX9_turn 53 = .ok (.iconst 0, 1) := by decide +kernel
theorem dX9_turn_54 : decode cX9_turn 54 = .ok (.ireturn, 1) := by decide +kernel
theorem dX9_turn_55 : decode cX9_turn 55 = .ok (.aload_n 0, 1) := by decide +kernel
theorem dX9_turn_56 : decode cX9_turn 56 = .ok (.getfield 21, 3) := by decide +kernel
theorem dX9_turn_59 : decode cX9_turn 59 = .ok (.invokevirtual 49, 3) := by decide +kernel
theorem dX9_turn_62 : decode cX9_turn 62 = .ok (.aload_n 0, 1) := by decide +kernel
theorem dX9_turn_63 : decode cX9_turn 63 = .ok (.getfield 12, 3) := by decide +kernel
theorem dX9_turn_66 : decode cX9_turn 66 = .ok (.getfield 52, 3) := by decide +kernel
theorem dX9_turn_69 : decode cX9_turn 69 = .ok (.iload_n 1, 1) := by decide +kernel
theorem dX9_turn_70 : decode cX9_turn 70 = .ok (.aaload, 1) := by decide +kernel
theorem dX9_turn_71 : decode cX9_turn 71 = .ok (.iload_n 2, 1) := by decide +kernel
theorem dX9_turn_72 : decode cX9_turn 72 = .ok (.iload_n 3, 1) := by decide +kernel
theorem dX9_turn_73 : decode cX9_turn 73 = .ok (.invokevirtual 124, 3) := by decide +kernel
theorem dX9_turn_76 : decode cX9_turn 76 = .ok (.iconst 1, 1) := by decide +kernel
theorem dX9_turn_77 : decode cX9_turn 77 = .ok (.ireturn, 1) := by decide +kernel
set_option maxRecDepth 20000 in
theorem ggX9_hours_X3_hasRoad : GoodIn wsX9_hours wsX3_hasRoad := goodIn_r _ [8, 9, 32, 33, 34, 35, 36, 37, 38] (by decide +kernel) (by decide +kernel)
set_option maxRecDepth 20000 in
theorem gX9_hours_X3_hasRoad : GoodIn wsX9_hours (wsV RX9 62 RX3 yX3_hasRoad wsX3_hasRoad) := goodIn_app (goodIn_of _ (by decide +kernel)) ggX9_hours_X3_hasRoad
set_option maxRecDepth 20000 in
theorem ggX9_hours_X9_isWithin : GoodIn wsX9_hours wsX9_isWithin := goodIn_r _ [13] (by decide +kernel) (by decide +kernel)
set_option maxRecDepth 20000 in
theorem gX9_hours_X9_isWithin : GoodIn wsX9_hours (va_wsS RX9 42 yX9_isWithin wsX9_isWithin) := goodIn_app (goodIn_of _ (by decide +kernel)) ggX9_hours_X9_isWithin
set_option maxRecDepth 20000 in
theorem ggX9_hours_X1_forget : GoodIn wsX9_hours wsX1_forget := goodIn_r _ [18, 19, 50, 51, 52, 53, 54, 55, 56, 57, 58, 59, 60, 61, 62, 63, 64] (by decide +kernel) (by decide +kernel)
set_option maxRecDepth 20000 in
theorem gX9_hours_X1_forget : GoodIn wsX9_hours (wsV RX9 49 RX1 yX1_forget wsX1_forget) := goodIn_app (goodIn_of _ (by decide +kernel)) ggX9_hours_X1_forget
set_option maxRecDepth 20000 in
theorem ggX9_hours_X6_addBar : GoodIn wsX9_hours wsX6_addBar := goodIn_r _ [24, 25, 26, 27, 39, 40, 41, 42, 43, 44, 45, 46, 47, 48, 49] (by decide +kernel) (by decide +kernel)
set_option maxRecDepth 20000 in
theorem gX9_hours_X6_addBar : GoodIn wsX9_hours (wsV RX9 133 RX6 yX6_addBar wsX6_addBar) := goodIn_app (goodIn_of _ (by decide +kernel)) ggX9_hours_X6_addBar
theorem dX9_hours_0 : decode cX9_hours 0 = .ok (.aload_n 0, 1) := by decide +kernel
theorem dX9_hours_1 : decode cX9_hours 1 = .ok (.getfield 12, 3) := by decide +kernel
theorem dX9_hours_4 : decode cX9_hours 4 = .ok (.iload_n 1, 1) := by decide +kernel
theorem dX9_hours_5 : decode cX9_hours 5 = .ok (.invokevirtual 62, 3) := by decide +kernel
theorem dX9_hours_8 : decode cX9_hours 8 = .ok (.ifCond .eq 19, 3) := by decide +kernel
theorem dX9_hours_11 : decode cX9_hours 11 = .ok (.aload_n 0, 1) := by decide +kernel
theorem dX9_hours_12 : decode cX9_hours 12 = .ok (.getfield 12, 3) := by decide +kernel
theorem dX9_hours_15 : decode cX9_hours 15 = .ok (.getfield 52, 3) := by decide +kernel
theorem dX9_hours_18 : decode cX9_hours 18 = .ok (.iload_n 1, 1) := by decide +kernel
theorem dX9_hours_19 : decode cX9_hours 19 = .ok (.aaload, 1) := by decide +kernel
theorem dX9_hours_20 : decode cX9_hours 20 = .ok (.getfield 128, 3) := by decide +kernel
theorem dX9_hours_23 : decode cX9_hours 23 = .ok (.iconst 3, 1) := by decide +kernel
theorem dX9_hours_24 : decode cX9_hours 24 = .ok (.if_icmp .lt 5, 3) := by decide +kernel
theorem dX9_hours_27 : decode cX9_hours 27 = .ok (.iconst 0, 1) := by decide +kernel
theorem dX9_hours_28 : decode cX9_hours 28 = .ok (.ireturn, 1) := by decide +kernel
theorem dX9_hours_29 : decode cX9_hours 29 = .ok (.iload_n 2, 1) := by decide +kernel
theorem dX9_hours_30 : decode cX9_hours 30 = .ok (.i2l, 1) := by decide +kernel
theorem dX9_hours_31 : decode cX9_hours 31 = .ok (.lconst 0, 1) := by decide +kernel
theorem dX9_hours_32 : decode cX9_hours 32 = .ok (.ldc2_w 131, 3) := by decide +kernel
theorem dX9_hours_35 : decode cX9_hours 35 = .ok (.invokestatic 42, 3) := by decide +kernel
theorem dX9_hours_38 : decode cX9_hours 38 = .ok (.ifCond .eq 15, 3) := by decide +kernel
theorem dX9_hours_41 : decode cX9_hours 41 = .ok (.iload_n 3, 1) := by decide +kernel
theorem dX9_hours_42 : decode cX9_hours 42 = .ok (.i2l, 1) := by decide +kernel
theorem dX9_hours_43 : decode cX9_hours 43 = .ok (.lconst 0, 1) := by decide +kernel
theorem dX9_hours_44 : decode cX9_hours 44 = .ok (.ldc2_w 131, 3) := by decide +kernel
theorem dX9_hours_47 : decode cX9_hours 47 = .ok (.invokestatic 42, 3) := by decide +kernel
theorem dX9_hours_50 : decode cX9_hours 50 = .ok (.ifCond .ne 5, 3) := by decide +kernel
theorem dX9_hours_53 : decode cX9_hours 53 = .ok (.iconst 0, 1) := by decide +kernel
theorem dX9_hours_54 : decode cX9_hours 54 = .ok (.ireturn, 1) := by decide +kernel
theorem dX9_hours_55 : decode cX9_hours 55 = .ok (.aload_n 0, 1) := by decide +kernel
theorem dX9_hours_56 : decode cX9_hours 56 = .ok (.getfield 21, 3) := by decide +kernel
theorem dX9_hours_59 : decode cX9_hours 59 = .ok (.invokevirtual 49, 3) := by decide +kernel
theorem dX9_hours_62 : decode cX9_hours 62 = .ok (.aload_n 0, 1) := by decide +kernel
theorem dX9_hours_63 : decode cX9_hours 63 = .ok (.getfield 12, 3) := by decide +kernel
theorem dX9_hours_66 : decode cX9_hours 66 = .ok (.getfield 52, 3) := by decide +kernel
theorem dX9_hours_69 : decode cX9_hours 69 = .ok (.iload_n 1, 1) := by decide +kernel
theorem dX9_hours_70 : decode cX9_hours 70 = .ok (.aaload, 1) := by decide +kernel
theorem dX9_hours_71 : decode cX9_hours 71 = .ok (.iload_n 2, 1) := by decide +kernel
theorem dX9_hours_72 : decode cX9_hours 72 = .ok (.iload_n 3, 1) := by decide +kernel
theorem dX9_hours_73 : decode cX9_hours 73 = .ok (.invokevirtual 133, 3) := by decide +kernel
theorem dX9_hours_76 : decode cX9_hours 76 = .ok (.iconst 1, 1) := by decide +kernel
theorem dX9_hours_77 : decode cX9_hours 77 = .ok (.ireturn, 1) := by decide +kernel
set_option maxRecDepth 20000 in
theorem ggX9_rating_X3_hasBridge : GoodIn wsX9_rating wsX3_hasBridge := goodIn_r _ [7, 8, 24, 25, 26, 27, 28, 29, 30] (by decide +kernel) (by decide +kernel)
set_option maxRecDepth 20000 in
theorem gX9_rating_X3_hasBridge : GoodIn wsX9_rating (wsV RX9 71 RX3 yX3_hasBridge wsX3_hasBridge) := goodIn_app (goodIn_of _ (by decide +kernel)) ggX9_rating_X3_hasBridge
set_option maxRecDepth 20000 in
theorem ggX9_rating_X9_isWithin : GoodIn wsX9_rating wsX9_isWithin := goodIn_r _ [12] (by decide +kernel) (by decide +kernel)
set_option maxRecDepth 20000 in
theorem gX9_rating_X9_isWithin : GoodIn wsX9_rating (va_wsS RX9 42 yX9_isWithin wsX9_isWithin) := goodIn_app (goodIn_of _ (by decide +kernel)) ggX9_rating_X9_isWithin
set_option maxRecDepth 20000 in
theorem ggX9_rating_X8_lowestEighteenDigits : GoodIn wsX9_rating wsX8_lowestEighteenDigits := goodIn_r _ [17, 18, 19, 41] (by decide +kernel) (by decide +kernel)
set_option maxRecDepth 20000 in
theorem gX9_rating_X8_lowestEighteenDigits : GoodIn wsX9_rating (wsV RX9 149 RX8 yX8_lowestEighteenDigits wsX8_lowestEighteenDigits) := goodIn_app (goodIn_of _ (by decide +kernel)) ggX9_rating_X8_lowestEighteenDigits
theorem dX9_rating_0 : decode cX9_rating 0 = .ok (.aload_n 0, 1) := by decide +kernel
theorem dX9_rating_1 : decode cX9_rating 1 = .ok (.getfield 12, 3) := by decide +kernel
theorem dX9_rating_4 : decode cX9_rating 4 = .ok (.iload_n 1, 1) := by decide +kernel
theorem dX9_rating_5 : decode cX9_rating 5 = .ok (.invokevirtual 71, 3) := by decide +kernel
theorem dX9_rating_8 : decode cX9_rating 8 = .ok (.ifCond .eq 13, 3) := by decide +kernel
theorem dX9_rating_11 : decode cX9_rating 11 = .ok (.iload_n 2, 1) := by decide +kernel
theorem dX9_rating_12 : decode cX9_rating 12 = .ok (.i2l, 1) := by decide +kernel
theorem dX9_rating_13 : decode cX9_rating 13 = .ok (.lconst 0, 1) := by decide +kernel
theorem dX9_rating_14 : decode cX9_rating 14 = .ok (.lconst 1, 1) := by decide +kernel
theorem dX9_rating_15 : decode cX9_rating 15 = .ok (.invokestatic 42, 3) := by decide +kernel
theorem dX9_rating_18 : decode cX9_rating 18 = .ok (.ifCond .ne 7, 3) := by decide +kernel
theorem dX9_rating_21 : decode cX9_rating 21 = .ok (.ldc2_w 137, 3) := by decide +kernel
theorem dX9_rating_24 : decode cX9_rating 24 = .ok (.lreturn, 1) := by decide +kernel
theorem dX9_rating_25 : decode cX9_rating 25 = .ok (.aload_n 0, 1) := by decide +kernel
theorem dX9_rating_26 : decode cX9_rating 26 = .ok (.getfield 12, 3) := by decide +kernel
theorem dX9_rating_29 : decode cX9_rating 29 = .ok (.getfield 74, 3) := by decide +kernel
theorem dX9_rating_32 : decode cX9_rating 32 = .ok (.iload_n 1, 1) := by decide +kernel
theorem dX9_rating_33 : decode cX9_rating 33 = .ok (.aaload, 1) := by decide +kernel
theorem dX9_rating_34 : decode cX9_rating 34 = .ok (.getfield 139, 3) := by decide +kernel
theorem dX9_rating_37 : decode cX9_rating 37 = .ok (.astore_n 3, 1) := by decide +kernel
theorem dX9_rating_38 : decode cX9_rating 38 = .ok (.iload_n 2, 1) := by decide +kernel
theorem dX9_rating_39 : decode cX9_rating 39 = .ok (.ifCond .ne 13, 3) := by decide +kernel
theorem dX9_rating_42 : decode cX9_rating 42 = .ok (.aload_n 3, 1) := by decide +kernel
theorem dX9_rating_43 : decode cX9_rating 43 = .ok (.getfield 143, 3) := by decide +kernel
theorem dX9_rating_46 : decode cX9_rating 46 = .ok (.invokevirtual 149, 3) := by decide +kernel
theorem dX9_rating_49 : decode cX9_rating 49 = .ok (.goto 10, 3) := by decide +kernel
theorem dX9_rating_52 : decode cX9_rating 52 = .ok (.aload_n 3, 1) := by decide +kernel
theorem dX9_rating_53 : decode cX9_rating 53 = .ok (.getfield 155, 3) := by decide +kernel
theorem dX9_rating_56 : decode cX9_rating 56 = .ok (.invokevirtual 149, 3) := by decide +kernel
theorem dX9_rating_59 : decode cX9_rating 59 = .ok (.lreturn, 1) := by decide +kernel
set_option maxRecDepth 20000 in
theorem ggX9_kept_X3_hasBridge : GoodIn wsX9_kept wsX3_hasBridge := goodIn_r _ [6, 7, 118, 119, 120, 121, 122, 123, 124] (by decide +kernel) (by decide +kernel)
set_option maxRecDepth 20000 in
theorem gX9_kept_X3_hasBridge : GoodIn wsX9_kept (wsV RX9 71 RX3 yX3_hasBridge wsX3_hasBridge) := goodIn_app (goodIn_of _ (by decide +kernel)) ggX9_kept_X3_hasBridge
set_option maxRecDepth 20000 in
theorem ggX9_kept_X3_isKeptRatingTrue : GoodIn wsX9_kept wsX3_isKeptRatingTrue := goodIn_r _ [11, 12, 13, 14, 15, 16, 17, 18, 19, 20, 21, 22, 23, 24, 25, 26, 27, 28, 29, 30, 31, 32, 33, 34, 35, 36, 37, 38, 39, 40, 41, 42, 43, 44, 45, 46, 47, 48, 49, 50, 51, 52, 53, 54, 55, 56, 57, 58, 59, 60, 61, 62, 63, 64, 65, 66, 67, 68, 69, 70, 71, 72, 73, 74, 75, 76, 77, 78, 79, 80, 81, 82, 83, 84, 85, 86, 87, 88, 89, 90, 91, 92, 93, 94, 95, 96, 97, 98, 99, 100, 101, 102, 103, 104, 105, 106, 107, 108, 109, 110, 111, 112, 113, 118, 119, 120, 121, 122, 123, 124, 125, 126, 127, 128, 129, 130, 131, 132, 133, 134, 135, 136, 137, 138, 139, 140, 141, 142, 143, 144, 145, 146, 147, 148] (by decide +kernel) (by decide +kernel)
set_option maxRecDepth 20000 in
theorem gX9_kept_X3_isKeptRatingTrue : GoodIn wsX9_kept (wsV RX9 158 RX3 yX3_isKeptRatingTrue wsX3_isKeptRatingTrue) := goodIn_app (goodIn_of _ (by decide +kernel)) ggX9_kept_X3_isKeptRatingTrue
theorem dX9_kept_0 : decode cX9_kept 0 = .ok (.aload_n 0, 1) := by decide +kernel
theorem dX9_kept_1 : decode cX9_kept 1 = .ok (.getfield 12, 3) := by decide +kernel
theorem dX9_kept_4 : decode cX9_kept 4 = .ok (.iload_n 1, 1) := by decide +kernel
theorem dX9_kept_5 : decode cX9_kept 5 = .ok (.invokevirtual 71, 3) := by decide +kernel
theorem dX9_kept_8 : decode cX9_kept 8 = .ok (.ifCond .eq 18, 3) := by decide +kernel
theorem dX9_kept_11 : decode cX9_kept 11 = .ok (.aload_n 0, 1) := by decide +kernel
theorem dX9_kept_12 : decode cX9_kept 12 = .ok (.getfield 12, 3) := by decide +kernel
theorem dX9_kept_15 : decode cX9_kept 15 = .ok (.iload_n 1, 1) := by decide +kernel
theorem dX9_kept_16 : decode cX9_kept 16 = .ok (.invokevirtual 158, 3) := by decide +kernel
theorem dX9_kept_19 : decode cX9_kept 19 = .ok (.ifCond .eq 7, 3) := by decide +kernel
theorem dX9_kept_22 : decode cX9_kept 22 = .ok (.iconst 1, 1) := by decide +kernel
theorem dX9_kept_23 : decode cX9_kept 23 = .ok (.goto 4, 3) := by decide +kernel
theorem dX9_kept_26 : decode cX9_kept 26 = .ok (.iconst 0, 1) := by decide +kernel
theorem dX9_kept_27 : decode cX9_kept 27 = .ok (.ireturn, 1) := by decide +kernel
set_option maxRecDepth 20000 in
theorem ggX9_run_X3_hasNode : GoodIn wsX9_run wsX3_hasNode := goodIn_r _ [10, 11, 150, 151, 152, 153, 154, 155, 156] (by decide +kernel) (by decide +kernel)
set_option maxRecDepth 20000 in
theorem gX9_run_X3_hasNode : GoodIn wsX9_run (wsV RX9 36 RX3 yX3_hasNode wsX3_hasNode) := goodIn_app (goodIn_of _ (by decide +kernel)) ggX9_run_X3_hasNode
set_option maxRecDepth 20000 in
theorem ggX9_run_X9_isWithin : GoodIn wsX9_run wsX9_isWithin := goodIn_r _ [15] (by decide +kernel) (by decide +kernel)
set_option maxRecDepth 20000 in
theorem gX9_run_X9_isWithin : GoodIn wsX9_run (va_wsS RX9 42 yX9_isWithin wsX9_isWithin) := goodIn_app (goodIn_of _ (by decide +kernel)) ggX9_run_X9_isWithin
set_option maxRecDepth 20000 in
theorem ggX9_run_X1_begin : GoodIn wsX9_run wsX1_begin := goodIn_r _ [20, 21, 22, 23, 24, 25, 26, 27, 19, 28, 29, 157, 158, 159, 160, 161, 162, 163, 164, 165, 166, 167, 168, 169, 170, 171] (by decide +kernel) (by decide +kernel)
set_option maxRecDepth 20000 in
theorem gX9_run_X1_begin : GoodIn wsX9_run (wsV RX9 163 RX1 yX1_begin wsX1_begin) := goodIn_app (goodIn_of _ (by decide +kernel)) ggX9_run_X1_begin
set_option maxRecDepth 20000 in
theorem ggX9_run_X1_lookThrough : GoodIn wsX9_run wsX1_lookThrough := goodIn_r _ [33, 34, 35, 22, 36, 37, 38, 21, 24, 39, 40, 41, 9, 42, 43, 44, 45, 46, 47, 48, 49, 50, 51, 52, 53, 54, 55, 56, 57, 58, 59, 60, 61, 62, 63, 64, 65, 66, 67, 68, 69, 70, 71, 72, 73, 74, 19, 75, 23, 76, 77, 78, 79, 80, 81, 82, 83, 84, 85, 86, 87, 88, 89, 90, 91, 92, 93, 94, 95, 96, 97, 29, 98, 99, 100, 101, 102, 103, 104, 105, 106, 107, 108, 109, 110, 111, 112, 113, 114, 115, 116, 117, 118, 119, 120, 121, 122, 123, 124, 125, 126, 127, 128, 129, 130, 131, 132, 133, 134, 135, 136, 137, 138, 139, 140, 141, 157, 158, 159, 160, 161, 162, 163, 164, 165, 166, 167, 168, 169, 170, 171, 150, 151, 152, 153, 154, 155, 156, 172, 173, 174, 175, 176, 177, 178, 179, 180, 181, 182, 183, 184, 185, 186, 187, 188, 189, 190, 191, 192, 193, 194, 195, 196, 197, 198, 199, 200, 201] (by decide +kernel) (by decide +kernel)
set_option maxRecDepth 20000 in
theorem gX9_run_X1_lookThrough : GoodIn wsX9_run (wsV RX9 167 RX1 yX1_lookThrough wsX1_lookThrough) := goodIn_app (goodIn_of _ (by decide +kernel)) ggX9_run_X1_lookThrough
set_option maxRecDepth 20000 in
theorem ggX9_run_X1_keepBest : GoodIn wsX9_run wsX1_keepBest := goodIn_r _ [145, 38, 29, 98, 81, 24, 113, 114, 115, 89, 116, 93, 117, 92, 111, 112, 91, 157, 158, 159, 160, 161, 162, 163, 164, 165, 166, 167, 168, 169, 170, 171, 196, 197, 198, 199, 200, 201] (by decide +kernel) (by decide +kernel)
set_option maxRecDepth 20000 in
theorem gX9_run_X1_keepBest : GoodIn wsX9_run (wsV RX9 170 RX1 yX1_keepBest wsX1_keepBest) := goodIn_app (goodIn_of _ (by decide +kernel)) ggX9_run_X1_keepBest
theorem dX9_run_0 : decode cX9_run 0 = .ok (.aload_n 0, 1) := by decide +kernel
theorem dX9_run_1 : decode cX9_run 1 = .ok (.getfield 12, 3) := by decide +kernel
theorem dX9_run_4 : decode cX9_run 4 = .ok (.iload_n 1, 1) := by decide +kernel
theorem dX9_run_5 : decode cX9_run 5 = .ok (.invokevirtual 36, 3) := by decide +kernel
theorem dX9_run_8 : decode cX9_run 8 = .ok (.ifCond .eq 31, 3) := by decide +kernel
theorem dX9_run_11 : decode cX9_run 11 = .ok (.aload_n 0, 1) := by decide +kernel
theorem dX9_run_12 : decode cX9_run 12 = .ok (.getfield 12, 3) := by decide +kernel
theorem dX9_run_15 : decode cX9_run 15 = .ok (.iload_n 2, 1) := by decide +kernel
theorem dX9_run_16 : decode cX9_run 16 = .ok (.invokevirtual 36, 3) := by decide +kernel
theorem dX9_run_19 : decode cX9_run 19 = .ok (.ifCond .eq 20, 3) := by decide +kernel
theorem dX9_run_22 : decode cX9_run 22 = .ok (.iload_n 1, 1) := by decide +kernel
theorem dX9_run_23 : decode cX9_run 23 = .ok (.iload_n 2, 1) := by decide +kernel
theorem dX9_run_24 : decode cX9_run 24 = .ok (.if_icmp .eq 15, 3) := by decide +kernel
theorem dX9_run_27 : decode cX9_run 27 = .ok (.iload_n 3, 1) := by decide +kernel
theorem dX9_run_28 : decode cX9_run 28 = .ok (.i2l, 1) := by decide +kernel
theorem dX9_run_29 : decode cX9_run 29 = .ok (.lconst 0, 1) := by decide +kernel
theorem dX9_run_30 : decode cX9_run 30 = .ok (.ldc2_w 161, 3) := by decide +kernel
theorem dX9_run_33 : decode cX9_run 33 = .ok (.invokestatic 42, 3) := by decide +kernel
theorem dX9_run_36 : decode cX9_run 36 = .ok (.ifCond .ne 6, 3) := by decide +kernel
theorem dX9_run_39 : decode cX9_run 39 = .ok (.bipush (-2), 2) := by decide +kernel
theorem dX9_run_41 : decode cX9_run 41 = .ok (.ireturn, 1) := by decide +kernel
theorem dX9_run_42 : decode cX9_run 42 = .ok (.aload_n 0, 1) := by decide +kernel
theorem dX9_run_43 : decode cX9_run 43 = .ok (.getfield 21, 3) := by decide +kernel
theorem dX9_run_46 : decode cX9_run 46 = .ok (.iload_n 1, 1) := by decide +kernel
theorem dX9_run_47 : decode cX9_run 47 = .ok (.iload_n 2, 1) := by decide +kernel
theorem dX9_run_48 : decode cX9_run 48 = .ok (.iload_n 3, 1) := by decide +kernel
theorem dX9_run_49 : decode cX9_run 49 = .ok (.invokevirtual 163, 3) := by decide +kernel
theorem dX9_run_52 : decode cX9_run 52 = .ok (.aload_n 0, 1) := by decide +kernel
theorem dX9_run_53 : decode cX9_run 53 = .ok (.getfield 21, 3) := by decide +kernel
theorem dX9_run_56 : decode cX9_run 56 = .ok (.invokevirtual 167, 3) := by decide +kernel
theorem dX9_run_59 : decode cX9_run 59 = .ok (.aload_n 0, 1) := by decide +kernel
theorem dX9_run_60 : decode cX9_run 60 = .ok (.getfield 21, 3) := by decide +kernel
theorem dX9_run_63 : decode cX9_run 63 = .ok (.invokevirtual 170, 3) := by decide +kernel
theorem dX9_run_66 : decode cX9_run 66 = .ok (.istore 4, 2) := by decide +kernel
theorem dX9_run_68 : decode cX9_run 68 = .ok (.aload_n 0, 1) := by decide +kernel
theorem dX9_run_69 : decode cX9_run 69 = .ok (.getfield 174, 3) := by decide +kernel
theorem dX9_run_72 : decode cX9_run 72 = .ok (.bipush 50, 2) := by decide +kernel
theorem dX9_run_74 : decode cX9_run 74 = .ok (.if_icmp .ge 21, 3) := by decide +kernel
theorem dX9_run_77 : decode cX9_run 77 = .ok (.aload_n 0, 1) := by decide +kernel
theorem dX9_run_78 : decode cX9_run 78 = .ok (.getfield 25, 3) := by decide +kernel
theorem dX9_run_81 : decode cX9_run 81 = .ok (.aload_n 0, 1) := by decide +kernel
theorem dX9_run_82 : decode cX9_run 82 = .ok (.dup, 1) := by decide +kernel
theorem dX9_run_83 : decode cX9_run 83 = .ok (.getfield 174, 3) := by decide +kernel
theorem dX9_run_86 : decode cX9_run 86 = .ok (.dup_x1, 1) := by decide +kernel
theorem dX9_run_87 : decode cX9_run 87 = .ok (.iconst 1, 1) := by decide +kernel
theorem dX9_run_88 : decode cX9_run 88 = .ok (.iadd, 1) := by decide +kernel
theorem dX9_run_89 : decode cX9_run 89 = .ok (.putfield 174, 3) := by decide +kernel
theorem dX9_run_92 : decode cX9_run 92 = .ok (.iload 4, 2) := by decide +kernel
theorem dX9_run_94 : decode cX9_run 94 = .ok (.iastore, 1) := by decide +kernel
theorem dX9_run_95 : decode cX9_run 95 = .ok (.iload 4, 2) := by decide +kernel
theorem dX9_run_97 : decode cX9_run 97 = .ok (.ireturn, 1) := by decide +kernel
set_option maxRecDepth 20000 in
theorem ggX9_road2_X1_atHand : GoodIn wsX9_road2 wsX1_atHand := goodIn_r _ [6, 7, 8, 9, 26, 27, 28, 29, 30, 31, 32, 33, 34, 35, 36, 37, 38, 39, 40] (by decide +kernel) (by decide +kernel)
set_option maxRecDepth 20000 in
theorem gX9_road2_X1_atHand : GoodIn wsX9_road2 (wsV RX9 177 RX1 yX1_atHand wsX1_atHand) := goodIn_app (goodIn_of _ (by decide +kernel)) ggX9_road2_X1_atHand
set_option maxRecDepth 20000 in
theorem ggX9_road2_X7_hasPlace : GoodIn wsX9_road2 wsX7_hasPlace := goodIn_r _ [14, 15, 20, 21, 22, 23, 24, 25] (by decide +kernel) (by decide +kernel)
set_option maxRecDepth 20000 in
theorem gX9_road2_X7_hasPlace : GoodIn wsX9_road2 (wsV RX9 181 RX7 yX7_hasPlace wsX7_hasPlace) := goodIn_app (goodIn_of _ (by decide +kernel)) ggX9_road2_X7_hasPlace
theorem dX9_road2_0 : decode cX9_road2 0 = .ok (.aload_n 0, 1) := by decide +kernel
theorem dX9_road2_1 : decode cX9_road2 1 = .ok (.getfield 21, 3) := by decide +kernel
theorem dX9_road2_4 : decode cX9_road2 4 = .ok (.invokevirtual 177, 3) := by decide +kernel
theorem dX9_road2_7 : decode cX9_road2 7 = .ok (.astore_n 2, 1) := by decide +kernel
theorem dX9_road2_8 : decode cX9_road2 8 = .ok (.aload_n 2, 1) := by decide +kernel
theorem dX9_road2_9 : decode cX9_road2 9 = .ok (.iload_n 1, 1) := by decide +kernel
theorem dX9_road2_10 : decode cX9_road2 10 = .ok (.invokevirtual 181, 3) := by decide +kernel
theorem dX9_road2_13 : decode cX9_road2 13 = .ok (.ifCond .eq 12, 3) := by decide +kernel
theorem dX9_road2_16 : decode cX9_road2 16 = .ok (.aload_n 2, 1) := by decide +kernel
theorem dX9_road2_17 : decode cX9_road2 17 = .ok (.getfield 186, 3) := by decide +kernel
theorem dX9_road2_20 : decode cX9_road2 20 = .ok (.iload_n 1, 1) := by decide +kernel
theorem dX9_road2_21 : decode cX9_road2 21 = .ok (.iaload, 1) := by decide +kernel
theorem dX9_road2_22 : decode cX9_road2 22 = .ok (.goto 4, 3) := by decide +kernel
theorem dX9_road2_25 : decode cX9_road2 25 = .ok (.iconst (-1), 1) := by decide +kernel
theorem dX9_road2_26 : decode cX9_road2 26 = .ok (.ireturn, 1) := by decide +kernel
set_option maxRecDepth 20000 in
theorem ggX9_begun_X1_atHand : GoodIn wsX9_begun wsX1_atHand := goodIn_r _ [6, 7, 8, 9, 26, 27, 28, 29, 30, 31, 32, 33, 34, 35, 36, 37, 38, 39, 40] (by decide +kernel) (by decide +kernel)
set_option maxRecDepth 20000 in
theorem gX9_begun_X1_atHand : GoodIn wsX9_begun (wsV RX9 177 RX1 yX1_atHand wsX1_atHand) := goodIn_app (goodIn_of _ (by decide +kernel)) ggX9_begun_X1_atHand
set_option maxRecDepth 20000 in
theorem ggX9_begun_X7_hasPlace : GoodIn wsX9_begun wsX7_hasPlace := goodIn_r _ [14, 15, 20, 21, 22, 23, 24, 25] (by decide +kernel) (by decide +kernel)
set_option maxRecDepth 20000 in
theorem gX9_begun_X7_hasPlace : GoodIn wsX9_begun (wsV RX9 181 RX7 yX7_hasPlace wsX7_hasPlace) := goodIn_app (goodIn_of _ (by decide +kernel)) ggX9_begun_X7_hasPlace
theorem dX9_begun_0 : decode cX9_begun 0 = .ok (.aload_n 0, 1) := by decide +kernel
theorem dX9_begun_1 : decode cX9_begun 1 = .ok (.getfield 21, 3) := by decide +kernel
theorem dX9_begun_4 : decode cX9_begun 4 = .ok (.invokevirtual 177, 3) := by decide +kernel
theorem dX9_begun_7 : decode cX9_begun 7 = .ok (.astore_n 2, 1) := by decide +kernel
theorem dX9_begun_8 : decode cX9_begun 8 = .ok (.aload_n 2, 1) := by decide +kernel
theorem dX9_begun_9 : decode cX9_begun 9 = .ok (.iload_n 1, 1) := by decide +kernel
theorem dX9_begun_10 : decode cX9_begun 10 = .ok (.invokevirtual 181, 3) := by decide +kernel
theorem dX9_begun_13 : decode cX9_begun 13 = .ok (.ifCond .eq 12, 3) := by decide +kernel
theorem dX9_begun_16 : decode cX9_begun 16 = .ok (.aload_n 2, 1) := by decide +kernel
theorem dX9_begun_17 : decode cX9_begun 17 = .ok (.getfield 188, 3) := by decide +kernel
theorem dX9_begun_20 : decode cX9_begun 20 = .ok (.iload_n 1, 1) := by decide +kernel
theorem dX9_begun_21 : decode cX9_begun 21 = .ok (.iaload, 1) := by decide +kernel
theorem dX9_begun_22 : decode cX9_begun 22 = .ok (.goto 4, 3) := by decide +kernel
theorem dX9_begun_25 : decode cX9_begun 25 = .ok (.iconst (-1), 1) := by decide +kernel
theorem dX9_begun_26 : decode cX9_begun 26 = .ok (.ireturn, 1) := by decide +kernel
set_option maxRecDepth 20000 in
theorem ggX9_bars_X9_isWithin : GoodIn wsX9_bars wsX9_isWithin := goodIn_r _ [5] (by decide +kernel) (by decide +kernel)
set_option maxRecDepth 20000 in
theorem gX9_bars_X9_isWithin : GoodIn wsX9_bars (va_wsS RX9 42 yX9_isWithin wsX9_isWithin) := goodIn_app (goodIn_of _ (by decide +kernel)) ggX9_bars_X9_isWithin
set_option maxRecDepth 20000 in
theorem ggX9_bars_X3_whyNotBearing : GoodIn wsX9_bars wsX3_whyNotBearing := goodIn_r _ [10, 11, 12, 13, 14, 15, 16, 9, 17, 18, 23, 24, 25, 26, 27, 28, 29, 30, 31, 32, 33, 34, 35, 36, 37, 38, 39, 40, 41, 42, 43, 44, 45, 46, 47, 48, 49, 50, 51, 52, 53] (by decide +kernel) (by decide +kernel)
set_option maxRecDepth 20000 in
theorem gX9_bars_X3_whyNotBearing : GoodIn wsX9_bars (wsV RX9 191 RX3 yX3_whyNotBearing wsX3_whyNotBearing) := goodIn_app (goodIn_of _ (by decide +kernel)) ggX9_bars_X3_whyNotBearing
theorem dX9_bars_0 : decode cX9_bars 0 = .ok (.iload_n 1, 1) := by decide +kernel
theorem dX9_bars_1 : decode cX9_bars 1 = .ok (.ifCond .lt 13, 3) := by decide +kernel
theorem dX9_bars_4 : decode cX9_bars 4 = .ok (.iload_n 2, 1) := by decide +kernel
theorem dX9_bars_5 : decode cX9_bars 5 = .ok (.i2l, 1) := by decide +kernel
theorem dX9_bars_6 : decode cX9_bars 6 = .ok (.lconst 0, 1) := by decide +kernel
theorem dX9_bars_7 : decode cX9_bars 7 = .ok (.lconst 1, 1) := by decide +kernel
theorem dX9_bars_8 : decode cX9_bars 8 = .ok (.invokestatic 42, 3) := by decide +kernel
theorem dX9_bars_11 : decode cX9_bars 11 = .ok (.ifCond .ne 5, 3) := by decide +kernel
theorem dX9_bars_14 : decode cX9_bars 14 = .ok (.iconst (-1), 1) := by decide +kernel
theorem dX9_bars_15 : decode cX9_bars 15 = .ok (.ireturn, 1) := by decide +kernel
theorem dX9_bars_16 : decode cX9_bars 16 = .ok (.iconst 0, 1) := by decide +kernel
theorem dX9_bars_17 : decode cX9_bars 17 = .ok (.istore_n 3, 1) := by decide +kernel
theorem dX9_bars_18 : decode cX9_bars 18 = .ok (.iconst 0, 1) := by decide +kernel
theorem dX9_bars_19 : decode cX9_bars 19 = .ok (.istore 4, 2) := by decide +kernel
theorem dX9_bars_21 : decode cX9_bars 21 = .ok (.iload 4, 2) := by decide +kernel
theorem dX9_bars_23 : decode cX9_bars 23 = .ok (.aload_n 0, 1) := by decide +kernel
theorem dX9_bars_24 : decode cX9_bars 24 = .ok (.getfield 12, 3) := by decide +kernel
theorem dX9_bars_27 : decode cX9_bars 27 = .ok (.getfield 33, 3) := by decide +kernel
theorem dX9_bars_30 : decode cX9_bars 30 = .ok (.if_icmp .ge 45, 3) := by decide +kernel
theorem dX9_bars_33 : decode cX9_bars 33 = .ok (.aload_n 0, 1) := by decide +kernel
theorem dX9_bars_34 : decode cX9_bars 34 = .ok (.getfield 12, 3) := by decide +kernel
theorem dX9_bars_37 : decode cX9_bars 37 = .ok (.iload 4, 2) := by decide +kernel
theorem dX9_bars_39 : decode cX9_bars 39 = .ok (.invokevirtual 191, 3) := by decide +kernel
theorem dX9_bars_42 : decode cX9_bars 42 = .ok (.istore 5, 2) := by decide +kernel
theorem dX9_bars_44 : decode cX9_bars 44 = .ok (.iload 5, 2) := by decide +kernel
theorem dX9_bars_46 : decode cX9_bars 46 = .ok (.ifCond .eq 23, 3) := by decide +kernel
theorem dX9_bars_49 : decode cX9_bars 49 = .ok (.iload_n 3, 1) := by decide +kernel
theorem dX9_bars_50 : decode cX9_bars 50 = .ok (.iinc 3 1, 3) := by decide +kernel
theorem dX9_bars_53 : decode cX9_bars 53 = .ok (.iload_n 1, 1) := by decide +kernel
theorem dX9_bars_54 : decode cX9_bars 54 = .ok (.if_icmp .ne 15, 3) := by decide +kernel
theorem dX9_bars_57 : decode cX9_bars 57 = .ok (.iload_n 2, 1) := by decide +kernel
theorem dX9_bars_58 : decode cX9_bars 58 = .ok (.ifCond .ne 8, 3) := by decide +kernel
theorem dX9_bars_61 : decode cX9_bars 61 = .ok (.iload 4, 2) := by decide +kernel
theorem dX9_bars_63 : decode cX9_bars 63 = .ok (.goto 5, 3) := by decide +kernel
theorem dX9_bars_66 : decode cX9_bars 66 = .ok (.iload 5, 2) := by decide +kernel
theorem dX9_bars_68 : decode cX9_bars 68 = .ok (.ireturn, 1) := by decide +kernel
theorem dX9_bars_69 : decode cX9_bars 69 = .ok (.iinc 4 1, 3) := by decide +kernel
theorem dX9_bars_72 : decode cX9_bars 72 = .ok (.goto (-51), 3) := by decide +kernel
theorem dX9_bars_75 : decode cX9_bars 75 = .ok (.iconst (-1), 1) := by decide +kernel
theorem dX9_bars_76 : decode cX9_bars 76 = .ok (.ireturn, 1) := by decide +kernel
set_option maxRecDepth 20000 in
theorem ggX9_alternate_X9_isWithin : GoodIn wsX9_alternate wsX9_isWithin := goodIn_r _ [6] (by decide +kernel) (by decide +kernel)
set_option maxRecDepth 20000 in
theorem gX9_alternate_X9_isWithin : GoodIn wsX9_alternate (va_wsS RX9 42 yX9_isWithin wsX9_isWithin) := goodIn_app (goodIn_of _ (by decide +kernel)) ggX9_alternate_X9_isWithin
set_option maxRecDepth 20000 in
theorem ggX9_alternate_X1_limitSharing : GoodIn wsX9_alternate wsX1_limitSharing := goodIn_r _ [11, 12, 13, 138, 139, 140, 141, 142, 143, 144, 145, 146, 147, 148, 149, 150, 151, 152, 153, 154, 155, 156, 157, 158] (by decide +kernel) (by decide +kernel)
set_option maxRecDepth 20000 in
theorem gX9_alternate_X1_limitSharing : GoodIn wsX9_alternate (wsV RX9 200 RX1 yX1_limitSharing wsX1_limitSharing) := goodIn_app (goodIn_of _ (by decide +kernel)) ggX9_alternate_X1_limitSharing
set_option maxRecDepth 20000 in
theorem ggX9_alternate_X1_lookThrough : GoodIn wsX9_alternate wsX1_lookThrough := goodIn_r _ [17, 18, 19, 20, 21, 22, 23, 24, 25, 26, 27, 28, 29, 30, 31, 32, 33, 34, 35, 36, 37, 38, 39, 40, 41, 42, 43, 44, 45, 46, 47, 48, 49, 50, 51, 52, 53, 54, 55, 56, 57, 58, 59, 60, 61, 62, 10, 63, 64, 65, 66, 67, 68, 69, 70, 71, 72, 73, 74, 75, 76, 77, 78, 79, 80, 81, 82, 83, 84, 85, 86, 87, 12, 13, 88, 89, 90, 91, 92, 93, 94, 95, 96, 97, 98, 99, 100, 101, 102, 103, 104, 105, 106, 107, 108, 109, 110, 111, 112, 113, 114, 115, 116, 117, 118, 119, 120, 121, 122, 123, 124, 125, 126, 127, 128, 129, 138, 139, 140, 141, 142, 143, 144, 145, 146, 147, 148, 149, 150, 151, 152, 159, 160, 161, 162, 163, 164, 165, 166, 167, 168, 169, 170, 171, 172, 173, 174, 175, 176, 177, 178, 179, 180, 181, 182, 183, 184, 185, 186, 187, 188, 189, 153, 154, 155, 156, 157, 158] (by decide +kernel) (by decide +kernel)
set_option maxRecDepth 20000 in
theorem gX9_alternate_X1_lookThrough : GoodIn wsX9_alternate (wsV RX9 167 RX1 yX1_lookThrough wsX1_lookThrough) := goodIn_app (goodIn_of _ (by decide +kernel)) ggX9_alternate_X1_lookThrough
set_option maxRecDepth 20000 in
theorem ggX9_alternate_X1_keepBest : GoodIn wsX9_alternate wsX1_keepBest := goodIn_r _ [133, 23, 87, 12, 70, 25, 101, 102, 103, 78, 104, 82, 105, 81, 99, 100, 80, 138, 139, 140, 141, 142, 143, 144, 145, 146, 147, 148, 149, 150, 151, 152, 153, 154, 155, 156, 157, 158] (by decide +kernel) (by decide +kernel)
set_option maxRecDepth 20000 in
theorem gX9_alternate_X1_keepBest : GoodIn wsX9_alternate (wsV RX9 170 RX1 yX1_keepBest wsX1_keepBest) := goodIn_app (goodIn_of _ (by decide +kernel)) ggX9_alternate_X1_keepBest
theorem dX9_alternate_0 : decode cX9_alternate 0 = .ok (.lload_n 3, 1) := by decide +kernel
theorem dX9_alternate_1 : decode cX9_alternate 1 = .ok (.lconst 1, 1) := by decide +kernel
theorem dX9_alternate_2 : decode cX9_alternate 2 = .ok (.ldc2_w 195, 3) := by decide +kernel
theorem dX9_alternate_5 : decode cX9_alternate 5 = .ok (.invokestatic 42, 3) := by decide +kernel
theorem dX9_alternate_8 : decode cX9_alternate 8 = .ok (.ifCond .eq 12, 3) := by decide +kernel
theorem dX9_alternate_11 : decode cX9_alternate 11 = .ok (.lload_n 1, 1) := by decide +kernel
theorem dX9_alternate_12 : decode cX9_alternate 12 = .ok (.lconst 0, 1) := by decide +kernel
theorem dX9_alternate_13 : decode cX9_alternate 13 = .ok (.lload_n 3, 1) := by decide +kernel
theorem dX9_alternate_14 : decode cX9_alternate 14 = .ok (.invokestatic 42, 3) := by decide +kernel
theorem dX9_alternate_17 : decode cX9_alternate 17 = .ok (.ifCond .ne 6, 3) := by decide +kernel
theorem dX9_alternate_20 : decode cX9_alternate 20 = .ok (.bipush (-2), 2) := by decide +kernel
theorem dX9_alternate_22 : decode cX9_alternate 22 = .ok (.ireturn, 1) := by decide +kernel
theorem dX9_alternate_23 : decode cX9_alternate 23 = .ok (.aload_n 0, 1) := by decide +kernel
theorem dX9_alternate_24 : decode cX9_alternate 24 = .ok (.getfield 21, 3) := by decide +kernel
theorem dX9_alternate_27 : decode cX9_alternate 27 = .ok (.getfield 197, 3) := by decide +kernel
theorem dX9_alternate_30 : decode cX9_alternate 30 = .ok (.ifCond .eq 14, 3) := by decide +kernel
theorem dX9_alternate_33 : decode cX9_alternate 33 = .ok (.aload_n 0, 1) := by decide +kernel
theorem dX9_alternate_34 : decode cX9_alternate 34 = .ok (.getfield 21, 3) := by decide +kernel
theorem dX9_alternate_37 : decode cX9_alternate 37 = .ok (.getfield 197, 3) := by decide +kernel
theorem dX9_alternate_40 : decode cX9_alternate 40 = .ok (.iconst 5, 1) := by decide +kernel
theorem dX9_alternate_41 : decode cX9_alternate 41 = .ok (.if_icmp .lt 6, 3) := by decide +kernel
theorem dX9_alternate_44 : decode cX9_alternate 44 = .ok (.bipush (-2), 2) := by decide +kernel
theorem dX9_alternate_46 : decode cX9_alternate 46 = .ok (.ireturn, 1) := by decide +kernel
theorem dX9_alternate_47 : decode cX9_alternate 47 = .ok (.aload_n 0, 1) := by decide +kernel
theorem dX9_alternate_48 : decode cX9_alternate 48 = .ok (.getfield 21, 3) := by decide +kernel
theorem dX9_alternate_51 : decode cX9_alternate 51 = .ok (.lload_n 1, 1) := by decide +kernel
theorem dX9_alternate_52 : decode cX9_alternate 52 = .ok (.lload_n 3, 1) := by decide +kernel
theorem dX9_alternate_53 : decode cX9_alternate 53 = .ok (.invokevirtual 200, 3) := by decide +kernel
theorem dX9_alternate_56 : decode cX9_alternate 56 = .ok (.aload_n 0, 1) := by decide +kernel
theorem dX9_alternate_57 : decode cX9_alternate 57 = .ok (.getfield 21, 3) := by decide +kernel
theorem dX9_alternate_60 : decode cX9_alternate 60 = .ok (.invokevirtual 167, 3) := by decide +kernel
theorem dX9_alternate_63 : decode cX9_alternate 63 = .ok (.aload_n 0, 1) := by decide +kernel
theorem dX9_alternate_64 : decode cX9_alternate 64 = .ok (.getfield 21, 3) := by decide +kernel
theorem dX9_alternate_67 : decode cX9_alternate 67 = .ok (.invokevirtual 170, 3) := by decide +kernel
theorem dX9_alternate_70 : decode cX9_alternate 70 = .ok (.ireturn, 1) := by decide +kernel
set_option maxRecDepth 20000 in
theorem ggX9_slow_X3_hasBridge : GoodIn wsX9_slow wsX3_hasBridge := goodIn_r _ [7, 8, 19, 20, 21, 22, 23, 24, 25] (by decide +kernel) (by decide +kernel)
set_option maxRecDepth 20000 in
theorem gX9_slow_X3_hasBridge : GoodIn wsX9_slow (wsV RX9 71 RX3 yX3_hasBridge wsX3_hasBridge) := goodIn_app (goodIn_of _ (by decide +kernel)) ggX9_slow_X3_hasBridge
set_option maxRecDepth 20000 in
theorem ggX9_slow_X1_forget : GoodIn wsX9_slow wsX1_forget := goodIn_r _ [13, 14, 34, 35, 36, 37, 38, 39, 40, 41, 42, 43, 44, 45, 46, 47, 48] (by decide +kernel) (by decide +kernel)
set_option maxRecDepth 20000 in
theorem gX9_slow_X1_forget : GoodIn wsX9_slow (wsV RX9 49 RX1 yX1_forget wsX1_forget) := goodIn_app (goodIn_of _ (by decide +kernel)) ggX9_slow_X1_forget
theorem dX9_slow_0 : decode cX9_slow 0 = .ok (.aload_n 0, 1) := by decide +kernel
theorem dX9_slow_1 : decode cX9_slow 1 = .ok (.getfield 12, 3) := by decide +kernel
theorem dX9_slow_4 : decode cX9_slow 4 = .ok (.iload_n 1, 1) := by decide +kernel
theorem dX9_slow_5 : decode cX9_slow 5 = .ok (.invokevirtual 71, 3) := by decide +kernel
theorem dX9_slow_8 : decode cX9_slow 8 = .ok (.ifCond .ne 5, 3) := by decide +kernel
theorem dX9_slow_11 : decode cX9_slow 11 = .ok (.iconst (-1), 1) := by decide +kernel
theorem dX9_slow_12 : decode cX9_slow 12 = .ok (.ireturn, 1) := by decide +kernel
theorem dX9_slow_13 : decode cX9_slow 13 = .ok (.aload_n 0, 1) := by decide +kernel
theorem dX9_slow_14 : decode cX9_slow 14 = .ok (.getfield 21, 3) := by decide +kernel
theorem dX9_slow_17 : decode cX9_slow 17 = .ok (.invokevirtual 49, 3) := by decide +kernel
theorem dX9_slow_20 : decode cX9_slow 20 = .ok (.aload_n 0, 1) := by decide +kernel
theorem dX9_slow_21 : decode cX9_slow 21 = .ok (.getfield 12, 3) := by decide +kernel
theorem dX9_slow_24 : decode cX9_slow 24 = .ok (.getfield 74, 3) := by decide +kernel
theorem dX9_slow_27 : decode cX9_slow 27 = .ok (.iload_n 1, 1) := by decide +kernel
theorem dX9_slow_28 : decode cX9_slow 28 = .ok (.aaload, 1) := by decide +kernel
theorem dX9_slow_29 : decode cX9_slow 29 = .ok (.getfield 203, 3) := by decide +kernel
theorem dX9_slow_32 : decode cX9_slow 32 = .ok (.istore_n 3, 1) := by decide +kernel
theorem dX9_slow_33 : decode cX9_slow 33 = .ok (.aload_n 0, 1) := by decide +kernel
theorem dX9_slow_34 : decode cX9_slow 34 = .ok (.getfield 12, 3) := by decide +kernel
theorem dX9_slow_37 : decode cX9_slow 37 = .ok (.getfield 74, 3) := by decide +kernel
theorem dX9_slow_40 : decode cX9_slow 40 = .ok (.iload_n 1, 1) := by decide +kernel
theorem dX9_slow_41 : decode cX9_slow 41 = .ok (.aaload, 1) := by decide +kernel
theorem dX9_slow_42 : decode cX9_slow 42 = .ok (.iload_n 2, 1) := by decide +kernel
theorem dX9_slow_43 : decode cX9_slow 43 = .ok (.putfield 203, 3) := by decide +kernel
theorem dX9_slow_46 : decode cX9_slow 46 = .ok (.iload_n 3, 1) := by decide +kernel
theorem dX9_slow_47 : decode cX9_slow 47 = .ok (.ifCond .eq 7, 3) := by decide +kernel
theorem dX9_slow_50 : decode cX9_slow 50 = .ok (.iconst 1, 1) := by decide +kernel
theorem dX9_slow_51 : decode cX9_slow 51 = .ok (.goto 4, 3) := by decide +kernel
theorem dX9_slow_54 : decode cX9_slow 54 = .ok (.iconst 0, 1) := by decide +kernel
theorem dX9_slow_55 : decode cX9_slow 55 = .ok (.ireturn, 1) := by decide +kernel
set_option maxRecDepth 20000 in
theorem ggX9_convoy_X9_isWithin : GoodIn wsX9_convoy wsX9_isWithin := goodIn_r _ [12] (by decide +kernel) (by decide +kernel)
set_option maxRecDepth 20000 in
theorem gX9_convoy_X9_isWithin : GoodIn wsX9_convoy (va_wsS RX9 42 yX9_isWithin wsX9_isWithin) := goodIn_app (goodIn_of _ (by decide +kernel)) ggX9_convoy_X9_isWithin
set_option maxRecDepth 20000 in
theorem ggX9_convoy_X1_atHand : GoodIn wsX9_convoy wsX1_atHand := goodIn_r _ [17, 18, 19, 20, 54, 55, 56, 57, 58, 59, 60, 61, 62, 63, 64, 65, 66, 67, 68] (by decide +kernel) (by decide +kernel)
set_option maxRecDepth 20000 in
theorem gX9_convoy_X1_atHand : GoodIn wsX9_convoy (wsV RX9 177 RX1 yX1_atHand wsX1_atHand) := goodIn_app (goodIn_of _ (by decide +kernel)) ggX9_convoy_X1_atHand
set_option maxRecDepth 20000 in
theorem ggX9_convoy_X3_endOfDrive : GoodIn wsX9_convoy wsX3_endOfDrive := goodIn_r _ [25, 26, 27, 28, 29, 30, 31, 32, 33, 34, 35, 36, 37, 38, 39, 6, 7, 8, 40, 41, 42, 24, 43, 44, 45, 46, 47, 48, 49, 69, 70, 71, 72, 73, 74, 75, 76, 77, 78, 79, 80, 81, 82, 83, 84, 85, 86, 87, 88, 89, 90, 91, 92, 93, 94, 95, 96, 97, 98, 99, 100] (by decide +kernel) (by decide +kernel)
set_option maxRecDepth 20000 in
theorem gX9_convoy_X3_endOfDrive : GoodIn wsX9_convoy (wsV RX9 212 RX3 yX3_endOfDrive wsX3_endOfDrive) := goodIn_app (goodIn_of _ (by decide +kernel)) ggX9_convoy_X3_endOfDrive
theorem dX9_convoy_0 : decode cX9_convoy 0 = .ok (.aload_n 0, 1) := by decide +kernel
theorem dX9_convoy_1 : decode cX9_convoy 1 = .ok (.getfield 21, 3) := by decide +kernel
theorem dX9_convoy_4 : decode cX9_convoy 4 = .ok (.getfield 197, 3) := by decide +kernel
theorem dX9_convoy_7 : decode cX9_convoy 7 = .ok (.ifCond .eq 27, 3) := by decide +kernel
theorem dX9_convoy_10 : decode cX9_convoy 10 = .ok (.iload_n 1, 1) := by decide +kernel
theorem dX9_convoy_11 : decode cX9_convoy 11 = .ok (.i2l, 1) := by decide +kernel
theorem dX9_convoy_12 : decode cX9_convoy 12 = .ok (.lconst 1, 1) := by decide +kernel
theorem dX9_convoy_13 : decode cX9_convoy 13 = .ok (.ldc2_w 207, 3) := by decide +kernel
theorem dX9_convoy_16 : decode cX9_convoy 16 = .ok (.invokestatic 42, 3) := by decide +kernel
theorem dX9_convoy_19 : decode cX9_convoy 19 = .ok (.ifCond .eq 15, 3) := by decide +kernel
theorem dX9_convoy_22 : decode cX9_convoy 22 = .ok (.iload_n 2, 1) := by decide +kernel
theorem dX9_convoy_23 : decode cX9_convoy 23 = .ok (.i2l, 1) := by decide +kernel
theorem dX9_convoy_24 : decode cX9_convoy 24 = .ok (.lconst 0, 1) := by decide +kernel
theorem dX9_convoy_25 : decode cX9_convoy 25 = .ok (.ldc2_w 40, 3) := by decide +kernel
theorem dX9_convoy_28 : decode cX9_convoy 28 = .ok (.invokestatic 42, 3) := by decide +kernel
theorem dX9_convoy_31 : decode cX9_convoy 31 = .ok (.ifCond .ne 5, 3) := by decide +kernel
theorem dX9_convoy_34 : decode cX9_convoy 34 = .ok (.iconst (-1), 1) := by decide +kernel
theorem dX9_convoy_35 : decode cX9_convoy 35 = .ok (.ireturn, 1) := by decide +kernel
theorem dX9_convoy_36 : decode cX9_convoy 36 = .ok (.aload_n 0, 1) := by decide +kernel
theorem dX9_convoy_37 : decode cX9_convoy 37 = .ok (.getfield 21, 3) := by decide +kernel
theorem dX9_convoy_40 : decode cX9_convoy 40 = .ok (.getfield 209, 3) := by decide +kernel
theorem dX9_convoy_43 : decode cX9_convoy 43 = .ok (.istore_n 3, 1) := by decide +kernel
theorem dX9_convoy_44 : decode cX9_convoy 44 = .ok (.iconst 0, 1) := by decide +kernel
theorem dX9_convoy_45 : decode cX9_convoy 45 = .ok (.istore 4, 2) := by decide +kernel
theorem dX9_convoy_47 : decode cX9_convoy 47 = .ok (.iload 4, 2) := by decide +kernel
theorem dX9_convoy_49 : decode cX9_convoy 49 = .ok (.iload_n 1, 1) := by decide +kernel
theorem dX9_convoy_50 : decode cX9_convoy 50 = .ok (.if_icmp .ge 40, 3) := by decide +kernel
theorem dX9_convoy_53 : decode cX9_convoy 53 = .ok (.iload_n 3, 1) := by decide +kernel
theorem dX9_convoy_54 : decode cX9_convoy 54 = .ok (.aload_n 0, 1) := by decide +kernel
theorem dX9_convoy_55 : decode cX9_convoy 55 = .ok (.getfield 12, 3) := by decide +kernel
theorem dX9_convoy_58 : decode cX9_convoy 58 = .ok (.aload_n 0, 1) := by decide +kernel
theorem dX9_convoy_59 : decode cX9_convoy 59 = .ok (.getfield 21, 3) := by decide +kernel
theorem dX9_convoy_62 : decode cX9_convoy 62 = .ok (.invokevirtual 177, 3) := by decide +kernel
theorem dX9_convoy_65 : decode cX9_convoy 65 = .ok (.aload_n 0, 1) := by decide +kernel
theorem dX9_convoy_66 : decode cX9_convoy 66 = .ok (.getfield 21, 3) := by decide +kernel
theorem dX9_convoy_69 : decode cX9_convoy 69 = .ok (.getfield 209, 3) := by decide +kernel
theorem dX9_convoy_72 : decode cX9_convoy 72 = .ok (.iload 4, 2) := by decide +kernel
theorem dX9_convoy_74 : decode cX9_convoy 74 = .ok (.iload_n 2, 1) := by decide +kernel
theorem dX9_convoy_75 : decode cX9_convoy 75 = .ok (.imul, 1) := by decide +kernel
theorem dX9_convoy_76 : decode cX9_convoy 76 = .ok (.iadd, 1) := by decide +kernel
theorem dX9_convoy_77 : decode cX9_convoy 77 = .ok (.invokevirtual 212, 3) := by decide +kernel
theorem dX9_convoy_80 : decode cX9_convoy 80 = .ok (.invokestatic 216, 3) := by decide +kernel
theorem dX9_convoy_83 : decode cX9_convoy 83 = .ok (.istore_n 3, 1) := by decide +kernel
theorem dX9_convoy_84 : decode cX9_convoy 84 = .ok (.iinc 4 1, 3) := by decide +kernel
theorem dX9_convoy_87 : decode cX9_convoy 87 = .ok (.goto (-40), 3) := by decide +kernel
theorem dX9_convoy_90 : decode cX9_convoy 90 = .ok (.iload_n 3, 1) := by decide +kernel
theorem dX9_convoy_91 : decode cX9_convoy 91 = .ok (.aload_n 0, 1) := by decide +kernel
theorem dX9_convoy_92 : decode cX9_convoy 92 = .ok (.getfield 21, 3) := by decide +kernel
theorem dX9_convoy_95 : decode cX9_convoy 95 = .ok (.getfield 209, 3) := by decide +kernel
theorem dX9_convoy_98 : decode cX9_convoy 98 = .ok (.isub, 1) := by decide +kernel
theorem dX9_convoy_99 : decode cX9_convoy 99 = .ok (.ireturn, 1) := by decide +kernel
set_option maxRecDepth 20000 in
theorem ggX9_escort_X1_atHand : GoodIn wsX9_escort wsX1_atHand := goodIn_r _ [7, 8, 9, 10, 34, 35, 36, 37, 38, 39, 40, 41, 42, 43, 44, 45, 46, 47, 48] (by decide +kernel) (by decide +kernel)
set_option maxRecDepth 20000 in
theorem gX9_escort_X1_atHand : GoodIn wsX9_escort (wsV RX9 177 RX1 yX1_atHand wsX1_atHand) := goodIn_app (goodIn_of _ (by decide +kernel)) ggX9_escort_X1_atHand
set_option maxRecDepth 20000 in
theorem ggX9_escort_X3_wantsEscort : GoodIn wsX9_escort wsX3_wantsEscort := goodIn_r _ [15, 16, 17, 18, 19, 20, 21, 14, 22, 23, 49, 50, 51, 52, 53, 54, 55, 56, 57, 58, 59, 60, 61, 62, 63, 64, 65, 66, 67, 68, 69, 70, 71, 72, 73, 74, 75, 76, 77, 78, 79] (by decide +kernel) (by decide +kernel)
set_option maxRecDepth 20000 in
theorem gX9_escort_X3_wantsEscort : GoodIn wsX9_escort (wsV RX9 225 RX3 yX3_wantsEscort wsX3_wantsEscort) := goodIn_app (goodIn_of _ (by decide +kernel)) ggX9_escort_X3_wantsEscort
theorem dX9_escort_0 : decode cX9_escort 0 = .ok (.iload_n 1, 1) := by decide +kernel
theorem dX9_escort_1 : decode cX9_escort 1 = .ok (.ifCond .ge 5, 3) := by decide +kernel
theorem dX9_escort_4 : decode cX9_escort 4 = .ok (.iconst (-1), 1) := by decide +kernel
theorem dX9_escort_5 : decode cX9_escort 5 = .ok (.ireturn, 1) := by decide +kernel
theorem dX9_escort_6 : decode cX9_escort 6 = .ok (.aload_n 0, 1) := by decide +kernel
theorem dX9_escort_7 : decode cX9_escort 7 = .ok (.getfield 21, 3) := by decide +kernel
theorem dX9_escort_10 : decode cX9_escort 10 = .ok (.invokevirtual 177, 3) := by decide +kernel
theorem dX9_escort_13 : decode cX9_escort 13 = .ok (.astore_n 2, 1) := by decide +kernel
theorem dX9_escort_14 : decode cX9_escort 14 = .ok (.iconst 0, 1) := by decide +kernel
theorem dX9_escort_15 : decode cX9_escort 15 = .ok (.istore_n 3, 1) := by decide +kernel
theorem dX9_escort_16 : decode cX9_escort 16 = .ok (.iconst 0, 1) := by decide +kernel
theorem dX9_escort_17 : decode cX9_escort 17 = .ok (.istore 4, 2) := by decide +kernel
theorem dX9_escort_19 : decode cX9_escort 19 = .ok (.iload 4, 2) := by decide +kernel
theorem dX9_escort_21 : decode cX9_escort 21 = .ok (.aload_n 2, 1) := by decide +kernel
theorem dX9_escort_22 : decode cX9_escort 22 = .ok (.getfield 222, 3) := by decide +kernel
theorem dX9_escort_25 : decode cX9_escort 25 = .ok (.if_icmp .ge 42, 3) := by decide +kernel
theorem dX9_escort_28 : decode cX9_escort 28 = .ok (.aload_n 0, 1) := by decide +kernel
theorem dX9_escort_29 : decode cX9_escort 29 = .ok (.getfield 12, 3) := by decide +kernel
theorem dX9_escort_32 : decode cX9_escort 32 = .ok (.aload_n 2, 1) := by decide +kernel
theorem dX9_escort_33 : decode cX9_escort 33 = .ok (.getfield 186, 3) := by decide +kernel
theorem dX9_escort_36 : decode cX9_escort 36 = .ok (.iload 4, 2) := by decide +kernel
theorem dX9_escort_38 : decode cX9_escort 38 = .ok (.iaload, 1) := by decide +kernel
theorem dX9_escort_39 : decode cX9_escort 39 = .ok (.invokevirtual 225, 3) := by decide +kernel
theorem dX9_escort_42 : decode cX9_escort 42 = .ok (.ifCond .eq 19, 3) := by decide +kernel
theorem dX9_escort_45 : decode cX9_escort 45 = .ok (.iload_n 3, 1) := by decide +kernel
theorem dX9_escort_46 : decode cX9_escort 46 = .ok (.iinc 3 1, 3) := by decide +kernel
theorem dX9_escort_49 : decode cX9_escort 49 = .ok (.iload_n 1, 1) := by decide +kernel
theorem dX9_escort_50 : decode cX9_escort 50 = .ok (.if_icmp .ne 11, 3) := by decide +kernel
theorem dX9_escort_53 : decode cX9_escort 53 = .ok (.aload_n 2, 1) := by decide +kernel
theorem dX9_escort_54 : decode cX9_escort 54 = .ok (.getfield 186, 3) := by decide +kernel
theorem dX9_escort_57 : decode cX9_escort 57 = .ok (.iload 4, 2) := by decide +kernel
theorem dX9_escort_59 : decode cX9_escort 59 = .ok (.iaload, 1) := by decide +kernel
theorem dX9_escort_60 : decode cX9_escort 60 = .ok (.ireturn, 1) := by decide +kernel
theorem dX9_escort_61 : decode cX9_escort 61 = .ok (.iinc 4 1, 3) := by decide +kernel
theorem dX9_escort_64 : decode cX9_escort 64 = .ok (.goto (-45), 3) := by decide +kernel
theorem dX9_escort_67 : decode cX9_escort 67 = .ok (.iconst (-1), 1) := by decide +kernel
theorem dX9_escort_68 : decode cX9_escort 68 = .ok (.ireturn, 1) := by decide +kernel
set_option maxRecDepth 20000 in
theorem ggX9_notice_X1_atHand : GoodIn wsX9_notice wsX1_atHand := goodIn_r _ [7, 8, 9, 10, 39, 40, 41, 42, 43, 44, 45, 46, 47, 48, 49, 50, 51, 52, 53] (by decide +kernel) (by decide +kernel)
set_option maxRecDepth 20000 in
theorem gX9_notice_X1_atHand : GoodIn wsX9_notice (wsV RX9 177 RX1 yX1_atHand wsX1_atHand) := goodIn_app (goodIn_of _ (by decide +kernel)) ggX9_notice_X1_atHand
theorem dX9_notice_0 : decode cX9_notice 0 = .ok (.iload_n 1, 1) := by decide +kernel
theorem dX9_notice_1 : decode cX9_notice 1 = .ok (.ifCond .ge 5, 3) := by decide +kernel
theorem dX9_notice_4 : decode cX9_notice 4 = .ok (.iconst (-1), 1) := by decide +kernel
theorem dX9_notice_5 : decode cX9_notice 5 = .ok (.ireturn, 1) := by decide +kernel
theorem dX9_notice_6 : decode cX9_notice 6 = .ok (.aload_n 0, 1) := by decide +kernel
theorem dX9_notice_7 : decode cX9_notice 7 = .ok (.getfield 21, 3) := by decide +kernel
theorem dX9_notice_10 : decode cX9_notice 10 = .ok (.invokevirtual 177, 3) := by decide +kernel
theorem dX9_notice_13 : decode cX9_notice 13 = .ok (.astore_n 2, 1) := by decide +kernel
theorem dX9_notice_14 : decode cX9_notice 14 = .ok (.iconst 0, 1) := by decide +kernel
theorem dX9_notice_15 : decode cX9_notice 15 = .ok (.istore_n 3, 1) := by decide +kernel
theorem dX9_notice_16 : decode cX9_notice 16 = .ok (.iconst 0, 1) := by decide +kernel
theorem dX9_notice_17 : decode cX9_notice 17 = .ok (.istore 4, 2) := by decide +kernel
theorem dX9_notice_19 : decode cX9_notice 19 = .ok (.iload 4, 2) := by decide +kernel
theorem dX9_notice_21 : decode cX9_notice 21 = .ok (.aload_n 2, 1) := by decide +kernel
theorem dX9_notice_22 : decode cX9_notice 22 = .ok (.getfield 222, 3) := by decide +kernel
theorem dX9_notice_25 : decode cX9_notice 25 = .ok (.if_icmp .ge 46, 3) := by decide +kernel
theorem dX9_notice_28 : decode cX9_notice 28 = .ok (.aload_n 0, 1) := by decide +kernel
theorem dX9_notice_29 : decode cX9_notice 29 = .ok (.getfield 12, 3) := by decide +kernel
theorem dX9_notice_32 : decode cX9_notice 32 = .ok (.getfield 52, 3) := by decide +kernel
theorem dX9_notice_35 : decode cX9_notice 35 = .ok (.aload_n 2, 1) := by decide +kernel
theorem dX9_notice_36 : decode cX9_notice 36 = .ok (.getfield 186, 3) := by decide +kernel
theorem dX9_notice_39 : decode cX9_notice 39 = .ok (.iload 4, 2) := by decide +kernel
theorem dX9_notice_41 : decode cX9_notice 41 = .ok (.iaload, 1) := by decide +kernel
theorem dX9_notice_42 : decode cX9_notice 42 = .ok (.aaload, 1) := by decide +kernel
theorem dX9_notice_43 : decode cX9_notice 43 = .ok (.getfield 68, 3) := by decide +kernel
theorem dX9_notice_46 : decode cX9_notice 46 = .ok (.istore 5, 2) := by decide +kernel
theorem dX9_notice_48 : decode cX9_notice 48 = .ok (.iload 5, 2) := by decide +kernel
theorem dX9_notice_50 : decode cX9_notice 50 = .ok (.iconst (-1), 1) := by decide +kernel
theorem dX9_notice_51 : decode cX9_notice 51 = .ok (.if_icmp .eq 14, 3) := by decide +kernel
theorem dX9_notice_54 : decode cX9_notice 54 = .ok (.iload_n 3, 1) := by decide +kernel
theorem dX9_notice_55 : decode cX9_notice 55 = .ok (.iinc 3 1, 3) := by decide +kernel
theorem dX9_notice_58 : decode cX9_notice 58 = .ok (.iload_n 1, 1) := by decide +kernel
theorem dX9_notice_59 : decode cX9_notice 59 = .ok (.if_icmp .ne 6, 3) := by decide +kernel
theorem dX9_notice_62 : decode cX9_notice 62 = .ok (.iload 5, 2) := by decide +kernel
theorem dX9_notice_64 : decode cX9_notice 64 = .ok (.ireturn, 1) := by decide +kernel
theorem dX9_notice_65 : decode cX9_notice 65 = .ok (.iinc 4 1, 3) := by decide +kernel
theorem dX9_notice_68 : decode cX9_notice 68 = .ok (.goto (-49), 3) := by decide +kernel
theorem dX9_notice_71 : decode cX9_notice 71 = .ok (.iconst (-1), 1) := by decide +kernel
theorem dX9_notice_72 : decode cX9_notice 72 = .ok (.ireturn, 1) := by decide +kernel
theorem dX9_record_0 : decode cX9_record 0 = .ok (.iload_n 1, 1) := by decide +kernel
theorem dX9_record_1 : decode cX9_record 1 = .ok (.ifCond .lt 20, 3) := by decide +kernel
theorem dX9_record_4 : decode cX9_record 4 = .ok (.iload_n 1, 1) := by decide +kernel
theorem dX9_record_5 : decode cX9_record 5 = .ok (.aload_n 0, 1) := by decide +kernel
theorem dX9_record_6 : decode cX9_record 6 = .ok (.getfield 174, 3) := by decide +kernel
theorem dX9_record_9 : decode cX9_record 9 = .ok (.if_icmp .ge 12, 3) := by decide +kernel
theorem dX9_record_12 : decode cX9_record 12 = .ok (.aload_n 0, 1) := by decide +kernel
theorem dX9_record_13 : decode cX9_record 13 = .ok (.getfield 25, 3) := by decide +kernel
theorem dX9_record_16 : decode cX9_record 16 = .ok (.iload_n 1, 1) := by decide +kernel
theorem dX9_record_17 : decode cX9_record 17 = .ok (.iaload, 1) := by decide +kernel
theorem dX9_record_18 : decode cX9_record 18 = .ok (.goto 5, 3) := by decide +kernel
theorem dX9_record_21 : decode cX9_record 21 = .ok (.bipush (-2), 2) := by decide +kernel
theorem dX9_record_23 : decode cX9_record 23 = .ok (.ireturn, 1) := by decide +kernel
set_option maxRecDepth 20000 in
theorem ggX9_change_X3_hasRoad : GoodIn wsX9_change wsX3_hasRoad := goodIn_r _ [7, 8, 19, 20, 21, 22, 23, 24, 25] (by decide +kernel) (by decide +kernel)
set_option maxRecDepth 20000 in
theorem gX9_change_X3_hasRoad : GoodIn wsX9_change (wsV RX9 62 RX3 yX3_hasRoad wsX3_hasRoad) := goodIn_app (goodIn_of _ (by decide +kernel)) ggX9_change_X3_hasRoad
set_option maxRecDepth 20000 in
theorem ggX9_change_X1_forget : GoodIn wsX9_change wsX1_forget := goodIn_r _ [13, 14, 37, 38, 39, 40, 41, 42, 43, 44, 45, 46, 47, 48, 49, 50, 51] (by decide +kernel) (by decide +kernel)
set_option maxRecDepth 20000 in
theorem gX9_change_X1_forget : GoodIn wsX9_change (wsV RX9 49 RX1 yX1_forget wsX1_forget) := goodIn_app (goodIn_of _ (by decide +kernel)) ggX9_change_X1_forget
theorem dX9_change_0 : decode cX9_change 0 = .ok (.aload_n 0, 1) := by decide +kernel
theorem dX9_change_1 : decode cX9_change 1 = .ok (.getfield 12, 3) := by decide +kernel
theorem dX9_change_4 : decode cX9_change 4 = .ok (.iload_n 1, 1) := by decide +kernel
theorem dX9_change_5 : decode cX9_change 5 = .ok (.invokevirtual 62, 3) := by decide +kernel
theorem dX9_change_8 : decode cX9_change 8 = .ok (.ifCond .ne 5, 3) := by decide +kernel
theorem dX9_change_11 : decode cX9_change 11 = .ok (.iconst (-1), 1) := by decide +kernel
theorem dX9_change_12 : decode cX9_change 12 = .ok (.ireturn, 1) := by decide +kernel
theorem dX9_change_13 : decode cX9_change 13 = .ok (.aload_n 0, 1) := by decide +kernel
theorem dX9_change_14 : decode cX9_change 14 = .ok (.getfield 21, 3) := by decide +kernel
theorem dX9_change_17 : decode cX9_change 17 = .ok (.invokevirtual 49, 3) := by decide +kernel
theorem dX9_change_20 : decode cX9_change 20 = .ok (.aload_n 0, 1) := by decide +kernel
theorem dX9_change_21 : decode cX9_change 21 = .ok (.getfield 12, 3) := by decide +kernel
theorem dX9_change_24 : decode cX9_change 24 = .ok (.getfield 52, 3) := by decide +kernel
theorem dX9_change_27 : decode cX9_change 27 = .ok (.iload_n 1, 1) := by decide +kernel
theorem dX9_change_28 : decode cX9_change 28 = .ok (.aaload, 1) := by decide +kernel
theorem dX9_change_29 : decode cX9_change 29 = .ok (.getfield 228, 3) := by decide +kernel
theorem dX9_change_32 : decode cX9_change 32 = .ok (.istore_n 3, 1) := by decide +kernel
theorem dX9_change_33 : decode cX9_change 33 = .ok (.aload_n 0, 1) := by decide +kernel
theorem dX9_change_34 : decode cX9_change 34 = .ok (.getfield 12, 3) := by decide +kernel
theorem dX9_change_37 : decode cX9_change 37 = .ok (.getfield 52, 3) := by decide +kernel
theorem dX9_change_40 : decode cX9_change 40 = .ok (.iload_n 1, 1) := by decide +kernel
theorem dX9_change_41 : decode cX9_change 41 = .ok (.aaload, 1) := by decide +kernel
theorem dX9_change_42 : decode cX9_change 42 = .ok (.iload_n 2, 1) := by decide +kernel
theorem dX9_change_43 : decode cX9_change 43 = .ok (.putfield 228, 3) := by decide +kernel
theorem dX9_change_46 : decode cX9_change 46 = .ok (.iload_n 3, 1) := by decide +kernel
theorem dX9_change_47 : decode cX9_change 47 = .ok (.ifCond .eq 7, 3) := by decide +kernel
theorem dX9_change_50 : decode cX9_change 50 = .ok (.iconst 1, 1) := by decide +kernel
theorem dX9_change_51 : decode cX9_change 51 = .ok (.goto 4, 3) := by decide +kernel
theorem dX9_change_54 : decode cX9_change 54 = .ok (.iconst 0, 1) := by decide +kernel
theorem dX9_change_55 : decode cX9_change 55 = .ok (.ireturn, 1) := by decide +kernel
set_option maxRecDepth 20000 in
theorem ggX9_count_X1_atHand : GoodIn wsX9_count wsX1_atHand := goodIn_r _ [7, 8, 9, 10, 149, 150, 151, 152, 153, 154, 155, 156, 157, 158, 159, 160, 161, 162, 163] (by decide +kernel) (by decide +kernel)
set_option maxRecDepth 20000 in
theorem gX9_count_X1_atHand : GoodIn wsX9_count (wsV RX9 177 RX1 yX1_atHand wsX1_atHand) := goodIn_app (goodIn_of _ (by decide +kernel)) ggX9_count_X1_atHand
set_option maxRecDepth 20000 in
theorem ggX9_count_X1_lookThrough : GoodIn wsX9_count wsX1_lookThrough := goodIn_r _ [14, 15, 16, 17, 18, 19, 20, 21, 22, 23, 24, 25, 26, 27, 28, 29, 30, 31, 32, 33, 34, 35, 36, 37, 38, 39, 40, 41, 42, 43, 44, 45, 46, 47, 48, 49, 50, 51, 52, 53, 54, 55, 56, 57, 58, 59, 6, 60, 61, 62, 63, 64, 65, 66, 67, 68, 69, 70, 71, 72, 73, 74, 75, 76, 77, 78, 79, 80, 81, 82, 83, 8, 9, 84, 85, 86, 87, 88, 89, 90, 91, 92, 93, 94, 95, 96, 97, 98, 99, 100, 101, 102, 103, 104, 105, 106, 107, 108, 109, 110, 111, 112, 113, 114, 115, 116, 117, 118, 119, 120, 121, 122, 123, 124, 125, 126, 149, 150, 151, 152, 153, 154, 155, 156, 157, 158, 159, 160, 161, 162, 163, 131, 132, 133, 134, 135, 136, 137, 164, 165, 166, 167, 168, 169, 170, 171, 172, 173, 174, 138, 139, 140, 141, 142, 175, 176, 177, 178, 179, 180, 181, 182, 143, 144, 145, 146, 147, 148] (by decide +kernel) (by decide +kernel)
set_option maxRecDepth 20000 in
theorem gX9_count_X1_lookThrough : GoodIn wsX9_count (wsV RX9 167 RX1 yX1_lookThrough wsX1_lookThrough) := goodIn_app (goodIn_of _ (by decide +kernel)) ggX9_count_X1_lookThrough
theorem dX9_count_0 : decode cX9_count 0 = .ok (.iload_n 1, 1) := by decide +kernel
theorem dX9_count_1 : decode cX9_count 1 = .ok (.tableswitch 112 0 6 #[43, 51, 59, 67, 78, 89, 97], 43) := by decide +kernel
theorem dX9_count_44 : decode cX9_count 44 = .ok (.aload_n 0, 1) := by decide +kernel
theorem dX9_count_45 : decode cX9_count 45 = .ok (.getfield 12, 3) := by decide +kernel
theorem dX9_count_48 : decode cX9_count 48 = .ok (.getfield 29, 3) := by decide +kernel
theorem dX9_count_51 : decode cX9_count 51 = .ok (.ireturn, 1) := by decide +kernel
theorem dX9_count_52 : decode cX9_count 52 = .ok (.aload_n 0, 1) := by decide +kernel
theorem dX9_count_53 : decode cX9_count 53 = .ok (.getfield 12, 3) := by decide +kernel
theorem dX9_count_56 : decode cX9_count 56 = .ok (.getfield 33, 3) := by decide +kernel
theorem dX9_count_59 : decode cX9_count 59 = .ok (.ireturn, 1) := by decide +kernel
theorem dX9_count_60 : decode cX9_count 60 = .ok (.aload_n 0, 1) := by decide +kernel
theorem dX9_count_61 : decode cX9_count 61 = .ok (.getfield 12, 3) := by decide +kernel
theorem dX9_count_64 : decode cX9_count 64 = .ok (.getfield 65, 3) := by decide +kernel
theorem dX9_count_67 : decode cX9_count 67 = .ok (.ireturn, 1) := by decide +kernel
theorem dX9_count_68 : decode cX9_count 68 = .ok (.aload_n 0, 1) := by decide +kernel
theorem dX9_count_69 : decode cX9_count 69 = .ok (.getfield 12, 3) := by decide +kernel
theorem dX9_count_72 : decode cX9_count 72 = .ok (.getfield 96, 3) := by decide +kernel
theorem dX9_count_75 : decode cX9_count 75 = .ok (.getfield 231, 3) := by decide +kernel
theorem dX9_count_78 : decode cX9_count 78 = .ok (.ireturn, 1) := by decide +kernel
theorem dX9_count_79 : decode cX9_count 79 = .ok (.aload_n 0, 1) := by decide +kernel
theorem dX9_count_80 : decode cX9_count 80 = .ok (.getfield 21, 3) := by decide +kernel
theorem dX9_count_83 : decode cX9_count 83 = .ok (.invokevirtual 177, 3) := by decide +kernel
theorem dX9_count_86 : decode cX9_count 86 = .ok (.getfield 222, 3) := by decide +kernel
theorem dX9_count_89 : decode cX9_count 89 = .ok (.ireturn, 1) := by decide +kernel
theorem dX9_count_90 : decode cX9_count 90 = .ok (.aload_n 0, 1) := by decide +kernel
theorem dX9_count_91 : decode cX9_count 91 = .ok (.getfield 21, 3) := by decide +kernel
theorem dX9_count_94 : decode cX9_count 94 = .ok (.getfield 197, 3) := by decide +kernel
theorem dX9_count_97 : decode cX9_count 97 = .ok (.ireturn, 1) := by decide +kernel
theorem dX9_count_98 : decode cX9_count 98 = .ok (.aload_n 0, 1) := by decide +kernel
theorem dX9_count_99 : decode cX9_count 99 = .ok (.getfield 21, 3) := by decide +kernel
theorem dX9_count_102 : decode cX9_count 102 = .ok (.invokevirtual 167, 3) := by decide +kernel
theorem dX9_count_105 : decode cX9_count 105 = .ok (.aload_n 0, 1) := by decide +kernel
theorem dX9_count_106 : decode cX9_count 106 = .ok (.getfield 21, 3) := by decide +kernel
theorem dX9_count_109 : decode cX9_count 109 = .ok (.getfield 234, 3) := by decide +kernel
theorem dX9_count_112 : decode cX9_count 112 = .ok (.ireturn, 1) := by decide +kernel
theorem dX9_count_113 : decode cX9_count 113 = .ok (.iconst (-1), 1) := by decide +kernel
theorem dX9_count_114 : decode cX9_count 114 = .ok (.ireturn, 1) := by decide +kernel
theorem dX9_isWithin_0 : decode cX9_isWithin 0 = .ok (.lload_n 2, 1) := by decide +kernel
theorem dX9_isWithin_1 : decode cX9_isWithin 1 = .ok (.lload_n 0, 1) := by decide +kernel
theorem dX9_isWithin_2 : decode cX9_isWithin 2 = .ok (.lcmp, 1) := by decide +kernel
theorem dX9_isWithin_3 : decode cX9_isWithin 3 = .ok (.ifCond .gt 14, 3) := by decide +kernel
theorem dX9_isWithin_6 : decode cX9_isWithin 6 = .ok (.lload_n 0, 1) := by decide +kernel
theorem dX9_isWithin_7 : decode cX9_isWithin 7 = .ok (.lload 4, 2) := by decide +kernel
theorem dX9_isWithin_9 : decode cX9_isWithin 9 = .ok (.lcmp, 1) := by decide +kernel
theorem dX9_isWithin_10 : decode cX9_isWithin 10 = .ok (.ifCond .gt 7, 3) := by decide +kernel
theorem dX9_isWithin_13 : decode cX9_isWithin 13 = .ok (.iconst 1, 1) := by decide +kernel
theorem dX9_isWithin_14 : decode cX9_isWithin 14 = .ok (.goto 4, 3) := by decide +kernel
theorem dX9_isWithin_17 : decode cX9_isWithin 17 = .ok (.iconst 0, 1) := by decide +kernel
theorem dX9_isWithin_18 : decode cX9_isWithin 18 = .ok (.ireturn, 1) := by decide +kernel
set_option maxRecDepth 20000 in
theorem ggX9_isSize_X9_isWithin : GoodIn wsX9_isSize wsX9_isWithin := goodIn_r _ [5] (by decide +kernel) (by decide +kernel)
set_option maxRecDepth 20000 in
theorem gX9_isSize_X9_isWithin : GoodIn wsX9_isSize (va_wsS RX9 42 yX9_isWithin wsX9_isWithin) := goodIn_app (goodIn_of _ (by decide +kernel)) ggX9_isSize_X9_isWithin
theorem dX9_isSize_0 : decode cX9_isSize 0 = .ok (.iload_n 0, 1) := by decide +kernel
theorem dX9_isSize_1 : decode cX9_isSize 1 = .ok (.i2l, 1) := by decide +kernel
theorem dX9_isSize_2 : decode cX9_isSize 2 = .ok (.lconst 1, 1) := by decide +kernel
theorem dX9_isSize_3 : decode cX9_isSize 3 = .ok (.ldc2_w 237, 3) := by decide +kernel
theorem dX9_isSize_6 : decode cX9_isSize 6 = .ok (.invokestatic 42, 3) := by decide +kernel
theorem dX9_isSize_9 : decode cX9_isSize 9 = .ok (.ireturn, 1) := by decide +kernel
