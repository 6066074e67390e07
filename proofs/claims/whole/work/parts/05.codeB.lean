set_option maxRecDepth 20000 in
theorem ggX1_init_X7_init : GoodIn wsX1_init wsX7_init := goodIn_r _ [13, 14, 2, 3, 15, 16, 17, 33, 34, 35, 36, 37, 38] (by decide +kernel) (by decide +kernel)
set_option maxRecDepth 20000 in
theorem gX1_init_X7_init_n17 : GoodIn wsX1_init (wsX7_init) := ggX1_init_X7_init
theorem dX1_init_0 : decode cX1_init 0 = .ok (.aload_n 0, 1) := by decide +kernel
theorem dX1_init_1 : decode cX1_init 1 = .ok (.invokespecial 3, 3) := by decide +kernel
theorem dX1_init_4 : decode cX1_init 4 = .ok (.aload_n 0, 1) := by decide +kernel
theorem dX1_init_5 : decode cX1_init 5 = .ok (.iconst 5, 1) := by decide +kernel
theorem dX1_init_6 : decode cX1_init 6 = .ok (.anewarray 9, 3) := by decide +kernel
theorem dX1_init_9 : decode cX1_init 9 = .ok (.putfield 11, 3) := by decide +kernel
theorem dX1_init_12 : decode cX1_init 12 = .ok (.aload_n 0, 1) := by decide +kernel
theorem dX1_init_13 : decode cX1_init 13 = .ok (.new 9, 3) := by decide +kernel
theorem dX1_init_16 : decode cX1_init 16 = .ok (.dup, 1) := by decide +kernel
theorem dX1_init_17 : decode cX1_init 17 = .ok (.invokespecial 17, 3) := by decide +kernel
theorem dX1_init_20 : decode cX1_init 20 = .ok (.putfield 18, 3) := by decide +kernel
theorem dX1_init_23 : decode cX1_init 23 = .ok (.aload_n 0, 1) := by decide +kernel
theorem dX1_init_24 : decode cX1_init 24 = .ok (.new 9, 3) := by decide +kernel
theorem dX1_init_27 : decode cX1_init 27 = .ok (.dup, 1) := by decide +kernel
theorem dX1_init_28 : decode cX1_init 28 = .ok (.invokespecial 17, 3) := by decide +kernel
theorem dX1_init_31 : decode cX1_init 31 = .ok (.putfield 22, 3) := by decide +kernel
theorem dX1_init_34 : decode cX1_init 34 = .ok (.aload_n 0, 1) := by decide +kernel
theorem dX1_init_35 : decode cX1_init 35 = .ok (.new 9, 3) := by decide +kernel
theorem dX1_init_38 : decode cX1_init 38 = .ok (.dup, 1) := by decide +kernel
theorem dX1_init_39 : decode cX1_init 39 = .ok (.invokespecial 17, 3) := by decide +kernel
theorem dX1_init_42 : decode cX1_init 42 = .ok (.putfield 25, 3) := by decide +kernel
theorem dX1_init_45 : decode cX1_init 45 = .ok (.aload_n 0, 1) := by decide +kernel
theorem dX1_init_46 : decode cX1_init 46 = .ok (.aload_n 1, 1) := by decide +kernel
theorem dX1_init_47 : decode cX1_init 47 = .ok (.putfield 28, 3) := by decide +kernel
theorem dX1_init_50 : decode cX1_init 50 = .ok (.iconst 0, 1) := by decide +kernel
theorem dX1_init_51 : decode cX1_init 51 = .ok (.istore_n 2, 1) := by decide +kernel
theorem dX1_init_52 : decode cX1_init 52 = .ok (.iload_n 2, 1) := by decide +kernel
theorem dX1_init_53 : decode cX1_init 53 = .ok (.iconst 5, 1) := by decide +kernel
theorem dX1_init_54 : decode cX1_init 54 = .ok (.if_icmp .ge 22, 3) := by decide +kernel
theorem dX1_init_57 : decode cX1_init 57 = .ok (.aload_n 0, 1) := by decide +kernel
theorem dX1_init_58 : decode cX1_init 58 = .ok (.getfield 11, 3) := by decide +kernel
theorem dX1_init_61 : decode cX1_init 61 = .ok (.iload_n 2, 1) := by decide +kernel
theorem dX1_init_62 : decode cX1_init 62 = .ok (.new 9, 3) := by decide +kernel
theorem dX1_init_65 : decode cX1_init 65 = .ok (.dup, 1) := by decide +kernel
theorem dX1_init_66 : decode cX1_init 66 = .ok (.invokespecial 17, 3) := by decide +kernel
theorem dX1_init_69 : decode cX1_init 69 = .ok (.aastore, 1) := by decide +kernel
theorem dX1_init_70 : decode cX1_init 70 = .ok (.iinc 2 1, 3) := by decide +kernel
theorem dX1_init_73 : decode cX1_init 73 = .ok (.goto (-21), 3) := by decide +kernel
theorem dX1_init_76 : decode cX1_init 76 = .ok (.return_, 1) := by decide +kernel
theorem dX1_forget_0 : decode cX1_forget 0 = .ok (.aload_n 0, 1) := by decide +kernel
theorem dX1_forget_1 : decode cX1_forget 1 = .ok (.iconst 0, 1) := by decide +kernel
theorem dX1_forget_2 : decode cX1_forget 2 = .ok (.putfield 32, 3) := by decide +kernel
theorem dX1_forget_5 : decode cX1_forget 5 = .ok (.return_, 1) := by decide +kernel
theorem dX1_atHand_0 : decode cX1_atHand 0 = .ok (.aload_n 0, 1) := by decide +kernel
theorem dX1_atHand_1 : decode cX1_atHand 1 = .ok (.getfield 32, 3) := by decide +kernel
theorem dX1_atHand_4 : decode cX1_atHand 4 = .ok (.ifCond .le 17, 3) := by decide +kernel
theorem dX1_atHand_7 : decode cX1_atHand 7 = .ok (.aload_n 0, 1) := by decide +kernel
theorem dX1_atHand_8 : decode cX1_atHand 8 = .ok (.getfield 11, 3) := by decide +kernel
theorem dX1_atHand_11 : decode cX1_atHand 11 = .ok (.aload_n 0, 1) := by decide +kernel
theorem dX1_atHand_12 : decode cX1_atHand 12 = .ok (.getfield 32, 3) := by decide +kernel
theorem dX1_atHand_15 : decode cX1_atHand 15 = .ok (.iconst 1, 1) := by decide +kernel
theorem dX1_atHand_16 : decode cX1_atHand 16 = .ok (.isub, 1) := by decide +kernel
theorem dX1_atHand_17 : decode cX1_atHand 17 = .ok (.aaload, 1) := by decide +kernel
theorem dX1_atHand_18 : decode cX1_atHand 18 = .ok (.goto 7, 3) := by decide +kernel
theorem dX1_atHand_21 : decode cX1_atHand 21 = .ok (.aload_n 0, 1) := by decide +kernel
theorem dX1_atHand_22 : decode cX1_atHand 22 = .ok (.getfield 18, 3) := by decide +kernel
theorem dX1_atHand_25 : decode cX1_atHand 25 = .ok (.areturn, 1) := by decide +kernel
set_option maxRecDepth 20000 in
theorem ggX1_begin_X1_forget : GoodIn wsX1_begin wsX1_forget := goodIn_r _ [9, 10, 11, 12, 13, 14, 15, 16, 17, 18, 19, 20, 21, 22, 23, 24, 25] (by decide +kernel) (by decide +kernel)
set_option maxRecDepth 20000 in
theorem gX1_begin_X1_forget : GoodIn wsX1_begin (wsV RX1 36 RX1 yX1_forget wsX1_forget) := goodIn_app (goodIn_of _ (by decide +kernel)) ggX1_begin_X1_forget
theorem dX1_begin_0 : decode cX1_begin 0 = .ok (.aload_n 0, 1) := by decide +kernel
theorem dX1_begin_1 : decode cX1_begin 1 = .ok (.invokevirtual 36, 3) := by decide +kernel
theorem dX1_begin_4 : decode cX1_begin 4 = .ok (.aload_n 0, 1) := by decide +kernel
theorem dX1_begin_5 : decode cX1_begin 5 = .ok (.iconst 1, 1) := by decide +kernel
theorem dX1_begin_6 : decode cX1_begin 6 = .ok (.putfield 39, 3) := by decide +kernel
theorem dX1_begin_9 : decode cX1_begin 9 = .ok (.aload_n 0, 1) := by decide +kernel
theorem dX1_begin_10 : decode cX1_begin 10 = .ok (.iload_n 1, 1) := by decide +kernel
theorem dX1_begin_11 : decode cX1_begin 11 = .ok (.putfield 43, 3) := by decide +kernel
theorem dX1_begin_14 : decode cX1_begin 14 = .ok (.aload_n 0, 1) := by decide +kernel
theorem dX1_begin_15 : decode cX1_begin 15 = .ok (.iload_n 2, 1) := by decide +kernel
theorem dX1_begin_16 : decode cX1_begin 16 = .ok (.putfield 46, 3) := by decide +kernel
theorem dX1_begin_19 : decode cX1_begin 19 = .ok (.aload_n 0, 1) := by decide +kernel
theorem dX1_begin_20 : decode cX1_begin 20 = .ok (.iload_n 3, 1) := by decide +kernel
theorem dX1_begin_21 : decode cX1_begin 21 = .ok (.putfield 49, 3) := by decide +kernel
theorem dX1_begin_24 : decode cX1_begin 24 = .ok (.return_, 1) := by decide +kernel
theorem dX1_limitSharing_0 : decode cX1_limitSharing 0 = .ok (.aload_n 0, 1) := by decide +kernel
theorem dX1_limitSharing_1 : decode cX1_limitSharing 1 = .ok (.lload_n 3, 1) := by decide +kernel
theorem dX1_limitSharing_2 : decode cX1_limitSharing 2 = .ok (.lconst 1, 1) := by decide +kernel
theorem dX1_limitSharing_3 : decode cX1_limitSharing 3 = .ok (.lcmp, 1) := by decide +kernel
theorem dX1_limitSharing_4 : decode cX1_limitSharing 4 = .ok (.ifCond .ge 7, 3) := by decide +kernel
theorem dX1_limitSharing_7 : decode cX1_limitSharing 7 = .ok (.iconst 0, 1) := by decide +kernel
theorem dX1_limitSharing_8 : decode cX1_limitSharing 8 = .ok (.goto 18, 3) := by decide +kernel
theorem dX1_limitSharing_11 : decode cX1_limitSharing 11 = .ok (.aload_n 0, 1) := by decide +kernel
theorem dX1_limitSharing_12 : decode cX1_limitSharing 12 = .ok (.getfield 11, 3) := by decide +kernel
theorem dX1_limitSharing_15 : decode cX1_limitSharing 15 = .ok (.iconst 0, 1) := by decide +kernel
theorem dX1_limitSharing_16 : decode cX1_limitSharing 16 = .ok (.aaload, 1) := by decide +kernel
theorem dX1_limitSharing_17 : decode cX1_limitSharing 17 = .ok (.getfield 52, 3) := by decide +kernel
theorem dX1_limitSharing_20 : decode cX1_limitSharing 20 = .ok (.i2l, 1) := by decide +kernel
theorem dX1_limitSharing_21 : decode cX1_limitSharing 21 = .ok (.lload_n 1, 1) := by decide +kernel
theorem dX1_limitSharing_22 : decode cX1_limitSharing 22 = .ok (.lmul, 1) := by decide +kernel
theorem dX1_limitSharing_23 : decode cX1_limitSharing 23 = .ok (.lload_n 3, 1) := by decide +kernel
theorem dX1_limitSharing_24 : decode cX1_limitSharing 24 = .ok (.ldiv, 1) := by decide +kernel
theorem dX1_limitSharing_25 : decode cX1_limitSharing 25 = .ok (.l2i, 1) := by decide +kernel
theorem dX1_limitSharing_26 : decode cX1_limitSharing 26 = .ok (.putfield 55, 3) := by decide +kernel
theorem dX1_limitSharing_29 : decode cX1_limitSharing 29 = .ok (.return_, 1) := by decide +kernel
set_option maxRecDepth 20000 in
theorem ggX1_keepBest_X7_copyFrom : GoodIn wsX1_keepBest wsX7_copyFrom := goodIn_r _ [10, 11, 12, 13, 14, 15, 16, 32, 33, 34, 35, 36, 37] (by decide +kernel) (by decide +kernel)
set_option maxRecDepth 20000 in
theorem gX1_keepBest_X7_copyFrom : GoodIn wsX1_keepBest (wsV RX1 61 RX7 yX7_copyFrom wsX7_copyFrom) := goodIn_app (goodIn_of _ (by decide +kernel)) ggX1_keepBest_X7_copyFrom
theorem dX1_keepBest_0 : decode cX1_keepBest 0 = .ok (.aload_n 0, 1) := by decide +kernel
theorem dX1_keepBest_1 : decode cX1_keepBest 1 = .ok (.getfield 58, 3) := by decide +kernel
theorem dX1_keepBest_4 : decode cX1_keepBest 4 = .ok (.ifCond .eq 11, 3) := by decide +kernel
theorem dX1_keepBest_7 : decode cX1_keepBest 7 = .ok (.aload_n 0, 1) := by decide +kernel
theorem dX1_keepBest_8 : decode cX1_keepBest 8 = .ok (.getfield 32, 3) := by decide +kernel
theorem dX1_keepBest_11 : decode cX1_keepBest 11 = .ok (.iconst 5, 1) := by decide +kernel
theorem dX1_keepBest_12 : decode cX1_keepBest 12 = .ok (.if_icmp .lt 5, 3) := by decide +kernel
theorem dX1_keepBest_15 : decode cX1_keepBest 15 = .ok (.iconst (-1), 1) := by decide +kernel
theorem dX1_keepBest_16 : decode cX1_keepBest 16 = .ok (.ireturn, 1) := by decide +kernel
theorem dX1_keepBest_17 : decode cX1_keepBest 17 = .ok (.aload_n 0, 1) := by decide +kernel
theorem dX1_keepBest_18 : decode cX1_keepBest 18 = .ok (.getfield 11, 3) := by decide +kernel
theorem dX1_keepBest_21 : decode cX1_keepBest 21 = .ok (.aload_n 0, 1) := by decide +kernel
theorem dX1_keepBest_22 : decode cX1_keepBest 22 = .ok (.getfield 32, 3) := by decide +kernel
theorem dX1_keepBest_25 : decode cX1_keepBest 25 = .ok (.aaload, 1) := by decide +kernel
theorem dX1_keepBest_26 : decode cX1_keepBest 26 = .ok (.aload_n 0, 1) := by decide +kernel
theorem dX1_keepBest_27 : decode cX1_keepBest 27 = .ok (.getfield 25, 3) := by decide +kernel
theorem dX1_keepBest_30 : decode cX1_keepBest 30 = .ok (.invokevirtual 61, 3) := by decide +kernel
theorem dX1_keepBest_33 : decode cX1_keepBest 33 = .ok (.aload_n 0, 1) := by decide +kernel
theorem dX1_keepBest_34 : decode cX1_keepBest 34 = .ok (.dup, 1) := by decide +kernel
theorem dX1_keepBest_35 : decode cX1_keepBest 35 = .ok (.getfield 32, 3) := by decide +kernel
theorem dX1_keepBest_38 : decode cX1_keepBest 38 = .ok (.iconst 1, 1) := by decide +kernel
theorem dX1_keepBest_39 : decode cX1_keepBest 39 = .ok (.iadd, 1) := by decide +kernel
theorem dX1_keepBest_40 : decode cX1_keepBest 40 = .ok (.putfield 32, 3) := by decide +kernel
theorem dX1_keepBest_43 : decode cX1_keepBest 43 = .ok (.aload_n 0, 1) := by decide +kernel
theorem dX1_keepBest_44 : decode cX1_keepBest 44 = .ok (.getfield 25, 3) := by decide +kernel
theorem dX1_keepBest_47 : decode cX1_keepBest 47 = .ok (.getfield 65, 3) := by decide +kernel
theorem dX1_keepBest_50 : decode cX1_keepBest 50 = .ok (.aload_n 0, 1) := by decide +kernel
theorem dX1_keepBest_51 : decode cX1_keepBest 51 = .ok (.getfield 49, 3) := by decide +kernel
theorem dX1_keepBest_54 : decode cX1_keepBest 54 = .ok (.isub, 1) := by decide +kernel
theorem dX1_keepBest_55 : decode cX1_keepBest 55 = .ok (.ireturn, 1) := by decide +kernel
set_option maxRecDepth 20000 in
theorem ggX1_lookThrough_X3_usableRoads : GoodIn wsX1_lookThrough wsX3_usableRoads := goodIn_r _ [13, 14, 15, 16, 17, 18, 12, 19, 20, 21, 22, 23, 24, 25, 26, 27, 28, 29, 30, 31, 32, 33, 34, 35, 36, 37, 38, 39, 40, 41, 42, 131, 132, 133, 134, 135, 136, 137, 138, 139, 140, 141, 142, 143, 144, 145, 146, 147, 148, 149, 150, 151, 152, 153, 154, 155, 156, 157, 158, 159, 160, 161] (by decide +kernel) (by decide +kernel)
set_option maxRecDepth 20000 in
theorem gX1_lookThrough_X3_usableRoads : GoodIn wsX1_lookThrough (wsV RX1 68 RX3 yX3_usableRoads wsX3_usableRoads) := goodIn_app (goodIn_of _ (by decide +kernel)) ggX1_lookThrough_X3_usableRoads
set_option maxRecDepth 20000 in
theorem ggX1_lookThrough_X1_goOn : GoodIn wsX1_lookThrough wsX1_goOn := goodIn_r _ [47, 48, 1, 49, 50, 51, 46, 52, 5, 53, 6, 54, 55, 56, 57, 12, 58, 15, 59, 60, 61, 62, 63, 64, 65, 66, 67, 68, 69, 70, 71, 72, 73, 74, 75, 76, 77, 78, 79, 80, 81, 82, 83, 84, 85, 86, 87, 88, 89, 90, 91, 92, 93, 94, 95, 4, 2, 96, 97, 98, 30, 99, 100, 101, 102, 103, 104, 105, 106, 107, 108, 109, 110, 111, 28, 29, 31, 32, 33, 34, 35, 36, 37, 38, 39, 40, 41, 42, 112, 113, 114, 115, 21, 22, 23, 24, 25, 26, 43, 44, 45, 116, 117, 118, 119, 120, 121, 122, 123, 124, 125, 126, 127, 128, 129, 130, 131, 132, 133, 134, 135, 136, 137, 162, 163, 164, 165, 166, 167, 138, 139, 140, 141, 142, 143, 144, 145, 146, 147, 148, 154, 155, 156, 157, 158, 159, 160, 161] (by decide +kernel) (by decide +kernel)
set_option maxRecDepth 20000 in
theorem gX1_lookThrough_X1_goOn : GoodIn wsX1_lookThrough (wsV RX1 83 RX1 yX1_goOn wsX1_goOn) := goodIn_app (goodIn_of _ (by decide +kernel)) ggX1_lookThrough_X1_goOn
theorem dX1_lookThrough_0 : decode cX1_lookThrough 0 = .ok (.aload_n 0, 1) := by decide +kernel
theorem dX1_lookThrough_1 : decode cX1_lookThrough 1 = .ok (.aload_n 0, 1) := by decide +kernel
theorem dX1_lookThrough_2 : decode cX1_lookThrough 2 = .ok (.getfield 28, 3) := by decide +kernel
theorem dX1_lookThrough_5 : decode cX1_lookThrough 5 = .ok (.invokevirtual 68, 3) := by decide +kernel
theorem dX1_lookThrough_8 : decode cX1_lookThrough 8 = .ok (.putfield 74, 3) := by decide +kernel
theorem dX1_lookThrough_11 : decode cX1_lookThrough 11 = .ok (.aload_n 0, 1) := by decide +kernel
theorem dX1_lookThrough_12 : decode cX1_lookThrough 12 = .ok (.iconst 1, 1) := by decide +kernel
theorem dX1_lookThrough_13 : decode cX1_lookThrough 13 = .ok (.aload_n 0, 1) := by decide +kernel
theorem dX1_lookThrough_14 : decode cX1_lookThrough 14 = .ok (.getfield 43, 3) := by decide +kernel
theorem dX1_lookThrough_17 : decode cX1_lookThrough 17 = .ok (.ishl, 1) := by decide +kernel
theorem dX1_lookThrough_18 : decode cX1_lookThrough 18 = .ok (.putfield 77, 3) := by decide +kernel
theorem dX1_lookThrough_21 : decode cX1_lookThrough 21 = .ok (.aload_n 0, 1) := by decide +kernel
theorem dX1_lookThrough_22 : decode cX1_lookThrough 22 = .ok (.iconst 0, 1) := by decide +kernel
theorem dX1_lookThrough_23 : decode cX1_lookThrough 23 = .ok (.putfield 80, 3) := by decide +kernel
theorem dX1_lookThrough_26 : decode cX1_lookThrough 26 = .ok (.aload_n 0, 1) := by decide +kernel
theorem dX1_lookThrough_27 : decode cX1_lookThrough 27 = .ok (.iconst 0, 1) := by decide +kernel
theorem dX1_lookThrough_28 : decode cX1_lookThrough 28 = .ok (.putfield 58, 3) := by decide +kernel
theorem dX1_lookThrough_31 : decode cX1_lookThrough 31 = .ok (.aload_n 0, 1) := by decide +kernel
theorem dX1_lookThrough_32 : decode cX1_lookThrough 32 = .ok (.getfield 39, 3) := by decide +kernel
theorem dX1_lookThrough_35 : decode cX1_lookThrough 35 = .ok (.ifCond .eq 16, 3) := by decide +kernel
theorem dX1_lookThrough_38 : decode cX1_lookThrough 38 = .ok (.aload_n 0, 1) := by decide +kernel
theorem dX1_lookThrough_39 : decode cX1_lookThrough 39 = .ok (.aload_n 0, 1) := by decide +kernel
theorem dX1_lookThrough_40 : decode cX1_lookThrough 40 = .ok (.getfield 43, 3) := by decide +kernel
theorem dX1_lookThrough_43 : decode cX1_lookThrough 43 = .ok (.aload_n 0, 1) := by decide +kernel
theorem dX1_lookThrough_44 : decode cX1_lookThrough 44 = .ok (.getfield 49, 3) := by decide +kernel
theorem dX1_lookThrough_47 : decode cX1_lookThrough 47 = .ok (.iconst 0, 1) := by decide +kernel
theorem dX1_lookThrough_48 : decode cX1_lookThrough 48 = .ok (.invokevirtual 83, 3) := by decide +kernel
theorem dX1_lookThrough_51 : decode cX1_lookThrough 51 = .ok (.return_, 1) := by decide +kernel
set_option maxRecDepth 20000 in
theorem ggX1_goOn_X1_consider : GoodIn wsX1_goOn wsX1_consider := goodIn_r _ [7, 8, 9, 2, 10, 11, 12, 13, 14, 15, 16, 17, 18, 19, 20, 21, 22, 23, 24, 25, 26, 27, 28, 6, 29, 30, 31, 32, 33, 34, 35, 36, 37, 38, 39, 40, 41, 42, 43, 44, 45, 46, 47, 48, 49, 50, 101, 102, 103, 104, 105, 106, 107, 108, 109, 110, 111, 112, 113, 114, 115, 123, 124, 125, 126, 127, 128, 116, 117, 118, 119, 120, 121, 122, 129, 130, 131, 132, 133, 134, 135, 136, 137, 138, 139] (by decide +kernel) (by decide +kernel)
set_option maxRecDepth 20000 in
theorem gX1_goOn_X1_consider : GoodIn wsX1_goOn (wsV RX1 87 RX1 yX1_consider wsX1_consider) := goodIn_app (goodIn_of _ (by decide +kernel)) ggX1_goOn_X1_consider
set_option maxRecDepth 20000 in
theorem ggX1_goOn_X1_canTake : GoodIn wsX1_goOn wsX1_canTake := goodIn_r _ [54, 2, 55, 56, 9, 57, 58, 59, 60, 61, 62, 63, 64, 65, 66, 67, 68, 101, 102, 103, 104, 105, 106, 107, 108, 109, 110, 111, 112, 113, 114, 115, 116, 117, 118, 119, 120, 121, 122, 123, 124, 125, 126, 127, 128, 129, 130, 131, 132, 133, 134, 135, 136, 137, 138, 139] (by decide +kernel) (by decide +kernel)
set_option maxRecDepth 20000 in
theorem gX1_goOn_X1_canTake : GoodIn wsX1_goOn (wsV RX1 94 RX1 yX1_canTake wsX1_canTake) := goodIn_app (goodIn_of _ (by decide +kernel)) ggX1_goOn_X1_canTake
set_option maxRecDepth 20000 in
theorem ggX1_goOn_X1_take : GoodIn wsX1_goOn wsX1_take := goodIn_r _ [72, 2, 9, 55, 57, 58, 59, 60, 61, 62, 63, 73, 74, 75, 76, 77, 78, 79, 80, 81, 82, 83, 84, 85, 86, 87, 88, 89, 90, 15, 91, 17, 92, 93, 94, 95, 96, 97, 98, 99, 100, 6, 0, 1, 3, 4, 5, 7, 8, 10, 11, 12, 13, 14, 16, 18, 19, 20, 21, 22, 23, 24, 25, 26, 27, 28, 29, 30, 31, 32, 33, 34, 35, 36, 37, 38, 39, 40, 41, 42, 43, 44, 45, 46, 47, 48, 49, 50, 51, 52, 53, 54, 56, 64, 65, 66, 67, 68, 69, 70, 71, 101, 102, 103, 104, 105, 106, 107, 108, 109, 110, 111, 112, 113, 114, 115, 116, 117, 118, 119, 120, 121, 122, 123, 124, 125, 126, 127, 128, 129, 130, 131, 132, 133, 134, 135, 136, 137, 138, 139, 140, 141, 142, 143, 144, 145, 146, 147] (by decide +kernel) (by decide +kernel)
set_option maxRecDepth 20000 in
theorem gX1_goOn_X1_take : GoodIn wsX1_goOn (wsV RX1 98 RX1 yX1_take wsX1_take) := goodIn_app (goodIn_of _ (by decide +kernel)) ggX1_goOn_X1_take
theorem dX1_goOn_0 : decode cX1_goOn 0 = .ok (.iload_n 1, 1) := by decide +kernel
theorem dX1_goOn_1 : decode cX1_goOn 1 = .ok (.aload_n 0, 1) := by decide +kernel
theorem dX1_goOn_2 : decode cX1_goOn 2 = .ok (.getfield 46, 3) := by decide +kernel
theorem dX1_goOn_5 : decode cX1_goOn 5 = .ok (.if_icmp .ne 10, 3) := by decide +kernel
theorem dX1_goOn_8 : decode cX1_goOn 8 = .ok (.aload_n 0, 1) := by decide +kernel
theorem dX1_goOn_9 : decode cX1_goOn 9 = .ok (.iload_n 2, 1) := by decide +kernel
theorem dX1_goOn_10 : decode cX1_goOn 10 = .ok (.iload_n 3, 1) := by decide +kernel
theorem dX1_goOn_11 : decode cX1_goOn 11 = .ok (.invokevirtual 87, 3) := by decide +kernel
theorem dX1_goOn_14 : decode cX1_goOn 14 = .ok (.return_, 1) := by decide +kernel
theorem dX1_goOn_15 : decode cX1_goOn 15 = .ok (.iload_n 3, 1) := by decide +kernel
theorem dX1_goOn_16 : decode cX1_goOn 16 = .ok (.bipush 6, 2) := by decide +kernel
theorem dX1_goOn_18 : decode cX1_goOn 18 = .ok (.if_icmp .lt 4, 3) := by decide +kernel
theorem dX1_goOn_21 : decode cX1_goOn 21 = .ok (.return_, 1) := by decide +kernel
theorem dX1_goOn_22 : decode cX1_goOn 22 = .ok (.iconst 0, 1) := by decide +kernel
theorem dX1_goOn_23 : decode cX1_goOn 23 = .ok (.istore 4, 2) := by decide +kernel
theorem dX1_goOn_25 : decode cX1_goOn 25 = .ok (.iload 4, 2) := by decide +kernel
theorem dX1_goOn_27 : decode cX1_goOn 27 = .ok (.aload_n 0, 1) := by decide +kernel
theorem dX1_goOn_28 : decode cX1_goOn 28 = .ok (.getfield 28, 3) := by decide +kernel
theorem dX1_goOn_31 : decode cX1_goOn 31 = .ok (.getfield 91, 3) := by decide +kernel
theorem dX1_goOn_34 : decode cX1_goOn 34 = .ok (.if_icmp .ge 29, 3) := by decide +kernel
theorem dX1_goOn_37 : decode cX1_goOn 37 = .ok (.aload_n 0, 1) := by decide +kernel
theorem dX1_goOn_38 : decode cX1_goOn 38 = .ok (.iload 4, 2) := by decide +kernel
theorem dX1_goOn_40 : decode cX1_goOn 40 = .ok (.iload_n 1, 1) := by decide +kernel
theorem dX1_goOn_41 : decode cX1_goOn 41 = .ok (.iload_n 3, 1) := by decide +kernel
theorem dX1_goOn_42 : decode cX1_goOn 42 = .ok (.invokevirtual 94, 3) := by decide +kernel
theorem dX1_goOn_45 : decode cX1_goOn 45 = .ok (.ifCond .eq 12, 3) := by decide +kernel
theorem dX1_goOn_48 : decode cX1_goOn 48 = .ok (.aload_n 0, 1) := by decide +kernel
theorem dX1_goOn_49 : decode cX1_goOn 49 = .ok (.iload 4, 2) := by decide +kernel
theorem dX1_goOn_51 : decode cX1_goOn 51 = .ok (.iload_n 1, 1) := by decide +kernel
theorem dX1_goOn_52 : decode cX1_goOn 52 = .ok (.iload_n 2, 1) := by decide +kernel
theorem dX1_goOn_53 : decode cX1_goOn 53 = .ok (.iload_n 3, 1) := by decide +kernel
theorem dX1_goOn_54 : decode cX1_goOn 54 = .ok (.invokevirtual 98, 3) := by decide +kernel
theorem dX1_goOn_57 : decode cX1_goOn 57 = .ok (.iinc 4 1, 3) := by decide +kernel
theorem dX1_goOn_60 : decode cX1_goOn 60 = .ok (.goto (-35), 3) := by decide +kernel
theorem dX1_goOn_63 : decode cX1_goOn 63 = .ok (.return_, 1) := by decide +kernel
set_option maxRecDepth 20000 in
theorem ggX1_canTake_X6_nodeAcross : GoodIn wsX1_canTake wsX6_nodeAcross := goodIn_r _ [9, 10, 11, 45, 46, 47, 48, 49, 50, 51, 52, 53, 54, 55] (by decide +kernel) (by decide +kernel)
set_option maxRecDepth 20000 in
theorem gX1_canTake_X6_nodeAcross : GoodIn wsX1_canTake (wsV RX1 106 RX6 yX6_nodeAcross wsX6_nodeAcross) := goodIn_app (goodIn_of _ (by decide +kernel)) ggX1_canTake_X6_nodeAcross
set_option maxRecDepth 20000 in
theorem ggX1_canTake_X6_isTurnBlocked : GoodIn wsX1_canTake wsX6_isTurnBlocked := goodIn_r _ [15, 16, 45, 46, 47, 48, 49, 50, 51, 52, 53, 54, 55] (by decide +kernel) (by decide +kernel)
set_option maxRecDepth 20000 in
theorem gX1_canTake_X6_isTurnBlocked : GoodIn wsX1_canTake (wsV RX1 115 RX6 yX6_isTurnBlocked wsX6_isTurnBlocked) := goodIn_app (goodIn_of _ (by decide +kernel)) ggX1_canTake_X6_isTurnBlocked
theorem dX1_canTake_0 : decode cX1_canTake 0 = .ok (.aload_n 0, 1) := by decide +kernel
theorem dX1_canTake_1 : decode cX1_canTake 1 = .ok (.getfield 28, 3) := by decide +kernel
theorem dX1_canTake_4 : decode cX1_canTake 4 = .ok (.getfield 102, 3) := by decide +kernel
theorem dX1_canTake_7 : decode cX1_canTake 7 = .ok (.iload_n 1, 1) := by decide +kernel
theorem dX1_canTake_8 : decode cX1_canTake 8 = .ok (.aaload, 1) := by decide +kernel
theorem dX1_canTake_9 : decode cX1_canTake 9 = .ok (.iload_n 2, 1) := by decide +kernel
theorem dX1_canTake_10 : decode cX1_canTake 10 = .ok (.invokevirtual 106, 3) := by decide +kernel
theorem dX1_canTake_13 : decode cX1_canTake 13 = .ok (.istore 4, 2) := by decide +kernel
theorem dX1_canTake_15 : decode cX1_canTake 15 = .ok (.iload 4, 2) := by decide +kernel
theorem dX1_canTake_17 : decode cX1_canTake 17 = .ok (.iconst (-1), 1) := by decide +kernel
theorem dX1_canTake_18 : decode cX1_canTake 18 = .ok (.if_icmp .eq 27, 3) := by decide +kernel
theorem dX1_canTake_21 : decode cX1_canTake 21 = .ok (.aload_n 0, 1) := by decide +kernel
theorem dX1_canTake_22 : decode cX1_canTake 22 = .ok (.getfield 77, 3) := by decide +kernel
theorem dX1_canTake_25 : decode cX1_canTake 25 = .ok (.iload 4, 2) := by decide +kernel
theorem dX1_canTake_27 : decode cX1_canTake 27 = .ok (.ishr, 1) := by decide +kernel
theorem dX1_canTake_28 : decode cX1_canTake 28 = .ok (.iconst 1, 1) := by decide +kernel
theorem dX1_canTake_29 : decode cX1_canTake 29 = .ok (.iand, 1) := by decide +kernel
theorem dX1_canTake_30 : decode cX1_canTake 30 = .ok (.iconst 1, 1) := by decide +kernel
theorem dX1_canTake_31 : decode cX1_canTake 31 = .ok (.if_icmp .eq 14, 3) := by decide +kernel
theorem dX1_canTake_34 : decode cX1_canTake 34 = .ok (.aload_n 0, 1) := by decide +kernel
theorem dX1_canTake_35 : decode cX1_canTake 35 = .ok (.getfield 74, 3) := by decide +kernel
theorem dX1_canTake_38 : decode cX1_canTake 38 = .ok (.iload_n 1, 1) := by decide +kernel
theorem dX1_canTake_39 : decode cX1_canTake 39 = .ok (.ishr, 1) := by decide +kernel
theorem dX1_canTake_40 : decode cX1_canTake 40 = .ok (.iconst 1, 1) := by decide +kernel
theorem dX1_canTake_41 : decode cX1_canTake 41 = .ok (.iand, 1) := by decide +kernel
theorem dX1_canTake_42 : decode cX1_canTake 42 = .ok (.ifCond .ne 5, 3) := by decide +kernel
theorem dX1_canTake_45 : decode cX1_canTake 45 = .ok (.iconst 0, 1) := by decide +kernel
theorem dX1_canTake_46 : decode cX1_canTake 46 = .ok (.ireturn, 1) := by decide +kernel
theorem dX1_canTake_47 : decode cX1_canTake 47 = .ok (.iload_n 3, 1) := by decide +kernel
theorem dX1_canTake_48 : decode cX1_canTake 48 = .ok (.ifCond .eq 29, 3) := by decide +kernel
theorem dX1_canTake_51 : decode cX1_canTake 51 = .ok (.aload_n 0, 1) := by decide +kernel
theorem dX1_canTake_52 : decode cX1_canTake 52 = .ok (.getfield 28, 3) := by decide +kernel
theorem dX1_canTake_55 : decode cX1_canTake 55 = .ok (.getfield 102, 3) := by decide +kernel
theorem dX1_canTake_58 : decode cX1_canTake 58 = .ok (.aload_n 0, 1) := by decide +kernel
theorem dX1_canTake_59 : decode cX1_canTake 59 = .ok (.getfield 22, 3) := by decide +kernel
theorem dX1_canTake_62 : decode cX1_canTake 62 = .ok (.getfield 112, 3) := by decide +kernel
theorem dX1_canTake_65 : decode cX1_canTake 65 = .ok (.iload_n 3, 1) := by decide +kernel
theorem dX1_canTake_66 : decode cX1_canTake 66 = .ok (.iconst 1, 1) := by decide +kernel
theorem dX1_canTake_67 : decode cX1_canTake 67 = .ok (.isub, 1) := by decide +kernel
theorem dX1_canTake_68 : decode cX1_canTake 68 = .ok (.iaload, 1) := by decide +kernel
theorem dX1_canTake_69 : decode cX1_canTake 69 = .ok (.aaload, 1) := by decide +kernel
theorem dX1_canTake_70 : decode cX1_canTake 70 = .ok (.iload_n 1, 1) := by decide +kernel
theorem dX1_canTake_71 : decode cX1_canTake 71 = .ok (.invokevirtual 115, 3) := by decide +kernel
theorem dX1_canTake_74 : decode cX1_canTake 74 = .ok (.ifCond .ne 7, 3) := by decide +kernel
theorem dX1_canTake_77 : decode cX1_canTake 77 = .ok (.iconst 1, 1) := by decide +kernel
theorem dX1_canTake_78 : decode cX1_canTake 78 = .ok (.goto 4, 3) := by decide +kernel
theorem dX1_canTake_81 : decode cX1_canTake 81 = .ok (.iconst 0, 1) := by decide +kernel
theorem dX1_canTake_82 : decode cX1_canTake 82 = .ok (.ireturn, 1) := by decide +kernel
set_option maxRecDepth 20000 in
theorem ggX1_take_X6_nodeAcross : GoodIn wsX1_take wsX6_nodeAcross := goodIn_r _ [8, 9, 10, 129, 130, 131, 132, 133, 134, 135, 136, 137, 138, 139] (by decide +kernel) (by decide +kernel)
set_option maxRecDepth 20000 in
theorem gX1_take_X6_nodeAcross : GoodIn wsX1_take (wsV RX1 106 RX6 yX6_nodeAcross wsX6_nodeAcross) := goodIn_app (goodIn_of _ (by decide +kernel)) ggX1_take_X6_nodeAcross
set_option maxRecDepth 20000 in
theorem ggX1_take_X6_earliestStart : GoodIn wsX1_take wsX6_earliestStart := goodIn_r _ [14, 15, 16, 17, 18, 7, 19, 20, 21, 22, 23, 24, 25, 129, 130, 131, 132, 133, 134, 135, 136, 137, 138, 139] (by decide +kernel) (by decide +kernel)
set_option maxRecDepth 20000 in
theorem gX1_take_X6_earliestStart : GoodIn wsX1_take (wsV RX1 119 RX6 yX6_earliestStart wsX6_earliestStart) := goodIn_app (goodIn_of _ (by decide +kernel)) ggX1_take_X6_earliestStart
set_option maxRecDepth 20000 in
theorem ggX1_take_X3_endOfRoad : GoodIn wsX1_take wsX3_endOfRoad := goodIn_r _ [30, 31, 32, 33, 34, 35, 29, 36, 37, 116, 117, 118, 119, 120, 121, 122, 129, 130, 131, 132, 133, 134, 135, 136, 137, 138, 139, 140, 141, 142, 143, 144, 145, 146, 147] (by decide +kernel) (by decide +kernel)
set_option maxRecDepth 20000 in
theorem gX1_take_X3_endOfRoad : GoodIn wsX1_take (wsV RX1 125 RX3 yX3_endOfRoad wsX3_endOfRoad) := goodIn_app (goodIn_of _ (by decide +kernel)) ggX1_take_X3_endOfRoad
set_option maxRecDepth 20000 in
theorem ggX1_take_X1_goOn : GoodIn wsX1_take wsX1_goOn := goodIn_r _ [42, 43, 1, 44, 45, 46, 41, 47, 48, 2, 49, 50, 51, 52, 53, 29, 54, 31, 55, 56, 57, 58, 59, 60, 61, 62, 63, 64, 65, 66, 67, 68, 69, 70, 71, 72, 73, 74, 75, 76, 77, 78, 79, 80, 81, 82, 83, 84, 85, 86, 87, 88, 89, 90, 91, 3, 92, 4, 5, 6, 7, 8, 9, 10, 93, 94, 95, 96, 97, 98, 99, 100, 0, 11, 12, 13, 14, 15, 16, 17, 18, 19, 20, 21, 22, 23, 24, 25, 26, 27, 28, 30, 32, 33, 34, 35, 36, 37, 38, 39, 40, 101, 102, 103, 104, 105, 106, 107, 108, 109, 110, 111, 112, 113, 114, 115, 116, 117, 118, 119, 120, 121, 122, 123, 124, 125, 126, 127, 128, 129, 130, 131, 132, 133, 134, 135, 136, 137, 138, 139, 140, 141, 142, 143, 144, 145, 146, 147] (by decide +kernel) (by decide +kernel)
set_option maxRecDepth 20000 in
theorem gX1_take_X1_goOn : GoodIn wsX1_take (wsV RX1 83 RX1 yX1_goOn wsX1_goOn) := goodIn_app (goodIn_of _ (by decide +kernel)) ggX1_take_X1_goOn
theorem dX1_take_0 : decode cX1_take 0 = .ok (.aload_n 0, 1) := by decide +kernel
theorem dX1_take_1 : decode cX1_take 1 = .ok (.getfield 28, 3) := by decide +kernel
theorem dX1_take_4 : decode cX1_take 4 = .ok (.getfield 102, 3) := by decide +kernel
theorem dX1_take_7 : decode cX1_take 7 = .ok (.iload_n 1, 1) := by decide +kernel
theorem dX1_take_8 : decode cX1_take 8 = .ok (.aaload, 1) := by decide +kernel
theorem dX1_take_9 : decode cX1_take 9 = .ok (.iload_n 2, 1) := by decide +kernel
theorem dX1_take_10 : decode cX1_take 10 = .ok (.invokevirtual 106, 3) := by decide +kernel
theorem dX1_take_13 : decode cX1_take 13 = .ok (.istore 5, 2) := by decide +kernel
theorem dX1_take_15 : decode cX1_take 15 = .ok (.aload_n 0, 1) := by decide +kernel
theorem dX1_take_16 : decode cX1_take 16 = .ok (.getfield 28, 3) := by decide +kernel
theorem dX1_take_19 : decode cX1_take 19 = .ok (.getfield 102, 3) := by decide +kernel
theorem dX1_take_22 : decode cX1_take 22 = .ok (.iload_n 1, 1) := by decide +kernel
theorem dX1_take_23 : decode cX1_take 23 = .ok (.aaload, 1) := by decide +kernel
theorem dX1_take_24 : decode cX1_take 24 = .ok (.iload_n 3, 1) := by decide +kernel
theorem dX1_take_25 : decode cX1_take 25 = .ok (.invokevirtual 119, 3) := by decide +kernel
theorem dX1_take_28 : decode cX1_take 28 = .ok (.istore 6, 2) := by decide +kernel
theorem dX1_take_30 : decode cX1_take 30 = .ok (.aload_n 0, 1) := by decide +kernel
theorem dX1_take_31 : decode cX1_take 31 = .ok (.getfield 22, 3) := by decide +kernel
theorem dX1_take_34 : decode cX1_take 34 = .ok (.getfield 112, 3) := by decide +kernel
theorem dX1_take_37 : decode cX1_take 37 = .ok (.iload 4, 2) := by decide +kernel
theorem dX1_take_39 : decode cX1_take 39 = .ok (.iload_n 1, 1) := by decide +kernel
theorem dX1_take_40 : decode cX1_take 40 = .ok (.iastore, 1) := by decide +kernel
theorem dX1_take_41 : decode cX1_take 41 = .ok (.aload_n 0, 1) := by decide +kernel
theorem dX1_take_42 : decode cX1_take 42 = .ok (.getfield 22, 3) := by decide +kernel
theorem dX1_take_45 : decode cX1_take 45 = .ok (.getfield 122, 3) := by decide +kernel
theorem dX1_take_48 : decode cX1_take 48 = .ok (.iload 4, 2) := by decide +kernel
theorem dX1_take_50 : decode cX1_take 50 = .ok (.iload 6, 2) := by decide +kernel
theorem dX1_take_52 : decode cX1_take 52 = .ok (.iastore, 1) := by decide +kernel
theorem dX1_take_53 : decode cX1_take 53 = .ok (.aload_n 0, 1) := by decide +kernel
theorem dX1_take_54 : decode cX1_take 54 = .ok (.dup, 1) := by decide +kernel
theorem dX1_take_55 : decode cX1_take 55 = .ok (.getfield 77, 3) := by decide +kernel
theorem dX1_take_58 : decode cX1_take 58 = .ok (.iconst 1, 1) := by decide +kernel
theorem dX1_take_59 : decode cX1_take 59 = .ok (.iload 5, 2) := by decide +kernel
theorem dX1_take_61 : decode cX1_take 61 = .ok (.ishl, 1) := by decide +kernel
theorem dX1_take_62 : decode cX1_take 62 = .ok (.ior, 1) := by decide +kernel
theorem dX1_take_63 : decode cX1_take 63 = .ok (.putfield 77, 3) := by decide +kernel
theorem dX1_take_66 : decode cX1_take 66 = .ok (.aload_n 0, 1) := by decide +kernel
theorem dX1_take_67 : decode cX1_take 67 = .ok (.iload 5, 2) := by decide +kernel
theorem dX1_take_69 : decode cX1_take 69 = .ok (.aload_n 0, 1) := by decide +kernel
theorem dX1_take_70 : decode cX1_take 70 = .ok (.getfield 28, 3) := by decide +kernel
theorem dX1_take_73 : decode cX1_take 73 = .ok (.iload_n 1, 1) := by decide +kernel
theorem dX1_take_74 : decode cX1_take 74 = .ok (.iload 6, 2) := by decide +kernel
theorem dX1_take_76 : decode cX1_take 76 = .ok (.invokevirtual 125, 3) := by decide +kernel
theorem dX1_take_79 : decode cX1_take 79 = .ok (.iload 4, 2) := by decide +kernel
theorem dX1_take_81 : decode cX1_take 81 = .ok (.iconst 1, 1) := by decide +kernel
theorem dX1_take_82 : decode cX1_take 82 = .ok (.iadd, 1) := by decide +kernel
theorem dX1_take_83 : decode cX1_take 83 = .ok (.invokevirtual 83, 3) := by decide +kernel
theorem dX1_take_86 : decode cX1_take 86 = .ok (.aload_n 0, 1) := by decide +kernel
theorem dX1_take_87 : decode cX1_take 87 = .ok (.dup, 1) := by decide +kernel
theorem dX1_take_88 : decode cX1_take 88 = .ok (.getfield 77, 3) := by decide +kernel
theorem dX1_take_91 : decode cX1_take 91 = .ok (.iconst 1, 1) := by decide +kernel
theorem dX1_take_92 : decode cX1_take 92 = .ok (.iload 5, 2) := by decide +kernel
theorem dX1_take_94 : decode cX1_take 94 = .ok (.ishl, 1) := by decide +kernel
theorem dX1_take_95 : decode cX1_take 95 = .ok (.iconst (-1), 1) := by decide +kernel
theorem dX1_take_96 : decode cX1_take 96 = .ok (.ixor, 1) := by decide +kernel
theorem dX1_take_97 : decode cX1_take 97 = .ok (.iand, 1) := by decide +kernel
theorem dX1_take_98 : decode cX1_take 98 = .ok (.putfield 77, 3) := by decide +kernel
theorem dX1_take_101 : decode cX1_take 101 = .ok (.return_, 1) := by decide +kernel
set_option maxRecDepth 20000 in
theorem ggX1_consider_X3_bridgesOn : GoodIn wsX1_consider wsX3_bridgesOn := goodIn_r _ [10, 11, 61, 62, 63, 64, 65, 66, 67, 68, 69, 70, 71, 72, 73, 74, 75, 76, 77, 78, 79, 80, 81, 82, 83, 84] (by decide +kernel) (by decide +kernel)
set_option maxRecDepth 20000 in
theorem gX1_consider_X3_bridgesOn : GoodIn wsX1_consider (wsV RX1 129 RX3 yX3_bridgesOn wsX3_bridgesOn) := goodIn_app (goodIn_of _ (by decide +kernel)) ggX1_consider_X3_bridgesOn
set_option maxRecDepth 20000 in
theorem ggX1_consider_X7_collectRoads : GoodIn wsX1_consider wsX7_collectRoads := goodIn_r _ [16, 17, 18, 19, 61, 62, 63, 64, 65, 66] (by decide +kernel) (by decide +kernel)
set_option maxRecDepth 20000 in
theorem gX1_consider_X7_collectRoads : GoodIn wsX1_consider (wsV RX1 136 RX7 yX7_collectRoads wsX7_collectRoads) := goodIn_app (goodIn_of _ (by decide +kernel)) ggX1_consider_X7_collectRoads
set_option maxRecDepth 20000 in
theorem ggX1_consider_X1_isAllowed : GoodIn wsX1_consider wsX1_isAllowed := goodIn_r _ [24, 25, 2, 26, 27, 28, 29, 30, 31, 32, 33, 34, 46, 47, 48, 49, 50, 51, 52, 53, 54, 55, 56, 57, 58, 59, 60, 61, 62, 63, 64, 65, 66] (by decide +kernel) (by decide +kernel)
set_option maxRecDepth 20000 in
theorem gX1_consider_X1_isAllowed : GoodIn wsX1_consider (wsV RX1 139 RX1 yX1_isAllowed wsX1_isAllowed) := goodIn_app (goodIn_of _ (by decide +kernel)) ggX1_consider_X1_isAllowed
set_option maxRecDepth 20000 in
theorem ggX1_consider_X7_isBetterThan : GoodIn wsX1_consider wsX7_isBetterThan := goodIn_r _ [38, 39, 40, 18, 19, 61, 62, 63, 64, 65, 66] (by decide +kernel) (by decide +kernel)
set_option maxRecDepth 20000 in
theorem gX1_consider_X7_isBetterThan : GoodIn wsX1_consider (wsV RX1 143 RX7 yX7_isBetterThan wsX7_isBetterThan) := goodIn_app (goodIn_of _ (by decide +kernel)) ggX1_consider_X7_isBetterThan
set_option maxRecDepth 20000 in
theorem ggX1_consider_X7_copyFrom : GoodIn wsX1_consider wsX7_copyFrom := goodIn_r _ [44, 19, 45, 18, 39, 40, 17, 61, 62, 63, 64, 65, 66] (by decide +kernel) (by decide +kernel)
set_option maxRecDepth 20000 in
theorem gX1_consider_X7_copyFrom : GoodIn wsX1_consider (wsV RX1 61 RX7 yX7_copyFrom wsX7_copyFrom) := goodIn_app (goodIn_of _ (by decide +kernel)) ggX1_consider_X7_copyFrom
theorem dX1_consider_0 : decode cX1_consider 0 = .ok (.aload_n 0, 1) := by decide +kernel
theorem dX1_consider_1 : decode cX1_consider 1 = .ok (.dup, 1) := by decide +kernel
theorem dX1_consider_2 : decode cX1_consider 2 = .ok (.getfield 80, 3) := by decide +kernel
theorem dX1_consider_5 : decode cX1_consider 5 = .ok (.iconst 1, 1) := by decide +kernel
theorem dX1_consider_6 : decode cX1_consider 6 = .ok (.iadd, 1) := by decide +kernel
theorem dX1_consider_7 : decode cX1_consider 7 = .ok (.putfield 80, 3) := by decide +kernel
theorem dX1_consider_10 : decode cX1_consider 10 = .ok (.aload_n 0, 1) := by decide +kernel
theorem dX1_consider_11 : decode cX1_consider 11 = .ok (.getfield 22, 3) := by decide +kernel
theorem dX1_consider_14 : decode cX1_consider 14 = .ok (.iload_n 2, 1) := by decide +kernel
theorem dX1_consider_15 : decode cX1_consider 15 = .ok (.putfield 52, 3) := by decide +kernel
theorem dX1_consider_18 : decode cX1_consider 18 = .ok (.aload_n 0, 1) := by decide +kernel
theorem dX1_consider_19 : decode cX1_consider 19 = .ok (.getfield 22, 3) := by decide +kernel
theorem dX1_consider_22 : decode cX1_consider 22 = .ok (.iload_n 1, 1) := by decide +kernel
theorem dX1_consider_23 : decode cX1_consider 23 = .ok (.putfield 65, 3) := by decide +kernel
theorem dX1_consider_26 : decode cX1_consider 26 = .ok (.aload_n 0, 1) := by decide +kernel
theorem dX1_consider_27 : decode cX1_consider 27 = .ok (.getfield 22, 3) := by decide +kernel
theorem dX1_consider_30 : decode cX1_consider 30 = .ok (.aload_n 0, 1) := by decide +kernel
theorem dX1_consider_31 : decode cX1_consider 31 = .ok (.getfield 28, 3) := by decide +kernel
theorem dX1_consider_34 : decode cX1_consider 34 = .ok (.aload_n 0, 1) := by decide +kernel
theorem dX1_consider_35 : decode cX1_consider 35 = .ok (.getfield 22, 3) := by decide +kernel
theorem dX1_consider_38 : decode cX1_consider 38 = .ok (.invokevirtual 129, 3) := by decide +kernel
theorem dX1_consider_41 : decode cX1_consider 41 = .ok (.putfield 133, 3) := by decide +kernel
theorem dX1_consider_44 : decode cX1_consider 44 = .ok (.aload_n 0, 1) := by decide +kernel
theorem dX1_consider_45 : decode cX1_consider 45 = .ok (.getfield 22, 3) := by decide +kernel
theorem dX1_consider_48 : decode cX1_consider 48 = .ok (.invokevirtual 136, 3) := by decide +kernel
theorem dX1_consider_51 : decode cX1_consider 51 = .ok (.aload_n 0, 1) := by decide +kernel
theorem dX1_consider_52 : decode cX1_consider 52 = .ok (.invokevirtual 139, 3) := by decide +kernel
theorem dX1_consider_55 : decode cX1_consider 55 = .ok (.ifCond .eq 40, 3) := by decide +kernel
theorem dX1_consider_58 : decode cX1_consider 58 = .ok (.aload_n 0, 1) := by decide +kernel
theorem dX1_consider_59 : decode cX1_consider 59 = .ok (.getfield 58, 3) := by decide +kernel
theorem dX1_consider_62 : decode cX1_consider 62 = .ok (.ifCond .eq 17, 3) := by decide +kernel
theorem dX1_consider_65 : decode cX1_consider 65 = .ok (.aload_n 0, 1) := by decide +kernel
theorem dX1_consider_66 : decode cX1_consider 66 = .ok (.getfield 22, 3) := by decide +kernel
theorem dX1_consider_69 : decode cX1_consider 69 = .ok (.aload_n 0, 1) := by decide +kernel
theorem dX1_consider_70 : decode cX1_consider 70 = .ok (.getfield 25, 3) := by decide +kernel
theorem dX1_consider_73 : decode cX1_consider 73 = .ok (.invokevirtual 143, 3) := by decide +kernel
theorem dX1_consider_76 : decode cX1_consider 76 = .ok (.ifCond .eq 19, 3) := by decide +kernel
theorem dX1_consider_79 : decode cX1_consider 79 = .ok (.aload_n 0, 1) := by decide +kernel
theorem dX1_consider_80 : decode cX1_consider 80 = .ok (.getfield 25, 3) := by decide +kernel
theorem dX1_consider_83 : decode cX1_consider 83 = .ok (.aload_n 0, 1) := by decide +kernel
theorem dX1_consider_84 : decode cX1_consider 84 = .ok (.getfield 22, 3) := by decide +kernel
theorem dX1_consider_87 : decode cX1_consider 87 = .ok (.invokevirtual 61, 3) := by decide +kernel
theorem dX1_consider_90 : decode cX1_consider 90 = .ok (.aload_n 0, 1) := by decide +kernel
theorem dX1_consider_91 : decode cX1_consider 91 = .ok (.iconst 1, 1) := by decide +kernel
theorem dX1_consider_92 : decode cX1_consider 92 = .ok (.putfield 58, 3) := by decide +kernel
theorem dX1_consider_95 : decode cX1_consider 95 = .ok (.return_, 1) := by decide +kernel
set_option maxRecDepth 20000 in
theorem ggX1_isAllowed_J6_bitCount_0f7a4 : GoodIn wsX1_isAllowed wsJ6_bitCount_0f7a4 := goodIn_r _ [8, 9, 10, 11] (by decide +kernel) (by decide +kernel)
set_option maxRecDepth 20000 in
theorem gX1_isAllowed_J6_bitCount_0f7a4 : GoodIn wsX1_isAllowed (va_wsS RX1 150 yJ6_bitCount_0f7a4 wsJ6_bitCount_0f7a4) := goodIn_app (goodIn_of _ (by decide +kernel)) ggX1_isAllowed_J6_bitCount_0f7a4
theorem dX1_isAllowed_0 : decode cX1_isAllowed 0 = .ok (.iconst 0, 1) := by decide +kernel
theorem dX1_isAllowed_1 : decode cX1_isAllowed 1 = .ok (.istore_n 1, 1) := by decide +kernel
theorem dX1_isAllowed_2 : decode cX1_isAllowed 2 = .ok (.iload_n 1, 1) := by decide +kernel
theorem dX1_isAllowed_3 : decode cX1_isAllowed 3 = .ok (.aload_n 0, 1) := by decide +kernel
theorem dX1_isAllowed_4 : decode cX1_isAllowed 4 = .ok (.getfield 32, 3) := by decide +kernel
theorem dX1_isAllowed_7 : decode cX1_isAllowed 7 = .ok (.if_icmp .ge 30, 3) := by decide +kernel
theorem dX1_isAllowed_10 : decode cX1_isAllowed 10 = .ok (.aload_n 0, 1) := by decide +kernel
theorem dX1_isAllowed_11 : decode cX1_isAllowed 11 = .ok (.getfield 22, 3) := by decide +kernel
theorem dX1_isAllowed_14 : decode cX1_isAllowed 14 = .ok (.getfield 147, 3) := by decide +kernel
theorem dX1_isAllowed_17 : decode cX1_isAllowed 17 = .ok (.aload_n 0, 1) := by decide +kernel
theorem dX1_isAllowed_18 : decode cX1_isAllowed 18 = .ok (.getfield 11, 3) := by decide +kernel
theorem dX1_isAllowed_21 : decode cX1_isAllowed 21 = .ok (.iload_n 1, 1) := by decide +kernel
theorem dX1_isAllowed_22 : decode cX1_isAllowed 22 = .ok (.aaload, 1) := by decide +kernel
theorem dX1_isAllowed_23 : decode cX1_isAllowed 23 = .ok (.getfield 147, 3) := by decide +kernel
theorem dX1_isAllowed_26 : decode cX1_isAllowed 26 = .ok (.if_icmp .ne 5, 3) := by decide +kernel
theorem dX1_isAllowed_29 : decode cX1_isAllowed 29 = .ok (.iconst 0, 1) := by decide +kernel
theorem dX1_isAllowed_30 : decode cX1_isAllowed 30 = .ok (.ireturn, 1) := by decide +kernel
theorem dX1_isAllowed_31 : decode cX1_isAllowed 31 = .ok (.iinc 1 1, 3) := by decide +kernel
theorem dX1_isAllowed_34 : decode cX1_isAllowed 34 = .ok (.goto (-32), 3) := by decide +kernel
theorem dX1_isAllowed_37 : decode cX1_isAllowed 37 = .ok (.aload_n 0, 1) := by decide +kernel
theorem dX1_isAllowed_38 : decode cX1_isAllowed 38 = .ok (.getfield 32, 3) := by decide +kernel
theorem dX1_isAllowed_41 : decode cX1_isAllowed 41 = .ok (.ifCond .eq 30, 3) := by decide +kernel
theorem dX1_isAllowed_44 : decode cX1_isAllowed 44 = .ok (.aload_n 0, 1) := by decide +kernel
theorem dX1_isAllowed_45 : decode cX1_isAllowed 45 = .ok (.getfield 22, 3) := by decide +kernel
theorem dX1_isAllowed_48 : decode cX1_isAllowed 48 = .ok (.getfield 147, 3) := by decide +kernel
theorem dX1_isAllowed_51 : decode cX1_isAllowed 51 = .ok (.aload_n 0, 1) := by decide +kernel
theorem dX1_isAllowed_52 : decode cX1_isAllowed 52 = .ok (.getfield 11, 3) := by decide +kernel
theorem dX1_isAllowed_55 : decode cX1_isAllowed 55 = .ok (.iconst 0, 1) := by decide +kernel
theorem dX1_isAllowed_56 : decode cX1_isAllowed 56 = .ok (.aaload, 1) := by decide +kernel
theorem dX1_isAllowed_57 : decode cX1_isAllowed 57 = .ok (.getfield 147, 3) := by decide +kernel
theorem dX1_isAllowed_60 : decode cX1_isAllowed 60 = .ok (.iand, 1) := by decide +kernel
theorem dX1_isAllowed_61 : decode cX1_isAllowed 61 = .ok (.invokestatic 150, 3) := by decide +kernel
theorem dX1_isAllowed_64 : decode cX1_isAllowed 64 = .ok (.aload_n 0, 1) := by decide +kernel
theorem dX1_isAllowed_65 : decode cX1_isAllowed 65 = .ok (.getfield 55, 3) := by decide +kernel
theorem dX1_isAllowed_68 : decode cX1_isAllowed 68 = .ok (.if_icmp .gt 7, 3) := by decide +kernel
theorem dX1_isAllowed_71 : decode cX1_isAllowed 71 = .ok (.iconst 1, 1) := by decide +kernel
theorem dX1_isAllowed_72 : decode cX1_isAllowed 72 = .ok (.goto 4, 3) := by decide +kernel
theorem dX1_isAllowed_75 : decode cX1_isAllowed 75 = .ok (.iconst 0, 1) := by decide +kernel
theorem dX1_isAllowed_76 : decode cX1_isAllowed 76 = .ok (.ireturn, 1) := by decide +kernel
set_option maxRecDepth 20000 in
theorem ggX3_init_X2_init : GoodIn wsX3_init wsX2_init := goodIn_r _ [21, 22, 2, 3, 23, 24, 25, 26, 27, 81, 82, 83, 84, 85] (by decide +kernel) (by decide +kernel)
set_option maxRecDepth 20000 in
theorem gX3_init_X2_init_n25 : GoodIn wsX3_init (wsX2_init) := ggX3_init_X2_init
set_option maxRecDepth 20000 in
theorem ggX3_init_X4_init : GoodIn wsX3_init wsX4_init := goodIn_r _ [29, 30, 2, 3, 31, 32, 33, 34, 35, 36, 37, 38, 39, 25, 40, 41, 42, 43, 44, 45, 46, 47, 48, 49, 50, 51, 52, 53, 54, 55, 56, 57, 113, 86, 87, 88, 89, 90, 91, 92, 93, 114, 115] (by decide +kernel) (by decide +kernel)
set_option maxRecDepth 20000 in
theorem gX3_init_X4_init_n32 : GoodIn wsX3_init (wsX4_init) := ggX3_init_X4_init
set_option maxRecDepth 20000 in
theorem ggX3_init_X6_init : GoodIn wsX3_init wsX6_init := goodIn_r _ [59, 60, 2, 3, 61, 62, 63, 64, 94, 95, 96, 97, 98, 99, 100, 101, 102, 103, 104] (by decide +kernel) (by decide +kernel)
set_option maxRecDepth 20000 in
theorem gX3_init_X6_init_n37 : GoodIn wsX3_init (wsX6_init) := ggX3_init_X6_init
set_option maxRecDepth 20000 in
theorem ggX3_init_X0_init : GoodIn wsX3_init wsX0_init := goodIn_r _ [66, 67, 2, 3, 25, 68, 69, 70, 71, 37, 38, 72, 73, 48, 49, 50, 51, 32, 33, 52, 53, 43, 44, 45, 46, 54, 55, 56, 57, 105, 106, 107, 108, 109, 110, 111, 112, 114, 115, 113] (by decide +kernel) (by decide +kernel)
set_option maxRecDepth 20000 in
theorem gX3_init_X0_init_n38 : GoodIn wsX3_init (wsX0_init) := ggX3_init_X0_init
theorem dX3_init_0 : decode cX3_init 0 = .ok (.aload_n 0, 1) := by decide +kernel
theorem dX3_init_1 : decode cX3_init 1 = .ok (.invokespecial 3, 3) := by decide +kernel
theorem dX3_init_4 : decode cX3_init 4 = .ok (.aload_n 0, 1) := by decide +kernel
theorem dX3_init_5 : decode cX3_init 5 = .ok (.bipush 12, 2) := by decide +kernel
theorem dX3_init_7 : decode cX3_init 7 = .ok (.anewarray 9, 3) := by decide +kernel
theorem dX3_init_10 : decode cX3_init 10 = .ok (.putfield 11, 3) := by decide +kernel
theorem dX3_init_13 : decode cX3_init 13 = .ok (.aload_n 0, 1) := by decide +kernel
theorem dX3_init_14 : decode cX3_init 14 = .ok (.bipush 6, 2) := by decide +kernel
theorem dX3_init_16 : decode cX3_init 16 = .ok (.anewarray 17, 3) := by decide +kernel
theorem dX3_init_19 : decode cX3_init 19 = .ok (.putfield 19, 3) := by decide +kernel
theorem dX3_init_22 : decode cX3_init 22 = .ok (.aload_n 0, 1) := by decide +kernel
theorem dX3_init_23 : decode cX3_init 23 = .ok (.new 23, 3) := by decide +kernel
theorem dX3_init_26 : decode cX3_init 26 = .ok (.dup, 1) := by decide +kernel
theorem dX3_init_27 : decode cX3_init 27 = .ok (.invokespecial 25, 3) := by decide +kernel
theorem dX3_init_30 : decode cX3_init 30 = .ok (.putfield 26, 3) := by decide +kernel
theorem dX3_init_33 : decode cX3_init 33 = .ok (.aload_n 0, 1) := by decide +kernel
theorem dX3_init_34 : decode cX3_init 34 = .ok (.new 30, 3) := by decide +kernel
theorem dX3_init_37 : decode cX3_init 37 = .ok (.dup, 1) := by decide +kernel
theorem dX3_init_38 : decode cX3_init 38 = .ok (.invokespecial 32, 3) := by decide +kernel
theorem dX3_init_41 : decode cX3_init 41 = .ok (.putfield 33, 3) := by decide +kernel
theorem dX3_init_44 : decode cX3_init 44 = .ok (.iconst 0, 1) := by decide +kernel
theorem dX3_init_45 : decode cX3_init 45 = .ok (.istore_n 1, 1) := by decide +kernel
theorem dX3_init_46 : decode cX3_init 46 = .ok (.iload_n 1, 1) := by decide +kernel
theorem dX3_init_47 : decode cX3_init 47 = .ok (.bipush 12, 2) := by decide +kernel
theorem dX3_init_49 : decode cX3_init 49 = .ok (.if_icmp .ge 22, 3) := by decide +kernel
theorem dX3_init_52 : decode cX3_init 52 = .ok (.aload_n 0, 1) := by decide +kernel
theorem dX3_init_53 : decode cX3_init 53 = .ok (.getfield 11, 3) := by decide +kernel
theorem dX3_init_56 : decode cX3_init 56 = .ok (.iload_n 1, 1) := by decide +kernel
theorem dX3_init_57 : decode cX3_init 57 = .ok (.new 9, 3) := by decide +kernel
theorem dX3_init_60 : decode cX3_init 60 = .ok (.dup, 1) := by decide +kernel
theorem dX3_init_61 : decode cX3_init 61 = .ok (.invokespecial 37, 3) := by decide +kernel
theorem dX3_init_64 : decode cX3_init 64 = .ok (.aastore, 1) := by decide +kernel
theorem dX3_init_65 : decode cX3_init 65 = .ok (.iinc 1 1, 3) := by decide +kernel
theorem dX3_init_68 : decode cX3_init 68 = .ok (.goto (-22), 3) := by decide +kernel
theorem dX3_init_71 : decode cX3_init 71 = .ok (.iconst 0, 1) := by decide +kernel
theorem dX3_init_72 : decode cX3_init 72 = .ok (.istore_n 1, 1) := by decide +kernel
theorem dX3_init_73 : decode cX3_init 73 = .ok (.iload_n 1, 1) := by decide +kernel
theorem dX3_init_74 : decode cX3_init 74 = .ok (.bipush 6, 2) := by decide +kernel
theorem dX3_init_76 : decode cX3_init 76 = .ok (.if_icmp .ge 22, 3) := by decide +kernel
theorem dX3_init_79 : decode cX3_init 79 = .ok (.aload_n 0, 1) := by decide +kernel
theorem dX3_init_80 : decode cX3_init 80 = .ok (.getfield 19, 3) := by decide +kernel
theorem dX3_init_83 : decode cX3_init 83 = .ok (.iload_n 1, 1) := by decide +kernel
theorem dX3_init_84 : decode cX3_init 84 = .ok (.new 17, 3) := by decide +kernel
theorem dX3_init_87 : decode cX3_init 87 = .ok (.dup, 1) := by decide +kernel
theorem dX3_init_88 : decode cX3_init 88 = .ok (.invokespecial 38, 3) := by decide +kernel
theorem dX3_init_91 : decode cX3_init 91 = .ok (.aastore, 1) := by decide +kernel
theorem dX3_init_92 : decode cX3_init 92 = .ok (.iinc 1 1, 3) := by decide +kernel
theorem dX3_init_95 : decode cX3_init 95 = .ok (.goto (-22), 3) := by decide +kernel
theorem dX3_init_98 : decode cX3_init 98 = .ok (.return_, 1) := by decide +kernel
theorem dX3_hasNode_0 : decode cX3_hasNode 0 = .ok (.iload_n 1, 1) := by decide +kernel
theorem dX3_hasNode_1 : decode cX3_hasNode 1 = .ok (.ifCond .lt 15, 3) := by decide +kernel
theorem dX3_hasNode_4 : decode cX3_hasNode 4 = .ok (.iload_n 1, 1) := by decide +kernel
theorem dX3_hasNode_5 : decode cX3_hasNode 5 = .ok (.aload_n 0, 1) := by decide +kernel
theorem dX3_hasNode_6 : decode cX3_hasNode 6 = .ok (.getfield 39, 3) := by decide +kernel
theorem dX3_hasNode_9 : decode cX3_hasNode 9 = .ok (.if_icmp .ge 7, 3) := by decide +kernel
theorem dX3_hasNode_12 : decode cX3_hasNode 12 = .ok (.iconst 1, 1) := by decide +kernel
theorem dX3_hasNode_13 : decode cX3_hasNode 13 = .ok (.goto 4, 3) := by decide +kernel
theorem dX3_hasNode_16 : decode cX3_hasNode 16 = .ok (.iconst 0, 1) := by decide +kernel
theorem dX3_hasNode_17 : decode cX3_hasNode 17 = .ok (.ireturn, 1) := by decide +kernel
theorem dX3_hasRoad_0 : decode cX3_hasRoad 0 = .ok (.iload_n 1, 1) := by decide +kernel
theorem dX3_hasRoad_1 : decode cX3_hasRoad 1 = .ok (.ifCond .lt 15, 3) := by decide +kernel
theorem dX3_hasRoad_4 : decode cX3_hasRoad 4 = .ok (.iload_n 1, 1) := by decide +kernel
theorem dX3_hasRoad_5 : decode cX3_hasRoad 5 = .ok (.aload_n 0, 1) := by decide +kernel
theorem dX3_hasRoad_6 : decode cX3_hasRoad 6 = .ok (.getfield 43, 3) := by decide +kernel
theorem dX3_hasRoad_9 : decode cX3_hasRoad 9 = .ok (.if_icmp .ge 7, 3) := by decide +kernel
theorem dX3_hasRoad_12 : decode cX3_hasRoad 12 = .ok (.iconst 1, 1) := by decide +kernel
theorem dX3_hasRoad_13 : decode cX3_hasRoad 13 = .ok (.goto 4, 3) := by decide +kernel
theorem dX3_hasRoad_16 : decode cX3_hasRoad 16 = .ok (.iconst 0, 1) := by decide +kernel
theorem dX3_hasRoad_17 : decode cX3_hasRoad 17 = .ok (.ireturn, 1) := by decide +kernel
theorem dX3_hasBridge_0 : decode cX3_hasBridge 0 = .ok (.iload_n 1, 1) := by decide +kernel
theorem dX3_hasBridge_1 : decode cX3_hasBridge 1 = .ok (.ifCond .lt 15, 3) := by decide +kernel
theorem dX3_hasBridge_4 : decode cX3_hasBridge 4 = .ok (.iload_n 1, 1) := by decide +kernel
theorem dX3_hasBridge_5 : decode cX3_hasBridge 5 = .ok (.aload_n 0, 1) := by decide +kernel
theorem dX3_hasBridge_6 : decode cX3_hasBridge 6 = .ok (.getfield 46, 3) := by decide +kernel
theorem dX3_hasBridge_9 : decode cX3_hasBridge 9 = .ok (.if_icmp .ge 7, 3) := by decide +kernel
theorem dX3_hasBridge_12 : decode cX3_hasBridge 12 = .ok (.iconst 1, 1) := by decide +kernel
theorem dX3_hasBridge_13 : decode cX3_hasBridge 13 = .ok (.goto 4, 3) := by decide +kernel
theorem dX3_hasBridge_16 : decode cX3_hasBridge 16 = .ok (.iconst 0, 1) := by decide +kernel
theorem dX3_hasBridge_17 : decode cX3_hasBridge 17 = .ok (.ireturn, 1) := by decide +kernel
set_option maxRecDepth 20000 in
theorem ggX3_rateBridge_X4_rate : GoodIn wsX3_rateBridge wsX4_rate := goodIn_r _ [10, 11, 12, 13, 14, 15, 16, 17, 18, 19, 20, 21, 9, 22, 23, 24, 25, 26, 27, 28, 29, 30, 31, 32, 33, 34, 35, 36, 37, 38, 39, 40, 41, 42, 43, 44, 45, 46, 47, 48, 49, 50, 51, 52, 53, 54, 55, 56, 57, 58, 59, 60, 61, 62, 63, 64, 65, 66, 67, 68, 69, 70, 71, 72, 73, 74, 75, 76, 77, 78, 79, 80, 81, 82, 83, 84, 85, 86, 87, 88, 89, 90, 91, 111, 112, 113, 114, 115, 116, 117, 103, 104, 105, 106, 107, 108, 109, 110, 118, 119, 120, 121, 122, 123, 124, 125, 126] (by decide +kernel) (by decide +kernel)
set_option maxRecDepth 20000 in
theorem gX3_rateBridge_X4_rate : GoodIn wsX3_rateBridge (wsV RX3 53 RX4 yX4_rate wsX4_rate) := goodIn_app (goodIn_of _ (by decide +kernel)) ggX3_rateBridge_X4_rate
set_option maxRecDepth 20000 in
theorem ggX3_rateBridge_X4_isAbove : GoodIn wsX3_rateBridge wsX4_isAbove := goodIn_r _ [95, 47, 48, 73, 74, 75, 16, 76, 18, 88, 89, 90, 91, 60, 65, 66, 67, 68, 118, 119, 120, 121, 122, 123, 124, 125, 111, 112, 126] (by decide +kernel) (by decide +kernel)
set_option maxRecDepth 20000 in
theorem gX3_rateBridge_X4_isAbove : GoodIn wsX3_rateBridge (wsV RX3 57 RX4 yX4_isAbove wsX4_isAbove) := goodIn_app (goodIn_of _ (by decide +kernel)) ggX3_rateBridge_X4_isAbove
theorem dX3_rateBridge_0 : decode cX3_rateBridge 0 = .ok (.aload_n 0, 1) := by decide +kernel
theorem dX3_rateBridge_1 : decode cX3_rateBridge 1 = .ok (.getfield 19, 3) := by decide +kernel
theorem dX3_rateBridge_4 : decode cX3_rateBridge 4 = .ok (.iload_n 1, 1) := by decide +kernel
theorem dX3_rateBridge_5 : decode cX3_rateBridge 5 = .ok (.aaload, 1) := by decide +kernel
theorem dX3_rateBridge_6 : decode cX3_rateBridge 6 = .ok (.astore_n 2, 1) := by decide +kernel
theorem dX3_rateBridge_7 : decode cX3_rateBridge 7 = .ok (.aload_n 0, 1) := by decide +kernel
theorem dX3_rateBridge_8 : decode cX3_rateBridge 8 = .ok (.getfield 33, 3) := by decide +kernel
theorem dX3_rateBridge_11 : decode cX3_rateBridge 11 = .ok (.aload_n 2, 1) := by decide +kernel
theorem dX3_rateBridge_12 : decode cX3_rateBridge 12 = .ok (.aload_n 0, 1) := by decide +kernel
theorem dX3_rateBridge_13 : decode cX3_rateBridge 13 = .ok (.getfield 26, 3) := by decide +kernel
theorem dX3_rateBridge_16 : decode cX3_rateBridge 16 = .ok (.aload_n 2, 1) := by decide +kernel
theorem dX3_rateBridge_17 : decode cX3_rateBridge 17 = .ok (.getfield 49, 3) := by decide +kernel
theorem dX3_rateBridge_20 : decode cX3_rateBridge 20 = .ok (.invokevirtual 53, 3) := by decide +kernel
theorem dX3_rateBridge_23 : decode cX3_rateBridge 23 = .ok (.aload_n 2, 1) := by decide +kernel
theorem dX3_rateBridge_24 : decode cX3_rateBridge 24 = .ok (.aload_n 0, 1) := by decide +kernel
theorem dX3_rateBridge_25 : decode cX3_rateBridge 25 = .ok (.getfield 33, 3) := by decide +kernel
theorem dX3_rateBridge_28 : decode cX3_rateBridge 28 = .ok (.aload_n 2, 1) := by decide +kernel
theorem dX3_rateBridge_29 : decode cX3_rateBridge 29 = .ok (.getfield 49, 3) := by decide +kernel
theorem dX3_rateBridge_32 : decode cX3_rateBridge 32 = .ok (.lconst 1, 1) := by decide +kernel
theorem dX3_rateBridge_33 : decode cX3_rateBridge 33 = .ok (.lconst 1, 1) := by decide +kernel
theorem dX3_rateBridge_34 : decode cX3_rateBridge 34 = .ok (.invokevirtual 57, 3) := by decide +kernel
theorem dX3_rateBridge_37 : decode cX3_rateBridge 37 = .ok (.putfield 61, 3) := by decide +kernel
theorem dX3_rateBridge_40 : decode cX3_rateBridge 40 = .ok (.aload_n 2, 1) := by decide +kernel
theorem dX3_rateBridge_41 : decode cX3_rateBridge 41 = .ok (.aload_n 0, 1) := by decide +kernel
theorem dX3_rateBridge_42 : decode cX3_rateBridge 42 = .ok (.getfield 33, 3) := by decide +kernel
theorem dX3_rateBridge_45 : decode cX3_rateBridge 45 = .ok (.aload_n 2, 1) := by decide +kernel
theorem dX3_rateBridge_46 : decode cX3_rateBridge 46 = .ok (.getfield 49, 3) := by decide +kernel
theorem dX3_rateBridge_49 : decode cX3_rateBridge 49 = .ok (.ldc2_w 65, 3) := by decide +kernel
theorem dX3_rateBridge_52 : decode cX3_rateBridge 52 = .ok (.ldc2_w 67, 3) := by decide +kernel
theorem dX3_rateBridge_55 : decode cX3_rateBridge 55 = .ok (.invokevirtual 57, 3) := by decide +kernel
theorem dX3_rateBridge_58 : decode cX3_rateBridge 58 = .ok (.putfield 69, 3) := by decide +kernel
theorem dX3_rateBridge_61 : decode cX3_rateBridge 61 = .ok (.return_, 1) := by decide +kernel
set_option maxRecDepth 20000 in
theorem ggX3_rateAllBridges_X3_rateBridge : GoodIn wsX3_rateAllBridges wsX3_rateBridge := goodIn_r _ [6, 7, 8, 9, 10, 11, 12, 13, 14, 15, 16, 17, 18, 19, 20, 21, 22, 23, 24, 25, 26, 27, 28, 29, 30, 31, 32, 33, 34, 35, 36, 37, 38, 39, 40, 41, 42, 43, 44, 45, 46, 47, 48, 49, 50, 51, 52, 53, 54, 55, 56, 57, 58, 59, 60, 61, 62, 63, 64, 65, 66, 67, 68, 69, 70, 71, 72, 73, 74, 75, 76, 77, 78, 79, 80, 81, 82, 83, 84, 85, 86, 87, 88, 89, 90, 91, 92, 93, 94, 95, 96, 97, 98, 99, 100, 101, 102, 103, 104, 105, 106, 107, 108, 109, 110, 111, 112, 113, 114, 115, 116, 117, 118, 119, 120, 121, 122, 123, 124, 125, 126, 127, 128, 129, 130, 131, 132] (by decide +kernel) (by decide +kernel)
set_option maxRecDepth 20000 in
theorem gX3_rateAllBridges_X3_rateBridge : GoodIn wsX3_rateAllBridges (wsV RX3 72 RX3 yX3_rateBridge wsX3_rateBridge) := goodIn_app (goodIn_of _ (by decide +kernel)) ggX3_rateAllBridges_X3_rateBridge
theorem dX3_rateAllBridges_0 : decode cX3_rateAllBridges 0 = .ok (.iconst 0, 1) := by decide +kernel
theorem dX3_rateAllBridges_1 : decode cX3_rateAllBridges 1 = .ok (.istore_n 1, 1) := by decide +kernel
theorem dX3_rateAllBridges_2 : decode cX3_rateAllBridges 2 = .ok (.iload_n 1, 1) := by decide +kernel
theorem dX3_rateAllBridges_3 : decode cX3_rateAllBridges 3 = .ok (.aload_n 0, 1) := by decide +kernel
theorem dX3_rateAllBridges_4 : decode cX3_rateAllBridges 4 = .ok (.getfield 46, 3) := by decide +kernel
theorem dX3_rateAllBridges_7 : decode cX3_rateAllBridges 7 = .ok (.if_icmp .ge 14, 3) := by decide +kernel
theorem dX3_rateAllBridges_10 : decode cX3_rateAllBridges 10 = .ok (.aload_n 0, 1) := by decide +kernel
theorem dX3_rateAllBridges_11 : decode cX3_rateAllBridges 11 = .ok (.iload_n 1, 1) := by decide +kernel
theorem dX3_rateAllBridges_12 : decode cX3_rateAllBridges 12 = .ok (.invokevirtual 72, 3) := by decide +kernel
theorem dX3_rateAllBridges_15 : decode cX3_rateAllBridges 15 = .ok (.iinc 1 1, 3) := by decide +kernel
theorem dX3_rateAllBridges_18 : decode cX3_rateAllBridges 18 = .ok (.goto (-16), 3) := by decide +kernel
theorem dX3_rateAllBridges_21 : decode cX3_rateAllBridges 21 = .ok (.return_, 1) := by decide +kernel
set_option maxRecDepth 20000 in
theorem ggX3_isKeptRatingTrue_X4_isStillRight : GoodIn wsX3_isKeptRatingTrue wsX4_isStillRight := goodIn_r _ [8, 9, 10, 11, 12, 7, 13, 14, 15, 16, 17, 18, 19, 20, 21, 22, 23, 24, 25, 26, 27, 28, 29, 30, 31, 32, 33, 34, 35, 36, 37, 38, 39, 40, 41, 42, 43, 44, 45, 46, 47, 48, 49, 50, 51, 52, 53, 54, 55, 56, 57, 58, 59, 60, 61, 62, 63, 64, 65, 66, 67, 68, 69, 70, 71, 72, 73, 74, 75, 76, 77, 78, 79, 80, 81, 82, 83, 84, 85, 86, 87, 88, 89, 90, 91, 92, 93, 94, 95, 96, 97, 98, 99, 100, 101, 102, 110, 111, 112, 113, 114, 115, 116, 117, 118, 119, 120, 121, 122, 123, 124, 125, 126, 127, 128, 129, 130, 131, 132, 133] (by decide +kernel) (by decide +kernel)
set_option maxRecDepth 20000 in
theorem gX3_isKeptRatingTrue_X4_isStillRight : GoodIn wsX3_isKeptRatingTrue (wsV RX3 76 RX4 yX4_isStillRight wsX4_isStillRight) := goodIn_app (goodIn_of _ (by decide +kernel)) ggX3_isKeptRatingTrue_X4_isStillRight
theorem dX3_isKeptRatingTrue_0 : decode cX3_isKeptRatingTrue 0 = .ok (.aload_n 0, 1) := by decide +kernel
theorem dX3_isKeptRatingTrue_1 : decode cX3_isKeptRatingTrue 1 = .ok (.getfield 33, 3) := by decide +kernel
theorem dX3_isKeptRatingTrue_4 : decode cX3_isKeptRatingTrue 4 = .ok (.aload_n 0, 1) := by decide +kernel
theorem dX3_isKeptRatingTrue_5 : decode cX3_isKeptRatingTrue 5 = .ok (.getfield 19, 3) := by decide +kernel
theorem dX3_isKeptRatingTrue_8 : decode cX3_isKeptRatingTrue 8 = .ok (.iload_n 1, 1) := by decide +kernel
theorem dX3_isKeptRatingTrue_9 : decode cX3_isKeptRatingTrue 9 = .ok (.aaload, 1) := by decide +kernel
theorem dX3_isKeptRatingTrue_10 : decode cX3_isKeptRatingTrue 10 = .ok (.aload_n 0, 1) := by decide +kernel
theorem dX3_isKeptRatingTrue_11 : decode cX3_isKeptRatingTrue 11 = .ok (.getfield 26, 3) := by decide +kernel
theorem dX3_isKeptRatingTrue_14 : decode cX3_isKeptRatingTrue 14 = .ok (.invokevirtual 76, 3) := by decide +kernel
theorem dX3_isKeptRatingTrue_17 : decode cX3_isKeptRatingTrue 17 = .ok (.ireturn, 1) := by decide +kernel
set_option maxRecDepth 20000 in
theorem ggX3_whyNotBearing_X3_hasBridge : GoodIn wsX3_whyNotBearing wsX3_hasBridge := goodIn_r _ [8, 9, 10, 11, 12, 13, 14, 15, 16] (by decide +kernel) (by decide +kernel)
set_option maxRecDepth 20000 in
theorem gX3_whyNotBearing_X3_hasBridge : GoodIn wsX3_whyNotBearing (wsV RX3 94 RX3 yX3_hasBridge wsX3_hasBridge) := goodIn_app (goodIn_of _ (by decide +kernel)) ggX3_whyNotBearing_X3_hasBridge
theorem dX3_whyNotBearing_0 : decode cX3_whyNotBearing 0 = .ok (.aload_n 0, 1) := by decide +kernel
theorem dX3_whyNotBearing_1 : decode cX3_whyNotBearing 1 = .ok (.getfield 11, 3) := by decide +kernel
theorem dX3_whyNotBearing_4 : decode cX3_whyNotBearing 4 = .ok (.iload_n 1, 1) := by decide +kernel
theorem dX3_whyNotBearing_5 : decode cX3_whyNotBearing 5 = .ok (.aaload, 1) := by decide +kernel
theorem dX3_whyNotBearing_6 : decode cX3_whyNotBearing 6 = .ok (.astore_n 2, 1) := by decide +kernel
theorem dX3_whyNotBearing_7 : decode cX3_whyNotBearing 7 = .ok (.aload_n 2, 1) := by decide +kernel
theorem dX3_whyNotBearing_8 : decode cX3_whyNotBearing 8 = .ok (.getfield 80, 3) := by decide +kernel
theorem dX3_whyNotBearing_11 : decode cX3_whyNotBearing 11 = .ok (.ifCond .ne 5, 3) := by decide +kernel
theorem dX3_whyNotBearing_14 : decode cX3_whyNotBearing 14 = .ok (.iconst 1, 1) := by decide +kernel
theorem dX3_whyNotBearing_15 : decode cX3_whyNotBearing 15 = .ok (.ireturn, 1) := by decide +kernel
theorem dX3_whyNotBearing_16 : decode cX3_whyNotBearing 16 = .ok (.aload_n 2, 1) := by decide +kernel
theorem dX3_whyNotBearing_17 : decode cX3_whyNotBearing 17 = .ok (.getfield 83, 3) := by decide +kernel
theorem dX3_whyNotBearing_20 : decode cX3_whyNotBearing 20 = .ok (.aload_n 0, 1) := by decide +kernel
theorem dX3_whyNotBearing_21 : decode cX3_whyNotBearing 21 = .ok (.getfield 26, 3) := by decide +kernel
theorem dX3_whyNotBearing_24 : decode cX3_whyNotBearing 24 = .ok (.getfield 86, 3) := by decide +kernel
theorem dX3_whyNotBearing_27 : decode cX3_whyNotBearing 27 = .ok (.if_icmp .ge 5, 3) := by decide +kernel
theorem dX3_whyNotBearing_30 : decode cX3_whyNotBearing 30 = .ok (.iconst 2, 1) := by decide +kernel
theorem dX3_whyNotBearing_31 : decode cX3_whyNotBearing 31 = .ok (.ireturn, 1) := by decide +kernel
theorem dX3_whyNotBearing_32 : decode cX3_whyNotBearing 32 = .ok (.aload_n 2, 1) := by decide +kernel
theorem dX3_whyNotBearing_33 : decode cX3_whyNotBearing 33 = .ok (.getfield 87, 3) := by decide +kernel
theorem dX3_whyNotBearing_36 : decode cX3_whyNotBearing 36 = .ok (.aload_n 0, 1) := by decide +kernel
theorem dX3_whyNotBearing_37 : decode cX3_whyNotBearing 37 = .ok (.getfield 26, 3) := by decide +kernel
theorem dX3_whyNotBearing_40 : decode cX3_whyNotBearing 40 = .ok (.getfield 90, 3) := by decide +kernel
theorem dX3_whyNotBearing_43 : decode cX3_whyNotBearing 43 = .ok (.if_icmp .ge 5, 3) := by decide +kernel
theorem dX3_whyNotBearing_46 : decode cX3_whyNotBearing 46 = .ok (.iconst 3, 1) := by decide +kernel
theorem dX3_whyNotBearing_47 : decode cX3_whyNotBearing 47 = .ok (.ireturn, 1) := by decide +kernel
theorem dX3_whyNotBearing_48 : decode cX3_whyNotBearing 48 = .ok (.aload_n 0, 1) := by decide +kernel
theorem dX3_whyNotBearing_49 : decode cX3_whyNotBearing 49 = .ok (.aload_n 2, 1) := by decide +kernel
theorem dX3_whyNotBearing_50 : decode cX3_whyNotBearing 50 = .ok (.getfield 91, 3) := by decide +kernel
theorem dX3_whyNotBearing_53 : decode cX3_whyNotBearing 53 = .ok (.invokevirtual 94, 3) := by decide +kernel
theorem dX3_whyNotBearing_56 : decode cX3_whyNotBearing 56 = .ok (.ifCond .eq 22, 3) := by decide +kernel
theorem dX3_whyNotBearing_59 : decode cX3_whyNotBearing 59 = .ok (.aload_n 0, 1) := by decide +kernel
theorem dX3_whyNotBearing_60 : decode cX3_whyNotBearing 60 = .ok (.getfield 19, 3) := by decide +kernel
theorem dX3_whyNotBearing_63 : decode cX3_whyNotBearing 63 = .ok (.aload_n 2, 1) := by decide +kernel
theorem dX3_whyNotBearing_64 : decode cX3_whyNotBearing 64 = .ok (.getfield 91, 3) := by decide +kernel
theorem dX3_whyNotBearing_67 : decode cX3_whyNotBearing 67 = .ok (.aaload, 1) := by decide +kernel
theorem dX3_whyNotBearing_68 : decode cX3_whyNotBearing 68 = .ok (.getfield 61, 3) := by decide +kernel
theorem dX3_whyNotBearing_71 : decode cX3_whyNotBearing 71 = .ok (.ifCond .eq 7, 3) := by decide +kernel
theorem dX3_whyNotBearing_74 : decode cX3_whyNotBearing 74 = .ok (.iconst 4, 1) := by decide +kernel
theorem dX3_whyNotBearing_75 : decode cX3_whyNotBearing 75 = .ok (.goto 4, 3) := by decide +kernel
theorem dX3_whyNotBearing_78 : decode cX3_whyNotBearing 78 = .ok (.iconst 0, 1) := by decide +kernel
theorem dX3_whyNotBearing_79 : decode cX3_whyNotBearing 79 = .ok (.ireturn, 1) := by decide +kernel
set_option maxRecDepth 20000 in
theorem ggX3_wantsEscort_X3_hasBridge : GoodIn wsX3_wantsEscort wsX3_hasBridge := goodIn_r _ [8, 9, 10, 11, 12, 13, 14, 15, 16] (by decide +kernel) (by decide +kernel)
set_option maxRecDepth 20000 in
theorem gX3_wantsEscort_X3_hasBridge : GoodIn wsX3_wantsEscort (wsV RX3 94 RX3 yX3_hasBridge wsX3_hasBridge) := goodIn_app (goodIn_of _ (by decide +kernel)) ggX3_wantsEscort_X3_hasBridge
theorem dX3_wantsEscort_0 : decode cX3_wantsEscort 0 = .ok (.aload_n 0, 1) := by decide +kernel
theorem dX3_wantsEscort_1 : decode cX3_wantsEscort 1 = .ok (.getfield 11, 3) := by decide +kernel
theorem dX3_wantsEscort_4 : decode cX3_wantsEscort 4 = .ok (.iload_n 1, 1) := by decide +kernel
theorem dX3_wantsEscort_5 : decode cX3_wantsEscort 5 = .ok (.aaload, 1) := by decide +kernel
theorem dX3_wantsEscort_6 : decode cX3_wantsEscort 6 = .ok (.astore_n 2, 1) := by decide +kernel
theorem dX3_wantsEscort_7 : decode cX3_wantsEscort 7 = .ok (.aload_n 2, 1) := by decide +kernel
theorem dX3_wantsEscort_8 : decode cX3_wantsEscort 8 = .ok (.getfield 83, 3) := by decide +kernel
theorem dX3_wantsEscort_11 : decode cX3_wantsEscort 11 = .ok (.aload_n 0, 1) := by decide +kernel
theorem dX3_wantsEscort_12 : decode cX3_wantsEscort 12 = .ok (.getfield 26, 3) := by decide +kernel
theorem dX3_wantsEscort_15 : decode cX3_wantsEscort 15 = .ok (.getfield 86, 3) := by decide +kernel
theorem dX3_wantsEscort_18 : decode cX3_wantsEscort 18 = .ok (.isub, 1) := by decide +kernel
theorem dX3_wantsEscort_19 : decode cX3_wantsEscort 19 = .ok (.bipush 50, 2) := by decide +kernel
theorem dX3_wantsEscort_21 : decode cX3_wantsEscort 21 = .ok (.if_icmp .lt 46, 3) := by decide +kernel
theorem dX3_wantsEscort_24 : decode cX3_wantsEscort 24 = .ok (.aload_n 2, 1) := by decide +kernel
theorem dX3_wantsEscort_25 : decode cX3_wantsEscort 25 = .ok (.getfield 87, 3) := by decide +kernel
theorem dX3_wantsEscort_28 : decode cX3_wantsEscort 28 = .ok (.aload_n 0, 1) := by decide +kernel
theorem dX3_wantsEscort_29 : decode cX3_wantsEscort 29 = .ok (.getfield 26, 3) := by decide +kernel
theorem dX3_wantsEscort_32 : decode cX3_wantsEscort 32 = .ok (.getfield 90, 3) := by decide +kernel
theorem dX3_wantsEscort_35 : decode cX3_wantsEscort 35 = .ok (.isub, 1) := by decide +kernel
theorem dX3_wantsEscort_36 : decode cX3_wantsEscort 36 = .ok (.bipush 50, 2) := by decide +kernel
theorem dX3_wantsEscort_38 : decode cX3_wantsEscort 38 = .ok (.if_icmp .lt 29, 3) := by decide +kernel
theorem dX3_wantsEscort_41 : decode cX3_wantsEscort 41 = .ok (.aload_n 0, 1) := by decide +kernel
theorem dX3_wantsEscort_42 : decode cX3_wantsEscort 42 = .ok (.aload_n 2, 1) := by decide +kernel
theorem dX3_wantsEscort_43 : decode cX3_wantsEscort 43 = .ok (.getfield 91, 3) := by decide +kernel
theorem dX3_wantsEscort_46 : decode cX3_wantsEscort 46 = .ok (.invokevirtual 94, 3) := by decide +kernel
theorem dX3_wantsEscort_49 : decode cX3_wantsEscort 49 = .ok (.ifCond .eq 22, 3) := by decide +kernel
theorem dX3_wantsEscort_52 : decode cX3_wantsEscort 52 = .ok (.aload_n 0, 1) := by decide +kernel
theorem dX3_wantsEscort_53 : decode cX3_wantsEscort 53 = .ok (.getfield 19, 3) := by decide +kernel
theorem dX3_wantsEscort_56 : decode cX3_wantsEscort 56 = .ok (.aload_n 2, 1) := by decide +kernel
theorem dX3_wantsEscort_57 : decode cX3_wantsEscort 57 = .ok (.getfield 91, 3) := by decide +kernel
theorem dX3_wantsEscort_60 : decode cX3_wantsEscort 60 = .ok (.aaload, 1) := by decide +kernel
theorem dX3_wantsEscort_61 : decode cX3_wantsEscort 61 = .ok (.getfield 69, 3) := by decide +kernel
theorem dX3_wantsEscort_64 : decode cX3_wantsEscort 64 = .ok (.ifCond .eq 7, 3) := by decide +kernel
theorem dX3_wantsEscort_67 : decode cX3_wantsEscort 67 = .ok (.iconst 1, 1) := by decide +kernel
theorem dX3_wantsEscort_68 : decode cX3_wantsEscort 68 = .ok (.goto 4, 3) := by decide +kernel
theorem dX3_wantsEscort_71 : decode cX3_wantsEscort 71 = .ok (.iconst 0, 1) := by decide +kernel
theorem dX3_wantsEscort_72 : decode cX3_wantsEscort 72 = .ok (.ireturn, 1) := by decide +kernel
set_option maxRecDepth 20000 in
theorem ggX3_endOfRoad_X3_hasBridge : GoodIn wsX3_endOfRoad wsX3_hasBridge := goodIn_r _ [7, 8, 9, 10, 11, 12, 13, 14, 15] (by decide +kernel) (by decide +kernel)
set_option maxRecDepth 20000 in
theorem gX3_endOfRoad_X3_hasBridge : GoodIn wsX3_endOfRoad (wsV RX3 94 RX3 yX3_hasBridge wsX3_hasBridge) := goodIn_app (goodIn_of _ (by decide +kernel)) ggX3_endOfRoad_X3_hasBridge
theorem dX3_endOfRoad_0 : decode cX3_endOfRoad 0 = .ok (.aload_n 0, 1) := by decide +kernel
theorem dX3_endOfRoad_1 : decode cX3_endOfRoad 1 = .ok (.getfield 11, 3) := by decide +kernel
theorem dX3_endOfRoad_4 : decode cX3_endOfRoad 4 = .ok (.iload_n 1, 1) := by decide +kernel
theorem dX3_endOfRoad_5 : decode cX3_endOfRoad 5 = .ok (.aaload, 1) := by decide +kernel
theorem dX3_endOfRoad_6 : decode cX3_endOfRoad 6 = .ok (.astore_n 3, 1) := by decide +kernel
theorem dX3_endOfRoad_7 : decode cX3_endOfRoad 7 = .ok (.aload_n 0, 1) := by decide +kernel
theorem dX3_endOfRoad_8 : decode cX3_endOfRoad 8 = .ok (.aload_n 3, 1) := by decide +kernel
theorem dX3_endOfRoad_9 : decode cX3_endOfRoad 9 = .ok (.getfield 91, 3) := by decide +kernel
theorem dX3_endOfRoad_12 : decode cX3_endOfRoad 12 = .ok (.invokevirtual 94, 3) := by decide +kernel
theorem dX3_endOfRoad_15 : decode cX3_endOfRoad 15 = .ok (.ifCond .eq 22, 3) := by decide +kernel
theorem dX3_endOfRoad_18 : decode cX3_endOfRoad 18 = .ok (.aload_n 0, 1) := by decide +kernel
theorem dX3_endOfRoad_19 : decode cX3_endOfRoad 19 = .ok (.getfield 19, 3) := by decide +kernel
theorem dX3_endOfRoad_22 : decode cX3_endOfRoad 22 = .ok (.aload_n 3, 1) := by decide +kernel
theorem dX3_endOfRoad_23 : decode cX3_endOfRoad 23 = .ok (.getfield 91, 3) := by decide +kernel
theorem dX3_endOfRoad_26 : decode cX3_endOfRoad 26 = .ok (.aaload, 1) := by decide +kernel
theorem dX3_endOfRoad_27 : decode cX3_endOfRoad 27 = .ok (.getfield 98, 3) := by decide +kernel
theorem dX3_endOfRoad_30 : decode cX3_endOfRoad 30 = .ok (.ifCond .eq 7, 3) := by decide +kernel
theorem dX3_endOfRoad_33 : decode cX3_endOfRoad 33 = .ok (.iconst 1, 1) := by decide +kernel
theorem dX3_endOfRoad_34 : decode cX3_endOfRoad 34 = .ok (.goto 4, 3) := by decide +kernel
theorem dX3_endOfRoad_37 : decode cX3_endOfRoad 37 = .ok (.iconst 0, 1) := by decide +kernel
theorem dX3_endOfRoad_38 : decode cX3_endOfRoad 38 = .ok (.istore 4, 2) := by decide +kernel
theorem dX3_endOfRoad_40 : decode cX3_endOfRoad 40 = .ok (.iload_n 2, 1) := by decide +kernel
theorem dX3_endOfRoad_41 : decode cX3_endOfRoad 41 = .ok (.iload 4, 2) := by decide +kernel
theorem dX3_endOfRoad_43 : decode cX3_endOfRoad 43 = .ok (.ifCond .eq 12, 3) := by decide +kernel
theorem dX3_endOfRoad_46 : decode cX3_endOfRoad 46 = .ok (.iconst 2, 1) := by decide +kernel
theorem dX3_endOfRoad_47 : decode cX3_endOfRoad 47 = .ok (.aload_n 3, 1) := by decide +kernel
theorem dX3_endOfRoad_48 : decode cX3_endOfRoad 48 = .ok (.getfield 101, 3) := by decide +kernel
theorem dX3_endOfRoad_51 : decode cX3_endOfRoad 51 = .ok (.imul, 1) := by decide +kernel
theorem dX3_endOfRoad_52 : decode cX3_endOfRoad 52 = .ok (.goto 7, 3) := by decide +kernel
theorem dX3_endOfRoad_55 : decode cX3_endOfRoad 55 = .ok (.aload_n 3, 1) := by decide +kernel
theorem dX3_endOfRoad_56 : decode cX3_endOfRoad 56 = .ok (.getfield 101, 3) := by decide +kernel
theorem dX3_endOfRoad_59 : decode cX3_endOfRoad 59 = .ok (.iadd, 1) := by decide +kernel
theorem dX3_endOfRoad_60 : decode cX3_endOfRoad 60 = .ok (.ireturn, 1) := by decide +kernel
set_option maxRecDepth 20000 in
theorem ggX3_endOfDrive_X6_earliestStart : GoodIn wsX3_endOfDrive wsX6_earliestStart := goodIn_r _ [6, 7, 8, 9, 10, 5, 11, 12, 13, 14, 15, 16, 17, 42, 43, 44, 45, 46, 47, 48, 49, 50, 51, 52] (by decide +kernel) (by decide +kernel)
set_option maxRecDepth 20000 in
theorem gX3_endOfDrive_X6_earliestStart : GoodIn wsX3_endOfDrive (wsV RX3 112 RX6 yX6_earliestStart wsX6_earliestStart) := goodIn_app (goodIn_of _ (by decide +kernel)) ggX3_endOfDrive_X6_earliestStart
set_option maxRecDepth 20000 in
theorem ggX3_endOfDrive_X3_endOfRoad : GoodIn wsX3_endOfDrive wsX3_endOfRoad := goodIn_r _ [22, 1, 23, 24, 25, 26, 21, 27, 28, 35, 36, 37, 38, 39, 40, 41, 42, 43, 44, 45, 46, 47, 48, 49, 50, 51, 52, 53, 54, 55, 56, 57, 58, 59, 60] (by decide +kernel) (by decide +kernel)
set_option maxRecDepth 20000 in
theorem gX3_endOfDrive_X3_endOfRoad : GoodIn wsX3_endOfDrive (wsV RX3 116 RX3 yX3_endOfRoad wsX3_endOfRoad) := goodIn_app (goodIn_of _ (by decide +kernel)) ggX3_endOfDrive_X3_endOfRoad
theorem dX3_endOfDrive_0 : decode cX3_endOfDrive 0 = .ok (.iload_n 2, 1) := by decide +kernel
theorem dX3_endOfDrive_1 : decode cX3_endOfDrive 1 = .ok (.istore_n 3, 1) := by decide +kernel
theorem dX3_endOfDrive_2 : decode cX3_endOfDrive 2 = .ok (.iconst 0, 1) := by decide +kernel
theorem dX3_endOfDrive_3 : decode cX3_endOfDrive 3 = .ok (.istore 4, 2) := by decide +kernel
theorem dX3_endOfDrive_5 : decode cX3_endOfDrive 5 = .ok (.iload 4, 2) := by decide +kernel
theorem dX3_endOfDrive_7 : decode cX3_endOfDrive 7 = .ok (.aload_n 1, 1) := by decide +kernel
theorem dX3_endOfDrive_8 : decode cX3_endOfDrive 8 = .ok (.getfield 104, 3) := by decide +kernel
theorem dX3_endOfDrive_11 : decode cX3_endOfDrive 11 = .ok (.if_icmp .ge 37, 3) := by decide +kernel
theorem dX3_endOfDrive_14 : decode cX3_endOfDrive 14 = .ok (.aload_n 0, 1) := by decide +kernel
theorem dX3_endOfDrive_15 : decode cX3_endOfDrive 15 = .ok (.aload_n 1, 1) := by decide +kernel
theorem dX3_endOfDrive_16 : decode cX3_endOfDrive 16 = .ok (.getfield 109, 3) := by decide +kernel
theorem dX3_endOfDrive_19 : decode cX3_endOfDrive 19 = .ok (.iload 4, 2) := by decide +kernel
theorem dX3_endOfDrive_21 : decode cX3_endOfDrive 21 = .ok (.iaload, 1) := by decide +kernel
theorem dX3_endOfDrive_22 : decode cX3_endOfDrive 22 = .ok (.aload_n 0, 1) := by decide +kernel
theorem dX3_endOfDrive_23 : decode cX3_endOfDrive 23 = .ok (.getfield 11, 3) := by decide +kernel
theorem dX3_endOfDrive_26 : decode cX3_endOfDrive 26 = .ok (.aload_n 1, 1) := by decide +kernel
theorem dX3_endOfDrive_27 : decode cX3_endOfDrive 27 = .ok (.getfield 109, 3) := by decide +kernel
theorem dX3_endOfDrive_30 : decode cX3_endOfDrive 30 = .ok (.iload 4, 2) := by decide +kernel
theorem dX3_endOfDrive_32 : decode cX3_endOfDrive 32 = .ok (.iaload, 1) := by decide +kernel
theorem dX3_endOfDrive_33 : decode cX3_endOfDrive 33 = .ok (.aaload, 1) := by decide +kernel
theorem dX3_endOfDrive_34 : decode cX3_endOfDrive 34 = .ok (.iload_n 3, 1) := by decide +kernel
theorem dX3_endOfDrive_35 : decode cX3_endOfDrive 35 = .ok (.invokevirtual 112, 3) := by decide +kernel
theorem dX3_endOfDrive_38 : decode cX3_endOfDrive 38 = .ok (.invokevirtual 116, 3) := by decide +kernel
theorem dX3_endOfDrive_41 : decode cX3_endOfDrive 41 = .ok (.istore_n 3, 1) := by decide +kernel
theorem dX3_endOfDrive_42 : decode cX3_endOfDrive 42 = .ok (.iinc 4 1, 3) := by decide +kernel
theorem dX3_endOfDrive_45 : decode cX3_endOfDrive 45 = .ok (.goto (-40), 3) := by decide +kernel
theorem dX3_endOfDrive_48 : decode cX3_endOfDrive 48 = .ok (.iload_n 3, 1) := by decide +kernel
theorem dX3_endOfDrive_49 : decode cX3_endOfDrive 49 = .ok (.ireturn, 1) := by decide +kernel
set_option maxRecDepth 20000 in
theorem ggX3_usableRoads_X3_whyNotBearing : GoodIn wsX3_usableRoads wsX3_whyNotBearing := goodIn_r _ [7, 2, 8, 9, 10, 11, 12, 6, 13, 14, 31, 32, 33, 34, 35, 36, 37, 38, 39, 40, 41, 42, 43, 44, 45, 46, 47, 48, 49, 50, 51, 52, 53, 54, 55, 56, 57, 58, 59, 60, 61] (by decide +kernel) (by decide +kernel)
set_option maxRecDepth 20000 in
theorem gX3_usableRoads_X3_whyNotBearing : GoodIn wsX3_usableRoads (wsV RX3 120 RX3 yX3_whyNotBearing wsX3_whyNotBearing) := goodIn_app (goodIn_of _ (by decide +kernel)) ggX3_usableRoads_X3_whyNotBearing
set_option maxRecDepth 20000 in
theorem ggX3_usableRoads_X6_earliestStart : GoodIn wsX3_usableRoads wsX6_earliestStart := goodIn_r _ [19, 20, 21, 22, 23, 18, 24, 25, 26, 27, 28, 29, 30, 38, 39, 40, 41, 42, 43, 44, 45, 46, 47, 48] (by decide +kernel) (by decide +kernel)
set_option maxRecDepth 20000 in
theorem gX3_usableRoads_X6_earliestStart : GoodIn wsX3_usableRoads (wsV RX3 112 RX6 yX6_earliestStart wsX6_earliestStart) := goodIn_app (goodIn_of _ (by decide +kernel)) ggX3_usableRoads_X6_earliestStart
theorem dX3_usableRoads_0 : decode cX3_usableRoads 0 = .ok (.iconst 0, 1) := by decide +kernel
theorem dX3_usableRoads_1 : decode cX3_usableRoads 1 = .ok (.istore_n 1, 1) := by decide +kernel
theorem dX3_usableRoads_2 : decode cX3_usableRoads 2 = .ok (.iconst 0, 1) := by decide +kernel
theorem dX3_usableRoads_3 : decode cX3_usableRoads 3 = .ok (.istore_n 2, 1) := by decide +kernel
theorem dX3_usableRoads_4 : decode cX3_usableRoads 4 = .ok (.iload_n 2, 1) := by decide +kernel
theorem dX3_usableRoads_5 : decode cX3_usableRoads 5 = .ok (.aload_n 0, 1) := by decide +kernel
theorem dX3_usableRoads_6 : decode cX3_usableRoads 6 = .ok (.getfield 43, 3) := by decide +kernel
theorem dX3_usableRoads_9 : decode cX3_usableRoads 9 = .ok (.if_icmp .ge 37, 3) := by decide +kernel
theorem dX3_usableRoads_12 : decode cX3_usableRoads 12 = .ok (.aload_n 0, 1) := by decide +kernel
theorem dX3_usableRoads_13 : decode cX3_usableRoads 13 = .ok (.iload_n 2, 1) := by decide +kernel
theorem dX3_usableRoads_14 : decode cX3_usableRoads 14 = .ok (.invokevirtual 120, 3) := by decide +kernel
theorem dX3_usableRoads_17 : decode cX3_usableRoads 17 = .ok (.ifCond .ne 23, 3) := by decide +kernel
theorem dX3_usableRoads_20 : decode cX3_usableRoads 20 = .ok (.aload_n 0, 1) := by decide +kernel
theorem dX3_usableRoads_21 : decode cX3_usableRoads 21 = .ok (.getfield 11, 3) := by decide +kernel
theorem dX3_usableRoads_24 : decode cX3_usableRoads 24 = .ok (.iload_n 2, 1) := by decide +kernel
theorem dX3_usableRoads_25 : decode cX3_usableRoads 25 = .ok (.aaload, 1) := by decide +kernel
theorem dX3_usableRoads_26 : decode cX3_usableRoads 26 = .ok (.iconst 0, 1) := by decide +kernel
theorem dX3_usableRoads_27 : decode cX3_usableRoads 27 = .ok (.invokevirtual 112, 3) := by decide +kernel
theorem dX3_usableRoads_30 : decode cX3_usableRoads 30 = .ok (.iconst (-1), 1) := by decide +kernel
theorem dX3_usableRoads_31 : decode cX3_usableRoads 31 = .ok (.if_icmp .eq 9, 3) := by decide +kernel
theorem dX3_usableRoads_34 : decode cX3_usableRoads 34 = .ok (.iload_n 1, 1) := by decide +kernel
theorem dX3_usableRoads_35 : decode cX3_usableRoads 35 = .ok (.iconst 1, 1) := by decide +kernel
theorem dX3_usableRoads_36 : decode cX3_usableRoads 36 = .ok (.iload_n 2, 1) := by decide +kernel
theorem dX3_usableRoads_37 : decode cX3_usableRoads 37 = .ok (.ishl, 1) := by decide +kernel
theorem dX3_usableRoads_38 : decode cX3_usableRoads 38 = .ok (.ior, 1) := by decide +kernel
theorem dX3_usableRoads_39 : decode cX3_usableRoads 39 = .ok (.istore_n 1, 1) := by decide +kernel
theorem dX3_usableRoads_40 : decode cX3_usableRoads 40 = .ok (.iinc 2 1, 3) := by decide +kernel
theorem dX3_usableRoads_43 : decode cX3_usableRoads 43 = .ok (.goto (-39), 3) := by decide +kernel
theorem dX3_usableRoads_46 : decode cX3_usableRoads 46 = .ok (.iload_n 1, 1) := by decide +kernel
theorem dX3_usableRoads_47 : decode cX3_usableRoads 47 = .ok (.ireturn, 1) := by decide +kernel
theorem dX3_bridgesOn_0 : decode cX3_bridgesOn 0 = .ok (.iconst 0, 1) := by decide +kernel
theorem dX3_bridgesOn_1 : decode cX3_bridgesOn 1 = .ok (.istore_n 2, 1) := by decide +kernel
theorem dX3_bridgesOn_2 : decode cX3_bridgesOn 2 = .ok (.iconst 0, 1) := by decide +kernel
theorem dX3_bridgesOn_3 : decode cX3_bridgesOn 3 = .ok (.istore_n 3, 1) := by decide +kernel
theorem dX3_bridgesOn_4 : decode cX3_bridgesOn 4 = .ok (.iload_n 3, 1) := by decide +kernel
theorem dX3_bridgesOn_5 : decode cX3_bridgesOn 5 = .ok (.aload_n 1, 1) := by decide +kernel
theorem dX3_bridgesOn_6 : decode cX3_bridgesOn 6 = .ok (.getfield 104, 3) := by decide +kernel
theorem dX3_bridgesOn_9 : decode cX3_bridgesOn 9 = .ok (.if_icmp .ge 30, 3) := by decide +kernel
theorem dX3_bridgesOn_12 : decode cX3_bridgesOn 12 = .ok (.aload_n 0, 1) := by decide +kernel
theorem dX3_bridgesOn_13 : decode cX3_bridgesOn 13 = .ok (.getfield 11, 3) := by decide +kernel
theorem dX3_bridgesOn_16 : decode cX3_bridgesOn 16 = .ok (.aload_n 1, 1) := by decide +kernel
theorem dX3_bridgesOn_17 : decode cX3_bridgesOn 17 = .ok (.getfield 109, 3) := by decide +kernel
theorem dX3_bridgesOn_20 : decode cX3_bridgesOn 20 = .ok (.iload_n 3, 1) := by decide +kernel
theorem dX3_bridgesOn_21 : decode cX3_bridgesOn 21 = .ok (.iaload, 1) := by decide +kernel
theorem dX3_bridgesOn_22 : decode cX3_bridgesOn 22 = .ok (.aaload, 1) := by decide +kernel
theorem dX3_bridgesOn_23 : decode cX3_bridgesOn 23 = .ok (.getfield 91, 3) := by decide +kernel
theorem dX3_bridgesOn_26 : decode cX3_bridgesOn 26 = .ok (.iconst (-1), 1) := by decide +kernel
theorem dX3_bridgesOn_27 : decode cX3_bridgesOn 27 = .ok (.if_icmp .eq 6, 3) := by decide +kernel
theorem dX3_bridgesOn_30 : decode cX3_bridgesOn 30 = .ok (.iinc 2 1, 3) := by decide +kernel
theorem dX3_bridgesOn_33 : decode cX3_bridgesOn 33 = .ok (.iinc 3 1, 3) := by decide +kernel
theorem dX3_bridgesOn_36 : decode cX3_bridgesOn 36 = .ok (.goto (-32), 3) := by decide +kernel
theorem dX3_bridgesOn_39 : decode cX3_bridgesOn 39 = .ok (.iload_n 2, 1) := by decide +kernel
theorem dX3_bridgesOn_40 : decode cX3_bridgesOn 40 = .ok (.ireturn, 1) := by decide +kernel
set_option maxRecDepth 20000 in
theorem ggX4_init_X8_init : GoodIn wsX4_init wsX8_init := goodIn_r _ [18, 19, 2, 3, 13, 20, 32] (by decide +kernel) (by decide +kernel)
set_option maxRecDepth 20000 in
theorem gX4_init_X8_init_n11 : GoodIn wsX4_init (wsX8_init) := ggX4_init_X8_init
set_option maxRecDepth 20000 in
theorem ggX4_init_X5_init : GoodIn wsX4_init wsX5_init := goodIn_r _ [23, 24, 2, 3, 25, 5, 6, 26, 27, 17, 18, 19, 13, 20, 28, 29, 30, 31, 32, 41, 42] (by decide +kernel) (by decide +kernel)
set_option maxRecDepth 20000 in
theorem gX4_init_X5_init : GoodIn wsX4_init (wsX5_init) := ggX4_init_X5_init
theorem dX4_init_0 : decode cX4_init 0 = .ok (.aload_n 0, 1) := by decide +kernel
theorem dX4_init_1 : decode cX4_init 1 = .ok (.invokespecial 3, 3) := by decide +kernel
theorem dX4_init_4 : decode cX4_init 4 = .ok (.aload_n 0, 1) := by decide +kernel
theorem dX4_init_5 : decode cX4_init 5 = .ok (.new 9, 3) := by decide +kernel
theorem dX4_init_8 : decode cX4_init 8 = .ok (.dup, 1) := by decide +kernel
theorem dX4_init_9 : decode cX4_init 9 = .ok (.invokespecial 11, 3) := by decide +kernel
theorem dX4_init_12 : decode cX4_init 12 = .ok (.putfield 12, 3) := by decide +kernel
theorem dX4_init_15 : decode cX4_init 15 = .ok (.aload_n 0, 1) := by decide +kernel
theorem dX4_init_16 : decode cX4_init 16 = .ok (.new 9, 3) := by decide +kernel
theorem dX4_init_19 : decode cX4_init 19 = .ok (.dup, 1) := by decide +kernel
theorem dX4_init_20 : decode cX4_init 20 = .ok (.invokespecial 11, 3) := by decide +kernel
theorem dX4_init_23 : decode cX4_init 23 = .ok (.putfield 18, 3) := by decide +kernel
theorem dX4_init_26 : decode cX4_init 26 = .ok (.aload_n 0, 1) := by decide +kernel
theorem dX4_init_27 : decode cX4_init 27 = .ok (.new 21, 3) := by decide +kernel
theorem dX4_init_30 : decode cX4_init 30 = .ok (.dup, 1) := by decide +kernel
theorem dX4_init_31 : decode cX4_init 31 = .ok (.invokespecial 23, 3) := by decide +kernel
theorem dX4_init_34 : decode cX4_init 34 = .ok (.putfield 24, 3) := by decide +kernel
theorem dX4_init_37 : decode cX4_init 37 = .ok (.aload_n 0, 1) := by decide +kernel
theorem dX4_init_38 : decode cX4_init 38 = .ok (.bipush 6, 2) := by decide +kernel
theorem dX4_init_40 : decode cX4_init 40 = .ok (.newarray .long, 2) := by decide +kernel
theorem dX4_init_42 : decode cX4_init 42 = .ok (.putfield 28, 3) := by decide +kernel
theorem dX4_init_45 : decode cX4_init 45 = .ok (.aload_n 0, 1) := by decide +kernel
theorem dX4_init_46 : decode cX4_init 46 = .ok (.bipush 6, 2) := by decide +kernel
theorem dX4_init_48 : decode cX4_init 48 = .ok (.newarray .long, 2) := by decide +kernel
theorem dX4_init_50 : decode cX4_init 50 = .ok (.putfield 32, 3) := by decide +kernel
theorem dX4_init_53 : decode cX4_init 53 = .ok (.aload_n 0, 1) := by decide +kernel
theorem dX4_init_54 : decode cX4_init 54 = .ok (.bipush 6, 2) := by decide +kernel
theorem dX4_init_56 : decode cX4_init 56 = .ok (.newarray .long, 2) := by decide +kernel
theorem dX4_init_58 : decode cX4_init 58 = .ok (.putfield 35, 3) := by decide +kernel
theorem dX4_init_61 : decode cX4_init 61 = .ok (.return_, 1) := by decide +kernel
set_option maxRecDepth 20000 in
theorem ggX4_rate_X8_setTo : GoodIn wsX4_rate wsX8_setTo := goodIn_r _ [7, 8, 106] (by decide +kernel) (by decide +kernel)
set_option maxRecDepth 20000 in
theorem gX4_rate_X8_setTo : GoodIn wsX4_rate (wsV RX4 41 RX8 yX8_setTo wsX8_setTo) := goodIn_app (goodIn_of _ (by decide +kernel)) ggX4_rate_X8_setTo
set_option maxRecDepth 20000 in
theorem ggX4_rate_X4_findScales : GoodIn wsX4_rate wsX4_findScales := goodIn_r _ [13, 14, 15, 1, 2, 16, 17, 12, 18, 19, 20, 21, 22, 23, 24, 25, 26, 27, 28, 29, 30, 31, 32, 98, 99, 100, 101, 102, 103, 104, 105, 90, 91, 92, 93, 94, 95, 96, 97] (by decide +kernel) (by decide +kernel)
set_option maxRecDepth 20000 in
theorem gX4_rate_X4_findScales : GoodIn wsX4_rate (wsV RX4 48 RX4 yX4_findScales wsX4_findScales) := goodIn_app (goodIn_of _ (by decide +kernel)) ggX4_rate_X4_findScales
set_option maxRecDepth 20000 in
theorem ggX4_rate_X4_takeGreater : GoodIn wsX4_rate wsX4_takeGreater := goodIn_r _ [36, 37, 38, 39, 40, 41, 21, 42, 14, 43, 44, 45, 12, 46, 15, 26, 27, 28, 29, 30, 31, 32, 23, 24, 25, 3, 4, 5, 6, 7, 8, 47, 48, 49, 50, 51, 52, 53, 54, 55, 56, 57, 58, 59, 60, 61, 62, 63, 64, 65, 66, 67, 98, 99, 100, 101, 102, 103, 104, 105, 85, 86, 87, 88, 89, 90, 91, 92, 93, 94, 95, 96, 97, 106] (by decide +kernel) (by decide +kernel)
set_option maxRecDepth 20000 in
theorem gX4_rate_X4_takeGreater : GoodIn wsX4_rate (wsV RX4 69 RX4 yX4_takeGreater wsX4_takeGreater) := goodIn_app (goodIn_of _ (by decide +kernel)) ggX4_rate_X4_takeGreater
set_option maxRecDepth 20000 in
theorem ggX4_rate_X4_reduce : GoodIn wsX4_rate wsX4_reduce := goodIn_r _ [70, 71, 72, 73, 6, 74, 51, 8, 16, 17, 12, 18, 19, 20, 21, 22, 75, 76, 77, 78, 23, 24, 25, 79, 80, 81, 82, 83, 84, 106] (by decide +kernel) (by decide +kernel)
set_option maxRecDepth 20000 in
theorem gX4_rate_X4_reduce : GoodIn wsX4_rate (va_wsS RX4 73 yX4_reduce wsX4_reduce) := goodIn_app (goodIn_of _ (by decide +kernel)) ggX4_rate_X4_reduce
theorem dX4_rate_0 : decode cX4_rate 0 = .ok (.aload_n 3, 1) := by decide +kernel
theorem dX4_rate_1 : decode cX4_rate 1 = .ok (.getfield 38, 3) := by decide +kernel
theorem dX4_rate_4 : decode cX4_rate 4 = .ok (.lconst 0, 1) := by decide +kernel
theorem dX4_rate_5 : decode cX4_rate 5 = .ok (.invokevirtual 41, 3) := by decide +kernel
theorem dX4_rate_8 : decode cX4_rate 8 = .ok (.aload_n 3, 1) := by decide +kernel
theorem dX4_rate_9 : decode cX4_rate 9 = .ok (.getfield 45, 3) := by decide +kernel
theorem dX4_rate_12 : decode cX4_rate 12 = .ok (.lconst 1, 1) := by decide +kernel
theorem dX4_rate_13 : decode cX4_rate 13 = .ok (.invokevirtual 41, 3) := by decide +kernel
theorem dX4_rate_16 : decode cX4_rate 16 = .ok (.aload_n 0, 1) := by decide +kernel
theorem dX4_rate_17 : decode cX4_rate 17 = .ok (.aload_n 1, 1) := by decide +kernel
theorem dX4_rate_18 : decode cX4_rate 18 = .ok (.invokevirtual 48, 3) := by decide +kernel
theorem dX4_rate_21 : decode cX4_rate 21 = .ok (.iconst 0, 1) := by decide +kernel
theorem dX4_rate_22 : decode cX4_rate 22 = .ok (.istore 4, 2) := by decide +kernel
theorem dX4_rate_24 : decode cX4_rate 24 = .ok (.iload 4, 2) := by decide +kernel
theorem dX4_rate_26 : decode cX4_rate 26 = .ok (.aload_n 2, 1) := by decide +kernel
theorem dX4_rate_27 : decode cX4_rate 27 = .ok (.getfield 52, 3) := by decide +kernel
theorem dX4_rate_30 : decode cX4_rate 30 = .ok (.if_icmp .ge 79, 3) := by decide +kernel
theorem dX4_rate_33 : decode cX4_rate 33 = .ok (.iconst 0, 1) := by decide +kernel
theorem dX4_rate_34 : decode cX4_rate 34 = .ok (.istore 5, 2) := by decide +kernel
theorem dX4_rate_36 : decode cX4_rate 36 = .ok (.iload 5, 2) := by decide +kernel
theorem dX4_rate_38 : decode cX4_rate 38 = .ok (.aload_n 1, 1) := by decide +kernel
theorem dX4_rate_39 : decode cX4_rate 39 = .ok (.getfield 58, 3) := by decide +kernel
theorem dX4_rate_42 : decode cX4_rate 42 = .ok (.if_icmp .ge 61, 3) := by decide +kernel
theorem dX4_rate_45 : decode cX4_rate 45 = .ok (.aload_n 0, 1) := by decide +kernel
theorem dX4_rate_46 : decode cX4_rate 46 = .ok (.aload_n 1, 1) := by decide +kernel
theorem dX4_rate_47 : decode cX4_rate 47 = .ok (.aload_n 2, 1) := by decide +kernel
theorem dX4_rate_48 : decode cX4_rate 48 = .ok (.aload_n 1, 1) := by decide +kernel
theorem dX4_rate_49 : decode cX4_rate 49 = .ok (.getfield 63, 3) := by decide +kernel
theorem dX4_rate_52 : decode cX4_rate 52 = .ok (.iload 5, 2) := by decide +kernel
theorem dX4_rate_54 : decode cX4_rate 54 = .ok (.laload, 1) := by decide +kernel
theorem dX4_rate_55 : decode cX4_rate 55 = .ok (.aload_n 2, 1) := by decide +kernel
theorem dX4_rate_56 : decode cX4_rate 56 = .ok (.getfield 66, 3) := by decide +kernel
theorem dX4_rate_59 : decode cX4_rate 59 = .ok (.iload 4, 2) := by decide +kernel
theorem dX4_rate_61 : decode cX4_rate 61 = .ok (.laload, 1) := by decide +kernel
theorem dX4_rate_62 : decode cX4_rate 62 = .ok (.ladd, 1) := by decide +kernel
theorem dX4_rate_63 : decode cX4_rate 63 = .ok (.iconst (-1), 1) := by decide +kernel
theorem dX4_rate_64 : decode cX4_rate 64 = .ok (.aload_n 3, 1) := by decide +kernel
theorem dX4_rate_65 : decode cX4_rate 65 = .ok (.getfield 38, 3) := by decide +kernel
theorem dX4_rate_68 : decode cX4_rate 68 = .ok (.invokevirtual 69, 3) := by decide +kernel
theorem dX4_rate_71 : decode cX4_rate 71 = .ok (.aload_n 0, 1) := by decide +kernel
theorem dX4_rate_72 : decode cX4_rate 72 = .ok (.aload_n 1, 1) := by decide +kernel
theorem dX4_rate_73 : decode cX4_rate 73 = .ok (.aload_n 2, 1) := by decide +kernel
theorem dX4_rate_74 : decode cX4_rate 74 = .ok (.aload_n 1, 1) := by decide +kernel
theorem dX4_rate_75 : decode cX4_rate 75 = .ok (.getfield 63, 3) := by decide +kernel
theorem dX4_rate_78 : decode cX4_rate 78 = .ok (.iload 5, 2) := by decide +kernel
theorem dX4_rate_80 : decode cX4_rate 80 = .ok (.laload, 1) := by decide +kernel
theorem dX4_rate_81 : decode cX4_rate 81 = .ok (.aload_n 2, 1) := by decide +kernel
theorem dX4_rate_82 : decode cX4_rate 82 = .ok (.getfield 66, 3) := by decide +kernel
theorem dX4_rate_85 : decode cX4_rate 85 = .ok (.iload 4, 2) := by decide +kernel
theorem dX4_rate_87 : decode cX4_rate 87 = .ok (.laload, 1) := by decide +kernel
theorem dX4_rate_88 : decode cX4_rate 88 = .ok (.lsub, 1) := by decide +kernel
theorem dX4_rate_89 : decode cX4_rate 89 = .ok (.iconst 1, 1) := by decide +kernel
theorem dX4_rate_90 : decode cX4_rate 90 = .ok (.aload_n 3, 1) := by decide +kernel
theorem dX4_rate_91 : decode cX4_rate 91 = .ok (.getfield 38, 3) := by decide +kernel
theorem dX4_rate_94 : decode cX4_rate 94 = .ok (.invokevirtual 69, 3) := by decide +kernel
theorem dX4_rate_97 : decode cX4_rate 97 = .ok (.iinc 5 1, 3) := by decide +kernel
theorem dX4_rate_100 : decode cX4_rate 100 = .ok (.goto (-64), 3) := by decide +kernel
theorem dX4_rate_103 : decode cX4_rate 103 = .ok (.iinc 4 1, 3) := by decide +kernel
theorem dX4_rate_106 : decode cX4_rate 106 = .ok (.goto (-82), 3) := by decide +kernel
theorem dX4_rate_109 : decode cX4_rate 109 = .ok (.aload_n 3, 1) := by decide +kernel
theorem dX4_rate_110 : decode cX4_rate 110 = .ok (.aload_n 0, 1) := by decide +kernel
theorem dX4_rate_111 : decode cX4_rate 111 = .ok (.getfield 32, 3) := by decide +kernel
theorem dX4_rate_114 : decode cX4_rate 114 = .ok (.aload_n 1, 1) := by decide +kernel
theorem dX4_rate_115 : decode cX4_rate 115 = .ok (.getfield 58, 3) := by decide +kernel
theorem dX4_rate_118 : decode cX4_rate 118 = .ok (.invokestatic 73, 3) := by decide +kernel
theorem dX4_rate_121 : decode cX4_rate 121 = .ok (.aload_n 3, 1) := by decide +kernel
theorem dX4_rate_122 : decode cX4_rate 122 = .ok (.aload_n 0, 1) := by decide +kernel
theorem dX4_rate_123 : decode cX4_rate 123 = .ok (.getfield 35, 3) := by decide +kernel
theorem dX4_rate_126 : decode cX4_rate 126 = .ok (.aload_n 1, 1) := by decide +kernel
theorem dX4_rate_127 : decode cX4_rate 127 = .ok (.getfield 58, 3) := by decide +kernel
theorem dX4_rate_130 : decode cX4_rate 130 = .ok (.invokestatic 73, 3) := by decide +kernel
theorem dX4_rate_133 : decode cX4_rate 133 = .ok (.return_, 1) := by decide +kernel
set_option maxRecDepth 20000 in
theorem ggX4_findScales_X4_commonDivisor : GoodIn wsX4_findScales wsX4_commonDivisor := goodIn_r _ [8, 9, 10, 11, 12] (by decide +kernel) (by decide +kernel)
set_option maxRecDepth 20000 in
theorem gX4_findScales_X4_commonDivisor : GoodIn wsX4_findScales (va_wsS RX4 87 yX4_commonDivisor wsX4_commonDivisor) := goodIn_app (goodIn_of _ (by decide +kernel)) ggX4_findScales_X4_commonDivisor
set_option maxRecDepth 20000 in
theorem ggX4_findScales_X4_quotient : GoodIn wsX4_findScales wsX4_quotient := goodIn_r _ [15] (by decide +kernel) (by decide +kernel)
set_option maxRecDepth 20000 in
theorem gX4_findScales_X4_quotient : GoodIn wsX4_findScales (va_wsS RX4 91 yX4_quotient wsX4_quotient) := goodIn_app (goodIn_of _ (by decide +kernel)) ggX4_findScales_X4_quotient
set_option maxRecDepth 20000 in
theorem ggX4_findScales_X0_gapBehind : GoodIn wsX4_findScales wsX0_gapBehind := goodIn_r _ [20, 21, 22, 31, 32, 33, 34, 35, 36, 37, 38] (by decide +kernel) (by decide +kernel)
set_option maxRecDepth 20000 in
theorem gX4_findScales_X0_gapBehind : GoodIn wsX4_findScales (wsV RX4 94 RX0 yX0_gapBehind wsX0_gapBehind) := goodIn_app (goodIn_of _ (by decide +kernel)) ggX4_findScales_X0_gapBehind
theorem dX4_findScales_0 : decode cX4_findScales 0 = .ok (.aload_n 0, 1) := by decide +kernel
theorem dX4_findScales_1 : decode cX4_findScales 1 = .ok (.lconst 1, 1) := by decide +kernel
theorem dX4_findScales_2 : decode cX4_findScales 2 = .ok (.putfield 77, 3) := by decide +kernel
theorem dX4_findScales_5 : decode cX4_findScales 5 = .ok (.aload_n 0, 1) := by decide +kernel
theorem dX4_findScales_6 : decode cX4_findScales 6 = .ok (.lconst 1, 1) := by decide +kernel
theorem dX4_findScales_7 : decode cX4_findScales 7 = .ok (.putfield 81, 3) := by decide +kernel
theorem dX4_findScales_10 : decode cX4_findScales 10 = .ok (.iconst 0, 1) := by decide +kernel
theorem dX4_findScales_11 : decode cX4_findScales 11 = .ok (.istore_n 2, 1) := by decide +kernel
theorem dX4_findScales_12 : decode cX4_findScales 12 = .ok (.iload_n 2, 1) := by decide +kernel
theorem dX4_findScales_13 : decode cX4_findScales 13 = .ok (.aload_n 1, 1) := by decide +kernel
theorem dX4_findScales_14 : decode cX4_findScales 14 = .ok (.getfield 58, 3) := by decide +kernel
theorem dX4_findScales_17 : decode cX4_findScales 17 = .ok (.if_icmp .ge 91, 3) := by decide +kernel
theorem dX4_findScales_20 : decode cX4_findScales 20 = .ok (.aload_n 0, 1) := by decide +kernel
theorem dX4_findScales_21 : decode cX4_findScales 21 = .ok (.getfield 32, 3) := by decide +kernel
theorem dX4_findScales_24 : decode cX4_findScales 24 = .ok (.iload_n 2, 1) := by decide +kernel
theorem dX4_findScales_25 : decode cX4_findScales 25 = .ok (.aload_n 1, 1) := by decide +kernel
theorem dX4_findScales_26 : decode cX4_findScales 26 = .ok (.getfield 84, 3) := by decide +kernel
theorem dX4_findScales_29 : decode cX4_findScales 29 = .ok (.iload_n 2, 1) := by decide +kernel
theorem dX4_findScales_30 : decode cX4_findScales 30 = .ok (.laload, 1) := by decide +kernel
theorem dX4_findScales_31 : decode cX4_findScales 31 = .ok (.aload_n 1, 1) := by decide +kernel
theorem dX4_findScales_32 : decode cX4_findScales 32 = .ok (.getfield 84, 3) := by decide +kernel
theorem dX4_findScales_35 : decode cX4_findScales 35 = .ok (.iload_n 2, 1) := by decide +kernel
theorem dX4_findScales_36 : decode cX4_findScales 36 = .ok (.laload, 1) := by decide +kernel
theorem dX4_findScales_37 : decode cX4_findScales 37 = .ok (.aload_n 0, 1) := by decide +kernel
theorem dX4_findScales_38 : decode cX4_findScales 38 = .ok (.getfield 77, 3) := by decide +kernel
theorem dX4_findScales_41 : decode cX4_findScales 41 = .ok (.invokestatic 87, 3) := by decide +kernel
theorem dX4_findScales_44 : decode cX4_findScales 44 = .ok (.invokestatic 91, 3) := by decide +kernel
theorem dX4_findScales_47 : decode cX4_findScales 47 = .ok (.lastore, 1) := by decide +kernel
theorem dX4_findScales_48 : decode cX4_findScales 48 = .ok (.aload_n 0, 1) := by decide +kernel
theorem dX4_findScales_49 : decode cX4_findScales 49 = .ok (.dup, 1) := by decide +kernel
theorem dX4_findScales_50 : decode cX4_findScales 50 = .ok (.getfield 77, 3) := by decide +kernel
theorem dX4_findScales_53 : decode cX4_findScales 53 = .ok (.aload_n 0, 1) := by decide +kernel
theorem dX4_findScales_54 : decode cX4_findScales 54 = .ok (.getfield 32, 3) := by decide +kernel
theorem dX4_findScales_57 : decode cX4_findScales 57 = .ok (.iload_n 2, 1) := by decide +kernel
theorem dX4_findScales_58 : decode cX4_findScales 58 = .ok (.laload, 1) := by decide +kernel
theorem dX4_findScales_59 : decode cX4_findScales 59 = .ok (.lmul, 1) := by decide +kernel
theorem dX4_findScales_60 : decode cX4_findScales 60 = .ok (.putfield 77, 3) := by decide +kernel
theorem dX4_findScales_63 : decode cX4_findScales 63 = .ok (.aload_n 1, 1) := by decide +kernel
theorem dX4_findScales_64 : decode cX4_findScales 64 = .ok (.iload_n 2, 1) := by decide +kernel
theorem dX4_findScales_65 : decode cX4_findScales 65 = .ok (.invokevirtual 94, 3) := by decide +kernel
theorem dX4_findScales_68 : decode cX4_findScales 68 = .ok (.lstore_n 3, 1) := by decide +kernel
theorem dX4_findScales_69 : decode cX4_findScales 69 = .ok (.aload_n 0, 1) := by decide +kernel
theorem dX4_findScales_70 : decode cX4_findScales 70 = .ok (.getfield 35, 3) := by decide +kernel
theorem dX4_findScales_73 : decode cX4_findScales 73 = .ok (.iload_n 2, 1) := by decide +kernel
theorem dX4_findScales_74 : decode cX4_findScales 74 = .ok (.lload_n 3, 1) := by decide +kernel
theorem dX4_findScales_75 : decode cX4_findScales 75 = .ok (.lload_n 3, 1) := by decide +kernel
theorem dX4_findScales_76 : decode cX4_findScales 76 = .ok (.aload_n 0, 1) := by decide +kernel
theorem dX4_findScales_77 : decode cX4_findScales 77 = .ok (.getfield 81, 3) := by decide +kernel
theorem dX4_findScales_80 : decode cX4_findScales 80 = .ok (.invokestatic 87, 3) := by decide +kernel
theorem dX4_findScales_83 : decode cX4_findScales 83 = .ok (.invokestatic 91, 3) := by decide +kernel
theorem dX4_findScales_86 : decode cX4_findScales 86 = .ok (.lastore, 1) := by decide +kernel
theorem dX4_findScales_87 : decode cX4_findScales 87 = .ok (.aload_n 0, 1) := by decide +kernel
theorem dX4_findScales_88 : decode cX4_findScales 88 = .ok (.dup, 1) := by decide +kernel
theorem dX4_findScales_89 : decode cX4_findScales 89 = .ok (.getfield 81, 3) := by decide +kernel
theorem dX4_findScales_92 : decode cX4_findScales 92 = .ok (.aload_n 0, 1) := by decide +kernel
theorem dX4_findScales_93 : decode cX4_findScales 93 = .ok (.getfield 35, 3) := by decide +kernel
theorem dX4_findScales_96 : decode cX4_findScales 96 = .ok (.iload_n 2, 1) := by decide +kernel
theorem dX4_findScales_97 : decode cX4_findScales 97 = .ok (.laload, 1) := by decide +kernel
theorem dX4_findScales_98 : decode cX4_findScales 98 = .ok (.lmul, 1) := by decide +kernel
theorem dX4_findScales_99 : decode cX4_findScales 99 = .ok (.putfield 81, 3) := by decide +kernel
theorem dX4_findScales_102 : decode cX4_findScales 102 = .ok (.iinc 2 1, 3) := by decide +kernel
theorem dX4_findScales_105 : decode cX4_findScales 105 = .ok (.goto (-93), 3) := by decide +kernel
theorem dX4_findScales_108 : decode cX4_findScales 108 = .ok (.return_, 1) := by decide +kernel
set_option maxRecDepth 20000 in
theorem ggX4_takeGreater_X4_shareOut : GoodIn wsX4_takeGreater wsX4_shareOut := goodIn_r _ [13, 1, 14, 15, 16, 17, 18, 19, 20, 21, 22, 23, 12, 24, 65, 66, 67, 68, 69, 70, 71, 72, 52, 53, 54, 55, 56, 57, 58, 59] (by decide +kernel) (by decide +kernel)
set_option maxRecDepth 20000 in
theorem gX4_takeGreater_X4_shareOut : GoodIn wsX4_takeGreater (wsV RX4 101 RX4 yX4_shareOut wsX4_shareOut) := goodIn_app (goodIn_of _ (by decide +kernel)) ggX4_takeGreater_X4_shareOut
set_option maxRecDepth 20000 in
theorem ggX4_takeGreater_X8_setTo : GoodIn wsX4_takeGreater wsX8_setTo := goodIn_r _ [29, 30, 73] (by decide +kernel) (by decide +kernel)
set_option maxRecDepth 20000 in
theorem gX4_takeGreater_X8_setTo : GoodIn wsX4_takeGreater (wsV RX4 41 RX8 yX8_setTo wsX8_setTo) := goodIn_app (goodIn_of _ (by decide +kernel)) ggX4_takeGreater_X8_setTo
set_option maxRecDepth 20000 in
theorem ggX4_takeGreater_X4_quotient : GoodIn wsX4_takeGreater wsX4_quotient := goodIn_r _ [24] (by decide +kernel) (by decide +kernel)
set_option maxRecDepth 20000 in
theorem gX4_takeGreater_X4_quotient : GoodIn wsX4_takeGreater (va_wsS RX4 91 yX4_quotient wsX4_quotient) := goodIn_app (goodIn_of _ (by decide +kernel)) ggX4_takeGreater_X4_quotient
set_option maxRecDepth 20000 in
theorem ggX4_takeGreater_X8_addProduct : GoodIn wsX4_takeGreater wsX8_addProduct := goodIn_r _ [34, 35, 36, 37, 38, 28, 39, 30, 73] (by decide +kernel) (by decide +kernel)
set_option maxRecDepth 20000 in
theorem gX4_takeGreater_X8_addProduct : GoodIn wsX4_takeGreater (wsV RX4 114 RX8 yX8_addProduct wsX8_addProduct) := goodIn_app (goodIn_of _ (by decide +kernel)) ggX4_takeGreater_X8_addProduct
set_option maxRecDepth 20000 in
theorem ggX4_takeGreater_X8_compareWith : GoodIn wsX4_takeGreater wsX8_compareWith := goodIn_r _ [43, 30, 73] (by decide +kernel) (by decide +kernel)
set_option maxRecDepth 20000 in
theorem gX4_takeGreater_X8_compareWith : GoodIn wsX4_takeGreater (wsV RX4 118 RX8 yX8_compareWith wsX8_compareWith) := goodIn_app (goodIn_of _ (by decide +kernel)) ggX4_takeGreater_X8_compareWith
set_option maxRecDepth 20000 in
theorem ggX4_takeGreater_X8_subtract : GoodIn wsX4_takeGreater wsX8_subtract := goodIn_r _ [47, 30, 35, 73] (by decide +kernel) (by decide +kernel)
set_option maxRecDepth 20000 in
theorem gX4_takeGreater_X8_subtract : GoodIn wsX4_takeGreater (wsV RX4 122 RX8 yX8_subtract wsX8_subtract) := goodIn_app (goodIn_of _ (by decide +kernel)) ggX4_takeGreater_X8_subtract
set_option maxRecDepth 20000 in
theorem ggX4_takeGreater_X8_copyFrom : GoodIn wsX4_takeGreater wsX8_copyFrom := goodIn_r _ [51, 30, 73] (by decide +kernel) (by decide +kernel)
set_option maxRecDepth 20000 in
theorem gX4_takeGreater_X8_copyFrom : GoodIn wsX4_takeGreater (wsV RX4 126 RX8 yX8_copyFrom wsX8_copyFrom) := goodIn_app (goodIn_of _ (by decide +kernel)) ggX4_takeGreater_X8_copyFrom
theorem dX4_takeGreater_0 : decode cX4_takeGreater 0 = .ok (.iconst 0, 1) := by decide +kernel
theorem dX4_takeGreater_1 : decode cX4_takeGreater 1 = .ok (.istore 7, 2) := by decide +kernel
theorem dX4_takeGreater_3 : decode cX4_takeGreater 3 = .ok (.iload 7, 2) := by decide +kernel
theorem dX4_takeGreater_5 : decode cX4_takeGreater 5 = .ok (.bipush 6, 2) := by decide +kernel
theorem dX4_takeGreater_7 : decode cX4_takeGreater 7 = .ok (.if_icmp .ge 17, 3) := by decide +kernel
theorem dX4_takeGreater_10 : decode cX4_takeGreater 10 = .ok (.aload_n 0, 1) := by decide +kernel
theorem dX4_takeGreater_11 : decode cX4_takeGreater 11 = .ok (.getfield 28, 3) := by decide +kernel
theorem dX4_takeGreater_14 : decode cX4_takeGreater 14 = .ok (.iload 7, 2) := by decide +kernel
theorem dX4_takeGreater_16 : decode cX4_takeGreater 16 = .ok (.lconst 0, 1) := by decide +kernel
theorem dX4_takeGreater_17 : decode cX4_takeGreater 17 = .ok (.lastore, 1) := by decide +kernel
theorem dX4_takeGreater_18 : decode cX4_takeGreater 18 = .ok (.iinc 7 1, 3) := by decide +kernel
theorem dX4_takeGreater_21 : decode cX4_takeGreater 21 = .ok (.goto (-18), 3) := by decide +kernel
theorem dX4_takeGreater_24 : decode cX4_takeGreater 24 = .ok (.iconst 0, 1) := by decide +kernel
theorem dX4_takeGreater_25 : decode cX4_takeGreater 25 = .ok (.istore 7, 2) := by decide +kernel
theorem dX4_takeGreater_27 : decode cX4_takeGreater 27 = .ok (.iload 7, 2) := by decide +kernel
theorem dX4_takeGreater_29 : decode cX4_takeGreater 29 = .ok (.aload_n 2, 1) := by decide +kernel
theorem dX4_takeGreater_30 : decode cX4_takeGreater 30 = .ok (.getfield 52, 3) := by decide +kernel
theorem dX4_takeGreater_33 : decode cX4_takeGreater 33 = .ok (.if_icmp .ge 34, 3) := by decide +kernel
theorem dX4_takeGreater_36 : decode cX4_takeGreater 36 = .ok (.aload_n 0, 1) := by decide +kernel
theorem dX4_takeGreater_37 : decode cX4_takeGreater 37 = .ok (.aload_n 1, 1) := by decide +kernel
theorem dX4_takeGreater_38 : decode cX4_takeGreater 38 = .ok (.lload_n 3, 1) := by decide +kernel
theorem dX4_takeGreater_39 : decode cX4_takeGreater 39 = .ok (.iload 5, 2) := by decide +kernel
theorem dX4_takeGreater_41 : decode cX4_takeGreater 41 = .ok (.i2l, 1) := by decide +kernel
theorem dX4_takeGreater_42 : decode cX4_takeGreater 42 = .ok (.aload_n 2, 1) := by decide +kernel
theorem dX4_takeGreater_43 : decode cX4_takeGreater 43 = .ok (.getfield 66, 3) := by decide +kernel
theorem dX4_takeGreater_46 : decode cX4_takeGreater 46 = .ok (.iload 7, 2) := by decide +kernel
theorem dX4_takeGreater_48 : decode cX4_takeGreater 48 = .ok (.laload, 1) := by decide +kernel
theorem dX4_takeGreater_49 : decode cX4_takeGreater 49 = .ok (.lmul, 1) := by decide +kernel
theorem dX4_takeGreater_50 : decode cX4_takeGreater 50 = .ok (.ladd, 1) := by decide +kernel
theorem dX4_takeGreater_51 : decode cX4_takeGreater 51 = .ok (.aload_n 2, 1) := by decide +kernel
theorem dX4_takeGreater_52 : decode cX4_takeGreater 52 = .ok (.getfield 98, 3) := by decide +kernel
theorem dX4_takeGreater_55 : decode cX4_takeGreater 55 = .ok (.iload 7, 2) := by decide +kernel
theorem dX4_takeGreater_57 : decode cX4_takeGreater 57 = .ok (.laload, 1) := by decide +kernel
theorem dX4_takeGreater_58 : decode cX4_takeGreater 58 = .ok (.invokevirtual 101, 3) := by decide +kernel
theorem dX4_takeGreater_61 : decode cX4_takeGreater 61 = .ok (.iinc 7 1, 3) := by decide +kernel
theorem dX4_takeGreater_64 : decode cX4_takeGreater 64 = .ok (.goto (-37), 3) := by decide +kernel
theorem dX4_takeGreater_67 : decode cX4_takeGreater 67 = .ok (.aload_n 0, 1) := by decide +kernel
theorem dX4_takeGreater_68 : decode cX4_takeGreater 68 = .ok (.getfield 12, 3) := by decide +kernel
theorem dX4_takeGreater_71 : decode cX4_takeGreater 71 = .ok (.lconst 0, 1) := by decide +kernel
theorem dX4_takeGreater_72 : decode cX4_takeGreater 72 = .ok (.invokevirtual 41, 3) := by decide +kernel
theorem dX4_takeGreater_75 : decode cX4_takeGreater 75 = .ok (.aload_n 0, 1) := by decide +kernel
theorem dX4_takeGreater_76 : decode cX4_takeGreater 76 = .ok (.getfield 18, 3) := by decide +kernel
theorem dX4_takeGreater_79 : decode cX4_takeGreater 79 = .ok (.lconst 0, 1) := by decide +kernel
theorem dX4_takeGreater_80 : decode cX4_takeGreater 80 = .ok (.invokevirtual 41, 3) := by decide +kernel
theorem dX4_takeGreater_83 : decode cX4_takeGreater 83 = .ok (.iconst 0, 1) := by decide +kernel
theorem dX4_takeGreater_84 : decode cX4_takeGreater 84 = .ok (.istore 7, 2) := by decide +kernel
theorem dX4_takeGreater_86 : decode cX4_takeGreater 86 = .ok (.iload 7, 2) := by decide +kernel
theorem dX4_takeGreater_88 : decode cX4_takeGreater 88 = .ok (.aload_n 1, 1) := by decide +kernel
theorem dX4_takeGreater_89 : decode cX4_takeGreater 89 = .ok (.getfield 58, 3) := by decide +kernel
theorem dX4_takeGreater_92 : decode cX4_takeGreater 92 = .ok (.if_icmp .ge 71, 3) := by decide +kernel
theorem dX4_takeGreater_95 : decode cX4_takeGreater 95 = .ok (.aload_n 1, 1) := by decide +kernel
theorem dX4_takeGreater_96 : decode cX4_takeGreater 96 = .ok (.getfield 105, 3) := by decide +kernel
theorem dX4_takeGreater_99 : decode cX4_takeGreater 99 = .ok (.iload 7, 2) := by decide +kernel
theorem dX4_takeGreater_101 : decode cX4_takeGreater 101 = .ok (.laload, 1) := by decide +kernel
theorem dX4_takeGreater_102 : decode cX4_takeGreater 102 = .ok (.lconst 0, 1) := by decide +kernel
theorem dX4_takeGreater_103 : decode cX4_takeGreater 103 = .ok (.lcmp, 1) := by decide +kernel
theorem dX4_takeGreater_104 : decode cX4_takeGreater 104 = .ok (.ifCond .ge 10, 3) := by decide +kernel
theorem dX4_takeGreater_107 : decode cX4_takeGreater 107 = .ok (.aload_n 0, 1) := by decide +kernel
theorem dX4_takeGreater_108 : decode cX4_takeGreater 108 = .ok (.getfield 18, 3) := by decide +kernel
theorem dX4_takeGreater_111 : decode cX4_takeGreater 111 = .ok (.goto 7, 3) := by decide +kernel
theorem dX4_takeGreater_114 : decode cX4_takeGreater 114 = .ok (.aload_n 0, 1) := by decide +kernel
theorem dX4_takeGreater_115 : decode cX4_takeGreater 115 = .ok (.getfield 12, 3) := by decide +kernel
theorem dX4_takeGreater_118 : decode cX4_takeGreater 118 = .ok (.astore 8, 2) := by decide +kernel
theorem dX4_takeGreater_120 : decode cX4_takeGreater 120 = .ok (.aload 8, 2) := by decide +kernel
theorem dX4_takeGreater_122 : decode cX4_takeGreater 122 = .ok (.aload_n 0, 1) := by decide +kernel
theorem dX4_takeGreater_123 : decode cX4_takeGreater 123 = .ok (.getfield 28, 3) := by decide +kernel
theorem dX4_takeGreater_126 : decode cX4_takeGreater 126 = .ok (.iload 7, 2) := by decide +kernel
theorem dX4_takeGreater_128 : decode cX4_takeGreater 128 = .ok (.laload, 1) := by decide +kernel
theorem dX4_takeGreater_129 : decode cX4_takeGreater 129 = .ok (.aload_n 1, 1) := by decide +kernel
theorem dX4_takeGreater_130 : decode cX4_takeGreater 130 = .ok (.getfield 105, 3) := by decide +kernel
theorem dX4_takeGreater_133 : decode cX4_takeGreater 133 = .ok (.iload 7, 2) := by decide +kernel
theorem dX4_takeGreater_135 : decode cX4_takeGreater 135 = .ok (.laload, 1) := by decide +kernel
theorem dX4_takeGreater_136 : decode cX4_takeGreater 136 = .ok (.invokestatic 108, 3) := by decide +kernel
theorem dX4_takeGreater_139 : decode cX4_takeGreater 139 = .ok (.lmul, 1) := by decide +kernel
theorem dX4_takeGreater_140 : decode cX4_takeGreater 140 = .ok (.aload_n 0, 1) := by decide +kernel
theorem dX4_takeGreater_141 : decode cX4_takeGreater 141 = .ok (.getfield 77, 3) := by decide +kernel
theorem dX4_takeGreater_144 : decode cX4_takeGreater 144 = .ok (.aload_n 1, 1) := by decide +kernel
theorem dX4_takeGreater_145 : decode cX4_takeGreater 145 = .ok (.getfield 84, 3) := by decide +kernel
theorem dX4_takeGreater_148 : decode cX4_takeGreater 148 = .ok (.iload 7, 2) := by decide +kernel
theorem dX4_takeGreater_150 : decode cX4_takeGreater 150 = .ok (.laload, 1) := by decide +kernel
theorem dX4_takeGreater_151 : decode cX4_takeGreater 151 = .ok (.invokestatic 91, 3) := by decide +kernel
theorem dX4_takeGreater_154 : decode cX4_takeGreater 154 = .ok (.invokevirtual 114, 3) := by decide +kernel
theorem dX4_takeGreater_157 : decode cX4_takeGreater 157 = .ok (.iinc 7 1, 3) := by decide +kernel
theorem dX4_takeGreater_160 : decode cX4_takeGreater 160 = .ok (.goto (-74), 3) := by decide +kernel
theorem dX4_takeGreater_163 : decode cX4_takeGreater 163 = .ok (.aload_n 0, 1) := by decide +kernel
theorem dX4_takeGreater_164 : decode cX4_takeGreater 164 = .ok (.getfield 12, 3) := by decide +kernel
theorem dX4_takeGreater_167 : decode cX4_takeGreater 167 = .ok (.aload_n 0, 1) := by decide +kernel
theorem dX4_takeGreater_168 : decode cX4_takeGreater 168 = .ok (.getfield 18, 3) := by decide +kernel
theorem dX4_takeGreater_171 : decode cX4_takeGreater 171 = .ok (.invokevirtual 118, 3) := by decide +kernel
theorem dX4_takeGreater_174 : decode cX4_takeGreater 174 = .ok (.ifCond .ge 4, 3) := by decide +kernel
theorem dX4_takeGreater_177 : decode cX4_takeGreater 177 = .ok (.return_, 1) := by decide +kernel
theorem dX4_takeGreater_178 : decode cX4_takeGreater 178 = .ok (.aload_n 0, 1) := by decide +kernel
theorem dX4_takeGreater_179 : decode cX4_takeGreater 179 = .ok (.getfield 12, 3) := by decide +kernel
theorem dX4_takeGreater_182 : decode cX4_takeGreater 182 = .ok (.aload_n 0, 1) := by decide +kernel
theorem dX4_takeGreater_183 : decode cX4_takeGreater 183 = .ok (.getfield 18, 3) := by decide +kernel
theorem dX4_takeGreater_186 : decode cX4_takeGreater 186 = .ok (.invokevirtual 122, 3) := by decide +kernel
theorem dX4_takeGreater_189 : decode cX4_takeGreater 189 = .ok (.aload_n 0, 1) := by decide +kernel
theorem dX4_takeGreater_190 : decode cX4_takeGreater 190 = .ok (.getfield 12, 3) := by decide +kernel
theorem dX4_takeGreater_193 : decode cX4_takeGreater 193 = .ok (.aload 6, 2) := by decide +kernel
theorem dX4_takeGreater_195 : decode cX4_takeGreater 195 = .ok (.invokevirtual 118, 3) := by decide +kernel
theorem dX4_takeGreater_198 : decode cX4_takeGreater 198 = .ok (.ifCond .le 12, 3) := by decide +kernel
theorem dX4_takeGreater_201 : decode cX4_takeGreater 201 = .ok (.aload 6, 2) := by decide +kernel
theorem dX4_takeGreater_203 : decode cX4_takeGreater 203 = .ok (.aload_n 0, 1) := by decide +kernel
theorem dX4_takeGreater_204 : decode cX4_takeGreater 204 = .ok (.getfield 12, 3) := by decide +kernel
theorem dX4_takeGreater_207 : decode cX4_takeGreater 207 = .ok (.invokevirtual 126, 3) := by decide +kernel
theorem dX4_takeGreater_210 : decode cX4_takeGreater 210 = .ok (.return_, 1) := by decide +kernel
set_option maxRecDepth 20000 in
theorem ggX4_shareOut_X0_gapBehind : GoodIn wsX4_shareOut wsX0_gapBehind := goodIn_r _ [7, 8, 9, 14, 15, 16, 17, 18, 19, 20, 21] (by decide +kernel) (by decide +kernel)
set_option maxRecDepth 20000 in
theorem gX4_shareOut_X0_gapBehind : GoodIn wsX4_shareOut (wsV RX4 94 RX0 yX0_gapBehind wsX0_gapBehind) := goodIn_app (goodIn_of _ (by decide +kernel)) ggX4_shareOut_X0_gapBehind
set_option maxRecDepth 20000 in
theorem ggX4_shareOut_X4_quotient : GoodIn wsX4_shareOut wsX4_quotient := goodIn_r _ [13] (by decide +kernel) (by decide +kernel)
set_option maxRecDepth 20000 in
theorem gX4_shareOut_X4_quotient : GoodIn wsX4_shareOut (va_wsS RX4 91 yX4_quotient wsX4_quotient) := goodIn_app (goodIn_of _ (by decide +kernel)) ggX4_shareOut_X4_quotient
theorem dX4_shareOut_0 : decode cX4_shareOut 0 = .ok (.iconst 0, 1) := by decide +kernel
theorem dX4_shareOut_1 : decode cX4_shareOut 1 = .ok (.istore 6, 2) := by decide +kernel
theorem dX4_shareOut_3 : decode cX4_shareOut 3 = .ok (.iload 6, 2) := by decide +kernel
theorem dX4_shareOut_5 : decode cX4_shareOut 5 = .ok (.aload_n 1, 1) := by decide +kernel
theorem dX4_shareOut_6 : decode cX4_shareOut 6 = .ok (.getfield 58, 3) := by decide +kernel
theorem dX4_shareOut_9 : decode cX4_shareOut 9 = .ok (.if_icmp .ge 136, 3) := by decide +kernel
theorem dX4_shareOut_12 : decode cX4_shareOut 12 = .ok (.lload_n 2, 1) := by decide +kernel
theorem dX4_shareOut_13 : decode cX4_shareOut 13 = .ok (.aload_n 1, 1) := by decide +kernel
theorem dX4_shareOut_14 : decode cX4_shareOut 14 = .ok (.getfield 63, 3) := by decide +kernel
theorem dX4_shareOut_17 : decode cX4_shareOut 17 = .ok (.iload 6, 2) := by decide +kernel
theorem dX4_shareOut_19 : decode cX4_shareOut 19 = .ok (.laload, 1) := by decide +kernel
theorem dX4_shareOut_20 : decode cX4_shareOut 20 = .ok (.lsub, 1) := by decide +kernel
theorem dX4_shareOut_21 : decode cX4_shareOut 21 = .ok (.lstore 7, 2) := by decide +kernel
theorem dX4_shareOut_23 : decode cX4_shareOut 23 = .ok (.lload 7, 2) := by decide +kernel
theorem dX4_shareOut_25 : decode cX4_shareOut 25 = .ok (.lconst 0, 1) := by decide +kernel
theorem dX4_shareOut_26 : decode cX4_shareOut 26 = .ok (.lcmp, 1) := by decide +kernel
theorem dX4_shareOut_27 : decode cX4_shareOut 27 = .ok (.ifCond .ne 23, 3) := by decide +kernel
theorem dX4_shareOut_30 : decode cX4_shareOut 30 = .ok (.aload_n 0, 1) := by decide +kernel
theorem dX4_shareOut_31 : decode cX4_shareOut 31 = .ok (.getfield 28, 3) := by decide +kernel
theorem dX4_shareOut_34 : decode cX4_shareOut 34 = .ok (.iload 6, 2) := by decide +kernel
theorem dX4_shareOut_36 : decode cX4_shareOut 36 = .ok (.dup2, 1) := by decide +kernel
theorem dX4_shareOut_37 : decode cX4_shareOut 37 = .ok (.laload, 1) := by decide +kernel
theorem dX4_shareOut_38 : decode cX4_shareOut 38 = .ok (.lload 4, 2) := by decide +kernel
theorem dX4_shareOut_40 : decode cX4_shareOut 40 = .ok (.aload_n 0, 1) := by decide +kernel
theorem dX4_shareOut_41 : decode cX4_shareOut 41 = .ok (.getfield 81, 3) := by decide +kernel
theorem dX4_shareOut_44 : decode cX4_shareOut 44 = .ok (.lmul, 1) := by decide +kernel
theorem dX4_shareOut_45 : decode cX4_shareOut 45 = .ok (.ladd, 1) := by decide +kernel
theorem dX4_shareOut_46 : decode cX4_shareOut 46 = .ok (.lastore, 1) := by decide +kernel
theorem dX4_shareOut_47 : decode cX4_shareOut 47 = .ok (.goto 92, 3) := by decide +kernel
theorem dX4_shareOut_50 : decode cX4_shareOut 50 = .ok (.iload 6, 2) := by decide +kernel
theorem dX4_shareOut_52 : decode cX4_shareOut 52 = .ok (.iconst 1, 1) := by decide +kernel
theorem dX4_shareOut_53 : decode cX4_shareOut 53 = .ok (.iadd, 1) := by decide +kernel
theorem dX4_shareOut_54 : decode cX4_shareOut 54 = .ok (.aload_n 1, 1) := by decide +kernel
theorem dX4_shareOut_55 : decode cX4_shareOut 55 = .ok (.getfield 58, 3) := by decide +kernel
theorem dX4_shareOut_58 : decode cX4_shareOut 58 = .ok (.if_icmp .ge 81, 3) := by decide +kernel
theorem dX4_shareOut_61 : decode cX4_shareOut 61 = .ok (.lload 7, 2) := by decide +kernel
theorem dX4_shareOut_63 : decode cX4_shareOut 63 = .ok (.lconst 0, 1) := by decide +kernel
theorem dX4_shareOut_64 : decode cX4_shareOut 64 = .ok (.lcmp, 1) := by decide +kernel
theorem dX4_shareOut_65 : decode cX4_shareOut 65 = .ok (.ifCond .le 74, 3) := by decide +kernel
theorem dX4_shareOut_68 : decode cX4_shareOut 68 = .ok (.lload_n 2, 1) := by decide +kernel
theorem dX4_shareOut_69 : decode cX4_shareOut 69 = .ok (.aload_n 1, 1) := by decide +kernel
theorem dX4_shareOut_70 : decode cX4_shareOut 70 = .ok (.getfield 63, 3) := by decide +kernel
theorem dX4_shareOut_73 : decode cX4_shareOut 73 = .ok (.iload 6, 2) := by decide +kernel
theorem dX4_shareOut_75 : decode cX4_shareOut 75 = .ok (.iconst 1, 1) := by decide +kernel
theorem dX4_shareOut_76 : decode cX4_shareOut 76 = .ok (.iadd, 1) := by decide +kernel
theorem dX4_shareOut_77 : decode cX4_shareOut 77 = .ok (.laload, 1) := by decide +kernel
theorem dX4_shareOut_78 : decode cX4_shareOut 78 = .ok (.lcmp, 1) := by decide +kernel
theorem dX4_shareOut_79 : decode cX4_shareOut 79 = .ok (.ifCond .ge 60, 3) := by decide +kernel
theorem dX4_shareOut_82 : decode cX4_shareOut 82 = .ok (.aload_n 1, 1) := by decide +kernel
theorem dX4_shareOut_83 : decode cX4_shareOut 83 = .ok (.iload 6, 2) := by decide +kernel
theorem dX4_shareOut_85 : decode cX4_shareOut 85 = .ok (.invokevirtual 94, 3) := by decide +kernel
theorem dX4_shareOut_88 : decode cX4_shareOut 88 = .ok (.lstore 9, 2) := by decide +kernel
theorem dX4_shareOut_90 : decode cX4_shareOut 90 = .ok (.lload 4, 2) := by decide +kernel
theorem dX4_shareOut_92 : decode cX4_shareOut 92 = .ok (.aload_n 0, 1) := by decide +kernel
theorem dX4_shareOut_93 : decode cX4_shareOut 93 = .ok (.getfield 81, 3) := by decide +kernel
theorem dX4_shareOut_96 : decode cX4_shareOut 96 = .ok (.lload 9, 2) := by decide +kernel
theorem dX4_shareOut_98 : decode cX4_shareOut 98 = .ok (.invokestatic 91, 3) := by decide +kernel
theorem dX4_shareOut_101 : decode cX4_shareOut 101 = .ok (.lmul, 1) := by decide +kernel
theorem dX4_shareOut_102 : decode cX4_shareOut 102 = .ok (.lstore 11, 2) := by decide +kernel
theorem dX4_shareOut_104 : decode cX4_shareOut 104 = .ok (.aload_n 0, 1) := by decide +kernel
theorem dX4_shareOut_105 : decode cX4_shareOut 105 = .ok (.getfield 28, 3) := by decide +kernel
theorem dX4_shareOut_108 : decode cX4_shareOut 108 = .ok (.iload 6, 2) := by decide +kernel
theorem dX4_shareOut_110 : decode cX4_shareOut 110 = .ok (.dup2, 1) := by decide +kernel
theorem dX4_shareOut_111 : decode cX4_shareOut 111 = .ok (.laload, 1) := by decide +kernel
theorem dX4_shareOut_112 : decode cX4_shareOut 112 = .ok (.lload 11, 2) := by decide +kernel
theorem dX4_shareOut_114 : decode cX4_shareOut 114 = .ok (.lload 9, 2) := by decide +kernel
theorem dX4_shareOut_116 : decode cX4_shareOut 116 = .ok (.lload 7, 2) := by decide +kernel
theorem dX4_shareOut_118 : decode cX4_shareOut 118 = .ok (.lsub, 1) := by decide +kernel
theorem dX4_shareOut_119 : decode cX4_shareOut 119 = .ok (.lmul, 1) := by decide +kernel
theorem dX4_shareOut_120 : decode cX4_shareOut 120 = .ok (.ladd, 1) := by decide +kernel
theorem dX4_shareOut_121 : decode cX4_shareOut 121 = .ok (.lastore, 1) := by decide +kernel
theorem dX4_shareOut_122 : decode cX4_shareOut 122 = .ok (.aload_n 0, 1) := by decide +kernel
theorem dX4_shareOut_123 : decode cX4_shareOut 123 = .ok (.getfield 28, 3) := by decide +kernel
theorem dX4_shareOut_126 : decode cX4_shareOut 126 = .ok (.iload 6, 2) := by decide +kernel
theorem dX4_shareOut_128 : decode cX4_shareOut 128 = .ok (.iconst 1, 1) := by decide +kernel
theorem dX4_shareOut_129 : decode cX4_shareOut 129 = .ok (.iadd, 1) := by decide +kernel
theorem dX4_shareOut_130 : decode cX4_shareOut 130 = .ok (.dup2, 1) := by decide +kernel
theorem dX4_shareOut_131 : decode cX4_shareOut 131 = .ok (.laload, 1) := by decide +kernel
theorem dX4_shareOut_132 : decode cX4_shareOut 132 = .ok (.lload 11, 2) := by decide +kernel
theorem dX4_shareOut_134 : decode cX4_shareOut 134 = .ok (.lload 7, 2) := by decide +kernel
theorem dX4_shareOut_136 : decode cX4_shareOut 136 = .ok (.lmul, 1) := by decide +kernel
theorem dX4_shareOut_137 : decode cX4_shareOut 137 = .ok (.ladd, 1) := by decide +kernel
theorem dX4_shareOut_138 : decode cX4_shareOut 138 = .ok (.lastore, 1) := by decide +kernel
theorem dX4_shareOut_139 : decode cX4_shareOut 139 = .ok (.iinc 6 1, 3) := by decide +kernel
theorem dX4_shareOut_142 : decode cX4_shareOut 142 = .ok (.goto (-139), 3) := by decide +kernel
theorem dX4_shareOut_145 : decode cX4_shareOut 145 = .ok (.return_, 1) := by decide +kernel
set_option maxRecDepth 20000 in
theorem ggX4_reduce_X8_remainder : GoodIn wsX4_reduce wsX8_remainder := goodIn_r _ [5, 6, 7, 29] (by decide +kernel) (by decide +kernel)
set_option maxRecDepth 20000 in
theorem gX4_reduce_X8_remainder : GoodIn wsX4_reduce (wsV RX4 129 RX8 yX8_remainder wsX8_remainder) := goodIn_app (goodIn_of _ (by decide +kernel)) ggX4_reduce_X8_remainder
set_option maxRecDepth 20000 in
theorem ggX4_reduce_X4_commonDivisor : GoodIn wsX4_reduce wsX4_commonDivisor := goodIn_r _ [11, 12, 13, 14, 15] (by decide +kernel) (by decide +kernel)
set_option maxRecDepth 20000 in
theorem gX4_reduce_X4_commonDivisor : GoodIn wsX4_reduce (va_wsS RX4 87 yX4_commonDivisor wsX4_commonDivisor) := goodIn_app (goodIn_of _ (by decide +kernel)) ggX4_reduce_X4_commonDivisor
set_option maxRecDepth 20000 in
theorem ggX4_reduce_X8_divide : GoodIn wsX4_reduce wsX8_divide := goodIn_r _ [19, 6, 7, 29] (by decide +kernel) (by decide +kernel)
set_option maxRecDepth 20000 in
theorem gX4_reduce_X8_divide : GoodIn wsX4_reduce (wsV RX4 132 RX8 yX8_divide wsX8_divide) := goodIn_app (goodIn_of _ (by decide +kernel)) ggX4_reduce_X8_divide
set_option maxRecDepth 20000 in
theorem ggX4_reduce_X4_quotient : GoodIn wsX4_reduce wsX4_quotient := goodIn_r _ [22] (by decide +kernel) (by decide +kernel)
set_option maxRecDepth 20000 in
theorem gX4_reduce_X4_quotient : GoodIn wsX4_reduce (va_wsS RX4 91 yX4_quotient wsX4_quotient) := goodIn_app (goodIn_of _ (by decide +kernel)) ggX4_reduce_X4_quotient
set_option maxRecDepth 20000 in
theorem ggX4_reduce_X8_multiply : GoodIn wsX4_reduce wsX8_multiply := goodIn_r _ [26, 7, 6, 29] (by decide +kernel) (by decide +kernel)
set_option maxRecDepth 20000 in
theorem gX4_reduce_X8_multiply : GoodIn wsX4_reduce (wsV RX4 135 RX8 yX8_multiply wsX8_multiply) := goodIn_app (goodIn_of _ (by decide +kernel)) ggX4_reduce_X8_multiply
theorem dX4_reduce_0 : decode cX4_reduce 0 = .ok (.iconst 0, 1) := by decide +kernel
theorem dX4_reduce_1 : decode cX4_reduce 1 = .ok (.istore_n 3, 1) := by decide +kernel
theorem dX4_reduce_2 : decode cX4_reduce 2 = .ok (.iload_n 3, 1) := by decide +kernel
theorem dX4_reduce_3 : decode cX4_reduce 3 = .ok (.iload_n 2, 1) := by decide +kernel
theorem dX4_reduce_4 : decode cX4_reduce 4 = .ok (.if_icmp .ge 57, 3) := by decide +kernel
theorem dX4_reduce_7 : decode cX4_reduce 7 = .ok (.iload_n 3, 1) := by decide +kernel
theorem dX4_reduce_8 : decode cX4_reduce 8 = .ok (.aload_n 1, 1) := by decide +kernel
theorem dX4_reduce_9 : decode cX4_reduce 9 = .ok (.arraylength, 1) := by decide +kernel
theorem dX4_reduce_10 : decode cX4_reduce 10 = .ok (.if_icmp .ge 51, 3) := by decide +kernel
theorem dX4_reduce_13 : decode cX4_reduce 13 = .ok (.aload_n 1, 1) := by decide +kernel
theorem dX4_reduce_14 : decode cX4_reduce 14 = .ok (.iload_n 3, 1) := by decide +kernel
theorem dX4_reduce_15 : decode cX4_reduce 15 = .ok (.laload, 1) := by decide +kernel
theorem dX4_reduce_16 : decode cX4_reduce 16 = .ok (.aload_n 0, 1) := by decide +kernel
theorem dX4_reduce_17 : decode cX4_reduce 17 = .ok (.getfield 38, 3) := by decide +kernel
theorem dX4_reduce_20 : decode cX4_reduce 20 = .ok (.aload_n 1, 1) := by decide +kernel
theorem dX4_reduce_21 : decode cX4_reduce 21 = .ok (.iload_n 3, 1) := by decide +kernel
theorem dX4_reduce_22 : decode cX4_reduce 22 = .ok (.laload, 1) := by decide +kernel
theorem dX4_reduce_23 : decode cX4_reduce 23 = .ok (.invokevirtual 129, 3) := by decide +kernel
theorem dX4_reduce_26 : decode cX4_reduce 26 = .ok (.invokestatic 87, 3) := by decide +kernel
theorem dX4_reduce_29 : decode cX4_reduce 29 = .ok (.lstore 4, 2) := by decide +kernel
theorem dX4_reduce_31 : decode cX4_reduce 31 = .ok (.aload_n 0, 1) := by decide +kernel
theorem dX4_reduce_32 : decode cX4_reduce 32 = .ok (.getfield 38, 3) := by decide +kernel
theorem dX4_reduce_35 : decode cX4_reduce 35 = .ok (.lload 4, 2) := by decide +kernel
theorem dX4_reduce_37 : decode cX4_reduce 37 = .ok (.invokevirtual 132, 3) := by decide +kernel
theorem dX4_reduce_40 : decode cX4_reduce 40 = .ok (.aload_n 0, 1) := by decide +kernel
theorem dX4_reduce_41 : decode cX4_reduce 41 = .ok (.getfield 45, 3) := by decide +kernel
theorem dX4_reduce_44 : decode cX4_reduce 44 = .ok (.aload_n 1, 1) := by decide +kernel
theorem dX4_reduce_45 : decode cX4_reduce 45 = .ok (.iload_n 3, 1) := by decide +kernel
theorem dX4_reduce_46 : decode cX4_reduce 46 = .ok (.laload, 1) := by decide +kernel
theorem dX4_reduce_47 : decode cX4_reduce 47 = .ok (.lload 4, 2) := by decide +kernel
theorem dX4_reduce_49 : decode cX4_reduce 49 = .ok (.invokestatic 91, 3) := by decide +kernel
theorem dX4_reduce_52 : decode cX4_reduce 52 = .ok (.invokevirtual 135, 3) := by decide +kernel
theorem dX4_reduce_55 : decode cX4_reduce 55 = .ok (.iinc 3 1, 3) := by decide +kernel
theorem dX4_reduce_58 : decode cX4_reduce 58 = .ok (.goto (-56), 3) := by decide +kernel
theorem dX4_reduce_61 : decode cX4_reduce 61 = .ok (.return_, 1) := by decide +kernel
set_option maxRecDepth 20000 in
theorem ggX4_isStillRight_X4_rate : GoodIn wsX4_isStillRight wsX4_rate := goodIn_r _ [6, 7, 8, 9, 10, 11, 12, 13, 14, 15, 16, 17, 5, 18, 19, 20, 21, 22, 23, 24, 25, 26, 27, 28, 29, 30, 31, 32, 33, 34, 35, 36, 37, 38, 39, 40, 41, 42, 43, 44, 45, 46, 47, 48, 49, 50, 51, 52, 53, 54, 55, 56, 57, 58, 59, 60, 61, 62, 63, 64, 65, 66, 67, 68, 69, 70, 71, 72, 73, 74, 75, 76, 77, 78, 79, 80, 81, 82, 83, 84, 85, 86, 87, 112, 113, 114, 115, 116, 117, 118, 104, 105, 106, 107, 108, 109, 110, 111, 96, 97, 98, 99, 100, 101, 102, 103, 119] (by decide +kernel) (by decide +kernel)
set_option maxRecDepth 20000 in
theorem gX4_isStillRight_X4_rate : GoodIn wsX4_isStillRight (wsV RX4 138 RX4 yX4_rate wsX4_rate) := goodIn_app (goodIn_of _ (by decide +kernel)) ggX4_isStillRight_X4_rate
set_option maxRecDepth 20000 in
theorem ggX4_isStillRight_X5_isSameAs : GoodIn wsX4_isStillRight wsX5_isSameAs := goodIn_r _ [92, 93, 94, 95, 62, 63, 12, 64, 14, 112, 113, 119] (by decide +kernel) (by decide +kernel)
set_option maxRecDepth 20000 in
theorem gX4_isStillRight_X5_isSameAs : GoodIn wsX4_isStillRight (wsV RX4 145 RX5 yX5_isSameAs wsX5_isSameAs) := goodIn_app (goodIn_of _ (by decide +kernel)) ggX4_isStillRight_X5_isSameAs
theorem dX4_isStillRight_0 : decode cX4_isStillRight 0 = .ok (.aload_n 0, 1) := by decide +kernel
theorem dX4_isStillRight_1 : decode cX4_isStillRight 1 = .ok (.aload_n 1, 1) := by decide +kernel
theorem dX4_isStillRight_2 : decode cX4_isStillRight 2 = .ok (.aload_n 2, 1) := by decide +kernel
theorem dX4_isStillRight_3 : decode cX4_isStillRight 3 = .ok (.aload_n 0, 1) := by decide +kernel
theorem dX4_isStillRight_4 : decode cX4_isStillRight 4 = .ok (.getfield 24, 3) := by decide +kernel
theorem dX4_isStillRight_7 : decode cX4_isStillRight 7 = .ok (.invokevirtual 138, 3) := by decide +kernel
theorem dX4_isStillRight_10 : decode cX4_isStillRight 10 = .ok (.aload_n 0, 1) := by decide +kernel
theorem dX4_isStillRight_11 : decode cX4_isStillRight 11 = .ok (.getfield 24, 3) := by decide +kernel
theorem dX4_isStillRight_14 : decode cX4_isStillRight 14 = .ok (.aload_n 1, 1) := by decide +kernel
theorem dX4_isStillRight_15 : decode cX4_isStillRight 15 = .ok (.getfield 142, 3) := by decide +kernel
theorem dX4_isStillRight_18 : decode cX4_isStillRight 18 = .ok (.invokevirtual 145, 3) := by decide +kernel
theorem dX4_isStillRight_21 : decode cX4_isStillRight 21 = .ok (.ireturn, 1) := by decide +kernel
set_option maxRecDepth 20000 in
theorem ggX4_isAbove_X8_copyFrom : GoodIn wsX4_isAbove wsX8_copyFrom := goodIn_r _ [7, 8, 28] (by decide +kernel) (by decide +kernel)
set_option maxRecDepth 20000 in
theorem gX4_isAbove_X8_copyFrom : GoodIn wsX4_isAbove (wsV RX4 126 RX8 yX8_copyFrom wsX8_copyFrom) := goodIn_app (goodIn_of _ (by decide +kernel)) ggX4_isAbove_X8_copyFrom
set_option maxRecDepth 20000 in
theorem ggX4_isAbove_X8_multiply : GoodIn wsX4_isAbove wsX8_multiply := goodIn_r _ [12, 8, 13, 28] (by decide +kernel) (by decide +kernel)
set_option maxRecDepth 20000 in
theorem gX4_isAbove_X8_multiply : GoodIn wsX4_isAbove (wsV RX4 135 RX8 yX8_multiply wsX8_multiply) := goodIn_app (goodIn_of _ (by decide +kernel)) ggX4_isAbove_X8_multiply
set_option maxRecDepth 20000 in
theorem ggX4_isAbove_X8_compareWith : GoodIn wsX4_isAbove wsX8_compareWith := goodIn_r _ [17, 8, 28] (by decide +kernel) (by decide +kernel)
set_option maxRecDepth 20000 in
theorem gX4_isAbove_X8_compareWith : GoodIn wsX4_isAbove (wsV RX4 118 RX8 yX8_compareWith wsX8_compareWith) := goodIn_app (goodIn_of _ (by decide +kernel)) ggX4_isAbove_X8_compareWith
theorem dX4_isAbove_0 : decode cX4_isAbove 0 = .ok (.aload_n 0, 1) := by decide +kernel
theorem dX4_isAbove_1 : decode cX4_isAbove 1 = .ok (.getfield 12, 3) := by decide +kernel
theorem dX4_isAbove_4 : decode cX4_isAbove 4 = .ok (.aload_n 1, 1) := by decide +kernel
theorem dX4_isAbove_5 : decode cX4_isAbove 5 = .ok (.getfield 38, 3) := by decide +kernel
theorem dX4_isAbove_8 : decode cX4_isAbove 8 = .ok (.invokevirtual 126, 3) := by decide +kernel
theorem dX4_isAbove_11 : decode cX4_isAbove 11 = .ok (.aload_n 0, 1) := by decide +kernel
theorem dX4_isAbove_12 : decode cX4_isAbove 12 = .ok (.getfield 12, 3) := by decide +kernel
theorem dX4_isAbove_15 : decode cX4_isAbove 15 = .ok (.lload 4, 2) := by decide +kernel
theorem dX4_isAbove_17 : decode cX4_isAbove 17 = .ok (.invokevirtual 135, 3) := by decide +kernel
theorem dX4_isAbove_20 : decode cX4_isAbove 20 = .ok (.aload_n 0, 1) := by decide +kernel
theorem dX4_isAbove_21 : decode cX4_isAbove 21 = .ok (.getfield 18, 3) := by decide +kernel
theorem dX4_isAbove_24 : decode cX4_isAbove 24 = .ok (.aload_n 1, 1) := by decide +kernel
theorem dX4_isAbove_25 : decode cX4_isAbove 25 = .ok (.getfield 45, 3) := by decide +kernel
theorem dX4_isAbove_28 : decode cX4_isAbove 28 = .ok (.invokevirtual 126, 3) := by decide +kernel
theorem dX4_isAbove_31 : decode cX4_isAbove 31 = .ok (.aload_n 0, 1) := by decide +kernel
theorem dX4_isAbove_32 : decode cX4_isAbove 32 = .ok (.getfield 18, 3) := by decide +kernel
theorem dX4_isAbove_35 : decode cX4_isAbove 35 = .ok (.lload_n 2, 1) := by decide +kernel
theorem dX4_isAbove_36 : decode cX4_isAbove 36 = .ok (.invokevirtual 135, 3) := by decide +kernel
theorem dX4_isAbove_39 : decode cX4_isAbove 39 = .ok (.aload_n 0, 1) := by decide +kernel
theorem dX4_isAbove_40 : decode cX4_isAbove 40 = .ok (.getfield 12, 3) := by decide +kernel
theorem dX4_isAbove_43 : decode cX4_isAbove 43 = .ok (.aload_n 0, 1) := by decide +kernel
theorem dX4_isAbove_44 : decode cX4_isAbove 44 = .ok (.getfield 18, 3) := by decide +kernel
theorem dX4_isAbove_47 : decode cX4_isAbove 47 = .ok (.invokevirtual 118, 3) := by decide +kernel
theorem dX4_isAbove_50 : decode cX4_isAbove 50 = .ok (.ifCond .le 7, 3) := by decide +kernel
theorem dX4_isAbove_53 : decode cX4_isAbove 53 = .ok (.iconst 1, 1) := by decide +kernel
theorem dX4_isAbove_54 : decode cX4_isAbove 54 = .ok (.goto 4, 3) := by decide +kernel
theorem dX4_isAbove_57 : decode cX4_isAbove 57 = .ok (.iconst 0, 1) := by decide +kernel
theorem dX4_isAbove_58 : decode cX4_isAbove 58 = .ok (.ireturn, 1) := by decide +kernel
theorem dX4_commonDivisor_0 : decode cX4_commonDivisor 0 = .ok (.lload_n 0, 1) := by decide +kernel
theorem dX4_commonDivisor_1 : decode cX4_commonDivisor 1 = .ok (.lstore 4, 2) := by decide +kernel
theorem dX4_commonDivisor_3 : decode cX4_commonDivisor 3 = .ok (.lload_n 2, 1) := by decide +kernel
theorem dX4_commonDivisor_4 : decode cX4_commonDivisor 4 = .ok (.lstore 6, 2) := by decide +kernel
theorem dX4_commonDivisor_6 : decode cX4_commonDivisor 6 = .ok (.iconst 0, 1) := by decide +kernel
theorem dX4_commonDivisor_7 : decode cX4_commonDivisor 7 = .ok (.istore 8, 2) := by decide +kernel
theorem dX4_commonDivisor_9 : decode cX4_commonDivisor 9 = .ok (.iload 8, 2) := by decide +kernel
theorem dX4_commonDivisor_11 : decode cX4_commonDivisor 11 = .ok (.sipush 200, 3) := by decide +kernel
theorem dX4_commonDivisor_14 : decode cX4_commonDivisor 14 = .ok (.if_icmp .ge 31, 3) := by decide +kernel
theorem dX4_commonDivisor_17 : decode cX4_commonDivisor 17 = .ok (.lload 6, 2) := by decide +kernel
theorem dX4_commonDivisor_19 : decode cX4_commonDivisor 19 = .ok (.lconst 0, 1) := by decide +kernel
theorem dX4_commonDivisor_20 : decode cX4_commonDivisor 20 = .ok (.lcmp, 1) := by decide +kernel
theorem dX4_commonDivisor_21 : decode cX4_commonDivisor 21 = .ok (.ifCond .eq 24, 3) := by decide +kernel
theorem dX4_commonDivisor_24 : decode cX4_commonDivisor 24 = .ok (.lload 4, 2) := by decide +kernel
theorem dX4_commonDivisor_26 : decode cX4_commonDivisor 26 = .ok (.lload 6, 2) := by decide +kernel
theorem dX4_commonDivisor_28 : decode cX4_commonDivisor 28 = .ok (.lrem, 1) := by decide +kernel
theorem dX4_commonDivisor_29 : decode cX4_commonDivisor 29 = .ok (.lstore 9, 2) := by decide +kernel
theorem dX4_commonDivisor_31 : decode cX4_commonDivisor 31 = .ok (.lload 6, 2) := by decide +kernel
theorem dX4_commonDivisor_33 : decode cX4_commonDivisor 33 = .ok (.lstore 4, 2) := by decide +kernel
theorem dX4_commonDivisor_35 : decode cX4_commonDivisor 35 = .ok (.lload 9, 2) := by decide +kernel
theorem dX4_commonDivisor_37 : decode cX4_commonDivisor 37 = .ok (.lstore 6, 2) := by decide +kernel
theorem dX4_commonDivisor_39 : decode cX4_commonDivisor 39 = .ok (.iinc 8 1, 3) := by decide +kernel
theorem dX4_commonDivisor_42 : decode cX4_commonDivisor 42 = .ok (.goto (-33), 3) := by decide +kernel
theorem dX4_commonDivisor_45 : decode cX4_commonDivisor 45 = .ok (.lconst 1, 1) := by decide +kernel
theorem dX4_commonDivisor_46 : decode cX4_commonDivisor 46 = .ok (.lload 4, 2) := by decide +kernel
theorem dX4_commonDivisor_48 : decode cX4_commonDivisor 48 = .ok (.invokestatic 149, 3) := by decide +kernel
theorem dX4_commonDivisor_51 : decode cX4_commonDivisor 51 = .ok (.lreturn, 1) := by decide +kernel
theorem dX4_quotient_0 : decode cX4_quotient 0 = .ok (.lload_n 2, 1) := by decide +kernel
theorem dX4_quotient_1 : decode cX4_quotient 1 = .ok (.lconst 1, 1) := by decide +kernel
theorem dX4_quotient_2 : decode cX4_quotient 2 = .ok (.lcmp, 1) := by decide +kernel
theorem dX4_quotient_3 : decode cX4_quotient 3 = .ok (.ifCond .ge 7, 3) := by decide +kernel
theorem dX4_quotient_6 : decode cX4_quotient 6 = .ok (.lload_n 0, 1) := by decide +kernel
theorem dX4_quotient_7 : decode cX4_quotient 7 = .ok (.goto 6, 3) := by decide +kernel
theorem dX4_quotient_10 : decode cX4_quotient 10 = .ok (.lload_n 0, 1) := by decide +kernel
theorem dX4_quotient_11 : decode cX4_quotient 11 = .ok (.lload_n 2, 1) := by decide +kernel
theorem dX4_quotient_12 : decode cX4_quotient 12 = .ok (.ldiv, 1) := by decide +kernel
theorem dX4_quotient_13 : decode cX4_quotient 13 = .ok (.lreturn, 1) := by decide +kernel
