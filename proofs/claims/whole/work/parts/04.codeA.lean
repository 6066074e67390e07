set_option maxRecDepth 20000 in
theorem ggX0_init_X5_init : GoodIn wsX0_init wsX5_init := goodIn_r _ [14, 15, 2, 3, 16, 17, 18, 19, 20, 21, 22, 23, 4, 24, 25, 26, 27, 28, 39, 37, 38] (by decide +kernel) (by decide +kernel)
set_option maxRecDepth 20000 in
theorem gX0_init_X5_init : GoodIn wsX0_init (wsX5_init) := ggX0_init_X5_init
theorem dX0_init_0 : decode cX0_init 0 = .ok (.aload_n 0, 1) := by decide +kernel
theorem dX0_init_1 : decode cX0_init 1 = .ok (.invokespecial 3, 3) := by decide +kernel
theorem dX0_init_4 : decode cX0_init 4 = .ok (.aload_n 0, 1) := by decide +kernel
theorem dX0_init_5 : decode cX0_init 5 = .ok (.bipush 6, 2) := by decide +kernel
theorem dX0_init_7 : decode cX0_init 7 = .ok (.newarray .long, 2) := by decide +kernel
theorem dX0_init_9 : decode cX0_init 9 = .ok (.putfield 9, 3) := by decide +kernel
theorem dX0_init_12 : decode cX0_init 12 = .ok (.aload_n 0, 1) := by decide +kernel
theorem dX0_init_13 : decode cX0_init 13 = .ok (.bipush 6, 2) := by decide +kernel
theorem dX0_init_15 : decode cX0_init 15 = .ok (.newarray .long, 2) := by decide +kernel
theorem dX0_init_17 : decode cX0_init 17 = .ok (.putfield 15, 3) := by decide +kernel
theorem dX0_init_20 : decode cX0_init 20 = .ok (.aload_n 0, 1) := by decide +kernel
theorem dX0_init_21 : decode cX0_init 21 = .ok (.bipush 6, 2) := by decide +kernel
theorem dX0_init_23 : decode cX0_init 23 = .ok (.newarray .long, 2) := by decide +kernel
theorem dX0_init_25 : decode cX0_init 25 = .ok (.putfield 18, 3) := by decide +kernel
theorem dX0_init_28 : decode cX0_init 28 = .ok (.aload_n 0, 1) := by decide +kernel
theorem dX0_init_29 : decode cX0_init 29 = .ok (.new 21, 3) := by decide +kernel
theorem dX0_init_32 : decode cX0_init 32 = .ok (.dup, 1) := by decide +kernel
theorem dX0_init_33 : decode cX0_init 33 = .ok (.invokespecial 23, 3) := by decide +kernel
theorem dX0_init_36 : decode cX0_init 36 = .ok (.putfield 24, 3) := by decide +kernel
theorem dX0_init_39 : decode cX0_init 39 = .ok (.return_, 1) := by decide +kernel
set_option maxRecDepth 20000 in
theorem ggX0_canTakeCorner_X9_isWithin : GoodIn wsX0_canTakeCorner wsX9_isWithin := goodIn_r _ [6] (by decide +kernel) (by decide +kernel)
set_option maxRecDepth 20000 in
theorem gX0_canTakeCorner_X9_isWithin_n34 : GoodIn wsX0_canTakeCorner (wsX9_isWithin) := ggX0_canTakeCorner_X9_isWithin
theorem dX0_canTakeCorner_0 : decode cX0_canTakeCorner 0 = .ok (.aload_n 0, 1) := by decide +kernel
theorem dX0_canTakeCorner_1 : decode cX0_canTakeCorner 1 = .ok (.getfield 28, 3) := by decide +kernel
theorem dX0_canTakeCorner_4 : decode cX0_canTakeCorner 4 = .ok (.bipush 6, 2) := by decide +kernel
theorem dX0_canTakeCorner_6 : decode cX0_canTakeCorner 6 = .ok (.if_icmp .ge 14, 3) := by decide +kernel
theorem dX0_canTakeCorner_9 : decode cX0_canTakeCorner 9 = .ok (.lload_n 1, 1) := by decide +kernel
theorem dX0_canTakeCorner_10 : decode cX0_canTakeCorner 10 = .ok (.lconst 0, 1) := by decide +kernel
theorem dX0_canTakeCorner_11 : decode cX0_canTakeCorner 11 = .ok (.ldc2_w 32, 3) := by decide +kernel
theorem dX0_canTakeCorner_14 : decode cX0_canTakeCorner 14 = .ok (.invokestatic 34, 3) := by decide +kernel
theorem dX0_canTakeCorner_17 : decode cX0_canTakeCorner 17 = .ok (.ifCond .ne 5, 3) := by decide +kernel
theorem dX0_canTakeCorner_20 : decode cX0_canTakeCorner 20 = .ok (.iconst 0, 1) := by decide +kernel
theorem dX0_canTakeCorner_21 : decode cX0_canTakeCorner 21 = .ok (.ireturn, 1) := by decide +kernel
theorem dX0_canTakeCorner_22 : decode cX0_canTakeCorner 22 = .ok (.aload_n 0, 1) := by decide +kernel
theorem dX0_canTakeCorner_23 : decode cX0_canTakeCorner 23 = .ok (.getfield 28, 3) := by decide +kernel
theorem dX0_canTakeCorner_26 : decode cX0_canTakeCorner 26 = .ok (.ifCond .eq 19, 3) := by decide +kernel
theorem dX0_canTakeCorner_29 : decode cX0_canTakeCorner 29 = .ok (.lload_n 1, 1) := by decide +kernel
theorem dX0_canTakeCorner_30 : decode cX0_canTakeCorner 30 = .ok (.aload_n 0, 1) := by decide +kernel
theorem dX0_canTakeCorner_31 : decode cX0_canTakeCorner 31 = .ok (.getfield 9, 3) := by decide +kernel
theorem dX0_canTakeCorner_34 : decode cX0_canTakeCorner 34 = .ok (.aload_n 0, 1) := by decide +kernel
theorem dX0_canTakeCorner_35 : decode cX0_canTakeCorner 35 = .ok (.getfield 28, 3) := by decide +kernel
theorem dX0_canTakeCorner_38 : decode cX0_canTakeCorner 38 = .ok (.iconst 1, 1) := by decide +kernel
theorem dX0_canTakeCorner_39 : decode cX0_canTakeCorner 39 = .ok (.isub, 1) := by decide +kernel
theorem dX0_canTakeCorner_40 : decode cX0_canTakeCorner 40 = .ok (.laload, 1) := by decide +kernel
theorem dX0_canTakeCorner_41 : decode cX0_canTakeCorner 41 = .ok (.lcmp, 1) := by decide +kernel
theorem dX0_canTakeCorner_42 : decode cX0_canTakeCorner 42 = .ok (.ifCond .le 7, 3) := by decide +kernel
theorem dX0_canTakeCorner_45 : decode cX0_canTakeCorner 45 = .ok (.iconst 1, 1) := by decide +kernel
theorem dX0_canTakeCorner_46 : decode cX0_canTakeCorner 46 = .ok (.goto 4, 3) := by decide +kernel
theorem dX0_canTakeCorner_49 : decode cX0_canTakeCorner 49 = .ok (.iconst 0, 1) := by decide +kernel
theorem dX0_canTakeCorner_50 : decode cX0_canTakeCorner 50 = .ok (.ireturn, 1) := by decide +kernel
theorem dX0_addCorner_0 : decode cX0_addCorner 0 = .ok (.aload_n 0, 1) := by decide +kernel
theorem dX0_addCorner_1 : decode cX0_addCorner 1 = .ok (.getfield 28, 3) := by decide +kernel
theorem dX0_addCorner_4 : decode cX0_addCorner 4 = .ok (.bipush 6, 2) := by decide +kernel
theorem dX0_addCorner_6 : decode cX0_addCorner 6 = .ok (.if_icmp .lt 4, 3) := by decide +kernel
theorem dX0_addCorner_9 : decode cX0_addCorner 9 = .ok (.return_, 1) := by decide +kernel
theorem dX0_addCorner_10 : decode cX0_addCorner 10 = .ok (.aload_n 0, 1) := by decide +kernel
theorem dX0_addCorner_11 : decode cX0_addCorner 11 = .ok (.getfield 9, 3) := by decide +kernel
theorem dX0_addCorner_14 : decode cX0_addCorner 14 = .ok (.aload_n 0, 1) := by decide +kernel
theorem dX0_addCorner_15 : decode cX0_addCorner 15 = .ok (.getfield 28, 3) := by decide +kernel
theorem dX0_addCorner_18 : decode cX0_addCorner 18 = .ok (.lload_n 1, 1) := by decide +kernel
theorem dX0_addCorner_19 : decode cX0_addCorner 19 = .ok (.lastore, 1) := by decide +kernel
theorem dX0_addCorner_20 : decode cX0_addCorner 20 = .ok (.aload_n 0, 1) := by decide +kernel
theorem dX0_addCorner_21 : decode cX0_addCorner 21 = .ok (.getfield 15, 3) := by decide +kernel
theorem dX0_addCorner_24 : decode cX0_addCorner 24 = .ok (.aload_n 0, 1) := by decide +kernel
theorem dX0_addCorner_25 : decode cX0_addCorner 25 = .ok (.getfield 28, 3) := by decide +kernel
theorem dX0_addCorner_28 : decode cX0_addCorner 28 = .ok (.lload_n 3, 1) := by decide +kernel
theorem dX0_addCorner_29 : decode cX0_addCorner 29 = .ok (.lastore, 1) := by decide +kernel
theorem dX0_addCorner_30 : decode cX0_addCorner 30 = .ok (.aload_n 0, 1) := by decide +kernel
theorem dX0_addCorner_31 : decode cX0_addCorner 31 = .ok (.getfield 18, 3) := by decide +kernel
theorem dX0_addCorner_34 : decode cX0_addCorner 34 = .ok (.aload_n 0, 1) := by decide +kernel
theorem dX0_addCorner_35 : decode cX0_addCorner 35 = .ok (.getfield 28, 3) := by decide +kernel
theorem dX0_addCorner_38 : decode cX0_addCorner 38 = .ok (.lload 5, 2) := by decide +kernel
theorem dX0_addCorner_40 : decode cX0_addCorner 40 = .ok (.lastore, 1) := by decide +kernel
theorem dX0_addCorner_41 : decode cX0_addCorner 41 = .ok (.aload_n 0, 1) := by decide +kernel
theorem dX0_addCorner_42 : decode cX0_addCorner 42 = .ok (.dup, 1) := by decide +kernel
theorem dX0_addCorner_43 : decode cX0_addCorner 43 = .ok (.getfield 28, 3) := by decide +kernel
theorem dX0_addCorner_46 : decode cX0_addCorner 46 = .ok (.iconst 1, 1) := by decide +kernel
theorem dX0_addCorner_47 : decode cX0_addCorner 47 = .ok (.iadd, 1) := by decide +kernel
theorem dX0_addCorner_48 : decode cX0_addCorner 48 = .ok (.putfield 28, 3) := by decide +kernel
theorem dX0_addCorner_51 : decode cX0_addCorner 51 = .ok (.return_, 1) := by decide +kernel
theorem dX0_gapBehind_0 : decode cX0_gapBehind 0 = .ok (.iload_n 1, 1) := by decide +kernel
theorem dX0_gapBehind_1 : decode cX0_gapBehind 1 = .ok (.ifCond .lt 31, 3) := by decide +kernel
theorem dX0_gapBehind_4 : decode cX0_gapBehind 4 = .ok (.iload_n 1, 1) := by decide +kernel
theorem dX0_gapBehind_5 : decode cX0_gapBehind 5 = .ok (.iconst 1, 1) := by decide +kernel
theorem dX0_gapBehind_6 : decode cX0_gapBehind 6 = .ok (.iadd, 1) := by decide +kernel
theorem dX0_gapBehind_7 : decode cX0_gapBehind 7 = .ok (.aload_n 0, 1) := by decide +kernel
theorem dX0_gapBehind_8 : decode cX0_gapBehind 8 = .ok (.getfield 28, 3) := by decide +kernel
theorem dX0_gapBehind_11 : decode cX0_gapBehind 11 = .ok (.if_icmp .ge 21, 3) := by decide +kernel
theorem dX0_gapBehind_14 : decode cX0_gapBehind 14 = .ok (.aload_n 0, 1) := by decide +kernel
theorem dX0_gapBehind_15 : decode cX0_gapBehind 15 = .ok (.getfield 9, 3) := by decide +kernel
theorem dX0_gapBehind_18 : decode cX0_gapBehind 18 = .ok (.iload_n 1, 1) := by decide +kernel
theorem dX0_gapBehind_19 : decode cX0_gapBehind 19 = .ok (.iconst 1, 1) := by decide +kernel
theorem dX0_gapBehind_20 : decode cX0_gapBehind 20 = .ok (.iadd, 1) := by decide +kernel
theorem dX0_gapBehind_21 : decode cX0_gapBehind 21 = .ok (.laload, 1) := by decide +kernel
theorem dX0_gapBehind_22 : decode cX0_gapBehind 22 = .ok (.aload_n 0, 1) := by decide +kernel
theorem dX0_gapBehind_23 : decode cX0_gapBehind 23 = .ok (.getfield 9, 3) := by decide +kernel
theorem dX0_gapBehind_26 : decode cX0_gapBehind 26 = .ok (.iload_n 1, 1) := by decide +kernel
theorem dX0_gapBehind_27 : decode cX0_gapBehind 27 = .ok (.laload, 1) := by decide +kernel
theorem dX0_gapBehind_28 : decode cX0_gapBehind 28 = .ok (.lsub, 1) := by decide +kernel
theorem dX0_gapBehind_29 : decode cX0_gapBehind 29 = .ok (.goto 4, 3) := by decide +kernel
theorem dX0_gapBehind_32 : decode cX0_gapBehind 32 = .ok (.lconst 1, 1) := by decide +kernel
theorem dX0_gapBehind_33 : decode cX0_gapBehind 33 = .ok (.lreturn, 1) := by decide +kernel
theorem dX2_init_0 : decode cX2_init 0 = .ok (.aload_n 0, 1) := by decide +kernel
theorem dX2_init_1 : decode cX2_init 1 = .ok (.invokespecial 3, 3) := by decide +kernel
theorem dX2_init_4 : decode cX2_init 4 = .ok (.aload_n 0, 1) := by decide +kernel
theorem dX2_init_5 : decode cX2_init 5 = .ok (.iconst 1, 1) := by decide +kernel
theorem dX2_init_6 : decode cX2_init 6 = .ok (.putfield 9, 3) := by decide +kernel
theorem dX2_init_9 : decode cX2_init 9 = .ok (.aload_n 0, 1) := by decide +kernel
theorem dX2_init_10 : decode cX2_init 10 = .ok (.iconst 1, 1) := by decide +kernel
theorem dX2_init_11 : decode cX2_init 11 = .ok (.putfield 15, 3) := by decide +kernel
theorem dX2_init_14 : decode cX2_init 14 = .ok (.aload_n 0, 1) := by decide +kernel
theorem dX2_init_15 : decode cX2_init 15 = .ok (.iconst 5, 1) := by decide +kernel
theorem dX2_init_16 : decode cX2_init 16 = .ok (.newarray .long, 2) := by decide +kernel
theorem dX2_init_18 : decode cX2_init 18 = .ok (.putfield 18, 3) := by decide +kernel
theorem dX2_init_21 : decode cX2_init 21 = .ok (.aload_n 0, 1) := by decide +kernel
theorem dX2_init_22 : decode cX2_init 22 = .ok (.iconst 5, 1) := by decide +kernel
theorem dX2_init_23 : decode cX2_init 23 = .ok (.newarray .long, 2) := by decide +kernel
theorem dX2_init_25 : decode cX2_init 25 = .ok (.putfield 22, 3) := by decide +kernel
theorem dX2_init_28 : decode cX2_init 28 = .ok (.return_, 1) := by decide +kernel
set_option maxRecDepth 20000 in
theorem ggX2_canTakeAxle_X9_isWithin : GoodIn wsX2_canTakeAxle wsX9_isWithin := goodIn_r _ [5] (by decide +kernel) (by decide +kernel)
set_option maxRecDepth 20000 in
theorem gX2_canTakeAxle_X9_isWithin_n30 : GoodIn wsX2_canTakeAxle (wsX9_isWithin) := ggX2_canTakeAxle_X9_isWithin
theorem dX2_canTakeAxle_0 : decode cX2_canTakeAxle 0 = .ok (.aload_n 0, 1) := by decide +kernel
theorem dX2_canTakeAxle_1 : decode cX2_canTakeAxle 1 = .ok (.getfield 25, 3) := by decide +kernel
theorem dX2_canTakeAxle_4 : decode cX2_canTakeAxle 4 = .ok (.ifCond .ne 15, 3) := by decide +kernel
theorem dX2_canTakeAxle_7 : decode cX2_canTakeAxle 7 = .ok (.lload_n 1, 1) := by decide +kernel
theorem dX2_canTakeAxle_8 : decode cX2_canTakeAxle 8 = .ok (.lconst 0, 1) := by decide +kernel
theorem dX2_canTakeAxle_9 : decode cX2_canTakeAxle 9 = .ok (.lcmp, 1) := by decide +kernel
theorem dX2_canTakeAxle_10 : decode cX2_canTakeAxle 10 = .ok (.ifCond .ne 7, 3) := by decide +kernel
theorem dX2_canTakeAxle_13 : decode cX2_canTakeAxle 13 = .ok (.iconst 1, 1) := by decide +kernel
theorem dX2_canTakeAxle_14 : decode cX2_canTakeAxle 14 = .ok (.goto 4, 3) := by decide +kernel
theorem dX2_canTakeAxle_17 : decode cX2_canTakeAxle 17 = .ok (.iconst 0, 1) := by decide +kernel
theorem dX2_canTakeAxle_18 : decode cX2_canTakeAxle 18 = .ok (.ireturn, 1) := by decide +kernel
theorem dX2_canTakeAxle_19 : decode cX2_canTakeAxle 19 = .ok (.aload_n 0, 1) := by decide +kernel
theorem dX2_canTakeAxle_20 : decode cX2_canTakeAxle 20 = .ok (.getfield 25, 3) := by decide +kernel
theorem dX2_canTakeAxle_23 : decode cX2_canTakeAxle 23 = .ok (.iconst 5, 1) := by decide +kernel
theorem dX2_canTakeAxle_24 : decode cX2_canTakeAxle 24 = .ok (.if_icmp .ge 18, 3) := by decide +kernel
theorem dX2_canTakeAxle_27 : decode cX2_canTakeAxle 27 = .ok (.lload_n 1, 1) := by decide +kernel
theorem dX2_canTakeAxle_28 : decode cX2_canTakeAxle 28 = .ok (.lconst 1, 1) := by decide +kernel
theorem dX2_canTakeAxle_29 : decode cX2_canTakeAxle 29 = .ok (.ldc2_w 28, 3) := by decide +kernel
theorem dX2_canTakeAxle_32 : decode cX2_canTakeAxle 32 = .ok (.invokestatic 30, 3) := by decide +kernel
theorem dX2_canTakeAxle_35 : decode cX2_canTakeAxle 35 = .ok (.ifCond .eq 7, 3) := by decide +kernel
theorem dX2_canTakeAxle_38 : decode cX2_canTakeAxle 38 = .ok (.iconst 1, 1) := by decide +kernel
theorem dX2_canTakeAxle_39 : decode cX2_canTakeAxle 39 = .ok (.goto 4, 3) := by decide +kernel
theorem dX2_canTakeAxle_42 : decode cX2_canTakeAxle 42 = .ok (.iconst 0, 1) := by decide +kernel
theorem dX2_canTakeAxle_43 : decode cX2_canTakeAxle 43 = .ok (.ireturn, 1) := by decide +kernel
theorem dX2_addAxle_0 : decode cX2_addAxle 0 = .ok (.aload_n 0, 1) := by decide +kernel
theorem dX2_addAxle_1 : decode cX2_addAxle 1 = .ok (.getfield 25, 3) := by decide +kernel
theorem dX2_addAxle_4 : decode cX2_addAxle 4 = .ok (.iconst 5, 1) := by decide +kernel
theorem dX2_addAxle_5 : decode cX2_addAxle 5 = .ok (.if_icmp .lt 4, 3) := by decide +kernel
theorem dX2_addAxle_8 : decode cX2_addAxle 8 = .ok (.return_, 1) := by decide +kernel
theorem dX2_addAxle_9 : decode cX2_addAxle 9 = .ok (.aload_n 0, 1) := by decide +kernel
theorem dX2_addAxle_10 : decode cX2_addAxle 10 = .ok (.getfield 18, 3) := by decide +kernel
theorem dX2_addAxle_13 : decode cX2_addAxle 13 = .ok (.aload_n 0, 1) := by decide +kernel
theorem dX2_addAxle_14 : decode cX2_addAxle 14 = .ok (.getfield 25, 3) := by decide +kernel
theorem dX2_addAxle_17 : decode cX2_addAxle 17 = .ok (.aload_n 0, 1) := by decide +kernel
theorem dX2_addAxle_18 : decode cX2_addAxle 18 = .ok (.getfield 25, 3) := by decide +kernel
theorem dX2_addAxle_21 : decode cX2_addAxle 21 = .ok (.ifCond .ne 7, 3) := by decide +kernel
theorem dX2_addAxle_24 : decode cX2_addAxle 24 = .ok (.lconst 0, 1) := by decide +kernel
theorem dX2_addAxle_25 : decode cX2_addAxle 25 = .ok (.goto 16, 3) := by decide +kernel
theorem dX2_addAxle_28 : decode cX2_addAxle 28 = .ok (.aload_n 0, 1) := by decide +kernel
theorem dX2_addAxle_29 : decode cX2_addAxle 29 = .ok (.getfield 18, 3) := by decide +kernel
theorem dX2_addAxle_32 : decode cX2_addAxle 32 = .ok (.aload_n 0, 1) := by decide +kernel
theorem dX2_addAxle_33 : decode cX2_addAxle 33 = .ok (.getfield 25, 3) := by decide +kernel
theorem dX2_addAxle_36 : decode cX2_addAxle 36 = .ok (.iconst 1, 1) := by decide +kernel
theorem dX2_addAxle_37 : decode cX2_addAxle 37 = .ok (.isub, 1) := by decide +kernel
theorem dX2_addAxle_38 : decode cX2_addAxle 38 = .ok (.laload, 1) := by decide +kernel
theorem dX2_addAxle_39 : decode cX2_addAxle 39 = .ok (.lload_n 1, 1) := by decide +kernel
theorem dX2_addAxle_40 : decode cX2_addAxle 40 = .ok (.ladd, 1) := by decide +kernel
theorem dX2_addAxle_41 : decode cX2_addAxle 41 = .ok (.lastore, 1) := by decide +kernel
theorem dX2_addAxle_42 : decode cX2_addAxle 42 = .ok (.aload_n 0, 1) := by decide +kernel
theorem dX2_addAxle_43 : decode cX2_addAxle 43 = .ok (.getfield 22, 3) := by decide +kernel
theorem dX2_addAxle_46 : decode cX2_addAxle 46 = .ok (.aload_n 0, 1) := by decide +kernel
theorem dX2_addAxle_47 : decode cX2_addAxle 47 = .ok (.getfield 25, 3) := by decide +kernel
theorem dX2_addAxle_50 : decode cX2_addAxle 50 = .ok (.lload_n 3, 1) := by decide +kernel
theorem dX2_addAxle_51 : decode cX2_addAxle 51 = .ok (.lastore, 1) := by decide +kernel
theorem dX2_addAxle_52 : decode cX2_addAxle 52 = .ok (.aload_n 0, 1) := by decide +kernel
theorem dX2_addAxle_53 : decode cX2_addAxle 53 = .ok (.dup, 1) := by decide +kernel
theorem dX2_addAxle_54 : decode cX2_addAxle 54 = .ok (.getfield 25, 3) := by decide +kernel
theorem dX2_addAxle_57 : decode cX2_addAxle 57 = .ok (.iconst 1, 1) := by decide +kernel
theorem dX2_addAxle_58 : decode cX2_addAxle 58 = .ok (.iadd, 1) := by decide +kernel
theorem dX2_addAxle_59 : decode cX2_addAxle 59 = .ok (.putfield 25, 3) := by decide +kernel
theorem dX2_addAxle_62 : decode cX2_addAxle 62 = .ok (.return_, 1) := by decide +kernel
set_option maxRecDepth 20000 in
theorem ggX5_init_X8_init : GoodIn wsX5_init wsX8_init := goodIn_r _ [10, 11, 2, 3, 12, 13, 18] (by decide +kernel) (by decide +kernel)
set_option maxRecDepth 20000 in
theorem gX5_init_X8_init_n9 : GoodIn wsX5_init (wsX8_init) := ggX5_init_X8_init
set_option maxRecDepth 20000 in
theorem ggX5_init_X8_setTo : GoodIn wsX5_init wsX8_setTo := goodIn_r _ [17, 13, 18] (by decide +kernel) (by decide +kernel)
set_option maxRecDepth 20000 in
theorem gX5_init_X8_setTo : GoodIn wsX5_init (wsV RX5 19 RX8 yX8_setTo wsX8_setTo) := goodIn_app (goodIn_of _ (by decide +kernel)) ggX5_init_X8_setTo
theorem dX5_init_0 : decode cX5_init 0 = .ok (.aload_n 0, 1) := by decide +kernel
theorem dX5_init_1 : decode cX5_init 1 = .ok (.invokespecial 1, 3) := by decide +kernel
theorem dX5_init_4 : decode cX5_init 4 = .ok (.aload_n 0, 1) := by decide +kernel
theorem dX5_init_5 : decode cX5_init 5 = .ok (.new 7, 3) := by decide +kernel
theorem dX5_init_8 : decode cX5_init 8 = .ok (.dup, 1) := by decide +kernel
theorem dX5_init_9 : decode cX5_init 9 = .ok (.invokespecial 9, 3) := by decide +kernel
theorem dX5_init_12 : decode cX5_init 12 = .ok (.putfield 10, 3) := by decide +kernel
theorem dX5_init_15 : decode cX5_init 15 = .ok (.aload_n 0, 1) := by decide +kernel
theorem dX5_init_16 : decode cX5_init 16 = .ok (.new 7, 3) := by decide +kernel
theorem dX5_init_19 : decode cX5_init 19 = .ok (.dup, 1) := by decide +kernel
theorem dX5_init_20 : decode cX5_init 20 = .ok (.invokespecial 9, 3) := by decide +kernel
theorem dX5_init_23 : decode cX5_init 23 = .ok (.putfield 16, 3) := by decide +kernel
theorem dX5_init_26 : decode cX5_init 26 = .ok (.aload_n 0, 1) := by decide +kernel
theorem dX5_init_27 : decode cX5_init 27 = .ok (.getfield 16, 3) := by decide +kernel
theorem dX5_init_30 : decode cX5_init 30 = .ok (.lconst 1, 1) := by decide +kernel
theorem dX5_init_31 : decode cX5_init 31 = .ok (.invokevirtual 19, 3) := by decide +kernel
theorem dX5_init_34 : decode cX5_init 34 = .ok (.return_, 1) := by decide +kernel
set_option maxRecDepth 20000 in
theorem ggX5_isSameAs_X8_compareWith : GoodIn wsX5_isSameAs wsX8_compareWith := goodIn_r _ [7, 8, 11] (by decide +kernel) (by decide +kernel)
set_option maxRecDepth 20000 in
theorem gX5_isSameAs_X8_compareWith : GoodIn wsX5_isSameAs (wsV RX5 23 RX8 yX8_compareWith wsX8_compareWith) := goodIn_app (goodIn_of _ (by decide +kernel)) ggX5_isSameAs_X8_compareWith
theorem dX5_isSameAs_0 : decode cX5_isSameAs 0 = .ok (.aload_n 0, 1) := by decide +kernel
theorem dX5_isSameAs_1 : decode cX5_isSameAs 1 = .ok (.getfield 10, 3) := by decide +kernel
theorem dX5_isSameAs_4 : decode cX5_isSameAs 4 = .ok (.aload_n 1, 1) := by decide +kernel
theorem dX5_isSameAs_5 : decode cX5_isSameAs 5 = .ok (.getfield 10, 3) := by decide +kernel
theorem dX5_isSameAs_8 : decode cX5_isSameAs 8 = .ok (.invokevirtual 23, 3) := by decide +kernel
theorem dX5_isSameAs_11 : decode cX5_isSameAs 11 = .ok (.ifCond .ne 21, 3) := by decide +kernel
theorem dX5_isSameAs_14 : decode cX5_isSameAs 14 = .ok (.aload_n 0, 1) := by decide +kernel
theorem dX5_isSameAs_15 : decode cX5_isSameAs 15 = .ok (.getfield 16, 3) := by decide +kernel
theorem dX5_isSameAs_18 : decode cX5_isSameAs 18 = .ok (.aload_n 1, 1) := by decide +kernel
theorem dX5_isSameAs_19 : decode cX5_isSameAs 19 = .ok (.getfield 16, 3) := by decide +kernel
theorem dX5_isSameAs_22 : decode cX5_isSameAs 22 = .ok (.invokevirtual 23, 3) := by decide +kernel
theorem dX5_isSameAs_25 : decode cX5_isSameAs 25 = .ok (.ifCond .ne 7, 3) := by decide +kernel
theorem dX5_isSameAs_28 : decode cX5_isSameAs 28 = .ok (.iconst 1, 1) := by decide +kernel
theorem dX5_isSameAs_29 : decode cX5_isSameAs 29 = .ok (.goto 4, 3) := by decide +kernel
theorem dX5_isSameAs_32 : decode cX5_isSameAs 32 = .ok (.iconst 0, 1) := by decide +kernel
theorem dX5_isSameAs_33 : decode cX5_isSameAs 33 = .ok (.ireturn, 1) := by decide +kernel
theorem dX6_init_0 : decode cX6_init 0 = .ok (.aload_n 0, 1) := by decide +kernel
theorem dX6_init_1 : decode cX6_init 1 = .ok (.invokespecial 3, 3) := by decide +kernel
theorem dX6_init_4 : decode cX6_init 4 = .ok (.aload_n 0, 1) := by decide +kernel
theorem dX6_init_5 : decode cX6_init 5 = .ok (.iconst (-1), 1) := by decide +kernel
theorem dX6_init_6 : decode cX6_init 6 = .ok (.putfield 9, 3) := by decide +kernel
theorem dX6_init_9 : decode cX6_init 9 = .ok (.aload_n 0, 1) := by decide +kernel
theorem dX6_init_10 : decode cX6_init 10 = .ok (.iconst 3, 1) := by decide +kernel
theorem dX6_init_11 : decode cX6_init 11 = .ok (.newarray .int, 2) := by decide +kernel
theorem dX6_init_13 : decode cX6_init 13 = .ok (.putfield 15, 3) := by decide +kernel
theorem dX6_init_16 : decode cX6_init 16 = .ok (.aload_n 0, 1) := by decide +kernel
theorem dX6_init_17 : decode cX6_init 17 = .ok (.iconst 3, 1) := by decide +kernel
theorem dX6_init_18 : decode cX6_init 18 = .ok (.newarray .int, 2) := by decide +kernel
theorem dX6_init_20 : decode cX6_init 20 = .ok (.putfield 19, 3) := by decide +kernel
theorem dX6_init_23 : decode cX6_init 23 = .ok (.return_, 1) := by decide +kernel
theorem dX6_lay_0 : decode cX6_lay 0 = .ok (.aload_n 0, 1) := by decide +kernel
theorem dX6_lay_1 : decode cX6_lay 1 = .ok (.iload_n 1, 1) := by decide +kernel
theorem dX6_lay_2 : decode cX6_lay 2 = .ok (.putfield 22, 3) := by decide +kernel
theorem dX6_lay_5 : decode cX6_lay 5 = .ok (.aload_n 0, 1) := by decide +kernel
theorem dX6_lay_6 : decode cX6_lay 6 = .ok (.iload_n 2, 1) := by decide +kernel
theorem dX6_lay_7 : decode cX6_lay 7 = .ok (.putfield 25, 3) := by decide +kernel
theorem dX6_lay_10 : decode cX6_lay 10 = .ok (.aload_n 0, 1) := by decide +kernel
theorem dX6_lay_11 : decode cX6_lay 11 = .ok (.iload_n 3, 1) := by decide +kernel
theorem dX6_lay_12 : decode cX6_lay 12 = .ok (.putfield 28, 3) := by decide +kernel
theorem dX6_lay_15 : decode cX6_lay 15 = .ok (.aload_n 0, 1) := by decide +kernel
theorem dX6_lay_16 : decode cX6_lay 16 = .ok (.iload 4, 2) := by decide +kernel
theorem dX6_lay_18 : decode cX6_lay 18 = .ok (.putfield 31, 3) := by decide +kernel
theorem dX6_lay_21 : decode cX6_lay 21 = .ok (.aload_n 0, 1) := by decide +kernel
theorem dX6_lay_22 : decode cX6_lay 22 = .ok (.iload 5, 2) := by decide +kernel
theorem dX6_lay_24 : decode cX6_lay 24 = .ok (.putfield 34, 3) := by decide +kernel
theorem dX6_lay_27 : decode cX6_lay 27 = .ok (.aload_n 0, 1) := by decide +kernel
theorem dX6_lay_28 : decode cX6_lay 28 = .ok (.iconst 1, 1) := by decide +kernel
theorem dX6_lay_29 : decode cX6_lay 29 = .ok (.putfield 37, 3) := by decide +kernel
theorem dX6_lay_32 : decode cX6_lay 32 = .ok (.return_, 1) := by decide +kernel
theorem dX6_nodeAcross_0 : decode cX6_nodeAcross 0 = .ok (.iload_n 1, 1) := by decide +kernel
theorem dX6_nodeAcross_1 : decode cX6_nodeAcross 1 = .ok (.aload_n 0, 1) := by decide +kernel
theorem dX6_nodeAcross_2 : decode cX6_nodeAcross 2 = .ok (.getfield 22, 3) := by decide +kernel
theorem dX6_nodeAcross_5 : decode cX6_nodeAcross 5 = .ok (.if_icmp .ne 8, 3) := by decide +kernel
theorem dX6_nodeAcross_8 : decode cX6_nodeAcross 8 = .ok (.aload_n 0, 1) := by decide +kernel
theorem dX6_nodeAcross_9 : decode cX6_nodeAcross 9 = .ok (.getfield 25, 3) := by decide +kernel
theorem dX6_nodeAcross_12 : decode cX6_nodeAcross 12 = .ok (.ireturn, 1) := by decide +kernel
theorem dX6_nodeAcross_13 : decode cX6_nodeAcross 13 = .ok (.iload_n 1, 1) := by decide +kernel
theorem dX6_nodeAcross_14 : decode cX6_nodeAcross 14 = .ok (.aload_n 0, 1) := by decide +kernel
theorem dX6_nodeAcross_15 : decode cX6_nodeAcross 15 = .ok (.getfield 25, 3) := by decide +kernel
theorem dX6_nodeAcross_18 : decode cX6_nodeAcross 18 = .ok (.if_icmp .ne 10, 3) := by decide +kernel
theorem dX6_nodeAcross_21 : decode cX6_nodeAcross 21 = .ok (.aload_n 0, 1) := by decide +kernel
theorem dX6_nodeAcross_22 : decode cX6_nodeAcross 22 = .ok (.getfield 22, 3) := by decide +kernel
theorem dX6_nodeAcross_25 : decode cX6_nodeAcross 25 = .ok (.goto 4, 3) := by decide +kernel
theorem dX6_nodeAcross_28 : decode cX6_nodeAcross 28 = .ok (.iconst (-1), 1) := by decide +kernel
theorem dX6_nodeAcross_29 : decode cX6_nodeAcross 29 = .ok (.ireturn, 1) := by decide +kernel
set_option maxRecDepth 20000 in
theorem ggX6_meets_X6_nodeAcross : GoodIn wsX6_meets wsX6_nodeAcross := goodIn_r _ [7, 1, 2, 8, 9, 10, 11, 12, 13, 14, 15, 16, 17, 18] (by decide +kernel) (by decide +kernel)
set_option maxRecDepth 20000 in
theorem gX6_meets_X6_nodeAcross : GoodIn wsX6_meets (wsV RX6 41 RX6 yX6_nodeAcross wsX6_nodeAcross) := goodIn_app (goodIn_of _ (by decide +kernel)) ggX6_meets_X6_nodeAcross
theorem dX6_meets_0 : decode cX6_meets 0 = .ok (.aload_n 1, 1) := by decide +kernel
theorem dX6_meets_1 : decode cX6_meets 1 = .ok (.aload_n 0, 1) := by decide +kernel
theorem dX6_meets_2 : decode cX6_meets 2 = .ok (.getfield 22, 3) := by decide +kernel
theorem dX6_meets_5 : decode cX6_meets 5 = .ok (.invokevirtual 41, 3) := by decide +kernel
theorem dX6_meets_8 : decode cX6_meets 8 = .ok (.iconst (-1), 1) := by decide +kernel
theorem dX6_meets_9 : decode cX6_meets 9 = .ok (.if_icmp .ne 15, 3) := by decide +kernel
theorem dX6_meets_12 : decode cX6_meets 12 = .ok (.aload_n 1, 1) := by decide +kernel
theorem dX6_meets_13 : decode cX6_meets 13 = .ok (.aload_n 0, 1) := by decide +kernel
theorem dX6_meets_14 : decode cX6_meets 14 = .ok (.getfield 25, 3) := by decide +kernel
theorem dX6_meets_17 : decode cX6_meets 17 = .ok (.invokevirtual 41, 3) := by decide +kernel
theorem dX6_meets_20 : decode cX6_meets 20 = .ok (.iconst (-1), 1) := by decide +kernel
theorem dX6_meets_21 : decode cX6_meets 21 = .ok (.if_icmp .eq 7, 3) := by decide +kernel
theorem dX6_meets_24 : decode cX6_meets 24 = .ok (.iconst 1, 1) := by decide +kernel
theorem dX6_meets_25 : decode cX6_meets 25 = .ok (.goto 4, 3) := by decide +kernel
theorem dX6_meets_28 : decode cX6_meets 28 = .ok (.iconst 0, 1) := by decide +kernel
theorem dX6_meets_29 : decode cX6_meets 29 = .ok (.ireturn, 1) := by decide +kernel
theorem dX6_setTurn_0 : decode cX6_setTurn 0 = .ok (.iconst 1, 1) := by decide +kernel
theorem dX6_setTurn_1 : decode cX6_setTurn 1 = .ok (.iload_n 1, 1) := by decide +kernel
theorem dX6_setTurn_2 : decode cX6_setTurn 2 = .ok (.ishl, 1) := by decide +kernel
theorem dX6_setTurn_3 : decode cX6_setTurn 3 = .ok (.istore_n 3, 1) := by decide +kernel
theorem dX6_setTurn_4 : decode cX6_setTurn 4 = .ok (.aload_n 0, 1) := by decide +kernel
theorem dX6_setTurn_5 : decode cX6_setTurn 5 = .ok (.iload_n 2, 1) := by decide +kernel
theorem dX6_setTurn_6 : decode cX6_setTurn 6 = .ok (.ifCond .eq 14, 3) := by decide +kernel
theorem dX6_setTurn_9 : decode cX6_setTurn 9 = .ok (.aload_n 0, 1) := by decide +kernel
theorem dX6_setTurn_10 : decode cX6_setTurn 10 = .ok (.getfield 45, 3) := by decide +kernel
theorem dX6_setTurn_13 : decode cX6_setTurn 13 = .ok (.iload_n 3, 1) := by decide +kernel
theorem dX6_setTurn_14 : decode cX6_setTurn 14 = .ok (.iconst (-1), 1) := by decide +kernel
theorem dX6_setTurn_15 : decode cX6_setTurn 15 = .ok (.ixor, 1) := by decide +kernel
theorem dX6_setTurn_16 : decode cX6_setTurn 16 = .ok (.iand, 1) := by decide +kernel
theorem dX6_setTurn_17 : decode cX6_setTurn 17 = .ok (.goto 9, 3) := by decide +kernel
theorem dX6_setTurn_20 : decode cX6_setTurn 20 = .ok (.aload_n 0, 1) := by decide +kernel
theorem dX6_setTurn_21 : decode cX6_setTurn 21 = .ok (.getfield 45, 3) := by decide +kernel
theorem dX6_setTurn_24 : decode cX6_setTurn 24 = .ok (.iload_n 3, 1) := by decide +kernel
theorem dX6_setTurn_25 : decode cX6_setTurn 25 = .ok (.ior, 1) := by decide +kernel
theorem dX6_setTurn_26 : decode cX6_setTurn 26 = .ok (.putfield 45, 3) := by decide +kernel
theorem dX6_setTurn_29 : decode cX6_setTurn 29 = .ok (.return_, 1) := by decide +kernel
theorem dX6_isTurnBlocked_0 : decode cX6_isTurnBlocked 0 = .ok (.aload_n 0, 1) := by decide +kernel
theorem dX6_isTurnBlocked_1 : decode cX6_isTurnBlocked 1 = .ok (.getfield 45, 3) := by decide +kernel
theorem dX6_isTurnBlocked_4 : decode cX6_isTurnBlocked 4 = .ok (.iload_n 1, 1) := by decide +kernel
theorem dX6_isTurnBlocked_5 : decode cX6_isTurnBlocked 5 = .ok (.ishr, 1) := by decide +kernel
theorem dX6_isTurnBlocked_6 : decode cX6_isTurnBlocked 6 = .ok (.iconst 1, 1) := by decide +kernel
theorem dX6_isTurnBlocked_7 : decode cX6_isTurnBlocked 7 = .ok (.iand, 1) := by decide +kernel
theorem dX6_isTurnBlocked_8 : decode cX6_isTurnBlocked 8 = .ok (.iconst 1, 1) := by decide +kernel
theorem dX6_isTurnBlocked_9 : decode cX6_isTurnBlocked 9 = .ok (.if_icmp .ne 7, 3) := by decide +kernel
theorem dX6_isTurnBlocked_12 : decode cX6_isTurnBlocked 12 = .ok (.iconst 1, 1) := by decide +kernel
theorem dX6_isTurnBlocked_13 : decode cX6_isTurnBlocked 13 = .ok (.goto 4, 3) := by decide +kernel
theorem dX6_isTurnBlocked_16 : decode cX6_isTurnBlocked 16 = .ok (.iconst 0, 1) := by decide +kernel
theorem dX6_isTurnBlocked_17 : decode cX6_isTurnBlocked 17 = .ok (.ireturn, 1) := by decide +kernel
theorem dX6_addBar_0 : decode cX6_addBar 0 = .ok (.aload_n 0, 1) := by decide +kernel
theorem dX6_addBar_1 : decode cX6_addBar 1 = .ok (.getfield 48, 3) := by decide +kernel
theorem dX6_addBar_4 : decode cX6_addBar 4 = .ok (.iconst 3, 1) := by decide +kernel
theorem dX6_addBar_5 : decode cX6_addBar 5 = .ok (.if_icmp .lt 4, 3) := by decide +kernel
theorem dX6_addBar_8 : decode cX6_addBar 8 = .ok (.return_, 1) := by decide +kernel
theorem dX6_addBar_9 : decode cX6_addBar 9 = .ok (.aload_n 0, 1) := by decide +kernel
theorem dX6_addBar_10 : decode cX6_addBar 10 = .ok (.getfield 15, 3) := by decide +kernel
theorem dX6_addBar_13 : decode cX6_addBar 13 = .ok (.aload_n 0, 1) := by decide +kernel
theorem dX6_addBar_14 : decode cX6_addBar 14 = .ok (.getfield 48, 3) := by decide +kernel
theorem dX6_addBar_17 : decode cX6_addBar 17 = .ok (.iload_n 1, 1) := by decide +kernel
theorem dX6_addBar_18 : decode cX6_addBar 18 = .ok (.iastore, 1) := by decide +kernel
theorem dX6_addBar_19 : decode cX6_addBar 19 = .ok (.aload_n 0, 1) := by decide +kernel
theorem dX6_addBar_20 : decode cX6_addBar 20 = .ok (.getfield 19, 3) := by decide +kernel
theorem dX6_addBar_23 : decode cX6_addBar 23 = .ok (.aload_n 0, 1) := by decide +kernel
theorem dX6_addBar_24 : decode cX6_addBar 24 = .ok (.getfield 48, 3) := by decide +kernel
theorem dX6_addBar_27 : decode cX6_addBar 27 = .ok (.iload_n 2, 1) := by decide +kernel
theorem dX6_addBar_28 : decode cX6_addBar 28 = .ok (.iastore, 1) := by decide +kernel
theorem dX6_addBar_29 : decode cX6_addBar 29 = .ok (.aload_n 0, 1) := by decide +kernel
theorem dX6_addBar_30 : decode cX6_addBar 30 = .ok (.dup, 1) := by decide +kernel
theorem dX6_addBar_31 : decode cX6_addBar 31 = .ok (.getfield 48, 3) := by decide +kernel
theorem dX6_addBar_34 : decode cX6_addBar 34 = .ok (.iconst 1, 1) := by decide +kernel
theorem dX6_addBar_35 : decode cX6_addBar 35 = .ok (.iadd, 1) := by decide +kernel
theorem dX6_addBar_36 : decode cX6_addBar 36 = .ok (.putfield 48, 3) := by decide +kernel
theorem dX6_addBar_39 : decode cX6_addBar 39 = .ok (.return_, 1) := by decide +kernel
set_option maxRecDepth 20000 in
theorem ggX6_earliestStart_X6_waitAt : GoodIn wsX6_earliestStart wsX6_waitAt := goodIn_r _ [6, 1, 7, 8, 9, 10, 11, 12, 13, 14, 15, 16, 17, 18, 19, 20, 21, 22, 23] (by decide +kernel) (by decide +kernel)
set_option maxRecDepth 20000 in
theorem gX6_earliestStart_X6_waitAt : GoodIn wsX6_earliestStart (wsV RX6 51 RX6 yX6_waitAt wsX6_waitAt) := goodIn_app (goodIn_of _ (by decide +kernel)) ggX6_earliestStart_X6_waitAt
theorem dX6_earliestStart_0 : decode cX6_earliestStart 0 = .ok (.iload_n 1, 1) := by decide +kernel
theorem dX6_earliestStart_1 : decode cX6_earliestStart 1 = .ok (.istore_n 2, 1) := by decide +kernel
theorem dX6_earliestStart_2 : decode cX6_earliestStart 2 = .ok (.iconst 0, 1) := by decide +kernel
theorem dX6_earliestStart_3 : decode cX6_earliestStart 3 = .ok (.istore_n 3, 1) := by decide +kernel
theorem dX6_earliestStart_4 : decode cX6_earliestStart 4 = .ok (.iload_n 3, 1) := by decide +kernel
theorem dX6_earliestStart_5 : decode cX6_earliestStart 5 = .ok (.aload_n 0, 1) := by decide +kernel
theorem dX6_earliestStart_6 : decode cX6_earliestStart 6 = .ok (.getfield 48, 3) := by decide +kernel
theorem dX6_earliestStart_9 : decode cX6_earliestStart 9 = .ok (.if_icmp .gt 32, 3) := by decide +kernel
theorem dX6_earliestStart_12 : decode cX6_earliestStart 12 = .ok (.aload_n 0, 1) := by decide +kernel
theorem dX6_earliestStart_13 : decode cX6_earliestStart 13 = .ok (.iload_n 2, 1) := by decide +kernel
theorem dX6_earliestStart_14 : decode cX6_earliestStart 14 = .ok (.sipush 1440, 3) := by decide +kernel
theorem dX6_earliestStart_17 : decode cX6_earliestStart 17 = .ok (.irem, 1) := by decide +kernel
theorem dX6_earliestStart_18 : decode cX6_earliestStart 18 = .ok (.invokevirtual 51, 3) := by decide +kernel
theorem dX6_earliestStart_21 : decode cX6_earliestStart 21 = .ok (.istore 4, 2) := by decide +kernel
theorem dX6_earliestStart_23 : decode cX6_earliestStart 23 = .ok (.iload 4, 2) := by decide +kernel
theorem dX6_earliestStart_25 : decode cX6_earliestStart 25 = .ok (.ifCond .ne 5, 3) := by decide +kernel
theorem dX6_earliestStart_28 : decode cX6_earliestStart 28 = .ok (.iload_n 2, 1) := by decide +kernel
theorem dX6_earliestStart_29 : decode cX6_earliestStart 29 = .ok (.ireturn, 1) := by decide +kernel
theorem dX6_earliestStart_30 : decode cX6_earliestStart 30 = .ok (.iload_n 2, 1) := by decide +kernel
theorem dX6_earliestStart_31 : decode cX6_earliestStart 31 = .ok (.iload 4, 2) := by decide +kernel
theorem dX6_earliestStart_33 : decode cX6_earliestStart 33 = .ok (.iadd, 1) := by decide +kernel
theorem dX6_earliestStart_34 : decode cX6_earliestStart 34 = .ok (.istore_n 2, 1) := by decide +kernel
theorem dX6_earliestStart_35 : decode cX6_earliestStart 35 = .ok (.iinc 3 1, 3) := by decide +kernel
theorem dX6_earliestStart_38 : decode cX6_earliestStart 38 = .ok (.goto (-34), 3) := by decide +kernel
theorem dX6_earliestStart_41 : decode cX6_earliestStart 41 = .ok (.iconst (-1), 1) := by decide +kernel
theorem dX6_earliestStart_42 : decode cX6_earliestStart 42 = .ok (.ireturn, 1) := by decide +kernel
theorem dX6_waitAt_0 : decode cX6_waitAt 0 = .ok (.iconst 0, 1) := by decide +kernel
theorem dX6_waitAt_1 : decode cX6_waitAt 1 = .ok (.istore_n 2, 1) := by decide +kernel
theorem dX6_waitAt_2 : decode cX6_waitAt 2 = .ok (.iconst 0, 1) := by decide +kernel
theorem dX6_waitAt_3 : decode cX6_waitAt 3 = .ok (.istore_n 3, 1) := by decide +kernel
theorem dX6_waitAt_4 : decode cX6_waitAt 4 = .ok (.iload_n 3, 1) := by decide +kernel
theorem dX6_waitAt_5 : decode cX6_waitAt 5 = .ok (.aload_n 0, 1) := by decide +kernel
theorem dX6_waitAt_6 : decode cX6_waitAt 6 = .ok (.getfield 48, 3) := by decide +kernel
theorem dX6_waitAt_9 : decode cX6_waitAt 9 = .ok (.if_icmp .ge 62, 3) := by decide +kernel
theorem dX6_waitAt_12 : decode cX6_waitAt 12 = .ok (.aload_n 0, 1) := by decide +kernel
theorem dX6_waitAt_13 : decode cX6_waitAt 13 = .ok (.getfield 19, 3) := by decide +kernel
theorem dX6_waitAt_16 : decode cX6_waitAt 16 = .ok (.iload_n 3, 1) := by decide +kernel
theorem dX6_waitAt_17 : decode cX6_waitAt 17 = .ok (.iaload, 1) := by decide +kernel
theorem dX6_waitAt_18 : decode cX6_waitAt 18 = .ok (.aload_n 0, 1) := by decide +kernel
theorem dX6_waitAt_19 : decode cX6_waitAt 19 = .ok (.getfield 15, 3) := by decide +kernel
theorem dX6_waitAt_22 : decode cX6_waitAt 22 = .ok (.iload_n 3, 1) := by decide +kernel
theorem dX6_waitAt_23 : decode cX6_waitAt 23 = .ok (.iaload, 1) := by decide +kernel
theorem dX6_waitAt_24 : decode cX6_waitAt 24 = .ok (.isub, 1) := by decide +kernel
theorem dX6_waitAt_25 : decode cX6_waitAt 25 = .ok (.sipush 1440, 3) := by decide +kernel
theorem dX6_waitAt_28 : decode cX6_waitAt 28 = .ok (.iadd, 1) := by decide +kernel
theorem dX6_waitAt_29 : decode cX6_waitAt 29 = .ok (.sipush 1440, 3) := by decide +kernel
theorem dX6_waitAt_32 : decode cX6_waitAt 32 = .ok (.irem, 1) := by decide +kernel
theorem dX6_waitAt_33 : decode cX6_waitAt 33 = .ok (.istore 4, 2) := by decide +kernel
theorem dX6_waitAt_35 : decode cX6_waitAt 35 = .ok (.iload_n 1, 1) := by decide +kernel
theorem dX6_waitAt_36 : decode cX6_waitAt 36 = .ok (.aload_n 0, 1) := by decide +kernel
theorem dX6_waitAt_37 : decode cX6_waitAt 37 = .ok (.getfield 15, 3) := by decide +kernel
theorem dX6_waitAt_40 : decode cX6_waitAt 40 = .ok (.iload_n 3, 1) := by decide +kernel
theorem dX6_waitAt_41 : decode cX6_waitAt 41 = .ok (.iaload, 1) := by decide +kernel
theorem dX6_waitAt_42 : decode cX6_waitAt 42 = .ok (.isub, 1) := by decide +kernel
theorem dX6_waitAt_43 : decode cX6_waitAt 43 = .ok (.sipush 1440, 3) := by decide +kernel
theorem dX6_waitAt_46 : decode cX6_waitAt 46 = .ok (.iadd, 1) := by decide +kernel
theorem dX6_waitAt_47 : decode cX6_waitAt 47 = .ok (.sipush 1440, 3) := by decide +kernel
theorem dX6_waitAt_50 : decode cX6_waitAt 50 = .ok (.irem, 1) := by decide +kernel
theorem dX6_waitAt_51 : decode cX6_waitAt 51 = .ok (.istore 5, 2) := by decide +kernel
theorem dX6_waitAt_53 : decode cX6_waitAt 53 = .ok (.iload_n 2, 1) := by decide +kernel
theorem dX6_waitAt_54 : decode cX6_waitAt 54 = .ok (.iload 4, 2) := by decide +kernel
theorem dX6_waitAt_56 : decode cX6_waitAt 56 = .ok (.iload 5, 2) := by decide +kernel
theorem dX6_waitAt_58 : decode cX6_waitAt 58 = .ok (.isub, 1) := by decide +kernel
theorem dX6_waitAt_59 : decode cX6_waitAt 59 = .ok (.iconst 1, 1) := by decide +kernel
theorem dX6_waitAt_60 : decode cX6_waitAt 60 = .ok (.iadd, 1) := by decide +kernel
theorem dX6_waitAt_61 : decode cX6_waitAt 61 = .ok (.invokestatic 54, 3) := by decide +kernel
theorem dX6_waitAt_64 : decode cX6_waitAt 64 = .ok (.istore_n 2, 1) := by decide +kernel
theorem dX6_waitAt_65 : decode cX6_waitAt 65 = .ok (.iinc 3 1, 3) := by decide +kernel
theorem dX6_waitAt_68 : decode cX6_waitAt 68 = .ok (.goto (-64), 3) := by decide +kernel
theorem dX6_waitAt_71 : decode cX6_waitAt 71 = .ok (.iload_n 2, 1) := by decide +kernel
theorem dX6_waitAt_72 : decode cX6_waitAt 72 = .ok (.ireturn, 1) := by decide +kernel
theorem dX7_init_0 : decode cX7_init 0 = .ok (.aload_n 0, 1) := by decide +kernel
theorem dX7_init_1 : decode cX7_init 1 = .ok (.invokespecial 3, 3) := by decide +kernel
theorem dX7_init_4 : decode cX7_init 4 = .ok (.aload_n 0, 1) := by decide +kernel
theorem dX7_init_5 : decode cX7_init 5 = .ok (.bipush 6, 2) := by decide +kernel
theorem dX7_init_7 : decode cX7_init 7 = .ok (.newarray .int, 2) := by decide +kernel
theorem dX7_init_9 : decode cX7_init 9 = .ok (.putfield 9, 3) := by decide +kernel
theorem dX7_init_12 : decode cX7_init 12 = .ok (.aload_n 0, 1) := by decide +kernel
theorem dX7_init_13 : decode cX7_init 13 = .ok (.bipush 6, 2) := by decide +kernel
theorem dX7_init_15 : decode cX7_init 15 = .ok (.newarray .int, 2) := by decide +kernel
theorem dX7_init_17 : decode cX7_init 17 = .ok (.putfield 15, 3) := by decide +kernel
theorem dX7_init_20 : decode cX7_init 20 = .ok (.return_, 1) := by decide +kernel
theorem dX7_hasPlace_0 : decode cX7_hasPlace 0 = .ok (.iload_n 1, 1) := by decide +kernel
theorem dX7_hasPlace_1 : decode cX7_hasPlace 1 = .ok (.ifCond .lt 15, 3) := by decide +kernel
theorem dX7_hasPlace_4 : decode cX7_hasPlace 4 = .ok (.iload_n 1, 1) := by decide +kernel
theorem dX7_hasPlace_5 : decode cX7_hasPlace 5 = .ok (.aload_n 0, 1) := by decide +kernel
theorem dX7_hasPlace_6 : decode cX7_hasPlace 6 = .ok (.getfield 18, 3) := by decide +kernel
theorem dX7_hasPlace_9 : decode cX7_hasPlace 9 = .ok (.if_icmp .ge 7, 3) := by decide +kernel
theorem dX7_hasPlace_12 : decode cX7_hasPlace 12 = .ok (.iconst 1, 1) := by decide +kernel
theorem dX7_hasPlace_13 : decode cX7_hasPlace 13 = .ok (.goto 4, 3) := by decide +kernel
theorem dX7_hasPlace_16 : decode cX7_hasPlace 16 = .ok (.iconst 0, 1) := by decide +kernel
theorem dX7_hasPlace_17 : decode cX7_hasPlace 17 = .ok (.ireturn, 1) := by decide +kernel
theorem dX7_copyFrom_0 : decode cX7_copyFrom 0 = .ok (.iconst 0, 1) := by decide +kernel
theorem dX7_copyFrom_1 : decode cX7_copyFrom 1 = .ok (.istore_n 2, 1) := by decide +kernel
theorem dX7_copyFrom_2 : decode cX7_copyFrom 2 = .ok (.iload_n 2, 1) := by decide +kernel
theorem dX7_copyFrom_3 : decode cX7_copyFrom 3 = .ok (.bipush 6, 2) := by decide +kernel
theorem dX7_copyFrom_5 : decode cX7_copyFrom 5 = .ok (.if_icmp .ge 33, 3) := by decide +kernel
theorem dX7_copyFrom_8 : decode cX7_copyFrom 8 = .ok (.aload_n 0, 1) := by decide +kernel
theorem dX7_copyFrom_9 : decode cX7_copyFrom 9 = .ok (.getfield 9, 3) := by decide +kernel
theorem dX7_copyFrom_12 : decode cX7_copyFrom 12 = .ok (.iload_n 2, 1) := by decide +kernel
theorem dX7_copyFrom_13 : decode cX7_copyFrom 13 = .ok (.aload_n 1, 1) := by decide +kernel
theorem dX7_copyFrom_14 : decode cX7_copyFrom 14 = .ok (.getfield 9, 3) := by decide +kernel
theorem dX7_copyFrom_17 : decode cX7_copyFrom 17 = .ok (.iload_n 2, 1) := by decide +kernel
theorem dX7_copyFrom_18 : decode cX7_copyFrom 18 = .ok (.iaload, 1) := by decide +kernel
theorem dX7_copyFrom_19 : decode cX7_copyFrom 19 = .ok (.iastore, 1) := by decide +kernel
theorem dX7_copyFrom_20 : decode cX7_copyFrom 20 = .ok (.aload_n 0, 1) := by decide +kernel
theorem dX7_copyFrom_21 : decode cX7_copyFrom 21 = .ok (.getfield 15, 3) := by decide +kernel
theorem dX7_copyFrom_24 : decode cX7_copyFrom 24 = .ok (.iload_n 2, 1) := by decide +kernel
theorem dX7_copyFrom_25 : decode cX7_copyFrom 25 = .ok (.aload_n 1, 1) := by decide +kernel
theorem dX7_copyFrom_26 : decode cX7_copyFrom 26 = .ok (.getfield 15, 3) := by decide +kernel
theorem dX7_copyFrom_29 : decode cX7_copyFrom 29 = .ok (.iload_n 2, 1) := by decide +kernel
theorem dX7_copyFrom_30 : decode cX7_copyFrom 30 = .ok (.iaload, 1) := by decide +kernel
theorem dX7_copyFrom_31 : decode cX7_copyFrom 31 = .ok (.iastore, 1) := by decide +kernel
theorem dX7_copyFrom_32 : decode cX7_copyFrom 32 = .ok (.iinc 2 1, 3) := by decide +kernel
theorem dX7_copyFrom_35 : decode cX7_copyFrom 35 = .ok (.goto (-33), 3) := by decide +kernel
theorem dX7_copyFrom_38 : decode cX7_copyFrom 38 = .ok (.aload_n 0, 1) := by decide +kernel
theorem dX7_copyFrom_39 : decode cX7_copyFrom 39 = .ok (.aload_n 1, 1) := by decide +kernel
theorem dX7_copyFrom_40 : decode cX7_copyFrom 40 = .ok (.getfield 18, 3) := by decide +kernel
theorem dX7_copyFrom_43 : decode cX7_copyFrom 43 = .ok (.putfield 18, 3) := by decide +kernel
theorem dX7_copyFrom_46 : decode cX7_copyFrom 46 = .ok (.aload_n 0, 1) := by decide +kernel
theorem dX7_copyFrom_47 : decode cX7_copyFrom 47 = .ok (.aload_n 1, 1) := by decide +kernel
theorem dX7_copyFrom_48 : decode cX7_copyFrom 48 = .ok (.getfield 22, 3) := by decide +kernel
theorem dX7_copyFrom_51 : decode cX7_copyFrom 51 = .ok (.putfield 22, 3) := by decide +kernel
theorem dX7_copyFrom_54 : decode cX7_copyFrom 54 = .ok (.aload_n 0, 1) := by decide +kernel
theorem dX7_copyFrom_55 : decode cX7_copyFrom 55 = .ok (.aload_n 1, 1) := by decide +kernel
theorem dX7_copyFrom_56 : decode cX7_copyFrom 56 = .ok (.getfield 25, 3) := by decide +kernel
theorem dX7_copyFrom_59 : decode cX7_copyFrom 59 = .ok (.putfield 25, 3) := by decide +kernel
theorem dX7_copyFrom_62 : decode cX7_copyFrom 62 = .ok (.aload_n 0, 1) := by decide +kernel
theorem dX7_copyFrom_63 : decode cX7_copyFrom 63 = .ok (.aload_n 1, 1) := by decide +kernel
theorem dX7_copyFrom_64 : decode cX7_copyFrom 64 = .ok (.getfield 28, 3) := by decide +kernel
theorem dX7_copyFrom_67 : decode cX7_copyFrom 67 = .ok (.putfield 28, 3) := by decide +kernel
theorem dX7_copyFrom_70 : decode cX7_copyFrom 70 = .ok (.return_, 1) := by decide +kernel
theorem dX7_isBetterThan_0 : decode cX7_isBetterThan 0 = .ok (.aload_n 0, 1) := by decide +kernel
theorem dX7_isBetterThan_1 : decode cX7_isBetterThan 1 = .ok (.getfield 22, 3) := by decide +kernel
theorem dX7_isBetterThan_4 : decode cX7_isBetterThan 4 = .ok (.aload_n 1, 1) := by decide +kernel
theorem dX7_isBetterThan_5 : decode cX7_isBetterThan 5 = .ok (.getfield 22, 3) := by decide +kernel
theorem dX7_isBetterThan_8 : decode cX7_isBetterThan 8 = .ok (.if_icmp .eq 20, 3) := by decide +kernel
theorem dX7_isBetterThan_11 : decode cX7_isBetterThan 11 = .ok (.aload_n 0, 1) := by decide +kernel
theorem dX7_isBetterThan_12 : decode cX7_isBetterThan 12 = .ok (.getfield 22, 3) := by decide +kernel
theorem dX7_isBetterThan_15 : decode cX7_isBetterThan 15 = .ok (.aload_n 1, 1) := by decide +kernel
theorem dX7_isBetterThan_16 : decode cX7_isBetterThan 16 = .ok (.getfield 22, 3) := by decide +kernel
theorem dX7_isBetterThan_19 : decode cX7_isBetterThan 19 = .ok (.if_icmp .ge 7, 3) := by decide +kernel
theorem dX7_isBetterThan_22 : decode cX7_isBetterThan 22 = .ok (.iconst 1, 1) := by decide +kernel
theorem dX7_isBetterThan_23 : decode cX7_isBetterThan 23 = .ok (.goto 4, 3) := by decide +kernel
theorem dX7_isBetterThan_26 : decode cX7_isBetterThan 26 = .ok (.iconst 0, 1) := by decide +kernel
theorem dX7_isBetterThan_27 : decode cX7_isBetterThan 27 = .ok (.ireturn, 1) := by decide +kernel
theorem dX7_isBetterThan_28 : decode cX7_isBetterThan 28 = .ok (.aload_n 0, 1) := by decide +kernel
theorem dX7_isBetterThan_29 : decode cX7_isBetterThan 29 = .ok (.getfield 25, 3) := by decide +kernel
theorem dX7_isBetterThan_32 : decode cX7_isBetterThan 32 = .ok (.aload_n 1, 1) := by decide +kernel
theorem dX7_isBetterThan_33 : decode cX7_isBetterThan 33 = .ok (.getfield 25, 3) := by decide +kernel
theorem dX7_isBetterThan_36 : decode cX7_isBetterThan 36 = .ok (.if_icmp .eq 20, 3) := by decide +kernel
theorem dX7_isBetterThan_39 : decode cX7_isBetterThan 39 = .ok (.aload_n 0, 1) := by decide +kernel
theorem dX7_isBetterThan_40 : decode cX7_isBetterThan 40 = .ok (.getfield 25, 3) := by decide +kernel
theorem dX7_isBetterThan_43 : decode cX7_isBetterThan 43 = .ok (.aload_n 1, 1) := by decide +kernel
theorem dX7_isBetterThan_44 : decode cX7_isBetterThan 44 = .ok (.getfield 25, 3) := by decide +kernel
theorem dX7_isBetterThan_47 : decode cX7_isBetterThan 47 = .ok (.if_icmp .ge 7, 3) := by decide +kernel
theorem dX7_isBetterThan_50 : decode cX7_isBetterThan 50 = .ok (.iconst 1, 1) := by decide +kernel
theorem dX7_isBetterThan_51 : decode cX7_isBetterThan 51 = .ok (.goto 4, 3) := by decide +kernel
theorem dX7_isBetterThan_54 : decode cX7_isBetterThan 54 = .ok (.iconst 0, 1) := by decide +kernel
theorem dX7_isBetterThan_55 : decode cX7_isBetterThan 55 = .ok (.ireturn, 1) := by decide +kernel
theorem dX7_isBetterThan_56 : decode cX7_isBetterThan 56 = .ok (.aload_n 0, 1) := by decide +kernel
theorem dX7_isBetterThan_57 : decode cX7_isBetterThan 57 = .ok (.getfield 18, 3) := by decide +kernel
theorem dX7_isBetterThan_60 : decode cX7_isBetterThan 60 = .ok (.aload_n 1, 1) := by decide +kernel
theorem dX7_isBetterThan_61 : decode cX7_isBetterThan 61 = .ok (.getfield 18, 3) := by decide +kernel
theorem dX7_isBetterThan_64 : decode cX7_isBetterThan 64 = .ok (.if_icmp .eq 20, 3) := by decide +kernel
theorem dX7_isBetterThan_67 : decode cX7_isBetterThan 67 = .ok (.aload_n 0, 1) := by decide +kernel
theorem dX7_isBetterThan_68 : decode cX7_isBetterThan 68 = .ok (.getfield 18, 3) := by decide +kernel
theorem dX7_isBetterThan_71 : decode cX7_isBetterThan 71 = .ok (.aload_n 1, 1) := by decide +kernel
theorem dX7_isBetterThan_72 : decode cX7_isBetterThan 72 = .ok (.getfield 18, 3) := by decide +kernel
theorem dX7_isBetterThan_75 : decode cX7_isBetterThan 75 = .ok (.if_icmp .ge 7, 3) := by decide +kernel
theorem dX7_isBetterThan_78 : decode cX7_isBetterThan 78 = .ok (.iconst 1, 1) := by decide +kernel
theorem dX7_isBetterThan_79 : decode cX7_isBetterThan 79 = .ok (.goto 4, 3) := by decide +kernel
theorem dX7_isBetterThan_82 : decode cX7_isBetterThan 82 = .ok (.iconst 0, 1) := by decide +kernel
theorem dX7_isBetterThan_83 : decode cX7_isBetterThan 83 = .ok (.ireturn, 1) := by decide +kernel
theorem dX7_isBetterThan_84 : decode cX7_isBetterThan 84 = .ok (.iconst 0, 1) := by decide +kernel
theorem dX7_isBetterThan_85 : decode cX7_isBetterThan 85 = .ok (.istore_n 2, 1) := by decide +kernel
theorem dX7_isBetterThan_86 : decode cX7_isBetterThan 86 = .ok (.iload_n 2, 1) := by decide +kernel
theorem dX7_isBetterThan_87 : decode cX7_isBetterThan 87 = .ok (.aload_n 0, 1) := by decide +kernel
theorem dX7_isBetterThan_88 : decode cX7_isBetterThan 88 = .ok (.getfield 18, 3) := by decide +kernel
theorem dX7_isBetterThan_91 : decode cX7_isBetterThan 91 = .ok (.if_icmp .ge 45, 3) := by decide +kernel
theorem dX7_isBetterThan_94 : decode cX7_isBetterThan 94 = .ok (.aload_n 0, 1) := by decide +kernel
theorem dX7_isBetterThan_95 : decode cX7_isBetterThan 95 = .ok (.getfield 9, 3) := by decide +kernel
theorem dX7_isBetterThan_98 : decode cX7_isBetterThan 98 = .ok (.iload_n 2, 1) := by decide +kernel
theorem dX7_isBetterThan_99 : decode cX7_isBetterThan 99 = .ok (.iaload, 1) := by decide +kernel
theorem dX7_isBetterThan_100 : decode cX7_isBetterThan 100 = .ok (.aload_n 1, 1) := by decide +kernel
theorem dX7_isBetterThan_101 : decode cX7_isBetterThan 101 = .ok (.getfield 9, 3) := by decide +kernel
theorem dX7_isBetterThan_104 : decode cX7_isBetterThan 104 = .ok (.iload_n 2, 1) := by decide +kernel
theorem dX7_isBetterThan_105 : decode cX7_isBetterThan 105 = .ok (.iaload, 1) := by decide +kernel
theorem dX7_isBetterThan_106 : decode cX7_isBetterThan 106 = .ok (.if_icmp .eq 24, 3) := by decide +kernel
theorem dX7_isBetterThan_109 : decode cX7_isBetterThan 109 = .ok (.aload_n 0, 1) := by decide +kernel
theorem dX7_isBetterThan_110 : decode cX7_isBetterThan 110 = .ok (.getfield 9, 3) := by decide +kernel
theorem dX7_isBetterThan_113 : decode cX7_isBetterThan 113 = .ok (.iload_n 2, 1) := by decide +kernel
theorem dX7_isBetterThan_114 : decode cX7_isBetterThan 114 = .ok (.iaload, 1) := by decide +kernel
theorem dX7_isBetterThan_115 : decode cX7_isBetterThan 115 = .ok (.aload_n 1, 1) := by decide +kernel
theorem dX7_isBetterThan_116 : decode cX7_isBetterThan 116 = .ok (.getfield 9, 3) := by decide +kernel
theorem dX7_isBetterThan_119 : decode cX7_isBetterThan 119 = .ok (.iload_n 2, 1) := by decide +kernel
theorem dX7_isBetterThan_120 : decode cX7_isBetterThan 120 = .ok (.iaload, 1) := by decide +kernel
theorem dX7_isBetterThan_121 : decode cX7_isBetterThan 121 = .ok (.if_icmp .ge 7, 3) := by decide +kernel
theorem dX7_isBetterThan_124 : decode cX7_isBetterThan 124 = .ok (.iconst 1, 1) := by decide +kernel
theorem dX7_isBetterThan_125 : decode cX7_isBetterThan 125 = .ok (.goto 4, 3) := by decide +kernel
theorem dX7_isBetterThan_128 : decode cX7_isBetterThan 128 = .ok (.iconst 0, 1) := by decide +kernel
theorem dX7_isBetterThan_129 : decode cX7_isBetterThan 129 = .ok (.ireturn, 1) := by decide +kernel
theorem dX7_isBetterThan_130 : decode cX7_isBetterThan 130 = .ok (.iinc 2 1, 3) := by decide +kernel
theorem dX7_isBetterThan_133 : decode cX7_isBetterThan 133 = .ok (.goto (-47), 3) := by decide +kernel
theorem dX7_isBetterThan_136 : decode cX7_isBetterThan 136 = .ok (.iconst 0, 1) := by decide +kernel
theorem dX7_isBetterThan_137 : decode cX7_isBetterThan 137 = .ok (.ireturn, 1) := by decide +kernel
theorem dX7_collectRoads_0 : decode cX7_collectRoads 0 = .ok (.aload_n 0, 1) := by decide +kernel
theorem dX7_collectRoads_1 : decode cX7_collectRoads 1 = .ok (.iconst 0, 1) := by decide +kernel
theorem dX7_collectRoads_2 : decode cX7_collectRoads 2 = .ok (.putfield 28, 3) := by decide +kernel
theorem dX7_collectRoads_5 : decode cX7_collectRoads 5 = .ok (.iconst 0, 1) := by decide +kernel
theorem dX7_collectRoads_6 : decode cX7_collectRoads 6 = .ok (.istore_n 1, 1) := by decide +kernel
theorem dX7_collectRoads_7 : decode cX7_collectRoads 7 = .ok (.iload_n 1, 1) := by decide +kernel
theorem dX7_collectRoads_8 : decode cX7_collectRoads 8 = .ok (.aload_n 0, 1) := by decide +kernel
theorem dX7_collectRoads_9 : decode cX7_collectRoads 9 = .ok (.getfield 18, 3) := by decide +kernel
theorem dX7_collectRoads_12 : decode cX7_collectRoads 12 = .ok (.if_icmp .ge 26, 3) := by decide +kernel
theorem dX7_collectRoads_15 : decode cX7_collectRoads 15 = .ok (.aload_n 0, 1) := by decide +kernel
theorem dX7_collectRoads_16 : decode cX7_collectRoads 16 = .ok (.dup, 1) := by decide +kernel
theorem dX7_collectRoads_17 : decode cX7_collectRoads 17 = .ok (.getfield 28, 3) := by decide +kernel
theorem dX7_collectRoads_20 : decode cX7_collectRoads 20 = .ok (.iconst 1, 1) := by decide +kernel
theorem dX7_collectRoads_21 : decode cX7_collectRoads 21 = .ok (.aload_n 0, 1) := by decide +kernel
theorem dX7_collectRoads_22 : decode cX7_collectRoads 22 = .ok (.getfield 9, 3) := by decide +kernel
theorem dX7_collectRoads_25 : decode cX7_collectRoads 25 = .ok (.iload_n 1, 1) := by decide +kernel
theorem dX7_collectRoads_26 : decode cX7_collectRoads 26 = .ok (.iaload, 1) := by decide +kernel
theorem dX7_collectRoads_27 : decode cX7_collectRoads 27 = .ok (.ishl, 1) := by decide +kernel
theorem dX7_collectRoads_28 : decode cX7_collectRoads 28 = .ok (.ior, 1) := by decide +kernel
theorem dX7_collectRoads_29 : decode cX7_collectRoads 29 = .ok (.putfield 28, 3) := by decide +kernel
theorem dX7_collectRoads_32 : decode cX7_collectRoads 32 = .ok (.iinc 1 1, 3) := by decide +kernel
theorem dX7_collectRoads_35 : decode cX7_collectRoads 35 = .ok (.goto (-28), 3) := by decide +kernel
theorem dX7_collectRoads_38 : decode cX7_collectRoads 38 = .ok (.return_, 1) := by decide +kernel
theorem dX8_init_0 : decode cX8_init 0 = .ok (.aload_n 0, 1) := by decide +kernel
theorem dX8_init_1 : decode cX8_init 1 = .ok (.invokespecial 1, 3) := by decide +kernel
theorem dX8_init_4 : decode cX8_init 4 = .ok (.aload_n 0, 1) := by decide +kernel
theorem dX8_init_5 : decode cX8_init 5 = .ok (.iconst 4, 1) := by decide +kernel
theorem dX8_init_6 : decode cX8_init 6 = .ok (.newarray .long, 2) := by decide +kernel
theorem dX8_init_8 : decode cX8_init 8 = .ok (.putfield 9, 3) := by decide +kernel
theorem dX8_init_11 : decode cX8_init 11 = .ok (.return_, 1) := by decide +kernel
theorem dX8_setTo_0 : decode cX8_setTo 0 = .ok (.iconst 1, 1) := by decide +kernel
theorem dX8_setTo_1 : decode cX8_setTo 1 = .ok (.istore_n 3, 1) := by decide +kernel
theorem dX8_setTo_2 : decode cX8_setTo 2 = .ok (.iload_n 3, 1) := by decide +kernel
theorem dX8_setTo_3 : decode cX8_setTo 3 = .ok (.iconst 4, 1) := by decide +kernel
theorem dX8_setTo_4 : decode cX8_setTo 4 = .ok (.if_icmp .ge 16, 3) := by decide +kernel
theorem dX8_setTo_7 : decode cX8_setTo 7 = .ok (.aload_n 0, 1) := by decide +kernel
theorem dX8_setTo_8 : decode cX8_setTo 8 = .ok (.getfield 9, 3) := by decide +kernel
theorem dX8_setTo_11 : decode cX8_setTo 11 = .ok (.iload_n 3, 1) := by decide +kernel
theorem dX8_setTo_12 : decode cX8_setTo 12 = .ok (.lconst 0, 1) := by decide +kernel
theorem dX8_setTo_13 : decode cX8_setTo 13 = .ok (.lastore, 1) := by decide +kernel
theorem dX8_setTo_14 : decode cX8_setTo 14 = .ok (.iinc 3 1, 3) := by decide +kernel
theorem dX8_setTo_17 : decode cX8_setTo 17 = .ok (.goto (-15), 3) := by decide +kernel
theorem dX8_setTo_20 : decode cX8_setTo 20 = .ok (.aload_n 0, 1) := by decide +kernel
theorem dX8_setTo_21 : decode cX8_setTo 21 = .ok (.getfield 9, 3) := by decide +kernel
theorem dX8_setTo_24 : decode cX8_setTo 24 = .ok (.iconst 0, 1) := by decide +kernel
theorem dX8_setTo_25 : decode cX8_setTo 25 = .ok (.lload_n 1, 1) := by decide +kernel
theorem dX8_setTo_26 : decode cX8_setTo 26 = .ok (.lastore, 1) := by decide +kernel
theorem dX8_setTo_27 : decode cX8_setTo 27 = .ok (.return_, 1) := by decide +kernel
theorem dX8_copyFrom_0 : decode cX8_copyFrom 0 = .ok (.iconst 0, 1) := by decide +kernel
theorem dX8_copyFrom_1 : decode cX8_copyFrom 1 = .ok (.istore_n 2, 1) := by decide +kernel
theorem dX8_copyFrom_2 : decode cX8_copyFrom 2 = .ok (.iload_n 2, 1) := by decide +kernel
theorem dX8_copyFrom_3 : decode cX8_copyFrom 3 = .ok (.iconst 4, 1) := by decide +kernel
theorem dX8_copyFrom_4 : decode cX8_copyFrom 4 = .ok (.if_icmp .ge 21, 3) := by decide +kernel
theorem dX8_copyFrom_7 : decode cX8_copyFrom 7 = .ok (.aload_n 0, 1) := by decide +kernel
theorem dX8_copyFrom_8 : decode cX8_copyFrom 8 = .ok (.getfield 9, 3) := by decide +kernel
theorem dX8_copyFrom_11 : decode cX8_copyFrom 11 = .ok (.iload_n 2, 1) := by decide +kernel
theorem dX8_copyFrom_12 : decode cX8_copyFrom 12 = .ok (.aload_n 1, 1) := by decide +kernel
theorem dX8_copyFrom_13 : decode cX8_copyFrom 13 = .ok (.getfield 9, 3) := by decide +kernel
theorem dX8_copyFrom_16 : decode cX8_copyFrom 16 = .ok (.iload_n 2, 1) := by decide +kernel
theorem dX8_copyFrom_17 : decode cX8_copyFrom 17 = .ok (.laload, 1) := by decide +kernel
theorem dX8_copyFrom_18 : decode cX8_copyFrom 18 = .ok (.lastore, 1) := by decide +kernel
theorem dX8_copyFrom_19 : decode cX8_copyFrom 19 = .ok (.iinc 2 1, 3) := by decide +kernel
theorem dX8_copyFrom_22 : decode cX8_copyFrom 22 = .ok (.goto (-20), 3) := by decide +kernel
theorem dX8_copyFrom_25 : decode cX8_copyFrom 25 = .ok (.return_, 1) := by decide +kernel
theorem dX8_compareWith_0 : decode cX8_compareWith 0 = .ok (.iconst 3, 1) := by decide +kernel
theorem dX8_compareWith_1 : decode cX8_compareWith 1 = .ok (.istore_n 2, 1) := by decide +kernel
theorem dX8_compareWith_2 : decode cX8_compareWith 2 = .ok (.iload_n 2, 1) := by decide +kernel
theorem dX8_compareWith_3 : decode cX8_compareWith 3 = .ok (.ifCond .lt 47, 3) := by decide +kernel
theorem dX8_compareWith_6 : decode cX8_compareWith 6 = .ok (.aload_n 0, 1) := by decide +kernel
theorem dX8_compareWith_7 : decode cX8_compareWith 7 = .ok (.getfield 9, 3) := by decide +kernel
theorem dX8_compareWith_10 : decode cX8_compareWith 10 = .ok (.iload_n 2, 1) := by decide +kernel
theorem dX8_compareWith_11 : decode cX8_compareWith 11 = .ok (.laload, 1) := by decide +kernel
theorem dX8_compareWith_12 : decode cX8_compareWith 12 = .ok (.aload_n 1, 1) := by decide +kernel
theorem dX8_compareWith_13 : decode cX8_compareWith 13 = .ok (.getfield 9, 3) := by decide +kernel
theorem dX8_compareWith_16 : decode cX8_compareWith 16 = .ok (.iload_n 2, 1) := by decide +kernel
theorem dX8_compareWith_17 : decode cX8_compareWith 17 = .ok (.laload, 1) := by decide +kernel
theorem dX8_compareWith_18 : decode cX8_compareWith 18 = .ok (.lcmp, 1) := by decide +kernel
theorem dX8_compareWith_19 : decode cX8_compareWith 19 = .ok (.ifCond .eq 25, 3) := by decide +kernel
theorem dX8_compareWith_22 : decode cX8_compareWith 22 = .ok (.aload_n 0, 1) := by decide +kernel
theorem dX8_compareWith_23 : decode cX8_compareWith 23 = .ok (.getfield 9, 3) := by decide +kernel
theorem dX8_compareWith_26 : decode cX8_compareWith 26 = .ok (.iload_n 2, 1) := by decide +kernel
theorem dX8_compareWith_27 : decode cX8_compareWith 27 = .ok (.laload, 1) := by decide +kernel
theorem dX8_compareWith_28 : decode cX8_compareWith 28 = .ok (.aload_n 1, 1) := by decide +kernel
theorem dX8_compareWith_29 : decode cX8_compareWith 29 = .ok (.getfield 9, 3) := by decide +kernel
theorem dX8_compareWith_32 : decode cX8_compareWith 32 = .ok (.iload_n 2, 1) := by decide +kernel
theorem dX8_compareWith_33 : decode cX8_compareWith 33 = .ok (.laload, 1) := by decide +kernel
theorem dX8_compareWith_34 : decode cX8_compareWith 34 = .ok (.lcmp, 1) := by decide +kernel
theorem dX8_compareWith_35 : decode cX8_compareWith 35 = .ok (.ifCond .ge 7, 3) := by decide +kernel
theorem dX8_compareWith_38 : decode cX8_compareWith 38 = .ok (.iconst (-1), 1) := by decide +kernel
theorem dX8_compareWith_39 : decode cX8_compareWith 39 = .ok (.goto 4, 3) := by decide +kernel
theorem dX8_compareWith_42 : decode cX8_compareWith 42 = .ok (.iconst 1, 1) := by decide +kernel
theorem dX8_compareWith_43 : decode cX8_compareWith 43 = .ok (.ireturn, 1) := by decide +kernel
theorem dX8_compareWith_44 : decode cX8_compareWith 44 = .ok (.iinc 2 (-1), 3) := by decide +kernel
theorem dX8_compareWith_47 : decode cX8_compareWith 47 = .ok (.goto (-45), 3) := by decide +kernel
theorem dX8_compareWith_50 : decode cX8_compareWith 50 = .ok (.iconst 0, 1) := by decide +kernel
theorem dX8_compareWith_51 : decode cX8_compareWith 51 = .ok (.ireturn, 1) := by decide +kernel
set_option maxRecDepth 20000 in
theorem ggX8_addProduct_X8_addShifted : GoodIn wsX8_addProduct wsX8_addShifted := goodIn_r _ [6, 7, 1, 8] (by decide +kernel) (by decide +kernel)
set_option maxRecDepth 20000 in
theorem gX8_addProduct_X8_addShifted : GoodIn wsX8_addProduct (wsV RX8 15 RX8 yX8_addShifted wsX8_addShifted) := goodIn_app (goodIn_of _ (by decide +kernel)) ggX8_addProduct_X8_addShifted
theorem dX8_addProduct_0 : decode cX8_addProduct 0 = .ok (.lload_n 1, 1) := by decide +kernel
theorem dX8_addProduct_1 : decode cX8_addProduct 1 = .ok (.lstore 5, 2) := by decide +kernel
theorem dX8_addProduct_3 : decode cX8_addProduct 3 = .ok (.iconst 0, 1) := by decide +kernel
theorem dX8_addProduct_4 : decode cX8_addProduct 4 = .ok (.istore 7, 2) := by decide +kernel
theorem dX8_addProduct_6 : decode cX8_addProduct 6 = .ok (.iload 7, 2) := by decide +kernel
theorem dX8_addProduct_8 : decode cX8_addProduct 8 = .ok (.iconst 3, 1) := by decide +kernel
theorem dX8_addProduct_9 : decode cX8_addProduct 9 = .ok (.if_icmp .ge 30, 3) := by decide +kernel
theorem dX8_addProduct_12 : decode cX8_addProduct 12 = .ok (.aload_n 0, 1) := by decide +kernel
theorem dX8_addProduct_13 : decode cX8_addProduct 13 = .ok (.lload_n 3, 1) := by decide +kernel
theorem dX8_addProduct_14 : decode cX8_addProduct 14 = .ok (.lload 5, 2) := by decide +kernel
theorem dX8_addProduct_16 : decode cX8_addProduct 16 = .ok (.ldc2_w 13, 3) := by decide +kernel
theorem dX8_addProduct_19 : decode cX8_addProduct 19 = .ok (.lrem, 1) := by decide +kernel
theorem dX8_addProduct_20 : decode cX8_addProduct 20 = .ok (.iload 7, 2) := by decide +kernel
theorem dX8_addProduct_22 : decode cX8_addProduct 22 = .ok (.invokevirtual 15, 3) := by decide +kernel
theorem dX8_addProduct_25 : decode cX8_addProduct 25 = .ok (.lload 5, 2) := by decide +kernel
theorem dX8_addProduct_27 : decode cX8_addProduct 27 = .ok (.ldc2_w 13, 3) := by decide +kernel
theorem dX8_addProduct_30 : decode cX8_addProduct 30 = .ok (.ldiv, 1) := by decide +kernel
theorem dX8_addProduct_31 : decode cX8_addProduct 31 = .ok (.lstore 5, 2) := by decide +kernel
theorem dX8_addProduct_33 : decode cX8_addProduct 33 = .ok (.iinc 7 1, 3) := by decide +kernel
theorem dX8_addProduct_36 : decode cX8_addProduct 36 = .ok (.goto (-30), 3) := by decide +kernel
theorem dX8_addProduct_39 : decode cX8_addProduct 39 = .ok (.return_, 1) := by decide +kernel
theorem dX8_addShifted_0 : decode cX8_addShifted 0 = .ok (.lload_n 1, 1) := by decide +kernel
theorem dX8_addShifted_1 : decode cX8_addShifted 1 = .ok (.lstore 6, 2) := by decide +kernel
theorem dX8_addShifted_3 : decode cX8_addShifted 3 = .ok (.lconst 0, 1) := by decide +kernel
theorem dX8_addShifted_4 : decode cX8_addShifted 4 = .ok (.lstore 8, 2) := by decide +kernel
theorem dX8_addShifted_6 : decode cX8_addShifted 6 = .ok (.iload 5, 2) := by decide +kernel
theorem dX8_addShifted_8 : decode cX8_addShifted 8 = .ok (.istore 10, 2) := by decide +kernel
theorem dX8_addShifted_10 : decode cX8_addShifted 10 = .ok (.iload 10, 2) := by decide +kernel
theorem dX8_addShifted_12 : decode cX8_addShifted 12 = .ok (.iconst 4, 1) := by decide +kernel
theorem dX8_addShifted_13 : decode cX8_addShifted 13 = .ok (.if_icmp .ge 59, 3) := by decide +kernel
theorem dX8_addShifted_16 : decode cX8_addShifted 16 = .ok (.aload_n 0, 1) := by decide +kernel
theorem dX8_addShifted_17 : decode cX8_addShifted 17 = .ok (.getfield 9, 3) := by decide +kernel
theorem dX8_addShifted_20 : decode cX8_addShifted 20 = .ok (.iload 10, 2) := by decide +kernel
theorem dX8_addShifted_22 : decode cX8_addShifted 22 = .ok (.laload, 1) := by decide +kernel
theorem dX8_addShifted_23 : decode cX8_addShifted 23 = .ok (.lload 6, 2) := by decide +kernel
theorem dX8_addShifted_25 : decode cX8_addShifted 25 = .ok (.ldc2_w 13, 3) := by decide +kernel
theorem dX8_addShifted_28 : decode cX8_addShifted 28 = .ok (.lrem, 1) := by decide +kernel
theorem dX8_addShifted_29 : decode cX8_addShifted 29 = .ok (.lload_n 3, 1) := by decide +kernel
theorem dX8_addShifted_30 : decode cX8_addShifted 30 = .ok (.lmul, 1) := by decide +kernel
theorem dX8_addShifted_31 : decode cX8_addShifted 31 = .ok (.ladd, 1) := by decide +kernel
theorem dX8_addShifted_32 : decode cX8_addShifted 32 = .ok (.lload 8, 2) := by decide +kernel
theorem dX8_addShifted_34 : decode cX8_addShifted 34 = .ok (.ladd, 1) := by decide +kernel
theorem dX8_addShifted_35 : decode cX8_addShifted 35 = .ok (.lstore 11, 2) := by decide +kernel
theorem dX8_addShifted_37 : decode cX8_addShifted 37 = .ok (.aload_n 0, 1) := by decide +kernel
theorem dX8_addShifted_38 : decode cX8_addShifted 38 = .ok (.getfield 9, 3) := by decide +kernel
theorem dX8_addShifted_41 : decode cX8_addShifted 41 = .ok (.iload 10, 2) := by decide +kernel
theorem dX8_addShifted_43 : decode cX8_addShifted 43 = .ok (.lload 11, 2) := by decide +kernel
theorem dX8_addShifted_45 : decode cX8_addShifted 45 = .ok (.ldc2_w 13, 3) := by decide +kernel
theorem dX8_addShifted_48 : decode cX8_addShifted 48 = .ok (.lrem, 1) := by decide +kernel
theorem dX8_addShifted_49 : decode cX8_addShifted 49 = .ok (.lastore, 1) := by decide +kernel
theorem dX8_addShifted_50 : decode cX8_addShifted 50 = .ok (.lload 11, 2) := by decide +kernel
theorem dX8_addShifted_52 : decode cX8_addShifted 52 = .ok (.ldc2_w 13, 3) := by decide +kernel
theorem dX8_addShifted_55 : decode cX8_addShifted 55 = .ok (.ldiv, 1) := by decide +kernel
theorem dX8_addShifted_56 : decode cX8_addShifted 56 = .ok (.lstore 8, 2) := by decide +kernel
theorem dX8_addShifted_58 : decode cX8_addShifted 58 = .ok (.lload 6, 2) := by decide +kernel
theorem dX8_addShifted_60 : decode cX8_addShifted 60 = .ok (.ldc2_w 13, 3) := by decide +kernel
theorem dX8_addShifted_63 : decode cX8_addShifted 63 = .ok (.ldiv, 1) := by decide +kernel
theorem dX8_addShifted_64 : decode cX8_addShifted 64 = .ok (.lstore 6, 2) := by decide +kernel
theorem dX8_addShifted_66 : decode cX8_addShifted 66 = .ok (.iinc 10 1, 3) := by decide +kernel
theorem dX8_addShifted_69 : decode cX8_addShifted 69 = .ok (.goto (-59), 3) := by decide +kernel
theorem dX8_addShifted_72 : decode cX8_addShifted 72 = .ok (.return_, 1) := by decide +kernel
theorem dX8_subtract_0 : decode cX8_subtract 0 = .ok (.lconst 0, 1) := by decide +kernel
theorem dX8_subtract_1 : decode cX8_subtract 1 = .ok (.lstore_n 2, 1) := by decide +kernel
theorem dX8_subtract_2 : decode cX8_subtract 2 = .ok (.iconst 0, 1) := by decide +kernel
theorem dX8_subtract_3 : decode cX8_subtract 3 = .ok (.istore 4, 2) := by decide +kernel
theorem dX8_subtract_5 : decode cX8_subtract 5 = .ok (.iload 4, 2) := by decide +kernel
theorem dX8_subtract_7 : decode cX8_subtract 7 = .ok (.iconst 4, 1) := by decide +kernel
theorem dX8_subtract_8 : decode cX8_subtract 8 = .ok (.if_icmp .ge 56, 3) := by decide +kernel
theorem dX8_subtract_11 : decode cX8_subtract 11 = .ok (.aload_n 0, 1) := by decide +kernel
theorem dX8_subtract_12 : decode cX8_subtract 12 = .ok (.getfield 9, 3) := by decide +kernel
theorem dX8_subtract_15 : decode cX8_subtract 15 = .ok (.iload 4, 2) := by decide +kernel
theorem dX8_subtract_17 : decode cX8_subtract 17 = .ok (.laload, 1) := by decide +kernel
theorem dX8_subtract_18 : decode cX8_subtract 18 = .ok (.aload_n 1, 1) := by decide +kernel
theorem dX8_subtract_19 : decode cX8_subtract 19 = .ok (.getfield 9, 3) := by decide +kernel
theorem dX8_subtract_22 : decode cX8_subtract 22 = .ok (.iload 4, 2) := by decide +kernel
theorem dX8_subtract_24 : decode cX8_subtract 24 = .ok (.laload, 1) := by decide +kernel
theorem dX8_subtract_25 : decode cX8_subtract 25 = .ok (.lsub, 1) := by decide +kernel
theorem dX8_subtract_26 : decode cX8_subtract 26 = .ok (.lload_n 2, 1) := by decide +kernel
theorem dX8_subtract_27 : decode cX8_subtract 27 = .ok (.lsub, 1) := by decide +kernel
theorem dX8_subtract_28 : decode cX8_subtract 28 = .ok (.lstore 5, 2) := by decide +kernel
theorem dX8_subtract_30 : decode cX8_subtract 30 = .ok (.lload 5, 2) := by decide +kernel
theorem dX8_subtract_32 : decode cX8_subtract 32 = .ok (.lconst 0, 1) := by decide +kernel
theorem dX8_subtract_33 : decode cX8_subtract 33 = .ok (.lcmp, 1) := by decide +kernel
theorem dX8_subtract_34 : decode cX8_subtract 34 = .ok (.ifCond .ge 7, 3) := by decide +kernel
theorem dX8_subtract_37 : decode cX8_subtract 37 = .ok (.lconst 1, 1) := by decide +kernel
theorem dX8_subtract_38 : decode cX8_subtract 38 = .ok (.goto 4, 3) := by decide +kernel
theorem dX8_subtract_41 : decode cX8_subtract 41 = .ok (.lconst 0, 1) := by decide +kernel
theorem dX8_subtract_42 : decode cX8_subtract 42 = .ok (.lstore_n 2, 1) := by decide +kernel
theorem dX8_subtract_43 : decode cX8_subtract 43 = .ok (.aload_n 0, 1) := by decide +kernel
theorem dX8_subtract_44 : decode cX8_subtract 44 = .ok (.getfield 9, 3) := by decide +kernel
theorem dX8_subtract_47 : decode cX8_subtract 47 = .ok (.iload 4, 2) := by decide +kernel
theorem dX8_subtract_49 : decode cX8_subtract 49 = .ok (.lload 5, 2) := by decide +kernel
theorem dX8_subtract_51 : decode cX8_subtract 51 = .ok (.lload_n 2, 1) := by decide +kernel
theorem dX8_subtract_52 : decode cX8_subtract 52 = .ok (.ldc2_w 13, 3) := by decide +kernel
theorem dX8_subtract_55 : decode cX8_subtract 55 = .ok (.lmul, 1) := by decide +kernel
theorem dX8_subtract_56 : decode cX8_subtract 56 = .ok (.ladd, 1) := by decide +kernel
theorem dX8_subtract_57 : decode cX8_subtract 57 = .ok (.lastore, 1) := by decide +kernel
theorem dX8_subtract_58 : decode cX8_subtract 58 = .ok (.iinc 4 1, 3) := by decide +kernel
theorem dX8_subtract_61 : decode cX8_subtract 61 = .ok (.goto (-56), 3) := by decide +kernel
theorem dX8_subtract_64 : decode cX8_subtract 64 = .ok (.return_, 1) := by decide +kernel
theorem dX8_multiply_0 : decode cX8_multiply 0 = .ok (.lconst 0, 1) := by decide +kernel
theorem dX8_multiply_1 : decode cX8_multiply 1 = .ok (.lstore_n 3, 1) := by decide +kernel
theorem dX8_multiply_2 : decode cX8_multiply 2 = .ok (.iconst 0, 1) := by decide +kernel
theorem dX8_multiply_3 : decode cX8_multiply 3 = .ok (.istore 5, 2) := by decide +kernel
theorem dX8_multiply_5 : decode cX8_multiply 5 = .ok (.iload 5, 2) := by decide +kernel
theorem dX8_multiply_7 : decode cX8_multiply 7 = .ok (.iconst 4, 1) := by decide +kernel
theorem dX8_multiply_8 : decode cX8_multiply 8 = .ok (.if_icmp .ge 42, 3) := by decide +kernel
theorem dX8_multiply_11 : decode cX8_multiply 11 = .ok (.aload_n 0, 1) := by decide +kernel
theorem dX8_multiply_12 : decode cX8_multiply 12 = .ok (.getfield 9, 3) := by decide +kernel
theorem dX8_multiply_15 : decode cX8_multiply 15 = .ok (.iload 5, 2) := by decide +kernel
theorem dX8_multiply_17 : decode cX8_multiply 17 = .ok (.laload, 1) := by decide +kernel
theorem dX8_multiply_18 : decode cX8_multiply 18 = .ok (.lload_n 1, 1) := by decide +kernel
theorem dX8_multiply_19 : decode cX8_multiply 19 = .ok (.lmul, 1) := by decide +kernel
theorem dX8_multiply_20 : decode cX8_multiply 20 = .ok (.lload_n 3, 1) := by decide +kernel
theorem dX8_multiply_21 : decode cX8_multiply 21 = .ok (.ladd, 1) := by decide +kernel
theorem dX8_multiply_22 : decode cX8_multiply 22 = .ok (.lstore 6, 2) := by decide +kernel
theorem dX8_multiply_24 : decode cX8_multiply 24 = .ok (.aload_n 0, 1) := by decide +kernel
theorem dX8_multiply_25 : decode cX8_multiply 25 = .ok (.getfield 9, 3) := by decide +kernel
theorem dX8_multiply_28 : decode cX8_multiply 28 = .ok (.iload 5, 2) := by decide +kernel
theorem dX8_multiply_30 : decode cX8_multiply 30 = .ok (.lload 6, 2) := by decide +kernel
theorem dX8_multiply_32 : decode cX8_multiply 32 = .ok (.ldc2_w 13, 3) := by decide +kernel
theorem dX8_multiply_35 : decode cX8_multiply 35 = .ok (.lrem, 1) := by decide +kernel
theorem dX8_multiply_36 : decode cX8_multiply 36 = .ok (.lastore, 1) := by decide +kernel
theorem dX8_multiply_37 : decode cX8_multiply 37 = .ok (.lload 6, 2) := by decide +kernel
theorem dX8_multiply_39 : decode cX8_multiply 39 = .ok (.ldc2_w 13, 3) := by decide +kernel
theorem dX8_multiply_42 : decode cX8_multiply 42 = .ok (.ldiv, 1) := by decide +kernel
theorem dX8_multiply_43 : decode cX8_multiply 43 = .ok (.lstore_n 3, 1) := by decide +kernel
theorem dX8_multiply_44 : decode cX8_multiply 44 = .ok (.iinc 5 1, 3) := by decide +kernel
theorem dX8_multiply_47 : decode cX8_multiply 47 = .ok (.goto (-42), 3) := by decide +kernel
theorem dX8_multiply_50 : decode cX8_multiply 50 = .ok (.return_, 1) := by decide +kernel
theorem dX8_divide_0 : decode cX8_divide 0 = .ok (.lload_n 1, 1) := by decide +kernel
theorem dX8_divide_1 : decode cX8_divide 1 = .ok (.lconst 1, 1) := by decide +kernel
theorem dX8_divide_2 : decode cX8_divide 2 = .ok (.lcmp, 1) := by decide +kernel
theorem dX8_divide_3 : decode cX8_divide 3 = .ok (.ifCond .ge 4, 3) := by decide +kernel
theorem dX8_divide_6 : decode cX8_divide 6 = .ok (.return_, 1) := by decide +kernel
theorem dX8_divide_7 : decode cX8_divide 7 = .ok (.lconst 0, 1) := by decide +kernel
theorem dX8_divide_8 : decode cX8_divide 8 = .ok (.lstore_n 3, 1) := by decide +kernel
theorem dX8_divide_9 : decode cX8_divide 9 = .ok (.iconst 3, 1) := by decide +kernel
theorem dX8_divide_10 : decode cX8_divide 10 = .ok (.istore 5, 2) := by decide +kernel
theorem dX8_divide_12 : decode cX8_divide 12 = .ok (.iload 5, 2) := by decide +kernel
theorem dX8_divide_14 : decode cX8_divide 14 = .ok (.ifCond .lt 40, 3) := by decide +kernel
theorem dX8_divide_17 : decode cX8_divide 17 = .ok (.lload_n 3, 1) := by decide +kernel
theorem dX8_divide_18 : decode cX8_divide 18 = .ok (.ldc2_w 13, 3) := by decide +kernel
theorem dX8_divide_21 : decode cX8_divide 21 = .ok (.lmul, 1) := by decide +kernel
theorem dX8_divide_22 : decode cX8_divide 22 = .ok (.aload_n 0, 1) := by decide +kernel
theorem dX8_divide_23 : decode cX8_divide 23 = .ok (.getfield 9, 3) := by decide +kernel
theorem dX8_divide_26 : decode cX8_divide 26 = .ok (.iload 5, 2) := by decide +kernel
theorem dX8_divide_28 : decode cX8_divide 28 = .ok (.laload, 1) := by decide +kernel
theorem dX8_divide_29 : decode cX8_divide 29 = .ok (.ladd, 1) := by decide +kernel
theorem dX8_divide_30 : decode cX8_divide 30 = .ok (.lstore 6, 2) := by decide +kernel
theorem dX8_divide_32 : decode cX8_divide 32 = .ok (.aload_n 0, 1) := by decide +kernel
theorem dX8_divide_33 : decode cX8_divide 33 = .ok (.getfield 9, 3) := by decide +kernel
theorem dX8_divide_36 : decode cX8_divide 36 = .ok (.iload 5, 2) := by decide +kernel
theorem dX8_divide_38 : decode cX8_divide 38 = .ok (.lload 6, 2) := by decide +kernel
theorem dX8_divide_40 : decode cX8_divide 40 = .ok (.lload_n 1, 1) := by decide +kernel
theorem dX8_divide_41 : decode cX8_divide 41 = .ok (.ldiv, 1) := by decide +kernel
theorem dX8_divide_42 : decode cX8_divide 42 = .ok (.lastore, 1) := by decide +kernel
theorem dX8_divide_43 : decode cX8_divide 43 = .ok (.lload 6, 2) := by decide +kernel
theorem dX8_divide_45 : decode cX8_divide 45 = .ok (.lload_n 1, 1) := by decide +kernel
theorem dX8_divide_46 : decode cX8_divide 46 = .ok (.lrem, 1) := by decide +kernel
theorem dX8_divide_47 : decode cX8_divide 47 = .ok (.lstore_n 3, 1) := by decide +kernel
theorem dX8_divide_48 : decode cX8_divide 48 = .ok (.iinc 5 (-1), 3) := by decide +kernel
theorem dX8_divide_51 : decode cX8_divide 51 = .ok (.goto (-39), 3) := by decide +kernel
theorem dX8_divide_54 : decode cX8_divide 54 = .ok (.return_, 1) := by decide +kernel
theorem dX8_remainder_0 : decode cX8_remainder 0 = .ok (.lload_n 1, 1) := by decide +kernel
theorem dX8_remainder_1 : decode cX8_remainder 1 = .ok (.lconst 1, 1) := by decide +kernel
theorem dX8_remainder_2 : decode cX8_remainder 2 = .ok (.lcmp, 1) := by decide +kernel
theorem dX8_remainder_3 : decode cX8_remainder 3 = .ok (.ifCond .ge 5, 3) := by decide +kernel
theorem dX8_remainder_6 : decode cX8_remainder 6 = .ok (.lconst 0, 1) := by decide +kernel
theorem dX8_remainder_7 : decode cX8_remainder 7 = .ok (.lreturn, 1) := by decide +kernel
theorem dX8_remainder_8 : decode cX8_remainder 8 = .ok (.lconst 0, 1) := by decide +kernel
theorem dX8_remainder_9 : decode cX8_remainder 9 = .ok (.lstore_n 3, 1) := by decide +kernel
theorem dX8_remainder_10 : decode cX8_remainder 10 = .ok (.iconst 3, 1) := by decide +kernel
theorem dX8_remainder_11 : decode cX8_remainder 11 = .ok (.istore 5, 2) := by decide +kernel
theorem dX8_remainder_13 : decode cX8_remainder 13 = .ok (.iload 5, 2) := by decide +kernel
theorem dX8_remainder_15 : decode cX8_remainder 15 = .ok (.ifCond .lt 25, 3) := by decide +kernel
theorem dX8_remainder_18 : decode cX8_remainder 18 = .ok (.lload_n 3, 1) := by decide +kernel
theorem dX8_remainder_19 : decode cX8_remainder 19 = .ok (.ldc2_w 13, 3) := by decide +kernel
theorem dX8_remainder_22 : decode cX8_remainder 22 = .ok (.lmul, 1) := by decide +kernel
theorem dX8_remainder_23 : decode cX8_remainder 23 = .ok (.aload_n 0, 1) := by decide +kernel
theorem dX8_remainder_24 : decode cX8_remainder 24 = .ok (.getfield 9, 3) := by decide +kernel
theorem dX8_remainder_27 : decode cX8_remainder 27 = .ok (.iload 5, 2) := by decide +kernel
theorem dX8_remainder_29 : decode cX8_remainder 29 = .ok (.laload, 1) := by decide +kernel
theorem dX8_remainder_30 : decode cX8_remainder 30 = .ok (.ladd, 1) := by decide +kernel
theorem dX8_remainder_31 : decode cX8_remainder 31 = .ok (.lload_n 1, 1) := by decide +kernel
theorem dX8_remainder_32 : decode cX8_remainder 32 = .ok (.lrem, 1) := by decide +kernel
theorem dX8_remainder_33 : decode cX8_remainder 33 = .ok (.lstore_n 3, 1) := by decide +kernel
theorem dX8_remainder_34 : decode cX8_remainder 34 = .ok (.iinc 5 (-1), 3) := by decide +kernel
theorem dX8_remainder_37 : decode cX8_remainder 37 = .ok (.goto (-24), 3) := by decide +kernel
theorem dX8_remainder_40 : decode cX8_remainder 40 = .ok (.lload_n 3, 1) := by decide +kernel
theorem dX8_remainder_41 : decode cX8_remainder 41 = .ok (.lreturn, 1) := by decide +kernel
theorem dX8_lowestEighteenDigits_0 : decode cX8_lowestEighteenDigits 0 = .ok (.aload_n 0, 1) := by decide +kernel
theorem dX8_lowestEighteenDigits_1 : decode cX8_lowestEighteenDigits 1 = .ok (.getfield 9, 3) := by decide +kernel
theorem dX8_lowestEighteenDigits_4 : decode cX8_lowestEighteenDigits 4 = .ok (.iconst 1, 1) := by decide +kernel
theorem dX8_lowestEighteenDigits_5 : decode cX8_lowestEighteenDigits 5 = .ok (.laload, 1) := by decide +kernel
theorem dX8_lowestEighteenDigits_6 : decode cX8_lowestEighteenDigits 6 = .ok (.ldc2_w 13, 3) := by decide +kernel
theorem dX8_lowestEighteenDigits_9 : decode cX8_lowestEighteenDigits 9 = .ok (.lmul, 1) := by decide +kernel
theorem dX8_lowestEighteenDigits_10 : decode cX8_lowestEighteenDigits 10 = .ok (.aload_n 0, 1) := by decide +kernel
theorem dX8_lowestEighteenDigits_11 : decode cX8_lowestEighteenDigits 11 = .ok (.getfield 9, 3) := by decide +kernel
theorem dX8_lowestEighteenDigits_14 : decode cX8_lowestEighteenDigits 14 = .ok (.iconst 0, 1) := by decide +kernel
theorem dX8_lowestEighteenDigits_15 : decode cX8_lowestEighteenDigits 15 = .ok (.laload, 1) := by decide +kernel
theorem dX8_lowestEighteenDigits_16 : decode cX8_lowestEighteenDigits 16 = .ok (.ladd, 1) := by decide +kernel
theorem dX8_lowestEighteenDigits_17 : decode cX8_lowestEighteenDigits 17 = .ok (.lreturn, 1) := by decide +kernel
theorem dJ6_bitCount_0f7a4_0 : decode cJ6_bitCount_0f7a4 0 = .ok (.iload_n 0, 1) := by decide +kernel
theorem dJ6_bitCount_0f7a4_1 : decode cJ6_bitCount_0f7a4 1 = .ok (.iload_n 0, 1) := by decide +kernel
theorem dJ6_bitCount_0f7a4_2 : decode cJ6_bitCount_0f7a4 2 = .ok (.iconst 1, 1) := by decide +kernel
theorem dJ6_bitCount_0f7a4_3 : decode cJ6_bitCount_0f7a4 3 = .ok (.iushr, 1) := by decide +kernel
theorem dJ6_bitCount_0f7a4_4 : decode cJ6_bitCount_0f7a4 4 = .ok (.ldc_w 265, 3) := by decide +kernel
theorem dJ6_bitCount_0f7a4_7 : decode cJ6_bitCount_0f7a4 7 = .ok (.iand, 1) := by decide +kernel
theorem dJ6_bitCount_0f7a4_8 : decode cJ6_bitCount_0f7a4 8 = .ok (.isub, 1) := by decide +kernel
theorem dJ6_bitCount_0f7a4_9 : decode cJ6_bitCount_0f7a4 9 = .ok (.istore_n 0, 1) := by decide +kernel
theorem dJ6_bitCount_0f7a4_10 : decode cJ6_bitCount_0f7a4 10 = .ok (.iload_n 0, 1) := by decide +kernel
theorem dJ6_bitCount_0f7a4_11 : decode cJ6_bitCount_0f7a4 11 = .ok (.ldc_w 266, 3) := by decide +kernel
theorem dJ6_bitCount_0f7a4_14 : decode cJ6_bitCount_0f7a4 14 = .ok (.iand, 1) := by decide +kernel
theorem dJ6_bitCount_0f7a4_15 : decode cJ6_bitCount_0f7a4 15 = .ok (.iload_n 0, 1) := by decide +kernel
theorem dJ6_bitCount_0f7a4_16 : decode cJ6_bitCount_0f7a4 16 = .ok (.iconst 2, 1) := by decide +kernel
theorem dJ6_bitCount_0f7a4_17 : decode cJ6_bitCount_0f7a4 17 = .ok (.iushr, 1) := by decide +kernel
theorem dJ6_bitCount_0f7a4_18 : decode cJ6_bitCount_0f7a4 18 = .ok (.ldc_w 266, 3) := by decide +kernel
theorem dJ6_bitCount_0f7a4_21 : decode cJ6_bitCount_0f7a4 21 = .ok (.iand, 1) := by decide +kernel
theorem dJ6_bitCount_0f7a4_22 : decode cJ6_bitCount_0f7a4 22 = .ok (.iadd, 1) := by decide +kernel
theorem dJ6_bitCount_0f7a4_23 : decode cJ6_bitCount_0f7a4 23 = .ok (.istore_n 0, 1) := by decide +kernel
theorem dJ6_bitCount_0f7a4_24 : decode cJ6_bitCount_0f7a4 24 = .ok (.iload_n 0, 1) := by decide +kernel
theorem dJ6_bitCount_0f7a4_25 : decode cJ6_bitCount_0f7a4 25 = .ok (.iload_n 0, 1) := by decide +kernel
theorem dJ6_bitCount_0f7a4_26 : decode cJ6_bitCount_0f7a4 26 = .ok (.iconst 4, 1) := by decide +kernel
theorem dJ6_bitCount_0f7a4_27 : decode cJ6_bitCount_0f7a4 27 = .ok (.iushr, 1) := by decide +kernel
theorem dJ6_bitCount_0f7a4_28 : decode cJ6_bitCount_0f7a4 28 = .ok (.iadd, 1) := by decide +kernel
theorem dJ6_bitCount_0f7a4_29 : decode cJ6_bitCount_0f7a4 29 = .ok (.ldc_w 267, 3) := by decide +kernel
theorem dJ6_bitCount_0f7a4_32 : decode cJ6_bitCount_0f7a4 32 = .ok (.iand, 1) := by decide +kernel
theorem dJ6_bitCount_0f7a4_33 : decode cJ6_bitCount_0f7a4 33 = .ok (.istore_n 0, 1) := by decide +kernel
theorem dJ6_bitCount_0f7a4_34 : decode cJ6_bitCount_0f7a4 34 = .ok (.iload_n 0, 1) := by decide +kernel
theorem dJ6_bitCount_0f7a4_35 : decode cJ6_bitCount_0f7a4 35 = .ok (.iload_n 0, 1) := by decide +kernel
theorem dJ6_bitCount_0f7a4_36 : decode cJ6_bitCount_0f7a4 36 = .ok (.bipush 8, 2) := by decide +kernel
theorem dJ6_bitCount_0f7a4_38 : decode cJ6_bitCount_0f7a4 38 = .ok (.iushr, 1) := by decide +kernel
theorem dJ6_bitCount_0f7a4_39 : decode cJ6_bitCount_0f7a4 39 = .ok (.iadd, 1) := by decide +kernel
theorem dJ6_bitCount_0f7a4_40 : decode cJ6_bitCount_0f7a4 40 = .ok (.istore_n 0, 1) := by decide +kernel
theorem dJ6_bitCount_0f7a4_41 : decode cJ6_bitCount_0f7a4 41 = .ok (.iload_n 0, 1) := by decide +kernel
theorem dJ6_bitCount_0f7a4_42 : decode cJ6_bitCount_0f7a4 42 = .ok (.iload_n 0, 1) := by decide +kernel
theorem dJ6_bitCount_0f7a4_43 : decode cJ6_bitCount_0f7a4 43 = .ok (.bipush 16, 2) := by decide +kernel
theorem dJ6_bitCount_0f7a4_45 : decode cJ6_bitCount_0f7a4 45 = .ok (.iushr, 1) := by decide +kernel
theorem dJ6_bitCount_0f7a4_46 : decode cJ6_bitCount_0f7a4 46 = .ok (.iadd, 1) := by decide +kernel
theorem dJ6_bitCount_0f7a4_47 : decode cJ6_bitCount_0f7a4 47 = .ok (.istore_n 0, 1) := by decide +kernel
theorem dJ6_bitCount_0f7a4_48 : decode cJ6_bitCount_0f7a4 48 = .ok (.iload_n 0, 1) := by decide +kernel
theorem dJ6_bitCount_0f7a4_49 : decode cJ6_bitCount_0f7a4 49 = .ok (.bipush 63, 2) := by decide +kernel
theorem dJ6_bitCount_0f7a4_51 : decode cJ6_bitCount_0f7a4 51 = .ok (.iand, 1) := by decide +kernel
theorem dJ6_bitCount_0f7a4_52 : decode cJ6_bitCount_0f7a4 52 = .ok (.ireturn, 1) := by decide +kernel
theorem dJ9_abs_067f4_0 : decode cJ9_abs_067f4 0 = .ok (.lload_n 0, 1) := by decide +kernel
theorem dJ9_abs_067f4_1 : decode cJ9_abs_067f4 1 = .ok (.lconst 0, 1) := by decide +kernel
theorem dJ9_abs_067f4_2 : decode cJ9_abs_067f4 2 = .ok (.lcmp, 1) := by decide +kernel
theorem dJ9_abs_067f4_3 : decode cJ9_abs_067f4 3 = .ok (.ifCond .ge 8, 3) := by decide +kernel
theorem dJ9_abs_067f4_6 : decode cJ9_abs_067f4 6 = .ok (.lload_n 0, 1) := by decide +kernel
theorem dJ9_abs_067f4_7 : decode cJ9_abs_067f4 7 = .ok (.lneg, 1) := by decide +kernel
theorem dJ9_abs_067f4_8 : decode cJ9_abs_067f4 8 = .ok (.goto 4, 3) := by decide +kernel
theorem dJ9_abs_067f4_11 : decode cJ9_abs_067f4 11 = .ok (.lload_n 0, 1) := by decide +kernel
theorem dJ9_abs_067f4_12 : decode cJ9_abs_067f4 12 = .ok (.lreturn, 1) := by decide +kernel
theorem dJ9_max_7cf53_0 : decode cJ9_max_7cf53 0 = .ok (.iload_n 0, 1) := by decide +kernel
theorem dJ9_max_7cf53_1 : decode cJ9_max_7cf53 1 = .ok (.iload_n 1, 1) := by decide +kernel
theorem dJ9_max_7cf53_2 : decode cJ9_max_7cf53 2 = .ok (.if_icmp .lt 7, 3) := by decide +kernel
theorem dJ9_max_7cf53_5 : decode cJ9_max_7cf53 5 = .ok (.iload_n 0, 1) := by decide +kernel
theorem dJ9_max_7cf53_6 : decode cJ9_max_7cf53 6 = .ok (.goto 4, 3) := by decide +kernel
theorem dJ9_max_7cf53_9 : decode cJ9_max_7cf53 9 = .ok (.iload_n 1, 1) := by decide +kernel
theorem dJ9_max_7cf53_10 : decode cJ9_max_7cf53 10 = .ok (.ireturn, 1) := by decide +kernel
theorem dJ9_max_f86c9_0 : decode cJ9_max_f86c9 0 = .ok (.lload_n 0, 1) := by decide +kernel
theorem dJ9_max_f86c9_1 : decode cJ9_max_f86c9 1 = .ok (.lload_n 2, 1) := by decide +kernel
theorem dJ9_max_f86c9_2 : decode cJ9_max_f86c9 2 = .ok (.lcmp, 1) := by decide +kernel
theorem dJ9_max_f86c9_3 : decode cJ9_max_f86c9 3 = .ok (.ifCond .lt 7, 3) := by decide +kernel
theorem dJ9_max_f86c9_6 : decode cJ9_max_f86c9 6 = .ok (.lload_n 0, 1) := by decide +kernel
theorem dJ9_max_f86c9_7 : decode cJ9_max_f86c9 7 = .ok (.goto 4, 3) := by decide +kernel
theorem dJ9_max_f86c9_10 : decode cJ9_max_f86c9 10 = .ok (.lload_n 2, 1) := by decide +kernel
theorem dJ9_max_f86c9_11 : decode cJ9_max_f86c9 11 = .ok (.lreturn, 1) := by decide +kernel
